/-! THE CLAIM OUT OF ONE WALK OF THE LAW'S BODY. Your part is whole_start (and what it stands on); all else here is the same for every law, but numbers. -/
def R_law : String := "WhaleTownLaw"
def lw_P (b : Addr) (xs : List Int32) (args : Array Value) (s : State) : Prop := args = #[.ref b] ∧ s.IntsAt b xs ∧ xs.length ≤ 3072 ∧ (Jvm.Cond.and given_1 narrow_1).before args s = true
def lw_Q (_ : Array Value) (s : State) (o : Outcome) (t : State) : Prop := o = .returned (some (.int 1)) ∧ Framed s o t [] 600000 7302249
def lw_Z (below : List Frame) (a : Array Value) (s : State) : State → Prop := fun t => ∃ o, t.status = .running ∧ Ended t below o ∧ lw_Q a s o t
/-- the law's own end, with 1 on the stack, nothing written that was there before, its room as the claim has it -/
theorem lw_ret {p : Program} {l : Launch} {e : Env} {s : State} {m : MethodId} {below : List Frame} {meth : Method} {c : Code} {b : Nat} (hx : p.tables.exec = Jvm.exec) (hb : c.code = code) (hr : meth.sig.returnType = ret) (hlocks : meth.locks = false) {pc : Nat} {H : Heap} {ls : Array Slot} (hdg : decode code pc = .ok (.ireturn, 1)) : W p l e room_1 s m #[Value.ref b] below meth c H [] 600000 7302249 (lw_Z below #[Value.ref b] s) (F0 m pc ls [.int 1]) := by
  intro T hT X
  obtain ⟨fs, hret, hrun, hended, hW, hframe⟩ := X.leave (v := some (.int 1)) (hlocks := hlocks) (fun h => by rw [hr] at h; cases h)
  have hmeth' : T.vm.method? m = some meth := X.method'
  refine ⟨T.setFrames fs, ?_, .returned (some (.int 1)), hrun, hended, rfl, ⟨_, rfl⟩, hW, hframe⟩
  jvm_step X.here [X.here.top, hx, hb, hdg, hmeth', hr, ret, narrow_b1]
  (try refine ⟨rfl, ?_⟩); (try refine ⟨rfl, ?_⟩)
  first | (intro acts; rw [hret _ acts rfl rfl rfl]) | rw [hret _ _ rfl rfl rfl]
  exact Steps.refl _
/-- what holds at the law's entry: the machine, the code, the tables' words (any of lw_tbl by 'hts w (by decide +kernel)'), the script of L ints xs at the cell b, what the Statement gives of the start (any of its parts by flat_of_before) -/
def lw_At (p : Program) (s : State) (m : MethodId) (meth : Method) (c : Code) (b L : Nat) (xs : Nat → Int32) : Prop :=
  p.tables.exec = Jvm.exec ∧ c.code = code ∧ meth.sig.returnType = ret ∧ c.maxLocals = 4 ∧ s.vm.findClass R_law = some m.cls ∧ (∀ w ∈ lw_tbl, w.before #[Value.ref b] s = true) ∧ va_X b L xs s s.heap ∧ b < s.heap.size ∧ meth.locks = false ∧ (Jvm.Cond.and given_1 narrow_1).before #[Value.ref b] s = true
set_option maxHeartbeats 8000000 in
set_option maxRecDepth 100000 in
theorem law_loop {p : Program} {l : Launch} {e : Env} {s : State} {m : MethodId} {below : List Frame} {meth : Method} {c : Code} {b L : Nat} {xs : Nat → Int32} (hL : L ≤ 3072) (C0 : lw_At p s m meth c b L xs) {G : GG} (hc : ctx G s) {cells slots : Nat} (hcl : cells ≤ 600000) (hsl : slots ≤ 7302249) (hX hM : Nat) (Rl : SS → SS → Prop) (sim_write : ∀ (x1 : Int32) (σ μ : SS), Rl σ μ → ∃ q r, SX_write x1 σ = some q ∧ SM_write x1 μ = some r ∧ q.1 = r.1 ∧ Rl q.2 r.2)
  (sim_wipe : ∀ (σ μ : SS), Rl σ μ → ∃ q r, SX_wipe σ = some q ∧ SM_wipe μ = some r ∧ q.1 = r.1 ∧ Rl q.2 r.2)
  (sim_fault : ∀ (σ μ : SS), Rl σ μ → ∃ q r, SX_fault σ = some q ∧ SM_fault μ = some r ∧ q.1 = r.1 ∧ Rl q.2 r.2)
  (sim_lay : ∀ (σ μ : SS), Rl σ μ → ∃ q r, SX_lay σ = some q ∧ SM_lay μ = some r ∧ q.1 = r.1 ∧ Rl q.2.1 r.2)
  (sim_sign : ∀ (x1 : Int32) (x2 : Int32) (σ μ : SS), Rl σ μ → ∃ q r, SX_sign x1 x2 σ = some q ∧ SM_sign x1 x2 μ = some r ∧ q.1 = r.1 ∧ Rl q.2 r.2)
  (sim_works : ∀ (x1 : Int32) (x2 : Int32) (σ μ : SS), Rl σ μ → ∃ q r, SX_works x1 x2 σ = some q ∧ SM_works x1 x2 μ = some r ∧ q.1 = r.1 ∧ Rl q.2 r.2)
  (sim_day : ∀ (x1 : Int32) (x2 : Int32) (σ μ : SS), Rl σ μ → ∃ q r, SX_day x1 x2 σ = some q ∧ SM_day x1 x2 μ = some r ∧ q.1 = r.1 ∧ Rl q.2 r.2)
  (sim_diary : ∀ (x1 : Int32) (x2 : Int32) (σ μ : SS), Rl σ μ → ∃ q r, SX_diary x1 x2 σ = some q ∧ SM_diary x1 x2 μ = some r ∧ q.1 = r.1 ∧ Rl q.2 r.2)
  (sim_undo : ∀ (σ μ : SS), Rl σ μ → ∃ q r, SX_undo σ = some q ∧ SM_undo μ = some r ∧ q.1 = r.1 ∧ Rl q.2 r.2)
  (sim_belief : ∀ (x1 : Int32) (x2 : Int32) (σ μ : SS), Rl σ μ → ∃ q r, SX_belief x1 x2 σ = some q ∧ SM_belief x1 x2 μ = some r ∧ q.1 = r.1 ∧ Rl q.2 r.2)
  (sim_near : ∀ (x1 : Int32) (x2 : Int32) (x3 : Int32) (σ μ : SS), Rl σ μ → ∃ q r, SX_near x1 x2 x3 σ = some q ∧ SM_near x1 x2 x3 μ = some r ∧ q.1 = r.1 ∧ Rl q.2 r.2)
  (sim_sight : ∀ (x1 : Int32) (x2 : Int32) (x3 : Int32) (σ μ : SS), Rl σ μ → ∃ q r, SX_sight x1 x2 x3 σ = some q ∧ SM_sight x1 x2 x3 μ = some r ∧ q.1 = r.1 ∧ Rl q.2 r.2)
  (sim_tells : ∀ (x1 : Int32) (σ μ : SS), Rl σ μ → ∃ q r, SX_tells x1 σ = some q ∧ SM_tells x1 μ = some r ∧ q.1 = r.1 ∧ Rl q.2 r.2)
  (sim_board : ∀ (x1 : Int32) (x2 : Int32) (σ μ : SS), Rl σ μ → ∃ q r, SX_board x1 x2 σ = some q ∧ SM_board x1 x2 μ = some r ∧ q.1 = r.1 ∧ Rl q.2 r.2)
  (sim_quiet : ∀ (x1 : Int32) (x2 : Int32) (σ μ : SS), Rl σ μ → ∃ q r, SX_quiet x1 x2 σ = some q ∧ SM_quiet x1 x2 μ = some r ∧ q.1 = r.1 ∧ Rl q.2 r.2)
  (sim_saved : ∀ (x1 : Int32) (σ μ : SS), Rl σ μ → ∃ q r, SX_saved x1 σ = some q ∧ SM_saved x1 μ = some r ∧ q.1 = r.1 ∧ Rl q.2 r.2)
  (sim_crews : ∀ (x1 : Int32) (σ μ : SS), Rl σ μ → ∃ q r, SX_crews x1 σ = some q ∧ SM_crews x1 μ = some r ∧ q.1 = r.1 ∧ Rl q.2 r.2)
  (sim_drift : ∀ (x1 : Int32) (x2 : Int32) (x3 : Int32) (x4 : Int32) (x5 : Int32) (σ μ : SS), Rl σ μ → ∃ q r, SX_drift x1 x2 x3 x4 x5 σ = some q ∧ SM_drift x1 x2 x3 x4 x5 μ = some r ∧ q.1 = r.1 ∧ Rl q.2 r.2)
  (sim_ahead : ∀ (x1 : Int32) (x2 : Int32) (σ μ : SS), Rl σ μ → ∃ q r, SX_ahead x1 x2 σ = some q ∧ SM_ahead x1 x2 μ = some r ∧ q.1 = r.1 ∧ Rl q.2 r.2)
  (sim_forget : ∀ (σ μ : SS), Rl σ μ → ∃ q r, SX_forget σ = some q ∧ SM_forget μ = some r ∧ q.1 = r.1 ∧ Rl q.2 r.2)
  (sim_first : ∀ (σ μ : SS), Rl σ μ → ∃ q r, SX_first σ = some q ∧ SM_first μ = some r ∧ q.1 = r.1 ∧ Rl q.2 r.2)
  (sim_orders : ∀ (σ μ : SS), Rl σ μ → ∃ q r, SX_orders σ = some q ∧ SM_orders μ = some r ∧ q.1 = r.1 ∧ Rl q.2 r.2)
  (sim_feigned : ∀ (σ μ : SS), Rl σ μ → ∃ q r, SX_feigned σ = some q ∧ SM_feigned μ = some r ∧ q.1 = r.1 ∧ Rl q.2 r.2)
  (sim_spring : ∀ (x1 : Int32) (x2 : Int32) (x3 : Int32) (σ μ : SS), Rl σ μ → ∃ q r, SX_spring x1 x2 x3 σ = some q ∧ SM_spring x1 x2 x3 μ = some r ∧ q.1 = r.1 ∧ Rl q.2 r.2)
  (sim_keep : ∀ (σ μ : SS), Rl σ μ → ∃ q r, SX_keep σ = some q ∧ SM_keep μ = some r ∧ q.1 = r.1 ∧ Rl q.2 r.2)
  (sim_back : ∀ (σ μ : SS), Rl σ μ → ∃ q r, SX_back σ = some q ∧ SM_back μ = some r ∧ q.1 = r.1 ∧ Rl q.2 r.2)
  (sim_count : ∀ (x1 : Int32) (σ μ : SS), Rl σ μ → ∃ q r, SX_count x1 σ = some q ∧ SM_count x1 μ = some r ∧ q.1 = r.1 ∧ Rl q.2 r.2) :
    ∀ (n i : Nat) (x3 : Int32), i ≤ L → L < i + n → x3 = nI i → ∀ (xd md : Nat → Nat → Nat) (σ μ : SS), Rl σ μ → ∀ (ls : Array Slot) (H : Heap) (locs : List Loc), lv_has ls 4 [(0, .ref b), (1, .ref hX), (2, .ref hM), (3, .int x3)] → Wd G (fun q : Nat => s.heap.size ≤ q) s.heap (XW G hX xd σ ++ MW G hM md μ) H locs → W p l e room_1 s m #[Value.ref b] below meth c H locs cells slots (lw_Z below #[Value.ref b] s) (F0 m 18 ls []) := by
  obtain ⟨hx, hb, hr, hml, hown, hts, hXs, hbl, hlocks, hgv⟩ := C0
  have hown : s.vm.findClass RL = some m.cls := hown
  have hg : ∀ w ∈ GOODS, w.before #[Value.ref b] s = true := fun w h => hts w (List.mem_filter.mp h).1
  have hA : ∀ q : Nat, s.heap.size ≤ q → (fun q : Nat => s.heap.size ≤ q) q := fun _ h => h
  have hbA : ¬ (fun q : Nat => s.heap.size ≤ q) b := Nat.not_le.mpr hbl
  have hfit : cells + 0 ≤ room_1.cells ∧ slots + 0 ≤ room_1.slots := ⟨hcl, hsl⟩
  intro n
  induction n with
  | zero => intro i x3 h1 h2; exact absurd h2 (by omega)
  | succ n ih =>
    intro i x3 hi hn e3 xd md σ μ hR ls H locs hl hW
    subst e3
    refine lv_iload_n hx hb dL_law_18 rfl (lv_at hl 3 rfl) ?_
    refine lv_aload_n hx hb dL_law_19 rfl (lv_at hl 0 rfl) ?_
    refine va_slen hx hb hXs hbl hbA hW.2.2 dL_law_20 ?_
    refine lv_bipush (v := 6) hx hb dL_law_21 (by decide) ?_
    refine lv_isub hx hb dL_law_23 ?_
    have e6 : (Int32.ofNat L - 6).toInt = (L : Int) - 6 := pk_sub_toInt (a := L) (b := 6) (by omega) (by omega)
    have ei : (nI i).toInt = (i : Int) := nI_toInt (by omega)
    refine lv_icmp_gt (tgt := 867) hx hb dL_law_24 (by decide) (fun c_24 => ?_) (fun c_24 => ?_)
    · refine lv_iconst (v := 1) hx hb dL_law_867 (by decide) ?_
      refine va_forget hW.2.2.2.2 ?_
      refine W.widen (k := 600000) (n := 7302249) hcl hsl ?_
      exact lw_ret hx hb hr hlocks dL_law_868
    · have hlt : i + 6 ≤ L := by
        have h9 : ¬ ((Int32.ofNat L - 6).toInt < (nI i).toInt) := fun h => c_24 (Int32.lt_iff_toInt_lt.mpr h)
        rw [e6, ei] at h9; omega
      have v0 : vp_in (nI i) L := vp_in_nI (by omega) (by omega)
      have v1 : vp_in (nI i + 1) L := by rw [show nI i + 1 = nI (i + 1) from nI_add i 1]; exact vp_in_nI (by omega) (by omega)
      have v2 : vp_in (nI i + 2) L := by rw [show nI i + 2 = nI (i + 2) from nI_add i 2]; exact vp_in_nI (by omega) (by omega)
      have v3 : vp_in (nI i + 3) L := by rw [show nI i + 3 = nI (i + 3) from nI_add i 3]; exact vp_in_nI (by omega) (by omega)
      have v4 : vp_in (nI i + 4) L := by rw [show nI i + 4 = nI (i + 4) from nI_add i 4]; exact vp_in_nI (by omega) (by omega)
      have v5 : vp_in (nI i + 5) L := by rw [show nI i + 5 = nI (i + 5) from nI_add i 5]; exact vp_in_nI (by omega) (by omega)
      have back : ∀ (xd md : Nat → Nat → Nat) (σ μ : SS), Rl σ μ → ∀ (ls : Array Slot) (H : Heap) (locs : List Loc), lv_has ls 4 [(0, .ref b), (1, .ref hX), (2, .ref hM), (3, .int (nI i))] → Wd G (fun q : Nat => s.heap.size ≤ q) s.heap (XW G hX xd σ ++ MW G hM md μ) H locs → W p l e room_1 s m #[Value.ref b] below meth c H locs cells slots (lw_Z below #[Value.ref b] s) (F0 m 861 ls []) := by
        intro xd md σ μ hR ls H locs hl hW
        refine lv_iinc (v := nI i + 6) (lv' := [(3, .int (nI i + 6)), (0, .ref b), (1, .ref hX), (2, .ref hM)]) hx hb dL_law_861 hl (k := 3) rfl rfl (by decide) rfl (fun ls hl => ?_)
        refine lv_goto (tgt := 18) hx hb dL_law_864 (by decide) ?_
        exact ih (i + 6) (nI i + 6) hlt (by omega) (nI_add i 6) xd md σ μ hR _ _ _ (lv_sub hl [1, 2, 3, 0] rfl) hW
      refine lv_aload_n hx hb dL_law_27 rfl (lv_at hl 0 rfl) ?_
      refine lv_iload_n hx hb dL_law_28 rfl (lv_at hl 3 rfl) ?_
      refine va_sld hx hb hXs hbl hbA hW.2.2 v0 dL_law_29 ?_
      refine lv_bipush (v := 31) hx hb dL_law_30 (by decide) ?_
      refine lv_iand hx hb dL_law_32 ?_
      generalize hsw : (xs (nI i).toNatClampNeg &&& 31) = sw
      by_cases w_0 : sw = 0
      · refine lv_tableIn (off := 123) (tgt := 156) hx hb dL_law_33 (by rw [w_0]; decide +kernel) (by rw [w_0]; decide +kernel) (by rw [w_0]; decide +kernel) (by decide) ?_
        refine lv_aload_n hx hb dL_law_156 rfl (lv_at hl 1 rfl) ?_
        refine lv_aload_n hx hb dL_law_157 rfl (lv_at hl 0 rfl) ?_
        refine lv_iload_n hx hb dL_law_158 rfl (lv_at hl 3 rfl) ?_
        refine lv_iconst (v := 1) hx hb dL_law_159 (by decide) ?_
        refine lv_iadd hx hb dL_law_160 ?_
        refine va_sld hx hb hXs hbl hbA hW.2.2 v1 dL_law_161 ?_
        obtain ⟨q, r, hq, hr2, he, hR2⟩ := sim_write ((xs (nI i + 1).toNatClampNeg)) σ μ hR
        refine lawXI (va_runV (As := [.int (xs (nI i + 1).toNatClampNeg)]) (rest := []) ⟨hx, hb, hml, hown, hg⟩ (pSX_write l G ((xs (nI i + 1).toNatClampNeg)) hX xd σ q hq H.size) (cwV 1 hg (gV wd_2_136 wd_2_137 wd_2_138 wd_1_1 wd_2_139) rfl rfl rfl hdV_X9_write ⟨(Nat.le_of_ble_eq_true rfl), (Nat.le_of_ble_eq_true rfl)⟩) (lawPreX hc hW) rfl rfl hl.1 rfl (lv_room (Nat.le_of_ble_eq_true rfl)) dL_law_162 hfit) hA hW (fun H locs hW => ?_)
        refine lv_aload_n hx hb dL_law_165 rfl (lv_at hl 2 rfl) ?_
        refine lv_aload_n hx hb dL_law_166 rfl (lv_at hl 0 rfl) ?_
        refine lv_iload_n hx hb dL_law_167 rfl (lv_at hl 3 rfl) ?_
        refine lv_iconst (v := 1) hx hb dL_law_168 (by decide) ?_
        refine lv_iadd hx hb dL_law_169 ?_
        refine va_sld hx hb hXs hbl hbA hW.2.2 v1 dL_law_170 ?_
        refine lawMI (va_runV (As := [.int (xs (nI i + 1).toNatClampNeg)]) (rest := [.int q.1]) ⟨hx, hb, hml, hown, hg⟩ (pSM_write l G ((xs (nI i + 1).toNatClampNeg)) hM md μ r hr2 H.size) (cwV 1 hg (gV wd_4_132 wd_4_133 wd_4_134 wd_1_15 wd_4_135) rfl rfl rfl hdV_X10_write ⟨(Nat.le_of_ble_eq_true rfl), (Nat.le_of_ble_eq_true rfl)⟩) (lawPreM hc hW) rfl rfl hl.1 rfl (lv_room (Nat.le_of_ble_eq_true rfl)) dL_law_171 hfit) hA hW (fun H locs hW => ?_)
        refine lv_icmp_eq (tgt := 861) hx hb dL_law_174 (by decide) (fun c_e => ?_) (fun c_e => ?_)
        · exact back xd md q.2 r.2 hR2 _ _ _ hl hW
        · exact absurd he c_e
      by_cases w_1 : sw = 1
      · refine lv_tableIn (off := 146) (tgt := 179) hx hb dL_law_33 (by rw [w_1]; decide +kernel) (by rw [w_1]; decide +kernel) (by rw [w_1]; decide +kernel) (by decide) ?_
        refine lv_aload_n hx hb dL_law_179 rfl (lv_at hl 1 rfl) ?_
        obtain ⟨q, r, hq, hr2, he, hR2⟩ := sim_wipe σ μ hR
        refine lawXI (va_runV (As := []) (rest := []) ⟨hx, hb, hml, hown, hg⟩ (pSX_wipe l G hX xd σ q hq H.size) (cwV 0 hg (gV wd_2_141 wd_2_142 wd_2_143 wd_1_1 wd_2_144) rfl rfl rfl hdV_X9_wipe ⟨(Nat.le_of_ble_eq_true rfl), (Nat.le_of_ble_eq_true rfl)⟩) (lawPreX hc hW) rfl rfl hl.1 rfl (lv_room (Nat.le_of_ble_eq_true rfl)) dL_law_180 hfit) hA hW (fun H locs hW => ?_)
        refine lv_aload_n hx hb dL_law_183 rfl (lv_at hl 2 rfl) ?_
        refine lawMI (va_runV (As := []) (rest := [.int q.1]) ⟨hx, hb, hml, hown, hg⟩ (pSM_wipe l G hM md μ r hr2 H.size) (cwV 0 hg (gV wd_4_139 wd_4_140 wd_4_141 wd_1_15 wd_4_142) rfl rfl rfl hdV_X10_wipe ⟨(Nat.le_of_ble_eq_true rfl), (Nat.le_of_ble_eq_true rfl)⟩) (lawPreM hc hW) rfl rfl hl.1 rfl (lv_room (Nat.le_of_ble_eq_true rfl)) dL_law_184 hfit) hA hW (fun H locs hW => ?_)
        refine lv_icmp_eq (tgt := 861) hx hb dL_law_187 (by decide) (fun c_e => ?_) (fun c_e => ?_)
        · exact back xd md q.2 r.2 hR2 _ _ _ hl hW
        · exact absurd he c_e
      by_cases w_2 : sw = 2
      · refine lv_tableIn (off := 159) (tgt := 192) hx hb dL_law_33 (by rw [w_2]; decide +kernel) (by rw [w_2]; decide +kernel) (by rw [w_2]; decide +kernel) (by decide) ?_
        refine lv_aload_n hx hb dL_law_192 rfl (lv_at hl 1 rfl) ?_
        obtain ⟨q, r, hq, hr2, he, hR2⟩ := sim_fault σ μ hR
        refine lawXI (va_runV (As := []) (rest := []) ⟨hx, hb, hml, hown, hg⟩ (pSX_fault l G hX xd σ q hq H.size) (cwV 0 hg (gV wd_2_145 wd_2_146 wd_2_147 wd_1_1 wd_2_148) rfl rfl rfl hdV_X9_fault ⟨(Nat.le_of_ble_eq_true rfl), (Nat.le_of_ble_eq_true rfl)⟩) (lawPreX hc hW) rfl rfl hl.1 rfl (lv_room (Nat.le_of_ble_eq_true rfl)) dL_law_193 hfit) hA hW (fun H locs hW => ?_)
        refine lv_aload_n hx hb dL_law_196 rfl (lv_at hl 2 rfl) ?_
        refine lawMI (va_runV (As := []) (rest := [.int q.1]) ⟨hx, hb, hml, hown, hg⟩ (pSM_fault l G hM md μ r hr2 H.size) (cwV 0 hg (gV wd_4_143 wd_4_144 wd_4_145 wd_1_15 wd_4_146) rfl rfl rfl hdV_X10_fault ⟨(Nat.le_of_ble_eq_true rfl), (Nat.le_of_ble_eq_true rfl)⟩) (lawPreM hc hW) rfl rfl hl.1 rfl (lv_room (Nat.le_of_ble_eq_true rfl)) dL_law_197 hfit) hA hW (fun H locs hW => ?_)
        refine lv_icmp_eq (tgt := 861) hx hb dL_law_200 (by decide) (fun c_e => ?_) (fun c_e => ?_)
        · exact back xd md q.2 r.2 hR2 _ _ _ hl hW
        · exact absurd he c_e
      by_cases w_3 : sw = 3
      · refine lv_tableIn (off := 172) (tgt := 205) hx hb dL_law_33 (by rw [w_3]; decide +kernel) (by rw [w_3]; decide +kernel) (by rw [w_3]; decide +kernel) (by decide) ?_
        refine lv_aload_n hx hb dL_law_205 rfl (lv_at hl 1 rfl) ?_
        obtain ⟨q, r, hq, hr2, he, hR2⟩ := sim_lay σ μ hR
        refine lawXI (va_runV (As := []) (rest := []) ⟨hx, hb, hml, hown, hg⟩ (pSX_lay l G hX xd σ q hq H.size) (cwV 0 hg (gV wd_2_149 wd_2_150 wd_2_151 wd_1_1 wd_2_152) rfl rfl rfl hdV_X9_lay ⟨(Nat.le_of_ble_eq_true rfl), (Nat.le_of_ble_eq_true rfl)⟩) (lawPreX hc hW) rfl rfl hl.1 rfl (lv_room (Nat.le_of_ble_eq_true rfl)) dL_law_206 hfit) hA hW (fun H locs hW => ?_)
        refine lv_aload_n hx hb dL_law_209 rfl (lv_at hl 2 rfl) ?_
        refine lawMI (va_runV (As := []) (rest := [.int q.1]) ⟨hx, hb, hml, hown, hg⟩ (pSM_lay l G hM md μ r hr2 H.size) (cwV 0 hg (gV wd_4_159 wd_4_160 wd_4_161 wd_1_15 wd_4_162) rfl rfl rfl hdV_X10_lay ⟨(Nat.le_of_ble_eq_true rfl), (Nat.le_of_ble_eq_true rfl)⟩) (lawPreM hc hW) rfl rfl hl.1 rfl (lv_room (Nat.le_of_ble_eq_true rfl)) dL_law_210 hfit) hA hW (fun H locs hW => ?_)
        refine lv_icmp_eq (tgt := 861) hx hb dL_law_213 (by decide) (fun c_e => ?_) (fun c_e => ?_)
        · exact back (bif q.2.2 then swd xd else xd) md q.2.1 r.2 hR2 _ _ _ hl hW
        · exact absurd he c_e
      by_cases w_4 : sw = 4
      · refine lv_tableIn (off := 185) (tgt := 218) hx hb dL_law_33 (by rw [w_4]; decide +kernel) (by rw [w_4]; decide +kernel) (by rw [w_4]; decide +kernel) (by decide) ?_
        refine lv_aload_n hx hb dL_law_218 rfl (lv_at hl 1 rfl) ?_
        refine lv_aload_n hx hb dL_law_219 rfl (lv_at hl 0 rfl) ?_
        refine lv_iload_n hx hb dL_law_220 rfl (lv_at hl 3 rfl) ?_
        refine lv_iconst (v := 1) hx hb dL_law_221 (by decide) ?_
        refine lv_iadd hx hb dL_law_222 ?_
        refine va_sld hx hb hXs hbl hbA hW.2.2 v1 dL_law_223 ?_
        refine lv_aload_n hx hb dL_law_224 rfl (lv_at hl 0 rfl) ?_
        refine lv_iload_n hx hb dL_law_225 rfl (lv_at hl 3 rfl) ?_
        refine lv_iconst (v := 2) hx hb dL_law_226 (by decide) ?_
        refine lv_iadd hx hb dL_law_227 ?_
        refine va_sld hx hb hXs hbl hbA hW.2.2 v2 dL_law_228 ?_
        obtain ⟨q, r, hq, hr2, he, hR2⟩ := sim_sign ((xs (nI i + 1).toNatClampNeg)) ((xs (nI i + 2).toNatClampNeg)) σ μ hR
        refine lawXI (va_runV (As := [.int (xs (nI i + 1).toNatClampNeg), .int (xs (nI i + 2).toNatClampNeg)]) (rest := []) ⟨hx, hb, hml, hown, hg⟩ (pSX_sign l G ((xs (nI i + 1).toNatClampNeg)) ((xs (nI i + 2).toNatClampNeg)) hX xd σ q hq H.size) (cwV 2 hg (gV wd_2_153 wd_2_154 wd_2_155 wd_1_1 wd_2_156) rfl rfl rfl hdV_X9_sign ⟨(Nat.le_of_ble_eq_true rfl), (Nat.le_of_ble_eq_true rfl)⟩) (lawPreX hc hW) rfl rfl hl.1 rfl (lv_room (Nat.le_of_ble_eq_true rfl)) dL_law_229 hfit) hA hW (fun H locs hW => ?_)
        refine lv_aload_n hx hb dL_law_232 rfl (lv_at hl 2 rfl) ?_
        refine lv_aload_n hx hb dL_law_233 rfl (lv_at hl 0 rfl) ?_
        refine lv_iload_n hx hb dL_law_234 rfl (lv_at hl 3 rfl) ?_
        refine lv_iconst (v := 1) hx hb dL_law_235 (by decide) ?_
        refine lv_iadd hx hb dL_law_236 ?_
        refine va_sld hx hb hXs hbl hbA hW.2.2 v1 dL_law_237 ?_
        refine lv_aload_n hx hb dL_law_238 rfl (lv_at hl 0 rfl) ?_
        refine lv_iload_n hx hb dL_law_239 rfl (lv_at hl 3 rfl) ?_
        refine lv_iconst (v := 2) hx hb dL_law_240 (by decide) ?_
        refine lv_iadd hx hb dL_law_241 ?_
        refine va_sld hx hb hXs hbl hbA hW.2.2 v2 dL_law_242 ?_
        refine lawMI (va_runV (As := [.int (xs (nI i + 1).toNatClampNeg), .int (xs (nI i + 2).toNatClampNeg)]) (rest := [.int q.1]) ⟨hx, hb, hml, hown, hg⟩ (pSM_sign l G ((xs (nI i + 1).toNatClampNeg)) ((xs (nI i + 2).toNatClampNeg)) hM md μ r hr2 H.size) (cwV 2 hg (gV wd_4_164 wd_4_165 wd_4_166 wd_1_15 wd_4_167) rfl rfl rfl hdV_X10_sign ⟨(Nat.le_of_ble_eq_true rfl), (Nat.le_of_ble_eq_true rfl)⟩) (lawPreM hc hW) rfl rfl hl.1 rfl (lv_room (Nat.le_of_ble_eq_true rfl)) dL_law_243 hfit) hA hW (fun H locs hW => ?_)
        refine lv_icmp_eq (tgt := 861) hx hb dL_law_246 (by decide) (fun c_e => ?_) (fun c_e => ?_)
        · exact back xd md q.2 r.2 hR2 _ _ _ hl hW
        · exact absurd he c_e
      by_cases w_5 : sw = 5
      · refine lv_tableIn (off := 218) (tgt := 251) hx hb dL_law_33 (by rw [w_5]; decide +kernel) (by rw [w_5]; decide +kernel) (by rw [w_5]; decide +kernel) (by decide) ?_
        refine lv_aload_n hx hb dL_law_251 rfl (lv_at hl 1 rfl) ?_
        refine lv_aload_n hx hb dL_law_252 rfl (lv_at hl 0 rfl) ?_
        refine lv_iload_n hx hb dL_law_253 rfl (lv_at hl 3 rfl) ?_
        refine lv_iconst (v := 1) hx hb dL_law_254 (by decide) ?_
        refine lv_iadd hx hb dL_law_255 ?_
        refine va_sld hx hb hXs hbl hbA hW.2.2 v1 dL_law_256 ?_
        refine lv_aload_n hx hb dL_law_257 rfl (lv_at hl 0 rfl) ?_
        refine lv_iload_n hx hb dL_law_258 rfl (lv_at hl 3 rfl) ?_
        refine lv_iconst (v := 2) hx hb dL_law_259 (by decide) ?_
        refine lv_iadd hx hb dL_law_260 ?_
        refine va_sld hx hb hXs hbl hbA hW.2.2 v2 dL_law_261 ?_
        obtain ⟨q, r, hq, hr2, he, hR2⟩ := sim_works ((xs (nI i + 1).toNatClampNeg)) ((xs (nI i + 2).toNatClampNeg)) σ μ hR
        refine lawXI (va_runV (As := [.int (xs (nI i + 1).toNatClampNeg), .int (xs (nI i + 2).toNatClampNeg)]) (rest := []) ⟨hx, hb, hml, hown, hg⟩ (pSX_works l G ((xs (nI i + 1).toNatClampNeg)) ((xs (nI i + 2).toNatClampNeg)) hX xd σ q hq H.size) (cwV 2 hg (gV wd_2_162 wd_2_163 wd_2_164 wd_1_1 wd_2_165) rfl rfl rfl hdV_X9_works ⟨(Nat.le_of_ble_eq_true rfl), (Nat.le_of_ble_eq_true rfl)⟩) (lawPreX hc hW) rfl rfl hl.1 rfl (lv_room (Nat.le_of_ble_eq_true rfl)) dL_law_262 hfit) hA hW (fun H locs hW => ?_)
        refine lv_aload_n hx hb dL_law_265 rfl (lv_at hl 2 rfl) ?_
        refine lv_aload_n hx hb dL_law_266 rfl (lv_at hl 0 rfl) ?_
        refine lv_iload_n hx hb dL_law_267 rfl (lv_at hl 3 rfl) ?_
        refine lv_iconst (v := 1) hx hb dL_law_268 (by decide) ?_
        refine lv_iadd hx hb dL_law_269 ?_
        refine va_sld hx hb hXs hbl hbA hW.2.2 v1 dL_law_270 ?_
        refine lv_aload_n hx hb dL_law_271 rfl (lv_at hl 0 rfl) ?_
        refine lv_iload_n hx hb dL_law_272 rfl (lv_at hl 3 rfl) ?_
        refine lv_iconst (v := 2) hx hb dL_law_273 (by decide) ?_
        refine lv_iadd hx hb dL_law_274 ?_
        refine va_sld hx hb hXs hbl hbA hW.2.2 v2 dL_law_275 ?_
        refine lawMI (va_runV (As := [.int (xs (nI i + 1).toNatClampNeg), .int (xs (nI i + 2).toNatClampNeg)]) (rest := [.int q.1]) ⟨hx, hb, hml, hown, hg⟩ (pSM_works l G ((xs (nI i + 1).toNatClampNeg)) ((xs (nI i + 2).toNatClampNeg)) hM md μ r hr2 H.size) (cwV 2 hg (gV wd_4_172 wd_4_173 wd_4_174 wd_1_15 wd_4_175) rfl rfl rfl hdV_X10_works ⟨(Nat.le_of_ble_eq_true rfl), (Nat.le_of_ble_eq_true rfl)⟩) (lawPreM hc hW) rfl rfl hl.1 rfl (lv_room (Nat.le_of_ble_eq_true rfl)) dL_law_276 hfit) hA hW (fun H locs hW => ?_)
        refine lv_icmp_eq (tgt := 861) hx hb dL_law_279 (by decide) (fun c_e => ?_) (fun c_e => ?_)
        · exact back xd md q.2 r.2 hR2 _ _ _ hl hW
        · exact absurd he c_e
      by_cases w_6 : sw = 6
      · refine lv_tableIn (off := 251) (tgt := 284) hx hb dL_law_33 (by rw [w_6]; decide +kernel) (by rw [w_6]; decide +kernel) (by rw [w_6]; decide +kernel) (by decide) ?_
        refine lv_aload_n hx hb dL_law_284 rfl (lv_at hl 1 rfl) ?_
        refine lv_aload_n hx hb dL_law_285 rfl (lv_at hl 0 rfl) ?_
        refine lv_iload_n hx hb dL_law_286 rfl (lv_at hl 3 rfl) ?_
        refine lv_iconst (v := 1) hx hb dL_law_287 (by decide) ?_
        refine lv_iadd hx hb dL_law_288 ?_
        refine va_sld hx hb hXs hbl hbA hW.2.2 v1 dL_law_289 ?_
        refine lv_aload_n hx hb dL_law_290 rfl (lv_at hl 0 rfl) ?_
        refine lv_iload_n hx hb dL_law_291 rfl (lv_at hl 3 rfl) ?_
        refine lv_iconst (v := 2) hx hb dL_law_292 (by decide) ?_
        refine lv_iadd hx hb dL_law_293 ?_
        refine va_sld hx hb hXs hbl hbA hW.2.2 v2 dL_law_294 ?_
        obtain ⟨q, r, hq, hr2, he, hR2⟩ := sim_day ((xs (nI i + 1).toNatClampNeg)) ((xs (nI i + 2).toNatClampNeg)) σ μ hR
        refine lawXI (va_runV (As := [.int (xs (nI i + 1).toNatClampNeg), .int (xs (nI i + 2).toNatClampNeg)]) (rest := []) ⟨hx, hb, hml, hown, hg⟩ (pSX_day l G ((xs (nI i + 1).toNatClampNeg)) ((xs (nI i + 2).toNatClampNeg)) hX xd σ q hq H.size) (cwV 2 hg (gV wd_2_186 wd_2_187 wd_2_188 wd_1_1 wd_2_189) rfl rfl rfl hdV_X9_day ⟨(Nat.le_of_ble_eq_true rfl), (Nat.le_of_ble_eq_true rfl)⟩) (lawPreX hc hW) rfl rfl hl.1 rfl (lv_room (Nat.le_of_ble_eq_true rfl)) dL_law_295 hfit) hA hW (fun H locs hW => ?_)
        refine lv_aload_n hx hb dL_law_298 rfl (lv_at hl 2 rfl) ?_
        refine lv_aload_n hx hb dL_law_299 rfl (lv_at hl 0 rfl) ?_
        refine lv_iload_n hx hb dL_law_300 rfl (lv_at hl 3 rfl) ?_
        refine lv_iconst (v := 1) hx hb dL_law_301 (by decide) ?_
        refine lv_iadd hx hb dL_law_302 ?_
        refine va_sld hx hb hXs hbl hbA hW.2.2 v1 dL_law_303 ?_
        refine lv_aload_n hx hb dL_law_304 rfl (lv_at hl 0 rfl) ?_
        refine lv_iload_n hx hb dL_law_305 rfl (lv_at hl 3 rfl) ?_
        refine lv_iconst (v := 2) hx hb dL_law_306 (by decide) ?_
        refine lv_iadd hx hb dL_law_307 ?_
        refine va_sld hx hb hXs hbl hbA hW.2.2 v2 dL_law_308 ?_
        refine lawMI (va_runV (As := [.int (xs (nI i + 1).toNatClampNeg), .int (xs (nI i + 2).toNatClampNeg)]) (rest := [.int q.1]) ⟨hx, hb, hml, hown, hg⟩ (pSM_day l G ((xs (nI i + 1).toNatClampNeg)) ((xs (nI i + 2).toNatClampNeg)) hM md μ r hr2 H.size) (cwV 2 hg (gV wd_4_188 wd_4_189 wd_4_190 wd_1_15 wd_4_191) rfl rfl rfl hdV_X10_day ⟨(Nat.le_of_ble_eq_true rfl), (Nat.le_of_ble_eq_true rfl)⟩) (lawPreM hc hW) rfl rfl hl.1 rfl (lv_room (Nat.le_of_ble_eq_true rfl)) dL_law_309 hfit) hA hW (fun H locs hW => ?_)
        refine lv_icmp_eq (tgt := 861) hx hb dL_law_312 (by decide) (fun c_e => ?_) (fun c_e => ?_)
        · exact back xd md q.2 r.2 hR2 _ _ _ hl hW
        · exact absurd he c_e
      by_cases w_7 : sw = 7
      · refine lv_tableIn (off := 284) (tgt := 317) hx hb dL_law_33 (by rw [w_7]; decide +kernel) (by rw [w_7]; decide +kernel) (by rw [w_7]; decide +kernel) (by decide) ?_
        refine lv_aload_n hx hb dL_law_317 rfl (lv_at hl 1 rfl) ?_
        refine lv_aload_n hx hb dL_law_318 rfl (lv_at hl 0 rfl) ?_
        refine lv_iload_n hx hb dL_law_319 rfl (lv_at hl 3 rfl) ?_
        refine lv_iconst (v := 1) hx hb dL_law_320 (by decide) ?_
        refine lv_iadd hx hb dL_law_321 ?_
        refine va_sld hx hb hXs hbl hbA hW.2.2 v1 dL_law_322 ?_
        refine lv_aload_n hx hb dL_law_323 rfl (lv_at hl 0 rfl) ?_
        refine lv_iload_n hx hb dL_law_324 rfl (lv_at hl 3 rfl) ?_
        refine lv_iconst (v := 2) hx hb dL_law_325 (by decide) ?_
        refine lv_iadd hx hb dL_law_326 ?_
        refine va_sld hx hb hXs hbl hbA hW.2.2 v2 dL_law_327 ?_
        obtain ⟨q, r, hq, hr2, he, hR2⟩ := sim_diary ((xs (nI i + 1).toNatClampNeg)) ((xs (nI i + 2).toNatClampNeg)) σ μ hR
        refine lawXI (va_runV (As := [.int (xs (nI i + 1).toNatClampNeg), .int (xs (nI i + 2).toNatClampNeg)]) (rest := []) ⟨hx, hb, hml, hown, hg⟩ (pSX_diary l G ((xs (nI i + 1).toNatClampNeg)) ((xs (nI i + 2).toNatClampNeg)) hX xd σ q hq H.size) (cwV 2 hg (gV wd_2_195 wd_2_196 wd_2_197 wd_1_1 wd_2_198) rfl rfl rfl hdV_X9_diary ⟨(Nat.le_of_ble_eq_true rfl), (Nat.le_of_ble_eq_true rfl)⟩) (lawPreX hc hW) rfl rfl hl.1 rfl (lv_room (Nat.le_of_ble_eq_true rfl)) dL_law_328 hfit) hA hW (fun H locs hW => ?_)
        refine lv_aload_n hx hb dL_law_331 rfl (lv_at hl 2 rfl) ?_
        refine lv_aload_n hx hb dL_law_332 rfl (lv_at hl 0 rfl) ?_
        refine lv_iload_n hx hb dL_law_333 rfl (lv_at hl 3 rfl) ?_
        refine lv_iconst (v := 1) hx hb dL_law_334 (by decide) ?_
        refine lv_iadd hx hb dL_law_335 ?_
        refine va_sld hx hb hXs hbl hbA hW.2.2 v1 dL_law_336 ?_
        refine lv_aload_n hx hb dL_law_337 rfl (lv_at hl 0 rfl) ?_
        refine lv_iload_n hx hb dL_law_338 rfl (lv_at hl 3 rfl) ?_
        refine lv_iconst (v := 2) hx hb dL_law_339 (by decide) ?_
        refine lv_iadd hx hb dL_law_340 ?_
        refine va_sld hx hb hXs hbl hbA hW.2.2 v2 dL_law_341 ?_
        refine lawMI (va_runV (As := [.int (xs (nI i + 1).toNatClampNeg), .int (xs (nI i + 2).toNatClampNeg)]) (rest := [.int q.1]) ⟨hx, hb, hml, hown, hg⟩ (pSM_diary l G ((xs (nI i + 1).toNatClampNeg)) ((xs (nI i + 2).toNatClampNeg)) hM md μ r hr2 H.size) (cwV 2 hg (gV wd_4_192 wd_4_193 wd_4_194 wd_1_15 wd_4_195) rfl rfl rfl hdV_X10_diary ⟨(Nat.le_of_ble_eq_true rfl), (Nat.le_of_ble_eq_true rfl)⟩) (lawPreM hc hW) rfl rfl hl.1 rfl (lv_room (Nat.le_of_ble_eq_true rfl)) dL_law_342 hfit) hA hW (fun H locs hW => ?_)
        refine lv_icmp_eq (tgt := 861) hx hb dL_law_345 (by decide) (fun c_e => ?_) (fun c_e => ?_)
        · exact back xd md q.2 r.2 hR2 _ _ _ hl hW
        · exact absurd he c_e
      by_cases w_8 : sw = 8
      · refine lv_tableIn (off := 317) (tgt := 350) hx hb dL_law_33 (by rw [w_8]; decide +kernel) (by rw [w_8]; decide +kernel) (by rw [w_8]; decide +kernel) (by decide) ?_
        refine lv_aload_n hx hb dL_law_350 rfl (lv_at hl 1 rfl) ?_
        obtain ⟨q, r, hq, hr2, he, hR2⟩ := sim_undo σ μ hR
        refine lawXI (va_runV (As := []) (rest := []) ⟨hx, hb, hml, hown, hg⟩ (pSX_undo l G hX xd σ q hq H.size) (cwV 0 hg (gV wd_2_208 wd_2_209 wd_2_210 wd_1_1 wd_2_211) rfl rfl rfl hdV_X9_undo ⟨(Nat.le_of_ble_eq_true rfl), (Nat.le_of_ble_eq_true rfl)⟩) (lawPreX hc hW) rfl rfl hl.1 rfl (lv_room (Nat.le_of_ble_eq_true rfl)) dL_law_351 hfit) hA hW (fun H locs hW => ?_)
        refine lv_aload_n hx hb dL_law_354 rfl (lv_at hl 2 rfl) ?_
        refine lawMI (va_runV (As := []) (rest := [.int q.1]) ⟨hx, hb, hml, hown, hg⟩ (pSM_undo l G hM md μ r hr2 H.size) (cwV 0 hg (gV wd_4_196 wd_4_197 wd_4_198 wd_1_15 wd_4_199) rfl rfl rfl hdV_X10_undo ⟨(Nat.le_of_ble_eq_true rfl), (Nat.le_of_ble_eq_true rfl)⟩) (lawPreM hc hW) rfl rfl hl.1 rfl (lv_room (Nat.le_of_ble_eq_true rfl)) dL_law_355 hfit) hA hW (fun H locs hW => ?_)
        refine lv_icmp_eq (tgt := 861) hx hb dL_law_358 (by decide) (fun c_e => ?_) (fun c_e => ?_)
        · exact back xd md q.2 r.2 hR2 _ _ _ hl hW
        · exact absurd he c_e
      by_cases w_9 : sw = 9
      · refine lv_tableIn (off := 330) (tgt := 363) hx hb dL_law_33 (by rw [w_9]; decide +kernel) (by rw [w_9]; decide +kernel) (by rw [w_9]; decide +kernel) (by decide) ?_
        refine lv_aload_n hx hb dL_law_363 rfl (lv_at hl 1 rfl) ?_
        refine lv_aload_n hx hb dL_law_364 rfl (lv_at hl 0 rfl) ?_
        refine lv_iload_n hx hb dL_law_365 rfl (lv_at hl 3 rfl) ?_
        refine lv_iconst (v := 1) hx hb dL_law_366 (by decide) ?_
        refine lv_iadd hx hb dL_law_367 ?_
        refine va_sld hx hb hXs hbl hbA hW.2.2 v1 dL_law_368 ?_
        refine lv_aload_n hx hb dL_law_369 rfl (lv_at hl 0 rfl) ?_
        refine lv_iload_n hx hb dL_law_370 rfl (lv_at hl 3 rfl) ?_
        refine lv_iconst (v := 2) hx hb dL_law_371 (by decide) ?_
        refine lv_iadd hx hb dL_law_372 ?_
        refine va_sld hx hb hXs hbl hbA hW.2.2 v2 dL_law_373 ?_
        obtain ⟨q, r, hq, hr2, he, hR2⟩ := sim_belief ((xs (nI i + 1).toNatClampNeg)) ((xs (nI i + 2).toNatClampNeg)) σ μ hR
        refine lawXJ (va_runV (As := [.int (xs (nI i + 1).toNatClampNeg), .int (xs (nI i + 2).toNatClampNeg)]) (rest := []) ⟨hx, hb, hml, hown, hg⟩ (pSX_belief l G ((xs (nI i + 1).toNatClampNeg)) ((xs (nI i + 2).toNatClampNeg)) hX xd σ q hq H.size) (cwV 2 hg (gV wd_2_212 wd_2_213 wd_2_214 wd_1_1 wd_2_215) rfl rfl rfl hdV_X9_belief ⟨(Nat.le_of_ble_eq_true rfl), (Nat.le_of_ble_eq_true rfl)⟩) (lawPreX hc hW) rfl rfl hl.1 rfl (lv_room (Nat.le_of_ble_eq_true rfl)) dL_law_374 hfit) hA hW (fun H locs hW => ?_)
        refine lv_aload_n hx hb dL_law_377 rfl (lv_at hl 2 rfl) ?_
        refine lv_aload_n hx hb dL_law_378 rfl (lv_at hl 0 rfl) ?_
        refine lv_iload_n hx hb dL_law_379 rfl (lv_at hl 3 rfl) ?_
        refine lv_iconst (v := 1) hx hb dL_law_380 (by decide) ?_
        refine lv_iadd hx hb dL_law_381 ?_
        refine va_sld hx hb hXs hbl hbA hW.2.2 v1 dL_law_382 ?_
        refine lv_aload_n hx hb dL_law_383 rfl (lv_at hl 0 rfl) ?_
        refine lv_iload_n hx hb dL_law_384 rfl (lv_at hl 3 rfl) ?_
        refine lv_iconst (v := 2) hx hb dL_law_385 (by decide) ?_
        refine lv_iadd hx hb dL_law_386 ?_
        refine va_sld hx hb hXs hbl hbA hW.2.2 v2 dL_law_387 ?_
        refine lawMJ (va_runV (As := [.int (xs (nI i + 1).toNatClampNeg), .int (xs (nI i + 2).toNatClampNeg)]) (rest := [.long q.1]) ⟨hx, hb, hml, hown, hg⟩ (pSM_belief l G ((xs (nI i + 1).toNatClampNeg)) ((xs (nI i + 2).toNatClampNeg)) hM md μ r hr2 H.size) (cwV 2 hg (gV wd_4_200 wd_4_201 wd_4_202 wd_1_15 wd_4_203) rfl rfl rfl hdV_X10_belief ⟨(Nat.le_of_ble_eq_true rfl), (Nat.le_of_ble_eq_true rfl)⟩) (lawPreM hc hW) rfl rfl hl.1 rfl (lv_room (Nat.le_of_ble_eq_true rfl)) dL_law_388 hfit) hA hW (fun H locs hW => ?_)
        refine W.lcmp hx hb dL_law_391 ?_
        refine lv_if_eq (tgt := 861) hx hb dL_law_392 (by decide) (fun c_e => ?_) (fun c_e => ?_)
        · exact back xd md q.2 r.2 hR2 _ _ _ hl hW
        · exact absurd (lg_cmp_self he) c_e
      by_cases w_10 : sw = 10
      · refine lv_tableIn (off := 364) (tgt := 397) hx hb dL_law_33 (by rw [w_10]; decide +kernel) (by rw [w_10]; decide +kernel) (by rw [w_10]; decide +kernel) (by decide) ?_
        refine lv_aload_n hx hb dL_law_397 rfl (lv_at hl 1 rfl) ?_
        refine lv_aload_n hx hb dL_law_398 rfl (lv_at hl 0 rfl) ?_
        refine lv_iload_n hx hb dL_law_399 rfl (lv_at hl 3 rfl) ?_
        refine lv_iconst (v := 1) hx hb dL_law_400 (by decide) ?_
        refine lv_iadd hx hb dL_law_401 ?_
        refine va_sld hx hb hXs hbl hbA hW.2.2 v1 dL_law_402 ?_
        refine lv_aload_n hx hb dL_law_403 rfl (lv_at hl 0 rfl) ?_
        refine lv_iload_n hx hb dL_law_404 rfl (lv_at hl 3 rfl) ?_
        refine lv_iconst (v := 2) hx hb dL_law_405 (by decide) ?_
        refine lv_iadd hx hb dL_law_406 ?_
        refine va_sld hx hb hXs hbl hbA hW.2.2 v2 dL_law_407 ?_
        refine lv_aload_n hx hb dL_law_408 rfl (lv_at hl 0 rfl) ?_
        refine lv_iload_n hx hb dL_law_409 rfl (lv_at hl 3 rfl) ?_
        refine lv_iconst (v := 3) hx hb dL_law_410 (by decide) ?_
        refine lv_iadd hx hb dL_law_411 ?_
        refine va_sld hx hb hXs hbl hbA hW.2.2 v3 dL_law_412 ?_
        obtain ⟨q, r, hq, hr2, he, hR2⟩ := sim_near ((xs (nI i + 1).toNatClampNeg)) ((xs (nI i + 2).toNatClampNeg)) ((xs (nI i + 3).toNatClampNeg)) σ μ hR
        refine lawXJ (va_runV (As := [.int (xs (nI i + 1).toNatClampNeg), .int (xs (nI i + 2).toNatClampNeg), .int (xs (nI i + 3).toNatClampNeg)]) (rest := []) ⟨hx, hb, hml, hown, hg⟩ (pSX_near l G ((xs (nI i + 1).toNatClampNeg)) ((xs (nI i + 2).toNatClampNeg)) ((xs (nI i + 3).toNatClampNeg)) hX xd σ q hq H.size) (cwV 3 hg (gV wd_3_42 wd_3_43 wd_3_44 wd_1_1 wd_3_45) rfl rfl rfl hdV_X9_near ⟨(Nat.le_of_ble_eq_true rfl), (Nat.le_of_ble_eq_true rfl)⟩) (lawPreX hc hW) rfl rfl hl.1 rfl (lv_room (Nat.le_of_ble_eq_true rfl)) dL_law_413 hfit) hA hW (fun H locs hW => ?_)
        refine lv_aload_n hx hb dL_law_416 rfl (lv_at hl 2 rfl) ?_
        refine lv_aload_n hx hb dL_law_417 rfl (lv_at hl 0 rfl) ?_
        refine lv_iload_n hx hb dL_law_418 rfl (lv_at hl 3 rfl) ?_
        refine lv_iconst (v := 1) hx hb dL_law_419 (by decide) ?_
        refine lv_iadd hx hb dL_law_420 ?_
        refine va_sld hx hb hXs hbl hbA hW.2.2 v1 dL_law_421 ?_
        refine lv_aload_n hx hb dL_law_422 rfl (lv_at hl 0 rfl) ?_
        refine lv_iload_n hx hb dL_law_423 rfl (lv_at hl 3 rfl) ?_
        refine lv_iconst (v := 2) hx hb dL_law_424 (by decide) ?_
        refine lv_iadd hx hb dL_law_425 ?_
        refine va_sld hx hb hXs hbl hbA hW.2.2 v2 dL_law_426 ?_
        refine lv_aload_n hx hb dL_law_427 rfl (lv_at hl 0 rfl) ?_
        refine lv_iload_n hx hb dL_law_428 rfl (lv_at hl 3 rfl) ?_
        refine lv_iconst (v := 3) hx hb dL_law_429 (by decide) ?_
        refine lv_iadd hx hb dL_law_430 ?_
        refine va_sld hx hb hXs hbl hbA hW.2.2 v3 dL_law_431 ?_
        refine lawMJ (va_runV (As := [.int (xs (nI i + 1).toNatClampNeg), .int (xs (nI i + 2).toNatClampNeg), .int (xs (nI i + 3).toNatClampNeg)]) (rest := [.long q.1]) ⟨hx, hb, hml, hown, hg⟩ (pSM_near l G ((xs (nI i + 1).toNatClampNeg)) ((xs (nI i + 2).toNatClampNeg)) ((xs (nI i + 3).toNatClampNeg)) hM md μ r hr2 H.size) (cwV 3 hg (gV wd_5_4 wd_5_5 wd_5_6 wd_1_15 wd_5_7) rfl rfl rfl hdV_X10_near ⟨(Nat.le_of_ble_eq_true rfl), (Nat.le_of_ble_eq_true rfl)⟩) (lawPreM hc hW) rfl rfl hl.1 rfl (lv_room (Nat.le_of_ble_eq_true rfl)) dL_law_432 hfit) hA hW (fun H locs hW => ?_)
        refine W.lcmp hx hb dL_law_435 ?_
        refine lv_if_eq (tgt := 861) hx hb dL_law_436 (by decide) (fun c_e => ?_) (fun c_e => ?_)
        · exact back xd md q.2 r.2 hR2 _ _ _ hl hW
        · exact absurd (lg_cmp_self he) c_e
      by_cases w_11 : sw = 11
      · refine lv_tableIn (off := 408) (tgt := 441) hx hb dL_law_33 (by rw [w_11]; decide +kernel) (by rw [w_11]; decide +kernel) (by rw [w_11]; decide +kernel) (by decide) ?_
        refine lv_aload_n hx hb dL_law_441 rfl (lv_at hl 1 rfl) ?_
        refine lv_aload_n hx hb dL_law_442 rfl (lv_at hl 0 rfl) ?_
        refine lv_iload_n hx hb dL_law_443 rfl (lv_at hl 3 rfl) ?_
        refine lv_iconst (v := 1) hx hb dL_law_444 (by decide) ?_
        refine lv_iadd hx hb dL_law_445 ?_
        refine va_sld hx hb hXs hbl hbA hW.2.2 v1 dL_law_446 ?_
        refine lv_aload_n hx hb dL_law_447 rfl (lv_at hl 0 rfl) ?_
        refine lv_iload_n hx hb dL_law_448 rfl (lv_at hl 3 rfl) ?_
        refine lv_iconst (v := 2) hx hb dL_law_449 (by decide) ?_
        refine lv_iadd hx hb dL_law_450 ?_
        refine va_sld hx hb hXs hbl hbA hW.2.2 v2 dL_law_451 ?_
        refine lv_aload_n hx hb dL_law_452 rfl (lv_at hl 0 rfl) ?_
        refine lv_iload_n hx hb dL_law_453 rfl (lv_at hl 3 rfl) ?_
        refine lv_iconst (v := 3) hx hb dL_law_454 (by decide) ?_
        refine lv_iadd hx hb dL_law_455 ?_
        refine va_sld hx hb hXs hbl hbA hW.2.2 v3 dL_law_456 ?_
        obtain ⟨q, r, hq, hr2, he, hR2⟩ := sim_sight ((xs (nI i + 1).toNatClampNeg)) ((xs (nI i + 2).toNatClampNeg)) ((xs (nI i + 3).toNatClampNeg)) σ μ hR
        refine lawXJ (va_runV (As := [.int (xs (nI i + 1).toNatClampNeg), .int (xs (nI i + 2).toNatClampNeg), .int (xs (nI i + 3).toNatClampNeg)]) (rest := []) ⟨hx, hb, hml, hown, hg⟩ (pSX_sight l G ((xs (nI i + 1).toNatClampNeg)) ((xs (nI i + 2).toNatClampNeg)) ((xs (nI i + 3).toNatClampNeg)) hX xd σ q hq H.size) (cwV 3 hg (gV wd_3_60 wd_3_61 wd_3_62 wd_1_1 wd_3_63) rfl rfl rfl hdV_X9_sight ⟨(Nat.le_of_ble_eq_true rfl), (Nat.le_of_ble_eq_true rfl)⟩) (lawPreX hc hW) rfl rfl hl.1 rfl (lv_room (Nat.le_of_ble_eq_true rfl)) dL_law_457 hfit) hA hW (fun H locs hW => ?_)
        refine lv_aload_n hx hb dL_law_460 rfl (lv_at hl 2 rfl) ?_
        refine lv_aload_n hx hb dL_law_461 rfl (lv_at hl 0 rfl) ?_
        refine lv_iload_n hx hb dL_law_462 rfl (lv_at hl 3 rfl) ?_
        refine lv_iconst (v := 1) hx hb dL_law_463 (by decide) ?_
        refine lv_iadd hx hb dL_law_464 ?_
        refine va_sld hx hb hXs hbl hbA hW.2.2 v1 dL_law_465 ?_
        refine lv_aload_n hx hb dL_law_466 rfl (lv_at hl 0 rfl) ?_
        refine lv_iload_n hx hb dL_law_467 rfl (lv_at hl 3 rfl) ?_
        refine lv_iconst (v := 2) hx hb dL_law_468 (by decide) ?_
        refine lv_iadd hx hb dL_law_469 ?_
        refine va_sld hx hb hXs hbl hbA hW.2.2 v2 dL_law_470 ?_
        refine lv_aload_n hx hb dL_law_471 rfl (lv_at hl 0 rfl) ?_
        refine lv_iload_n hx hb dL_law_472 rfl (lv_at hl 3 rfl) ?_
        refine lv_iconst (v := 3) hx hb dL_law_473 (by decide) ?_
        refine lv_iadd hx hb dL_law_474 ?_
        refine va_sld hx hb hXs hbl hbA hW.2.2 v3 dL_law_475 ?_
        refine lawMJ (va_runV (As := [.int (xs (nI i + 1).toNatClampNeg), .int (xs (nI i + 2).toNatClampNeg), .int (xs (nI i + 3).toNatClampNeg)]) (rest := [.long q.1]) ⟨hx, hb, hml, hown, hg⟩ (pSM_sight l G ((xs (nI i + 1).toNatClampNeg)) ((xs (nI i + 2).toNatClampNeg)) ((xs (nI i + 3).toNatClampNeg)) hM md μ r hr2 H.size) (cwV 3 hg (gV wd_5_14 wd_5_15 wd_5_16 wd_1_15 wd_5_17) rfl rfl rfl hdV_X10_sight ⟨(Nat.le_of_ble_eq_true rfl), (Nat.le_of_ble_eq_true rfl)⟩) (lawPreM hc hW) rfl rfl hl.1 rfl (lv_room (Nat.le_of_ble_eq_true rfl)) dL_law_476 hfit) hA hW (fun H locs hW => ?_)
        refine W.lcmp hx hb dL_law_479 ?_
        refine lv_if_eq (tgt := 861) hx hb dL_law_480 (by decide) (fun c_e => ?_) (fun c_e => ?_)
        · exact back xd md q.2 r.2 hR2 _ _ _ hl hW
        · exact absurd (lg_cmp_self he) c_e
      by_cases w_12 : sw = 12
      · refine lv_tableIn (off := 452) (tgt := 485) hx hb dL_law_33 (by rw [w_12]; decide +kernel) (by rw [w_12]; decide +kernel) (by rw [w_12]; decide +kernel) (by decide) ?_
        refine lv_aload_n hx hb dL_law_485 rfl (lv_at hl 1 rfl) ?_
        refine lv_aload_n hx hb dL_law_486 rfl (lv_at hl 0 rfl) ?_
        refine lv_iload_n hx hb dL_law_487 rfl (lv_at hl 3 rfl) ?_
        refine lv_iconst (v := 1) hx hb dL_law_488 (by decide) ?_
        refine lv_iadd hx hb dL_law_489 ?_
        refine va_sld hx hb hXs hbl hbA hW.2.2 v1 dL_law_490 ?_
        obtain ⟨q, r, hq, hr2, he, hR2⟩ := sim_tells ((xs (nI i + 1).toNatClampNeg)) σ μ hR
        refine lawXI (va_runV (As := [.int (xs (nI i + 1).toNatClampNeg)]) (rest := []) ⟨hx, hb, hml, hown, hg⟩ (pSX_tells l G ((xs (nI i + 1).toNatClampNeg)) hX xd σ q hq H.size) (cwV 1 hg (gV wd_3_77 wd_3_78 wd_3_79 wd_1_1 wd_3_80) rfl rfl rfl hdV_X9_tells ⟨(Nat.le_of_ble_eq_true rfl), (Nat.le_of_ble_eq_true rfl)⟩) (lawPreX hc hW) rfl rfl hl.1 rfl (lv_room (Nat.le_of_ble_eq_true rfl)) dL_law_491 hfit) hA hW (fun H locs hW => ?_)
        refine lv_aload_n hx hb dL_law_494 rfl (lv_at hl 2 rfl) ?_
        refine lv_aload_n hx hb dL_law_495 rfl (lv_at hl 0 rfl) ?_
        refine lv_iload_n hx hb dL_law_496 rfl (lv_at hl 3 rfl) ?_
        refine lv_iconst (v := 1) hx hb dL_law_497 (by decide) ?_
        refine lv_iadd hx hb dL_law_498 ?_
        refine va_sld hx hb hXs hbl hbA hW.2.2 v1 dL_law_499 ?_
        refine lawMI (va_runV (As := [.int (xs (nI i + 1).toNatClampNeg)]) (rest := [.int q.1]) ⟨hx, hb, hml, hown, hg⟩ (pSM_tells l G ((xs (nI i + 1).toNatClampNeg)) hM md μ r hr2 H.size) (cwV 1 hg (gV wd_5_27 wd_5_28 wd_5_29 wd_1_15 wd_5_30) rfl rfl rfl hdV_X10_tells ⟨(Nat.le_of_ble_eq_true rfl), (Nat.le_of_ble_eq_true rfl)⟩) (lawPreM hc hW) rfl rfl hl.1 rfl (lv_room (Nat.le_of_ble_eq_true rfl)) dL_law_500 hfit) hA hW (fun H locs hW => ?_)
        refine lv_icmp_eq (tgt := 861) hx hb dL_law_503 (by decide) (fun c_e => ?_) (fun c_e => ?_)
        · exact back xd md q.2 r.2 hR2 _ _ _ hl hW
        · exact absurd he c_e
      by_cases w_13 : sw = 13
      · refine lv_tableIn (off := 475) (tgt := 508) hx hb dL_law_33 (by rw [w_13]; decide +kernel) (by rw [w_13]; decide +kernel) (by rw [w_13]; decide +kernel) (by decide) ?_
        refine lv_aload_n hx hb dL_law_508 rfl (lv_at hl 1 rfl) ?_
        refine lv_aload_n hx hb dL_law_509 rfl (lv_at hl 0 rfl) ?_
        refine lv_iload_n hx hb dL_law_510 rfl (lv_at hl 3 rfl) ?_
        refine lv_iconst (v := 1) hx hb dL_law_511 (by decide) ?_
        refine lv_iadd hx hb dL_law_512 ?_
        refine va_sld hx hb hXs hbl hbA hW.2.2 v1 dL_law_513 ?_
        refine lv_aload_n hx hb dL_law_514 rfl (lv_at hl 0 rfl) ?_
        refine lv_iload_n hx hb dL_law_515 rfl (lv_at hl 3 rfl) ?_
        refine lv_iconst (v := 2) hx hb dL_law_516 (by decide) ?_
        refine lv_iadd hx hb dL_law_517 ?_
        refine va_sld hx hb hXs hbl hbA hW.2.2 v2 dL_law_518 ?_
        obtain ⟨q, r, hq, hr2, he, hR2⟩ := sim_board ((xs (nI i + 1).toNatClampNeg)) ((xs (nI i + 2).toNatClampNeg)) σ μ hR
        refine lawXJ (va_runV (As := [.int (xs (nI i + 1).toNatClampNeg), .int (xs (nI i + 2).toNatClampNeg)]) (rest := []) ⟨hx, hb, hml, hown, hg⟩ (pSX_board l G ((xs (nI i + 1).toNatClampNeg)) ((xs (nI i + 2).toNatClampNeg)) hX xd σ q hq H.size) (cwV 2 hg (gV wd_3_89 wd_3_90 wd_3_91 wd_1_1 wd_3_92) rfl rfl rfl hdV_X9_board ⟨(Nat.le_of_ble_eq_true rfl), (Nat.le_of_ble_eq_true rfl)⟩) (lawPreX hc hW) rfl rfl hl.1 rfl (lv_room (Nat.le_of_ble_eq_true rfl)) dL_law_519 hfit) hA hW (fun H locs hW => ?_)
        refine lv_aload_n hx hb dL_law_522 rfl (lv_at hl 2 rfl) ?_
        refine lv_aload_n hx hb dL_law_523 rfl (lv_at hl 0 rfl) ?_
        refine lv_iload_n hx hb dL_law_524 rfl (lv_at hl 3 rfl) ?_
        refine lv_iconst (v := 1) hx hb dL_law_525 (by decide) ?_
        refine lv_iadd hx hb dL_law_526 ?_
        refine va_sld hx hb hXs hbl hbA hW.2.2 v1 dL_law_527 ?_
        refine lv_aload_n hx hb dL_law_528 rfl (lv_at hl 0 rfl) ?_
        refine lv_iload_n hx hb dL_law_529 rfl (lv_at hl 3 rfl) ?_
        refine lv_iconst (v := 2) hx hb dL_law_530 (by decide) ?_
        refine lv_iadd hx hb dL_law_531 ?_
        refine va_sld hx hb hXs hbl hbA hW.2.2 v2 dL_law_532 ?_
        refine lawMJ (va_runV (As := [.int (xs (nI i + 1).toNatClampNeg), .int (xs (nI i + 2).toNatClampNeg)]) (rest := [.long q.1]) ⟨hx, hb, hml, hown, hg⟩ (pSM_board l G ((xs (nI i + 1).toNatClampNeg)) ((xs (nI i + 2).toNatClampNeg)) hM md μ r hr2 H.size) (cwV 2 hg (gV wd_5_32 wd_5_33 wd_5_34 wd_1_15 wd_5_35) rfl rfl rfl hdV_X10_board ⟨(Nat.le_of_ble_eq_true rfl), (Nat.le_of_ble_eq_true rfl)⟩) (lawPreM hc hW) rfl rfl hl.1 rfl (lv_room (Nat.le_of_ble_eq_true rfl)) dL_law_533 hfit) hA hW (fun H locs hW => ?_)
        refine W.lcmp hx hb dL_law_536 ?_
        refine lv_if_eq (tgt := 861) hx hb dL_law_537 (by decide) (fun c_e => ?_) (fun c_e => ?_)
        · exact back xd md q.2 r.2 hR2 _ _ _ hl hW
        · exact absurd (lg_cmp_self he) c_e
      by_cases w_14 : sw = 14
      · refine lv_tableIn (off := 509) (tgt := 542) hx hb dL_law_33 (by rw [w_14]; decide +kernel) (by rw [w_14]; decide +kernel) (by rw [w_14]; decide +kernel) (by decide) ?_
        refine lv_aload_n hx hb dL_law_542 rfl (lv_at hl 1 rfl) ?_
        refine lv_aload_n hx hb dL_law_543 rfl (lv_at hl 0 rfl) ?_
        refine lv_iload_n hx hb dL_law_544 rfl (lv_at hl 3 rfl) ?_
        refine lv_iconst (v := 1) hx hb dL_law_545 (by decide) ?_
        refine lv_iadd hx hb dL_law_546 ?_
        refine va_sld hx hb hXs hbl hbA hW.2.2 v1 dL_law_547 ?_
        refine lv_aload_n hx hb dL_law_548 rfl (lv_at hl 0 rfl) ?_
        refine lv_iload_n hx hb dL_law_549 rfl (lv_at hl 3 rfl) ?_
        refine lv_iconst (v := 2) hx hb dL_law_550 (by decide) ?_
        refine lv_iadd hx hb dL_law_551 ?_
        refine va_sld hx hb hXs hbl hbA hW.2.2 v2 dL_law_552 ?_
        obtain ⟨q, r, hq, hr2, he, hR2⟩ := sim_quiet ((xs (nI i + 1).toNatClampNeg)) ((xs (nI i + 2).toNatClampNeg)) σ μ hR
        refine lawXI (va_runV (As := [.int (xs (nI i + 1).toNatClampNeg), .int (xs (nI i + 2).toNatClampNeg)]) (rest := []) ⟨hx, hb, hml, hown, hg⟩ (pSX_quiet l G ((xs (nI i + 1).toNatClampNeg)) ((xs (nI i + 2).toNatClampNeg)) hX xd σ q hq H.size) (cwV 2 hg (gV wd_3_100 wd_3_101 wd_3_102 wd_1_1 wd_3_103) rfl rfl rfl hdV_X9_quiet ⟨(Nat.le_of_ble_eq_true rfl), (Nat.le_of_ble_eq_true rfl)⟩) (lawPreX hc hW) rfl rfl hl.1 rfl (lv_room (Nat.le_of_ble_eq_true rfl)) dL_law_553 hfit) hA hW (fun H locs hW => ?_)
        refine lv_aload_n hx hb dL_law_556 rfl (lv_at hl 2 rfl) ?_
        refine lv_aload_n hx hb dL_law_557 rfl (lv_at hl 0 rfl) ?_
        refine lv_iload_n hx hb dL_law_558 rfl (lv_at hl 3 rfl) ?_
        refine lv_iconst (v := 1) hx hb dL_law_559 (by decide) ?_
        refine lv_iadd hx hb dL_law_560 ?_
        refine va_sld hx hb hXs hbl hbA hW.2.2 v1 dL_law_561 ?_
        refine lv_aload_n hx hb dL_law_562 rfl (lv_at hl 0 rfl) ?_
        refine lv_iload_n hx hb dL_law_563 rfl (lv_at hl 3 rfl) ?_
        refine lv_iconst (v := 2) hx hb dL_law_564 (by decide) ?_
        refine lv_iadd hx hb dL_law_565 ?_
        refine va_sld hx hb hXs hbl hbA hW.2.2 v2 dL_law_566 ?_
        refine lawMI (va_runV (As := [.int (xs (nI i + 1).toNatClampNeg), .int (xs (nI i + 2).toNatClampNeg)]) (rest := [.int q.1]) ⟨hx, hb, hml, hown, hg⟩ (pSM_quiet l G ((xs (nI i + 1).toNatClampNeg)) ((xs (nI i + 2).toNatClampNeg)) hM md μ r hr2 H.size) (cwV 2 hg (gV wd_5_40 wd_5_41 wd_5_42 wd_1_15 wd_5_43) rfl rfl rfl hdV_X10_quiet ⟨(Nat.le_of_ble_eq_true rfl), (Nat.le_of_ble_eq_true rfl)⟩) (lawPreM hc hW) rfl rfl hl.1 rfl (lv_room (Nat.le_of_ble_eq_true rfl)) dL_law_567 hfit) hA hW (fun H locs hW => ?_)
        refine lv_icmp_eq (tgt := 861) hx hb dL_law_570 (by decide) (fun c_e => ?_) (fun c_e => ?_)
        · exact back xd md q.2 r.2 hR2 _ _ _ hl hW
        · exact absurd he c_e
      by_cases w_15 : sw = 15
      · refine lv_tableIn (off := 542) (tgt := 575) hx hb dL_law_33 (by rw [w_15]; decide +kernel) (by rw [w_15]; decide +kernel) (by rw [w_15]; decide +kernel) (by decide) ?_
        refine lv_aload_n hx hb dL_law_575 rfl (lv_at hl 1 rfl) ?_
        refine lv_aload_n hx hb dL_law_576 rfl (lv_at hl 0 rfl) ?_
        refine lv_iload_n hx hb dL_law_577 rfl (lv_at hl 3 rfl) ?_
        refine lv_iconst (v := 1) hx hb dL_law_578 (by decide) ?_
        refine lv_iadd hx hb dL_law_579 ?_
        refine va_sld hx hb hXs hbl hbA hW.2.2 v1 dL_law_580 ?_
        obtain ⟨q, r, hq, hr2, he, hR2⟩ := sim_saved ((xs (nI i + 1).toNatClampNeg)) σ μ hR
        refine lawXI (va_runV (As := [.int (xs (nI i + 1).toNatClampNeg)]) (rest := []) ⟨hx, hb, hml, hown, hg⟩ (pSX_saved l G ((xs (nI i + 1).toNatClampNeg)) hX xd σ q hq H.size) (cwV 1 hg (gV wd_3_109 wd_3_110 wd_3_111 wd_1_1 wd_3_112) rfl rfl rfl hdV_X9_saved ⟨(Nat.le_of_ble_eq_true rfl), (Nat.le_of_ble_eq_true rfl)⟩) (lawPreX hc hW) rfl rfl hl.1 rfl (lv_room (Nat.le_of_ble_eq_true rfl)) dL_law_581 hfit) hA hW (fun H locs hW => ?_)
        refine lv_aload_n hx hb dL_law_584 rfl (lv_at hl 2 rfl) ?_
        refine lv_aload_n hx hb dL_law_585 rfl (lv_at hl 0 rfl) ?_
        refine lv_iload_n hx hb dL_law_586 rfl (lv_at hl 3 rfl) ?_
        refine lv_iconst (v := 1) hx hb dL_law_587 (by decide) ?_
        refine lv_iadd hx hb dL_law_588 ?_
        refine va_sld hx hb hXs hbl hbA hW.2.2 v1 dL_law_589 ?_
        refine lawMI (va_runV (As := [.int (xs (nI i + 1).toNatClampNeg)]) (rest := [.int q.1]) ⟨hx, hb, hml, hown, hg⟩ (pSM_saved l G ((xs (nI i + 1).toNatClampNeg)) hM md μ r hr2 H.size) (cwV 1 hg (gV wd_5_45 wd_5_46 wd_5_47 wd_1_15 wd_5_48) rfl rfl rfl hdV_X10_saved ⟨(Nat.le_of_ble_eq_true rfl), (Nat.le_of_ble_eq_true rfl)⟩) (lawPreM hc hW) rfl rfl hl.1 rfl (lv_room (Nat.le_of_ble_eq_true rfl)) dL_law_590 hfit) hA hW (fun H locs hW => ?_)
        refine lv_icmp_eq (tgt := 861) hx hb dL_law_593 (by decide) (fun c_e => ?_) (fun c_e => ?_)
        · exact back xd md q.2 r.2 hR2 _ _ _ hl hW
        · exact absurd he c_e
      by_cases w_16 : sw = 16
      · refine lv_tableIn (off := 565) (tgt := 598) hx hb dL_law_33 (by rw [w_16]; decide +kernel) (by rw [w_16]; decide +kernel) (by rw [w_16]; decide +kernel) (by decide) ?_
        refine lv_aload_n hx hb dL_law_598 rfl (lv_at hl 1 rfl) ?_
        refine lv_aload_n hx hb dL_law_599 rfl (lv_at hl 0 rfl) ?_
        refine lv_iload_n hx hb dL_law_600 rfl (lv_at hl 3 rfl) ?_
        refine lv_iconst (v := 1) hx hb dL_law_601 (by decide) ?_
        refine lv_iadd hx hb dL_law_602 ?_
        refine va_sld hx hb hXs hbl hbA hW.2.2 v1 dL_law_603 ?_
        obtain ⟨q, r, hq, hr2, he, hR2⟩ := sim_crews ((xs (nI i + 1).toNatClampNeg)) σ μ hR
        refine lawXI (va_runV (As := [.int (xs (nI i + 1).toNatClampNeg)]) (rest := []) ⟨hx, hb, hml, hown, hg⟩ (pSX_crews l G ((xs (nI i + 1).toNatClampNeg)) hX xd σ q hq H.size) (cwV 1 hg (gV wd_3_130 wd_3_131 wd_3_132 wd_1_1 wd_3_133) rfl rfl rfl hdV_X9_crews ⟨(Nat.le_of_ble_eq_true rfl), (Nat.le_of_ble_eq_true rfl)⟩) (lawPreX hc hW) rfl rfl hl.1 rfl (lv_room (Nat.le_of_ble_eq_true rfl)) dL_law_604 hfit) hA hW (fun H locs hW => ?_)
        refine lv_aload_n hx hb dL_law_607 rfl (lv_at hl 2 rfl) ?_
        refine lv_aload_n hx hb dL_law_608 rfl (lv_at hl 0 rfl) ?_
        refine lv_iload_n hx hb dL_law_609 rfl (lv_at hl 3 rfl) ?_
        refine lv_iconst (v := 1) hx hb dL_law_610 (by decide) ?_
        refine lv_iadd hx hb dL_law_611 ?_
        refine va_sld hx hb hXs hbl hbA hW.2.2 v1 dL_law_612 ?_
        refine lawMI (va_runV (As := [.int (xs (nI i + 1).toNatClampNeg)]) (rest := [.int q.1]) ⟨hx, hb, hml, hown, hg⟩ (pSM_crews l G ((xs (nI i + 1).toNatClampNeg)) hM md μ r hr2 H.size) (cwV 1 hg (gV wd_5_49 wd_5_50 wd_5_51 wd_1_15 wd_5_52) rfl rfl rfl hdV_X10_crews ⟨(Nat.le_of_ble_eq_true rfl), (Nat.le_of_ble_eq_true rfl)⟩) (lawPreM hc hW) rfl rfl hl.1 rfl (lv_room (Nat.le_of_ble_eq_true rfl)) dL_law_613 hfit) hA hW (fun H locs hW => ?_)
        refine lv_icmp_eq (tgt := 861) hx hb dL_law_616 (by decide) (fun c_e => ?_) (fun c_e => ?_)
        · exact back xd md q.2 r.2 hR2 _ _ _ hl hW
        · exact absurd he c_e
      by_cases w_17 : sw = 17
      · refine lv_tableIn (off := 588) (tgt := 621) hx hb dL_law_33 (by rw [w_17]; decide +kernel) (by rw [w_17]; decide +kernel) (by rw [w_17]; decide +kernel) (by decide) ?_
        refine lv_aload_n hx hb dL_law_621 rfl (lv_at hl 1 rfl) ?_
        refine lv_aload_n hx hb dL_law_622 rfl (lv_at hl 0 rfl) ?_
        refine lv_iload_n hx hb dL_law_623 rfl (lv_at hl 3 rfl) ?_
        refine lv_iconst (v := 1) hx hb dL_law_624 (by decide) ?_
        refine lv_iadd hx hb dL_law_625 ?_
        refine va_sld hx hb hXs hbl hbA hW.2.2 v1 dL_law_626 ?_
        refine lv_aload_n hx hb dL_law_627 rfl (lv_at hl 0 rfl) ?_
        refine lv_iload_n hx hb dL_law_628 rfl (lv_at hl 3 rfl) ?_
        refine lv_iconst (v := 2) hx hb dL_law_629 (by decide) ?_
        refine lv_iadd hx hb dL_law_630 ?_
        refine va_sld hx hb hXs hbl hbA hW.2.2 v2 dL_law_631 ?_
        refine lv_aload_n hx hb dL_law_632 rfl (lv_at hl 0 rfl) ?_
        refine lv_iload_n hx hb dL_law_633 rfl (lv_at hl 3 rfl) ?_
        refine lv_iconst (v := 3) hx hb dL_law_634 (by decide) ?_
        refine lv_iadd hx hb dL_law_635 ?_
        refine va_sld hx hb hXs hbl hbA hW.2.2 v3 dL_law_636 ?_
        refine lv_aload_n hx hb dL_law_637 rfl (lv_at hl 0 rfl) ?_
        refine lv_iload_n hx hb dL_law_638 rfl (lv_at hl 3 rfl) ?_
        refine lv_iconst (v := 4) hx hb dL_law_639 (by decide) ?_
        refine lv_iadd hx hb dL_law_640 ?_
        refine va_sld hx hb hXs hbl hbA hW.2.2 v4 dL_law_641 ?_
        refine lv_aload_n hx hb dL_law_642 rfl (lv_at hl 0 rfl) ?_
        refine lv_iload_n hx hb dL_law_643 rfl (lv_at hl 3 rfl) ?_
        refine lv_iconst (v := 5) hx hb dL_law_644 (by decide) ?_
        refine lv_iadd hx hb dL_law_645 ?_
        refine va_sld hx hb hXs hbl hbA hW.2.2 v5 dL_law_646 ?_
        obtain ⟨q, r, hq, hr2, he, hR2⟩ := sim_drift ((xs (nI i + 1).toNatClampNeg)) ((xs (nI i + 2).toNatClampNeg)) ((xs (nI i + 3).toNatClampNeg)) ((xs (nI i + 4).toNatClampNeg)) ((xs (nI i + 5).toNatClampNeg)) σ μ hR
        refine lawXI (va_runV (As := [.int (xs (nI i + 1).toNatClampNeg), .int (xs (nI i + 2).toNatClampNeg), .int (xs (nI i + 3).toNatClampNeg), .int (xs (nI i + 4).toNatClampNeg), .int (xs (nI i + 5).toNatClampNeg)]) (rest := []) ⟨hx, hb, hml, hown, hg⟩ (pSX_drift l G ((xs (nI i + 1).toNatClampNeg)) ((xs (nI i + 2).toNatClampNeg)) ((xs (nI i + 3).toNatClampNeg)) ((xs (nI i + 4).toNatClampNeg)) ((xs (nI i + 5).toNatClampNeg)) hX xd σ q hq H.size) (cwV 5 hg (gV wd_3_161 wd_3_162 wd_3_163 wd_1_1 wd_3_164) rfl rfl rfl hdV_X9_drift ⟨(Nat.le_of_ble_eq_true rfl), (Nat.le_of_ble_eq_true rfl)⟩) (lawPreX hc hW) rfl rfl hl.1 rfl (lv_room (Nat.le_of_ble_eq_true rfl)) dL_law_647 hfit) hA hW (fun H locs hW => ?_)
        refine lv_aload_n hx hb dL_law_650 rfl (lv_at hl 2 rfl) ?_
        refine lv_aload_n hx hb dL_law_651 rfl (lv_at hl 0 rfl) ?_
        refine lv_iload_n hx hb dL_law_652 rfl (lv_at hl 3 rfl) ?_
        refine lv_iconst (v := 1) hx hb dL_law_653 (by decide) ?_
        refine lv_iadd hx hb dL_law_654 ?_
        refine va_sld hx hb hXs hbl hbA hW.2.2 v1 dL_law_655 ?_
        refine lv_aload_n hx hb dL_law_656 rfl (lv_at hl 0 rfl) ?_
        refine lv_iload_n hx hb dL_law_657 rfl (lv_at hl 3 rfl) ?_
        refine lv_iconst (v := 2) hx hb dL_law_658 (by decide) ?_
        refine lv_iadd hx hb dL_law_659 ?_
        refine va_sld hx hb hXs hbl hbA hW.2.2 v2 dL_law_660 ?_
        refine lv_aload_n hx hb dL_law_661 rfl (lv_at hl 0 rfl) ?_
        refine lv_iload_n hx hb dL_law_662 rfl (lv_at hl 3 rfl) ?_
        refine lv_iconst (v := 3) hx hb dL_law_663 (by decide) ?_
        refine lv_iadd hx hb dL_law_664 ?_
        refine va_sld hx hb hXs hbl hbA hW.2.2 v3 dL_law_665 ?_
        refine lv_aload_n hx hb dL_law_666 rfl (lv_at hl 0 rfl) ?_
        refine lv_iload_n hx hb dL_law_667 rfl (lv_at hl 3 rfl) ?_
        refine lv_iconst (v := 4) hx hb dL_law_668 (by decide) ?_
        refine lv_iadd hx hb dL_law_669 ?_
        refine va_sld hx hb hXs hbl hbA hW.2.2 v4 dL_law_670 ?_
        refine lv_aload_n hx hb dL_law_671 rfl (lv_at hl 0 rfl) ?_
        refine lv_iload_n hx hb dL_law_672 rfl (lv_at hl 3 rfl) ?_
        refine lv_iconst (v := 5) hx hb dL_law_673 (by decide) ?_
        refine lv_iadd hx hb dL_law_674 ?_
        refine va_sld hx hb hXs hbl hbA hW.2.2 v5 dL_law_675 ?_
        refine lawMI (va_runV (As := [.int (xs (nI i + 1).toNatClampNeg), .int (xs (nI i + 2).toNatClampNeg), .int (xs (nI i + 3).toNatClampNeg), .int (xs (nI i + 4).toNatClampNeg), .int (xs (nI i + 5).toNatClampNeg)]) (rest := [.int q.1]) ⟨hx, hb, hml, hown, hg⟩ (pSM_drift l G ((xs (nI i + 1).toNatClampNeg)) ((xs (nI i + 2).toNatClampNeg)) ((xs (nI i + 3).toNatClampNeg)) ((xs (nI i + 4).toNatClampNeg)) ((xs (nI i + 5).toNatClampNeg)) hM md μ r hr2 H.size) (cwV 5 hg (gV wd_5_60 wd_5_61 wd_5_62 wd_1_15 wd_5_63) rfl rfl rfl hdV_X10_drift ⟨(Nat.le_of_ble_eq_true rfl), (Nat.le_of_ble_eq_true rfl)⟩) (lawPreM hc hW) rfl rfl hl.1 rfl (lv_room (Nat.le_of_ble_eq_true rfl)) dL_law_676 hfit) hA hW (fun H locs hW => ?_)
        refine lv_icmp_eq (tgt := 861) hx hb dL_law_679 (by decide) (fun c_e => ?_) (fun c_e => ?_)
        · exact back xd md q.2 r.2 hR2 _ _ _ hl hW
        · exact absurd he c_e
      by_cases w_18 : sw = 18
      · refine lv_tableIn (off := 651) (tgt := 684) hx hb dL_law_33 (by rw [w_18]; decide +kernel) (by rw [w_18]; decide +kernel) (by rw [w_18]; decide +kernel) (by decide) ?_
        refine lv_aload_n hx hb dL_law_684 rfl (lv_at hl 1 rfl) ?_
        refine lv_aload_n hx hb dL_law_685 rfl (lv_at hl 0 rfl) ?_
        refine lv_iload_n hx hb dL_law_686 rfl (lv_at hl 3 rfl) ?_
        refine lv_iconst (v := 1) hx hb dL_law_687 (by decide) ?_
        refine lv_iadd hx hb dL_law_688 ?_
        refine va_sld hx hb hXs hbl hbA hW.2.2 v1 dL_law_689 ?_
        refine lv_aload_n hx hb dL_law_690 rfl (lv_at hl 0 rfl) ?_
        refine lv_iload_n hx hb dL_law_691 rfl (lv_at hl 3 rfl) ?_
        refine lv_iconst (v := 2) hx hb dL_law_692 (by decide) ?_
        refine lv_iadd hx hb dL_law_693 ?_
        refine va_sld hx hb hXs hbl hbA hW.2.2 v2 dL_law_694 ?_
        obtain ⟨q, r, hq, hr2, he, hR2⟩ := sim_ahead ((xs (nI i + 1).toNatClampNeg)) ((xs (nI i + 2).toNatClampNeg)) σ μ hR
        refine lawXI (va_runV (As := [.int (xs (nI i + 1).toNatClampNeg), .int (xs (nI i + 2).toNatClampNeg)]) (rest := []) ⟨hx, hb, hml, hown, hg⟩ (pSX_ahead l G ((xs (nI i + 1).toNatClampNeg)) ((xs (nI i + 2).toNatClampNeg)) hX xd σ q hq H.size) (cwV 2 hg (gV wd_3_180 wd_3_181 wd_3_182 wd_1_1 wd_3_183) rfl rfl rfl hdV_X9_ahead ⟨(Nat.le_of_ble_eq_true rfl), (Nat.le_of_ble_eq_true rfl)⟩) (lawPreX hc hW) rfl rfl hl.1 rfl (lv_room (Nat.le_of_ble_eq_true rfl)) dL_law_695 hfit) hA hW (fun H locs hW => ?_)
        refine lv_aload_n hx hb dL_law_698 rfl (lv_at hl 2 rfl) ?_
        refine lv_aload_n hx hb dL_law_699 rfl (lv_at hl 0 rfl) ?_
        refine lv_iload_n hx hb dL_law_700 rfl (lv_at hl 3 rfl) ?_
        refine lv_iconst (v := 1) hx hb dL_law_701 (by decide) ?_
        refine lv_iadd hx hb dL_law_702 ?_
        refine va_sld hx hb hXs hbl hbA hW.2.2 v1 dL_law_703 ?_
        refine lv_aload_n hx hb dL_law_704 rfl (lv_at hl 0 rfl) ?_
        refine lv_iload_n hx hb dL_law_705 rfl (lv_at hl 3 rfl) ?_
        refine lv_iconst (v := 2) hx hb dL_law_706 (by decide) ?_
        refine lv_iadd hx hb dL_law_707 ?_
        refine va_sld hx hb hXs hbl hbA hW.2.2 v2 dL_law_708 ?_
        refine lawMI (va_runV (As := [.int (xs (nI i + 1).toNatClampNeg), .int (xs (nI i + 2).toNatClampNeg)]) (rest := [.int q.1]) ⟨hx, hb, hml, hown, hg⟩ (pSM_ahead l G ((xs (nI i + 1).toNatClampNeg)) ((xs (nI i + 2).toNatClampNeg)) hM md μ r hr2 H.size) (cwV 2 hg (gV wd_5_64 wd_5_65 wd_5_66 wd_1_15 wd_5_67) rfl rfl rfl hdV_X10_ahead ⟨(Nat.le_of_ble_eq_true rfl), (Nat.le_of_ble_eq_true rfl)⟩) (lawPreM hc hW) rfl rfl hl.1 rfl (lv_room (Nat.le_of_ble_eq_true rfl)) dL_law_709 hfit) hA hW (fun H locs hW => ?_)
        refine lv_icmp_eq (tgt := 861) hx hb dL_law_712 (by decide) (fun c_e => ?_) (fun c_e => ?_)
        · exact back xd md q.2 r.2 hR2 _ _ _ hl hW
        · exact absurd he c_e
      by_cases w_19 : sw = 19
      · refine lv_tableIn (off := 684) (tgt := 717) hx hb dL_law_33 (by rw [w_19]; decide +kernel) (by rw [w_19]; decide +kernel) (by rw [w_19]; decide +kernel) (by decide) ?_
        refine lv_aload_n hx hb dL_law_717 rfl (lv_at hl 1 rfl) ?_
        obtain ⟨q, r, hq, hr2, he, hR2⟩ := sim_forget σ μ hR
        refine lawXI (va_runV (As := []) (rest := []) ⟨hx, hb, hml, hown, hg⟩ (pSX_forget l G hX xd σ q hq H.size) (cwV 0 hg (gV wd_3_189 wd_3_190 wd_3_191 wd_1_1 wd_3_192) rfl rfl rfl hdV_X9_forget ⟨(Nat.le_of_ble_eq_true rfl), (Nat.le_of_ble_eq_true rfl)⟩) (lawPreX hc hW) rfl rfl hl.1 rfl (lv_room (Nat.le_of_ble_eq_true rfl)) dL_law_718 hfit) hA hW (fun H locs hW => ?_)
        refine lv_aload_n hx hb dL_law_721 rfl (lv_at hl 2 rfl) ?_
        refine lawMI (va_runV (As := []) (rest := [.int q.1]) ⟨hx, hb, hml, hown, hg⟩ (pSM_forget l G hM md μ r hr2 H.size) (cwV 0 hg (gV wd_5_68 wd_5_69 wd_5_70 wd_1_15 wd_5_71) rfl rfl rfl hdV_X10_forget ⟨(Nat.le_of_ble_eq_true rfl), (Nat.le_of_ble_eq_true rfl)⟩) (lawPreM hc hW) rfl rfl hl.1 rfl (lv_room (Nat.le_of_ble_eq_true rfl)) dL_law_722 hfit) hA hW (fun H locs hW => ?_)
        refine lv_icmp_eq (tgt := 861) hx hb dL_law_725 (by decide) (fun c_e => ?_) (fun c_e => ?_)
        · exact back xd md q.2 r.2 hR2 _ _ _ hl hW
        · exact absurd he c_e
      by_cases w_20 : sw = 20
      · refine lv_tableIn (off := 697) (tgt := 730) hx hb dL_law_33 (by rw [w_20]; decide +kernel) (by rw [w_20]; decide +kernel) (by rw [w_20]; decide +kernel) (by decide) ?_
        refine lv_aload_n hx hb dL_law_730 rfl (lv_at hl 1 rfl) ?_
        obtain ⟨q, r, hq, hr2, he, hR2⟩ := sim_first σ μ hR
        refine lawXI (va_runV (As := []) (rest := []) ⟨hx, hb, hml, hown, hg⟩ (pSX_first l G hX xd σ q hq H.size) (cwV 0 hg (gV wd_3_193 wd_3_194 wd_3_195 wd_1_1 wd_3_196) rfl rfl rfl hdV_X9_first ⟨(Nat.le_of_ble_eq_true rfl), (Nat.le_of_ble_eq_true rfl)⟩) (lawPreX hc hW) rfl rfl hl.1 rfl (lv_room (Nat.le_of_ble_eq_true rfl)) dL_law_731 hfit) hA hW (fun H locs hW => ?_)
        refine lv_aload_n hx hb dL_law_734 rfl (lv_at hl 2 rfl) ?_
        refine lawMI (va_runV (As := []) (rest := [.int q.1]) ⟨hx, hb, hml, hown, hg⟩ (pSM_first l G hM md μ r hr2 H.size) (cwV 0 hg (gV wd_5_76 wd_5_77 wd_5_78 wd_1_15 wd_5_79) rfl rfl rfl hdV_X10_first ⟨(Nat.le_of_ble_eq_true rfl), (Nat.le_of_ble_eq_true rfl)⟩) (lawPreM hc hW) rfl rfl hl.1 rfl (lv_room (Nat.le_of_ble_eq_true rfl)) dL_law_735 hfit) hA hW (fun H locs hW => ?_)
        refine lv_icmp_eq (tgt := 861) hx hb dL_law_738 (by decide) (fun c_e => ?_) (fun c_e => ?_)
        · exact back xd md q.2 r.2 hR2 _ _ _ hl hW
        · exact absurd he c_e
      by_cases w_21 : sw = 21
      · refine lv_tableIn (off := 710) (tgt := 743) hx hb dL_law_33 (by rw [w_21]; decide +kernel) (by rw [w_21]; decide +kernel) (by rw [w_21]; decide +kernel) (by decide) ?_
        refine lv_aload_n hx hb dL_law_743 rfl (lv_at hl 1 rfl) ?_
        obtain ⟨q, r, hq, hr2, he, hR2⟩ := sim_orders σ μ hR
        refine lawXI (va_runV (As := []) (rest := []) ⟨hx, hb, hml, hown, hg⟩ (pSX_orders l G hX xd σ q hq H.size) (cwV 0 hg (gV wd_3_212 wd_3_213 wd_3_214 wd_1_1 wd_3_215) rfl rfl rfl hdV_X9_orders ⟨(Nat.le_of_ble_eq_true rfl), (Nat.le_of_ble_eq_true rfl)⟩) (lawPreX hc hW) rfl rfl hl.1 rfl (lv_room (Nat.le_of_ble_eq_true rfl)) dL_law_744 hfit) hA hW (fun H locs hW => ?_)
        refine lv_aload_n hx hb dL_law_747 rfl (lv_at hl 2 rfl) ?_
        refine lawMI (va_runV (As := []) (rest := [.int q.1]) ⟨hx, hb, hml, hown, hg⟩ (pSM_orders l G hM md μ r hr2 H.size) (cwV 0 hg (gV wd_5_72 wd_5_73 wd_5_74 wd_1_15 wd_5_75) rfl rfl rfl hdV_X10_orders ⟨(Nat.le_of_ble_eq_true rfl), (Nat.le_of_ble_eq_true rfl)⟩) (lawPreM hc hW) rfl rfl hl.1 rfl (lv_room (Nat.le_of_ble_eq_true rfl)) dL_law_748 hfit) hA hW (fun H locs hW => ?_)
        refine lv_icmp_eq (tgt := 861) hx hb dL_law_751 (by decide) (fun c_e => ?_) (fun c_e => ?_)
        · exact back xd md q.2 r.2 hR2 _ _ _ hl hW
        · exact absurd he c_e
      by_cases w_22 : sw = 22
      · refine lv_tableIn (off := 723) (tgt := 756) hx hb dL_law_33 (by rw [w_22]; decide +kernel) (by rw [w_22]; decide +kernel) (by rw [w_22]; decide +kernel) (by decide) ?_
        refine lv_aload_n hx hb dL_law_756 rfl (lv_at hl 1 rfl) ?_
        obtain ⟨q, r, hq, hr2, he, hR2⟩ := sim_feigned σ μ hR
        refine lawXI (va_runV (As := []) (rest := []) ⟨hx, hb, hml, hown, hg⟩ (pSX_feigned l G hX xd σ q hq H.size) (cwV 0 hg (gV wd_3_216 wd_3_217 wd_3_218 wd_1_1 wd_3_219) rfl rfl rfl hdV_X9_feigned ⟨(Nat.le_of_ble_eq_true rfl), (Nat.le_of_ble_eq_true rfl)⟩) (lawPreX hc hW) rfl rfl hl.1 rfl (lv_room (Nat.le_of_ble_eq_true rfl)) dL_law_757 hfit) hA hW (fun H locs hW => ?_)
        refine lv_aload_n hx hb dL_law_760 rfl (lv_at hl 2 rfl) ?_
        refine lawMI (va_runV (As := []) (rest := [.int q.1]) ⟨hx, hb, hml, hown, hg⟩ (pSM_feigned l G hM md μ r hr2 H.size) (cwV 0 hg (gV wd_5_81 wd_5_82 wd_5_83 wd_1_15 wd_5_84) rfl rfl rfl hdV_X10_feigned ⟨(Nat.le_of_ble_eq_true rfl), (Nat.le_of_ble_eq_true rfl)⟩) (lawPreM hc hW) rfl rfl hl.1 rfl (lv_room (Nat.le_of_ble_eq_true rfl)) dL_law_761 hfit) hA hW (fun H locs hW => ?_)
        refine lv_icmp_eq (tgt := 861) hx hb dL_law_764 (by decide) (fun c_e => ?_) (fun c_e => ?_)
        · exact back xd md q.2 r.2 hR2 _ _ _ hl hW
        · exact absurd he c_e
      by_cases w_23 : sw = 23
      · refine lv_tableIn (off := 736) (tgt := 769) hx hb dL_law_33 (by rw [w_23]; decide +kernel) (by rw [w_23]; decide +kernel) (by rw [w_23]; decide +kernel) (by decide) ?_
        refine lv_aload_n hx hb dL_law_769 rfl (lv_at hl 1 rfl) ?_
        refine lv_aload_n hx hb dL_law_770 rfl (lv_at hl 0 rfl) ?_
        refine lv_iload_n hx hb dL_law_771 rfl (lv_at hl 3 rfl) ?_
        refine lv_iconst (v := 1) hx hb dL_law_772 (by decide) ?_
        refine lv_iadd hx hb dL_law_773 ?_
        refine va_sld hx hb hXs hbl hbA hW.2.2 v1 dL_law_774 ?_
        refine lv_aload_n hx hb dL_law_775 rfl (lv_at hl 0 rfl) ?_
        refine lv_iload_n hx hb dL_law_776 rfl (lv_at hl 3 rfl) ?_
        refine lv_iconst (v := 2) hx hb dL_law_777 (by decide) ?_
        refine lv_iadd hx hb dL_law_778 ?_
        refine va_sld hx hb hXs hbl hbA hW.2.2 v2 dL_law_779 ?_
        refine lv_aload_n hx hb dL_law_780 rfl (lv_at hl 0 rfl) ?_
        refine lv_iload_n hx hb dL_law_781 rfl (lv_at hl 3 rfl) ?_
        refine lv_iconst (v := 3) hx hb dL_law_782 (by decide) ?_
        refine lv_iadd hx hb dL_law_783 ?_
        refine va_sld hx hb hXs hbl hbA hW.2.2 v3 dL_law_784 ?_
        obtain ⟨q, r, hq, hr2, he, hR2⟩ := sim_spring ((xs (nI i + 1).toNatClampNeg)) ((xs (nI i + 2).toNatClampNeg)) ((xs (nI i + 3).toNatClampNeg)) σ μ hR
        refine lawXI (va_runV (As := [.int (xs (nI i + 1).toNatClampNeg), .int (xs (nI i + 2).toNatClampNeg), .int (xs (nI i + 3).toNatClampNeg)]) (rest := []) ⟨hx, hb, hml, hown, hg⟩ (pSX_spring l G ((xs (nI i + 1).toNatClampNeg)) ((xs (nI i + 2).toNatClampNeg)) ((xs (nI i + 3).toNatClampNeg)) hX xd σ q hq H.size) (cwV 3 hg (gV wd_3_220 wd_3_221 wd_3_222 wd_1_1 wd_3_223) rfl rfl rfl hdV_X9_spring ⟨(Nat.le_of_ble_eq_true rfl), (Nat.le_of_ble_eq_true rfl)⟩) (lawPreX hc hW) rfl rfl hl.1 rfl (lv_room (Nat.le_of_ble_eq_true rfl)) dL_law_785 hfit) hA hW (fun H locs hW => ?_)
        refine lv_aload_n hx hb dL_law_788 rfl (lv_at hl 2 rfl) ?_
        refine lv_aload_n hx hb dL_law_789 rfl (lv_at hl 0 rfl) ?_
        refine lv_iload_n hx hb dL_law_790 rfl (lv_at hl 3 rfl) ?_
        refine lv_iconst (v := 1) hx hb dL_law_791 (by decide) ?_
        refine lv_iadd hx hb dL_law_792 ?_
        refine va_sld hx hb hXs hbl hbA hW.2.2 v1 dL_law_793 ?_
        refine lv_aload_n hx hb dL_law_794 rfl (lv_at hl 0 rfl) ?_
        refine lv_iload_n hx hb dL_law_795 rfl (lv_at hl 3 rfl) ?_
        refine lv_iconst (v := 2) hx hb dL_law_796 (by decide) ?_
        refine lv_iadd hx hb dL_law_797 ?_
        refine va_sld hx hb hXs hbl hbA hW.2.2 v2 dL_law_798 ?_
        refine lv_aload_n hx hb dL_law_799 rfl (lv_at hl 0 rfl) ?_
        refine lv_iload_n hx hb dL_law_800 rfl (lv_at hl 3 rfl) ?_
        refine lv_iconst (v := 3) hx hb dL_law_801 (by decide) ?_
        refine lv_iadd hx hb dL_law_802 ?_
        refine va_sld hx hb hXs hbl hbA hW.2.2 v3 dL_law_803 ?_
        refine lawMI (va_runV (As := [.int (xs (nI i + 1).toNatClampNeg), .int (xs (nI i + 2).toNatClampNeg), .int (xs (nI i + 3).toNatClampNeg)]) (rest := [.int q.1]) ⟨hx, hb, hml, hown, hg⟩ (pSM_spring l G ((xs (nI i + 1).toNatClampNeg)) ((xs (nI i + 2).toNatClampNeg)) ((xs (nI i + 3).toNatClampNeg)) hM md μ r hr2 H.size) (cwV 3 hg (gV wd_5_85 wd_5_86 wd_5_87 wd_1_15 wd_5_88) rfl rfl rfl hdV_X10_spring ⟨(Nat.le_of_ble_eq_true rfl), (Nat.le_of_ble_eq_true rfl)⟩) (lawPreM hc hW) rfl rfl hl.1 rfl (lv_room (Nat.le_of_ble_eq_true rfl)) dL_law_804 hfit) hA hW (fun H locs hW => ?_)
        refine lv_icmp_eq (tgt := 861) hx hb dL_law_807 (by decide) (fun c_e => ?_) (fun c_e => ?_)
        · exact back xd md q.2 r.2 hR2 _ _ _ hl hW
        · exact absurd he c_e
      by_cases w_24 : sw = 24
      · refine lv_tableIn (off := 779) (tgt := 812) hx hb dL_law_33 (by rw [w_24]; decide +kernel) (by rw [w_24]; decide +kernel) (by rw [w_24]; decide +kernel) (by decide) ?_
        refine lv_aload_n hx hb dL_law_812 rfl (lv_at hl 1 rfl) ?_
        obtain ⟨q, r, hq, hr2, he, hR2⟩ := sim_keep σ μ hR
        refine lawXI (va_runV (As := []) (rest := []) ⟨hx, hb, hml, hown, hg⟩ (pSX_keep l G hX xd σ q hq H.size) (cwV 0 hg (gV wd_3_232 wd_3_233 wd_3_234 wd_1_1 wd_3_235) rfl rfl rfl hdV_X9_keep ⟨(Nat.le_of_ble_eq_true rfl), (Nat.le_of_ble_eq_true rfl)⟩) (lawPreX hc hW) rfl rfl hl.1 rfl (lv_room (Nat.le_of_ble_eq_true rfl)) dL_law_813 hfit) hA hW (fun H locs hW => ?_)
        refine lv_aload_n hx hb dL_law_816 rfl (lv_at hl 2 rfl) ?_
        refine lawMI (va_runV (As := []) (rest := [.int q.1]) ⟨hx, hb, hml, hown, hg⟩ (pSM_keep l G hM md μ r hr2 H.size) (cwV 0 hg (gV wd_5_92 wd_5_93 wd_5_94 wd_1_15 wd_5_95) rfl rfl rfl hdV_X10_keep ⟨(Nat.le_of_ble_eq_true rfl), (Nat.le_of_ble_eq_true rfl)⟩) (lawPreM hc hW) rfl rfl hl.1 rfl (lv_room (Nat.le_of_ble_eq_true rfl)) dL_law_817 hfit) hA hW (fun H locs hW => ?_)
        refine lv_icmp_eq (tgt := 861) hx hb dL_law_820 (by decide) (fun c_e => ?_) (fun c_e => ?_)
        · exact back xd md q.2 r.2 hR2 _ _ _ hl hW
        · exact absurd he c_e
      by_cases w_25 : sw = 25
      · refine lv_tableIn (off := 792) (tgt := 825) hx hb dL_law_33 (by rw [w_25]; decide +kernel) (by rw [w_25]; decide +kernel) (by rw [w_25]; decide +kernel) (by decide) ?_
        refine lv_aload_n hx hb dL_law_825 rfl (lv_at hl 1 rfl) ?_
        obtain ⟨q, r, hq, hr2, he, hR2⟩ := sim_back σ μ hR
        refine lawXI (va_runV (As := []) (rest := []) ⟨hx, hb, hml, hown, hg⟩ (pSX_back l G hX xd σ q hq H.size) (cwV 0 hg (gV wd_4_3 wd_4_4 wd_4_5 wd_1_1 wd_4_6) rfl rfl rfl hdV_X9_back ⟨(Nat.le_of_ble_eq_true rfl), (Nat.le_of_ble_eq_true rfl)⟩) (lawPreX hc hW) rfl rfl hl.1 rfl (lv_room (Nat.le_of_ble_eq_true rfl)) dL_law_826 hfit) hA hW (fun H locs hW => ?_)
        refine lv_aload_n hx hb dL_law_829 rfl (lv_at hl 2 rfl) ?_
        refine lawMI (va_runV (As := []) (rest := [.int q.1]) ⟨hx, hb, hml, hown, hg⟩ (pSM_back l G hM md μ r hr2 H.size) (cwV 0 hg (gV wd_5_100 wd_5_101 wd_5_102 wd_1_15 wd_5_103) rfl rfl rfl hdV_X10_back ⟨(Nat.le_of_ble_eq_true rfl), (Nat.le_of_ble_eq_true rfl)⟩) (lawPreM hc hW) rfl rfl hl.1 rfl (lv_room (Nat.le_of_ble_eq_true rfl)) dL_law_830 hfit) hA hW (fun H locs hW => ?_)
        refine lv_icmp_eq (tgt := 861) hx hb dL_law_833 (by decide) (fun c_e => ?_) (fun c_e => ?_)
        · exact back xd md q.2 r.2 hR2 _ _ _ hl hW
        · exact absurd he c_e
      by_cases w_26 : sw = 26
      · refine lv_tableIn (off := 805) (tgt := 838) hx hb dL_law_33 (by rw [w_26]; decide +kernel) (by rw [w_26]; decide +kernel) (by rw [w_26]; decide +kernel) (by decide) ?_
        refine lv_aload_n hx hb dL_law_838 rfl (lv_at hl 1 rfl) ?_
        refine lv_aload_n hx hb dL_law_839 rfl (lv_at hl 0 rfl) ?_
        refine lv_iload_n hx hb dL_law_840 rfl (lv_at hl 3 rfl) ?_
        refine lv_iconst (v := 1) hx hb dL_law_841 (by decide) ?_
        refine lv_iadd hx hb dL_law_842 ?_
        refine va_sld hx hb hXs hbl hbA hW.2.2 v1 dL_law_843 ?_
        obtain ⟨q, r, hq, hr2, he, hR2⟩ := sim_count ((xs (nI i + 1).toNatClampNeg)) σ μ hR
        refine lawXI (va_runV (As := [.int (xs (nI i + 1).toNatClampNeg)]) (rest := []) ⟨hx, hb, hml, hown, hg⟩ (pSX_count l G ((xs (nI i + 1).toNatClampNeg)) hX xd σ q hq H.size) (cwV 1 hg (gV wd_4_7 wd_4_8 wd_4_9 wd_1_1 wd_4_10) rfl rfl rfl hdV_X9_count ⟨(Nat.le_of_ble_eq_true rfl), (Nat.le_of_ble_eq_true rfl)⟩) (lawPreX hc hW) rfl rfl hl.1 rfl (lv_room (Nat.le_of_ble_eq_true rfl)) dL_law_844 hfit) hA hW (fun H locs hW => ?_)
        refine lv_aload_n hx hb dL_law_847 rfl (lv_at hl 2 rfl) ?_
        refine lv_aload_n hx hb dL_law_848 rfl (lv_at hl 0 rfl) ?_
        refine lv_iload_n hx hb dL_law_849 rfl (lv_at hl 3 rfl) ?_
        refine lv_iconst (v := 1) hx hb dL_law_850 (by decide) ?_
        refine lv_iadd hx hb dL_law_851 ?_
        refine va_sld hx hb hXs hbl hbA hW.2.2 v1 dL_law_852 ?_
        refine lawMI (va_runV (As := [.int (xs (nI i + 1).toNatClampNeg)]) (rest := [.int q.1]) ⟨hx, hb, hml, hown, hg⟩ (pSM_count l G ((xs (nI i + 1).toNatClampNeg)) hM md μ r hr2 H.size) (cwV 1 hg (gV wd_5_104 wd_5_105 wd_5_106 wd_1_15 wd_5_107) rfl rfl rfl hdV_X10_count ⟨(Nat.le_of_ble_eq_true rfl), (Nat.le_of_ble_eq_true rfl)⟩) (lawPreM hc hW) rfl rfl hl.1 rfl (lv_room (Nat.le_of_ble_eq_true rfl)) dL_law_853 hfit) hA hW (fun H locs hW => ?_)
        refine lv_icmp_eq (tgt := 861) hx hb dL_law_856 (by decide) (fun c_e => ?_) (fun c_e => ?_)
        · exact back xd md q.2 r.2 hR2 _ _ _ hl hW
        · exact absurd he c_e
      refine lv_tableOut (tgt := 861) hx hb dL_law_33 (by have g0 := i32_ne (k := 0) rfl w_0; have g1 := i32_ne (k := 1) rfl w_1; have g2 := i32_ne (k := 2) rfl w_2; have g3 := i32_ne (k := 3) rfl w_3; have g4 := i32_ne (k := 4) rfl w_4; have g5 := i32_ne (k := 5) rfl w_5; have g6 := i32_ne (k := 6) rfl w_6; have g7 := i32_ne (k := 7) rfl w_7; have g8 := i32_ne (k := 8) rfl w_8; have g9 := i32_ne (k := 9) rfl w_9; have g10 := i32_ne (k := 10) rfl w_10; have g11 := i32_ne (k := 11) rfl w_11; have g12 := i32_ne (k := 12) rfl w_12; have g13 := i32_ne (k := 13) rfl w_13; have g14 := i32_ne (k := 14) rfl w_14; have g15 := i32_ne (k := 15) rfl w_15; have g16 := i32_ne (k := 16) rfl w_16; have g17 := i32_ne (k := 17) rfl w_17; have g18 := i32_ne (k := 18) rfl w_18; have g19 := i32_ne (k := 19) rfl w_19; have g20 := i32_ne (k := 20) rfl w_20; have g21 := i32_ne (k := 21) rfl w_21; have g22 := i32_ne (k := 22) rfl w_22; have g23 := i32_ne (k := 23) rfl w_23; have g24 := i32_ne (k := 24) rfl w_24; have g25 := i32_ne (k := 25) rfl w_25; have g26 := i32_ne (k := 26) rfl w_26; omega) (by decide) ?_
      exact back xd md σ μ hR _ _ _ hl hW
