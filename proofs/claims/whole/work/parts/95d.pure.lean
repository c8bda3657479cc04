/-! pure rows: BELIEF, FEIGNED -/
theorem dW_le {n ns nw : Nat} {lg wn sgn sd wd : Nat → Nat} {d sc wc : Int32} {da wa dy sn wk lt cs cn go no m2 mt wo : Nat → Int32} (hD : DYH n ns nw sd wd d da wa dy sn wk) (hT : TWH ns nw lg wn sgn sc wc lt cs cn go no m2 mt wo) : tot (dW lg wn sgn nw ns sd wd n) ≤ 2 ^ 50 :=
  dps_lt hT.2.1 hD.1 (fun j h => (hT.2.2.2.2.2.2.2.2.1 j h).1.2)
theorem red_b {W : Nat → Nat} (h : tot W ≤ 2 ^ 50) (h0 : tot W ≠ 0) : 0 < gg W ∧ 0 < tot (red W) ∧ gg W * tot (red W) ≤ 2 ^ 50 ∧ tot (red W) ≤ 2 ^ 50 := by
  have h1 := gg_pos h0
  have h2 := red_tot W
  have h3 := Nat.le_mul_of_pos_left (tot (red W)) h1
  exact ⟨h1, red_pos h0, by omega, by omega⟩
theorem can9_0 {n ns nw : Nat} {lg wn sgn sd wd : Nat → Nat} {d sc wc : Int32} {da wa dy sn wk lt cs cn go no m2 mt wo : Nat → Int32} (hD : DYH n ns nw sd wd d da wa dy sn wk) (hT : TWH ns nw lg wn sgn sc wc lt cs cn go no m2 mt wo) (h0 : tot (dW lg wn sgn nw ns sd wd n) = 0) (t : Int64) (ca st : Nat → Int64) :
    ∃ ca' st', F_X9_diaryCanBe d da wa t ca st sc wc lt cs cn = some (0, 0, ca', st') := by
  obtain ⟨ca', st', g1, g2⟩ := e_can9 hD hT t ca st
  rw [if_pos h0] at g1
  exact ⟨ca', st', g1⟩
theorem can9_1 {n ns nw : Nat} {lg wn sgn sd wd : Nat → Nat} {d sc wc : Int32} {da wa dy sn wk lt cs cn go no m2 mt wo : Nat → Int32} (hD : DYH n ns nw sd wd d da wa dy sn wk) (hT : TWH ns nw lg wn sgn sc wc lt cs cn go no m2 mt wo) (h0 : tot (dW lg wn sgn nw ns sd wd n) ≠ 0) (t : Int64) (ca st : Nat → Int64) :
    ∃ ca' st', F_X9_diaryCanBe d da wa t ca st sc wc lt cs cn = some (1, 0, ca', st') ∧ SLP ca' st' (fun s => gg (dW lg wn sgn nw ns sd wd n) * red (dW lg wn sgn nw ns sd wd n) s) := by
  obtain ⟨ca', st', g1, g2⟩ := e_can9 hD hT t ca st
  rw [if_neg h0] at g1
  exact ⟨ca', st', g1, SLP_congr g2 (red_ok _)⟩
theorem find10_0 {n ns nw : Nat} {lg wn sgn sd wd : Nat → Nat} {d sc wc : Int32} {da wa dy sn wk lt cs cn go no m2 mt wo : Nat → Int32} (hD : DYH n ns nw sd wd d da wa dy sn wk) (hT : TWH ns nw lg wn sgn sc wc lt cs cn go no m2 mt wo) (h0 : tot (dW lg wn sgn nw ns sd wd n) = 0) (th w : Nat → Int64) :
    ∃ th' w', F_X10_find dy go no sn m2 th mt w wk wo = some (0, th', w') := by
  obtain ⟨th', w', g1, g2⟩ := e_find10 hD hT th w
  rw [if_pos h0] at g1
  exact ⟨th', w', g1⟩
theorem find10_1 {n ns nw : Nat} {lg wn sgn sd wd : Nat → Nat} {d sc wc : Int32} {da wa dy sn wk lt cs cn go no m2 mt wo : Nat → Int32} (hD : DYH n ns nw sd wd d da wa dy sn wk) (hT : TWH ns nw lg wn sgn sc wc lt cs cn go no m2 mt wo) (h0 : tot (dW lg wn sgn nw ns sd wd n) ≠ 0) (th w : Nat → Int64) :
    ∃ th' w', F_X10_find dy go no sn m2 th mt w wk wo = some (1, th', w') ∧ LW w' (red (dW lg wn sgn nw ns sd wd n)) := by
  obtain ⟨th', w', g1, g2⟩ := e_find10 hD hT th w
  rw [if_neg h0] at g1
  exact ⟨th', w', g1, g2 h0⟩
theorem tot_ge (u : Nat → Nat) {s : Nat} (hs : s < 3) : u s ≤ tot u := by
  rw [tot]
  rcases j3 hs with rfl | rfl | rfl <;> omega
theorem ne10 : ¬ ((1 : Int32) = 0) := by decide
theorem fw_belief (x y : Int32) {n ns nw : Nat} {lg wn sgn sd wd : Nat → Nat} {d sc wc : Int32} {da wa dy sn wk lt cs cn go no m2 mt wo : Nat → Int32} (hD : DYH n ns nw sd wd d da wa dy sn wk) (hT : TWH ns nw lg wn sgn sc wc lt cs cn go no m2 mt wo) (t : Int64) (ca st th w : Nat → Int64) :
    ∃ o1 o2, F_X9_belief x y d da wa t ca st sc wc lt cs cn = some o1 ∧ F_X10_belief x y dy go no sn m2 th mt w wk wo = some o2 ∧ o1.1 = o2.1 := by
  rcases win_c x 0 2 with hw | ⟨hw, a1, a2⟩
  · exact ⟨_, _, by rw [F_X9_belief, e_within, hw, b0], by rw [F_X10_belief, e_in, hw, b0], rfl⟩
  · obtain ⟨s, hs, rfl⟩ := rngk (n := 2) (by decide) a1 a2
    rcases win_c y 0 1 with hv | ⟨hv, c1, c2⟩
    · exact ⟨_, _, by rw [F_X9_belief, e_within, hw, b1, e_within, hv, b0], by rw [F_X10_belief, e_in, hw, b1, e_in, hv, b0], rfl⟩
    · by_cases h0 : tot (dW lg wn sgn nw ns sd wd n) = 0
      · obtain ⟨ca1, st1, g1⟩ := can9_0 hD hT h0 t ca st
        obtain ⟨th1, w1, k1⟩ := find10_0 hD hT h0 th w
        refine ⟨(-4, 0, ca1, st1), (-4, th1, w1), ?_, ?_, rfl⟩
        · rw [F_X9_belief, e_within, hw, b1, e_within, hv, b1, g1, sb, if_pos rfl]
        · rw [F_X10_belief, e_in, hw, b1, e_in, hv, b1, k1, sb, if_pos rfl]
      · obtain ⟨ca1, st1, g1, g2⟩ := can9_1 hD hT h0 t ca st
        obtain ⟨th1, w1, k1, k2⟩ := find10_1 hD hT h0 th w
        obtain ⟨r1, r2, r3, r4⟩ := red_b (dW_le hD hT) h0
        revert g2 k2 r1 r2 r3 r4
        generalize gg (dW lg wn sgn nw ns sd wd n) = g
        generalize red (dW lg wn sgn nw ns sd wd n) = u
        intro g2 k2 r1 r2 r3 r4
        have q1 := tot_ge u (s := s) (by omega)
        have q2 := Nat.mul_le_mul_left g q1
        refine ⟨(lN (low (u s) (tot u) y), 0, ca1, st1), (lN (low (u s) (tot u) y), th1, w1), ?_, ?_, rfl⟩
        · rw [F_X9_belief, e_within, hw, b1, e_within, hv, b1, g1, sb, if_neg ne10]
          dsimp only
          rw [e_ways3 g2 (by omega), sb, e_tot9 g2, sb, tot_mul, e_low9 (by omega) (by omega) (Nat.mul_pos r1 r2), sb, low_mul r1]
        · rw [F_X10_belief, e_in, hw, b1, e_in, hv, b1, k1, sb, if_neg ne10, if_pos (in3 (by omega))]
          dsimp only
          rw [e_tot10 k2, sb, cl3 (by omega), k2 s (by omega), e_low10 (by omega) (by omega) r2, sb]
/-- how likely all of it is, the signs of one day left out -/
def fgd (lg wn sgn : Nat → Nat) (nw ns : Nat) (sd wd : Nat → Nat) (n d : Nat) : Nat := tot (dps lg wn sgn nw ns sd wd (fun i => decide (i = d)) n 0 w00)
theorem orb : ∀ a, a < 32 → ∀ d, d < 5 → nI a ||| ((1 : Int32) <<< (nI d &&& 31)) = nI (a ||| 2 ^ d) ∧ 0 < a ||| 2 ^ d ∧ a ||| 2 ^ d < 32 := by decide +kernel
theorem orz (d : Nat) : (0 : Nat) ||| 2 ^ d = 2 ^ d := Nat.zero_or _
def FIN (M : Nat) (Dc Rr : Int32) : Prop := M ≤ 2 ^ 50 ∧ ((M = 0 ∧ Rr = 0) ∨ (0 < M ∧ ∃ c : Nat, 0 < c ∧ c < 32 ∧ Dc = nI c ∧ Rr = nI c))
theorem l_feigned {n ns nw : Nat} {lg wn sgn sd wd : Nat → Nat} {d sc wc : Int32} {da wa dy sn wk lt cs cn go no m2 mt wo : Nat → Int32} (hD : DYH n ns nw sd wd d da wa dy sn wk) (hT : TWH ns nw lg wn sgn sc wc lt cs cn go no m2 mt wo)
    (k9 : Int64 → Int32 → Int64 → (Nat → Int64) → (Nat → Int64) → Option (Int32 × Int64 × (Nat → Int64) × (Nat → Int64))) (k10 : Int32 → (Nat → Int64) → (Nat → Int64) → Option (Int32 × (Nat → Int64) × (Nat → Int64))) :
    ∀ (r i f g : Nat) (M : Nat) (Dc Rr : Int32) (t : Int64) (ca st th w : Nat → Int64), i + r = n → r < f → r < g → FIN M Dc Rr →
    ∃ M' Dc' Rr' t' ca' st' th' w', L_X9_feigned_7 d da wa sc wc lt cs cn k9 f (lN M) Dc (nI i) t ca st = k9 (lN M') Dc' t' ca' st' ∧ L_X10_feigned_7 dy go no sn m2 mt wk wo k10 g Rr (lN M) (nI i) th w = k10 Rr' th' w' ∧ FIN M' Dc' Rr' := by
  obtain ⟨hn, rfl, hdy, hd⟩ := hD
  obtain ⟨hns1, hns, hnw, rfl, rfl, h2, ho, hl, hs, hw⟩ := hT
  have hdy' : dy (Int32.toNatClampNeg 0) = nI n := hdy
  intro r
  induction r with
  | zero =>
    intro i f g M Dc Rr t ca st th w hi hf hg h
    obtain ⟨f, rfl⟩ : ∃ x, f = x + 1 := ⟨f - 1, by omega⟩
    obtain ⟨g, rfl⟩ : ∃ x, g = x + 1 := ⟨g - 1, by omega⟩
    exact ⟨M, Dc, Rr, t, ca, st, th, w, by rw [L_X9_feigned_7, if_pos (nI_le (a := n) (b := i) (by omega) (by omega))], by rw [L_X10_feigned_7, hdy', if_pos (nI_le (a := n) (b := i) (by omega) (by omega))], h⟩
  | succ r ih =>
    intro i f g M Dc Rr t ca st th w hi hf hg h
    obtain ⟨f, rfl⟩ : ∃ x, f = x + 1 := ⟨f - 1, by omega⟩
    obtain ⟨g, rfl⟩ : ∃ x, g = x + 1 := ⟨g - 1, by omega⟩
    have hb : ∀ j, j < n → (nI j = nI i ↔ (fun q => decide (q = i)) j = true) := fun j hj => (nI_eq (a := j) (b := i) (by omega) (by omega)).trans decide_eq_true_iff.symm
    have hv := dps_lt (lg := lg) (wn := wn) (nw := nw) (sd := sd) (wd := wd) (bf := fun q => decide (q = i)) hns hn (fun j h => (hs j h).1.2)
    obtain ⟨ca1, st1, g1, g2⟩ := e_pass9 (x3 := nI i) hns hnw hn (fun j h => (hl j h).1) (fun j h => (hs j h).1) (fun j h => (hw j h).1) (fun j h => (hd j h).1) hb t ca st
    obtain ⟨th1, w1, k1, k2⟩ := e_read10 (x1 := nI i) hns hnw hn (fun j h => (hl j h).2) (fun j h => (hs j h).2) h2 ho (fun j h => (hw j h).2) hdy (fun j h => (hd j h).2) hb th w
    have g3 := e_tot9 g2
    have k3 := e_tot10 k2
    revert g3 k3 hv
    generalize tot (dps lg wn sgn nw ns sd wd (fun q => decide (q = i)) n 0 w00) = v
    intro hv g3 k3
    obtain ⟨hM, hI⟩ := h
    have o0 := orb 0 (by decide) i (by omega)
    rw [orz] at o0
    rw [L_X9_feigned_7, L_X10_feigned_7, hdy', if_neg (nI_ge (a := i) (b := n) (by omega) (by omega)), if_neg (nI_ge (a := i) (b := n) (by omega) (by omega)), g1, sb, k1, sb]
    dsimp only
    rw [g3, sb, k3, sb, jn, jn, nI_1]
    by_cases hc : v ≤ M
    · have c1 := (cmp_le (a := v) (b := M) (by omega) (by omega)).mpr hc
      rw [if_pos c1, if_pos c1]
      try dsimp only [jn]
      rw [if_pos c1]
      by_cases he : v = M
      · have c2 := (cmp_eq (a := v) (b := M) (by omega) (by omega)).mpr he
        rw [if_pos c2, if_pos c2]
        rcases hI with ⟨m0, rz⟩ | ⟨m1, c, hc0, hc1, rfl, rfl⟩
        · have c3 : lg_cmp (lN v) 0 ≤ 0 := (cmp_le0 (by omega)).mpr (by omega)
          rw [if_pos c3]
          exact ih (i + 1) f g M _ Rr _ ca1 st1 th1 w1 (by omega) (by omega) (by omega) ⟨hM, Or.inl ⟨m0, rz⟩⟩
        · have c3 : ¬ lg_cmp (lN v) 0 ≤ 0 := fun e => absurd ((cmp_le0 (by omega)).mp e) (by omega)
          have o1 := orb c hc1 i (by omega)
          rw [if_neg c3, o1.1, if_pos c1]
          exact ih (i + 1) f g M _ _ _ ca1 st1 th1 w1 (by omega) (by omega) (by omega) ⟨hM, Or.inr ⟨m1, c ||| 2 ^ i, o1.2.1, o1.2.2, rfl, rfl⟩⟩
      · have c2 : ¬ lg_cmp (lN v) (lN M) = 0 := fun e => he ((cmp_eq (a := v) (b := M) (by omega) (by omega)).mp e)
        rw [if_neg c2, if_neg c2]
        exact ih (i + 1) f g M _ _ _ ca1 st1 th1 w1 (by omega) (by omega) (by omega) ⟨hM, hI⟩
    · have c1 : ¬ lg_cmp (lN v) (lN M) ≤ 0 := fun e => hc ((cmp_le (a := v) (b := M) (by omega) (by omega)).mp e)
      rw [if_neg c1, if_neg c1]
      try dsimp only [jn]
      rw [if_neg c1, if_pos ((cmp_eq (a := v) (b := v) (by omega) (by omega)).mpr rfl), show (0 : Int32) ||| ((1 : Int32) <<< (nI i &&& 31)) = nI (2 ^ i) from o0.1, shl1 i (by omega)]
      exact ih (i + 1) f g v _ _ _ ca1 st1 th1 w1 (by omega) (by omega) (by omega) ⟨hv, Or.inr ⟨by omega, 2 ^ i, o0.2.1, o0.2.2, rfl, rfl⟩⟩
theorem fw_feigned {n ns nw : Nat} {lg wn sgn sd wd : Nat → Nat} {d sc wc : Int32} {da wa dy sn wk lt cs cn go no m2 mt wo : Nat → Int32} (hD : DYH n ns nw sd wd d da wa dy sn wk) (hT : TWH ns nw lg wn sgn sc wc lt cs cn go no m2 mt wo) (t : Int64) (ca st th w : Nat → Int64) :
    ∃ o1 o2, F_X9_feigned d da wa t ca st sc wc lt cs cn = some o1 ∧ F_X10_feigned dy go no sn m2 th mt w wk wo = some o2 ∧ o1.1 = o2.1 := by
  have hn := hD.1
  rw [F_X9_feigned, F_X10_feigned, jn, jn]
  obtain ⟨M, Dc, Rr, t1, ca1, st1, th1, w1, g1, g2, g3, g4⟩ := l_feigned hD hT (fun (x1_77 : Int64) (x3_77 : Int32) (v_now_turned_77 : Int64) (a_now_came_77 : Nat → Int64) (a_now_stayed_77 : Nat → Int64) => (if (lg_cmp x1_77 0) = 0 then some ((-4), v_now_turned_77, a_now_came_77, a_now_stayed_77) else some (x3_77, v_now_turned_77, a_now_came_77, a_now_stayed_77))) (fun (x1_89 : Int32) (a_then_89 : Nat → Int64) (a_weight_89 : Nat → Int64) => (if x1_89 = 0 then some ((-4), a_then_89, a_weight_89) else some (x1_89, a_then_89, a_weight_89))) n 0 5000 5000 0 0 0 t ca st th w (by omega) (by omega) (by omega) ⟨by decide, Or.inl ⟨rfl, rfl⟩⟩
  rcases g4 with ⟨m0, rz⟩ | ⟨m1, c, hc0, hc1, rfl, rfl⟩
  · refine ⟨(-4, t1, ca1, st1), (-4, th1, w1), g1.trans ?_, g2.trans ?_, rfl⟩
    · rw [if_pos ((cmp0 (by omega)).mpr m0)]
    · rw [if_pos rz]
  · refine ⟨(nI c, t1, ca1, st1), (nI c, th1, w1), g1.trans ?_, g2.trans ?_, rfl⟩
    · rw [if_neg (fun e => absurd ((cmp0 (by omega)).mp e) (by omega))]
    · rw [if_neg (nI_ne0 hc0 (by omega))]
