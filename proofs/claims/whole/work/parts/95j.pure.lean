/-! pure rows: TELLS -/
theorem l_tells0 {ns nw m : Nat} {lg wn sgn u : Nat → Nat} {go no m2 mt wo : Nat → Int32} (hns : ns ≤ 4) (hm : m < 64) (hnw : nw ≤ 5) (hl : ∀ j, j < 3 → go j = nI (lg j) ∧ lg j ≤ 4) (h2 : m2 0 = nI ns) (ho : wo 0 = nI nw) (hw : ∀ j, j < nw → no j = nI (wn j) ∧ wn j ≤ 4) (hs : ∀ j, j < 4 * ns → mt j = nI (sgn j) ∧ sgn j ≤ 4)
    {w : Nat → Int64} (hu : LW w u) (ht : tot u ≤ 2 ^ 50) (hN0 : tot (nxt (ccf lg wn nw m) (fun _ _ => 1) u) = 0) (q11 : Int32 × (Nat → Int64) × (Nat → Int64)) :
    ∀ (r i e : Nat) (le sa : Int64), i + r = ns → r < e → ∃ sa', L_X10_tells_28 (nI m) go no m2 mt wo q11 e (-4) le (nI i) sa w = some (-4, sa', q11.2.1, w) := by
  have h2' : m2 (Int32.toNatClampNeg 0) = nI ns := h2
  intro r
  induction r with
  | zero =>
    intro i e le sa hi he
    obtain ⟨e, rfl⟩ : ∃ x, e = x + 1 := ⟨e - 1, by omega⟩
    exact ⟨sa, by rw [L_X10_tells_28, h2', if_pos (nI_le (a := ns) (b := i) (by omega) (by omega))]⟩
  | succ r ih =>
    intro i e le sa hi he
    obtain ⟨e, rfl⟩ : ∃ x, e = x + 1 := ⟨e - 1, by omega⟩
    have p3 := e_sup10 (k := i) (m := m) (sg := sgn) hns (by omega) (by omega) hnw hl ho hw hs hu sa
    have q1 := sgt_le (k := i) (ns := ns) (by omega) (fun j h => (hs j h).2) (cc := ccf lg wn nw m) (fun s _ => mn4_le _) u
    rw [L_X10_tells_28, h2', if_neg (nI_ge (a := i) (b := ns) (by omega) (by omega)), p3, sb]
    dsimp only
    rw [show (2 : Int64) * lN (sgt (ccf lg wn nw m) u sgn i) = lN (2 * sgt (ccf lg wn nw m) u sgn i) from lN_mul 2 _, e_abs10 (by omega) (by omega), jn, hN0]
    try dsimp only
    rw [if_pos (show lg_cmp (lN (256 * 0)) 0 ≤ 0 by decide), nI_1]
    exact ih (i + 1) e _ _ (by omega) (by omega)
theorem fw_tells (x : Int32) {n ns nw : Nat} {lg wn sgn sd wd : Nat → Nat} {d sc wc : Int32} {da wa dy sn wk lt cs cn go no m2 mt wo : Nat → Int32} (hD : DYH n ns nw sd wd d da wa dy sn wk) (hT : TWH ns nw lg wn sgn sc wc lt cs cn go no m2 mt wo) (ft t al : Int64) (fc fs ca st th w : Nat → Int64) :
    ∃ o1 o2, F_X9_tells x d da wa ft fc fs t ca st sc wc lt cs cn = some o1 ∧ F_X10_tells x al dy go no sn m2 th mt w wk wo = some o2 ∧ o1.1 = o2.1 := by
  have hT' := hT
  obtain ⟨hns1, hns, hnw, hsc, hwc, h2, ho, hl, hs, hw⟩ := hT'
  have hp := pow6 nw (by omega)
  have h2' : m2 (Int32.toNatClampNeg 0) = nI ns := h2
  have e1 : F_X9_isSet x wc = some (win x 0 (nI (2 ^ nw) - 1)) := by rw [hwc]; exact e_isSet (by omega) x
  have e2 := e_areWorks (n := nw) (by omega) x wo ho
  rcases win_c x 0 (nI (2 ^ nw) - 1) with hw2 | ⟨hw2, c1, c2⟩
  · exact ⟨_, _, by rw [F_X9_tells, e1, hw2, b0], by rw [F_X10_tells, e2, hw2, b0], rfl⟩
  obtain ⟨m, hm, rfl⟩ := rng (by omega) c1 c2
  by_cases h0 : tot (dW lg wn sgn nw ns sd wd n) = 0
  · obtain ⟨ca1, st1, g1⟩ := can9_0 hD hT h0 t ca st
    obtain ⟨th1, w1, k1⟩ := find10_0 hD hT h0 th w
    refine ⟨(-4, ft, fc, fs, 0, ca1, st1), (-4, al, th1, w1), ?_, ?_, rfl⟩
    · rw [F_X9_tells, e1, hw2, b1, g1, sb, if_pos rfl]
    · rw [F_X10_tells, e2, hw2, b1, k1, sb, if_pos rfl]
  · obtain ⟨ca1, st1, g1, g2⟩ := can9_1 hD hT h0 t ca st
    obtain ⟨th1, w1, k1, k2⟩ := find10_1 hD hT h0 th w
    obtain ⟨r1, r2, r3, r4⟩ := red_b (dW_le hD hT) h0
    have hb := dW_le hD hT
    have htm := tot_mul (gg (dW lg wn sgn nw ns sd wd n)) (red (dW lg wn sgn nw ns sd wd n))
    revert g2 k2 r1 r2 r3 r4 htm
    generalize gg (dW lg wn sgn nw ns sd wd n) = g
    generalize red (dW lg wn sgn nw ns sd wd n) = u
    intro g2 k2 r1 r2 r3 r4 htm
    obtain ⟨t2, ca2, st2, n1, n2, n3⟩ := e_next9 (m := m) (by omega) hnw (fun j h => (hl j h).1) (fun j h => (hw j h).1) g2 (by omega) ft fc fs
    rw [nxt_g] at n1
    rw [F_X9_tells, e1, hw2, b1, g1, sb, if_neg ne10, F_X10_tells, e2, hw2, b1, k1, sb, if_neg ne10]
    dsimp only
    rw [hwc, n1, sb]
    by_cases hN : tot (nxt (ccf lg wn nw m) (fun _ _ => 1) u) = 0
    · obtain ⟨sa', l1⟩ := l_tells0 (m := m) hns (by omega) hnw (fun j h => (hl j h).2) h2 ho (fun j h => (hw j h).2) (fun j h => (hs j h).2) k2 r4 hN (1, th1, w1) ns 0 5000 0 al (by omega) (by omega)
      refine ⟨(-4, t2, ca2, st2, 0, ca1, st1), (-4, sa', th1, w1), ?_, l1, rfl⟩
      rw [if_pos (show g * tot (nxt (ccf lg wn nw m) (fun _ _ => 1) u) = 0 by rw [hN, Nat.mul_zero]), if_pos rfl]
    · have hgN : g * tot (nxt (ccf lg wn nw m) (fun _ _ => 1) u) ≠ 0 := Nat.mul_ne_zero (by omega) hN
      rw [if_neg hgN, if_neg ne10]
      dsimp only
      have q2 := tot_go (cc := ccf lg wn nw m) (fun s _ => mn4_le _) u
      have q4 := bd1024 (g := g) (x := 256 * tot (nxt (ccf lg wn nw m) (fun _ _ => 1) u)) r3 (by omega)
      have q6 := Nat.le_mul_of_pos_left (256 * tot (nxt (ccf lg wn nw m) (fun _ _ => 1) u)) r1
      have q1 := sgt_le (k := 0) (ns := ns) (by omega) (fun j h => (hs j h).1.2) (cc := ccf lg wn nw m) (fun s _ => mn4_le _) u
      have q3 := bd1024 (g := g) (x := sgt (ccf lg wn nw m) u sgn 0) r3 q1
      have q5 : g * (2 * sgt (ccf lg wn nw m) u sgn 0) = 2 * (g * sgt (ccf lg wn nw m) u sgn 0) := Nat.mul_left_comm _ _ _
      have p1 := e_sgt9 (k := 0) (sg := sgn) hns (by omega) (fun j h => (hs j h).1) n2 n3
      have p2 := e_tot9 (SLP_go (cc := ccf lg wn nw m) n2 n3)
      rw [nxt_g] at p2
      rw [sgt_g] at p1
      have aw : F_X9_awayFromHalf 0 ca2 st2 cs = some (lN (g * adf (2 * sgt (ccf lg wn nw m) u sgn 0) (256 * tot (nxt (ccf lg wn nw m) (fun _ _ => 1) u)))) := by
        rw [F_X9_awayFromHalf, show F_X5_sightings 0 cs ca2 st2 = _ from p1, sb, p2, sb, show (2 : Int64) * lN (g * sgt (ccf lg wn nw m) u sgn 0) = lN (2 * (g * sgt (ccf lg wn nw m) u sgn 0)) from lN_mul 2 _, show lN (g * tot (nxt (ccf lg wn nw m) (fun _ _ => 1) u)) * 256 = lN (g * tot (nxt (ccf lg wn nw m) (fun _ _ => 1) u) * 256) from lN_mul _ 256, ← q5, show g * tot (nxt (ccf lg wn nw m) (fun _ _ => 1) u) * 256 = g * (256 * tot (nxt (ccf lg wn nw m) (fun _ _ => 1) u)) by rw [Nat.mul_assoc, Nat.mul_comm _ 256], e_abs9 (by omega) (by omega), adf_g]
      rw [aw, sb, hsc]
      have p3 := e_sup10 (k := 0) (m := m) (sg := sgn) hns (by omega) (by omega) hnw (fun j h => (hl j h).2) ho (fun j h => (hw j h).2) (fun j h => (hs j h).2) k2 al
      have first : ∀ e, 1 ≤ e → L_X10_tells_28 (nI m) go no m2 mt wo (1, th1, w1) e (-4) 0 (nI 0) al w1 = L_X10_tells_28 (nI m) go no m2 mt wo (1, th1, w1) (e - 1) (nI 0) (lN (adf (2 * sgt (ccf lg wn nw m) u sgn 0) (256 * tot (nxt (ccf lg wn nw m) (fun _ _ => 1) u)))) (nI 1) (lN (256 * tot (nxt (ccf lg wn nw m) (fun _ _ => 1) u))) w1 := by
        intro e he
        obtain ⟨e, rfl⟩ : ∃ x, e = x + 1 := ⟨e - 1, by omega⟩
        rw [L_X10_tells_28, h2', if_neg (nI_ge (a := 0) (b := ns) (by omega) (by omega)), p3, sb]
        dsimp only
        rw [show (2 : Int64) * lN (sgt (ccf lg wn nw m) u sgn 0) = lN (2 * sgt (ccf lg wn nw m) u sgn 0) from lN_mul 2 _, e_abs10 (by omega) (by omega), jn]
        try dsimp only
        rw [if_neg (fun q => absurd ((cmp_le0 (a := 256 * tot (nxt (ccf lg wn nw m) (fun _ _ => 1) u)) (by omega)).mp q) (by omega)), jn, if_pos rfl, nI_1, Nat.add_sub_cancel]
      obtain ⟨b, sa', l1, l2⟩ := l_tells (m := m) hns (by omega) hnw (fun j h => (hl j h).2) h2 ho (fun j h => (hw j h).2) hs n2 n3 k2 r1 r3 rfl hN (1, 0, ca1, st1) (1, t2, ca2, st2) (1, th1, w1) (ns - 1) 1 0 5000 4999 (lN (256 * tot (nxt (ccf lg wn nw m) (fun _ _ => 1) u))) (by omega) (by omega) (by omega) (by omega)
      exact ⟨(nI b, t2, ca2, st2, 0, ca1, st1), (nI b, sa', th1, w1), l1, (first 5000 (by decide)).trans l2, rfl⟩
