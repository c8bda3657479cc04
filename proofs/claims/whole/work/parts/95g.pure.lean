/-! pure rows: QUIET -/
theorem e_quiet9 {x nw m : Nat} (hx : x ≤ 100) (hm : m < 64) (hnw : nw ≤ 5) {lg wn : Nat → Nat} {lt cn : Nat → Int32} (hl : ∀ j, j < 3 → lt j = nI (lg j) ∧ lg j ≤ 4) (hw : ∀ j, j < nw → cn j = nI (wn j) ∧ wn j ≤ 4) {ca st : Nat → Int64} {g : Nat} {u : Nat → Nat} (h : SLP ca st (fun j => g * u j)) (r1 : 0 < g) (r3 : g * tot u ≤ 2 ^ 50) (t0 : Int64) (c s : Nat → Int64) :
    ∃ t' ca' st', F_X9_isQuiet (nI m) (nI x) t0 c s 0 ca st (nI nw) lt cn = some (if 100 * tkn (ccf lg wn nw m) u 3 ≤ x * (64 * tot u) then 1 else 0, t', ca', st') := by
  obtain ⟨ca1, st1, n1, n2⟩ := e_ahead9 (n := 3) (by decide) hm hnw hl hw h t0 c s
  refine ⟨lN (g * tkn (ccf lg wn nw m) u 3), ca1, st1, ?_⟩
  have q1 := tkn_le (ccf lg wn nw m) u 3
  have q2 := Nat.mul_le_mul_left g q1
  have q3 : g * (4 ^ 3 * tot u) = 64 * (g * tot u) := Nat.mul_left_comm _ _ _
  have q4 : g * (4 ^ 3 * tot u) * x ≤ 2 ^ 56 * 100 := Nat.mul_le_mul (by omega) hx
  have e1 : g * tkn (ccf lg wn nw m) u 3 * 100 = g * (100 * tkn (ccf lg wn nw m) u 3) := by rw [Nat.mul_assoc, Nat.mul_comm 100]
  have e2 : g * (4 ^ 3 * tot u) * x = g * (x * (64 * tot u)) := by rw [Nat.mul_assoc, Nat.mul_comm x]
  rw [F_X9_isQuiet, show F_X9_lookAhead 3 (nI m) t0 c s 0 ca st (nI nw) lt cn = _ from n1, sb]
  dsimp only
  rw [e_all9 (cc := ccf lg wn nw m) (fun s _ => mn4_le _) n2, sb, nI_l (n := x) (by omega), show lN (g * tkn (ccf lg wn nw m) u 3) * 100 = lN (g * tkn (ccf lg wn nw m) u 3 * 100) from lN_mul _ 100, lN_mul]
  by_cases hc : 100 * tkn (ccf lg wn nw m) u 3 ≤ x * (64 * tot u)
  · rw [if_pos hc, if_neg (fun q => absurd ((cmp_gt (by omega) (by omega)).mp q) (by rw [e1, e2]; exact Nat.not_lt.mpr (Nat.mul_le_mul_left g hc)))]
  · rw [if_neg hc, if_pos ((cmp_gt (by omega) (by omega)).mpr (by rw [e1, e2]; exact Nat.mul_lt_mul_of_pos_left (by omega) r1))]
def QIN (wg : Nat → Nat) (nw : Nat) (B M F : Int32) : Prop := (B = -4 ∧ M = -4 ∧ F = -4) ∨ ∃ b : Nat, b < 2 ^ nw ∧ B = nI b ∧ M = nI (bsN b wg nw 0) ∧ F = nI b
theorem nm4 {i : Nat} (hi : i < 1000) : ¬ nI i = -4 ∧ ¬ nI i ≤ -4 := by
  have h : (nI i).toInt = (i : Int) := nI_toInt (by omega)
  refine ⟨fun e => absurd (show (nI i).toInt = -4 by rw [e]; rfl) (by rw [h]; omega), fun e => ?_⟩
  have := Int32.le_iff_toInt_le.mp e
  rw [h, show (-4 : Int32).toInt = -4 from rfl] at this
  omega
theorem l_quiet {x n ns nw g : Nat} {lg wn wg sgn sd wd u : Nat → Nat} {d sc wc : Int32} {da wa dy sn wk lt cs cn go no m2 mt wo cg br : Nat → Int32} (hx : x ≤ 100) (hD : DYH n ns nw sd wd d da wa dy sn wk) (hT : TWH ns nw lg wn sgn sc wc lt cs cn go no m2 mt wo) (h0 : tot (dW lg wn sgn nw ns sd wd n) ≠ 0) (hu : u = red (dW lg wn sgn nw ns sd wd n))
    (hG : ∀ j, j < nw → (cg j = nI (wg j) ∧ br j = nI (wg j) ∧ wg j ≤ 20)) {ca st : Nat → Int64} (h : SLP ca st (fun j => g * u j)) (r1 : 0 < g) (r3 : g * tot u ≤ 2 ^ 50)
    (k9 : Int32 → Int32 → Int64 → (Nat → Int64) → (Nat → Int64) → Int64 → (Nat → Int64) → (Nat → Int64) → Option (Int32 × Int64 × (Nat → Int64) × (Nat → Int64) × Int64 × (Nat → Int64) × (Nat → Int64)))
    (k10 : Int32 → Int64 → (Nat → Int64) → (Nat → Int64) → (Nat → Int64) → Option (Int32 × Int64 × (Nat → Int64) × (Nat → Int64) × (Nat → Int64))) :
    ∀ (r i f e : Nat) (B M F : Int32) (ft al : Int64) (fc fs th tu w : Nat → Int64), i + r = 2 ^ nw → r < f → r < e → QIN wg nw B M F →
    ∃ B' M' F' ft' fc' fs' al' th' tu' w', L_X9_quiet_41 (nI x) (nI nw) lt cg cn k9 f B M (nI i) ft fc fs 0 ca st = k9 B' M' ft' fc' fs' 0 ca st ∧
      L_X10_quiet_27 (nI x) br dy go no sn m2 mt wk wo k10 e F (nI i) al th tu w = k10 F' al' th' tu' w' ∧ QIN wg nw B' M' F' := by
  have hT' := hT
  obtain ⟨hns1, hns, hnw, hsc, hwc, h2, ho, hl, hs, hw⟩ := hT'
  have hp := pow6 nw (by omega)
  have ho' : wo (Int32.toNatClampNeg 0) = nI nw := ho
  intro r
  induction r with
  | zero =>
    intro i f e B M F ft al fc fs th tu w hi hf he hq
    obtain ⟨f, rfl⟩ : ∃ x, f = x + 1 := ⟨f - 1, by omega⟩
    obtain ⟨e, rfl⟩ : ∃ x, e = x + 1 := ⟨e - 1, by omega⟩
    exact ⟨B, M, F, ft, fc, fs, al, th, tu, w, by rw [L_X9_quiet_41, e_setsOf (by omega), sb, if_pos (nI_le (by omega) (by omega))], by rw [L_X10_quiet_27, ho', shl1 nw (by omega), if_pos (nI_le (by omega) (by omega))], hq⟩
  | succ r ih =>
    intro i f e B M F ft al fc fs th tu w hi hf he hq
    obtain ⟨f, rfl⟩ : ∃ x, f = x + 1 := ⟨f - 1, by omega⟩
    obtain ⟨e, rfl⟩ : ∃ x, e = x + 1 := ⟨e - 1, by omega⟩
    obtain ⟨t1, c1, s1, g1⟩ := e_quiet9 (m := i) hx (by omega) hnw (fun j h => (hl j h).1) (fun j h => (hw j h).1) h r1 r3 ft fc fs
    obtain ⟨th1, tu1, w1, k1, k2⟩ := turns10_1 (m := i) (by omega) hD hT h0 al th tu w
    rw [← hu] at k1 k2
    have hgi := bsN_le (m := i) (c := 20) (w := wg) (n := nw) (fun j h => (hG j h).2.2) nw 0 (by omega)
    have gi9 := e_gainOf (m := i) (a := cg) (w := wg) (by omega) hnw (fun j h => (hG j h).1)
    have gi10 := e_sumBrings (m := i) (a := br) (b := wo) (w := wg) (by omega) hnw ho (fun j h => (hG j h).2.1)
    have q3 := Nat.le_mul_of_pos_left (tot u) r1
    have q1 := tkn_le (ccf lg wn nw i) u 3
    have q4 : x * (64 * tot u) ≤ 100 * 2 ^ 56 := Nat.mul_le_mul hx (by omega)
    rw [L_X9_quiet_41, e_setsOf (by omega), sb, if_neg (nI_ge (by omega) (by omega)), gi9, sb, jn, L_X10_quiet_27, ho', shl1 nw (by omega), if_neg (nI_ge (by omega) (by omega)), k1, sb, jn, jn]
    dsimp only
    have cnd : 0 < lg_cmp (100 * tu1 (Int32.toNatClampNeg 3)) (Int32.toInt64 (nI x) * lN (64 * tot u)) ↔ x * (64 * tot u) < 100 * tkn (ccf lg wn nw i) u 3 := by
      rw [show tu1 (Int32.toNatClampNeg 3) = lN (tkn (ccf lg wn nw i) u 3) from (k2 3 (by decide)).trans (by rw [Nat.sub_self, Nat.pow_zero, Nat.one_mul]), nI_l (n := x) (by omega), lN_mul, show (100 : Int64) * lN (tkn (ccf lg wn nw i) u 3) = lN (100 * tkn (ccf lg wn nw i) u 3) from lN_mul 100 _]
      exact cmp_gt (by omega) (by omega)
    rw [if_neg ne10, g1, sb, nI_1]
    try dsimp only
    by_cases hc : 100 * tkn (ccf lg wn nw i) u 3 ≤ x * (64 * tot u)
    · rw [if_neg (fun q => absurd (cnd.mp q) (by omega)), if_pos hc, if_neg ne10]
      try dsimp only [jn]
      rw [if_neg ne10]
      rcases hq with ⟨rfl, rfl, rfl⟩ | ⟨b, hb, rfl, rfl, rfl⟩
      · rw [if_neg (nm4 (by omega)).2, if_pos rfl]
        exact ih (i + 1) f e _ _ _ _ _ _ _ _ _ _ (by omega) (by omega) (by omega) (Or.inr ⟨i, by omega, rfl, rfl, rfl⟩)
      · have hgb := bsN_le (m := b) (c := 20) (w := wg) (n := nw) (fun j h => (hG j h).2.2) nw 0 (by omega)
        have gb10 := e_sumBrings (m := b) (a := br) (b := wo) (w := wg) (by omega) hnw ho (fun j h => (hG j h).2.1)
        rw [if_neg (nm4 (by omega)).1, gi10, sb, gb10, sb]
        by_cases hgt : bsN i wg nw 0 ≤ bsN b wg nw 0
        · have := nI_le hgt (show bsN b wg nw 0 < 2 ^ 31 by omega)
          rw [if_pos this, if_pos this]
          exact ih (i + 1) f e _ _ _ _ _ _ _ _ _ _ (by omega) (by omega) (by omega) (Or.inr ⟨b, hb, rfl, rfl, rfl⟩)
        · have := nI_ge (a := bsN b wg nw 0) (b := bsN i wg nw 0) (by omega) (by omega)
          rw [if_neg this, if_neg this]
          exact ih (i + 1) f e _ _ _ _ _ _ _ _ _ _ (by omega) (by omega) (by omega) (Or.inr ⟨i, by omega, rfl, rfl, rfl⟩)
    · rw [if_pos (cnd.mpr (by omega)), if_neg hc, if_pos rfl]
      try dsimp only [jn]
      rw [if_pos rfl]
      have fin : ∃ ft' fc' fs', (if nI (bsN i wg nw 0) ≤ M then L_X9_quiet_41 (nI x) (nI nw) lt cg cn k9 f B M (nI (i + 1)) ft fc fs 0 ca st else L_X9_quiet_41 (nI x) (nI nw) lt cg cn k9 f B M (nI (i + 1)) t1 c1 s1 0 ca st) = L_X9_quiet_41 (nI x) (nI nw) lt cg cn k9 f B M (nI (i + 1)) ft' fc' fs' 0 ca st := by
        by_cases hgm : nI (bsN i wg nw 0) ≤ M
        · exact ⟨ft, fc, fs, by rw [if_pos hgm]⟩
        · exact ⟨t1, c1, s1, by rw [if_neg hgm]⟩
      obtain ⟨ft', fc', fs', hfin⟩ := fin
      rw [hfin]
      exact ih (i + 1) f e _ _ _ _ _ _ _ _ _ _ (by omega) (by omega) (by omega) hq
theorem l_quiet0 {n ns nw : Nat} {x : Int32} {lg wn sgn sd wd : Nat → Nat} {d sc wc : Int32} {da wa dy sn wk lt cs cn go no m2 mt wo br : Nat → Int32} (hD : DYH n ns nw sd wd d da wa dy sn wk) (hT : TWH ns nw lg wn sgn sc wc lt cs cn go no m2 mt wo) (h0 : tot (dW lg wn sgn nw ns sd wd n) = 0)
    (k10 : Int32 → Int64 → (Nat → Int64) → (Nat → Int64) → (Nat → Int64) → Option (Int32 × Int64 × (Nat → Int64) × (Nat → Int64) × (Nat → Int64))) :
    ∀ (r i e : Nat) (al : Int64) (th tu w : Nat → Int64), i + r = 2 ^ nw → r < e →
    ∃ al' th' tu' w', L_X10_quiet_27 x br dy go no sn m2 mt wk wo k10 e (-4) (nI i) al th tu w = k10 (-4) al' th' tu' w' := by
  have hT' := hT
  obtain ⟨hns1, hns, hnw, hsc, hwc, h2, ho, hl, hs, hw⟩ := hT'
  have hp := pow6 nw (by omega)
  have ho' : wo (Int32.toNatClampNeg 0) = nI nw := ho
  intro r
  induction r with
  | zero =>
    intro i e al th tu w hi he
    obtain ⟨e, rfl⟩ : ∃ x, e = x + 1 := ⟨e - 1, by omega⟩
    exact ⟨al, th, tu, w, by rw [L_X10_quiet_27, ho', shl1 nw (by omega), if_pos (nI_le (by omega) (by omega))]⟩
  | succ r ih =>
    intro i e al th tu w hi he
    obtain ⟨e, rfl⟩ : ∃ x, e = x + 1 := ⟨e - 1, by omega⟩
    obtain ⟨th1, w1, k1⟩ := turns10_0 hD hT h0 (nI i) al th tu w
    rw [L_X10_quiet_27, ho', shl1 nw (by omega), if_neg (nI_ge (by omega) (by omega)), k1, sb, jn, jn]
    dsimp only
    rw [if_pos rfl]
    try dsimp only [jn]
    rw [if_pos rfl, nI_1]
    exact ih (i + 1) e _ _ _ _ (by omega) (by omega)
theorem fw_quiet (x y : Int32) {n ns nw : Nat} {lg wn wg sgn sd wd : Nat → Nat} {d sc wc : Int32} {da wa dy sn wk lt cs cn go no m2 mt wo cg br : Nat → Int32} (hD : DYH n ns nw sd wd d da wa dy sn wk) (hT : TWH ns nw lg wn sgn sc wc lt cs cn go no m2 mt wo) (hG : ∀ j, j < nw → (cg j = nI (wg j) ∧ br j = nI (wg j) ∧ wg j ≤ 20)) (ft t al : Int64) (fc fs ca st th tu w : Nat → Int64) :
    ∃ o1 o2, F_X9_quiet x y d da wa ft fc fs t ca st sc wc lt cs cg cn = some o1 ∧ F_X10_quiet x y al br dy go no sn m2 th mt tu w wk wo = some o2 ∧ o1.1 = o2.1 := by
  have hT' := hT
  obtain ⟨hns1, hns, hnw, hsc, hwc, h2, ho, hl, hs, hw⟩ := hT'
  have hp := pow6 nw (by omega)
  rcases win_c x 0 100 with hw2 | ⟨hw2, c1, c2⟩
  · exact ⟨_, _, by rw [F_X9_quiet, e_within, hw2, b0], by rw [F_X10_quiet, e_in, hw2, b0], rfl⟩
  rcases win_c y 0 1 with hw3 | ⟨hw3, d1, d2⟩
  · exact ⟨_, _, by rw [F_X9_quiet, e_within, hw2, b1, e_within, hw3, b0], by rw [F_X10_quiet, e_in, hw2, b1, e_in, hw3, b0], rfl⟩
  obtain ⟨a, ha, rfl⟩ := rngk (n := 100) (by decide) c1 c2
  have hK10 : ∀ (F : Int32) (al' : Int64) (th' tu' w' : Nat → Int64), jn (some (F, al', th', tu', w')) (fun k_125 => (if F = (-4) then k_125 else (if y = 0 then k_125 else (F_X10_sumBrings F br wo).bind (fun q131 => some (q131, al', th', tu', w'))))) = (if F = (-4) then some (F, al', th', tu', w') else (if y = 0 then some (F, al', th', tu', w') else (F_X10_sumBrings F br wo).bind (fun q131 => some (q131, al', th', tu', w')))) := fun _ _ _ _ _ => rfl
  by_cases h0 : tot (dW lg wn sgn nw ns sd wd n) = 0
  · obtain ⟨ca1, st1, g1⟩ := can9_0 hD hT h0 t ca st
    obtain ⟨al1, th1, tu1, w1, k1⟩ := l_quiet0 (x := nI a) (br := br) hD hT h0 (fun (x3_115 : Int32) (v_all_115 : Int64) (a_then_115 : Nat → Int64) (a_turns_115 : Nat → Int64) (a_weight_115 : Nat → Int64) => jn (some (x3_115, v_all_115, a_then_115, a_turns_115, a_weight_115)) (fun k_125 => (if x3_115 = (-4) then k_125 else (if y = 0 then k_125 else (F_X10_sumBrings x3_115 br wo).bind (fun q131 => some (q131, v_all_115, a_then_115, a_turns_115, a_weight_115)))))) (2 ^ nw) 0 5000 al th tu w (by omega) (by omega)
    refine ⟨(-4, ft, fc, fs, 0, ca1, st1), (-4, al1, th1, tu1, w1), ?_, ?_, rfl⟩
    · rw [F_X9_quiet, e_within, hw2, b1, e_within, hw3, b1, g1, sb, if_pos rfl]
    · rw [F_X10_quiet, e_in, hw2, b1, e_in, hw3, b1, jn]
      refine Eq.trans k1 ?_
      rw [hK10, if_pos rfl]
  · obtain ⟨ca1, st1, g1, g2⟩ := can9_1 hD hT h0 t ca st
    obtain ⟨r1, r2, r3, r4⟩ := red_b (dW_le hD hT) h0
    obtain ⟨B, M, F, ft', fc', fs', al', th', tu', w', m1, m2', hq⟩ := l_quiet ha hD hT h0 rfl hG g2 r1 r3
      (fun (x3_97 : Int32) (x4_97 : Int32) (v_future_turned_97 : Int64) (a_future_came_97 : Nat → Int64) (a_future_stayed_97 : Nat → Int64) (v_now_turned_97 : Int64) (a_now_came_97 : Nat → Int64) (a_now_stayed_97 : Nat → Int64) => (if y = 0 then some (x3_97, v_future_turned_97, a_future_came_97, a_future_stayed_97, v_now_turned_97, a_now_came_97, a_now_stayed_97) else some (x4_97, v_future_turned_97, a_future_came_97, a_future_stayed_97, v_now_turned_97, a_now_came_97, a_now_stayed_97)))
      (fun (x3_115 : Int32) (v_all_115 : Int64) (a_then_115 : Nat → Int64) (a_turns_115 : Nat → Int64) (a_weight_115 : Nat → Int64) => jn (some (x3_115, v_all_115, a_then_115, a_turns_115, a_weight_115)) (fun k_125 => (if x3_115 = (-4) then k_125 else (if y = 0 then k_125 else (F_X10_sumBrings x3_115 br wo).bind (fun q131 => some (q131, v_all_115, a_then_115, a_turns_115, a_weight_115))))))
      (2 ^ nw) 0 5000 5000 (-4) (-4) (-4) ft al fc fs th tu w (by omega) (by omega) (by omega) (Or.inl ⟨rfl, rfl, rfl⟩)
    rw [F_X9_quiet, e_within, hw2, b1, e_within, hw3, b1, g1, sb, if_neg ne10, hwc, F_X10_quiet, e_in, hw2, b1, e_in, hw3, b1, jn, jn]
    dsimp only
    rcases hq with ⟨rfl, rfl, rfl⟩ | ⟨b, hb, rfl, rfl, rfl⟩
    · refine ⟨(-4, ft', fc', fs', 0, ca1, st1), (-4, al', th', tu', w'), m1.trans ?_, m2'.trans ?_, rfl⟩
      · by_cases hy : y = 0
        · rw [if_pos hy]
        · rw [if_neg hy]
      · rw [hK10, if_pos rfl]
    · have gb10 := e_sumBrings (m := b) (a := br) (b := wo) (w := wg) (by omega) hnw ho (fun j h => (hG j h).2.1)
      by_cases hy : y = 0
      · refine ⟨(nI b, ft', fc', fs', 0, ca1, st1), (nI b, al', th', tu', w'), m1.trans ?_, m2'.trans ?_, rfl⟩
        · rw [if_pos hy]
        · rw [hK10, if_neg (nm4 (by omega)).1, if_pos hy]
      · refine ⟨(nI (bsN b wg nw 0), ft', fc', fs', 0, ca1, st1), (nI (bsN b wg nw 0), al', th', tu', w'), m1.trans ?_, m2'.trans ?_, rfl⟩
        · rw [if_neg hy]
        · rw [hK10, if_neg (nm4 (by omega)).1, if_neg hy, gb10, sb]
