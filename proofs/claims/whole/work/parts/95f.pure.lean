/-! pure rows: BOARD -/
def cst (V E : Nat) (cc u : Nat → Nat) (k : Nat) : Nat := V * (4 ^ (3 - k) * tkn cc u k) + E * (3 - k) * (64 * tot u)
theorem four_k : ∀ k, k < 4 → F_X9_fourTo (3 - nI k) = some (lN (4 ^ (3 - k))) := by
  intro k hk
  have h : ∀ k, k < 4 → (1 : Int64) <<< (Int32.toInt64 (2 * (3 - nI k)) &&& 63) = lN (4 ^ (3 - k)) := by decide +kernel
  rw [F_X9_fourTo, h k hk]
theorem four_3 : F_X9_fourTo 3 = some (lN 64) := by
  have h : (1 : Int64) <<< (Int32.toInt64 (2 * 3) &&& 63) = lN 64 := by decide +kernel
  rw [F_X9_fourTo, h]
theorem cst_g (g V E : Nat) (cc u : Nat → Nat) {k : Nat} (hk : k ≤ 3) : (V * (g * tkn cc u k) + E * (3 - k) * (g * (4 ^ k * tot u))) * 4 ^ (3 - k) = g * cst V E cc u k := by
  rw [cst, ← p4sp hk, Nat.add_mul, Nat.mul_add]
  congr 1
  · generalize tkn cc u k = a
    generalize 4 ^ (3 - k) = b
    rw [Nat.mul_assoc, Nat.mul_assoc g a b, Nat.mul_left_comm, Nat.mul_comm a b]
  · generalize 4 ^ (3 - k) = b
    generalize 4 ^ k = c
    generalize E * (3 - k) = e
    generalize tot u = t
    rw [Nat.mul_assoc e, Nat.mul_assoc g, Nat.mul_left_comm e g, Nat.mul_comm (c * t) b, Nat.mul_assoc b]
theorem cst_le {g V E : Nat} (hV : V ≤ 99) (hE : E ≤ 9) (cc u : Nat → Nat) {k : Nat} (hk : k ≤ 3) (h : g * tot u ≤ 2 ^ 50) : g * cst V E cc u k ≤ 126 * 2 ^ 56 := by
  have h1 : 4 ^ (3 - k) * tkn cc u k ≤ 64 * tot u := by
    have q := Nat.mul_le_mul_left (4 ^ (3 - k)) (tkn_le cc u k)
    rw [← Nat.mul_assoc, p4sp hk] at q
    exact q
  have h2 := Nat.mul_le_mul hV h1
  have h3 : E * (3 - k) ≤ 27 := Nat.le_trans (Nat.mul_le_mul hE (show 3 - k ≤ 3 by omega)) (by decide)
  have h4 := Nat.mul_le_mul_right (64 * tot u) h3
  have h5 : cst V E cc u k ≤ 126 * (64 * tot u) := by rw [cst]; omega
  have h6 := Nat.mul_le_mul_left g h5
  have h7 : g * (126 * (64 * tot u)) = 8064 * (g * tot u) := by rw [← Nat.mul_assoc 126 64, Nat.mul_left_comm]
  omega
theorem e_cost9 {k nw m tc bd : Nat} (hk : k ≤ 3) (hm : m < 64) (hnw : nw ≤ 5) (htc : tc ≤ 99) (hbd : bd ≤ 9) {lg wn : Nat → Nat} {lt cn : Nat → Int32} (hl : ∀ j, j < 3 → lt j = nI (lg j) ∧ lg j ≤ 4) (hw : ∀ j, j < nw → cn j = nI (wn j) ∧ wn j ≤ 4) {ca st : Nat → Int64} {g : Nat} {u : Nat → Nat} (h : SLP ca st (fun j => g * u j)) (t0 : Int64) (c s : Nat → Int64) :
    ∃ t' ca' st', F_X9_costOfBoarding (nI k) (nI m) t0 c s 0 ca st (nI bd) (nI tc) (nI nw) lt cn = some (lN (g * cst tc bd (ccf lg wn nw m) u k), t', ca', st') := by
  obtain ⟨ca1, st1, n1, n2⟩ := e_ahead9 hk hm hnw hl hw h t0 c s
  refine ⟨lN (g * tkn (ccf lg wn nw m) u k), ca1, st1, ?_⟩
  rw [F_X9_costOfBoarding, n1, sb]
  dsimp only
  rw [e_all9 (cc := ccf lg wn nw m) (fun s _ => mn4_le _) n2, sb, four_k k (by omega), sb, show (3 : Int32) - nI k = nI (3 - k) from pk_sub (a := 3) (b := k) hk, nI_l (n := tc) (by omega), nI_l (n := bd) (by omega), nI_l (n := 3 - k) (by omega), lN_mul, lN_mul, lN_mul, lN_add, lN_mul, cst_g g tc bd (ccf lg wn nw m) u hk]
theorem e_cost10 {k tc bd : Nat} (hk : k ≤ 3) (htc : tc ≤ 99) (hbd : bd ≤ 9) {cc u : Nat → Nat} {co : Nat → Int32} {tu : Nat → Int64} (h0 : co 0 = nI tc) (h1 : co 1 = nI bd) (ht : ∀ k, k < 4 → tu k = lN (4 ^ (3 - k) * tkn cc u k)) : F_X10_costOf (nI k) (lN (64 * tot u)) co tu = some (lN (cst tc bd cc u k)) := by
  have h3 : bd * (3 - k) ≤ 27 := Nat.le_trans (Nat.mul_le_mul hbd (show 3 - k ≤ 3 by omega)) (by decide)
  rw [F_X10_costOf, if_pos (inbT (k := k) (n := 4) (by omega) (by decide)), nI_clamp (n := k) (by omega), show co (Int32.toNatClampNeg 0) = nI tc from h0, show co (Int32.toNatClampNeg 1) = nI bd from h1, ht k (by omega), show (3 : Int32) - nI k = nI (3 - k) from pk_sub (a := 3) (b := k) hk, pk_mul, nI_l (n := tc) (by omega), nI_l (n := bd * (3 - k)) (by omega), lN_mul, lN_mul, lN_add, cst]
theorem l_board {nw m tc bd g : Nat} (hm : m < 64) (hnw : nw ≤ 5) (htc : tc ≤ 99) (hbd : bd ≤ 9) {lg wn u : Nat → Nat} {lt cn co : Nat → Int32} (hl : ∀ j, j < 3 → lt j = nI (lg j) ∧ lg j ≤ 4) (hw : ∀ j, j < nw → cn j = nI (wn j) ∧ wn j ≤ 4) {ca st tu : Nat → Int64} (h : SLP ca st (fun j => g * u j)) (r1 : 0 < g) (r3 : g * tot u ≤ 2 ^ 50)
    (h0 : co 0 = nI tc) (h1 : co 1 = nI bd) (ht : ∀ k, k < 4 → tu k = lN (4 ^ (3 - k) * tkn (ccf lg wn nw m) u k))
    (k9 : Int32 → Int64 → Int64 → (Nat → Int64) → (Nat → Int64) → Int64 → (Nat → Int64) → (Nat → Int64) → Option (Int64 × Int64 × (Nat → Int64) × (Nat → Int64) × Int64 × (Nat → Int64) × (Nat → Int64))) (k10 : Int32 → Int64 → (Nat → Int64) → Option (Int64 × Int64 × (Nat → Int64) × (Nat → Int64) × (Nat → Int64))) :
    ∀ (r i b f e : Nat) (ft : Int64) (fc fs : Nat → Int64), i + r = 4 → b < i → r < f → r < e → ∃ b' ft' fc' fs', b' < 4 ∧ L_X9_board_51 (nI m) (nI bd) (nI tc) (nI nw) lt cn k9 f (nI b) (lN (g * cst tc bd (ccf lg wn nw m) u b)) (nI i) ft fc fs 0 ca st = k9 (nI b') (lN (g * cst tc bd (ccf lg wn nw m) u b')) ft' fc' fs' 0 ca st ∧
      L_X10_board_38 co k10 e (nI b) (nI i) (lN (64 * tot u)) tu = k10 (nI b') (lN (64 * tot u)) tu := by
  intro r
  induction r with
  | zero =>
    intro i b f e ft fc fs hi hb hf he
    obtain ⟨f, rfl⟩ : ∃ x, f = x + 1 := ⟨f - 1, by omega⟩
    obtain ⟨e, rfl⟩ : ∃ x, e = x + 1 := ⟨e - 1, by omega⟩
    obtain rfl : i = 4 := by omega
    exact ⟨b, ft, fc, fs, hb, by rw [L_X9_board_51, if_pos (by decide)], by rw [L_X10_board_38, if_pos (by decide)]⟩
  | succ r ih =>
    intro i b f e ft fc fs hi hb hf he
    obtain ⟨f, rfl⟩ : ∃ x, f = x + 1 := ⟨f - 1, by omega⟩
    obtain ⟨e, rfl⟩ : ∃ x, e = x + 1 := ⟨e - 1, by omega⟩
    obtain ⟨t1, c1, s1, g1⟩ := e_cost9 (k := i) (by omega) hm hnw htc hbd hl hw h ft fc fs
    have q1 := cst_le (k := i) htc hbd (ccf lg wn nw m) u (by omega) r3
    have q2 := cst_le (k := b) htc hbd (ccf lg wn nw m) u (by omega) r3
    have q3 := Nat.le_mul_of_pos_left (cst tc bd (ccf lg wn nw m) u i) r1
    have q4 := Nat.le_mul_of_pos_left (cst tc bd (ccf lg wn nw m) u b) r1
    rw [L_X9_board_51, if_neg (show ¬ (3 : Int32) < nI i from nI_nlt (a := 3) (b := i) (by omega) (by decide)), g1, sb, jn, L_X10_board_38, if_neg (show ¬ (4 : Int32) ≤ nI i from nI_ge (a := i) (b := 4) (by omega) (by decide)), e_cost10 (k := i) (by omega) htc hbd h0 h1 ht, sb, e_cost10 (k := b) (by omega) htc hbd h0 h1 ht, sb, jn]
    dsimp only
    by_cases hc : cst tc bd (ccf lg wn nw m) u b ≤ cst tc bd (ccf lg wn nw m) u i
    · rw [if_pos ((cmp_ge (by omega) (by omega)).mpr (Nat.mul_le_mul_left g hc)), if_pos ((cmp_ge (by omega) (by omega)).mpr hc), nI_1]
      exact ih (i + 1) b f e _ _ _ (by omega) (by omega) (by omega) (by omega)
    · rw [if_neg (fun q => hc (Nat.le_of_mul_le_mul_left ((cmp_ge (by omega) (by omega)).mp q) r1)), if_neg (fun q => hc ((cmp_ge (by omega) (by omega)).mp q)), nI_1]
      exact ih (i + 1) i f e _ _ _ (by omega) (by omega) (by omega) (by omega)
theorem fw_board (x y : Int32) {n ns nw tc bd : Nat} {lg wn sgn sd wd : Nat → Nat} {d sc wc tcc bdc : Int32} {da wa dy sn wk lt cs cn go no m2 mt wo co : Nat → Int32} (hD : DYH n ns nw sd wd d da wa dy sn wk) (hT : TWH ns nw lg wn sgn sc wc lt cs cn go no m2 mt wo) (htc : tc ≤ 99) (hbd : bd ≤ 9) (e5 : tcc = nI tc) (e6 : bdc = nI bd) (h5 : co 0 = nI tc) (h6 : co 1 = nI bd) (ft t al : Int64) (fc fs ca st th tu w : Nat → Int64) :
    ∃ o1 o2, F_X9_board x y d da wa ft fc fs t ca st bdc sc tcc wc lt cs cn = some o1 ∧ F_X10_board x y al co dy go no sn m2 th mt tu w wk wo = some o2 ∧ o1.1 = o2.1 := by
  have hT' := hT
  obtain ⟨hns1, hns, hnw, hsc, hwc, h2, ho, hl, hs, hw⟩ := hT'
  have hp := pow6 nw (by omega)
  have e1 : F_X9_isSet x wc = some (win x 0 (nI (2 ^ nw) - 1)) := by rw [hwc]; exact e_isSet (by omega) x
  have e2 := e_areWorks (n := nw) (by omega) x wo ho
  rcases win_c x 0 (nI (2 ^ nw) - 1) with hw2 | ⟨hw2, c1, c2⟩
  · exact ⟨_, _, by rw [F_X9_board, e1, hw2, b0], by rw [F_X10_board, e2, hw2, b0], rfl⟩
  rcases win_c y 0 2 with hw3 | ⟨hw3, d1, d2⟩
  · exact ⟨_, _, by rw [F_X9_board, e1, hw2, b1, e_within, hw3, b0], by rw [F_X10_board, e2, hw2, b1, e_in, hw3, b0], rfl⟩
  obtain ⟨m, hm, rfl⟩ := rng (by omega) c1 c2
  by_cases h0 : tot (dW lg wn sgn nw ns sd wd n) = 0
  · obtain ⟨ca1, st1, g1⟩ := can9_0 hD hT h0 t ca st
    obtain ⟨th1, w1, k1⟩ := turns10_0 hD hT h0 (nI m) al th tu w
    refine ⟨(-4, ft, fc, fs, 0, ca1, st1), (-4, al, th1, tu, w1), ?_, ?_, rfl⟩
    · rw [F_X9_board, e1, hw2, b1, e_within, hw3, b1, g1, sb, if_pos rfl]
    · rw [F_X10_board, e2, hw2, b1, e_in, hw3, b1, k1, sb, if_pos rfl]
  · obtain ⟨ca1, st1, g1, g2⟩ := can9_1 hD hT h0 t ca st
    obtain ⟨th1, tu1, w1, k1, k2⟩ := turns10_1 (m := m) (by omega) hD hT h0 al th tu w
    obtain ⟨r1, r2, r3, r4⟩ := red_b (dW_le hD hT) h0
    revert g2 k1 k2 r1 r2 r3 r4
    generalize gg (dW lg wn sgn nw ns sd wd n) = g
    generalize red (dW lg wn sgn nw ns sd wd n) = u
    intro g2 k1 k2 r1 r2 r3 r4
    obtain ⟨t2, c2', s2, n1⟩ := e_cost9 (k := 0) (m := m) (by omega) (by omega) hnw htc hbd (fun j h => (hl j h).1) (fun j h => (hw j h).1) g2 ft fc fs
    rw [F_X9_board, e1, hw2, b1, e_within, hw3, b1, g1, sb, if_neg ne10, F_X10_board, e2, hw2, b1, e_in, hw3, b1, k1, sb, if_neg ne10]
    dsimp only
    rw [e5, e6, hwc, show F_X9_costOfBoarding 0 (nI m) ft fc fs 0 ca1 st1 (nI bd) (nI tc) (nI nw) lt cn = _ from n1, sb, jn, jn]
    dsimp only
    obtain ⟨b, t3, c3, s3, hb, m1, m2'⟩ := l_board (m := m) (by omega) hnw htc hbd (fun j h => (hl j h).1) (fun j h => (hw j h).1) g2 r1 r3 h5 h6 k2
      (fun (x3_87 : Int32) (x4_87 : Int64) (v_future_turned_87 : Int64) (a_future_came_87 : Nat → Int64) (a_future_stayed_87 : Nat → Int64) (v_now_turned_87 : Int64) (a_now_came_87 : Nat → Int64) (a_now_stayed_87 : Nat → Int64) => (if y = 0 then some ((Int32.toInt64 x3_87), v_future_turned_87, a_future_came_87, a_future_stayed_87, v_now_turned_87, a_now_came_87, a_now_stayed_87) else (F_X5_total a_now_came_87 a_now_stayed_87).bind (fun q102 => (F_X9_fourTo 3).bind (fun q106 => (F_X9_inLowestTerms x4_87 ((q102 * q106)) ((y - 1))).bind (fun q113 => some (q113, v_future_turned_87, a_future_came_87, a_future_stayed_87, v_now_turned_87, a_now_came_87, a_now_stayed_87))))))
      (fun (x3_72 : Int32) (v_all_72 : Int64) (a_turns_72 : Nat → Int64) => (if y = 0 then some ((Int32.toInt64 x3_72), v_all_72, th1, a_turns_72, w1) else (F_X10_costOf x3_72 v_all_72 co a_turns_72).bind (fun q83 => (F_X10_part q83 v_all_72 ((y - 1))).bind (fun q93 => some (q93, v_all_72, th1, a_turns_72, w1)))))
      3 1 0 5000 5000 t2 c2' s2 (by decide) (by decide) (by decide) (by decide)
    have q1 := cst_le (k := b) htc hbd (ccf lg wn nw m) u (by omega) r3
    have q3 := Nat.le_mul_of_pos_left (cst tc bd (ccf lg wn nw m) u b) r1
    by_cases hy : y = 0
    · refine ⟨(Int32.toInt64 (nI b), t3, c3, s3, 0, ca1, st1), (Int32.toInt64 (nI b), lN (64 * tot u), th1, tu1, w1), m1.trans ?_, m2'.trans ?_, rfl⟩
      · rw [if_pos hy]
      · rw [if_pos hy]
    · refine ⟨(lN (low (cst tc bd (ccf lg wn nw m) u b) (64 * tot u) (y - 1)), t3, c3, s3, 0, ca1, st1), (lN (low (cst tc bd (ccf lg wn nw m) u b) (64 * tot u) (y - 1)), lN (64 * tot u), th1, tu1, w1), m1.trans ?_, m2'.trans ?_, rfl⟩
      · rw [if_neg hy, e_tot9 g2, sb, four_3, sb, tot_mul, lN_mul, e_low9 (by omega) (by omega) (Nat.mul_pos (Nat.mul_pos r1 r2) (by decide)), sb, show g * tot u * 64 = g * (64 * tot u) by rw [Nat.mul_assoc, Nat.mul_comm (tot u)], low_mul r1]
      · rw [if_neg hy, e_cost10 (by omega) htc hbd h5 h6 k2, sb, e_low10 (by omega) (by omega) (by omega), sb]
