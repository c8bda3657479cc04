/-! pure rows: the days ahead, NEAR, BOARD -/
def fut (cc : Nat → Nat) : Nat → (Nat → Nat) → Nat → Nat
  | 0, W => W
  | n + 1, W => fut cc n (nxt cc (fun _ _ => 1) W)
theorem fut_mul (g : Nat) (cc : Nat → Nat) : ∀ n (W : Nat → Nat), fut cc n (fun j => g * W j) = fun j => g * fut cc n W j := by
  intro n
  induction n with
  | zero => intro W; rfl
  | succ n ih =>
    intro W
    rw [fut, show nxt cc (fun _ _ => 1) (fun j => g * W j) = fun j => g * nxt cc (fun _ _ => 1) W j from funext (nxt_mul g cc (fun _ _ => 1) W), ih]
    rfl
theorem fut_le {cc : Nat → Nat} (hc : ∀ s, s < 3 → cc s ≤ 4) : ∀ n (W : Nat → Nat), tot (fut cc n W) ≤ 4 ^ n * tot W := by
  intro n
  induction n with
  | zero => intro W; rw [fut, Nat.pow_zero, Nat.one_mul]; exact Nat.le_refl _
  | succ n ih =>
    intro W
    have h1 := ih (nxt cc (fun _ _ => 1) W)
    have h2 := tot_go hc W
    rw [fut, Nat.pow_succ, Nat.mul_assoc]
    exact Nat.le_trans h1 (Nat.mul_le_mul_left _ (by omega))
/-- out of 4 ^ n tot u, in how many ways it turns in n days -/
def tkn (cc : Nat → Nat) (u : Nat → Nat) (n : Nat) : Nat := 4 ^ n * tot u - tot (fut cc n u)
theorem m4N (x : Nat) : lN x * 4 = lN (x * 4) := lN_mul x 4
theorem l_take9 {ca st : Nat → Int64} {W : Nat → Nat} (h : SLP ca st W) (k : (Nat → Int64) → (Nat → Int64) → Option (Int64 × (Nat → Int64) × (Nat → Int64))) (c s : Nat → Int64) (f : Nat) (hf : 4 ≤ f) : ∃ c' s', L_X5_takeFrom_2 ca st k f (nI 0) c s = k c' s' ∧ LW s' W ∧ LW c' (fun _ => 0) := by
  obtain ⟨f, rfl⟩ : ∃ x, f = x + 4 := ⟨f - 4, by omega⟩
  refine ⟨vp_updL (vp_updL (vp_updL c 0 0) (0 + 1) 0) (0 + 1 + 1) 0, vp_updL (vp_updL (vp_updL s 0 (lN (W 0))) (0 + 1) (lN (W (0 + 1)))) (0 + 1 + 1) (lN (W (0 + 1 + 1))), ?_, ?_, ?_⟩
  · rw [L_X5_takeFrom_2, if_neg (show ¬ (3 : Int32) ≤ nI 0 by decide), e_ways3 h (s := 0) (by decide), sb, lput3 (by decide), sb, lput3 (by decide), sb, nI_1,
      L_X5_takeFrom_2, if_neg (show ¬ (3 : Int32) ≤ nI (0 + 1) by decide), e_ways3 h (s := 0 + 1) (by decide), sb, lput3 (by decide), sb, lput3 (by decide), sb, nI_1,
      L_X5_takeFrom_2, if_neg (show ¬ (3 : Int32) ≤ nI (0 + 1 + 1) by decide), e_ways3 h (s := 0 + 1 + 1) (by decide), sb, lput3 (by decide), sb, lput3 (by decide), sb, nI_1,
      L_X5_takeFrom_2, if_pos (show (3 : Int32) ≤ nI (0 + 1 + 1 + 1) by decide)]
  · intro j hj
    rcases j3 hj with rfl | rfl | rfl <;> rfl
  · intro j hj
    rcases j3 hj with rfl | rfl | rfl <;> rfl
theorem e_take9 {ca st : Nat → Int64} {W : Nat → Nat} (h : SLP ca st W) (t0 t : Int64) (c s : Nat → Int64) : ∃ c' s', F_X5_takeFrom t0 t ca st c s = some (t, c', s') ∧ LW s' W ∧ LW c' (fun _ => 0) := by
  rw [F_X5_takeFrom, jn]
  obtain ⟨c', s', g1, g2, g3⟩ := l_take9 h (fun (a_came_35 : Nat → Int64) (a_stayed_35 : Nat → Int64) => some (t, a_came_35, a_stayed_35)) c s 5000 (by decide)
  exact ⟨c', s', g1, g2, g3⟩
theorem SLP_0 {ca st : Nat → Int64} {W : Nat → Nat} (h1 : LW st W) (h2 : LW ca (fun _ => 0)) : SLP ca st W := ⟨W, fun _ => 0, h1, h2, rfl, fun _ _ => Nat.add_zero _⟩
theorem l_ahead9 {n q : Nat} (hn : n ≤ 3) (hq : q ≤ 100) {lg : Nat → Nat} {a : Nat → Int32} (ha : ∀ j, j < 3 → a j = nI (lg j) ∧ lg j ≤ 4) : ∀ (r i f t : Nat) (ca st : Nat → Int64) (W : Nat → Nat), i + r = n → r < f → SLP ca st W →
    ∃ t' ca' st', L_X9_lookAhead_23 (nI n) a (nI q) f (nI i) (lN t) ca st = some (lN t', ca', st') ∧ SLP ca' st' (fut (fun s => mn4 (lg s + q)) r W) ∧ t' + tot (fut (fun s => mn4 (lg s + q)) r W) = 4 ^ r * (t + tot W) := by
  intro r
  induction r with
  | zero =>
    intro i f t ca st W hi hf h
    obtain ⟨f, rfl⟩ : ∃ x, f = x + 1 := ⟨f - 1, by omega⟩
    exact ⟨t, ca, st, by rw [L_X9_lookAhead_23, if_pos (nI_le (a := n) (b := i) (by omega) (by omega))], h, by rw [Nat.pow_zero, Nat.one_mul]; rfl⟩
  | succ r ih =>
    intro i f t ca st W hi hf h
    obtain ⟨f, rfl⟩ : ∃ x, f = x + 1 := ⟨f - 1, by omega⟩
    obtain ⟨ca1, st1, g1, g2, g3⟩ := e_goOn9 hq ha h (lN t)
    obtain ⟨t', ca', st', k1, k2, k3⟩ := ih (i + 1) f (t * 4 + W 2 * mn4 (lg 2 + q)) ca1 st1 _ (by omega) (by omega) (SLP_go g2 g3)
    have hg := tot_go (cc := fun s => mn4 (lg s + q)) (fun s _ => mn4_le _) W
    refine ⟨t', ca', st', ?_, k2, ?_⟩
    · rw [L_X9_lookAhead_23, if_neg (nI_ge (a := i) (b := n) (by omega) (by omega)), g1, sb, nI_1]
      dsimp only
      rw [m4N, lN_add]
      exact k1
    · rw [fut, k3, Nat.pow_succ, Nat.mul_assoc]
      congr 1
      omega
theorem e_ahead9 {n nw m : Nat} (hn : n ≤ 3) (hm : m < 64) (hnw : nw ≤ 5) {lg wn : Nat → Nat} {lt cn : Nat → Int32} (hl : ∀ j, j < 3 → lt j = nI (lg j) ∧ lg j ≤ 4) (hw : ∀ j, j < nw → cn j = nI (wn j) ∧ wn j ≤ 4) {ca st : Nat → Int64} {g : Nat} {u : Nat → Nat} (h : SLP ca st (fun j => g * u j)) (t0 : Int64) (c s : Nat → Int64) :
    ∃ ca' st', F_X9_lookAhead (nI n) (nI m) t0 c s 0 ca st (nI nw) lt cn = some (lN (g * tkn (ccf lg wn nw m) u n), ca', st') ∧ SLP ca' st' (fun j => g * fut (ccf lg wn nw m) n u j) := by
  have hq := bsN_le (m := m) (c := 4) (w := wn) (n := nw) (fun j h => (hw j h).2) nw 0 (by omega)
  obtain ⟨c1, s1, g1, g2, g3⟩ := e_take9 h t0 0 c s
  obtain ⟨t', ca', st', k1, k2, k3⟩ := l_ahead9 (n := n) (q := bsN m wn nw 0) hn (by omega) hl n 0 5000 0 c1 s1 _ (by omega) (by omega) (SLP_0 g2 g3)
  rw [show (fun s => mn4 (lg s + bsN m wn nw 0)) = ccf lg wn nw m from rfl, fut_mul] at k2 k3
  have e : t' = g * tkn (ccf lg wn nw m) u n := by
    have h1 := fut_le (cc := ccf lg wn nw m) (fun s _ => mn4_le _) n u
    rw [tot_mul, tot_mul, Nat.zero_add, Nat.mul_left_comm] at k3
    rw [tkn, Nat.mul_sub]
    omega
  subst e
  refine ⟨ca', st', ?_, k2⟩
  rw [F_X9_lookAhead, e_noiseOf hm hnw (fun j h => (hw j h).1), sb, g1, sb]
  exact k1
theorem e_all9 {n g : Nat} {cc u : Nat → Nat} (hc : ∀ s, s < 3 → cc s ≤ 4) {ca st : Nat → Int64} (h : SLP ca st (fun j => g * fut cc n u j)) : F_X5_all (lN (g * tkn cc u n)) ca st = some (lN (g * (4 ^ n * tot u))) := by
  have h1 := fut_le hc n u
  rw [F_X5_all, e_tot9 h, sb, tot_mul, lN_add, ← Nat.mul_add, tkn]
  congr 3
  omega
theorem l_turns10 {m nw : Nat} (hm : m < 64) (hnw : nw ≤ 5) {lg wn u : Nat → Nat} {go no m2 mt wo : Nat → Int32} (hl : ∀ j, j < 3 → go j = nI (lg j) ∧ lg j ≤ 4) (ho : wo 0 = nI nw) (hw : ∀ j, j < nw → no j = nI (wn j) ∧ wn j ≤ 4) :
    ∀ (r i f : Nat) (al : Nat) (th tu w : Nat → Int64), i + r = 4 → 1 ≤ i → r < f → LW w (fut (ccf lg wn nw m) (i - 1) u) → al = 64 * tot u → (∀ k, k < i → tu k = lN (4 ^ (3 - k) * tkn (ccf lg wn nw m) u k)) →
    ∃ th' tu' w', L_X10_findTurns_35 (nI m) go no m2 mt wo f (lN (4 ^ (4 - i))) (nI i) (lN al) th tu w = some (1, lN al, th', tu', w') ∧ ∀ k, k < 4 → tu' k = lN (4 ^ (3 - k) * tkn (ccf lg wn nw m) u k) := by
  intro r
  induction r with
  | zero =>
    intro i f al th tu w hi h1 hf hW hal ht
    obtain ⟨f, rfl⟩ : ∃ x, f = x + 1 := ⟨f - 1, by omega⟩
    obtain rfl : i = 4 := by omega
    exact ⟨th, tu, w, by rw [L_X10_findTurns_35, if_pos (by decide)], ht⟩
  | succ r ih =>
    intro i f al th tu w hi h1 hf hW hal ht
    obtain ⟨f, rfl⟩ : ∃ x, f = x + 1 := ⟨f - 1, by omega⟩
    obtain ⟨th1, w1, g1, g2⟩ := e_goOn10 (th := th) (h_chance10 hm hnw hl ho hw) (LKH_neg (m2 := m2) (mt := mt)) hW
    have e : nxt (ccf lg wn nw m) (fun _ _ => 1) (fut (ccf lg wn nw m) (i - 1) u) = fut (ccf lg wn nw m) i u := by
      have h : ∀ n (W : Nat → Nat), nxt (ccf lg wn nw m) (fun _ _ => 1) (fut (ccf lg wn nw m) n W) = fut (ccf lg wn nw m) (n + 1) W := by
        intro n
        induction n with
        | zero => intro W; rfl
        | succ n ihn => intro W; rw [fut, ihn]; rfl
      rw [h, show i - 1 + 1 = i by omega]
    rw [e] at g2
    have hle := fut_le (cc := ccf lg wn nw m) (fun s _ => mn4_le _) i u
    have p1 : 4 ^ (4 - i) = 4 * 4 ^ (3 - i) := by rw [show 4 - i = (3 - i) + 1 by omega, Nat.pow_succ, Nat.mul_comm]
    have p2 : 4 ^ (3 - i) * 4 ^ i = 64 := by rw [← Nat.pow_add, show 3 - i + i = 3 by omega]
    have p3 : 4 ^ (4 - i) ≤ 64 := by
      have := Nat.pow_le_pow_right (n := 4) (by decide) (show 4 - i ≤ 3 by omega)
      omega
    have d1 : lN (4 ^ (4 - i)) / 4 = lN (4 ^ (3 - i)) := by
      rw [show lN (4 ^ (4 - i)) / 4 = lN (4 ^ (4 - i) / 4) from pk_lDiv (a := 4 ^ (4 - i)) (b := 4) (by omega) (by decide) (by decide), p1, Nat.mul_div_cancel_left _ (by decide)]
    have s1 : lN al - lN (4 ^ (3 - i)) * lN (tot (fut (ccf lg wn nw m) i u)) = lN (4 ^ (3 - i) * tkn (ccf lg wn nw m) u i) := by
      have q := Nat.mul_le_mul_left (4 ^ (3 - i)) hle
      rw [← Nat.mul_assoc, p2] at q
      rw [lN_mul, lN_sub (by omega), tkn, Nat.mul_sub, ← Nat.mul_assoc, p2, hal]
    obtain ⟨th', tu', w', k1, k2⟩ := ih (i + 1) f al th1 (vp_updL tu i (lN (4 ^ (3 - i) * tkn (ccf lg wn nw m) u i))) w1 (by omega) (by omega) (by omega) (by rw [show i + 1 - 1 = i by omega]; exact g2) hal (fun k hk => by
      by_cases h : k = i
      · subst h; rw [pk_uLs]
      · rw [pk_uLn h]; exact ht k (by omega))
    refine ⟨th', tu', w', ?_, k2⟩
    rw [L_X10_findTurns_35, if_neg (show ¬ (4 : Int32) ≤ nI i from nI_ge (a := i) (b := 4) (by omega) (by decide)), g1, sb]
    dsimp only
    rw [e_tot10 g2, sb, if_pos (inbT (k := i) (n := 4) (by omega) (by decide)), nI_clamp (n := i) (by omega), d1, s1, nI_1]
    rw [show 4 - (i + 1) = 3 - i by omega] at k1
    exact k1
theorem turns10_0 {n ns nw : Nat} {lg wn sgn sd wd : Nat → Nat} {d sc wc : Int32} {da wa dy sn wk lt cs cn go no m2 mt wo : Nat → Int32} (hD : DYH n ns nw sd wd d da wa dy sn wk) (hT : TWH ns nw lg wn sgn sc wc lt cs cn go no m2 mt wo) (h0 : tot (dW lg wn sgn nw ns sd wd n) = 0) (x al : _) (th tu w : Nat → Int64) :
    ∃ th' w', F_X10_findTurns x al dy go no sn m2 th mt tu w wk wo = some (0, al, th', tu, w') := by
  obtain ⟨th1, w1, k1⟩ := find10_0 hD hT h0 th w
  exact ⟨th1, w1, by rw [F_X10_findTurns, k1, sb, if_pos rfl]⟩
theorem turns10_1 {n ns nw m : Nat} {lg wn sgn sd wd : Nat → Nat} {d sc wc : Int32} {da wa dy sn wk lt cs cn go no m2 mt wo : Nat → Int32} (hm : m < 64) (hD : DYH n ns nw sd wd d da wa dy sn wk) (hT : TWH ns nw lg wn sgn sc wc lt cs cn go no m2 mt wo) (h0 : tot (dW lg wn sgn nw ns sd wd n) ≠ 0) (al : _) (th tu w : Nat → Int64) :
    ∃ th' tu' w', F_X10_findTurns (nI m) al dy go no sn m2 th mt tu w wk wo = some (1, lN (64 * tot (red (dW lg wn sgn nw ns sd wd n))), th', tu', w') ∧ ∀ k, k < 4 → tu' k = lN (4 ^ (3 - k) * tkn (ccf lg wn nw m) (red (dW lg wn sgn nw ns sd wd n)) k) := by
  obtain ⟨th1, w1, k1, k2⟩ := find10_1 hD hT h0 th w
  obtain ⟨hns1, hns, hnw, rfl, rfl, h2, ho, hl, hs, hw⟩ := hT
  obtain ⟨th', tu', w', n1, n2⟩ := l_turns10 (m2 := m2) (mt := mt) hm hnw (fun j h => (hl j h).2) ho (fun j h => (hw j h).2) 3 1 5000 _ th1 (vp_updL tu 0 0) w1 (by decide) (by decide) (by decide) (u := red (dW lg wn sgn nw ns sd wd n)) k2 rfl (fun k hk => by
    obtain rfl : k = 0 := by omega
    rw [pk_uLs, tkn, fut, Nat.pow_zero, Nat.one_mul, Nat.sub_self, Nat.mul_zero]; rfl)
  refine ⟨th', tu', w', ?_, n2⟩
  rw [F_X10_findTurns, k1, sb, if_neg ne10]
  dsimp only
  rw [e_tot10 k2, sb, show (64 : Int64) * lN (tot (red (dW lg wn sgn nw ns sd wd n))) = lN (64 * tot (red (dW lg wn sgn nw ns sd wd n))) from lN_mul 64 _]
  exact n1
theorem p4sp {k : Nat} (hk : k ≤ 3) : 4 ^ (3 - k) * 4 ^ k = 64 := by rw [← Nat.pow_add, show 3 - k + k = 3 by omega]
theorem tkn_le (cc u : Nat → Nat) (k : Nat) : tkn cc u k ≤ 4 ^ k * tot u := Nat.sub_le _ _
theorem fw_near (x y z : Int32) {n ns nw : Nat} {lg wn sgn sd wd : Nat → Nat} {d sc wc : Int32} {da wa dy sn wk lt cs cn go no m2 mt wo : Nat → Int32} (hD : DYH n ns nw sd wd d da wa dy sn wk) (hT : TWH ns nw lg wn sgn sc wc lt cs cn go no m2 mt wo) (ft t al : Int64) (fc fs ca st th tu w : Nat → Int64) :
    ∃ o1 o2, F_X9_near x y z d da wa ft fc fs t ca st sc wc lt cs cn = some o1 ∧ F_X10_near x y z al dy go no sn m2 th mt tu w wk wo = some o2 ∧ o1.1 = o2.1 := by
  have hT' := hT
  obtain ⟨hns1, hns, hnw, hsc, hwc, h2, ho, hl, hs, hw⟩ := hT'
  have hp := pow6 nw (by omega)
  have e1 : F_X9_isSet y wc = some (win y 0 (nI (2 ^ nw) - 1)) := by rw [hwc]; exact e_isSet (by omega) y
  have e2 := e_areWorks (n := nw) (by omega) y wo ho
  rcases win_c x 1 3 with hw1 | ⟨hw1, a1, a2⟩
  · exact ⟨_, _, by rw [F_X9_near, e_within, hw1, b0], by rw [F_X10_near, e_in, hw1, b0], rfl⟩
  rcases win_c y 0 (nI (2 ^ nw) - 1) with hw2 | ⟨hw2, c1, c2⟩
  · exact ⟨_, _, by rw [F_X9_near, e_within, hw1, b1, e1, hw2, b0], by rw [F_X10_near, e_in, hw1, b1, e2, hw2, b0], rfl⟩
  rcases win_c z 0 1 with hw3 | ⟨hw3, d1, d2⟩
  · exact ⟨_, _, by rw [F_X9_near, e_within, hw1, b1, e1, hw2, b1, e_within, hw3, b0], by rw [F_X10_near, e_in, hw1, b1, e2, hw2, b1, e_in, hw3, b0], rfl⟩
  obtain ⟨k, hk, rfl⟩ := rngk (n := 3) (by decide) (fun q => a1 (Int32.lt_trans q (by decide))) a2
  obtain ⟨m, hm, rfl⟩ := rng (by omega) c1 c2
  by_cases h0 : tot (dW lg wn sgn nw ns sd wd n) = 0
  · obtain ⟨ca1, st1, g1⟩ := can9_0 hD hT h0 t ca st
    obtain ⟨th1, w1, k1⟩ := turns10_0 hD hT h0 (nI m) al th tu w
    refine ⟨(-4, ft, fc, fs, 0, ca1, st1), (-4, al, th1, tu, w1), ?_, ?_, rfl⟩
    · rw [F_X9_near, e_within, hw1, b1, e1, hw2, b1, e_within, hw3, b1, g1, sb, if_pos rfl]
    · rw [F_X10_near, e_in, hw1, b1, e2, hw2, b1, e_in, hw3, b1, k1, sb, if_pos rfl]
  · obtain ⟨ca1, st1, g1, g2⟩ := can9_1 hD hT h0 t ca st
    obtain ⟨th1, tu1, w1, k1, k2⟩ := turns10_1 (m := m) (by omega) hD hT h0 al th tu w
    obtain ⟨r1, r2, r3, r4⟩ := red_b (dW_le hD hT) h0
    revert g2 k1 k2 r1 r2 r3 r4
    generalize gg (dW lg wn sgn nw ns sd wd n) = g
    generalize red (dW lg wn sgn nw ns sd wd n) = u
    intro g2 k1 k2 r1 r2 r3 r4
    have q0 : 4 ^ k ≤ 4 ^ 3 := Nat.pow_le_pow_right (by decide) hk
    have q1 := tkn_le (ccf lg wn nw m) u k
    have q2 := Nat.mul_le_mul_left g q1
    have q3 : g * (4 ^ k * tot u) ≤ 2 ^ 56 := by
      have h1 : g * (4 ^ k * tot u) = 4 ^ k * (g * tot u) := by rw [Nat.mul_left_comm]
      have h3 := Nat.mul_le_mul q0 r3
      rw [h1]; omega
    have q4 : 0 < 4 ^ k * tot u := Nat.mul_pos (Nat.pow_pos (by decide)) r2
    have q5 : 64 * tot u = 4 ^ (3 - k) * (4 ^ k * tot u) := by rw [← Nat.mul_assoc, p4sp hk]
    have q6 := Nat.mul_le_mul_left (4 ^ (3 - k)) q1
    obtain ⟨ca2, st2, n1, n2⟩ := e_ahead9 (n := k) (m := m) hk (by omega) hnw (fun j h => (hl j h).1) (fun j h => (hw j h).1) g2 ft fc fs
    refine ⟨(lN (low (tkn (ccf lg wn nw m) u k) (4 ^ k * tot u) z), lN (g * tkn (ccf lg wn nw m) u k), ca2, st2, 0, ca1, st1), (lN (low (tkn (ccf lg wn nw m) u k) (4 ^ k * tot u) z), lN (64 * tot u), th1, tu1, w1), ?_, ?_, rfl⟩
    · rw [F_X9_near, e_within, hw1, b1, e1, hw2, b1, e_within, hw3, b1, g1, sb, if_neg ne10]
      dsimp only
      rw [hwc, n1, sb]
      dsimp only
      rw [e_all9 (cc := ccf lg wn nw m) (fun s _ => mn4_le _) n2, sb, e_low9 (by omega) (by omega) (Nat.mul_pos r1 q4), sb, low_mul r1]
    · rw [F_X10_near, e_in, hw1, b1, e2, hw2, b1, e_in, hw3, b1, k1, sb, if_neg ne10, if_pos (inbT (k := k) (n := 4) (by omega) (by decide))]
      dsimp only
      rw [nI_clamp (n := k) (by omega), k2 k (by omega), q5, e_low10 (by omega) (by omega) (by omega), sb, low_mul (Nat.pow_pos (by decide))]
