/-! pure rows: bounds, in lowest terms, what could be of THE DIARY -/
theorem cmp_le {a b : Nat} (ha : a < 2 ^ 63) (hb : b < 2 ^ 63) : lg_cmp (lN a) (lN b) ≤ 0 ↔ a ≤ b := by
  rw [lg_cmp]
  by_cases h : b < a
  · rw [if_pos ((pk_lLT hb ha).mpr h)]; exact ⟨fun q => absurd q (by decide), fun q => by omega⟩
  · rw [if_neg (fun q => h ((pk_lLT hb ha).mp q))]
    by_cases e : a = b
    · rw [if_pos (by rw [e])]; exact ⟨fun _ => by omega, fun _ => by decide⟩
    · rw [if_neg (fun q => e ((pk_lEQ ha hb).mp q))]; exact ⟨fun _ => by omega, fun _ => by decide⟩
theorem cmp_ge {a b : Nat} (ha : a < 2 ^ 63) (hb : b < 2 ^ 63) : 0 ≤ lg_cmp (lN a) (lN b) ↔ b ≤ a := by
  rw [lg_cmp]
  by_cases h : b < a
  · rw [if_pos ((pk_lLT hb ha).mpr h)]; exact ⟨fun _ => by omega, fun _ => by decide⟩
  · rw [if_neg (fun q => h ((pk_lLT hb ha).mp q))]
    by_cases e : a = b
    · rw [if_pos (by rw [e])]; exact ⟨fun _ => by omega, fun _ => by decide⟩
    · rw [if_neg (fun q => e ((pk_lEQ ha hb).mp q))]; exact ⟨fun q => absurd q (by decide), fun q => by omega⟩
theorem cmp_gt {a b : Nat} (ha : a < 2 ^ 63) (hb : b < 2 ^ 63) : 0 < lg_cmp (lN a) (lN b) ↔ b < a := by
  rw [lg_cmp]
  by_cases h : b < a
  · rw [if_pos ((pk_lLT hb ha).mpr h)]; exact ⟨fun _ => h, fun _ => by decide⟩
  · rw [if_neg (fun q => h ((pk_lLT hb ha).mp q))]
    by_cases e : a = b
    · rw [if_pos (by rw [e])]; exact ⟨fun q => absurd q (by decide), fun q => by omega⟩
    · rw [if_neg (fun q => e ((pk_lEQ ha hb).mp q))]; exact ⟨fun q => absurd q (by decide), fun q => by omega⟩
theorem cmp_eq {a b : Nat} (ha : a < 2 ^ 63) (hb : b < 2 ^ 63) : lg_cmp (lN a) (lN b) = 0 ↔ a = b := by
  rw [lg_cmp]
  by_cases h : b < a
  · rw [if_pos ((pk_lLT hb ha).mpr h)]; exact ⟨fun q => absurd q (by decide), fun q => by omega⟩
  · rw [if_neg (fun q => h ((pk_lLT hb ha).mp q))]
    by_cases e : a = b
    · rw [if_pos (by rw [e])]; exact ⟨fun _ => e, fun _ => rfl⟩
    · rw [if_neg (fun q => e ((pk_lEQ ha hb).mp q))]; exact ⟨fun q => absurd q (by decide), fun q => absurd q e⟩
theorem cmp_le0 {a : Nat} (ha : a < 2 ^ 63) : lg_cmp (lN a) 0 ≤ 0 ↔ a = 0 := (cmp_le (b := 0) ha (by decide)).trans ⟨fun h => by omega, fun h => by omega⟩
theorem mul4 (x : Nat) {c : Nat} (h : c ≤ 4) : x * (4 - c) + x * c = x * 4 := by rw [← Nat.mul_add]; congr 1; omega
theorem nxt_le {cc : Nat → Nat} {l : Nat → Nat → Nat} {L : Nat} (hc : ∀ s, s < 3 → cc s ≤ 4) (hl : ∀ p s, p < 3 → s < 3 → l p s ≤ L) (W : Nat → Nat) : tot (nxt cc l W) ≤ 4 * L * tot W := by
  have a0 := Nat.mul_le_mul_left (W 0 * (4 - cc 0)) (hl 0 0 (by decide) (by decide))
  have a1 := Nat.mul_le_mul_left (W 1 * (4 - cc 1)) (hl 1 1 (by decide) (by decide))
  have a2 := Nat.mul_le_mul_left (W 2 * (4 - cc 2)) (hl 2 2 (by decide) (by decide))
  have b0 := Nat.mul_le_mul_left (W 0 * cc 0) (hl 0 1 (by decide) (by decide))
  have b1 := Nat.mul_le_mul_left (W 1 * cc 1) (hl 1 2 (by decide) (by decide))
  have m0 : W 0 * (4 - cc 0) * L + W 0 * cc 0 * L = W 0 * 4 * L := by rw [← Nat.add_mul, mul4 _ (hc 0 (by decide))]
  have m1 : W 1 * (4 - cc 1) * L + W 1 * cc 1 * L = W 1 * 4 * L := by rw [← Nat.add_mul, mul4 _ (hc 1 (by decide))]
  have m2 : W 2 * (4 - cc 2) * L + W 2 * cc 2 * L = W 2 * 4 * L := by rw [← Nat.add_mul, mul4 _ (hc 2 (by decide))]
  have e : 4 * L * tot W = W 0 * 4 * L + W 1 * 4 * L + W 2 * 4 * L := by
    rw [tot, ← Nat.add_mul, ← Nat.add_mul, ← Nat.add_mul, ← Nat.add_mul, Nat.mul_assoc _ 4 L, Nat.mul_comm]
  have n0 : nxt cc l W 0 = W 0 * (4 - cc 0) * l 0 0 := by rw [nxt, cmg, if_pos rfl, Nat.zero_mul, Nat.add_zero]
  have n1 : nxt cc l W 1 = W 1 * (4 - cc 1) * l 1 1 + W 0 * cc 0 * l 0 1 := rfl
  have n2 : nxt cc l W 2 = W 2 * (4 - cc 2) * l 2 2 + W 1 * cc 1 * l 1 2 := rfl
  rw [e, tot, n0, n1, n2]
  omega
theorem tot_go {cc : Nat → Nat} (hc : ∀ s, s < 3 → cc s ≤ 4) (W : Nat → Nat) : tot (nxt cc (fun _ _ => 1) W) + W 2 * cc 2 = 4 * tot W := by
  have m0 := mul4 (W 0) (hc 0 (by decide))
  have m1 := mul4 (W 1) (hc 1 (by decide))
  have m2 := mul4 (W 2) (hc 2 (by decide))
  have n0 : nxt cc (fun _ _ => 1) W 0 = W 0 * (4 - cc 0) := by rw [nxt, cmg, if_pos rfl, Nat.mul_one, Nat.mul_one, Nat.add_zero]
  have n1 : nxt cc (fun _ _ => 1) W 1 = W 1 * (4 - cc 1) + W 0 * cc 0 := by rw [nxt, cmg, if_neg (by decide), Nat.mul_one, Nat.mul_one]
  have n2 : nxt cc (fun _ _ => 1) W 2 = W 2 * (4 - cc 2) + W 1 * cc 1 := by rw [nxt, cmg, if_neg (by decide), Nat.mul_one, Nat.mul_one]
  rw [tot, tot, n0, n1, n2]
  omega
theorem nxt_mul (g : Nat) (cc : Nat → Nat) (l : Nat → Nat → Nat) (W : Nat → Nat) (s : Nat) : nxt cc l (fun j => g * W j) s = g * nxt cc l W s := by
  have e : cmg cc (fun j => g * W j) s = g * cmg cc W s := by
    rw [cmg, cmg]
    by_cases h : s = 0
    · rw [if_pos h, if_pos h, Nat.mul_zero]
    · rw [if_neg h, if_neg h, Nat.mul_assoc]
  rw [nxt, nxt, e, Nat.mul_add, Nat.mul_assoc, Nat.mul_assoc, Nat.mul_assoc, Nat.mul_assoc]
theorem tot_mul (g : Nat) (W : Nat → Nat) : tot (fun j => g * W j) = g * tot W := by rw [tot, tot, Nat.mul_add, Nat.mul_add]
theorem SLP_congr {ca st : Nat → Int64} {W V : Nat → Nat} (h : SLP ca st W) (e : ∀ s, s < 3 → W s = V s) : SLP ca st V := by
  obtain ⟨A, B, hA, hB, h0, hW⟩ := h
  exact ⟨A, B, hA, hB, h0, fun s hs => (hW s hs).trans (e s hs)⟩
theorem wv_le {ns m p s : Nat} {sg : Nat → Nat} (hp : p < 3) (hs : s < 3) (h : ∀ j, j < 4 * ns → sg j ≤ 4) : ∀ r i, i + r = ns → wv sg m p s r i ≤ 4 ^ r := by
  intro r
  induction r with
  | zero => intro i _; exact Nat.le_refl 1
  | succ r ih =>
    intro i hi
    have h1 := ih (i + 1) (by omega)
    have h2 := byc_le (m := m) (k := i) (by omega) hp hs h
    have h3 : fac sg m i p s ≤ 4 := by
      rw [fac]
      by_cases ht : m.testBit i = true
      · rw [if_pos ht]; exact h2
      · rw [if_neg ht]; omega
    rw [wv, Nat.pow_succ, Nat.mul_comm (4 ^ r) 4]
    exact Nat.mul_le_mul h3 h1
theorem p4le : ∀ n, n ≤ 4 → 4 ^ n ≤ 256 := by decide
theorem lkf_le {ns m p s : Nat} {b : Bool} {sg : Nat → Nat} (hns : ns ≤ 4) (hp : p < 3) (hs : s < 3) (h : ∀ j, j < 4 * ns → sg j ≤ 4) : lkf sg ns m b p s ≤ 256 := by
  rw [lkf]
  by_cases hb : b = true
  · rw [if_pos hb]; decide
  · rw [if_neg hb]; exact Nat.le_trans (wv_le hp hs h ns 0 (by omega)) (p4le ns hns)
theorem dps_le {ns nw : Nat} {sgn lg wn sd wd : Nat → Nat} {bf : Nat → Bool} (hns : ns ≤ 4) (h : ∀ j, j < 4 * ns → sgn j ≤ 4) : ∀ r i (W : Nat → Nat), tot (dps lg wn sgn nw ns sd wd bf r i W) ≤ 1024 ^ r * tot W := by
  intro r
  induction r with
  | zero => intro i W; rw [dps, Nat.pow_zero, Nat.one_mul]; exact Nat.le_refl _
  | succ r ih =>
    intro i W
    have h1 := nxt_le (cc := ccf lg wn nw (wd i)) (l := lkf sgn ns (sd i) (bf i)) (L := 256) (fun s _ => mn4_le _) (fun p s hp hs => lkf_le hns hp hs h) W
    have h2 := ih (i + 1) (nxt (ccf lg wn nw (wd i)) (lkf sgn ns (sd i) (bf i)) W)
    rw [dps, Nat.pow_succ, Nat.mul_assoc]
    exact Nat.le_trans h2 (Nat.mul_le_mul_left _ h1)
theorem dps_lt {ns nw n : Nat} {sgn lg wn sd wd : Nat → Nat} {bf : Nat → Bool} (hns : ns ≤ 4) (hn : n ≤ 5) (h : ∀ j, j < 4 * ns → sgn j ≤ 4) : tot (dps lg wn sgn nw ns sd wd bf n 0 w00) ≤ 2 ^ 50 := by
  have h1 := dps_le (lg := lg) (wn := wn) (nw := nw) (sd := sd) (wd := wd) (bf := bf) hns h n 0 w00
  have h2 : tot w00 = 1 := rfl
  have h3 : 1024 ^ n ≤ 1024 ^ 5 := Nat.pow_le_pow_right (by decide) hn
  rw [h2, Nat.mul_one] at h1
  exact Nat.le_trans h1 (Nat.le_trans h3 (by decide))
def gg (W : Nat → Nat) : Nat := Nat.gcd (Nat.gcd (W 0) (W 1)) (W 2)
def red (W : Nat → Nat) (s : Nat) : Nat := W s / gg W
theorem gg_dvd (W : Nat → Nat) : ∀ s, s < 3 → gg W ∣ W s := by
  intro s hs
  have h1 : gg W ∣ Nat.gcd (W 0) (W 1) := Nat.gcd_dvd_left _ _
  rcases j3 hs with rfl | rfl | rfl
  · exact Nat.dvd_trans h1 (Nat.gcd_dvd_left _ _)
  · exact Nat.dvd_trans h1 (Nat.gcd_dvd_right _ _)
  · exact Nat.gcd_dvd_right _ _
theorem gcd_le_add (a b : Nat) : Nat.gcd a b ≤ a + b := by
  rcases Nat.eq_zero_or_pos b with h | h
  · subst h; rw [Nat.gcd_zero_right]; omega
  · have := Nat.le_of_dvd h (Nat.gcd_dvd_right a b); omega
theorem gg_le (W : Nat → Nat) : gg W ≤ tot W := by
  have h1 := gcd_le_add (Nat.gcd (W 0) (W 1)) (W 2)
  have h2 := gcd_le_add (W 0) (W 1)
  rw [gg, tot]; omega
theorem red_ok (W : Nat → Nat) : ∀ s, s < 3 → W s = gg W * red W s := fun s hs => (Nat.mul_div_cancel' (gg_dvd W s hs)).symm
theorem gg_pos {W : Nat → Nat} (h : tot W ≠ 0) : 0 < gg W := by
  rcases Nat.eq_zero_or_pos (gg W) with e | e
  · exact absurd (by rw [tot, red_ok W 0 (by decide), red_ok W 1 (by decide), red_ok W 2 (by decide), e, Nat.zero_mul, Nat.zero_mul, Nat.zero_mul]) h
  · exact e
theorem red_tot (W : Nat → Nat) : tot W = gg W * tot (red W) := by
  rw [tot, red_ok W 0 (by decide), red_ok W 1 (by decide), red_ok W 2 (by decide), tot, Nat.mul_add, Nat.mul_add]
theorem red_pos {W : Nat → Nat} (h : tot W ≠ 0) : 0 < tot (red W) := by
  rcases Nat.eq_zero_or_pos (tot (red W)) with e | e
  · exact absurd (by rw [red_tot, e, Nat.mul_zero]) h
  · exact e
theorem low_mul {k : Nat} (hk : 0 < k) (a b : Nat) (p : Int32) : low (k * a) (k * b) p = low a b p := by
  rw [low, low, Nat.gcd_mul_left]
  by_cases h : p = 0
  · rw [if_pos h, if_pos h, Nat.mul_div_mul_left _ _ hk]
  · rw [if_neg h, if_neg h, Nat.mul_div_mul_left _ _ hk]
/-- the diary of both sides, in numbers -/
def DYH (n ns nw : Nat) (sd wd : Nat → Nat) (d : Int32) (da wa dy sn wk : Nat → Int32) : Prop := n ≤ 5 ∧ d = nI n ∧ dy 0 = nI n ∧ ∀ j, j < n → (da j = nI (sd j) ∧ sd j < 64 ∧ wa j = nI (wd j) ∧ wd j < 64) ∧ (sn j = nI (sd j) ∧ sd j < 64 ∧ wk j = nI (wd j) ∧ wd j < 64)
theorem dyh_of {ns nw : Nat} (hns : ns ≤ 5) (hnw : nw ≤ 5) {d : Int32} {sg wk md ms mw : Nat → Int32} (h : RDiary ns nw d sg wk md ms mw 0) : ∃ n sd wd, DYH n ns nw sd wd d sg wk md ms mw := by
  obtain ⟨n, hn, h1, h2, hj⟩ := h
  have p1 := pow6 ns (by omega)
  have p2 := pow6 nw (by omega)
  refine ⟨n, fun j => (sg j).toNatClampNeg, fun j => (wk j).toNatClampNeg, hn, h1, h2, ?_⟩
  intro j hjn
  obtain ⟨⟨e1, c, hc, e2⟩, e3, k, hk, e4⟩ := hj j hjn
  rw [Nat.mul_zero, Nat.zero_add] at e1 e3
  have t1 : (sg j).toNatClampNeg = c := by rw [e2]; exact nI_clamp (by omega)
  have t2 : (wk j).toNatClampNeg = k := by rw [e4]; exact nI_clamp (by omega)
  dsimp only
  rw [← e1, ← e3, t1, t2]
  exact ⟨⟨e2, by omega, e4, by omega⟩, e2, by omega, e4, by omega⟩
/-- the town of both sides, as far as its sleep wants it -/
def TWH (ns nw : Nat) (lg wn sgn : Nat → Nat) (sc wc : Int32) (lt cs cn go no m2 mt wo : Nat → Int32) : Prop := 1 ≤ ns ∧ ns ≤ 4 ∧ nw ≤ 5 ∧ sc = nI ns ∧ wc = nI nw ∧ m2 0 = nI ns ∧ wo 0 = nI nw ∧
  (∀ j, j < 3 → (lt j = nI (lg j) ∧ lg j ≤ 4) ∧ (go j = nI (lg j) ∧ lg j ≤ 4)) ∧ (∀ j, j < 4 * ns → (cs j = nI (sgn j) ∧ sgn j ≤ 4) ∧ (mt j = nI (sgn j) ∧ sgn j ≤ 4)) ∧ ∀ j, j < nw → (cn j = nI (wn j) ∧ wn j ≤ 4) ∧ (no j = nI (wn j) ∧ wn j ≤ 4)
theorem nm1 (i : Nat) (hi : i < 100) : (nI i = -1 ↔ (false : Bool) = true) ∧ (nI i = -4 ↔ (false : Bool) = true) := by
  have h : (nI i).toInt = (i : Int) := nI_toInt (by omega)
  refine ⟨⟨fun e => absurd (show (nI i).toInt = -1 by rw [e]; rfl) (by rw [h]; omega), fun e => absurd e (by decide)⟩, ⟨fun e => absurd (show (nI i).toInt = -4 by rw [e]; rfl) (by rw [h]; omega), fun e => absurd e (by decide)⟩⟩
def dW (lg wn sgn : Nat → Nat) (nw ns : Nat) (sd wd : Nat → Nat) (n : Nat) : Nat → Nat := dps lg wn sgn nw ns sd wd (fun _ => false) n 0 w00
theorem e_can9 {n ns nw : Nat} {lg wn sgn sd wd : Nat → Nat} {d sc wc : Int32} {da wa dy sn wk lt cs cn go no m2 mt wo : Nat → Int32} (hD : DYH n ns nw sd wd d da wa dy sn wk) (hT : TWH ns nw lg wn sgn sc wc lt cs cn go no m2 mt wo) (t : Int64) (ca st : Nat → Int64) :
    ∃ ca' st', F_X9_diaryCanBe d da wa t ca st sc wc lt cs cn = some (if tot (dW lg wn sgn nw ns sd wd n) = 0 then 0 else 1, 0, ca', st') ∧ SLP ca' st' (dW lg wn sgn nw ns sd wd n) := by
  obtain ⟨hn, rfl, hdy, hd⟩ := hD
  obtain ⟨hns1, hns, hnw, rfl, rfl, h2, ho, hl, hs, hw⟩ := hT
  have hb := dps_lt (lg := lg) (wn := wn) (nw := nw) (sd := sd) (wd := wd) (bf := fun _ => false) hns hn (fun j h => (hs j h).1.2)
  obtain ⟨ca', st', g1, g2⟩ := e_pass9 (x3 := -1) (bf := fun _ => false) hns hnw hn (fun j h => (hl j h).1) (fun j h => (hs j h).1) (fun j h => (hw j h).1) (fun j h => (hd j h).1) (fun j h => (nm1 j (by omega)).1) t ca st
  refine ⟨ca', st', ?_, g2⟩
  rw [F_X9_diaryCanBe, g1, sb, e_tot9 g2, sb, dW]
  by_cases h0 : tot (dps lg wn sgn nw ns sd wd (fun _ => false) n 0 w00) = 0
  · rw [if_pos ((cmp_le0 (by omega)).mpr h0), if_pos h0]
  · rw [if_neg (fun e => h0 ((cmp_le0 (by omega)).mp e)), if_neg h0]
theorem l_find10 {W : Nat → Nat} {w : Nat → Int64} (hw : LW w W) (hT : tot W < 2 ^ 63) (h0 : tot W ≠ 0) (k : (Nat → Int64) → Option (Int32 × (Nat → Int64) × (Nat → Int64))) (f : Nat) (hf : 4 ≤ f) : ∃ w', L_X10_find_33 (lN (gg W)) k f (nI 0) w = k w' ∧ LW w' (red W) := by
  have hg := gg_pos h0
  have hl := gg_le W
  have b0 : W 0 < 2 ^ 63 := by rw [tot] at hT; omega
  have b1 : W 1 < 2 ^ 63 := by rw [tot] at hT; omega
  have b2 : W 2 < 2 ^ 63 := by rw [tot] at hT; omega
  have c : ¬ lg_cmp (lN (gg W)) 0 ≤ 0 := fun e => absurd ((cmp_le0 (by omega)).mp e) (by omega)
  have z : ¬ lN (gg W) = 0 := lN_ne0 (by omega) (by omega)
  obtain ⟨f, rfl⟩ : ∃ x, f = x + 4 := ⟨f - 4, by omega⟩
  refine ⟨vp_updL (vp_updL (vp_updL w 0 (lN (red W 0))) (0 + 1) (lN (red W 1))) (0 + 1 + 1) (lN (red W 2)), ?_, ?_⟩
  · rw [L_X10_find_33, if_neg (show ¬ (3 : Int32) ≤ nI 0 by decide), if_neg c, if_pos (in3 (s := 0) (by decide)), if_neg z, if_pos (in3 (s := 0) (by decide)), cl3 (s := 0) (by decide), hw 0 (by decide), pk_lDiv b0 hg (by omega), nI_1,
      L_X10_find_33, if_neg (show ¬ (3 : Int32) ≤ nI (0 + 1) by decide), if_neg c, if_pos (in3 (s := 0 + 1) (by decide)), if_neg z, if_pos (in3 (s := 0 + 1) (by decide)), cl3 (s := 0 + 1) (by decide), pk_uLn (by decide), hw (0 + 1) (by decide), pk_lDiv b1 hg (by omega), nI_1,
      L_X10_find_33, if_neg (show ¬ (3 : Int32) ≤ nI (0 + 1 + 1) by decide), if_neg c, if_pos (in3 (s := 0 + 1 + 1) (by decide)), if_neg z, if_pos (in3 (s := 0 + 1 + 1) (by decide)), cl3 (s := 0 + 1 + 1) (by decide), pk_uLn (by decide), pk_uLn (by decide), hw (0 + 1 + 1) (by decide), pk_lDiv b2 hg (by omega), nI_1,
      L_X10_find_33, if_pos (show (3 : Int32) ≤ nI (0 + 1 + 1 + 1) by decide)]
    rfl
  · intro j hj
    rcases j3 hj with rfl | rfl | rfl <;> rfl
theorem e_find10 {n ns nw : Nat} {lg wn sgn sd wd : Nat → Nat} {d sc wc : Int32} {da wa dy sn wk lt cs cn go no m2 mt wo : Nat → Int32} (hD : DYH n ns nw sd wd d da wa dy sn wk) (hT : TWH ns nw lg wn sgn sc wc lt cs cn go no m2 mt wo) (th w : Nat → Int64) :
    ∃ th' w', F_X10_find dy go no sn m2 th mt w wk wo = some (if tot (dW lg wn sgn nw ns sd wd n) = 0 then 0 else 1, th', w') ∧ (tot (dW lg wn sgn nw ns sd wd n) ≠ 0 → LW w' (red (dW lg wn sgn nw ns sd wd n))) := by
  obtain ⟨hn, rfl, hdy, hd⟩ := hD
  obtain ⟨hns1, hns, hnw, rfl, rfl, h2, ho, hl, hs, hw⟩ := hT
  have hb := dps_lt (lg := lg) (wn := wn) (nw := nw) (sd := sd) (wd := wd) (bf := fun _ => false) hns hn (fun j h => (hs j h).1.2)
  obtain ⟨th', w', g1, g2⟩ := e_read10 (x1 := -4) (bf := fun _ => false) hns hnw hn (fun j h => (hl j h).2) (fun j h => (hs j h).2) h2 ho (fun j h => (hw j h).2) hdy (fun j h => (hd j h).2) (fun j h => (nm1 j (by omega)).2) th w
  rw [show dps lg wn sgn nw ns sd wd (fun _ => false) n 0 w00 = dW lg wn sgn nw ns sd wd n from rfl] at hb g2
  have hl := gg_le (dW lg wn sgn nw ns sd wd n)
  have hgl := gcd_le_add (dW lg wn sgn nw ns sd wd n 0) (dW lg wn sgn nw ns sd wd n 1)
  have hb' : dW lg wn sgn nw ns sd wd n 0 + dW lg wn sgn nw ns sd wd n 1 + dW lg wn sgn nw ns sd wd n 2 ≤ 2 ^ 50 := hb
  rw [F_X10_find, g1, sb]
  dsimp only
  rw [show w' (Int32.toNatClampNeg 0) = _ from g2 0 (by decide), show w' (Int32.toNatClampNeg 1) = _ from g2 1 (by decide), show w' (Int32.toNatClampNeg 2) = _ from g2 2 (by decide), e_gcd10 (by omega) (by omega), sb, e_gcd10 (by omega) (by omega), sb, jn]
  rw [show Nat.gcd (Nat.gcd (dW lg wn sgn nw ns sd wd n 0) (dW lg wn sgn nw ns sd wd n 1)) (dW lg wn sgn nw ns sd wd n 2) = gg (dW lg wn sgn nw ns sd wd n) from rfl]
  by_cases h0 : tot (dW lg wn sgn nw ns sd wd n) = 0
  · rw [if_pos h0]
    have hz : gg (dW lg wn sgn nw ns sd wd n) = 0 := by omega
    have c : lg_cmp (lN (gg (dW lg wn sgn nw ns sd wd n))) 0 ≤ 0 := (cmp_le0 (by omega)).mpr hz
    refine ⟨th', w', ?_, fun e => absurd h0 e⟩
    have key : ∀ f, 1 ≤ f → L_X10_find_33 (lN (gg (dW lg wn sgn nw ns sd wd n))) (fun a_weight_60 => (if (lg_cmp (lN (gg (dW lg wn sgn nw ns sd wd n))) 0) ≤ 0 then some ((0 : Int32), th', a_weight_60) else some (1, th', a_weight_60))) f (nI 0) w' = some (0, th', w') := by
      intro f hf
      obtain ⟨f, rfl⟩ : ∃ x, f = x + 1 := ⟨f - 1, by omega⟩
      rw [L_X10_find_33, if_neg (show ¬ (3 : Int32) ≤ nI 0 by decide), if_pos c, if_pos c]
    exact key 5000 (by decide)
  · have hg := gg_pos h0
    have c : ¬ lg_cmp (lN (gg (dW lg wn sgn nw ns sd wd n))) 0 ≤ 0 := fun e => absurd ((cmp_le0 (by omega)).mp e) (by omega)
    rw [if_neg h0]
    obtain ⟨w2, k1, k2⟩ := l_find10 g2 (by omega) h0 (fun a_weight_60 => (if (lg_cmp (lN (gg (dW lg wn sgn nw ns sd wd n))) 0) ≤ 0 then some ((0 : Int32), th', a_weight_60) else some (1, th', a_weight_60))) 5000 (by decide)
    refine ⟨th', w2, k1.trans ?_, fun _ => k2⟩
    rw [if_neg c]
