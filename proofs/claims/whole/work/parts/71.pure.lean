/-! pure rows: sums over sets, signs, works, what is told -/
theorem bit_ok : ∀ m, m < 64 → ∀ i, i < 8 → ((nI m >>> (nI i &&& 31)) &&& 1) = if m.testBit i = true then (1 : Int32) else 0 := by decide +kernel
theorem e_holds {m i : Nat} (hm : m < 64) (hi : i < 8) : F_X9_holds (nI m) (nI i) = some (if m.testBit i = true then 1 else 0) := by
  rw [F_X9_holds, bit_ok m hm i hi]
  by_cases h : m.testBit i = true
  · rw [if_pos h, if_pos rfl]
  · rw [if_neg h, if_neg (by decide)]
/-- of r things from i on those of a set, together -/
def bsN (m : Nat) (w : Nat → Nat) : Nat → Nat → Nat
  | 0, _ => 0
  | r + 1, i => (if m.testBit i = true then w i else 0) + bsN m w r (i + 1)
theorem bsN_le {m c : Nat} {w : Nat → Nat} {n : Nat} (hw : ∀ j, j < n → w j ≤ c) : ∀ r i, i + r = n → bsN m w r i ≤ r * c := by
  intro r
  induction r with
  | zero => intro i _; exact Nat.zero_le _
  | succ r ih =>
    intro i hi
    have h1 := ih (i + 1) (by omega)
    have h2 := hw i (by omega)
    rw [bsN, Nat.succ_mul]
    by_cases h : m.testBit i = true
    · rw [if_pos h]; omega
    · rw [if_neg h]; omega
theorem l_sumOf {m nw : Nat} (hm : m < 64) (hnw : nw ≤ 5) {a : Nat → Int32} {w : Nat → Nat} (ha : ∀ j, j < nw → a j = nI (w j)) : ∀ (r i acc f : Nat), i + r = nw → r < f → L_X8_sumOf_5 (nI nw) (nI m) 5 a f (nI acc) (nI i) = some (nI (acc + bsN m w r i)) := by
  intro r
  induction r with
  | zero =>
    intro i acc f hi hf
    obtain ⟨f, rfl⟩ : ∃ g, f = g + 1 := ⟨f - 1, by omega⟩
    rw [L_X8_sumOf_5, if_pos (nI_le (a := nw) (b := i) (by omega) (by omega))]
    rfl
  | succ r ih =>
    intro i acc f hi hf
    obtain ⟨f, rfl⟩ : ∃ g, f = g + 1 := ⟨f - 1, by omega⟩
    rw [L_X8_sumOf_5, if_neg (nI_ge (a := i) (b := nw) (by omega) (by omega)), e_holds hm (by omega), sb]
    by_cases h : m.testBit i = true
    · rw [if_pos h, jn, if_neg (by decide), at_in (k := i) (n := 5) (by omega) (by decide), sb, ha i (by omega), nI_add, nI_1]
      dsimp only
      rw [ih (i + 1) _ f (by omega) (by omega), bsN, if_pos h, Nat.add_assoc]
    · rw [if_neg h, jn, if_pos rfl, nI_1]
      dsimp only
      rw [ih (i + 1) _ f (by omega) (by omega), bsN, if_neg h, Nat.zero_add]
theorem e_sumOf {m nw : Nat} (hm : m < 64) (hnw : nw ≤ 5) {a : Nat → Int32} {w : Nat → Nat} (ha : ∀ j, j < nw → a j = nI (w j)) : F_X8_sumOf (nI nw) (nI m) 5 a = some (nI (bsN m w nw 0)) := by
  rw [F_X8_sumOf]
  have h := l_sumOf hm hnw ha nw 0 0 5000 (by omega) (by omega)
  rw [Nat.zero_add] at h
  exact h
theorem e_noiseOf {m nw : Nat} (hm : m < 64) (hnw : nw ≤ 5) {a : Nat → Int32} {w : Nat → Nat} (ha : ∀ j, j < nw → a j = nI (w j)) : F_X8_noiseOf (nI m) (nI nw) a = some (nI (bsN m w nw 0)) := by
  rw [F_X8_noiseOf, e_sumOf hm hnw ha, sb]
theorem e_gainOf {m nw : Nat} (hm : m < 64) (hnw : nw ≤ 5) {a : Nat → Int32} {w : Nat → Nat} (ha : ∀ j, j < nw → a j = nI (w j)) : F_X8_gainOf (nI m) (nI nw) a = some (nI (bsN m w nw 0)) := by
  rw [F_X8_gainOf, e_sumOf hm hnw ha, sb]
theorem l_sumNoise {m nw : Nat} (hm : m < 64) (hnw : nw ≤ 5) {a b : Nat → Int32} {w : Nat → Nat} (hb : b 0 = nI nw) (ha : ∀ j, j < nw → a j = nI (w j)) : ∀ (r i acc f : Nat), i + r = nw → r < f → L_X10_sumNoise_4 (nI m) a b f (nI acc) (nI i) = some (nI (acc + bsN m w r i)) := by
  have hb' : b (Int32.toNatClampNeg 0) = nI nw := hb
  intro r
  induction r with
  | zero =>
    intro i acc f hi hf
    obtain ⟨f, rfl⟩ : ∃ g, f = g + 1 := ⟨f - 1, by omega⟩
    rw [L_X10_sumNoise_4, hb', if_pos (nI_le (a := nw) (b := i) (by omega) (by omega))]
    rfl
  | succ r ih =>
    intro i acc f hi hf
    obtain ⟨f, rfl⟩ : ∃ g, f = g + 1 := ⟨f - 1, by omega⟩
    rw [L_X10_sumNoise_4, hb', if_neg (nI_ge (a := i) (b := nw) (by omega) (by omega)), if_pos (inbT (by omega) (by decide)), bit_ok m hm i (by omega), nI_clamp (by omega), ha i (by omega)]
    by_cases h : m.testBit i = true
    · rw [if_pos h, show (1 : Int32) * nI (w i) = nI (w i) from (pk_mul 1 (w i)).trans (by rw [Nat.one_mul]), nI_add, nI_1, ih (i + 1) _ f (by omega) (by omega), bsN, if_pos h, Nat.add_assoc]
    · rw [if_neg h, show (0 : Int32) * nI (w i) = nI 0 from (pk_mul 0 (w i)).trans (by rw [Nat.zero_mul]), nI_add, nI_1, ih (i + 1) _ f (by omega) (by omega), bsN, if_neg h, Nat.zero_add, Nat.add_zero]
theorem e_sumNoise {m nw : Nat} (hm : m < 64) (hnw : nw ≤ 5) {a b : Nat → Int32} {w : Nat → Nat} (hb : b 0 = nI nw) (ha : ∀ j, j < nw → a j = nI (w j)) : F_X10_sumNoise (nI m) a b = some (nI (bsN m w nw 0)) := by
  rw [F_X10_sumNoise]
  have h := l_sumNoise hm hnw hb ha nw 0 0 5000 (by omega) (by omega)
  rw [Nat.zero_add] at h
  exact h
theorem l_sumBrings {m nw : Nat} (hm : m < 64) (hnw : nw ≤ 5) {a b : Nat → Int32} {w : Nat → Nat} (hb : b 0 = nI nw) (ha : ∀ j, j < nw → a j = nI (w j)) : ∀ (r i acc f : Nat), i + r = nw → r < f → L_X10_sumBrings_4 (nI m) a b f (nI acc) (nI i) = some (nI (acc + bsN m w r i)) := by
  have hb' : b (Int32.toNatClampNeg 0) = nI nw := hb
  intro r
  induction r with
  | zero =>
    intro i acc f hi hf
    obtain ⟨f, rfl⟩ : ∃ g, f = g + 1 := ⟨f - 1, by omega⟩
    rw [L_X10_sumBrings_4, hb', if_pos (nI_le (a := nw) (b := i) (by omega) (by omega))]
    rfl
  | succ r ih =>
    intro i acc f hi hf
    obtain ⟨f, rfl⟩ : ∃ g, f = g + 1 := ⟨f - 1, by omega⟩
    rw [L_X10_sumBrings_4, hb', if_neg (nI_ge (a := i) (b := nw) (by omega) (by omega)), if_pos (inbT (by omega) (by decide)), bit_ok m hm i (by omega), nI_clamp (by omega), ha i (by omega)]
    by_cases h : m.testBit i = true
    · rw [if_pos h, show (1 : Int32) * nI (w i) = nI (w i) from (pk_mul 1 (w i)).trans (by rw [Nat.one_mul]), nI_add, nI_1, ih (i + 1) _ f (by omega) (by omega), bsN, if_pos h, Nat.add_assoc]
    · rw [if_neg h, show (0 : Int32) * nI (w i) = nI 0 from (pk_mul 0 (w i)).trans (by rw [Nat.zero_mul]), nI_add, nI_1, ih (i + 1) _ f (by omega) (by omega), bsN, if_neg h, Nat.zero_add, Nat.add_zero]
theorem e_sumBrings {m nw : Nat} (hm : m < 64) (hnw : nw ≤ 5) {a b : Nat → Int32} {w : Nat → Nat} (hb : b 0 = nI nw) (ha : ∀ j, j < nw → a j = nI (w j)) : F_X10_sumBrings (nI m) a b = some (nI (bsN m w nw 0)) := by
  rw [F_X10_sumBrings]
  have h := l_sumBrings hm hnw hb ha nw 0 0 5000 (by omega) (by omega)
  rw [Nat.zero_add] at h
  exact h
/-! WORKS and SIGNS of the town: class, reference -/
def RWorks (nw : Nat) (wn wg : Nat → Nat) (wc : Int32) (cn cg : Nat → Int32) (m9 mn mg : Nat → Int32) : Prop := nw ≤ 5 ∧ wc = nI nw ∧ m9 0 = nI nw ∧ ∀ j, j < nw → (cn j = nI (wn j) ∧ mn j = nI (wn j) ∧ wn j ≤ 4) ∧ (cg j = nI (wg j) ∧ mg j = nI (wg j) ∧ wg j ≤ 20)
theorem fw_works (x y : Int32) {nw : Nat} {wn wg : Nat → Nat} {wc : Int32} {cn cg m9 mn mg : Nat → Int32} (h : RWorks nw wn wg wc cn cg m9 mn mg) : ∃ v, F_X9_works x y wc cg cn = some v ∧ F_X10_works x y mg mn m9 = some v := by
  obtain ⟨hn, rfl, h9, hj⟩ := h
  have p2 := pow6 nw (by omega)
  rcases win_c x 0 (nI (2 ^ nw) - 1) with hw | ⟨hw, a1, a2⟩
  · exact ⟨-1, by rw [F_X9_works, e_isSet (by omega), hw, b0], by rw [F_X10_works, e_areWorks (n := nw) (by omega) x m9 h9, hw, b0]⟩
  · obtain ⟨c, hc, rfl⟩ := rng (by omega) a1 a2
    rcases win_c y 0 1 with hv | ⟨hv, c1, c2⟩
    · exact ⟨-1, by rw [F_X9_works, e_isSet (by omega), hw, b1, e_within, hv, b0], by rw [F_X10_works, e_areWorks (n := nw) (by omega) _ m9 h9, hw, b1, e_in, hv, b0]⟩
    · by_cases hy : y = 0
      · exact ⟨nI (bsN c wn nw 0), by rw [F_X9_works, e_isSet (by omega), hw, b1, e_within, hv, b1, if_pos hy, e_noiseOf (by omega) hn (fun j h => (hj j h).1.1), sb], by rw [F_X10_works, e_areWorks (n := nw) (by omega) _ m9 h9, hw, b1, e_in, hv, b1, if_pos hy, e_sumNoise (by omega) hn h9 (fun j h => (hj j h).1.2.1), sb]⟩
      · exact ⟨nI (bsN c wg nw 0), by rw [F_X9_works, e_isSet (by omega), hw, b1, e_within, hv, b1, if_neg hy, e_gainOf (by omega) hn (fun j h => (hj j h).2.1), sb], by rw [F_X10_works, e_areWorks (n := nw) (by omega) _ m9 h9, hw, b1, e_in, hv, b1, if_neg hy, e_sumBrings (by omega) hn h9 (fun j h => (hj j h).2.2.1), sb]⟩
def RSigns (ns : Nat) (sg : Nat → Nat) (sc : Int32) (cs : Nat → Int32) (m2 mt : Nat → Int32) : Prop := 1 ≤ ns ∧ ns ≤ 4 ∧ sc = nI ns ∧ m2 0 = nI ns ∧ (∀ j, j < 4 * ns → cs j = nI (sg j) ∧ mt j = nI (sg j) ∧ sg j ≤ 4) ∧ ∀ k, k < ns → sg (4 * k) ≤ 3
theorem fw_sign (x y : Int32) {ns : Nat} {sg : Nat → Nat} {sc : Int32} {cs m2 mt : Nat → Int32} (h : RSigns ns sg sc cs m2 mt) : ∃ v, F_X9_sign x y sc cs = some v ∧ F_X10_sign x y m2 mt = some v := by
  obtain ⟨hn1, hn, rfl, h2, hj, -⟩ := h
  rcases win_c x 0 (nI ns - 1) with hw | ⟨hw, a1, a2⟩
  · exact ⟨-1, by rw [F_X9_sign, e_within, hw, b0], by rw [F_X10_sign, e_isSign ns x m2 h2, hw, b0]⟩
  · obtain ⟨k, hk, rfl⟩ := rng (by omega) a1 a2
    rcases win_c y 0 3 with hv | ⟨hv, c1, c2⟩
    · exact ⟨-1, by rw [F_X9_sign, e_within, hw, b1, e_within, hv, b0], by rw [F_X10_sign, e_isSign ns _ m2 h2, hw, b1, e_in, hv, b0]⟩
    · obtain ⟨w, hw3, rfl⟩ := rngk (n := 3) (by decide) c1 c2
      have e1 : nI k * 4 + nI w = nI (4 * k + w) := by rw [show nI k * 4 = nI (k * 4) from pk_mul k 4, nI_add, Nat.mul_comm]
      have e2 : 4 * nI k + nI w = nI (4 * k + w) := by rw [show 4 * nI k = nI (4 * k) from pk_mul 4 k, nI_add]
      obtain ⟨g1, g2, g3⟩ := hj (4 * k + w) (by omega)
      exact ⟨nI (sg (4 * k + w)), by rw [F_X9_sign, e_within, hw, b1, e_within, hv, b1, F_X8_signNumber, e1, at_in (by omega) (by decide), sb, sb, g1], by rw [F_X10_sign, e_isSign ns _ m2 h2, hw, b1, e_in, hv, b1, e2, if_pos (inbT (by omega) (by decide)), nI_clamp (by omega), g2]⟩
theorem fw_diary (x y : Int32) {ns nw : Nat} {d : Int32} {sg wk md ms mw : Nat → Int32} (h : RDiary ns nw d sg wk md ms mw 0) : ∃ v, F_X9_diary x y d sg wk = some v ∧ F_X10_diary x y md ms mw = some v := by
  obtain ⟨n, hn, rfl, hmd, hj⟩ := h
  have hmd' : md (Int32.toNatClampNeg 0) = nI n := hmd
  rcases win_c x 0 (nI n - 1) with hw | ⟨hw, a1, a2⟩
  · exact ⟨-1, by rw [F_X9_diary, e_within, hw, b0], by rw [F_X10_diary, hmd', e_in, hw, b0]⟩
  · obtain ⟨k, hk, rfl⟩ := rng (by omega) a1 a2
    obtain ⟨⟨g1, -⟩, g2, -⟩ := hj k hk
    rw [show 5 * 0 + k = k by omega] at g1 g2
    rcases win_c y 0 1 with hv | ⟨hv, c1, c2⟩
    · exact ⟨-1, by rw [F_X9_diary, e_within, hw, b1, e_within, hv, b0], by rw [F_X10_diary, hmd', e_in, hw, b1, e_in, hv, b0]⟩
    · by_cases hy : y = 0
      · exact ⟨sg k, by rw [F_X9_diary, e_within, hw, b1, e_within, hv, b1, if_pos hy, F_X1_signsOn, at_in (by omega) (by decide), sb, sb], by rw [F_X10_diary, hmd', e_in, hw, b1, e_in, hv, b1, if_pos hy, if_pos (inbT (by omega) (by decide)), nI_clamp (by omega), g1]⟩
      · exact ⟨wk k, by rw [F_X9_diary, e_within, hw, b1, e_within, hv, b1, if_neg hy, F_X1_worksOn, at_in (by omega) (by decide), sb, sb], by rw [F_X10_diary, hmd', e_in, hw, b1, e_in, hv, b1, if_neg hy, if_pos (inbT (by omega) (by decide)), nI_clamp (by omega), g2]⟩
/-! what is TOLD ahead -/
def RTold (ns : Nat) (tp : Int32) (ta tb : Nat → Int32) (mp : Int32) (ma mb : Nat → Int32) : Prop := ∃ n : Nat, n ≤ 8 ∧ tp = nI n ∧ mp = nI n ∧ ∀ j, j < n → ta j = ma j ∧ tb j = mb j ∧ ∃ p q : Nat, p < ns ∧ q < ns ∧ p ≠ q ∧ ta j = nI p ∧ tb j = nI q
theorem e_tappend {n : Nat} (h : n < 8) (x y : Int32) (a b : Nat → Int32) : F_X7_append x y (nI n) a b = some (nI (n + 1), upd a n x, upd b n y) := by
  rw [F_X7_append, if_neg (show ¬ (8 : Int32) ≤ nI n from nI_ge (a := n) (b := 8) h (by decide)), put_in h (by decide), sb, put_in h (by decide), sb, nI_1]
theorem fw_ahead (x y : Int32) {ns : Nat} (hns : ns ≤ 4) {sc tp mp : Int32} {ta tb ma mb m2 : Nat → Int32} (hs : sc = nI ns) (h2 : m2 0 = nI ns) (h : RTold ns tp ta tb mp ma mb) : ∃ o1 o2, F_X9_ahead x y tp ta tb sc = some o1 ∧ F_X10_ahead x y mp ma mb m2 = some o2 ∧ o1.1 = o2.1 ∧ RTold ns o1.2.1 o1.2.2.1 o1.2.2.2 o2.2.1 o2.2.2.1 o2.2.2.2 := by
  subst hs
  have same := h
  obtain ⟨n, hn, rfl, rfl, hj⟩ := h
  rcases win_c x 0 (nI ns - 1) with hw | ⟨hw, a1, a2⟩
  · exact ⟨(-1, nI n, ta, tb), (-1, nI n, ma, mb), by rw [F_X9_ahead, e_within, hw, b0], by rw [F_X10_ahead, e_isSign ns x m2 h2, hw, b0], rfl, same⟩
  · rcases win_c y 0 (nI ns - 1) with hv | ⟨hv, c1, c2⟩
    · exact ⟨(-1, nI n, ta, tb), (-1, nI n, ma, mb), by rw [F_X9_ahead, e_within, hw, b1, e_within, hv, b0], by rw [F_X10_ahead, e_isSign ns x m2 h2, hw, b1, e_isSign ns y m2 h2, hv, b0], rfl, same⟩
    · by_cases hxy : x = y
      · exact ⟨(-1, nI n, ta, tb), (-1, nI n, ma, mb), by rw [F_X9_ahead, e_within, hw, b1, e_within, hv, b1, if_pos hxy], by rw [F_X10_ahead, e_isSign ns x m2 h2, hw, b1, e_isSign ns y m2 h2, hv, b1, if_pos hxy], rfl, same⟩
      · obtain ⟨p, hp, rfl⟩ := rng (by omega) a1 a2
        obtain ⟨q, hq, rfl⟩ := rng (by omega) c1 c2
        have hpq : p ≠ q := fun e => hxy (by rw [e])
        rcases Nat.lt_or_ge n 8 with r | r
        · refine ⟨(nI (n + 1), nI (n + 1), upd ta n (nI p), upd tb n (nI q)), (nI (n + 1), nI (n + 1), upd ma n (nI p), upd mb n (nI q)), ?_, ?_, rfl, n + 1, r, rfl, rfl, ?_⟩
          · rw [F_X9_ahead, e_within, hw, b1, e_within, hv, b1, if_neg hxy, if_pos (show nI n < (8 : Int32) from nI_lt (a := n) (b := 8) r (by decide)), e_tappend r, sb]
          · rw [F_X10_ahead, e_isSign ns _ m2 h2, hw, b1, e_isSign ns _ m2 h2, hv, b1, if_neg hxy, if_neg (show ¬ nI n = (8 : Int32) from fun e => absurd ((nI_eq (a := n) (b := 8) (by omega) (by decide)).mp e) (by omega)), if_pos (inbT r (by decide)), if_pos (inbT r (by decide)), nI_clamp (by omega), nI_1]
          · intro j hjn
            dsimp only
            by_cases e : j = n
            · subst e
              rw [upd_s, upd_s, upd_s, upd_s]
              exact ⟨rfl, rfl, p, q, hp, hq, hpq, rfl, rfl⟩
            · rw [upd_n e, upd_n e, upd_n e, upd_n e]; exact hj j (by omega)
        · obtain rfl : n = 8 := by omega
          exact ⟨(-3, nI 8, ta, tb), (-3, nI 8, ma, mb), by rw [F_X9_ahead, e_within, hw, b1, e_within, hv, b1, if_neg hxy, if_neg (by decide)], by rw [F_X10_ahead, e_isSign ns _ m2 h2, hw, b1, e_isSign ns _ m2 h2, hv, b1, if_neg hxy, if_pos (by decide)], rfl, same⟩
theorem fw_forget {ns : Nat} {tp mp : Int32} {ta tb ma mb : Nat → Int32} (h : RTold ns tp ta tb mp ma mb) : ∃ o1 o2, F_X9_forget tp = some o1 ∧ F_X10_forget mp = some o2 ∧ o1.1 = o2.1 ∧ RTold ns o1.2 ta tb o2.2 ma mb := by
  obtain ⟨n, hn, rfl, rfl, hj⟩ := h
  exact ⟨(nI n, 0), (nI n, 0), rfl, rfl, rfl, 0, by omega, rfl, rfl, fun j h => absurd h (by omega)⟩
