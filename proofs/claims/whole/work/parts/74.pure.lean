/-! pure rows: chances, draws, A SPRING -/
def mn4 (a : Nat) : Nat := if a < 4 then a else 4
theorem mn4_le (a : Nat) : mn4 a ≤ 4 := by
  rw [mn4]
  by_cases h : a < 4
  · rw [if_pos h]; omega
  · rw [if_neg h]; omega
theorem e_chance9 {s q : Nat} (hs : s < 3) (hq : q ≤ 100) {lg : Nat → Nat} {a : Nat → Int32} (ha : ∀ j, j < 3 → a j = nI (lg j) ∧ lg j ≤ 4) : F_X8_chance (nI s) (nI q) a = some (nI (mn4 (lg s + q))) := by
  obtain ⟨g1, g2⟩ := ha s hs
  rw [F_X8_chance, at_in (k := s) (n := 3) hs (by decide), sb, g1, nI_add, mn4]
  by_cases h : lg s + q < 4
  · rw [if_pos (show nI (lg s + q) < (4 : Int32) from nI_lt (b := 4) h (by decide)), if_pos h]
  · rw [if_neg (show ¬ nI (lg s + q) < (4 : Int32) from nI_nlt (a := lg s + q) (b := 4) (by omega) (by omega)), if_neg h]; rfl
theorem e_chance10 {s m nw : Nat} (hs : s < 3) (hm : m < 64) (hnw : nw ≤ 5) {lg w : Nat → Nat} {a b c : Nat → Int32} (ha : ∀ j, j < 3 → a j = nI (lg j) ∧ lg j ≤ 4) (hc : c 0 = nI nw) (hb : ∀ j, j < nw → b j = nI (w j)) (hq : bsN m w nw 0 ≤ 100) : F_X10_chance (nI s) (nI m) a b c = some (nI (mn4 (lg s + bsN m w nw 0))) := by
  obtain ⟨g1, g2⟩ := ha s hs
  rw [F_X10_chance, if_pos (inbT (by omega) (by decide)), e_sumNoise hm hnw hc hb, sb, nI_clamp (by omega), g1, nI_add, mn4]
  by_cases h : lg s + bsN m w nw 0 < 4
  · rw [if_pos (show nI (lg s + bsN m w nw 0) ≤ (4 : Int32) from nI_le (b := 4) (by omega) (by decide)), if_pos h]
  · rw [if_neg h]
    by_cases h4 : lg s + bsN m w nw 0 = 4
    · rw [h4, if_pos (by decide)]
    · rw [if_neg (show ¬ nI (lg s + bsN m w nw 0) ≤ (4 : Int32) from nI_ge (a := 4) (b := lg s + bsN m w nw 0) (by omega) (by omega))]; rfl
def drX (z d : Nat) : Nat := 7919 * z + 6151 * d + 1
def drR (z d : Nat) : Nat := drX z d * drX z d % 65521
theorem drX_sq {z d : Nat} (hz : z ≤ 9999) (hd : d ≤ 61) : drX z d * drX z d < 2 ^ 63 := by
  have h : drX z d ≤ 80000000 := by rw [drX]; omega
  have h2 := Nat.mul_le_mul h h
  omega
theorem drR_lt (z d : Nat) : drR z d < 65521 := Nat.mod_lt _ (by decide)
theorem e_x {z d : Nat} (hz : z ≤ 9999) (hd : d ≤ 61) : (7919 * Int32.toInt64 (nI z) + 6151 * Int32.toInt64 (nI d)) + 1 = lN (drX z d) := by
  rw [nI_l (n := z) (by omega), nI_l (n := d) (by omega), show (7919 : Int64) * lN z = lN (7919 * z) from lN_mul 7919 z, show (6151 : Int64) * lN d = lN (6151 * d) from lN_mul 6151 d, lN_add, lN_1]
  rfl
theorem e_r {z d : Nat} (hz : z ≤ 9999) (hd : d ≤ 61) : lN (drX z d) * lN (drX z d) - lN (drX z d) * lN (drX z d) / 65521 * 65521 = lN (drR z d) := by
  rw [lN_mul]
  exact pk_lRem (a := drX z d * drX z d) (b := 65521) (drX_sq hz hd) (by decide) (by decide)
theorem e_draw9 {z d : Nat} (hz : z ≤ 9999) (hd : d ≤ 61) : F_X9_draw (nI z) (nI d) = some (nI (drR z d / 8)) := by
  have hr := drR_lt z d
  rw [F_X9_draw, e_x hz hd, e_r hz hd, show lN (drR z d) / 8 = lN (drR z d / 8) from pk_lDiv (a := drR z d) (b := 8) (by omega) (by decide) (by decide), lN_i]
theorem e_draw10 {z d : Nat} (hz : z ≤ 9999) (hd : d ≤ 61) : Int64.toInt32 (lN (drX z d) * lN (drX z d) - lN (drX z d) * lN (drX z d) / 65521 * 65521) / 8 = nI (drR z d / 8) := by
  have hr := drR_lt z d
  rw [e_r hz hd, lN_i]
  exact pk_div (a := drR z d) (d := 8) (by omega) (by decide) (by decide)
theorem e_m4 {z d : Nat} : nI (drR z d / 8) - nI (drR z d / 8) / 4 * 4 = nI (drR z d / 8 % 4) := by
  have hr := drR_lt z d
  exact pk_rem (a := drR z d / 8) (d := 4) (by omega) (by decide) (by decide)
theorem l_spring {z m nw q : Nat} (hz : z ≤ 9999) (hm : m < 64) (hnw : nw ≤ 5) {lg w : Nat → Nat} {cl a b c : Nat → Int32} (hcl : ∀ j, j < 3 → cl j = nI (lg j) ∧ lg j ≤ 4) (ha : ∀ j, j < 3 → a j = nI (lg j) ∧ lg j ≤ 4) (hc : c 0 = nI nw) (hb : ∀ j, j < nw → b j = nI (w j)) (hq : q = bsN m w nw 0) (hq1 : q ≤ 100) (k : Int32 → Int32 → Option Int32) :
    ∀ (r d s n f g : Nat), d + r = 61 → 1 ≤ d → s < 3 → r < f → r < g → ∃ A B, L_X9_spring_59 (nI z) cl (nI q) k (f + 1) (nI s) (nI n) (-4) (nI d) = k A B ∧ L_X10_spring_43 (nI z) (nI m) a b c k (g + 1) (nI s) (nI n) (-4) (nI d) = k A B := by
  intro r
  induction r with
  | zero =>
    intro d s n f g hd hd1 hs hf hg
    obtain rfl : d = 61 := by omega
    exact ⟨nI n, -4, by rw [L_X9_spring_59, if_pos (by decide)], by rw [L_X10_spring_43, if_pos (by decide)]⟩
  | succ r ih =>
    intro d s n f g hd hd1 hs hf hg
    obtain ⟨f, rfl⟩ : ∃ x, f = x + 1 := ⟨f - 1, by omega⟩
    obtain ⟨g, rfl⟩ : ∃ x, g = x + 1 := ⟨g - 1, by omega⟩
    have n60 : ¬ (60 : Int32) < nI d := nI_nlt (a := 60) (b := d) (by omega) (by decide)
    have n3 : ¬ (3 : Int32) ≤ nI s := nI_ge (a := s) (b := 3) hs (by decide)
    have hch := mn4_le (lg s + q)
    rw [L_X9_spring_59, L_X10_spring_43, if_neg n60, if_neg n60, if_neg n3, if_pos rfl, e_draw9 hz (by omega), sb, e_chance9 hs hq1 hcl, sb, e_chance10 hs hm hnw ha hc hb (by omega), sb, ← hq, e_x hz (by omega), e_draw10 hz (by omega), e_m4]
    by_cases hg1 : mn4 (lg s + q) ≤ drR z d / 8 % 4
    · have c1 : nI (mn4 (lg s + q)) ≤ nI (drR z d / 8 % 4) := nI_le hg1 (by omega)
      rw [jn, if_pos c1, jn, if_pos c1]
      dsimp only [jn]
      by_cases h2 : s = 2
      · subst h2
        rw [if_pos (show nI 2 = 2 from rfl), if_neg (show ¬ nI 2 = 3 by decide), if_pos (show nI 2 = 2 from rfl), nI_1 n, nI_1 d]
        exact ih (d + 1) 2 (n + 1) f g (by omega) (by omega) (by decide) (by omega) (by omega)
      · have g2 : ¬ nI s = 2 := fun e => h2 ((nI_eq (a := s) (b := 2) (by omega) (by decide)).mp e)
        have g3 : ¬ nI s = 3 := fun e => absurd ((nI_eq (a := s) (b := 3) (by omega) (by decide)).mp e) (by omega)
        rw [if_neg g2, if_neg g3, if_neg g2, nI_1 d, show nI n + 0 = nI n from nI_add n 0]
        exact ih (d + 1) s n f g (by omega) (by omega) hs (by omega) (by omega)
    · have c1 : ¬ nI (mn4 (lg s + q)) ≤ nI (drR z d / 8 % 4) := nI_ge (by omega) (by omega)
      rw [jn, if_neg c1, jn, if_neg c1]
      dsimp only [jn]
      by_cases h2 : s = 2
      · subst h2
        rw [if_neg (show ¬ nI 2 + 1 = 2 by decide), if_pos (show nI 2 + 1 = 3 by decide), if_pos (show nI 2 = 2 from rfl), if_neg (show ¬ nI 2 + 1 = 2 by decide), nI_1 d, show nI n + 0 = nI n from nI_add n 0, L_X9_spring_59, L_X10_spring_43]
        have nd : ¬ nI d = -4 := fun e => absurd (show (nI d).toInt = -4 by rw [e]; rfl) (by rw [nI_toInt (by omega)]; omega)
        refine ⟨nI n, nI d, ?_, ?_⟩
        · by_cases h9 : (60 : Int32) < nI (d + 1)
          · rw [if_pos h9]
          · rw [if_neg h9, if_pos (by decide)]
        · by_cases h9 : (60 : Int32) < nI (d + 1)
          · rw [if_pos h9]
          · rw [if_neg h9, if_neg nd]
      · have g2 : ¬ nI s = 2 := fun e => h2 ((nI_eq (a := s) (b := 2) (by omega) (by decide)).mp e)
        rw [if_neg g2, nI_1 s, nI_1 d]
        have g3 : ¬ nI (s + 1) = 3 := fun e => absurd ((nI_eq (a := s + 1) (b := 3) (by omega) (by decide)).mp e) (by omega)
        by_cases h1 : s = 1
        · subst h1
          rw [if_pos (show nI (1 + 1) = 2 from rfl), if_neg g3, if_pos (show nI (1 + 1) = 2 from rfl), nI_1 n]
          exact ih (d + 1) 2 (n + 1) f g (by omega) (by omega) (by decide) (by omega) (by omega)
        · have g4 : ¬ nI (s + 1) = 2 := fun e => absurd ((nI_eq (a := s + 1) (b := 2) (by omega) (by decide)).mp e) (by omega)
          rw [if_neg g4, if_neg g3, if_neg g4, show nI n + 0 = nI n from nI_add n 0]
          exact ih (d + 1) (s + 1) n f g (by omega) (by omega) (by omega) (by omega) (by omega)
theorem fw_spring (x y w : Int32) {nw : Nat} {wn wg lg : Nat → Nat} {wc : Int32} {cn cg m9 mn mg cl mgo : Nat → Int32} (h : RWorks nw wn wg wc cn cg m9 mn mg) (hcl : ∀ j, j < 3 → cl j = nI (lg j) ∧ lg j ≤ 4) (ha : ∀ j, j < 3 → mgo j = nI (lg j) ∧ lg j ≤ 4) : ∃ v, F_X9_spring x y w wc cl cn = some v ∧ F_X10_spring x y w mgo mn m9 = some v := by
  obtain ⟨hn, rfl, h9, hj⟩ := h
  have p2 := pow6 nw (by omega)
  rcases win_c x 0 9999 with hw | ⟨hw, a1, a2⟩
  · exact ⟨-1, by rw [F_X9_spring, e_within, hw, b0], by rw [F_X10_spring, e_in, hw, b0]⟩
  · obtain ⟨z, hz, rfl⟩ := rngk (n := 9999) (by decide) a1 a2
    rcases win_c y 0 (nI (2 ^ nw) - 1) with hv | ⟨hv, c1, c2⟩
    · exact ⟨-1, by rw [F_X9_spring, e_within, hw, b1, e_isSet (by omega), hv, b0], by rw [F_X10_spring, e_in, hw, b1, e_areWorks (n := nw) (by omega) _ m9 h9, hv, b0]⟩
    · obtain ⟨m, hm, rfl⟩ := rng (by omega) c1 c2
      rcases win_c w 0 1 with hu | ⟨hu, d1, d2⟩
      · exact ⟨-1, by rw [F_X9_spring, e_within, hw, b1, e_isSet (by omega), hv, b1, e_within, hu, b0], by rw [F_X10_spring, e_in, hw, b1, e_areWorks (n := nw) (by omega) _ m9 h9, hv, b1, e_in, hu, b0]⟩
      · have hq := bsN_le (m := m) (c := 4) (w := wn) (n := nw) (fun j h => (hj j h).1.2.2) nw 0 (by omega)
        obtain ⟨A, B, g1, g2⟩ := l_spring (z := z) (m := m) (nw := nw) (q := bsN m wn nw 0) hz (by omega) hn hcl ha h9 (fun j h => (hj j h).1.2.1) rfl (by omega) (fun x6 x7 => if w = 0 then some x7 else some x6) 60 1 0 0 4999 4999 (by omega) (by omega) (by omega) (by omega) (by omega)
        refine ⟨if w = 0 then B else A, ?_, ?_⟩
        · rw [F_X9_spring, e_within, hw, b1, e_isSet (by omega), hv, b1, e_within, hu, b1, e_noiseOf (by omega) hn (fun j h => (hj j h).1.1), sb, jn]
          refine Eq.trans g1 ?_
          by_cases h0 : w = 0
          · rw [if_pos h0, if_pos h0]
          · rw [if_neg h0, if_neg h0]
        · rw [F_X10_spring, e_in, hw, b1, e_areWorks (n := nw) (by omega) _ m9 h9, hv, b1, e_in, hu, b1, jn]
          refine Eq.trans g2 ?_
          by_cases h0 : w = 0
          · rw [if_pos h0, if_pos h0]
          · rw [if_neg h0, if_neg h0]
