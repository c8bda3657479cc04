/-! pure rows: DRIFT, the reference's side, and both -/
abbrev DO : Type := Option (Int32 × (Nat → Int32) × (Nat → Int32))
def mrel (mi : Nat → Int32) (u : Nat → Nat) : Prop := (∀ j, j < 13 → mi (j + 1) = nI (u j)) ∧ mi 0 = 0 ∧ mi 14 = 0
theorem m_ini (k : (Nat → Int32) → DO) : ∀ (r i g : Nat) (a : Nat → Int32), i + r = 15 → r < g → (∀ j, j < i → a j = nI (if j = 7 then 1 else 0)) → ∃ a', L_X10_drift_56 k g (nI i) a = k a' ∧ ∀ j, j < 15 → a' j = nI (if j = 7 then 1 else 0) := by
  intro r
  induction r with
  | zero =>
    intro i g a hi hg ha
    obtain ⟨g, rfl⟩ : ∃ x, g = x + 1 := ⟨g - 1, by omega⟩
    obtain rfl : i = 15 := by omega
    exact ⟨a, by rw [L_X10_drift_56, if_pos (by decide)], ha⟩
  | succ r ih =>
    intro i g a hi hg ha
    obtain ⟨g, rfl⟩ : ∃ x, g = x + 1 := ⟨g - 1, by omega⟩
    obtain ⟨a', g1, g2⟩ := ih (i + 1) g (upd a i (nI (if i = 7 then 1 else 0))) (by omega) (by omega) (fun j hj => by
      by_cases h : j = i
      · subst h; exact upd_s _ _ _
      · rw [upd_n h]; exact ha j (by omega))
    refine ⟨a', ?_, g2⟩
    rw [L_X10_drift_56, if_neg (show ¬ (15 : Int32) ≤ nI i from nI_ge (a := i) (b := 15) (by omega) (by decide)), jn]
    by_cases h : i = 7
    · subst h
      rw [if_pos (show nI 7 = 7 from rfl)]
      dsimp only
      rw [if_pos (inbT (k := 7) (n := 15) (by omega) (by decide)), nI_clamp (by omega), nI_1]
      exact g1
    · rw [if_neg (show ¬ nI i = 7 from fun e => h ((nI_eq (a := i) (b := 7) (by omega) (by decide)).mp e))]
      dsimp only
      rw [if_pos (inbT (k := i) (n := 15) (by omega) (by decide)), nI_clamp (by omega), nI_1]
      rw [if_neg h] at g1
      exact g1
theorem m_night {e f : Nat} (hef : e + f ≤ 4) {mi : Nat → Int32} {u : Nat → Nat} (hm : mrel mi u) (k : (Nat → Int32) → DO) : ∀ (r j g : Nat) (a : Nat → Int32), j + r = 13 → r < g → (∀ q, q < j → a (q + 1) = nI (dst e f u q)) → ∃ a', L_X10_drift_103 (nI e) (nI f) mi k g (nI (j + 1)) a = k a' ∧ ∀ q, q < 13 → a' (q + 1) = nI (dst e f u q) := by
  intro r
  induction r with
  | zero =>
    intro i g a hi hg ha
    obtain ⟨g, rfl⟩ : ∃ x, g = x + 1 := ⟨g - 1, by omega⟩
    obtain rfl : i = 13 := by omega
    exact ⟨a, by rw [L_X10_drift_103, if_pos (by decide)], ha⟩
  | succ r ih =>
    intro i g a hi hg ha
    obtain ⟨g, rfl⟩ : ∃ x, g = x + 1 := ⟨g - 1, by omega⟩
    have w2 : mi i = nI (if i = 0 then 0 else u (i - 1)) := by
      by_cases h : i = 0
      · subst h; rw [hm.2.1, if_pos rfl]; rfl
      · have h9 := hm.1 (i - 1) (by omega)
        rw [show i - 1 + 1 = i by omega] at h9
        rw [if_neg h]; exact h9
    have w3 : mi (i + 1 + 1) = nI (if i = 12 then 0 else u (i + 1)) := by
      by_cases h : i = 12
      · subst h; rw [if_pos rfl]; exact hm.2.2
      · rw [if_neg h]; exact hm.1 (i + 1) (by omega)
    obtain ⟨a', g1, g2⟩ := ih (i + 1) g (upd a (i + 1) (nI (dst e f u i))) (by omega) (by omega) (fun j hj => by
      by_cases h : j = i
      · subst h; exact upd_s _ _ _
      · rw [upd_n (by omega)]; exact ha j (by omega))
    refine ⟨a', ?_, g2⟩
    rw [L_X10_drift_103, if_neg (show ¬ (14 : Int32) ≤ nI (i + 1) from nI_ge (a := i + 1) (b := 14) (by omega) (by decide)), nI_pred, nI_1 (i + 1), if_pos (inbT (k := i + 1) (n := 15) (by omega) (by decide)), if_pos (inbT (k := i) (n := 15) (by omega) (by decide)), if_pos (inbT (k := i + 1 + 1) (n := 15) (by omega) (by decide)), if_pos (inbT (k := i + 1) (n := 15) (by omega) (by decide)), nI_clamp (n := i + 1) (by omega), nI_clamp (n := i) (by omega), nI_clamp (n := i + 1 + 1) (by omega), hm.1 i (by omega), w2, w3, dexp hef]
    exact g1
theorem m_copy {v : Nat → Nat} {b : Nat → Int32} (hb : ∀ j, j < 13 → b (j + 1) = nI (v j)) (k : (Nat → Int32) → DO) : ∀ (r j g : Nat) (a : Nat → Int32), j + r = 13 → r < g → a 0 = 0 → a 14 = 0 → (∀ q, q < j → a (q + 1) = nI (v q)) → ∃ a', L_X10_drift_165 b k g (nI (j + 1)) a = k a' ∧ mrel a' v := by
  intro r
  induction r with
  | zero =>
    intro i g a hi hg h0 h14 ha
    obtain ⟨g, rfl⟩ : ∃ x, g = x + 1 := ⟨g - 1, by omega⟩
    obtain rfl : i = 13 := by omega
    exact ⟨a, by rw [L_X10_drift_165, if_pos (by decide)], ha, h0, h14⟩
  | succ r ih =>
    intro i g a hi hg h0 h14 ha
    obtain ⟨g, rfl⟩ : ∃ x, g = x + 1 := ⟨g - 1, by omega⟩
    obtain ⟨a', g1, g2⟩ := ih (i + 1) g (upd a (i + 1) (nI (v i))) (by omega) (by omega) (by rw [upd_n (by omega)]; exact h0) (by rw [upd_n (by omega)]; exact h14) (fun j hj => by
      by_cases h : j = i
      · subst h; exact upd_s _ _ _
      · rw [upd_n (by omega)]; exact ha j (by omega))
    refine ⟨a', ?_, g2⟩
    rw [L_X10_drift_165, if_neg (show ¬ (14 : Int32) ≤ nI (i + 1) from nI_ge (a := i + 1) (b := 14) (by omega) (by decide)), if_pos (inbT (k := i + 1) (n := 15) (by omega) (by decide)), if_pos (inbT (k := i + 1) (n := 15) (by omega) (by decide)), nI_clamp (n := i + 1) (by omega), nI_1 (i + 1), hb i (by omega)]
    exact g1
theorem m_pass {e f n : Nat} (hef : e + f ≤ 4) (hn : n ≤ 6) (k : Int32 → (Nat → Int32) → (Nat → Int32) → DO) : ∀ (r i g : Nat) (mi a : Nat → Int32) (u : Nat → Nat), i + r = n → r < g → mrel mi u → ∃ mi' a', L_X10_drift_94 (nI n) (nI e) (nI f) k g (nI (4 ^ i)) (nI i) mi a = k (nI (4 ^ n)) mi' a' ∧ mrel mi' (dit e f r u) := by
  intro r
  induction r with
  | zero =>
    intro i g mi a u hi hg hm
    obtain ⟨g, rfl⟩ : ∃ x, g = x + 1 := ⟨g - 1, by omega⟩
    obtain rfl : i = n := by omega
    exact ⟨mi, a, by rw [L_X10_drift_94, if_pos (nI_le (Nat.le_refl _) (by omega))], hm⟩
  | succ r ih =>
    intro i g mi a u hi hg hm
    obtain ⟨g, rfl⟩ : ∃ x, g = x + 1 := ⟨g - 1, by omega⟩
    rw [L_X10_drift_94, if_neg (nI_ge (a := i) (b := n) (by omega) (by omega)), jn, show nI (4 ^ i) * 4 = nI (4 ^ (i + 1)) from (pk_mul (4 ^ i) 4).trans (by rw [Nat.pow_succ]), nI_1]
    obtain ⟨b, g1, g2⟩ := m_night hef hm (fun a_next_162 => jn (fun a_miles_192 => L_X10_drift_94 (nI n) (nI e) (nI f) k g (nI (4 ^ (i + 1))) (nI (i + 1)) a_miles_192 a_next_162) (fun k_192 => L_X10_drift_165 a_next_162 k_192 5000 1 mi)) 13 0 5000 a (by omega) (by omega) (fun q h => absurd h (by omega))
    obtain ⟨m2, g3, g4⟩ := m_copy g2 (fun a_miles_192 => L_X10_drift_94 (nI n) (nI e) (nI f) k g (nI (4 ^ (i + 1))) (nI (i + 1)) a_miles_192 b) 13 0 5000 mi (by omega) (by omega) hm.2.1 hm.2.2 (fun q h => absurd h (by omega))
    obtain ⟨m3, a3, g5, g6⟩ := ih (i + 1) g m2 b (dst e f u) (by omega) (by omega) g4
    refine ⟨m3, a3, g1.trans ?_, g6⟩
    rw [jn]
    exact g3.trans g5
theorem four_ok : ∀ n, n < 7 → (1 : Int64) <<< (Int32.toInt64 (2 * nI n) &&& 63) = lN (4 ^ n) := by decide +kernel
theorem four_le : ∀ n, n < 7 → 4 ^ n ≤ 4096 ∧ 0 < 4 ^ n := by decide
theorem d_bad9 (x1 x2 : Int32) {A Z : DO} : (F_X9_isWithin x1 0 12).bind (fun q42 => if q42 = 0 then A else (F_X9_isWithin x2 0 6).bind (fun q52 => if q52 = 0 then A else if (0 : Int32) = 0 then A else Z)) = A := by
  rw [e_within]
  rcases win_c x1 0 12 with h | ⟨h, _, _⟩
  · rw [h, b0]
  · rw [h, b1, e_within]
    rcases win_c x2 0 6 with h2 | ⟨h2, _, _⟩
    · rw [h2, b0]
    · rw [h2, b1, if_pos rfl]
theorem fw_drift (x1 x2 x3 x4 x5 : Int32) (w a mi nx : Nat → Int32) : ∃ o1 o2, F_X9_drift x1 x2 x3 x4 x5 w a = some o1 ∧ F_X10_drift x1 x2 x3 x4 x5 mi nx = some o2 ∧ o1.1 = o2.1 := by
  by_cases hs : (¬ x3 < 0 ∧ ¬ 4 < x3) ∧ (¬ x4 < 0 ∧ ¬ 4 - x3 < x4)
  · obtain ⟨⟨s1, s2⟩, s3, s4⟩ := hs
    obtain ⟨e, he, rfl⟩ := rngk (n := 4) (by decide) s1 s2
    have e4 : (4 : Int32) - nI e = nI (4 - e) := pk_sub (a := 4) (b := e) he
    rw [e4] at s4
    obtain ⟨f, hf, rfl⟩ := rngk (n := 4 - e) (by omega) s3 s4
    have hef : e + f ≤ 4 := by omega
    have q3 : win (nI e) 0 4 = 1 := by rw [win, if_neg s1, if_neg s2]
    have q13 : win (nI f) 0 4 = 1 := by rw [win, if_neg s3, if_neg (show ¬ (4 : Int32) < nI f from nI_nlt (a := 4) (b := f) (by omega) (by decide))]
    have q25 : win (nI e + nI f) 0 4 = 1 := by rw [nI_add, win, if_neg (nI_pos (by omega)), if_neg (show ¬ (4 : Int32) < nI (e + f) from nI_nlt (a := 4) (b := e + f) (by omega) (by decide))]
    have q35 : win (nI f) 0 (4 - nI e) = 1 := by rw [e4, win, if_neg s3, if_neg s4]
    have L9 : F_X9_drift x1 x2 (nI e) (nI f) x5 w a = (F_X9_isWithin x1 0 12).bind (fun q42 => if q42 = 0 then some (-1, w, a) else (F_X9_isWithin x2 0 6).bind (fun q52 => if q52 = 0 then some (-1, w, a) else (F_X9_isWithin x5 0 1).bind (fun q67 => if q67 = 0 then some (-1, w, a) else (F_X2_pass x2 (nI e) (nI f) w a).bind (fun q83 => (F_X2_waysTo x1 q83.1).bind (fun q91 => (F_X9_fourTo x2).bind (fun q96 => (F_X9_inLowestTerms (Int32.toInt64 q91) q96 x5).bind (fun q101 => some (Int64.toInt32 q101, q83.1, q83.2)))))))) := by
      rw [F_X9_drift, e_within (nI e), q3, sb, jn, jn, if_neg (by decide), e_within (nI f), q13, sb, if_neg (by decide), e_within (nI e + nI f), q25, sb, if_neg (by decide)]
      simp only [if_neg (show ¬ (1 : Int32) = 0 by decide)]
    rw [L9, F_X10_drift, e_within, e_in]
    rcases win_c x1 0 12 with h1 | ⟨h1, a1, a2⟩
    · rw [h1, b0, b0]; exact ⟨_, _, rfl, rfl, rfl⟩
    · rw [h1, b1, b1, e_within, e_in]
      rcases win_c x2 0 6 with h2 | ⟨h2, c1, c2⟩
      · rw [h2, b0, b0]; exact ⟨_, _, rfl, rfl, rfl⟩
      · rw [h2, b1, b1, e_in, q3, b1, e_in, q35, b1, e_within, e_in]
        rcases win_c x5 0 1 with h5 | ⟨h5, d1, d2⟩
        · rw [h5, b0, b0]; exact ⟨_, _, rfl, rfl, rfl⟩
        · obtain ⟨m, hm, rfl⟩ := rngk (n := 12) (by decide) a1 a2
          obtain ⟨n, hn, rfl⟩ := rngk (n := 6) (by decide) c1 c2
          obtain ⟨p1, p2⟩ := four_le n (by omega)
          obtain ⟨w', a', g1, g2⟩ := e_pass hef hn w a
          have hU := dit_le hef n 1 din (fun j _ => by rw [din]; by_cases h : j = 6 <;> simp [h]) m (by omega)
          rw [Nat.one_mul] at hU
          have hU2 : dit e f n din m < 2 ^ 31 := by omega
          rw [h5, b1, b1, g1, sb]
          rw [F_X2_waysTo, at_in (k := m) (n := 13) (by omega) (by decide), sb, sb, show (w', a').fst m = nI (dit e f n din m) from g2 m (by omega), F_X9_fourTo, four_ok n (by omega), sb, nI_l hU2, e_low9 (by omega) (by omega) p2, sb]
          rw [jn]
          obtain ⟨b, k1, k2⟩ := m_ini (fun a_miles_88 => jn (fun x6_204 a_miles_204 a_next_204 => if inb (nI m + 1) 15 = true then (F_X10_part (Int32.toInt64 (a_miles_204 (Int32.toNatClampNeg (nI m + 1)))) (Int32.toInt64 x6_204) x5).bind (fun q218 => some (Int64.toInt32 q218, a_miles_204, a_next_204)) else none) (fun k_204 => L_X10_drift_94 (nI n) (nI e) (nI f) k_204 5000 1 0 a_miles_88 nx)) 15 0 5000 mi (by omega) (by omega) (fun j h => absurd h (by omega))
          have hmr : mrel b din := ⟨fun j hj => by
            rw [k2 (j + 1) (by omega), din]
            by_cases h : j = 6
            · rw [if_pos h, if_pos (by omega)]
            · rw [if_neg h, if_neg (by omega)], k2 0 (by omega), k2 14 (by omega)⟩
          obtain ⟨m3, a3, k3, k4⟩ := m_pass hef hn (fun x6_204 a_miles_204 a_next_204 => if inb (nI m + 1) 15 = true then (F_X10_part (Int32.toInt64 (a_miles_204 (Int32.toNatClampNeg (nI m + 1)))) (Int32.toInt64 x6_204) x5).bind (fun q218 => some (Int64.toInt32 q218, a_miles_204, a_next_204)) else none) n 0 5000 b nx din (by omega) (by omega) hmr
          refine ⟨_, (Int64.toInt32 (lN (low (dit e f n din m) (4 ^ n) x5)), m3, a3), rfl, ?_, rfl⟩
          refine k1.trans ?_
          rw [jn]
          refine k3.trans ?_
          rw [nI_1, if_pos (inbT (k := m + 1) (n := 15) (by omega) (by decide)), nI_clamp (by omega), k4.1 m (by omega), nI_l hU2, nI_l (n := 4 ^ n) (by omega), e_low10 (by omega) (by omega) p2, sb]
  · have B9 : F_X9_drift x1 x2 x3 x4 x5 w a = some (-1, w, a) := by
      rw [F_X9_drift, e_within x3]
      rcases win_c x3 0 4 with h3 | ⟨h3, s1, s2⟩
      · rw [h3, sb, jn, jn, if_pos rfl]; exact d_bad9 x1 x2
      · rw [h3, sb, jn, jn, if_neg (by decide), e_within x4]
        rcases win_c x4 0 4 with h4 | ⟨h4, s3, s4⟩
        · rw [h4, sb, if_pos rfl]; exact d_bad9 x1 x2
        · rw [h4, sb, if_neg (by decide), e_within (x3 + x4)]
          rcases win_c (x3 + x4) 0 4 with h5 | ⟨h5, s5, s6⟩
          · rw [h5, sb, if_pos rfl]; exact d_bad9 x1 x2
          · exfalso
            apply hs
            refine ⟨⟨s1, s2⟩, s3, ?_⟩
            obtain ⟨e, he, rfl⟩ := rngk (n := 4) (by decide) s1 s2
            obtain ⟨f, hf, rfl⟩ := rngk (n := 4) (by decide) s3 s4
            rw [nI_add] at s6
            obtain ⟨t, ht, h9⟩ := rngk (x := nI (e + f)) (n := 4) (by decide) (nI_pos (by omega)) s6
            have h10 := (nI_eq (a := e + f) (b := t) (by omega) (by omega)).mp h9
            rw [show (4 : Int32) - nI e = nI (4 - e) from pk_sub (a := 4) (b := e) he]
            exact nI_nlt (a := 4 - e) (b := f) (by omega) (by omega)
    refine ⟨(-1, w, a), (-1, mi, nx), B9, ?_, rfl⟩
    rw [F_X10_drift, e_in]
    rcases win_c x1 0 12 with h1 | ⟨h1, a1, a2⟩
    · rw [h1, b0]
    · rw [h1, b1, e_in]
      rcases win_c x2 0 6 with h2 | ⟨h2, c1, c2⟩
      · rw [h2, b0]
      · rw [h2, b1, e_in]
        rcases win_c x3 0 4 with h3 | ⟨h3, s1, s2⟩
        · rw [h3, b0]
        · rw [h3, b1, e_in]
          rcases win_c x4 0 (4 - x3) with h4 | ⟨h4, s3, s4⟩
          · rw [h4, b0]
          · exact absurd ⟨⟨s1, s2⟩, s3, s4⟩ hs
