/-! pure rows: diaries kept -/
theorem RDiary.congr {ns nw k : Nat} {d : Int32} {sg wk md ms mw md' ms' mw' : Nat → Int32} (h : RDiary ns nw d sg wk md ms mw k) (e1 : md' k = md k) (e2 : ∀ j, j < 5 → ms' (5 * k + j) = ms (5 * k + j) ∧ mw' (5 * k + j) = mw (5 * k + j)) : RDiary ns nw d sg wk md' ms' mw' k := by
  obtain ⟨n, hn, hd, hm, hj⟩ := h
  refine ⟨n, hn, hd, e1.trans hm, fun j h => ?_⟩
  obtain ⟨g1, g2⟩ := e2 j (by omega)
  rw [g1, g2]
  exact hj j h
theorem l_take {n : Nat} (hn : n ≤ 5) (a b : Nat → Int32) : ∀ (r i f : Nat) (sg wk : Nat → Int32), i + r = n → r < f → (∀ j, j < i → sg j = a j ∧ wk j = b j) → ∃ sg' wk', L_X1_takeFrom_7 (nI n) a b f (nI i) (nI i) sg wk = some (nI n, sg', wk') ∧ ∀ j, j < n → sg' j = a j ∧ wk' j = b j := by
  intro r
  induction r with
  | zero =>
    intro i f sg wk hi hf hj
    obtain ⟨f, rfl⟩ : ∃ g, f = g + 1 := ⟨f - 1, by omega⟩
    obtain rfl : i = n := by omega
    exact ⟨sg, wk, by rw [L_X1_takeFrom_7, if_pos (nI_le (Nat.le_refl _) (by omega))], hj⟩
  | succ r ih =>
    intro i f sg wk hi hf hj
    obtain ⟨f, rfl⟩ : ∃ g, f = g + 1 := ⟨f - 1, by omega⟩
    obtain ⟨s', w', h1, h2⟩ := ih (i + 1) f (upd sg i (a i)) (upd wk i (b i)) (by omega) (by omega) (fun j hj1 => by
      by_cases e : j = i
      · subst e; exact ⟨upd_s _ _ _, upd_s _ _ _⟩
      · rw [upd_n e, upd_n e]; exact hj j (by omega))
    refine ⟨s', w', ?_, h2⟩
    rw [L_X1_takeFrom_7, if_neg (nI_ge (a := i) (b := n) (by omega) (by omega)), F_X1_signsOn, at_in (k := i) (n := 5) (by omega) (by decide), sb, sb, F_X1_worksOn, at_in (k := i) (n := 5) (by omega) (by decide), sb, sb, e_dappend (by omega), sb, nI_1]
    exact h1
theorem e_take {n : Nat} (hn : n ≤ 5) (v : Int32) (a b sg wk : Nat → Int32) : ∃ sg' wk', F_X1_takeFrom v (nI n) a b sg wk = some (nI n, sg', wk') ∧ ∀ j, j < n → sg' j = a j ∧ wk' j = b j := by
  rw [F_X1_takeFrom]
  exact l_take hn a b n 0 5000 sg wk (by omega) (by omega) (fun j h => absurd h (by omega))
theorem l_copy {k1 k2 : Nat} (h1 : k1 < 3) (h2 : k2 < 3) (hk : k1 ≠ k2) (md : Nat → Int32) : ∀ (r i f : Nat) (ms mw : Nat → Int32), i + r = 5 → r < f → ∃ ms' mw', L_X10_copy_14 (nI k1) (nI k2) md f (nI i) ms mw = some (upd md k2 (md k1), ms', mw') ∧ (∀ j, i ≤ j → j < 5 → ms' (5 * k2 + j) = ms (5 * k1 + j) ∧ mw' (5 * k2 + j) = mw (5 * k1 + j)) ∧ ∀ q, (q < 5 * k2 + i ∨ 5 * k2 + 5 ≤ q) → ms' q = ms q ∧ mw' q = mw q := by
  intro r
  induction r with
  | zero =>
    intro i f ms mw hi hf
    obtain ⟨f, rfl⟩ : ∃ g, f = g + 1 := ⟨f - 1, by omega⟩
    obtain rfl : i = 5 := by omega
    refine ⟨ms, mw, ?_, fun j h3 h4 => absurd h3 (by omega), fun q _ => ⟨rfl, rfl⟩⟩
    rw [L_X10_copy_14, if_pos (show (5 : Int32) ≤ nI 5 from nI_le (a := 5) (b := 5) (Nat.le_refl _) (by decide)), nI_clamp (by omega), nI_clamp (by omega)]
  | succ r ih =>
    intro i f ms mw hi hf
    obtain ⟨f, rfl⟩ : ∃ g, f = g + 1 := ⟨f - 1, by omega⟩
    obtain ⟨s', w', g1, g2, g3⟩ := ih (i + 1) f (upd ms (5 * k2 + i) (ms (5 * k1 + i))) (upd mw (5 * k2 + i) (mw (5 * k1 + i))) (by omega) (by omega)
    have e1 : 5 * nI k1 + nI i = nI (5 * k1 + i) := by rw [show 5 * nI k1 = nI (5 * k1) from pk_mul 5 k1, nI_add]
    have e2 : 5 * nI k2 + nI i = nI (5 * k2 + i) := by rw [show 5 * nI k2 = nI (5 * k2) from pk_mul 5 k2, nI_add]
    refine ⟨s', w', ?_, ?_, ?_⟩
    · rw [L_X10_copy_14, if_neg (show ¬ (5 : Int32) ≤ nI i from nI_ge (a := i) (b := 5) (by omega) (by decide)), e1, e2, if_pos (inbT (by omega) (by decide)), if_pos (inbT (by omega) (by decide)), if_pos (inbT (by omega) (by decide)), if_pos (inbT (by omega) (by decide)), nI_clamp (by omega), nI_clamp (by omega), nI_1]
      exact g1
    · intro j h3 h4
      by_cases e : j = i
      · subst e
        obtain ⟨z1, z2⟩ := g3 (5 * k2 + j) (Or.inl (by omega))
        rw [z1, z2, upd_s, upd_s]
        exact ⟨rfl, rfl⟩
      · obtain ⟨z1, z2⟩ := g2 j (by omega) h4
        rw [z1, z2, upd_n (by omega), upd_n (by omega)]
        exact ⟨rfl, rfl⟩
    · intro q hq
      obtain ⟨z1, z2⟩ := g3 q (by omega)
      rw [z1, z2, upd_n (by omega), upd_n (by omega)]
      exact ⟨rfl, rfl⟩
theorem e_copy {k1 k2 : Nat} (h1 : k1 < 3) (h2 : k2 < 3) (hk : k1 ≠ k2) (md ms mw : Nat → Int32) : ∃ ms' mw', F_X10_copy (nI k1) (nI k2) md ms mw = some (upd md k2 (md k1), ms', mw') ∧ (∀ j, j < 5 → ms' (5 * k2 + j) = ms (5 * k1 + j) ∧ mw' (5 * k2 + j) = mw (5 * k1 + j)) ∧ ∀ q, (q < 5 * k2 ∨ 5 * k2 + 5 ≤ q) → ms' q = ms q ∧ mw' q = mw q := by
  obtain ⟨s', w', g1, g2, g3⟩ := l_copy h1 h2 hk md 5 0 5000 ms mw (by omega) (by omega)
  refine ⟨s', w', ?_, fun j h => g2 j (Nat.zero_le j) h, fun q h => g3 q (by omega)⟩
  rw [F_X10_copy, if_pos (inbT h1 (by decide)), if_pos (inbT h2 (by decide))]
  exact g1
/-- the copy of a diary under k1 becomes one under k2 -/
theorem RDiary.copied {ns nw k1 k2 n : Nat} {sg wk sg' wk' md ms mw ms' mw' : Nat → Int32} (h : RDiary ns nw (nI n) sg wk md ms mw k1) (hn : n ≤ 5) (hs : ∀ j, j < n → sg' j = sg j ∧ wk' j = wk j) (hc : ∀ j, j < 5 → ms' (5 * k2 + j) = ms (5 * k1 + j) ∧ mw' (5 * k2 + j) = mw (5 * k1 + j)) : RDiary ns nw (nI n) sg' wk' (upd md k2 (md k1)) ms' mw' k2 := by
  obtain ⟨n', hn', hd, hm, hj⟩ := h
  obtain rfl : n = n' := (nI_eq (by omega) (by omega)).mp hd
  refine ⟨n, hn, rfl, by rw [upd_s]; exact hm, fun j h => ?_⟩
  obtain ⟨g1, g2⟩ := hc j (by omega)
  obtain ⟨g3, g4⟩ := hs j h
  rw [g1, g2, g3, g4]
  exact hj j h
def RKept (ns nw : Nat) (kc d1 : Int32) (s1 w1 : Nat → Int32) (d2 : Int32) (s2 w2 : Nat → Int32) (mk : Int32) (md ms mw : Nat → Int32) : Prop := ∃ n : Nat, n ≤ 2 ∧ kc = nI n ∧ mk = nI n ∧ (1 ≤ n → RDiary ns nw d1 s1 w1 md ms mw 1) ∧ (2 ≤ n → RDiary ns nw d2 s2 w2 md ms mw 2)
theorem fw_keep {ns nw : Nat} {kc d d1 d2 mk : Int32} {sg wk s1 w1 s2 w2 md ms mw : Nat → Int32} (hb : RDiary ns nw d sg wk md ms mw 0) (hk : RKept ns nw kc d1 s1 w1 d2 s2 w2 mk md ms mw) :
    ∃ o1 o2, F_X9_keep kc d sg wk d1 s1 w1 d2 s2 w2 = some o1 ∧ F_X10_keep mk md ms mw = some o2 ∧ o1.1 = o2.1 ∧ RDiary ns nw d sg wk o2.2.2.1 o2.2.2.2.1 o2.2.2.2.2 0 ∧ RKept ns nw o1.2.1 o1.2.2.1 o1.2.2.2.1 o1.2.2.2.2.1 o1.2.2.2.2.2.1 o1.2.2.2.2.2.2.1 o1.2.2.2.2.2.2.2 o2.2.1 o2.2.2.1 o2.2.2.2.1 o2.2.2.2.2 := by
  have hb0 := hb
  obtain ⟨n, hn, rfl, hk1, hk2⟩ := hk
  obtain ⟨nd, hnd, rfl, hm, hj⟩ := hb
  obtain ⟨rfl, hk1, hk2⟩ := And.intro hk1 hk2
  match n, hn, hk1, hk2 with
  | 0, _, hk1, hk2 =>
    obtain ⟨s', w', g1, g2⟩ := e_take hnd d1 sg wk s1 w1
    obtain ⟨a', b', c1, c2, c3⟩ := e_copy (k1 := 0) (k2 := 1) (by decide) (by decide) (by decide) md ms mw
    refine ⟨(nI 1, nI 1, nI nd, s', w', d2, s2, w2), (nI 1, nI 1, upd md 1 (md 0), a', b'), ?_, ?_, rfl, hb0.congr (md' := upd md 1 (md 0)) (upd_n (f := md) (k := 1) (j := 0) (x := md 0) (by decide)) (fun j h => c3 _ (Or.inl (by omega))), 1, by decide, rfl, rfl, fun _ => hb0.copied hnd g2 c2, fun h => absurd h (by decide)⟩
    · rw [F_X9_keep, if_pos (by decide), if_pos (by decide), g1, sb]; rfl
    · rw [F_X10_keep, if_neg (by decide), show nI 0 + 1 = nI 1 from nI_1 0, show (0 : Int32) = nI 0 from rfl, c1, sb]
  | 1, _, hk1, hk2 =>
    obtain ⟨s', w', g1, g2⟩ := e_take hnd d2 sg wk s2 w2
    obtain ⟨a', b', c1, c2, c3⟩ := e_copy (k1 := 0) (k2 := 2) (by decide) (by decide) (by decide) md ms mw
    refine ⟨(nI 2, nI 2, d1, s1, w1, nI nd, s', w'), (nI 2, nI 2, upd md 2 (md 0), a', b'), ?_, ?_, rfl, hb0.congr (md' := upd md 2 (md 0)) (upd_n (f := md) (k := 2) (j := 0) (x := md 0) (by decide)) (fun j h => c3 _ (Or.inl (by omega))), 2, by decide, rfl, rfl, fun _ => (hk1 (by decide)).congr (md' := upd md 2 (md 0)) (upd_n (f := md) (k := 2) (j := 1) (x := md 0) (by decide)) (fun j h => c3 _ (Or.inl (by omega))), fun _ => hb0.copied hnd g2 c2⟩
    · rw [F_X9_keep, if_pos (by decide), if_neg (by decide), g1, sb]; rfl
    · rw [F_X10_keep, if_neg (by decide), show nI 1 + 1 = nI 2 from nI_1 1, show (0 : Int32) = nI 0 from rfl, c1, sb]
  | 2, _, hk1, hk2 =>
    exact ⟨(-3, nI 2, d1, s1, w1, d2, s2, w2), (-3, nI 2, md, ms, mw), by rw [F_X9_keep, if_neg (by decide)], by rw [F_X10_keep, if_pos (by decide)], rfl, hb0, 2, by decide, rfl, rfl, hk1, hk2⟩
  | n + 3, h, _, _ => exact absurd h (by omega)
theorem fw_back {ns nw : Nat} {kc d d1 d2 mk : Int32} {sg wk s1 w1 s2 w2 md ms mw : Nat → Int32} (hb : RDiary ns nw d sg wk md ms mw 0) (hk : RKept ns nw kc d1 s1 w1 d2 s2 w2 mk md ms mw) :
    ∃ o1 o2, F_X9_back kc d sg wk d1 s1 w1 d2 s2 w2 = some o1 ∧ F_X10_back mk md ms mw = some o2 ∧ o1.1 = o2.1 ∧ RDiary ns nw o1.2.2.1 o1.2.2.2.1 o1.2.2.2.2 o2.2.2.1 o2.2.2.2.1 o2.2.2.2.2 0 ∧ RKept ns nw o1.2.1 d1 s1 w1 d2 s2 w2 o2.2.1 o2.2.2.1 o2.2.2.2.1 o2.2.2.2.2 := by
  obtain ⟨n, hn, rfl, rfl, hk1, hk2⟩ := hk
  match n, hn, hk1, hk2 with
  | 0, _, hk1, hk2 => exact ⟨(-2, nI 0, d, sg, wk), (-2, nI 0, md, ms, mw), by rw [F_X9_back, if_neg (by decide)], by rw [F_X10_back, if_pos (by decide)], rfl, hb, 0, by decide, rfl, rfl, hk1, hk2⟩
  | 1, _, hk1, hk2 =>
    have h1 := hk1 (by decide)
    obtain ⟨nd, hnd, rfl, hm, hj⟩ := hk1 (by decide)
    obtain ⟨s', w', g1, g2⟩ := e_take hnd d s1 w1 sg wk
    obtain ⟨a', b', c1, c2, c3⟩ := e_copy (k1 := 1) (k2 := 0) (by decide) (by decide) (by decide) md ms mw
    refine ⟨(nI 0, nI 0, nI nd, s', w'), (nI 0, nI 0, upd md 0 (md 1), a', b'), ?_, ?_, rfl, h1.copied hnd g2 c2, 0, by decide, rfl, rfl, fun h => absurd h (by decide), fun h => absurd h (by decide)⟩
    · rw [F_X9_back, if_pos (by decide), if_pos (by decide), g1, sb]; rfl
    · rw [F_X10_back, if_neg (by decide), show (0 : Int32) = nI 0 from rfl, c1, sb]; rfl
  | 2, _, hk1, hk2 =>
    have h1 := hk1 (by decide)
    have h2 := hk2 (by decide)
    obtain ⟨nd, hnd, rfl, hm, hj⟩ := hk2 (by decide)
    obtain ⟨s', w', g1, g2⟩ := e_take hnd d s2 w2 sg wk
    obtain ⟨a', b', c1, c2, c3⟩ := e_copy (k1 := 2) (k2 := 0) (by decide) (by decide) (by decide) md ms mw
    refine ⟨(nI 1, nI 1, nI nd, s', w'), (nI 1, nI 1, upd md 0 (md 2), a', b'), ?_, ?_, rfl, h2.copied hnd g2 c2, 1, by decide, rfl, rfl, fun _ => h1.congr (md' := upd md 0 (md 2)) (upd_n (f := md) (k := 0) (j := 1) (x := md 2) (by decide)) (fun j h => c3 _ (Or.inr (by omega))), fun h => absurd h (by decide)⟩
    · rw [F_X9_back, if_pos (by decide), if_neg (by decide), g1, sb]; rfl
    · rw [F_X10_back, if_neg (by decide), show (0 : Int32) = nI 0 from rfl, c1, sb]; rfl
  | n + 3, h, _, _ => exact absurd h (by omega)
