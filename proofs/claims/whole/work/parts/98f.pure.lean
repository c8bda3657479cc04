/-! pure rows: the whole text read, FAULT -/
theorem item_step {n p : Nat} {lt : Nat → Nat} {a b : AR} {d : DT} {m : MT} (h : TX n lt a b) (hp : p < n) (hR : REL5 d m) : ITEM n p lt a b d m := by
  by_cases g1 : chr n lt p = 97
  · exact it97 h hp g1 hR
  by_cases g2 : chr n lt p = 98
  · exact it98 h hp g2 hR
  by_cases g3 : chr n lt p = 104
  · exact it104 h hp g3 hR
  by_cases g4 : chr n lt p = 108
  · exact it108 h hp g4 hR
  by_cases g5 : chr n lt p = 115
  · exact it115 h hp g5 hR
  by_cases g6 : chr n lt p = 119
  · exact it119 h hp g6 hR
  exact it_other h hp g1 g2 g3 g4 g5 g6
theorem HALF.rfl' {m : MT} : HALF m m := ⟨SAME.rfl', SAME.rfl', SAME.rfl', SAME.rfl', SAME.rfl', SAME.rfl', SAME.rfl', SAME.rfl', SAME.rfl', SAME.rfl', SAME.rfl', SAME.rfl'⟩
theorem l_read {n : Nat} {lt : Nat → Nat} {a b : AR} (h : TX n lt a b) : ∀ (r p i f g : Nat) (d : DT) (m : MT) (e l c : Int32) (nu : AR) (so : Int32), n ≤ p + r → p < 300 → i ≤ p → r < f → r < g → REL5 d m →
    ∃ (v : Int32) (d' : DT) (e' l' c' : Int32) (nu' : AR) (at' so' : Int32) (m' : MT),
      L_X8_readFrom_9 (nI n) a f (nI p) (nI i) d.1 d.2.1 d.2.2.1 d.2.2.2.1 d.2.2.2.2.1 d.2.2.2.2.2.1 e l c nu d.2.2.2.2.2.2.1 d.2.2.2.2.2.2.2.1 d.2.2.2.2.2.2.2.2.1 d.2.2.2.2.2.2.2.2.2.1 d.2.2.2.2.2.2.2.2.2.2.1 d.2.2.2.2.2.2.2.2.2.2.2.1 d.2.2.2.2.2.2.2.2.2.2.2.2
        = some (v, d'.1, d'.2.1, d'.2.2.1, d'.2.2.2.1, d'.2.2.2.2.1, d'.2.2.2.2.2.1, e', l', c', nu', d'.2.2.2.2.2.2) ∧
      L_X10_fault_56 (nI n) b g (nI p) so m.1 m.2.1 m.2.2.1 m.2.2.2.1 m.2.2.2.2.1 m.2.2.2.2.2.1 m.2.2.2.2.2.2.1 m.2.2.2.2.2.2.2.1 m.2.2.2.2.2.2.2.2.1 m.2.2.2.2.2.2.2.2.2.1 m.2.2.2.2.2.2.2.2.2.2.1 m.2.2.2.2.2.2.2.2.2.2.2
        = some (v, at', so', m') ∧ HALF m m' ∧ ((v = -4 ∧ REL5 d' m') ∨ ¬ v = -4) := by
  have hn := h.1
  intro r
  induction r with
  | zero =>
    intro p i f g d m e l c nu so hr hp hi hf hg hR
    obtain ⟨f, rfl⟩ : ∃ x, f = x + 1 := ⟨f - 1, by omega⟩
    obtain ⟨g, rfl⟩ : ∃ x, g = x + 1 := ⟨g - 1, by omega⟩
    refine ⟨-4, d, e, l, c, nu, nI p, so, m, ?_, ?_, HALF.rfl', Or.inl ⟨rfl, hR⟩⟩
    · rw [L_X8_readFrom_9]
      by_cases q : (200 : Int32) ≤ nI i
      · rw [if_pos q]
      · rw [if_neg q, if_pos (nI_le (by omega) (by omega))]
    · rw [L_X10_fault_56, if_pos (nI_le (by omega) (by omega))]
  | succ r ih =>
    intro p i f g d m e l c nu so hr hp hi hf hg hR
    obtain ⟨f, rfl⟩ : ∃ x, f = x + 1 := ⟨f - 1, by omega⟩
    obtain ⟨g, rfl⟩ : ∃ x, g = x + 1 := ⟨g - 1, by omega⟩
    rcases Nat.lt_or_ge p n with q | q
    · obtain ⟨m1, k, ok, i1, i2, i3, i4, i5⟩ := item_step h q hR e l c nu so
      have i1' : F_X10_readItem (nI p) so (nI n) m.1 m.2.1 m.2.2.1 m.2.2.2.1 m.2.2.2.2.1 m.2.2.2.2.2.1 m.2.2.2.2.2.2.1 m.2.2.2.2.2.2.2.1 m.2.2.2.2.2.2.2.2.1 m.2.2.2.2.2.2.2.2.2.1 b m.2.2.2.2.2.2.2.2.2.2.1 m.2.2.2.2.2.2.2.2.2.2.2 = some (nI k, if ok = true then 1 else 0, m1) := i1
      rw [L_X8_readFrom_9, if_neg (show ¬ (200 : Int32) ≤ nI i from nI_ge (a := i) (b := 200) (by omega) (by decide)), if_neg (nI_ge q (by omega)), L_X10_fault_56, if_neg (nI_ge q (by omega)), i1', sb]
      dsimp only
      rcases i5 with ⟨rfl, nu1, d1, c1, j1, j2, j3'⟩ | ⟨rfl, x, y, z, w, nu1, j1, j2⟩
      · have j2' : F_X8_take d.1 d.2.1 d.2.2.1 d.2.2.2.1 d.2.2.2.2.1 d.2.2.2.2.2.1 (nI (chr n lt p)) nu1 d.2.2.2.2.2.2.1 d.2.2.2.2.2.2.2.1 d.2.2.2.2.2.2.2.2.1 d.2.2.2.2.2.2.2.2.2.1 d.2.2.2.2.2.2.2.2.2.2.1 d.2.2.2.2.2.2.2.2.2.2.2.1 d.2.2.2.2.2.2.2.2.2.2.2.2 = some (1, d1) := j2
        rw [j1, sb, if_neg n10]
        dsimp only
        rw [j2', sb, if_neg n10, if_pos (show true = true from rfl), if_neg n10, nI_1]
        dsimp only
        obtain ⟨v, d', e', l', c', nu', at', so', m', k1, k2, k3, k4⟩ := ih k (i + 1) f g d1 m1 (nI k) (nI (chr n lt p)) c1 nu1 1 (by omega) (by omega) (by omega) (by omega) (by omega) j3'
        exact ⟨v, d', e', l', c', nu', at', so', m', k1, k2, i2.trans k3, k4⟩
      · rw [if_neg (show ¬ (false = true) by decide), if_pos rfl]
        rcases j2 with rfl | ⟨rfl, d1, j2⟩
        · rw [j1, sb, if_pos rfl]
          exact ⟨nI p, d, y, z, w, nu1, nI k, 0, m1, rfl, rfl, i2, Or.inr (nm4 (by omega)).1⟩
        · have j2' : F_X8_take d.1 d.2.1 d.2.2.1 d.2.2.2.1 d.2.2.2.2.1 d.2.2.2.2.2.1 z nu1 d.2.2.2.2.2.2.1 d.2.2.2.2.2.2.2.1 d.2.2.2.2.2.2.2.2.1 d.2.2.2.2.2.2.2.2.2.1 d.2.2.2.2.2.2.2.2.2.2.1 d.2.2.2.2.2.2.2.2.2.2.2.1 d.2.2.2.2.2.2.2.2.2.2.2.2 = some (0, d1) := j2
          rw [j1, sb, if_neg n10]
          dsimp only
          rw [j2', sb, if_pos rfl]
          exact ⟨nI p, d1, y, z, w, nu1, nI k, 0, m1, rfl, rfl, i2, Or.inr (nm4 (by omega)).1⟩
    · refine ⟨-4, d, e, l, c, nu, nI p, so, m, ?_, ?_, HALF.rfl', Or.inl ⟨rfl, hR⟩⟩
      · rw [L_X8_readFrom_9]
        by_cases q : (200 : Int32) ≤ nI i
        · rw [if_pos q]
        · rw [if_neg q, if_pos (nI_le (by omega) (by omega))]
      · rw [L_X10_fault_56, if_pos (nI_le (by omega) (by omega))]
theorem e_startOver (x1 x2 x3 x4 x5 x6 : Int32) (lg : AR) : ∃ lg', F_X8_startOver x1 x2 x3 x4 x5 x6 lg = some (0, 5, 0, 0, 60, 0, lg') ∧ ∀ j, j < 3 → lg' j = nI 1 := by
  have key : ∀ (k : AR → Option (Int32 × Int32 × Int32 × Int32 × Int32 × Int32 × AR)) f, 4 ≤ f → L_X8_startOver_2 k f (nI 0) lg = k (upd (upd (upd lg 0 1) (0 + 1) 1) (0 + 1 + 1) 1) := by
    intro k f hf
    obtain ⟨f, rfl⟩ : ∃ x, f = x + 4 := ⟨f - 4, by omega⟩
    have st : ∀ i, i < 3 → ∀ f lg, L_X8_startOver_2 k (f + 1) (nI i) lg = L_X8_startOver_2 k f (nI (i + 1)) (upd lg i 1) := fun i hi f lg => by
      rw [L_X8_startOver_2, if_neg (show ¬ (3 : Int32) ≤ nI i from nI_ge (a := i) (b := 3) hi (by decide)), put_in (k := i) (n := 3) hi (by decide), sb, nI_1]
    rw [st 0 (by decide), st (0 + 1) (by decide), st (0 + 1 + 1) (by decide), L_X8_startOver_2, if_pos (show (3 : Int32) ≤ nI (0 + 1 + 1 + 1) by decide)]
  refine ⟨upd (upd (upd lg 0 1) (0 + 1) 1) (0 + 1 + 1) 1, ?_, fun j hj => ?_⟩
  · rw [F_X8_startOver, jn]
    exact key (fun (a_lighter_22 : AR) => some (0, 5, 0, 0, 60, 0, a_lighter_22)) 5000 (by decide)
  · rcases j3 hj with rfl | rfl | rfl <;> rfl
/-- the class's whole reading and the reference's -/
theorem fw_read {n : Nat} {lt : Nat → Nat} {a b : AR} (h : TX n lt a b) (x1 x2 x3 x4 x5 x6 e l c : Int32) (nu brr hm hpp lgr sn wg wn : AR) (at0 so0 : Int32) (m : MT) :
    ∃ (v : Int32) (d' : DT) (e' l' c' : Int32) (nu' : AR) (at' so' : Int32) (m' : MT),
      F_X8_readFrom x1 x2 x3 x4 x5 x6 (nI n) a e l c nu brr hm hpp lgr sn wg wn = some (v, d'.1, d'.2.1, d'.2.2.1, d'.2.2.2.1, d'.2.2.2.2.1, d'.2.2.2.2.2.1, e', l', c', nu', d'.2.2.2.2.2.2) ∧
      F_X10_fault at0 so0 (nI n) m.1 m.2.1 m.2.2.1 m.2.2.2.1 m.2.2.2.2.1 m.2.2.2.2.2.1 m.2.2.2.2.2.2.1 m.2.2.2.2.2.2.2.1 m.2.2.2.2.2.2.2.2.1 m.2.2.2.2.2.2.2.2.2.1 b m.2.2.2.2.2.2.2.2.2.2.1 m.2.2.2.2.2.2.2.2.2.2.2 = some (v, at', so', m') ∧ HALF m m' ∧ ((v = -4 ∧ REL5 d' m') ∨ ¬ v = -4) := by
  have hn := h.1
  obtain ⟨lg', s1, s2⟩ := e_startOver x1 x2 x3 x4 x5 x6 lgr
  have law : F_X10_law 1 1 1 1 m.2.2.2.2.1 = some (upd (upd (upd m.2.2.2.2.1 3 1) 4 1) 5 1) := by rw [F_X10_law, if_pos (by decide), if_pos (by decide), if_pos (by decide)]; rfl
  have hR : REL5 (0, 5, 0, 0, 60, 0, brr, hm, hpp, lg', sn, wg, wn) (m.1, upd m.2.1 1 0, m.2.2.1, upd (upd m.2.2.2.1 2 60) 3 5, upd (upd (upd m.2.2.2.2.1 3 1) 4 1) 5 1, upd m.2.2.2.2.2.1 1 0, m.2.2.2.2.2.2.1, m.2.2.2.2.2.2.2.1, m.2.2.2.2.2.2.2.2.1, upd m.2.2.2.2.2.2.2.2.2.1 1 0, m.2.2.2.2.2.2.2.2.2.2.1, upd m.2.2.2.2.2.2.2.2.2.2.2 1 0) :=
    ⟨0, 0, 0, 0, 60, 5, fun _ => 1, fun _ => 0, fun _ => 0, fun _ => 0, fun _ => 0, fun _ => 0, fun _ => 0,
      ⟨by decide, rfl, rfl, fun j hj => absurd hj (by omega), fun j hj => absurd hj (by omega)⟩, ⟨by decide, rfl, rfl, fun j hj => absurd hj (by omega)⟩, ⟨by decide, rfl, rfl, fun j hj => absurd hj (by omega)⟩, ⟨by decide, rfl, rfl, fun j hj => absurd hj (by omega)⟩,
      ⟨by decide, by decide, rfl, rfl, rfl, rfl, fun j hj => ⟨s2 j hj, by rcases j3 hj with rfl | rfl | rfl <;> rfl, show (1 : Nat) ≤ 4 by decide⟩⟩⟩
  obtain ⟨v, d', e', l', c', nu', at', so', m', k1, k2, k3, k4⟩ := l_read h n 0 0 5000 5000 _ _ e l c nu so0 (by omega) (by decide) (by decide) (by omega) (by omega) hR
  refine ⟨v, d', e', l', c', nu', at', so', m', ?_, ?_, HALF.trans (m' := (m.1, upd m.2.1 1 0, m.2.2.1, upd (upd m.2.2.2.1 2 60) 3 5, upd (upd (upd m.2.2.2.2.1 3 1) 4 1) 5 1, upd m.2.2.2.2.2.1 1 0, m.2.2.2.2.2.2.1, m.2.2.2.2.2.2.2.1, m.2.2.2.2.2.2.2.2.1, upd m.2.2.2.2.2.2.2.2.2.1 1 0, m.2.2.2.2.2.2.2.2.2.2.1, upd m.2.2.2.2.2.2.2.2.2.2.2 1 0)) ⟨SAME.rfl', SAME.rfl'.up (by omega), SAME.rfl', (SAME.rfl'.up (by omega)).up (by omega), ((SAME.rfl'.up (by omega)).up (by omega)).up (by omega), SAME.rfl'.up (by omega), SAME.rfl', SAME.rfl', SAME.rfl', SAME.rfl'.up (by omega), SAME.rfl', SAME.rfl'.up (by omega)⟩ k3, k4⟩
  · rw [F_X8_readFrom, s1, sb]
    exact k1
  · rw [F_X10_fault, law, sb]
    exact k2
