/-! pure rows: LAY -/
abbrev LO10 : Type := Int32 × Int32 × Int32 × Int32 × Int32 × AR × AR × AR × AR × AR × AR × AR × AR × AR × AR × AR × AR × AR
theorem cp16 (k : AR → Option LO10) (t0 : AR) : ∀ (r i f : Nat) (t : AR), i + r = 16 → r < f → (∀ j, j < i → t j = t0 (16 + j)) → (∀ j, 16 ≤ j → t j = t0 j) → ∃ t', L_X10_lay_118 k f (nI i) t = k t' ∧ ∀ j, j < 16 → t' j = t0 (16 + j) := by
  intro r
  induction r with
  | zero =>
    intro i f t hi hf h1 h2
    obtain ⟨f, rfl⟩ : ∃ x, f = x + 1 := ⟨f - 1, by omega⟩
    obtain rfl : i = 16 := by omega
    exact ⟨t, by rw [L_X10_lay_118, if_pos (by decide)], h1⟩
  | succ r ih =>
    intro i f t hi hf h1 h2
    obtain ⟨f, rfl⟩ : ∃ x, f = x + 1 := ⟨f - 1, by omega⟩
    rw [L_X10_lay_118, if_neg (show ¬ (16 : Int32) ≤ nI i from nI_ge (a := i) (b := 16) (by omega) (by decide)), show (16 : Int32) + nI i = nI (16 + i) from nI_add 16 i, if_pos (inbT (k := 16 + i) (n := 32) (by omega) (by decide)), if_pos (inbT (k := i) (n := 32) (by omega) (by decide)), nI_clamp (n := 16 + i) (by omega), nI_clamp (n := i) (by omega), nI_1]
    refine ih (i + 1) f _ (by omega) (by omega) (fun j hj => ?_) (fun j hj => by rw [upd_n (by omega)]; exact h2 j hj)
    by_cases q : j = i
    · subst q; rw [upd_s]; exact h2 _ (by omega)
    · rw [upd_n q]; exact h1 j (by omega)
theorem cp4 (k : AR → Option LO10) (t0 : AR) : ∀ (r i f : Nat) (t : AR), i + r = 4 → r < f → (∀ j, j < i → t j = t0 (4 + j)) → (∀ j, 4 ≤ j → t j = t0 j) → ∃ t', L_X10_lay_191 k f (nI i) t = k t' ∧ ∀ j, j < 4 → t' j = t0 (4 + j) := by
  intro r
  induction r with
  | zero =>
    intro i f t hi hf h1 h2
    obtain ⟨f, rfl⟩ : ∃ x, f = x + 1 := ⟨f - 1, by omega⟩
    obtain rfl : i = 4 := by omega
    exact ⟨t, by rw [L_X10_lay_191, if_pos (by decide)], h1⟩
  | succ r ih =>
    intro i f t hi hf h1 h2
    obtain ⟨f, rfl⟩ : ∃ x, f = x + 1 := ⟨f - 1, by omega⟩
    rw [L_X10_lay_191, if_neg (show ¬ (4 : Int32) ≤ nI i from nI_ge (a := i) (b := 4) (by omega) (by decide)), show (4 : Int32) + nI i = nI (4 + i) from nI_add 4 i, if_pos (inbT (k := 4 + i) (n := 8) (by omega) (by decide)), if_pos (inbT (k := i) (n := 8) (by omega) (by decide)), nI_clamp (n := 4 + i) (by omega), nI_clamp (n := i) (by omega), nI_1]
    refine ih (i + 1) f _ (by omega) (by omega) (fun j hj => ?_) (fun j hj => by rw [upd_n (by omega)]; exact h2 j hj)
    by_cases q : j = i
    · subst q; rw [upd_s]; exact h2 _ (by omega)
    · rw [upd_n q]; exact h1 j (by omega)
theorem cp6 (k : AR → AR → Option LO10) (t0 u0 : AR) : ∀ (r i f : Nat) (t u : AR), i + r = 6 → r < f → (∀ j, j < i → t j = t0 (6 + j) ∧ u j = u0 (6 + j)) → (∀ j, 6 ≤ j → t j = t0 j ∧ u j = u0 j) → ∃ t' u', L_X10_lay_147 k f (nI i) t u = k t' u' ∧ ∀ j, j < 6 → t' j = t0 (6 + j) ∧ u' j = u0 (6 + j) := by
  intro r
  induction r with
  | zero =>
    intro i f t u hi hf h1 h2
    obtain ⟨f, rfl⟩ : ∃ x, f = x + 1 := ⟨f - 1, by omega⟩
    obtain rfl : i = 6 := by omega
    exact ⟨t, u, by rw [L_X10_lay_147, if_pos (by decide)], h1⟩
  | succ r ih =>
    intro i f t u hi hf h1 h2
    obtain ⟨f, rfl⟩ : ∃ x, f = x + 1 := ⟨f - 1, by omega⟩
    rw [L_X10_lay_147, if_neg (show ¬ (6 : Int32) ≤ nI i from nI_ge (a := i) (b := 6) (by omega) (by decide)), show (6 : Int32) + nI i = nI (6 + i) from nI_add 6 i, if_pos (inbT (k := 6 + i) (n := 12) (by omega) (by decide)), if_pos (inbT (k := i) (n := 12) (by omega) (by decide)), if_pos (inbT (k := 6 + i) (n := 12) (by omega) (by decide)), if_pos (inbT (k := i) (n := 12) (by omega) (by decide)), nI_clamp (n := 6 + i) (by omega), nI_clamp (n := i) (by omega), nI_1]
    refine ih (i + 1) f _ _ (by omega) (by omega) (fun j hj => ?_) (fun j hj => by rw [upd_n (by omega), upd_n (by omega)]; exact h2 j hj)
    by_cases q : j = i
    · subst q; rw [upd_s, upd_s]; exact h2 _ (by omega)
    · rw [upd_n q, upd_n q]; exact h1 j (by omega)
theorem cp5 (k : AR → AR → Option LO10) (t0 u0 : AR) : ∀ (r i f : Nat) (t u : AR), i + r = 5 → r < f → (∀ j, j < i → t j = t0 (5 + j) ∧ u j = u0 (5 + j)) → (∀ j, 5 ≤ j → t j = t0 j ∧ u j = u0 j) → ∃ t' u', L_X10_lay_218 k f (nI i) t u = k t' u' ∧ ∀ j, j < 5 → t' j = t0 (5 + j) ∧ u' j = u0 (5 + j) := by
  intro r
  induction r with
  | zero =>
    intro i f t u hi hf h1 h2
    obtain ⟨f, rfl⟩ : ∃ x, f = x + 1 := ⟨f - 1, by omega⟩
    obtain rfl : i = 5 := by omega
    exact ⟨t, u, by rw [L_X10_lay_218, if_pos (by decide)], h1⟩
  | succ r ih =>
    intro i f t u hi hf h1 h2
    obtain ⟨f, rfl⟩ : ∃ x, f = x + 1 := ⟨f - 1, by omega⟩
    rw [L_X10_lay_218, if_neg (show ¬ (5 : Int32) ≤ nI i from nI_ge (a := i) (b := 5) (by omega) (by decide)), show (5 : Int32) + nI i = nI (5 + i) from nI_add 5 i, if_pos (inbT (k := 5 + i) (n := 10) (by omega) (by decide)), if_pos (inbT (k := i) (n := 10) (by omega) (by decide)), if_pos (inbT (k := 5 + i) (n := 10) (by omega) (by decide)), if_pos (inbT (k := i) (n := 10) (by omega) (by decide)), nI_clamp (n := 5 + i) (by omega), nI_clamp (n := i) (by omega), nI_1]
    refine ih (i + 1) f _ _ (by omega) (by omega) (fun j hj => ?_) (fun j hj => by rw [upd_n (by omega), upd_n (by omega)]; exact h2 j hj)
    by_cases q : j = i
    · subst q; rw [upd_s, upd_s]; exact h2 _ (by omega)
    · rw [upd_n q, upd_n q]; exact h1 j (by omega)
theorem lay10_no {ah at0 so0 kp t : Int32} {days b : AR} {m m' : MT} {v at' so' : Int32} (h : F_X10_fault at0 so0 t m.1 m.2.1 m.2.2.1 m.2.2.2.1 m.2.2.2.2.1 m.2.2.2.2.2.1 m.2.2.2.2.2.2.1 m.2.2.2.2.2.2.2.1 m.2.2.2.2.2.2.2.2.1 m.2.2.2.2.2.2.2.2.2.1 b m.2.2.2.2.2.2.2.2.2.2.1 m.2.2.2.2.2.2.2.2.2.2.2 = some (v, at', so', m')) (hv : ¬ v = -4 ∨ m'.2.2.2.2.2.2.2.2.2.1 1 = 0) :
    F_X10_lay ah at0 so0 kp t m.1 m.2.1 m.2.2.1 m.2.2.2.1 days m.2.2.2.2.1 m.2.2.2.2.2.1 m.2.2.2.2.2.2.1 m.2.2.2.2.2.2.2.1 m.2.2.2.2.2.2.2.2.1 m.2.2.2.2.2.2.2.2.2.1 b m.2.2.2.2.2.2.2.2.2.2.1 m.2.2.2.2.2.2.2.2.2.2.2
      = some (-2, ah, at', so', kp, m'.1, m'.2.1, m'.2.2.1, m'.2.2.2.1, days, m'.2.2.2.2.1, m'.2.2.2.2.2.1, m'.2.2.2.2.2.2.1, m'.2.2.2.2.2.2.2.1, m'.2.2.2.2.2.2.2.2.1, m'.2.2.2.2.2.2.2.2.2.1, m'.2.2.2.2.2.2.2.2.2.2.1, m'.2.2.2.2.2.2.2.2.2.2.2) := by
  rw [F_X10_lay, h, sb]
  dsimp only
  by_cases q : v = -4
  · rw [if_pos q, if_pos (show m'.2.2.2.2.2.2.2.2.2.1 (Int32.toNatClampNeg 1) = 0 from hv.resolve_left (fun z => z q))]
  · rw [if_neg q]
theorem lay10_ok {ah at0 so0 kp t : Int32} {days b : AR} {m m' : MT} {at' so' : Int32} (h : F_X10_fault at0 so0 t m.1 m.2.1 m.2.2.1 m.2.2.2.1 m.2.2.2.2.1 m.2.2.2.2.2.1 m.2.2.2.2.2.2.1 m.2.2.2.2.2.2.2.1 m.2.2.2.2.2.2.2.2.1 m.2.2.2.2.2.2.2.2.2.1 b m.2.2.2.2.2.2.2.2.2.2.1 m.2.2.2.2.2.2.2.2.2.2.2 = some (-4, at', so', m')) (hv : ¬ m'.2.2.2.2.2.2.2.2.2.1 1 = 0) :
    ∃ boat bri min noi peo told : AR, F_X10_lay ah at0 so0 kp t m.1 m.2.1 m.2.2.1 m.2.2.2.1 days m.2.2.2.2.1 m.2.2.2.2.2.1 m.2.2.2.2.2.2.1 m.2.2.2.2.2.2.2.1 m.2.2.2.2.2.2.2.2.1 m.2.2.2.2.2.2.2.2.2.1 b m.2.2.2.2.2.2.2.2.2.2.1 m.2.2.2.2.2.2.2.2.2.2.2
      = some (m'.2.2.2.2.2.2.2.2.2.1 1, 0, at', so', 0, boat, upd m'.2.1 0 (m'.2.1 1), bri, upd (upd m'.2.2.2.1 0 (m'.2.2.2.1 2)) 1 (m'.2.2.2.1 3), upd days 0 0, upd (upd (upd m'.2.2.2.2.1 0 (m'.2.2.2.2.1 3)) 1 (m'.2.2.2.2.1 4)) 2 (m'.2.2.2.2.1 5), upd m'.2.2.2.2.2.1 0 (m'.2.2.2.2.2.1 1), min, noi, peo, upd m'.2.2.2.2.2.2.2.2.2.1 0 (m'.2.2.2.2.2.2.2.2.2.1 1), told, upd m'.2.2.2.2.2.2.2.2.2.2.2 0 (m'.2.2.2.2.2.2.2.2.2.2.2 1)) ∧
      (∀ j, j < 4 → boat j = m'.1 (4 + j)) ∧ (∀ j, j < 5 → bri j = m'.2.2.1 (5 + j) ∧ noi j = m'.2.2.2.2.2.2.2.1 (5 + j)) ∧ (∀ j, j < 6 → min j = m'.2.2.2.2.2.2.1 (6 + j) ∧ peo j = m'.2.2.2.2.2.2.2.2.1 (6 + j)) ∧ ∀ j, j < 16 → told j = m'.2.2.2.2.2.2.2.2.2.2.1 (16 + j) := by
  have law : F_X10_law 0 (m'.2.2.2.2.1 3) (m'.2.2.2.2.1 4) (m'.2.2.2.2.1 5) m'.2.2.2.2.1 = some (upd (upd (upd m'.2.2.2.2.1 0 (m'.2.2.2.2.1 3)) 1 (m'.2.2.2.2.1 4)) 2 (m'.2.2.2.2.1 5)) := by rw [F_X10_law, if_pos (by decide), if_pos (by decide), if_pos (by decide)]; rfl
  obtain ⟨told, t1, t2⟩ := cp16 (fun (a_told_145 : Nat → Int32) => jn (fun (a_minutes_189 : Nat → Int32) (a_people_189 : Nat → Int32) => jn (fun (a_boat_216 : Nat → Int32) => jn (fun (a_brings_257 : Nat → Int32) (a_noise_257 : Nat → Int32) => some (m'.2.2.2.2.2.2.2.2.2.1 1, 0, at', so', 0, a_boat_216, upd m'.2.1 0 (m'.2.1 1), a_brings_257, upd (upd m'.2.2.2.1 0 (m'.2.2.2.1 2)) 1 (m'.2.2.2.1 3), upd days 0 0, upd (upd (upd m'.2.2.2.2.1 0 (m'.2.2.2.2.1 3)) 1 (m'.2.2.2.2.1 4)) 2 (m'.2.2.2.2.1 5), upd m'.2.2.2.2.2.1 0 (m'.2.2.2.2.2.1 1), a_minutes_189, a_noise_257, a_people_189, upd m'.2.2.2.2.2.2.2.2.2.1 0 (m'.2.2.2.2.2.2.2.2.2.1 1), a_told_145, upd m'.2.2.2.2.2.2.2.2.2.2.2 0 (m'.2.2.2.2.2.2.2.2.2.2.2 1))) (fun k_257 => L_X10_lay_218 k_257 5000 0 m'.2.2.1 m'.2.2.2.2.2.2.2.1)) (fun k_216 => L_X10_lay_191 k_216 5000 0 m'.1)) (fun k_189 => L_X10_lay_147 k_189 5000 0 m'.2.2.2.2.2.2.1 m'.2.2.2.2.2.2.2.2.1)) m'.2.2.2.2.2.2.2.2.2.2.1 16 0 5000 m'.2.2.2.2.2.2.2.2.2.2.1 (by decide) (by decide) (fun j hj => absurd hj (by omega)) (fun _ _ => rfl)
  obtain ⟨min, peo, p1, p2⟩ := cp6 (fun (a_minutes_189 : Nat → Int32) (a_people_189 : Nat → Int32) => jn (fun (a_boat_216 : Nat → Int32) => jn (fun (a_brings_257 : Nat → Int32) (a_noise_257 : Nat → Int32) => some (m'.2.2.2.2.2.2.2.2.2.1 1, 0, at', so', 0, a_boat_216, upd m'.2.1 0 (m'.2.1 1), a_brings_257, upd (upd m'.2.2.2.1 0 (m'.2.2.2.1 2)) 1 (m'.2.2.2.1 3), upd days 0 0, upd (upd (upd m'.2.2.2.2.1 0 (m'.2.2.2.2.1 3)) 1 (m'.2.2.2.2.1 4)) 2 (m'.2.2.2.2.1 5), upd m'.2.2.2.2.2.1 0 (m'.2.2.2.2.2.1 1), a_minutes_189, a_noise_257, a_people_189, upd m'.2.2.2.2.2.2.2.2.2.1 0 (m'.2.2.2.2.2.2.2.2.2.1 1), told, upd m'.2.2.2.2.2.2.2.2.2.2.2 0 (m'.2.2.2.2.2.2.2.2.2.2.2 1))) (fun k_257 => L_X10_lay_218 k_257 5000 0 m'.2.2.1 m'.2.2.2.2.2.2.2.1)) (fun k_216 => L_X10_lay_191 k_216 5000 0 m'.1)) m'.2.2.2.2.2.2.1 m'.2.2.2.2.2.2.2.2.1 6 0 5000 m'.2.2.2.2.2.2.1 m'.2.2.2.2.2.2.2.2.1 (by decide) (by decide) (fun j hj => absurd hj (by omega)) (fun _ _ => ⟨rfl, rfl⟩)
  obtain ⟨boat, b1', b2⟩ := cp4 (fun (a_boat_216 : Nat → Int32) => jn (fun (a_brings_257 : Nat → Int32) (a_noise_257 : Nat → Int32) => some (m'.2.2.2.2.2.2.2.2.2.1 1, 0, at', so', 0, a_boat_216, upd m'.2.1 0 (m'.2.1 1), a_brings_257, upd (upd m'.2.2.2.1 0 (m'.2.2.2.1 2)) 1 (m'.2.2.2.1 3), upd days 0 0, upd (upd (upd m'.2.2.2.2.1 0 (m'.2.2.2.2.1 3)) 1 (m'.2.2.2.2.1 4)) 2 (m'.2.2.2.2.1 5), upd m'.2.2.2.2.2.1 0 (m'.2.2.2.2.2.1 1), min, a_noise_257, peo, upd m'.2.2.2.2.2.2.2.2.2.1 0 (m'.2.2.2.2.2.2.2.2.2.1 1), told, upd m'.2.2.2.2.2.2.2.2.2.2.2 0 (m'.2.2.2.2.2.2.2.2.2.2.2 1))) (fun k_257 => L_X10_lay_218 k_257 5000 0 m'.2.2.1 m'.2.2.2.2.2.2.2.1)) m'.1 4 0 5000 m'.1 (by decide) (by decide) (fun j hj => absurd hj (by omega)) (fun _ _ => rfl)
  obtain ⟨bri, noi, w1, w2⟩ := cp5 (fun (a_brings_257 : Nat → Int32) (a_noise_257 : Nat → Int32) => some (m'.2.2.2.2.2.2.2.2.2.1 1, 0, at', so', 0, boat, upd m'.2.1 0 (m'.2.1 1), a_brings_257, upd (upd m'.2.2.2.1 0 (m'.2.2.2.1 2)) 1 (m'.2.2.2.1 3), upd days 0 0, upd (upd (upd m'.2.2.2.2.1 0 (m'.2.2.2.2.1 3)) 1 (m'.2.2.2.2.1 4)) 2 (m'.2.2.2.2.1 5), upd m'.2.2.2.2.2.1 0 (m'.2.2.2.2.2.1 1), min, a_noise_257, peo, upd m'.2.2.2.2.2.2.2.2.2.1 0 (m'.2.2.2.2.2.2.2.2.2.1 1), told, upd m'.2.2.2.2.2.2.2.2.2.2.2 0 (m'.2.2.2.2.2.2.2.2.2.2.2 1))) m'.2.2.1 m'.2.2.2.2.2.2.2.1 5 0 5000 m'.2.2.1 m'.2.2.2.2.2.2.2.1 (by decide) (by decide) (fun j hj => absurd hj (by omega)) (fun _ _ => ⟨rfl, rfl⟩)
  refine ⟨boat, bri, min, noi, peo, told, ?_, b2, w2, p2, t2⟩
  rw [F_X10_lay, h, sb]
  dsimp only
  rw [if_pos rfl, if_neg (show ¬ m'.2.2.2.2.2.2.2.2.2.1 (Int32.toNatClampNeg 1) = 0 from hv), show F_X10_law 0 (m'.2.2.2.2.1 (Int32.toNatClampNeg 3)) (m'.2.2.2.2.1 (Int32.toNatClampNeg 4)) (m'.2.2.2.2.1 (Int32.toNatClampNeg 5)) m'.2.2.2.2.1 = _ from law, sb, jn]
  refine Eq.trans t1 ?_
  rw [jn]
  refine Eq.trans p1 ?_
  rw [jn]
  refine Eq.trans b1' ?_
  rw [jn]
  exact w1
theorem lay9_ok {kc bdays x1 x2 x3 x4 x5 x6 l e lt' c tp sc : Int32} {a nu brr hm hpp lgr sn wg wn : AR} {d' : DT} {e' l' c' : Int32} {nu' : AR} (h : F_X8_readFrom x1 x2 x3 x4 x5 x6 l a e lt' c nu brr hm hpp lgr sn wg wn = some (-4, d'.1, d'.2.1, d'.2.2.1, d'.2.2.2.1, d'.2.2.2.2.1, d'.2.2.2.2.2.1, e', l', c', nu', d'.2.2.2.2.2.2)) (hs : 1 ≤ d'.2.2.2.1) :
    F_X9_lay kc bdays x1 x2 x3 x4 x5 x6 brr hm hpp lgr sn wg wn e lt' c nu l a tp sc = some (d'.2.2.2.1, 0, 0, d'.1, d'.2.1, d'.2.2.1, d'.2.2.2.1, d'.2.2.2.2.1, d'.2.2.2.2.2.1, d'.2.2.2.2.2.2.1, d'.2.2.2.2.2.2.2.1, d'.2.2.2.2.2.2.2.2.1, d'.2.2.2.2.2.2.2.2.2.1, d'.2.2.2.2.2.2.2.2.2.2.1, d'.2.2.2.2.2.2.2.2.2.2.2.1, d'.2.2.2.2.2.2.2.2.2.2.2.2, e', l', c', nu', 0, true) := by
  rw [F_X9_lay, h, sb]
  dsimp only
  rw [if_pos rfl, if_pos hs]
theorem lay9_no {kc bdays x1 x2 x3 x4 x5 x6 l e lt' c tp sc v : Int32} {a nu brr hm hpp lgr sn wg wn : AR} {d' : DT} {e' l' c' : Int32} {nu' : AR} (h : F_X8_readFrom x1 x2 x3 x4 x5 x6 l a e lt' c nu brr hm hpp lgr sn wg wn = some (v, d'.1, d'.2.1, d'.2.2.1, d'.2.2.2.1, d'.2.2.2.2.1, d'.2.2.2.2.2.1, e', l', c', nu', d'.2.2.2.2.2.2)) (hs : ¬ v = -4 ∨ ¬ 1 ≤ d'.2.2.2.1) :
    F_X9_lay kc bdays x1 x2 x3 x4 x5 x6 brr hm hpp lgr sn wg wn e lt' c nu l a tp sc = some (-2, kc, bdays, d'.1, d'.2.1, d'.2.2.1, d'.2.2.2.1, d'.2.2.2.2.1, d'.2.2.2.2.2.1, d'.2.2.2.2.2.2.1, d'.2.2.2.2.2.2.2.1, d'.2.2.2.2.2.2.2.2.1, d'.2.2.2.2.2.2.2.2.2.1, d'.2.2.2.2.2.2.2.2.2.2.1, d'.2.2.2.2.2.2.2.2.2.2.2.1, d'.2.2.2.2.2.2.2.2.2.2.2.2, e', l', c', nu', tp, false) := by
  rw [F_X9_lay, h, sb]
  dsimp only
  by_cases q : v = -4
  · rw [if_pos q, if_neg (hs.resolve_left (fun z => z q))]
  · rw [if_neg q]
