/-! pure rows: a DAY in its sleep; the reference's side -/
/-- what the reference takes for a day's signs: their ways, or 1 where they are not looked at -/
def LKH (x2 : Int32) (m2 mt : Nat → Int32) (l : Nat → Nat → Nat) : Prop := (0 ≤ x2 ∧ ∀ p s, p < 3 → s < 3 → F_X10_likely x2 (nI p) (nI s) m2 mt = some (lN (l p s))) ∨ (¬ 0 ≤ x2 ∧ ∀ p s, l p s = 1)
theorem e_lk {O : Type} {x2 : Int32} {m2 mt : Nat → Int32} {l : Nat → Nat → Nat} (H : LKH x2 m2 mt l) {p s : Nat} (hp : p < 3) (hs : s < 3) (K : Int64 → Option O) :
    jn K (fun k => (if 0 ≤ x2 then (F_X10_likely x2 (nI p) (nI s) m2 mt).bind (fun q => k q) else k 1)) = K (lN (l p s)) := by
  rw [jn]
  rcases H with ⟨h0, h1⟩ | ⟨h0, h1⟩
  · rw [if_pos h0, h1 p s hp hs, sb]
  · rw [if_neg h0, h1 p s]; rfl
theorem in3 {s : Nat} (hs : s < 3) : inb (nI s) 3 = true := inbT hs (by decide)
theorem cl3 {s : Nat} (hs : s < 3) : Int32.toNatClampNeg (nI s) = s := nI_clamp (by omega)
theorem g10s {s c x y1 y2 f : Nat} {x1 x2 : Int32} {go no m2 mt wo : Nat → Int32} {w th : Nat → Int64} {l : Nat → Nat → Nat} (hs : s < 2) (hc : F_X10_chance (nI s) x1 go no wo = some (nI c)) (hc4 : c ≤ 4) (H : LKH x2 m2 mt l) (hw : w s = lN x) (h1 : th s = lN y1) (h2 : th (s + 1) = lN y2) (k : (Nat → Int64) → Option ((Nat → Int64) × (Nat → Int64))) :
    L_X10_goOn_22 x1 x2 go no m2 mt w wo k (f + 1) (nI s) th = L_X10_goOn_22 x1 x2 go no m2 mt w wo k f (nI (s + 1)) (vp_updL (vp_updL th s (lN (y1 + x * (4 - c) * l s s))) (s + 1) (lN (y2 + x * c * l s (s + 1)))) := by
  rw [L_X10_goOn_22, if_neg (show ¬ (3 : Int32) ≤ nI s from nI_ge (a := s) (b := 3) (by omega) (by decide)), hc, sb, if_pos (in3 (by omega)), if_pos (in3 (by omega)), e_lk H (by omega) (by omega)]
  try dsimp only
  rw [if_pos (in3 (by omega)), jn, if_neg (show ¬ (2 : Int32) ≤ nI s from nI_ge (a := s) (b := 2) hs (by decide)), nI_1, if_pos (in3 (by omega)), if_pos (in3 (by omega)), e_lk H (by omega) (by omega)]
  try dsimp only
  rw [if_pos (in3 (by omega)), cl3 (by omega), cl3 (by omega), pk_uLn (show s + 1 ≠ s by omega), hw, h1, h2, show (4 : Int32) - nI c = nI (4 - c) from pk_sub (a := 4) (b := c) hc4, nI_l (n := 4 - c) (by omega), nI_l (n := c) (by omega), lN_mul, lN_mul, lN_mul, lN_mul, lN_add, lN_add]
theorem g102 {c x y1 f : Nat} {x1 x2 : Int32} {go no m2 mt wo : Nat → Int32} {w th : Nat → Int64} {l : Nat → Nat → Nat} (hc : F_X10_chance (nI 2) x1 go no wo = some (nI c)) (hc4 : c ≤ 4) (H : LKH x2 m2 mt l) (hw : w 2 = lN x) (h1 : th 2 = lN y1) (k : (Nat → Int64) → Option ((Nat → Int64) × (Nat → Int64))) :
    L_X10_goOn_22 x1 x2 go no m2 mt w wo k (f + 1) (nI 2) th = L_X10_goOn_22 x1 x2 go no m2 mt w wo k f (nI 3) (vp_updL th 2 (lN (y1 + x * (4 - c) * l 2 2))) := by
  rw [L_X10_goOn_22, if_neg (show ¬ (3 : Int32) ≤ nI 2 by decide), hc, sb, if_pos (in3 (by omega)), if_pos (in3 (by omega)), e_lk H (by omega) (by omega)]
  try dsimp only
  rw [if_pos (in3 (by omega)), jn, if_pos (show (2 : Int32) ≤ nI 2 by decide), nI_1, cl3 (by omega), hw, h1, show (4 : Int32) - nI c = nI (4 - c) from pk_sub (a := 4) (b := c) hc4, nI_l (n := 4 - c) (by omega), lN_mul, lN_mul, lN_add]
theorem z10 (k : (Nat → Int64) → Option ((Nat → Int64) × (Nat → Int64))) (th : Nat → Int64) (f : Nat) (hf : 4 ≤ f) : ∃ th', L_X10_goOn_2 k f (nI 0) th = k th' ∧ ∀ j, j < 3 → th' j = lN 0 := by
  obtain ⟨f, rfl⟩ : ∃ x, f = x + 4 := ⟨f - 4, by omega⟩
  refine ⟨vp_updL (vp_updL (vp_updL th 0 0) (0 + 1) 0) (0 + 1 + 1) 0, ?_, ?_⟩
  · rw [L_X10_goOn_2, if_neg (show ¬ (3 : Int32) ≤ nI 0 by decide), if_pos (in3 (s := 0) (by decide)), cl3 (s := 0) (by decide), nI_1,
      L_X10_goOn_2, if_neg (show ¬ (3 : Int32) ≤ nI (0 + 1) by decide), if_pos (in3 (s := 0 + 1) (by decide)), cl3 (s := 0 + 1) (by decide), nI_1,
      L_X10_goOn_2, if_neg (show ¬ (3 : Int32) ≤ nI (0 + 1 + 1) by decide), if_pos (in3 (s := 0 + 1 + 1) (by decide)), cl3 (s := 0 + 1 + 1) (by decide), nI_1,
      L_X10_goOn_2, if_pos (show (3 : Int32) ≤ nI (0 + 1 + 1 + 1) by decide)]
  · intro j hj
    rcases j3 hj with rfl | rfl | rfl <;> rfl
theorem c10 {u : Nat → Nat} (th w : Nat → Int64) (hu : LW th u) (f : Nat) (hf : 4 ≤ f) : ∃ w', L_X10_goOn_124 th f (nI 0) w = some (th, w') ∧ LW w' u := by
  obtain ⟨f, rfl⟩ : ∃ x, f = x + 4 := ⟨f - 4, by omega⟩
  refine ⟨vp_updL (vp_updL (vp_updL w 0 (th 0)) (0 + 1) (th (0 + 1))) (0 + 1 + 1) (th (0 + 1 + 1)), ?_, ?_⟩
  · rw [L_X10_goOn_124, if_neg (show ¬ (3 : Int32) ≤ nI 0 by decide), if_pos (in3 (s := 0) (by decide)), if_pos (in3 (s := 0) (by decide)), cl3 (s := 0) (by decide), nI_1,
      L_X10_goOn_124, if_neg (show ¬ (3 : Int32) ≤ nI (0 + 1) by decide), if_pos (in3 (s := 0 + 1) (by decide)), if_pos (in3 (s := 0 + 1) (by decide)), cl3 (s := 0 + 1) (by decide), nI_1,
      L_X10_goOn_124, if_neg (show ¬ (3 : Int32) ≤ nI (0 + 1 + 1) by decide), if_pos (in3 (s := 0 + 1 + 1) (by decide)), if_pos (in3 (s := 0 + 1 + 1) (by decide)), cl3 (s := 0 + 1 + 1) (by decide), nI_1,
      L_X10_goOn_124, if_pos (show (3 : Int32) ≤ nI (0 + 1 + 1 + 1) by decide)]
  · intro j hj
    rcases j3 hj with rfl | rfl | rfl
    · exact hu 0 hj
    · exact hu 1 hj
    · exact hu 2 hj
theorem l_goOn10 {x1 x2 : Int32} {go no m2 mt wo : Nat → Int32} {w th : Nat → Int64} {cc W : Nat → Nat} {l : Nat → Nat → Nat} (hc : ∀ s, s < 3 → F_X10_chance (nI s) x1 go no wo = some (nI (cc s)) ∧ cc s ≤ 4) (H : LKH x2 m2 mt l) (hw : LW w W) (hz : ∀ j, j < 3 → th j = lN 0) (k : (Nat → Int64) → Option ((Nat → Int64) × (Nat → Int64))) (f : Nat) (hf : 4 ≤ f) :
    ∃ th', L_X10_goOn_22 x1 x2 go no m2 mt w wo k f (nI 0) th = k th' ∧ LW th' (nxt cc l W) := by
  obtain ⟨f, rfl⟩ : ∃ x, f = x + 4 := ⟨f - 4, by omega⟩
  have c0 := hc 0 (by decide)
  have c1 := hc 1 (by decide)
  have c2 := hc 2 (by decide)
  refine ⟨vp_updL (vp_updL (vp_updL (vp_updL (vp_updL th 0 (lN (0 + W 0 * (4 - cc 0) * l 0 0))) (0 + 1) (lN (0 + W 0 * cc 0 * l 0 (0 + 1)))) (0 + 1) (lN (0 + W 0 * cc 0 * l 0 (0 + 1) + W 1 * (4 - cc 1) * l (0 + 1) (0 + 1)))) (0 + 1 + 1) (lN (0 + W 1 * cc 1 * l (0 + 1) (0 + 1 + 1)))) 2 (lN (0 + W 1 * cc 1 * l (0 + 1) (0 + 1 + 1) + W 2 * (4 - cc 2) * l 2 2)), ?_, ?_⟩
  · rw [g10s (s := 0) (by decide) c0.1 c0.2 H (hw 0 (by decide)) (hz 0 (by decide)) (hz 1 (by decide)) k,
      g10s (s := 0 + 1) (by decide) c1.1 c1.2 H (hw 1 (by decide)) pk_uLs ((pk_uLn (by decide)).trans ((pk_uLn (by decide)).trans (hz 2 (by decide)))) k,
      show nI (0 + 1 + 1) = nI 2 from rfl, g102 c2.1 c2.2 H (hw 2 (by decide)) pk_uLs k, L_X10_goOn_22, if_pos (show (3 : Int32) ≤ nI 3 by decide)]
  · intro j hj
    rcases j3 hj with rfl | rfl | rfl
    · rw [pk_uLn (by decide), pk_uLn (by decide), pk_uLn (by decide), pk_uLn (by decide), pk_uLs, nxt, cmg, if_pos rfl, Nat.zero_mul, Nat.add_zero, Nat.zero_add]
    · rw [pk_uLn (by decide), pk_uLn (by decide), show (1 : Nat) = 0 + 1 from rfl, pk_uLs, nxt, cmg, if_neg (by decide)]
      congr 1
      show 0 + W 0 * cc 0 * l 0 1 + W 1 * (4 - cc 1) * l 1 1 = W 1 * (4 - cc 1) * l 1 1 + W 0 * cc 0 * l 0 1
      omega
    · rw [pk_uLs, nxt, cmg, if_neg (by decide)]
      congr 1
      show 0 + W 1 * cc 1 * l 1 2 + W 2 * (4 - cc 2) * l 2 2 = W 2 * (4 - cc 2) * l 2 2 + W 1 * cc 1 * l 1 2
      omega
theorem e_goOn10 {x1 x2 : Int32} {go no m2 mt wo : Nat → Int32} {w th : Nat → Int64} {cc W : Nat → Nat} {l : Nat → Nat → Nat} (hc : ∀ s, s < 3 → F_X10_chance (nI s) x1 go no wo = some (nI (cc s)) ∧ cc s ≤ 4) (H : LKH x2 m2 mt l) (hw : LW w W) :
    ∃ th' w', F_X10_goOn x1 x2 go no m2 th mt w wo = some (th', w') ∧ LW w' (nxt cc l W) := by
  rw [F_X10_goOn, jn]
  obtain ⟨th1, g1, g2⟩ := z10 (fun (a_then_20 : Nat → Int64) => jn (fun (a_then_122 : Nat → Int64) => L_X10_goOn_124 a_then_122 5000 0 w) (fun k_122 => L_X10_goOn_22 x1 x2 go no m2 mt w wo k_122 5000 0 a_then_20)) th 5000 (by decide)
  obtain ⟨th2, k1, k2⟩ := l_goOn10 hc H hw g2 (fun (a_then_122 : Nat → Int64) => L_X10_goOn_124 a_then_122 5000 0 w) 5000 (by decide)
  obtain ⟨w3, n1, n2⟩ := c10 th2 w k2 5000 (by decide)
  refine ⟨th2, w3, g1.trans ?_, n2⟩
  rw [jn]
  exact k1.trans n1
theorem h_chance10 {m nw : Nat} (hm : m < 64) (hnw : nw ≤ 5) {lg wn : Nat → Nat} {go no wo : Nat → Int32} (hl : ∀ j, j < 3 → go j = nI (lg j) ∧ lg j ≤ 4) (ho : wo 0 = nI nw) (hw : ∀ j, j < nw → no j = nI (wn j) ∧ wn j ≤ 4) : ∀ s, s < 3 → F_X10_chance (nI s) (nI m) go no wo = some (nI (ccf lg wn nw m s)) ∧ ccf lg wn nw m s ≤ 4 := by
  intro s hs
  have hq := bsN_le (m := m) (c := 4) (w := wn) (n := nw) (fun j h => (hw j h).2) nw 0 (by omega)
  exact ⟨e_chance10 hs hm hnw hl ho (fun j h => (hw j h).1) (by omega), mn4_le _⟩
theorem LKH_neg {m2 mt : Nat → Int32} : LKH (-1) m2 mt (fun _ _ => 1) := Or.inr ⟨by decide, fun _ _ => rfl⟩
theorem l_read10 {ns nw n : Nat} {sgn lg wn sd wd : Nat → Nat} {dy go no sn m2 mt wo wk : Nat → Int32} {x1 : Int32} {bf : Nat → Bool} (hns : ns ≤ 4) (hnw : nw ≤ 5) (hn : n ≤ 5) (hl : ∀ j, j < 3 → go j = nI (lg j) ∧ lg j ≤ 4) (hs : ∀ j, j < 4 * ns → mt j = nI (sgn j) ∧ sgn j ≤ 4) (h2 : m2 0 = nI ns) (ho : wo 0 = nI nw) (hw : ∀ j, j < nw → no j = nI (wn j) ∧ wn j ≤ 4)
    (hdn : dy 0 = nI n) (hd : ∀ j, j < n → sn j = nI (sd j) ∧ sd j < 64 ∧ wk j = nI (wd j) ∧ wd j < 64) (hb : ∀ j, j < n → (nI j = x1 ↔ bf j = true)) :
    ∀ (r i f : Nat) (th w : Nat → Int64) (W : Nat → Nat), i + r = n → r < f → LW w W → ∃ th' w', L_X10_readDiary_23 x1 dy go no sn m2 mt wk wo f (nI i) th w = some (th', w') ∧ LW w' (dps lg wn sgn nw ns sd wd bf r i W) := by
  have hdn' : dy (Int32.toNatClampNeg 0) = nI n := hdn
  intro r
  induction r with
  | zero =>
    intro i f th w W hi hf h
    obtain ⟨f, rfl⟩ : ∃ x, f = x + 1 := ⟨f - 1, by omega⟩
    exact ⟨th, w, by rw [L_X10_readDiary_23, hdn', if_pos (nI_le (a := n) (b := i) (by omega) (by omega))], h⟩
  | succ r ih =>
    intro i f th w W hi hf h
    obtain ⟨f, rfl⟩ : ∃ x, f = x + 1 := ⟨f - 1, by omega⟩
    obtain ⟨d1, d2, d3, d4⟩ := hd i (by omega)
    have hc := h_chance10 (m := wd i) d4 hnw hl ho hw
    rw [L_X10_readDiary_23, hdn', if_neg (nI_ge (a := i) (b := n) (by omega) (by omega)), if_pos (inbT (k := i) (n := 15) (by omega) (by decide)), nI_clamp (n := i) (by omega), d3, jn]
    by_cases hx : nI i = x1
    · rw [if_pos hx, nI_1]
      try dsimp only
      obtain ⟨th1, w1, k1, k2⟩ := e_goOn10 (th := th) hc (LKH_neg (m2 := m2) (mt := mt)) h
      rw [k1, sb]
      refine ih (i + 1) f _ _ _ (by omega) (by omega) ?_
      have e : lkf sgn ns (sd i) (bf i) = fun _ _ => 1 := by funext p s; rw [lkf, if_pos ((hb i (by omega)).mp hx)]
      rw [e]
      exact k2
    · have e : lkf sgn ns (sd i) (bf i) = fun p s => wv sgn (sd i) p s ns 0 := by funext p s; rw [lkf, if_neg (fun q => hx ((hb i (by omega)).mpr q))]
      have H : LKH (nI (sd i)) m2 mt (lkf sgn ns (sd i) (bf i)) := by
        rw [e]
        exact Or.inl ⟨nI_pos' (by omega), fun p s hp hs' => e_ways10 hns d2 hp hs' h2 hs⟩
      rw [if_neg hx, if_pos (inbT (k := i) (n := 15) (by omega) (by decide)), d1, nI_1]
      try dsimp only
      obtain ⟨th1, w1, k1, k2⟩ := e_goOn10 (th := th) hc H h
      rw [k1, sb]
      exact ih (i + 1) f _ _ _ (by omega) (by omega) k2
theorem e_read10 {ns nw n : Nat} {sgn lg wn sd wd : Nat → Nat} {dy go no sn m2 mt wo wk : Nat → Int32} {x1 : Int32} {bf : Nat → Bool} (hns : ns ≤ 4) (hnw : nw ≤ 5) (hn : n ≤ 5) (hl : ∀ j, j < 3 → go j = nI (lg j) ∧ lg j ≤ 4) (hs : ∀ j, j < 4 * ns → mt j = nI (sgn j) ∧ sgn j ≤ 4) (h2 : m2 0 = nI ns) (ho : wo 0 = nI nw) (hw : ∀ j, j < nw → no j = nI (wn j) ∧ wn j ≤ 4)
    (hdn : dy 0 = nI n) (hd : ∀ j, j < n → sn j = nI (sd j) ∧ sd j < 64 ∧ wk j = nI (wd j) ∧ wd j < 64) (hb : ∀ j, j < n → (nI j = x1 ↔ bf j = true)) (th w : Nat → Int64) :
    ∃ th' w', F_X10_readDiary x1 dy go no sn m2 th mt w wk wo = some (th', w') ∧ LW w' (dps lg wn sgn nw ns sd wd bf n 0 w00) := by
  rw [F_X10_readDiary]
  refine l_read10 hns hnw hn hl hs h2 ho hw hdn hd hb n 0 5000 th _ w00 (by omega) (by omega) ?_
  intro j hj
  rcases j3 hj with rfl | rfl | rfl <;> rfl
theorem e_tot10 {w : Nat → Int64} {W : Nat → Nat} (h : LW w W) : F_X10_total w = some (lN (tot W)) := by
  rw [F_X10_total, show w (Int32.toNatClampNeg 0) = lN (W 0) from h 0 (by decide), show w (Int32.toNatClampNeg 1) = lN (W 1) from h 1 (by decide), show w (Int32.toNatClampNeg 2) = lN (W 2) from h 2 (by decide), lN_add, lN_add, tot]
