/-! pure rows: a DAY in its sleep, in numbers; the class's side -/
def LW (a : Nat → Int64) (u : Nat → Nat) : Prop := ∀ j, j < 3 → a j = lN (u j)
def tot (u : Nat → Nat) : Nat := u 0 + u 1 + u 2
/-- what comes to a sleep from the one ahead -/
def cmg (cc : Nat → Nat) (W : Nat → Nat) (s : Nat) : Nat := if s = 0 then 0 else W (s - 1) * cc (s - 1)
def nxt (cc : Nat → Nat) (l : Nat → Nat → Nat) (W : Nat → Nat) (s : Nat) : Nat := W s * (4 - cc s) * l s s + cmg cc W s * l (s - 1) s
def ccf (lg wn : Nat → Nat) (nw m s : Nat) : Nat := mn4 (lg s + bsN m wn nw 0)
def lkf (sgn : Nat → Nat) (ns m : Nat) (b : Bool) (p s : Nat) : Nat := if b = true then 1 else wv sgn m p s ns 0
def dps (lg wn sgn : Nat → Nat) (nw ns : Nat) (sd wd : Nat → Nat) (bf : Nat → Bool) : Nat → Nat → (Nat → Nat) → Nat → Nat
  | 0, _, W => W
  | r + 1, i, W => dps lg wn sgn nw ns sd wd bf r (i + 1) (nxt (ccf lg wn nw (wd i)) (lkf sgn ns (sd i) (bf i)) W)
def w00 (s : Nat) : Nat := if s = 0 then 1 else 0
def SLP (ca st : Nat → Int64) (W : Nat → Nat) : Prop := ∃ A B : Nat → Nat, LW st A ∧ LW ca B ∧ B 0 = 0 ∧ ∀ s, s < 3 → A s + B s = W s
theorem j3 {j : Nat} (h : j < 3) : j = 0 ∨ j = 1 ∨ j = 2 := by omega
theorem lput3 {s : Nat} (hs : s < 3) (v : Int64) (a : Nat → Int64) : F_X4_putLong (nI s) v 3 a = some (vp_updL a s v) := lput_in (k := s) (n := 3) hs (by decide) v a
theorem lat3 {s : Nat} (hs : s < 3) (a : Nat → Int64) : F_X4_longAt (nI s) 3 a = some (a s) := lat_in (k := s) (n := 3) hs (by decide) a
theorem e_wy {s x y : Nat} (hs : s < 3) {ca st : Nat → Int64} (h1 : st s = lN x) (h2 : ca s = lN y) : F_X5_waysTo (nI s) ca st = some (lN (x + y)) := by
  rw [F_X5_waysTo, lat3 hs, sb, lat3 hs, sb, h1, h2, lN_add]
theorem l_tot9 {ca st : Nat → Int64} {W : Nat → Nat} (h : SLP ca st W) (f : Nat) (hf : 4 ≤ f) : L_X5_total_4 ca st f (lN 0) (nI 0) = some (lN (tot W)) := by
  obtain ⟨A, B, hA, hB, h0, hW⟩ := h
  obtain ⟨f, rfl⟩ : ∃ x, f = x + 4 := ⟨f - 4, by omega⟩
  rw [L_X5_total_4, if_neg (show ¬ (3 : Int32) ≤ nI 0 by decide), e_wy (s := 0) (by decide) (hA 0 (by decide)) (hB 0 (by decide)), sb, lN_add, nI_1,
    L_X5_total_4, if_neg (show ¬ (3 : Int32) ≤ nI (0 + 1) by decide), e_wy (s := 0 + 1) (by decide) (hA 1 (by decide)) (hB 1 (by decide)), sb, lN_add, nI_1,
    L_X5_total_4, if_neg (show ¬ (3 : Int32) ≤ nI (0 + 1 + 1) by decide), e_wy (s := 0 + 1 + 1) (by decide) (hA 2 (by decide)) (hB 2 (by decide)), sb, lN_add, nI_1,
    L_X5_total_4, if_pos (show (3 : Int32) ≤ nI (0 + 1 + 1 + 1) by decide), hW 0 (by decide), hW 1 (by decide), hW 2 (by decide), tot, Nat.zero_add]
theorem e_tot9 {ca st : Nat → Int64} {W : Nat → Nat} (h : SLP ca st W) : F_X5_total ca st = some (lN (tot W)) := by
  rw [F_X5_total]
  exact l_tot9 h 5000 (by decide)
theorem e_ways3 {ca st : Nat → Int64} {W : Nat → Nat} (h : SLP ca st W) {s : Nat} (hs : s < 3) : F_X5_waysTo (nI s) ca st = some (lN (W s)) := by
  obtain ⟨A, B, hA, hB, h0, hW⟩ := h
  rw [e_wy hs (hA s hs) (hB s hs), hW s hs]
theorem g9s {q s c x y f : Nat} (hs : s < 2) {a : Nat → Int32} {ca st : Nat → Int64} (hc : F_X8_chance (nI s) (nI q) a = some (nI c)) (hc4 : c ≤ 4) (h1 : st s = lN x) (h2 : ca s = lN y) (t : Int64) :
    L_X5_goOn_14 (nI q) a (f + 1) (nI s) t ca st = L_X5_goOn_14 (nI q) a f (nI s + (-1)) t (vp_updL ca (s + 1) (lN ((x + y) * c))) (vp_updL st s (lN ((x + y) * (4 - c)))) := by
  rw [L_X5_goOn_14, if_neg (nI_pos (n := s) (by omega)), hc, sb, e_wy (by omega) h1 h2, sb, lput3 (by omega), sb, jn, if_neg (show ¬ nI s = 2 from fun e => absurd ((nI_eq (a := s) (b := 2) (by omega) (by decide)).mp e) (by omega)), nI_1, lput3 (by omega), sb,
    show (4 : Int32) - nI c = nI (4 - c) from pk_sub (a := 4) (b := c) hc4, nI_l (n := 4 - c) (by omega), nI_l (n := c) (by omega), lN_mul, lN_mul]
theorem g92 {q c x y f : Nat} {a : Nat → Int32} {ca st : Nat → Int64} (hc : F_X8_chance (nI 2) (nI q) a = some (nI c)) (hc4 : c ≤ 4) (h1 : st 2 = lN x) (h2 : ca 2 = lN y) (t : Int64) :
    L_X5_goOn_14 (nI q) a (f + 1) (nI 2) t ca st = L_X5_goOn_14 (nI q) a f (nI 1) (t + lN ((x + y) * c)) ca (vp_updL st 2 (lN ((x + y) * (4 - c)))) := by
  rw [L_X5_goOn_14, if_neg (nI_pos (n := 2) (by omega)), hc, sb, e_wy (by omega) h1 h2, sb, lput3 (by omega), sb, jn, if_pos (show nI 2 = 2 from rfl),
    show (4 : Int32) - nI c = nI (4 - c) from pk_sub (a := 4) (b := c) hc4, nI_l (n := 4 - c) (by omega), nI_l (n := c) (by omega), lN_mul, lN_mul]
  rfl
theorem l_goOn9 {q : Nat} (hq : q ≤ 100) {lg : Nat → Nat} {a : Nat → Int32} (ha : ∀ j, j < 3 → a j = nI (lg j) ∧ lg j ≤ 4) {ca st : Nat → Int64} {W : Nat → Nat} (h : SLP ca st W) (t : Int64) (f : Nat) (hf : 4 ≤ f) :
    ∃ ca' st', L_X5_goOn_14 (nI q) a f (nI 2) t ca st = some (t + lN (W 2 * mn4 (lg 2 + q)), ca', st') ∧ LW st' (fun s => W s * (4 - mn4 (lg s + q))) ∧ LW ca' (cmg (fun s => mn4 (lg s + q)) W) := by
  obtain ⟨A, B, hA, hB, h0, hW⟩ := h
  obtain ⟨f, rfl⟩ : ∃ x, f = x + 4 := ⟨f - 4, by omega⟩
  have c0 := e_chance9 (s := 0) (by decide) hq ha
  have c1 := e_chance9 (s := 1) (by decide) hq ha
  have c2 := e_chance9 (s := 2) (by decide) hq ha
  have k0 := mn4_le (lg 0 + q)
  have k1 := mn4_le (lg 1 + q)
  have k2 := mn4_le (lg 2 + q)
  refine ⟨vp_updL (vp_updL ca (1 + 1) (lN (W 1 * mn4 (lg 1 + q)))) (0 + 1) (lN (W 0 * mn4 (lg 0 + q))), vp_updL (vp_updL (vp_updL st 2 (lN (W 2 * (4 - mn4 (lg 2 + q))))) 1 (lN (W 1 * (4 - mn4 (lg 1 + q))))) 0 (lN (W 0 * (4 - mn4 (lg 0 + q)))), ?_, ?_, ?_⟩
  · rw [g92 c2 k2 (hA 2 (by decide)) (hB 2 (by decide)) t, hW 2 (by decide),
      g9s (s := 1) (by decide) c1 k1 ((pk_uLn (by decide)).trans (hA 1 (by decide))) (hB 1 (by decide)), hW 1 (by decide), show nI 1 + (-1) = nI 0 from rfl,
      g9s (s := 0) (by decide) c0 k0 ((pk_uLn (by decide)).trans ((pk_uLn (by decide)).trans (hA 0 (by decide)))) ((pk_uLn (by decide)).trans (hB 0 (by decide))), hW 0 (by decide), L_X5_goOn_14, if_pos (show nI 0 + (-1) < 0 by decide)]
  · intro j hj
    rcases j3 hj with rfl | rfl | rfl
    · rw [pk_uLs]
    · rw [pk_uLn (by decide), pk_uLs]
    · rw [pk_uLn (by decide), pk_uLn (by decide), pk_uLs]
  · intro j hj
    rcases j3 hj with rfl | rfl | rfl
    · rw [pk_uLn (by decide), pk_uLn (by decide), hB 0 hj, h0, cmg, if_pos rfl]
    · rw [show (1 : Nat) = 0 + 1 from rfl, pk_uLs, cmg, if_neg (by decide)]
    · rw [show (2 : Nat) = 1 + 1 from rfl, pk_uLn (by decide), pk_uLs, cmg, if_neg (by decide)]
theorem e_goOn9 {q : Nat} (hq : q ≤ 100) {lg : Nat → Nat} {a : Nat → Int32} (ha : ∀ j, j < 3 → a j = nI (lg j) ∧ lg j ≤ 4) {ca st : Nat → Int64} {W : Nat → Nat} (h : SLP ca st W) (t : Int64) :
    ∃ ca' st', F_X5_goOn (nI q) t a ca st = some (t * 4 + lN (W 2 * mn4 (lg 2 + q)), ca', st') ∧ LW st' (fun s => W s * (4 - mn4 (lg s + q))) ∧ LW ca' (cmg (fun s => mn4 (lg s + q)) W) := by
  rw [F_X5_goOn]
  exact l_goOn9 hq ha h (t * 4) 5000 (by decide)
theorem SLP_go {cc W : Nat → Nat} {ca st : Nat → Int64} (h1 : LW st (fun s => W s * (4 - cc s))) (h2 : LW ca (cmg cc W)) : SLP ca st (nxt cc (fun _ _ => 1) W) :=
  ⟨_, _, h1, h2, by rw [cmg, if_pos rfl], fun s _ => by rw [nxt, Nat.mul_one, Nat.mul_one]⟩
theorem sm1 : ∀ s, s < 3 → (if (0 : Int32) < nI s - 1 then nI s - 1 else 0) = nI (s - 1) := by decide
theorem k9s {ns m s x y f : Nat} {sg : Nat → Nat} {cs : Nat → Int32} (hns : ns ≤ 4) (hm : m < 64) (hs : s < 3) (h : ∀ j, j < 4 * ns → cs j = nI (sg j) ∧ sg j ≤ 4) {ca st : Nat → Int64} (h1 : st s = lN x) (h2 : ca s = lN y) :
    L_X5_lookAt_2 (nI m) (nI ns) cs (f + 1) (nI s) ca st = L_X5_lookAt_2 (nI m) (nI ns) cs f (nI (s + 1)) (vp_updL ca s (lN (y * wv sg m (s - 1) s ns 0))) (vp_updL st s (lN (x * wv sg m s s ns 0))) := by
  rw [L_X5_lookAt_2, if_neg (show ¬ (3 : Int32) ≤ nI s from nI_ge (a := s) (b := 3) hs (by decide)), lat3 hs, sb, e_ways9 hns hm hs hs h, sb, lput3 hs, sb, lat3 hs, sb, sm1 s hs, e_ways9 hns hm (by omega) hs h, sb, lput3 hs, sb, h1, h2, lN_mul, lN_mul, nI_1]
theorem l_look9 {ns m : Nat} {sg : Nat → Nat} {cs : Nat → Int32} (hns : ns ≤ 4) (hm : m < 64) (h : ∀ j, j < 4 * ns → cs j = nI (sg j) ∧ sg j ≤ 4) {ca st : Nat → Int64} {A B : Nat → Nat} (hA : LW st A) (hB : LW ca B) (f : Nat) (hf : 4 ≤ f) :
    ∃ ca' st', L_X5_lookAt_2 (nI m) (nI ns) cs f (nI 0) ca st = some (ca', st') ∧ LW st' (fun s => A s * wv sg m s s ns 0) ∧ LW ca' (fun s => B s * wv sg m (s - 1) s ns 0) := by
  obtain ⟨f, rfl⟩ : ∃ x, f = x + 4 := ⟨f - 4, by omega⟩
  refine ⟨vp_updL (vp_updL (vp_updL ca 0 (lN (B 0 * wv sg m (0 - 1) 0 ns 0))) (0 + 1) (lN (B 1 * wv sg m (0 + 1 - 1) (0 + 1) ns 0))) (0 + 1 + 1) (lN (B 2 * wv sg m (0 + 1 + 1 - 1) (0 + 1 + 1) ns 0)),
    vp_updL (vp_updL (vp_updL st 0 (lN (A 0 * wv sg m 0 0 ns 0))) (0 + 1) (lN (A 1 * wv sg m (0 + 1) (0 + 1) ns 0))) (0 + 1 + 1) (lN (A 2 * wv sg m (0 + 1 + 1) (0 + 1 + 1) ns 0)), ?_, ?_, ?_⟩
  · rw [k9s hns hm (s := 0) (by decide) h (hA 0 (by decide)) (hB 0 (by decide)),
      k9s hns hm (s := 0 + 1) (by decide) h ((pk_uLn (by decide)).trans (hA 1 (by decide))) ((pk_uLn (by decide)).trans (hB 1 (by decide))),
      k9s hns hm (s := 0 + 1 + 1) (by decide) h ((pk_uLn (by decide)).trans ((pk_uLn (by decide)).trans (hA 2 (by decide)))) ((pk_uLn (by decide)).trans ((pk_uLn (by decide)).trans (hB 2 (by decide)))),
      L_X5_lookAt_2, if_pos (show (3 : Int32) ≤ nI (0 + 1 + 1 + 1) by decide)]
  · intro j hj
    rcases j3 hj with rfl | rfl | rfl
    · rw [pk_uLn (by decide), pk_uLn (by decide), pk_uLs]
    · rw [pk_uLn (by decide), show (1 : Nat) = 0 + 1 from rfl, pk_uLs]
    · rw [show (2 : Nat) = 0 + 1 + 1 from rfl, pk_uLs]
  · intro j hj
    rcases j3 hj with rfl | rfl | rfl
    · rw [pk_uLn (by decide), pk_uLn (by decide), pk_uLs]
    · rw [pk_uLn (by decide), show (1 : Nat) = 0 + 1 from rfl, pk_uLs]
    · rw [show (2 : Nat) = 0 + 1 + 1 from rfl, pk_uLs]
theorem e_look9 {ns m : Nat} {sg : Nat → Nat} {cs : Nat → Int32} (hns : ns ≤ 4) (hm : m < 64) (h : ∀ j, j < 4 * ns → cs j = nI (sg j) ∧ sg j ≤ 4) {ca st : Nat → Int64} {A B : Nat → Nat} (hA : LW st A) (hB : LW ca B) :
    ∃ ca' st', F_X5_lookAt (nI m) (nI ns) cs ca st = some (ca', st') ∧ LW st' (fun s => A s * wv sg m s s ns 0) ∧ LW ca' (fun s => B s * wv sg m (s - 1) s ns 0) := by
  rw [F_X5_lookAt]
  exact l_look9 hns hm h hA hB 5000 (by decide)
theorem i9s {s v f : Nat} (hs : s < 3) (hv : (s = 0 ∧ v = 1) ∨ (s ≠ 0 ∧ v = 0)) (k : (Nat → Int64) → (Nat → Int64) → Option (Int64 × (Nat → Int64) × (Nat → Int64))) (ca st : Nat → Int64) : L_X5_passDiary_3 k (f + 1) (nI s) ca st = L_X5_passDiary_3 k f (nI (s + 1)) (vp_updL ca s 0) (vp_updL st s (lN v)) := by
  rw [L_X5_passDiary_3, if_neg (show ¬ (3 : Int32) ≤ nI s from nI_ge (a := s) (b := 3) hs (by decide)), jn]
  rcases hv with ⟨h, rfl⟩ | ⟨h, rfl⟩
  · subst h
    rw [if_pos (show nI 0 = 0 from rfl)]
    dsimp only
    rw [lput3 hs, sb, lput3 hs, sb, nI_1]
    rfl
  · rw [if_neg (nI_ne0 (n := s) (by omega) (by omega))]
    dsimp only
    rw [lput3 hs, sb, lput3 hs, sb, nI_1]
    rfl
theorem l_pass9i (k : (Nat → Int64) → (Nat → Int64) → Option (Int64 × (Nat → Int64) × (Nat → Int64))) (ca st : Nat → Int64) (f : Nat) (hf : 4 ≤ f) : ∃ ca' st', L_X5_passDiary_3 k f (nI 0) ca st = k ca' st' ∧ SLP ca' st' w00 := by
  obtain ⟨f, rfl⟩ : ∃ x, f = x + 4 := ⟨f - 4, by omega⟩
  refine ⟨vp_updL (vp_updL (vp_updL ca 0 0) (0 + 1) 0) (0 + 1 + 1) 0, vp_updL (vp_updL (vp_updL st 0 (lN 1)) (0 + 1) (lN 0)) (0 + 1 + 1) (lN 0), ?_, w00, fun _ => 0, ?_, ?_, rfl, fun s _ => Nat.add_zero _⟩
  · rw [i9s (s := 0) (v := 1) (by decide) (by decide), i9s (s := 0 + 1) (v := 0) (by decide) (by decide), i9s (s := 0 + 1 + 1) (v := 0) (by decide) (by decide), L_X5_passDiary_3, if_pos (show (3 : Int32) ≤ nI (0 + 1 + 1 + 1) by decide)]
  · intro j hj
    rcases j3 hj with rfl | rfl | rfl <;> rfl
  · intro j hj
    rcases j3 hj with rfl | rfl | rfl <;> rfl
theorem l_pass9 {ns nw n : Nat} {sgn lg wn sd wd : Nat → Nat} {lt cs cn da wa : Nat → Int32} {x3 : Int32} {bf : Nat → Bool} (hns : ns ≤ 4) (hnw : nw ≤ 5) (hn : n ≤ 5) (hl : ∀ j, j < 3 → lt j = nI (lg j) ∧ lg j ≤ 4) (hs : ∀ j, j < 4 * ns → cs j = nI (sgn j) ∧ sgn j ≤ 4) (hw : ∀ j, j < nw → cn j = nI (wn j) ∧ wn j ≤ 4)
    (hd : ∀ j, j < n → da j = nI (sd j) ∧ sd j < 64 ∧ wa j = nI (wd j) ∧ wd j < 64) (hb : ∀ j, j < n → (nI j = x3 ↔ bf j = true)) (k : Int64 → (Nat → Int64) → (Nat → Int64) → Option (Int64 × (Nat → Int64) × (Nat → Int64))) :
    ∀ (r i f : Nat) (t : Int64) (ca st : Nat → Int64) (W : Nat → Nat), i + r = n → r < f → SLP ca st W → ∃ t' ca' st', L_X5_passDiary_47 x3 (nI ns) (nI nw) lt cs cn (nI n) da wa k f (nI i) t ca st = k t' ca' st' ∧ SLP ca' st' (dps lg wn sgn nw ns sd wd bf r i W) := by
  intro r
  induction r with
  | zero =>
    intro i f t ca st W hi hf h
    obtain ⟨f, rfl⟩ : ∃ x, f = x + 1 := ⟨f - 1, by omega⟩
    exact ⟨t, ca, st, by rw [L_X5_passDiary_47, if_pos (nI_le (a := n) (b := i) (by omega) (by omega))], h⟩
  | succ r ih =>
    intro i f t ca st W hi hf h
    obtain ⟨f, rfl⟩ : ∃ x, f = x + 1 := ⟨f - 1, by omega⟩
    obtain ⟨d1, d2, d3, d4⟩ := hd i (by omega)
    have hq := bsN_le (m := wd i) (c := 4) (w := wn) (n := nw) (fun j h => (hw j h).2) nw 0 (by omega)
    obtain ⟨ca1, st1, g1, g2, g3⟩ := e_goOn9 (q := bsN (wd i) wn nw 0) (by omega) hl h t
    rw [L_X5_passDiary_47, if_neg (nI_ge (a := i) (b := n) (by omega) (by omega)), F_X1_worksOn, at_in (k := i) (n := 5) (by omega) (by decide), sb, d3, sb, e_noiseOf d4 hnw (fun j h => (hw j h).1), sb, g1, sb, jn]
    by_cases hx : nI i = x3
    · rw [if_pos hx, nI_1]
      dsimp only
      refine ih (i + 1) f _ ca1 st1 _ (by omega) (by omega) ?_
      have e : lkf sgn ns (sd i) (bf i) = fun _ _ => 1 := by funext p s; rw [lkf, if_pos ((hb i (by omega)).mp hx)]
      rw [e]
      exact SLP_go g2 g3
    · obtain ⟨ca2, st2, k1, k2, k3⟩ := e_look9 (m := sd i) hns d2 hs g2 g3
      rw [if_neg hx, F_X1_signsOn, at_in (k := i) (n := 5) (by omega) (by decide), sb, d1, sb, k1, sb, nI_1]
      dsimp only
      refine ih (i + 1) f _ ca2 st2 _ (by omega) (by omega) ?_
      have e : lkf sgn ns (sd i) (bf i) = fun p s => wv sgn (sd i) p s ns 0 := by funext p s; rw [lkf, if_neg (fun q => hx ((hb i (by omega)).mpr q))]
      rw [e]
      exact ⟨_, _, k2, k3, by rw [cmg, if_pos rfl, Nat.zero_mul], fun s _ => rfl⟩
theorem e_pass9 {ns nw n : Nat} {sgn lg wn sd wd : Nat → Nat} {lt cs cn da wa : Nat → Int32} {x3 : Int32} {bf : Nat → Bool} (hns : ns ≤ 4) (hnw : nw ≤ 5) (hn : n ≤ 5) (hl : ∀ j, j < 3 → lt j = nI (lg j) ∧ lg j ≤ 4) (hs : ∀ j, j < 4 * ns → cs j = nI (sgn j) ∧ sgn j ≤ 4) (hw : ∀ j, j < nw → cn j = nI (wn j) ∧ wn j ≤ 4)
    (hd : ∀ j, j < n → da j = nI (sd j) ∧ sd j < 64 ∧ wa j = nI (wd j) ∧ wd j < 64) (hb : ∀ j, j < n → (nI j = x3 ↔ bf j = true)) (t : Int64) (ca st : Nat → Int64) :
    ∃ ca' st', F_X5_passDiary x3 t (nI ns) (nI nw) lt cs cn (nI n) da wa ca st = some (0, ca', st') ∧ SLP ca' st' (dps lg wn sgn nw ns sd wd bf n 0 w00) := by
  rw [F_X5_passDiary, jn]
  obtain ⟨ca1, st1, g1, g2⟩ := l_pass9i (fun (a_came_44 : Nat → Int64) (a_stayed_44 : Nat → Int64) => jn (fun (v_turned_94 : Int64) (a_came_94 : Nat → Int64) (a_stayed_94 : Nat → Int64) => some (0, a_came_94, a_stayed_94)) (fun k_94 => L_X5_passDiary_47 x3 (nI ns) (nI nw) lt cs cn (nI n) da wa k_94 5000 0 t a_came_44 a_stayed_44)) ca st 5000 (by decide)
  obtain ⟨t2, ca2, st2, k1, k2⟩ := l_pass9 hns hnw hn hl hs hw hd hb (fun (v_turned_94 : Int64) (a_came_94 : Nat → Int64) (a_stayed_94 : Nat → Int64) => some (0, a_came_94, a_stayed_94)) n 0 5000 t ca1 st1 w00 (by omega) (by omega) g2
  refine ⟨ca2, st2, g1.trans ?_, k2⟩
  rw [jn]
  exact k1
