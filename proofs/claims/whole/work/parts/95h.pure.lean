/-! pure rows: how likely a sign is, in 256 -/
def shr (sg : Nat → Nat) (p s : Nat) : Nat → Nat
  | 0 => 64 * own sg 0 p s
  | k + 1 => (if prd sg (k + 1) = true then shr sg p s k else 256) / 4 * own sg (k + 1) p s
theorem prd0 (sg : Nat → Nat) : ¬ prd sg 0 = true := by simp [prd]
theorem shr_le {ns p s : Nat} {sg : Nat → Nat} (hp : p < 3) (hs : s < 3) (h : ∀ j, j < 4 * ns → sg j ≤ 4) : ∀ k, k < ns → shr sg p s k ≤ 256 := by
  intro k
  induction k with
  | zero => intro hk; have := own_le hk hp hs h; rw [shr]; omega
  | succ k ih =>
    intro hk
    have h1 := own_le hk hp hs h
    have h2 := ih (by omega)
    rw [shr]
    by_cases hq : prd sg (k + 1) = true
    · rw [if_pos hq]
      exact Nat.le_trans (Nat.mul_le_mul (show shr sg p s k / 4 ≤ 64 by omega) h1) (by decide)
    · rw [if_neg hq]
      exact Nat.le_trans (Nat.mul_le_mul (show 256 / 4 ≤ 64 by decide) h1) (by decide)
theorem l_shr9 {ns k p s : Nat} {sg : Nat → Nat} {cs : Nat → Int32} (hns : ns ≤ 4) (hk : k < ns) (hp : p < 3) (hs : s < 3) (h : ∀ j, j < 4 * ns → cs j = nI (sg j) ∧ sg j ≤ 4) :
    ∀ (r i f sh : Nat), i + r = k + 1 → r < f → sh ≤ 256 → (0 < i → sh = shr sg p s (i - 1)) → L_X8_shareOf_8 (nI k) (nI p) (nI s) cs f (nI sh) (nI i) = some (nI (shr sg p s k)) := by
  intro r
  induction r with
  | zero =>
    intro i f sh hi hf hsh h0
    obtain ⟨f, rfl⟩ : ∃ x, f = x + 1 := ⟨f - 1, by omega⟩
    rw [L_X8_shareOf_8, if_pos (nI_lt (a := k) (b := i) (by omega) (by omega)), h0 (by omega), show i - 1 = k by omega]
  | succ r ih =>
    intro i f sh hi hf hsh h0
    obtain ⟨f, rfl⟩ : ∃ x, f = x + 1 := ⟨f - 1, by omega⟩
    have ho := own_le (k := i) (by omega) hp hs (fun j h9 => (h j h9).2)
    have hb := shr_le hp hs (fun j h9 => (h j h9).2) i (by omega)
    have e : (if prd sg i = true then sh else 256) / 4 * own sg i p s = shr sg p s i := by
      cases i with
      | zero => rw [if_neg (prd0 sg), shr]
      | succ i => rw [shr, h0 (by omega)]; rfl
    have fin : L_X8_shareOf_8 (nI k) (nI p) (nI s) cs f (nI (shr sg p s i)) (nI i + 1) = some (nI (shr sg p s k)) := by
      rw [nI_1]
      exact ih (i + 1) f _ (by omega) (by omega) hb (fun _ => by rw [show i + 1 - 1 = i by omega])
    rw [L_X8_shareOf_8, if_neg (nI_nlt (a := k) (b := i) (by omega) (by omega)), e_hang9 hns (by omega) h, sb, jn, e_own9 hns (by omega) hp hs h]
    by_cases hq : prd sg i = true
    · rw [if_pos hq] at e ⊢
      rw [if_neg n10]
      dsimp only
      rw [sb, show nI sh / 4 = nI (sh / 4) from pk_div (a := sh) (d := 4) (by omega) (by decide) (by decide), pk_mul, e]
      exact fin
    · rw [if_neg hq] at e ⊢
      rw [if_pos rfl]
      dsimp only
      rw [sb, show (256 : Int32) / 4 = nI (256 / 4) from by decide, pk_mul, e]
      exact fin
theorem e_shr9 {ns k p s : Nat} {sg : Nat → Nat} {cs : Nat → Int32} (hns : ns ≤ 4) (hk : k < ns) (hp : p < 3) (hs : s < 3) (h : ∀ j, j < 4 * ns → cs j = nI (sg j) ∧ sg j ≤ 4) : F_X8_shareOf (nI k) (nI p) (nI s) cs = some (nI (shr sg p s k)) := by
  rw [F_X8_shareOf]
  exact l_shr9 hns hk hp hs h (k + 1) 0 5000 256 (by omega) (by omega) (by decide) (fun q => absurd q (by omega))
def chP (sg : Nat → Nat) (p s : Nat) : Nat → Nat
  | 0 => own sg 0 p s
  | k + 1 => if prd sg (k + 1) = true then own sg (k + 1) p s * chP sg p s k else own sg (k + 1) p s
def chC (sg : Nat → Nat) : Nat → Nat
  | 0 => 1
  | k + 1 => if prd sg (k + 1) = true then 1 + chC sg k else 1
theorem chC_le (sg : Nat → Nat) : ∀ k, 1 ≤ chC sg k ∧ chC sg k ≤ k + 1 := by
  intro k
  induction k with
  | zero => rw [chC]; omega
  | succ k ih =>
    rw [chC]
    by_cases hq : prd sg (k + 1) = true
    · rw [if_pos hq]; omega
    · rw [if_neg hq]; omega
theorem shr_ch (sg : Nat → Nat) (p s : Nat) : ∀ k, k < 4 → shr sg p s k = chP sg p s k * 4 ^ (4 - chC sg k) := by
  intro k
  induction k with
  | zero => intro _; rw [shr, chP, chC, Nat.mul_comm]
  | succ k ih =>
    intro hk
    have hc := chC_le sg k
    rw [shr, chP, chC]
    by_cases hq : prd sg (k + 1) = true
    · rw [if_pos hq, if_pos hq, if_pos hq, ih (by omega), show 4 - chC sg k = (4 - (1 + chC sg k)) + 1 by omega, Nat.pow_succ, ← Nat.mul_assoc, Nat.mul_div_cancel _ (by decide)]
      generalize 4 ^ (4 - (1 + chC sg k)) = b
      rw [Nat.mul_comm (own sg (k + 1) p s), Nat.mul_assoc, Nat.mul_assoc, Nat.mul_comm b]
    · rw [if_neg hq, if_neg hq, if_neg hq, Nat.mul_comm]
theorem l_chain10 {ns p s : Nat} {sg : Nat → Nat} {mt : Nat → Int32} (hns : ns ≤ 4) (hp : p < 3) (hs : s < 3) (h : ∀ j, j < 4 * ns → mt j = nI (sg j) ∧ sg j ≤ 4) (k48 : Int64 → Int32 → Option Int64) :
    ∀ (i f v c : Nat), i < ns → i + 1 < f → L_X10_sightOf_12 (nI p) (nI s) mt k48 f (lN v) (nI c) (nI i) 1 = k48 (lN (v * chP sg p s i)) (nI (c + chC sg i)) := by
  intro i
  induction i with
  | zero =>
    intro f v c hi hf
    obtain ⟨f, rfl⟩ : ∃ x, f = x + 2 := ⟨f - 2, by omega⟩
    have ho := own_le hi hp hs (fun j h9 => (h j h9).2)
    rw [L_X10_sightOf_12, if_neg ne10, e_own10 hns hi hp hs h, sb, e_pair10 hns hi h, sb, if_neg (prd0 sg), L_X10_sightOf_12, if_pos rfl, nI_l (by omega), lN_mul, nI_1, chP, chC]
  | succ i ih =>
    intro f v c hi hf
    obtain ⟨f, rfl⟩ : ∃ x, f = x + 1 := ⟨f - 1, by omega⟩
    have ho := own_le hi hp hs (fun j h9 => (h j h9).2)
    rw [L_X10_sightOf_12, if_neg ne10, e_own10 hns hi hp hs h, sb, e_pair10 hns hi h, sb, nI_l (by omega), lN_mul, nI_1, pk_m1, chP, chC]
    by_cases hq : prd sg (i + 1) = true
    · rw [if_pos hq, if_pos hq, if_pos hq, ih f _ _ (by omega) (by omega), Nat.mul_assoc, Nat.add_assoc]
    · obtain ⟨f, rfl⟩ : ∃ x, f = x + 1 := ⟨f - 1, by omega⟩
      rw [if_neg hq, if_neg hq, if_neg hq, L_X10_sightOf_12, if_pos rfl]
theorem l_fours10 : ∀ (r c f v : Nat), c + r = 4 → r < f → L_X10_sightOf_52 f (lN v) (nI c) = some (lN (v * 4 ^ r)) := by
  intro r
  induction r with
  | zero =>
    intro c f v hc hf
    obtain ⟨f, rfl⟩ : ∃ x, f = x + 1 := ⟨f - 1, by omega⟩
    rw [L_X10_sightOf_52, if_pos (show (4 : Int32) ≤ nI c from nI_le (a := 4) (b := c) (by omega) (by omega)), Nat.pow_zero, Nat.mul_one]
  | succ r ih =>
    intro c f v hc hf
    obtain ⟨f, rfl⟩ : ∃ x, f = x + 1 := ⟨f - 1, by omega⟩
    rw [L_X10_sightOf_52, if_neg (show ¬ (4 : Int32) ≤ nI c from nI_ge (a := c) (b := 4) (by omega) (by omega)), m4N, nI_1, ih (c + 1) f _ (by omega) (by omega), Nat.pow_succ, Nat.mul_assoc, Nat.mul_comm 4]
theorem e_shr10 {ns k p s : Nat} {sg : Nat → Nat} {mt : Nat → Int32} (hns : ns ≤ 4) (hk : k < ns) (hp : p < 3) (hs : s < 3) (h : ∀ j, j < 4 * ns → mt j = nI (sg j) ∧ sg j ≤ 4) : F_X10_sightOf (nI k) (nI p) (nI s) mt = some (lN (shr sg p s k)) := by
  have hc := chC_le sg k
  have h1 := l_chain10 hns hp hs h (fun (x4_48 : Int64) (x6_48 : Int32) => L_X10_sightOf_52 5000 x4_48 x6_48) k 5000 1 0 hk (by omega)
  have h2 := l_fours10 (4 - chC sg k) (0 + chC sg k) 5000 (1 * chP sg p s k) (by omega) (by omega)
  rw [F_X10_sightOf, jn, shr_ch sg p s k (by omega), ← Nat.one_mul (chP sg p s k)]
  exact h1.trans h2
def sgt (cc u : Nat → Nat) (sg : Nat → Nat) (k : Nat) : Nat := tot (nxt cc (fun p s => shr sg p s k) u)
theorem l_sgt9 {ns k : Nat} {sg cc W : Nat → Nat} {cs : Nat → Int32} (hns : ns ≤ 4) (hk : k < ns) (h : ∀ j, j < 4 * ns → cs j = nI (sg j) ∧ sg j ≤ 4) {ca st : Nat → Int64} (hA : LW st (fun s => W s * (4 - cc s))) (hB : LW ca (cmg cc W)) (f : Nat) (hf : 4 ≤ f) : L_X5_sightings_5 (nI k) cs ca st f (lN 0) (nI 0) = some (lN (sgt cc W sg k)) := by
  obtain ⟨f, rfl⟩ : ∃ x, f = x + 4 := ⟨f - 4, by omega⟩
  have b := fun (p s : Nat) (hp : p < 3) (hs : s < 3) => shr_le hp hs (fun j h9 => (h j h9).2) k hk
  have step : ∀ s, s < 3 → ∀ f acc, L_X5_sightings_5 (nI k) cs ca st (f + 1) (lN acc) (nI s) = L_X5_sightings_5 (nI k) cs ca st f (lN (acc + nxt cc (fun p s => shr sg p s k) W s)) (nI (s + 1)) := by
    intro s hs f acc
    have b1 := b s s hs hs
    have b2 := b (s - 1) s (by omega) hs
    rw [L_X5_sightings_5, if_neg (show ¬ (3 : Int32) ≤ nI s from nI_ge (a := s) (b := 3) hs (by decide)), lat3 hs, sb, e_shr9 hns hk hs hs h, sb, lat3 hs, sb, sm1 s hs, e_shr9 hns hk (by omega) hs h, sb, hA s hs, hB s hs, nI_l (n := shr sg s s k) (by omega), nI_l (n := shr sg (s - 1) s k) (by omega), lN_mul, lN_mul, lN_add, lN_add, nI_1, nxt, Nat.add_assoc]
  rw [step 0 (by decide), step (0 + 1) (by decide), step (0 + 1 + 1) (by decide), L_X5_sightings_5, if_pos (show (3 : Int32) ≤ nI (0 + 1 + 1 + 1) by decide), Nat.zero_add]
  rfl
theorem e_sgt9 {ns k : Nat} {sg cc W : Nat → Nat} {cs : Nat → Int32} (hns : ns ≤ 4) (hk : k < ns) (h : ∀ j, j < 4 * ns → cs j = nI (sg j) ∧ sg j ≤ 4) {ca st : Nat → Int64} (hA : LW st (fun s => W s * (4 - cc s))) (hB : LW ca (cmg cc W)) : F_X5_sightings (nI k) cs ca st = some (lN (sgt cc W sg k)) := by
  rw [F_X5_sightings]
  exact l_sgt9 hns hk h hA hB 5000 (by decide)
theorem sgt_g (g : Nat) (cc u sg : Nat → Nat) (k : Nat) : sgt cc (fun j => g * u j) sg k = g * sgt cc u sg k := by
  rw [sgt, show nxt cc (fun p s => shr sg p s k) (fun j => g * u j) = fun j => g * nxt cc (fun p s => shr sg p s k) u j from funext (nxt_mul g cc _ u), tot_mul, sgt]
/-- the next day, as it is in the class -/
theorem e_next9 {nw m : Nat} (hm : m < 64) (hnw : nw ≤ 5) {lg wn : Nat → Nat} {lt cn : Nat → Int32} (hl : ∀ j, j < 3 → lt j = nI (lg j) ∧ lg j ≤ 4) (hw : ∀ j, j < nw → cn j = nI (wn j) ∧ wn j ≤ 4) {ca st : Nat → Int64} {W : Nat → Nat} (h : SLP ca st W) (hW : tot W ≤ 2 ^ 50) (t0 : Int64) (c s : Nat → Int64) :
    ∃ t' ca' st', F_X9_nextDayCanBe (nI m) t0 c s 0 ca st (nI nw) lt cn = some (if tot (nxt (ccf lg wn nw m) (fun _ _ => 1) W) = 0 then 0 else 1, t', ca', st') ∧ LW st' (fun s => W s * (4 - ccf lg wn nw m s)) ∧ LW ca' (cmg (ccf lg wn nw m) W) := by
  have hq := bsN_le (m := m) (c := 4) (w := wn) (n := nw) (fun j h => (hw j h).2) nw 0 (by omega)
  obtain ⟨c1, s1, g1, g2, g3⟩ := e_take9 h t0 0 c s
  obtain ⟨ca', st', k1, k2, k3⟩ := e_goOn9 (q := bsN m wn nw 0) (by omega) hl (SLP_0 g2 g3) 0
  have key : ∀ f, 2 ≤ f → L_X9_lookAhead_23 1 lt (nI (bsN m wn nw 0)) f 0 0 c1 s1 = some (0 * 4 + lN (W 2 * mn4 (lg 2 + bsN m wn nw 0)), ca', st') := by
    intro f hf
    obtain ⟨f, rfl⟩ : ∃ x, f = x + 2 := ⟨f - 2, by omega⟩
    rw [L_X9_lookAhead_23, if_neg (by decide), k1, sb, L_X9_lookAhead_23, if_pos (by decide)]
  have hN := tot_go (cc := ccf lg wn nw m) (fun s _ => mn4_le _) W
  refine ⟨0 * 4 + lN (W 2 * mn4 (lg 2 + bsN m wn nw 0)), ca', st', ?_, k2, k3⟩
  rw [F_X9_nextDayCanBe, F_X9_lookAhead, e_noiseOf hm hnw (fun j h => (hw j h).1), sb, g1, sb]
  dsimp only
  rw [key 5000 (by decide), sb]
  dsimp only
  rw [e_tot9 (SLP_go (cc := ccf lg wn nw m) k2 k3), sb]
  by_cases h0 : tot (nxt (ccf lg wn nw m) (fun _ _ => 1) W) = 0
  · rw [if_pos ((cmp_le0 (by omega)).mpr h0), if_pos h0]
  · rw [if_neg (fun e => h0 ((cmp_le0 (by omega)).mp e)), if_neg h0]
theorem l_sup10 {ns nw k m : Nat} {lg wn sg u : Nat → Nat} {go no mt wo : Nat → Int32} (hns : ns ≤ 4) (hk : k < ns) (hm : m < 64) (hnw : nw ≤ 5) (hl : ∀ j, j < 3 → go j = nI (lg j) ∧ lg j ≤ 4) (ho : wo 0 = nI nw) (hw : ∀ j, j < nw → no j = nI (wn j) ∧ wn j ≤ 4) (h : ∀ j, j < 4 * ns → mt j = nI (sg j) ∧ sg j ≤ 4) {w : Nat → Int64} (hu : LW w u) (f : Nat) (hf : 4 ≤ f) :
    L_X10_sightUp_10 (nI k) (nI m) go no mt w wo f (lN 0) (nI 0) (lN 0) = some (lN (sgt (ccf lg wn nw m) u sg k), lN (256 * tot (nxt (ccf lg wn nw m) (fun _ _ => 1) u))) := by
  obtain ⟨f, rfl⟩ : ∃ x, f = x + 4 := ⟨f - 4, by omega⟩
  have hc := h_chance10 (m := m) hm hnw hl ho hw
  have x256 : ∀ x, (256 : Int64) * lN x = lN (256 * x) := fun x => lN_mul 256 x
  have step : ∀ s, s < 2 → ∀ f up al, L_X10_sightUp_10 (nI k) (nI m) go no mt w wo (f + 1) (lN up) (nI s) (lN al) = L_X10_sightUp_10 (nI k) (nI m) go no mt w wo f (lN (up + u s * (4 - ccf lg wn nw m s) * shr sg s s k + u s * ccf lg wn nw m s * shr sg s (s + 1) k)) (nI (s + 1)) (lN (al + 256 * u s * (4 - ccf lg wn nw m s) + 256 * u s * ccf lg wn nw m s)) := by
    intro s hs f up al
    obtain ⟨c1, c2⟩ := hc s (by omega)
    rw [L_X10_sightUp_10, if_neg (show ¬ (3 : Int32) ≤ nI s from nI_ge (a := s) (b := 3) (by omega) (by decide)), c1, sb, if_pos (in3 (by omega)), e_shr10 hns hk (by omega) (by omega) h, sb, if_pos (in3 (by omega)), jn, if_neg (show ¬ (2 : Int32) ≤ nI s from nI_ge (a := s) (b := 2) hs (by decide)), if_pos (in3 (by omega)), nI_1, e_shr10 hns hk (by omega) (by omega) h, sb, if_pos (in3 (by omega)), cl3 (by omega), hu s (by omega),
      show (4 : Int32) - nI (ccf lg wn nw m s) = nI (4 - ccf lg wn nw m s) from pk_sub (a := 4) c2, nI_l (n := 4 - ccf lg wn nw m s) (by omega), nI_l (n := ccf lg wn nw m s) (by omega), x256, lN_mul, lN_mul, lN_mul, lN_mul, lN_mul, lN_mul, lN_add, lN_add, lN_add, lN_add]
  have last : ∀ f up al, L_X10_sightUp_10 (nI k) (nI m) go no mt w wo (f + 1) (lN up) (nI 2) (lN al) = L_X10_sightUp_10 (nI k) (nI m) go no mt w wo f (lN (up + u 2 * (4 - ccf lg wn nw m 2) * shr sg 2 2 k)) (nI 3) (lN (al + 256 * u 2 * (4 - ccf lg wn nw m 2))) := by
    intro f up al
    obtain ⟨c1, c2⟩ := hc 2 (by omega)
    rw [L_X10_sightUp_10, if_neg (show ¬ (3 : Int32) ≤ nI 2 by decide), c1, sb, if_pos (in3 (by omega)), e_shr10 hns hk (by omega) (by omega) h, sb, if_pos (in3 (by omega)), jn, if_pos (show (2 : Int32) ≤ nI 2 by decide), nI_1, cl3 (by omega), hu 2 (by omega),
      show (4 : Int32) - nI (ccf lg wn nw m 2) = nI (4 - ccf lg wn nw m 2) from pk_sub (a := 4) c2, nI_l (n := 4 - ccf lg wn nw m 2) (by omega), x256, lN_mul, lN_mul, lN_mul, lN_add, lN_add]
  have n0 : ∀ l : Nat → Nat → Nat, nxt (ccf lg wn nw m) l u 0 = u 0 * (4 - ccf lg wn nw m 0) * l 0 0 := fun l => by rw [nxt, cmg, if_pos rfl, Nat.zero_mul, Nat.add_zero]
  have n1 : ∀ l : Nat → Nat → Nat, nxt (ccf lg wn nw m) l u 1 = u 1 * (4 - ccf lg wn nw m 1) * l 1 1 + u 0 * ccf lg wn nw m 0 * l 0 1 := fun l => rfl
  have n2 : ∀ l : Nat → Nat → Nat, nxt (ccf lg wn nw m) l u 2 = u 2 * (4 - ccf lg wn nw m 2) * l 2 2 + u 1 * ccf lg wn nw m 1 * l 1 2 := fun l => rfl
  rw [step 0 (by decide), step (0 + 1) (by decide), show nI (0 + 1 + 1) = nI 2 from rfl, last, L_X10_sightUp_10, if_pos (show (3 : Int32) ≤ nI 3 by decide), sgt, tot, tot, n0, n1, n2, n0, n1, n2]
  have e1 : 0 + u 0 * (4 - ccf lg wn nw m 0) * shr sg 0 0 k + u 0 * ccf lg wn nw m 0 * shr sg 0 (0 + 1) k + u (0 + 1) * (4 - ccf lg wn nw m (0 + 1)) * shr sg (0 + 1) (0 + 1) k + u (0 + 1) * ccf lg wn nw m (0 + 1) * shr sg (0 + 1) (0 + 1 + 1) k + u 2 * (4 - ccf lg wn nw m 2) * shr sg 2 2 k
      = u 0 * (4 - ccf lg wn nw m 0) * shr sg 0 0 k + (u 1 * (4 - ccf lg wn nw m 1) * shr sg 1 1 k + u 0 * ccf lg wn nw m 0 * shr sg 0 1 k) + (u 2 * (4 - ccf lg wn nw m 2) * shr sg 2 2 k + u 1 * ccf lg wn nw m 1 * shr sg 1 2 k) := by
    rw [show (0 + 1 + 1 : Nat) = 2 from rfl, show (0 + 1 : Nat) = 1 from rfl]; omega
  have e2 : 0 + 256 * u 0 * (4 - ccf lg wn nw m 0) + 256 * u 0 * ccf lg wn nw m 0 + 256 * u (0 + 1) * (4 - ccf lg wn nw m (0 + 1)) + 256 * u (0 + 1) * ccf lg wn nw m (0 + 1) + 256 * u 2 * (4 - ccf lg wn nw m 2)
      = 256 * (u 0 * (4 - ccf lg wn nw m 0) * 1 + (u 1 * (4 - ccf lg wn nw m 1) * 1 + u 0 * ccf lg wn nw m 0 * 1) + (u 2 * (4 - ccf lg wn nw m 2) * 1 + u 1 * ccf lg wn nw m 1 * 1)) := by
    rw [show (0 + 1 : Nat) = 1 from rfl]
    simp only [Nat.mul_one, Nat.mul_assoc, Nat.mul_add, Nat.zero_add]
    omega
  rw [e1, e2]
theorem e_sup10 {ns nw k m : Nat} {lg wn sg u : Nat → Nat} {go no mt wo : Nat → Int32} (hns : ns ≤ 4) (hk : k < ns) (hm : m < 64) (hnw : nw ≤ 5) (hl : ∀ j, j < 3 → go j = nI (lg j) ∧ lg j ≤ 4) (ho : wo 0 = nI nw) (hw : ∀ j, j < nw → no j = nI (wn j) ∧ wn j ≤ 4) (h : ∀ j, j < 4 * ns → mt j = nI (sg j) ∧ sg j ≤ 4) {w : Nat → Int64} (hu : LW w u) (v : Int64) :
    F_X10_sightUp (nI k) (nI m) v go no mt w wo = some (lN (sgt (ccf lg wn nw m) u sg k), lN (256 * tot (nxt (ccf lg wn nw m) (fun _ _ => 1) u))) := by
  rw [F_X10_sightUp]
  exact l_sup10 hns hk hm hnw hl ho hw h hu 5000 (by decide)
