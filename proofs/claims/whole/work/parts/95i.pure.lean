/-! pure rows: SIGHT, TELLS -/
def adf (a b : Nat) : Nat := (a - b) + (b - a)
theorem lnegT {c : Nat} (h : c < 2 ^ 63) : (-(lN c)).toInt = -(c : Int) := by
  rw [Int64.toInt_neg, pk_lT h]
  exact Int.bmod_eq_of_le (by omega) (by omega)
theorem sub_neg {a b : Nat} (h : a < b) (hb : b < 2 ^ 62) : ¬ (0 : Int64) < lN a - lN b ∧ ¬ (0 : Int32) ≤ lg_cmp (lN a - lN b) 0 ∧ -(lN a - lN b) = lN (b - a) := by
  have e : -(lN a - lN b) = lN (b - a) := by rw [Int64.neg_sub, lN_sub (by omega)]
  have e2 : lN a - lN b = -(lN (b - a)) := by rw [← e, Int64.neg_neg]
  have t : (lN a - lN b).toInt = -((b - a : Nat) : Int) := by rw [e2, lnegT (by omega)]
  have h0 : ¬ (0 : Int64) < lN a - lN b := fun q => by
    have := Int64.lt_iff_toInt_lt.mp q
    rw [t, show (0 : Int64).toInt = 0 from rfl] at this
    omega
  have h1 : ¬ lN a - lN b = 0 := fun q => by
    rw [q, show (0 : Int64).toInt = 0 from rfl] at t
    omega
  exact ⟨h0, by rw [lg_cmp, if_neg h0, if_neg h1]; decide, e⟩
theorem e_abs9 {a b : Nat} (ha : a < 2 ^ 62) (hb : b < 2 ^ 62) : (if 0 < lN a - lN b then lN a - lN b else -(lN a - lN b)) = lN (adf a b) := by
  rw [adf]
  by_cases h : a < b
  · rw [if_neg (sub_neg h hb).1, (sub_neg h hb).2.2, show a - b = 0 by omega, Nat.zero_add]
  · rw [lN_sub (by omega)]
    by_cases h2 : b < a
    · rw [if_pos (show (0 : Int64) < lN (a - b) from (pk_lLT (a := 0) (b := a - b) (by decide) (by omega)).mpr (by omega)), show b - a = 0 by omega, Nat.add_zero]
    · obtain rfl : a = b := by omega
      rw [Nat.sub_self]; decide
theorem e_abs10 {O : Type} {a b : Nat} (ha : a < 2 ^ 62) (hb : b < 2 ^ 62) (K : Int64 → Option O) : jn K (fun k => (if 0 ≤ lg_cmp (lN a - lN b) 0 then k (lN a - lN b) else k (-(lN a - lN b)))) = K (lN (adf a b)) := by
  rw [adf, jn]
  by_cases h : a < b
  · rw [if_neg (sub_neg h hb).2.1, (sub_neg h hb).2.2, show a - b = 0 by omega, Nat.zero_add]
  · rw [lN_sub (by omega), if_pos (show 0 ≤ lg_cmp (lN (a - b)) 0 from (cmp_ge (a := a - b) (b := 0) (by omega) (by decide)).mpr (by omega)), show b - a = 0 by omega, Nat.add_zero]
theorem adf_g (g a b : Nat) : adf (g * a) (g * b) = g * adf a b := by rw [adf, adf, Nat.mul_add, Nat.mul_sub, Nat.mul_sub]
theorem nxt_g (g : Nat) (cc u : Nat → Nat) : tot (nxt cc (fun _ _ => 1) (fun j => g * u j)) = g * tot (nxt cc (fun _ _ => 1) u) := by
  rw [show nxt cc (fun _ _ => 1) (fun j => g * u j) = fun j => g * nxt cc (fun _ _ => 1) u j from funext (nxt_mul g cc _ u), tot_mul]
theorem sgt_le {ns k : Nat} {sg cc : Nat → Nat} (hk : k < ns) (h : ∀ j, j < 4 * ns → sg j ≤ 4) (hc : ∀ s, s < 3 → cc s ≤ 4) (u : Nat → Nat) : sgt cc u sg k ≤ 1024 * tot u :=
  nxt_le (L := 256) hc (fun p s hp hs => shr_le hp hs h k hk) u
theorem bd1024 {g x T : Nat} (r3 : g * T ≤ 2 ^ 50) (h : x ≤ 1024 * T) : g * x ≤ 2 ^ 60 := by
  have h1 := Nat.mul_le_mul_left g h
  have h2 : g * (1024 * T) = 1024 * (g * T) := Nat.mul_left_comm _ _ _
  omega
theorem fw_sight (x y z : Int32) {n ns nw : Nat} {lg wn sgn sd wd : Nat → Nat} {d sc wc : Int32} {da wa dy sn wk lt cs cn go no m2 mt wo : Nat → Int32} (hD : DYH n ns nw sd wd d da wa dy sn wk) (hT : TWH ns nw lg wn sgn sc wc lt cs cn go no m2 mt wo) (ft t al : Int64) (fc fs ca st th w : Nat → Int64) :
    ∃ o1 o2, F_X9_sight x y z d da wa ft fc fs t ca st sc wc lt cs cn = some o1 ∧ F_X10_sight x y z al dy go no sn m2 th mt w wk wo = some o2 ∧ o1.1 = o2.1 := by
  have hT' := hT
  obtain ⟨hns1, hns, hnw, hsc, hwc, h2, ho, hl, hs, hw⟩ := hT'
  have hp := pow6 nw (by omega)
  have e0 := e_isSign ns x m2 h2
  have e1 : F_X9_isSet y wc = some (win y 0 (nI (2 ^ nw) - 1)) := by rw [hwc]; exact e_isSet (by omega) y
  have e2 := e_areWorks (n := nw) (by omega) y wo ho
  rw [show F_X9_sight x y z d da wa ft fc fs t ca st sc wc lt cs cn = F_X9_sight x y z d da wa ft fc fs t ca st (nI ns) wc lt cs cn by rw [hsc]]
  rcases win_c x 0 (nI ns - 1) with hw1 | ⟨hw1, a1, a2⟩
  · exact ⟨_, _, by rw [F_X9_sight, e_within, hw1, b0], by rw [F_X10_sight, e0, hw1, b0], rfl⟩
  rcases win_c y 0 (nI (2 ^ nw) - 1) with hw2 | ⟨hw2, c1, c2⟩
  · exact ⟨_, _, by rw [F_X9_sight, e_within, hw1, b1, e1, hw2, b0], by rw [F_X10_sight, e0, hw1, b1, e2, hw2, b0], rfl⟩
  rcases win_c z 0 1 with hw3 | ⟨hw3, d1, d2⟩
  · exact ⟨_, _, by rw [F_X9_sight, e_within, hw1, b1, e1, hw2, b1, e_within, hw3, b0], by rw [F_X10_sight, e0, hw1, b1, e2, hw2, b1, e_in, hw3, b0], rfl⟩
  obtain ⟨k, hk, rfl⟩ := rng (by omega) a1 a2
  obtain ⟨m, hm, rfl⟩ := rng (by omega) c1 c2
  by_cases h0 : tot (dW lg wn sgn nw ns sd wd n) = 0
  · obtain ⟨ca1, st1, g1⟩ := can9_0 hD hT h0 t ca st
    obtain ⟨th1, w1, k1⟩ := find10_0 hD hT h0 th w
    rw [hsc] at g1
    refine ⟨(-4, ft, fc, fs, 0, ca1, st1), (-4, al, th1, w1), ?_, ?_, rfl⟩
    · rw [F_X9_sight, e_within, hw1, b1, e1, hw2, b1, e_within, hw3, b1, g1, sb, if_pos rfl]
    · rw [F_X10_sight, e0, hw1, b1, e2, hw2, b1, e_in, hw3, b1, k1, sb, if_pos rfl]
  · obtain ⟨ca1, st1, g1, g2⟩ := can9_1 hD hT h0 t ca st
    obtain ⟨th1, w1, k1, k2⟩ := find10_1 hD hT h0 th w
    obtain ⟨r1, r2, r3, r4⟩ := red_b (dW_le hD hT) h0
    have hb := dW_le hD hT
    rw [hsc] at g1
    have htm := tot_mul (gg (dW lg wn sgn nw ns sd wd n)) (red (dW lg wn sgn nw ns sd wd n))
    revert g2 k2 r1 r2 r3 r4 htm
    generalize gg (dW lg wn sgn nw ns sd wd n) = g
    generalize red (dW lg wn sgn nw ns sd wd n) = u
    intro g2 k2 r1 r2 r3 r4 htm
    obtain ⟨t2, ca2, st2, n1, n2, n3⟩ := e_next9 (m := m) (by omega) hnw (fun j h => (hl j h).1) (fun j h => (hw j h).1) g2 (by omega) ft fc fs
    have p1 := e_sgt9 (k := k) (sg := sgn) hns (by omega) (fun j h => (hs j h).1) n2 n3
    have p2 := e_tot9 (SLP_go (cc := ccf lg wn nw m) n2 n3)
    have p3 := e_sup10 (k := k) (m := m) (sg := sgn) hns (by omega) (by omega) hnw (fun j h => (hl j h).2) ho (fun j h => (hw j h).2) (fun j h => (hs j h).2) k2 al
    have q1 := sgt_le (k := k) (ns := ns) (by omega) (fun j h => (hs j h).1.2) (cc := ccf lg wn nw m) (fun s _ => mn4_le _) u
    have q2 := tot_go (cc := ccf lg wn nw m) (fun s _ => mn4_le _) u
    rw [nxt_g] at n1 p2
    rw [sgt_g] at p1
    have q3 := bd1024 (g := g) (x := sgt (ccf lg wn nw m) u sgn k) r3 q1
    have q4 := bd1024 (g := g) (x := 256 * tot (nxt (ccf lg wn nw m) (fun _ _ => 1) u)) r3 (by omega)
    have q5 : g * tot (nxt (ccf lg wn nw m) (fun _ _ => 1) u) * 256 = g * (256 * tot (nxt (ccf lg wn nw m) (fun _ _ => 1) u)) := by rw [Nat.mul_assoc, Nat.mul_comm _ 256]
    revert n1 p1 p2 p3 q1 q2 q3 q4 q5
    generalize sgt (ccf lg wn nw m) u sgn k = U
    generalize tot (nxt (ccf lg wn nw m) (fun _ _ => 1) u) = N
    intro n1 p1 p2 p3 q1 q2 q3 q4 q5
    by_cases hN : N = 0
    · refine ⟨(-4, t2, ca2, st2, 0, ca1, st1), (-4, lN (256 * N), th1, w1), ?_, ?_, rfl⟩
      · rw [F_X9_sight, e_within, hw1, b1, e1, hw2, b1, e_within, hw3, b1, g1, sb, if_neg ne10]
        dsimp only
        rw [hwc, n1, sb, if_pos (show g * N = 0 by rw [hN, Nat.mul_zero]), if_pos rfl]
      · rw [F_X10_sight, e0, hw1, b1, e2, hw2, b1, e_in, hw3, b1, k1, sb, if_neg ne10]
        dsimp only
        rw [p3, sb, if_pos ((cmp0 (by omega)).mpr (by omega))]
    · have hgN : g * N ≠ 0 := Nat.mul_ne_zero (by omega) hN
      refine ⟨(lN (low U (256 * N) z), t2, ca2, st2, 0, ca1, st1), (lN (low U (256 * N) z), lN (256 * N), th1, w1), ?_, ?_, rfl⟩
      · rw [F_X9_sight, e_within, hw1, b1, e1, hw2, b1, e_within, hw3, b1, g1, sb, if_neg ne10]
        dsimp only
        rw [hwc, n1, sb, if_neg hgN, if_neg ne10]
        dsimp only
        rw [p1, sb, p2, sb, show lN (g * N) * 256 = lN (g * N * 256) from lN_mul _ 256, q5, e_low9 (by omega) (by omega) (by omega), sb, low_mul r1]
      · rw [F_X10_sight, e0, hw1, b1, e2, hw2, b1, e_in, hw3, b1, k1, sb, if_neg ne10]
        dsimp only
        rw [p3, sb, if_neg (fun e => absurd ((cmp0 (by omega)).mp e) (by omega))]
        dsimp only
        rw [e_low10 (by omega) (by omega) (by omega), sb]
theorem l_tells {ns nw m g N : Nat} {lg wn sgn u : Nat → Nat} {cs go no m2 mt wo : Nat → Int32} (hns : ns ≤ 4) (hm : m < 64) (hnw : nw ≤ 5) (hl : ∀ j, j < 3 → go j = nI (lg j) ∧ lg j ≤ 4) (h2 : m2 0 = nI ns) (ho : wo 0 = nI nw) (hw : ∀ j, j < nw → no j = nI (wn j) ∧ wn j ≤ 4) (hs : ∀ j, j < 4 * ns → (cs j = nI (sgn j) ∧ sgn j ≤ 4) ∧ (mt j = nI (sgn j) ∧ sgn j ≤ 4))
    {ca st w : Nat → Int64} (hA : LW st (fun s => (fun j => g * u j) s * (4 - ccf lg wn nw m s))) (hB : LW ca (cmg (ccf lg wn nw m) (fun j => g * u j))) (hu : LW w u) (r1 : 0 < g) (r3 : g * tot u ≤ 2 ^ 50) (hN : N = tot (nxt (ccf lg wn nw m) (fun _ _ => 1) u)) (hN0 : N ≠ 0)
    (q17 q25 : Int32 × Int64 × (Nat → Int64) × (Nat → Int64)) (q11 : Int32 × (Nat → Int64) × (Nat → Int64)) :
    ∀ (r i b f e : Nat) (sa : Int64), i + r = ns → b < ns → r < f → r < e →
    ∃ b' sa', L_X9_tells_45 (nI ns) cs q17 q25 f (nI b) (lN (g * adf (2 * sgt (ccf lg wn nw m) u sgn b) (256 * N))) (nI i) ca st = some (nI b', q25.2.1, ca, st, q17.2.1, q17.2.2.1, q17.2.2.2) ∧
      L_X10_tells_28 (nI m) go no m2 mt wo q11 e (nI b) (lN (adf (2 * sgt (ccf lg wn nw m) u sgn b) (256 * N))) (nI i) sa w = some (nI b', sa', q11.2.1, w) := by
  have h2' : m2 (Int32.toNatClampNeg 0) = nI ns := h2
  have q2 := tot_go (cc := ccf lg wn nw m) (fun s _ => mn4_le _) u
  have q4 := bd1024 (g := g) (x := 256 * N) r3 (by omega)
  have q6 := Nat.le_mul_of_pos_left (256 * N) r1
  have bU : ∀ k, k < ns → g * (2 * sgt (ccf lg wn nw m) u sgn k) ≤ 2 ^ 61 ∧ 2 * sgt (ccf lg wn nw m) u sgn k ≤ 2 ^ 61 ∧ adf (2 * sgt (ccf lg wn nw m) u sgn k) (256 * N) < 2 ^ 63 ∧ g * adf (2 * sgt (ccf lg wn nw m) u sgn k) (256 * N) < 2 ^ 63 := by
    intro k hk
    have q1 := sgt_le (k := k) (ns := ns) hk (fun j h => (hs j h).1.2) (cc := ccf lg wn nw m) (fun s _ => mn4_le _) u
    have q3 := bd1024 (g := g) (x := sgt (ccf lg wn nw m) u sgn k) r3 q1
    have q5 : g * (2 * sgt (ccf lg wn nw m) u sgn k) = 2 * (g * sgt (ccf lg wn nw m) u sgn k) := Nat.mul_left_comm _ _ _
    have q7 := Nat.le_mul_of_pos_left (2 * sgt (ccf lg wn nw m) u sgn k) r1
    have q8 := adf_g g (2 * sgt (ccf lg wn nw m) u sgn k) (256 * N)
    rw [← q8, adf, adf]
    omega
  intro r
  induction r with
  | zero =>
    intro i b f e sa hi hb hf he
    obtain ⟨f, rfl⟩ : ∃ x, f = x + 1 := ⟨f - 1, by omega⟩
    obtain ⟨e, rfl⟩ : ∃ x, e = x + 1 := ⟨e - 1, by omega⟩
    exact ⟨b, sa, by rw [L_X9_tells_45, if_pos (nI_le (a := ns) (b := i) (by omega) (by omega))], by rw [L_X10_tells_28, h2', if_pos (nI_le (a := ns) (b := i) (by omega) (by omega))]⟩
  | succ r ih =>
    intro i b f e sa hi hb hf he
    obtain ⟨f, rfl⟩ : ∃ x, f = x + 1 := ⟨f - 1, by omega⟩
    obtain ⟨e, rfl⟩ : ∃ x, e = x + 1 := ⟨e - 1, by omega⟩
    have bi := bU i (by omega)
    have bb := bU b hb
    have p1 := e_sgt9 (k := i) (sg := sgn) hns (by omega) (fun j h => (hs j h).1) hA hB
    have p2 := e_tot9 (SLP_go (cc := ccf lg wn nw m) hA hB)
    have p3 := e_sup10 (k := i) (m := m) (sg := sgn) hns (by omega) (by omega) hnw hl ho hw (fun j h => (hs j h).2) hu sa
    rw [nxt_g, ← hN] at p2
    rw [sgt_g] at p1
    rw [← hN] at p3
    have aw : F_X9_awayFromHalf (nI i) ca st cs = some (lN (g * adf (2 * sgt (ccf lg wn nw m) u sgn i) (256 * N))) := by
      rw [F_X9_awayFromHalf, p1, sb, p2, sb, show (2 : Int64) * lN (g * sgt (ccf lg wn nw m) u sgn i) = lN (2 * (g * sgt (ccf lg wn nw m) u sgn i)) from lN_mul 2 _, show lN (g * N) * 256 = lN (g * N * 256) from lN_mul _ 256, show 2 * (g * sgt (ccf lg wn nw m) u sgn i) = g * (2 * sgt (ccf lg wn nw m) u sgn i) from Nat.mul_left_comm _ _ _, show g * N * 256 = g * (256 * N) by rw [Nat.mul_assoc, Nat.mul_comm _ 256], e_abs9 (by omega) (by omega), adf_g]
    rw [L_X9_tells_45, if_neg (nI_ge (a := i) (b := ns) (by omega) (by omega)), aw, sb, L_X10_tells_28, h2', if_neg (nI_ge (a := i) (b := ns) (by omega) (by omega)), p3, sb]
    dsimp only
    rw [show (2 : Int64) * lN (sgt (ccf lg wn nw m) u sgn i) = lN (2 * sgt (ccf lg wn nw m) u sgn i) from lN_mul 2 _, e_abs10 (by omega) (by omega), jn, jn]
    try dsimp only
    rw [if_neg (fun q => absurd ((cmp_le0 (a := 256 * N) (by omega)).mp q) (by omega)), jn, if_neg (nm4 (by omega)).1, nI_1]
    by_cases hc : adf (2 * sgt (ccf lg wn nw m) u sgn b) (256 * N) ≤ adf (2 * sgt (ccf lg wn nw m) u sgn i) (256 * N)
    · rw [if_pos ((cmp_ge (by omega) (by omega)).mpr (Nat.mul_le_mul_left g hc)), if_pos ((cmp_ge (by omega) (by omega)).mpr hc)]
      exact ih (i + 1) b f e _ (by omega) hb (by omega) (by omega)
    · rw [if_neg (fun q => hc (Nat.le_of_mul_le_mul_left ((cmp_ge (by omega) (by omega)).mp q) r1)), if_neg (fun q => hc ((cmp_ge (by omega) (by omega)).mp q))]
      exact ih (i + 1) i f e _ (by omega) (by omega) (by omega) (by omega)
