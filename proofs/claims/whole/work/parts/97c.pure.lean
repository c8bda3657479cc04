/-! pure rows: ORDERS, FIRST: the reference; the simulation -/
theorem l_last10 {n ns T k : Nat} {pa pb : Nat → Nat} {a b : Nat → Int32} (hns : ns ≤ 4) (hT : T < 16) (hk : k < 4) (h : TPR n ns pa pb a b) (k109 : Int32 → Option (Int32 × (Nat → Int32))) : ∀ (r i f : Nat) (v : Bool), i + r = n → r < f → (v = true ↔ T.testBit k = true ∧ ∀ j, j < i → pa j = k → T.testBit (pb j) = false) →
    L_X10_orders_59 (nI n) a b (nI T) (nI k) k109 f (if v = true then 1 else 0) (nI i) = k109 (if (T.testBit k && P10 n pa pb k T) = true then 1 else 0) := by
  obtain ⟨hn, hj⟩ := h
  intro r
  induction r with
  | zero =>
    intro i f v hi hf hv
    obtain ⟨f, rfl⟩ : ∃ x, f = x + 1 := ⟨f - 1, by omega⟩
    obtain rfl : i = n := by omega
    have e : v = (T.testBit k && P10 i pa pb k T) := by
      rw [Bool.eq_iff_iff, hv, Bool.and_eq_true, P10, decide_eq_true_iff]
    rw [L_X10_orders_59, if_pos (nI_le (a := i) (b := i) (by omega) (by omega)), e]
  | succ r ih =>
    intro i f v hi hf hv
    obtain ⟨f, rfl⟩ : ∃ x, f = x + 1 := ⟨f - 1, by omega⟩
    obtain ⟨g1, g2, g3, g4⟩ := hj i (by omega)
    rw [L_X10_orders_59, if_neg (nI_ge (a := i) (b := n) (by omega) (by omega)), jn, nI_1]
    have no : ¬ (T.testBit k = true ∧ ∀ j, j < i + 1 → pa j = k → T.testBit (pb j) = false) → L_X10_orders_59 (nI n) a b (nI T) (nI k) k109 f 0 (nI (i + 1)) = k109 (if (T.testBit k && P10 n pa pb k T) = true then 1 else 0) := fun q => ih (i + 1) f false (by omega) (by omega) ⟨fun e => absurd e (by decide), fun e => absurd e q⟩
    have yes : (T.testBit k = true ∧ ∀ j, j < i + 1 → pa j = k → T.testBit (pb j) = false) → L_X10_orders_59 (nI n) a b (nI T) (nI k) k109 f 1 (nI (i + 1)) = k109 (if (T.testBit k && P10 n pa pb k T) = true then 1 else 0) := fun q => ih (i + 1) f true (by omega) (by omega) ⟨fun _ => q, fun _ => rfl⟩
    try dsimp only [jn]
    cases v with
    | false =>
      rw [if_neg (show ¬ (false = true) by decide), if_pos rfl]
      exact no (fun q => absurd (hv.mpr ⟨q.1, fun j hj => q.2 j (by omega)⟩) (by decide))
    | true =>
      have hv' := hv.mp rfl
      rw [if_pos (show true = true from rfl), if_neg n10, if_pos (inbT (k := i) (n := 8) (by omega) (by decide)), nI_clamp (n := i) (by omega), g1]
      by_cases e : pa i = k
      · rw [if_pos (by rw [e]), if_pos (inbT (k := i) (n := 8) (by omega) (by decide)), g2, bit_ok T (by omega) (pb i) (by omega)]
        by_cases hb : T.testBit (pb i) = true
        · rw [if_pos hb, if_neg n10]
          refine no (fun q => ?_)
          have := q.2 i (by omega) e
          rw [hb] at this
          exact absurd this (by decide)
        · rw [if_neg hb, if_pos p00]
          refine yes ⟨hv'.1, fun j hj2 hj3 => ?_⟩
          by_cases q : j = i
          · subst q; rwa [Bool.not_eq_true] at hb
          · exact hv'.2 j (by omega) hj3
      · rw [if_neg (fun q => e ((nI_eq (a := pa i) (b := k) (by omega) (by omega)).mp q))]
        refine yes ⟨hv'.1, fun j hj2 hj3 => ?_⟩
        by_cases q : j = i
        · subst q; exact absurd hj3 e
        · exact hv'.2 j (by omega) hj3
/-- what a set has got when its signs below K have been gone through -/
def pul (P : Nat → Nat → Bool) (ns T K : Nat) : Nat := (if T = 0 then 1 else 0) + sumK K (fun k => if (T.testBit k && P k T) = true then fq P ns (T - 2 ^ k) else 0)
theorem pul_full {P : Nat → Nat → Bool} {ns T : Nat} (hns : ns ≤ 4) (hT : T < 16) : pul P ns T ns = fq P ns T := by
  rw [pul]
  by_cases h0 : T = 0
  · subst h0
    rw [if_pos rfl, fq_0, sumK_zero ns (fun k _ => by rw [Nat.zero_testBit, Bool.false_and, if_neg (by decide)])]
  · rw [if_neg h0, fq_eq hns hT (by omega), Nat.zero_add]
theorem l_ord31 {n ns T : Nat} {pa pb : Nat → Nat} {a b m2 : Nat → Int32} (hns : ns ≤ 4) (hT : T < 2 ^ ns) (h : TPR n ns pa pb a b) (h2 : m2 0 = nI ns) (k144 : (Nat → Int32) → Option (Int32 × (Nat → Int32))) :
    ∀ (r K f : Nat) (w : Nat → Int32), K + r = ns → r < f → (∀ X, X < T → w X = nI (fq (P10 n pa pb) ns X)) → w T = nI (pul (P10 n pa pb) ns T K) → ∃ w', L_X10_orders_31 (nI n) a b m2 (nI T) k144 f (nI K) w = k144 w' ∧ ∀ X, X < T + 1 → w' X = nI (fq (P10 n pa pb) ns X) := by
  have h16 : 2 ^ ns ≤ 16 := Nat.pow_le_pow_right (n := 2) (by decide) (show ns ≤ 4 from hns)
  have h2' : m2 (Int32.toNatClampNeg 0) = nI ns := h2
  intro r
  induction r with
  | zero =>
    intro K f w hi hf h0 h1
    obtain ⟨f, rfl⟩ : ∃ x, f = x + 1 := ⟨f - 1, by omega⟩
    obtain rfl : K = ns := by omega
    refine ⟨w, by rw [L_X10_orders_31, h2', if_pos (nI_le (a := K) (b := K) (by omega) (by omega))], fun X hX => ?_⟩
    by_cases e : X = T
    · subst e; rw [h1, pul_full hns (by omega)]
    · exact h0 X (by omega)
  | succ r ih =>
    intro K f w hi hf h0 h1
    obtain ⟨f, rfl⟩ : ∃ x, f = x + 1 := ⟨f - 1, by omega⟩
    have go : ∀ v : Nat, v = (if (T.testBit K && P10 n pa pb K T) = true then fq (P10 n pa pb) ns (T - 2 ^ K) else 0) → ∃ w', L_X10_orders_31 (nI n) a b m2 (nI T) k144 f (nI (K + 1)) (upd w T (w T + nI v)) = k144 w' ∧ ∀ X, X < T + 1 → w' X = nI (fq (P10 n pa pb) ns X) := by
      intro v hv
      refine ih (K + 1) f _ (by omega) (by omega) (fun X hX => by rw [upd_n (by omega)]; exact h0 X hX) ?_
      rw [upd_s, h1, nI_add, hv, pul, pul, sumK, Nat.add_assoc]
    have body : ∀ c : Bool, (c = true ↔ T.testBit K = true) → ∃ w', L_X10_orders_59 (nI n) a b (nI T) (nI K) (fun (x3_109 : Int32) => (if inb (nI T) 16 = true then jn (fun (j0_136 : Int32) => (if inb (nI T) 16 = true then L_X10_orders_31 (nI n) a b m2 (nI T) k144 f (nI K + 1) ((upd w (Int32.toNatClampNeg (nI T)) (((w (Int32.toNatClampNeg (nI T))) + j0_136)))) else none)) (fun k_136 => (if x3_109 = 0 then k_136 0 else (if inb ((nI T &&& (((1 : Int32) <<< (nI K &&& 31)) ^^^ (-1)))) 16 = true then k_136 ((w (Int32.toNatClampNeg ((nI T &&& (((1 : Int32) <<< (nI K &&& 31)) ^^^ (-1))))))) else none))) else none)) 5000 (if c = true then 1 else 0) 0 = k144 w' ∧ ∀ X, X < T + 1 → w' X = nI (fq (P10 n pa pb) ns X) := by
      intro c hc
      have hL := l_last10 (T := T) (k := K) hns (by omega) (by omega) h (fun (x3_109 : Int32) => (if inb (nI T) 16 = true then jn (fun (j0_136 : Int32) => (if inb (nI T) 16 = true then L_X10_orders_31 (nI n) a b m2 (nI T) k144 f (nI K + 1) ((upd w (Int32.toNatClampNeg (nI T)) (((w (Int32.toNatClampNeg (nI T))) + j0_136)))) else none)) (fun k_136 => (if x3_109 = 0 then k_136 0 else (if inb ((nI T &&& (((1 : Int32) <<< (nI K &&& 31)) ^^^ (-1)))) 16 = true then k_136 ((w (Int32.toNatClampNeg ((nI T &&& (((1 : Int32) <<< (nI K &&& 31)) ^^^ (-1))))))) else none))) else none)) n 0 5000 c (by omega) (Nat.lt_of_le_of_lt h.1 (by decide)) ⟨fun q => ⟨hc.mp q, fun j hj => absurd hj (by omega)⟩, fun q => hc.mpr q.1⟩
      by_cases hb : (T.testBit K && P10 n pa pb K T) = true
      · have hb1 : T.testBit K = true := by rw [Bool.and_eq_true] at hb; exact hb.1
        obtain ⟨c1, c2, c3, c4⟩ := bt1 T (by omega) K (by omega) hb1
        obtain ⟨w', q1, q2⟩ := go (fq (P10 n pa pb) ns (T - 2 ^ K)) (by rw [if_pos hb])
        refine ⟨w', ?_, q2⟩
        refine Eq.trans hL ?_
        rw [if_pos hb, if_pos (inbT (k := T) (n := 16) (by omega) (by decide)), jn, if_neg n10, bm3 T (by omega) K (by omega) hb1, if_pos (inbT (k := T - 2 ^ K) (n := 16) (by omega) (by decide)), nI_clamp (n := T - 2 ^ K) (by omega), h0 _ c1]
        dsimp only
        rw [if_pos (inbT (k := T) (n := 16) (by omega) (by decide)), nI_clamp (n := T) (by omega), nI_1]
        exact q1
      · obtain ⟨w', q1, q2⟩ := go 0 (by rw [if_neg hb])
        refine ⟨w', ?_, q2⟩
        refine Eq.trans hL ?_
        rw [if_neg hb, if_pos (inbT (k := T) (n := 16) (by omega) (by decide)), jn, if_pos p00]
        dsimp only
        rw [if_pos (inbT (k := T) (n := 16) (by omega) (by decide)), nI_clamp (n := T) (by omega), nI_1]
        exact q1
    rw [L_X10_orders_31, h2', if_neg (nI_ge (a := K) (b := ns) (by omega) (by omega)), jn, bit_ok T (by omega) K (by omega)]
    by_cases hb : T.testBit K = true
    · rw [if_pos hb, if_pos p11]
      obtain ⟨w', q1, q2⟩ := body true ⟨fun _ => hb, fun _ => rfl⟩
      exact ⟨w', q1, q2⟩
    · rw [if_neg hb, if_neg n01]
      obtain ⟨w', q1, q2⟩ := body false ⟨fun q => absurd q (by decide), fun q => absurd q hb⟩
      exact ⟨w', q1, q2⟩
theorem l_ord10 {n ns : Nat} {pa pb : Nat → Nat} {a b m2 : Nat → Int32} (hns : ns ≤ 4) (h : TPR n ns pa pb a b) (h2 : m2 0 = nI ns) (k150 : (Nat → Int32) → Option (Int32 × (Nat → Int32))) :
    ∀ (r T f : Nat) (w : Nat → Int32), T + r = 2 ^ ns → r < f → (∀ X, X < T → w X = nI (fq (P10 n pa pb) ns X)) → ∃ w', L_X10_orders_2 (nI n) a b m2 k150 f (nI T) w = k150 w' ∧ ∀ X, X < 2 ^ ns → w' X = nI (fq (P10 n pa pb) ns X) := by
  have h16 : 2 ^ ns ≤ 16 := Nat.pow_le_pow_right (n := 2) (by decide) (show ns ≤ 4 from hns)
  have h2' : m2 (Int32.toNatClampNeg 0) = nI ns := h2
  intro r
  induction r with
  | zero =>
    intro T f w hi hf h0
    obtain ⟨f, rfl⟩ : ∃ x, f = x + 1 := ⟨f - 1, by omega⟩
    exact ⟨w, by rw [L_X10_orders_2, h2', shl1 ns (by omega), if_pos (nI_le (by omega) (by omega))], fun X hX => h0 X (by omega)⟩
  | succ r ih =>
    intro T f w hi hf h0
    obtain ⟨f, rfl⟩ : ∃ x, f = x + 1 := ⟨f - 1, by omega⟩
    obtain ⟨w1, g1, g2⟩ := l_ord31 (T := T) hns (by omega) h h2 (fun (a_ways_144 : Nat → Int32) => L_X10_orders_2 (nI n) a b m2 k150 f (nI T + 1) a_ways_144) ns 0 5000 (upd w T (nI (if T = 0 then 1 else 0))) (by omega) (by omega) (fun X hX => by rw [upd_n (by omega)]; exact h0 X hX) (by rw [upd_s, pul, sumK, Nat.add_zero])
    obtain ⟨w2, k1, k2⟩ := ih (T + 1) f w1 (by omega) (by omega) g2
    refine ⟨w2, ?_, k2⟩
    rw [L_X10_orders_2, h2', shl1 ns (by omega), if_neg (nI_ge (by omega) (by omega)), jn]
    rw [nI_1] at g1
    by_cases e : T = 0
    · subst e
      rw [if_pos (show nI 0 = 0 from rfl)]
      try dsimp only
      rw [if_pos (inbT (k := 0) (n := 16) (by omega) (by decide)), jn, nI_1]
      exact g1.trans k1
    · rw [if_neg (nI_ne0 (by omega) (by omega))]
      try dsimp only
      rw [if_pos (inbT (k := T) (n := 16) (by omega) (by decide)), jn, nI_1, nI_clamp (n := T) (by omega)]
      rw [if_neg e] at g1
      exact g1.trans k1
theorem e_orders10 {n ns : Nat} {pa pb : Nat → Nat} {a b m2 : Nat → Int32} (hns : ns ≤ 4) (h : TPR n ns pa pb a b) (h2 : m2 0 = nI ns) (w : Nat → Int32) : ∃ w', F_X10_orders (nI n) a b m2 w = some (nI (fq (P10 n pa pb) ns (2 ^ ns - 1)), w') := by
  have h16 : 2 ^ ns ≤ 16 := Nat.pow_le_pow_right (n := 2) (by decide) (show ns ≤ 4 from hns)
  have h0 : 0 < 2 ^ ns := Nat.pow_pos (by decide)
  have h2' : m2 (Int32.toNatClampNeg 0) = nI ns := h2
  rw [F_X10_orders, jn, h2', shl1 ns (by omega), show nI (2 ^ ns) - 1 = nI (2 ^ ns - 1) from pk_sub (a := 2 ^ ns) (b := 1) (by omega), nI_clamp (n := 2 ^ ns - 1) (by omega)]
  obtain ⟨w1, g1, g2⟩ := l_ord10 hns h h2 (fun (a_ways_150 : Nat → Int32) => (if inb (nI (2 ^ ns - 1)) 16 = true then some ((a_ways_150 (2 ^ ns - 1)), a_ways_150) else none)) (2 ^ ns) 0 5000 w (by omega) (by omega) (fun X hX => absurd hX (by omega))
  refine ⟨w1, g1.trans ?_⟩
  rw [if_pos (inbT (k := 2 ^ ns - 1) (n := 16) (by omega) (by decide)), g2 _ (by omega)]
theorem l_none9 {n ns : Nat} {pa pb : Nat → Nat} {a b : Nat → Int32} (hns : ns ≤ 4) (h : TPR n ns pa pb a b) : ∀ (r k m f : Nat), k + r = ns → r < f → m < 16 → (∀ t, t < 4 → (m.testBit t = true ↔ t < k ∧ ∀ j, j < n → pb j ≠ t)) →
    ∃ m', L_X7_withNoneAhead_4 (nI ns) (nI n) a b f (nI m) (nI k) = some (nI m') ∧ m' < 16 ∧ ∀ t, t < 4 → (m'.testBit t = true ↔ t < ns ∧ ∀ j, j < n → pb j ≠ t) := by
  intro r
  induction r with
  | zero =>
    intro k m f hi hf hm ht
    obtain ⟨f, rfl⟩ : ∃ x, f = x + 1 := ⟨f - 1, by omega⟩
    obtain rfl : k = ns := by omega
    exact ⟨m, by rw [L_X7_withNoneAhead_4, if_pos (nI_le (a := k) (b := k) (by omega) (by omega))], hm, ht⟩
  | succ r ih =>
    intro k m f hi hf hm ht
    obtain ⟨f, rfl⟩ : ∃ x, f = x + 1 := ⟨f - 1, by omega⟩
    obtain ⟨x, g1, g2, g3⟩ := e_ahead_of (k := k) hns (by omega) h
    rw [L_X7_withNoneAhead_4, if_neg (nI_ge (a := k) (b := ns) (by omega) (by omega)), g1, sb, jn, nI_1]
    by_cases e : x = 0
    · subst e
      have hno : ∀ j, j < n → pb j ≠ k := fun j hj q => by
        have := h.2 j hj
        have h4 := (g3 (pa j) (by omega)).mpr ⟨j, hj, q, rfl⟩
        rw [Nat.zero_testBit] at h4
        exact absurd h4 (by decide)
      rw [if_pos (show nI 0 = 0 from rfl), bm1 m hm k (by omega)]
      refine ih (k + 1) _ f (by omega) (by omega) (bt7 m hm k (by omega) 0 (by decide)).1 (fun t h4 => ?_)
      rw [(bt7 m hm k (by omega) t h4).2, ht t h4]
      constructor
      · rintro (⟨q1, q2⟩ | q)
        · exact ⟨by omega, q2⟩
        · subst q; exact ⟨by omega, hno⟩
      · rintro ⟨q1, q2⟩
        by_cases q : t = k
        · exact Or.inr q
        · exact Or.inl ⟨by omega, q2⟩
    · have hex : ∃ t, t < 4 ∧ x.testBit t = true := by
        refine Classical.byContradiction (fun q => e (bt5 x g2 0 (by decide) (fun t h4 => ?_)))
        rw [Nat.zero_testBit]
        cases hx : x.testBit t with
        | false => rfl
        | true => exact absurd ⟨t, h4, hx⟩ q
      obtain ⟨t0, q0, q1⟩ := hex
      obtain ⟨j0, q2, q3, q4⟩ := (g3 t0 q0).mp q1
      rw [if_neg (nI_ne0 (by omega) (by omega))]
      refine ih (k + 1) m f (by omega) (by omega) hm (fun t h4 => ?_)
      rw [ht t h4]
      constructor
      · rintro ⟨c1, c2⟩; exact ⟨by omega, c2⟩
      · rintro ⟨c1, c2⟩
        by_cases q : t = k
        · subst q; exact absurd q3 (c2 j0 q2)
        · exact ⟨by omega, c2⟩
theorem e_none9 {n ns : Nat} {pa pb : Nat → Nat} {a b : Nat → Int32} (hns : ns ≤ 4) (h : TPR n ns pa pb a b) : ∃ m', F_X7_withNoneAhead (nI ns) (nI n) a b = some (nI m') ∧ m' < 16 ∧ ∀ t, t < 4 → (m'.testBit t = true ↔ t < ns ∧ ∀ j, j < n → pb j ≠ t) := by
  rw [F_X7_withNoneAhead]
  exact l_none9 hns h ns 0 0 5000 (by omega) (by omega) (by decide) (fun t _ => by rw [Nat.zero_testBit]; exact ⟨fun q => absurd q (by decide), fun q => absurd q.1 (by omega)⟩)
theorem l_first10 {n ns : Nat} {pa pb : Nat → Nat} {a b : Nat → Int32} (hns : ns ≤ 4) (h : TPR n ns pa pb a b) (q1 : Int32 × (Nat → Int32)) : ∀ (r i m f : Nat), i + r = n → r < f → m < 16 → (∀ t, t < 4 → (m.testBit t = true ↔ t < ns ∧ ∀ j, j < i → pb j ≠ t)) →
    ∃ m', L_X10_first_22 (nI n) b q1 f (nI m) (nI i) = some (nI m', q1.2) ∧ m' < 16 ∧ ∀ t, t < 4 → (m'.testBit t = true ↔ t < ns ∧ ∀ j, j < n → pb j ≠ t) := by
  obtain ⟨hn, hj⟩ := h
  intro r
  induction r with
  | zero =>
    intro i m f hi hf hm ht
    obtain ⟨f, rfl⟩ : ∃ x, f = x + 1 := ⟨f - 1, by omega⟩
    obtain rfl : i = n := by omega
    exact ⟨m, by rw [L_X10_first_22, if_pos (nI_le (a := i) (b := i) (by omega) (by omega))], hm, ht⟩
  | succ r ih =>
    intro i m f hi hf hm ht
    obtain ⟨f, rfl⟩ : ∃ x, f = x + 1 := ⟨f - 1, by omega⟩
    obtain ⟨g1, g2, g3, g4⟩ := hj i (by omega)
    rw [L_X10_first_22, if_neg (nI_ge (a := i) (b := n) (by omega) (by omega)), if_pos (inbT (k := i) (n := 8) (by omega) (by decide)), nI_clamp (n := i) (by omega), g2, nI_1]
    by_cases hb : m.testBit (pb i) = true
    · obtain ⟨c1, c2, c3, c4⟩ := bt1 m hm (pb i) (by omega) hb
      rw [bm3 m hm (pb i) (by omega) hb]
      refine ih (i + 1) _ f (by omega) (by omega) (by omega) (fun t h4 => ?_)
      by_cases q : t = pb i
      · rw [q, c2]
        exact ⟨fun e => absurd e (by decide), fun e => absurd rfl (e.2 i (by omega))⟩
      · rw [c4 t h4 q, ht t h4]
        constructor
        · rintro ⟨e1, e2⟩
          refine ⟨e1, fun j hj => ?_⟩
          by_cases w : j = i
          · subst w; exact fun z => q z.symm
          · exact e2 j (by omega)
        · rintro ⟨e1, e2⟩; exact ⟨e1, fun j hj => e2 j (by omega)⟩
    · rw [Bool.not_eq_true] at hb
      rw [bm4 m hm (pb i) (by omega) hb]
      refine ih (i + 1) _ f (by omega) (by omega) hm (fun t h4 => ?_)
      rw [ht t h4]
      constructor
      · rintro ⟨e1, e2⟩
        refine ⟨e1, fun j hj => ?_⟩
        by_cases w : j = i
        · subst w
          intro z
          have := (ht t h4).mpr ⟨e1, e2⟩
          rw [← z, hb] at this
          exact absurd this (by decide)
        · exact e2 j (by omega)
      · rintro ⟨e1, e2⟩; exact ⟨e1, fun j hj => e2 j (by omega)⟩
theorem tpr_of {ns : Nat} {tp mp : Int32} {ta tb ma mb : Nat → Int32} (hns : ns ≤ 4) (h : RTold ns tp ta tb mp ma mb) : ∃ n pa pb, tp = nI n ∧ mp = nI n ∧ TPR n ns pa pb ta tb ∧ TPR n ns pa pb ma mb ∧ TOLD n ns pa pb := by
  obtain ⟨n, hn, h1, h2, hj⟩ := h
  have key : ∀ j, j < n → (ta j = nI (ta j).toNatClampNeg ∧ tb j = nI (tb j).toNatClampNeg ∧ (ta j).toNatClampNeg < ns ∧ (tb j).toNatClampNeg < ns ∧ (ta j).toNatClampNeg ≠ (tb j).toNatClampNeg) := by
    intro j hjn
    obtain ⟨e1, e2, p, q, hp, hq, hpq, e3, e4⟩ := hj j hjn
    have t1 : (ta j).toNatClampNeg = p := by rw [e3]; exact nI_clamp (by omega)
    have t2 : (tb j).toNatClampNeg = q := by rw [e4]; exact nI_clamp (by omega)
    rw [t1, t2]
    exact ⟨e3, e4, hp, hq, hpq⟩
  refine ⟨n, fun j => (ta j).toNatClampNeg, fun j => (tb j).toNatClampNeg, h1, h2, ⟨hn, fun j hjn => ?_⟩, ⟨hn, fun j hjn => ?_⟩, fun j hjn => ?_⟩
  · exact ⟨(key j hjn).1, (key j hjn).2.1, (key j hjn).2.2.1, (key j hjn).2.2.2.1⟩
  · rw [← (hj j hjn).1, ← (hj j hjn).2.1]
    exact ⟨(key j hjn).1, (key j hjn).2.1, (key j hjn).2.2.1, (key j hjn).2.2.2.1⟩
  · exact ⟨(key j hjn).2.2.1, (key j hjn).2.2.2.1, (key j hjn).2.2.2.2⟩
theorem fw_orders {ns : Nat} {sc tp mp : Int32} {ta tb ma mb m2 : Nat → Int32} (hns : ns ≤ 4) (hs : sc = nI ns) (h2 : m2 0 = nI ns) (h : RTold ns tp ta tb mp ma mb) (o w : Nat → Int32) : ∃ o1 o2, F_X9_orders tp ta tb o sc = some o1 ∧ F_X10_orders mp ma mb m2 w = some o2 ∧ o1.1 = o2.1 := by
  obtain ⟨n, pa, pb, rfl, rfl, t9, t10, hp⟩ := tpr_of hns h
  subst hs
  obtain ⟨o', g1⟩ := e_ordersOf hns t9 hp o
  obtain ⟨w', g2⟩ := e_orders10 hns t10 h2 w
  exact ⟨(_, o'), (_, w'), by rw [F_X9_orders, g1, sb], g2, by rw [all_orders hns hp]⟩
theorem fw_first {ns : Nat} {sc tp mp : Int32} {ta tb ma mb m2 : Nat → Int32} (hns : ns ≤ 4) (hs : sc = nI ns) (h2 : m2 0 = nI ns) (h : RTold ns tp ta tb mp ma mb) (o w : Nat → Int32) : ∃ o1 o2, F_X9_first tp ta tb o sc = some o1 ∧ F_X10_first mp ma mb m2 w = some o2 ∧ o1.1 = o2.1 := by
  obtain ⟨n, pa, pb, rfl, rfl, t9, t10, hp⟩ := tpr_of hns h
  subst hs
  have h16 : 2 ^ ns ≤ 16 := Nat.pow_le_pow_right (n := 2) (by decide) (show ns ≤ 4 from hns)
  have h0 : 0 < 2 ^ ns := Nat.pow_pos (by decide)
  have h2' : m2 (Int32.toNatClampNeg 0) = nI ns := h2
  obtain ⟨o', g1⟩ := e_ordersOf hns t9 hp o
  obtain ⟨w', g2⟩ := e_orders10 hns t10 h2 w
  rw [all_orders hns hp] at g1
  by_cases e : nI (fq (P10 n pa pb) ns (2 ^ ns - 1)) = 0
  · exact ⟨(0, o'), (0, w'), by rw [F_X9_first, g1, sb, if_pos e], by rw [F_X10_first, g2, sb, if_pos e], rfl⟩
  · obtain ⟨m1, k1, k2, k3⟩ := e_none9 hns t9
    obtain ⟨m2', n1, n2, n3⟩ := l_first10 hns t10 (nI (fq (P10 n pa pb) ns (2 ^ ns - 1)), w') n 0 (2 ^ ns - 1) 5000 (by omega) (Nat.lt_of_le_of_lt t10.1 (by decide)) (by omega) (fun t h4 => by rw [bt6 ns hns t h4]; exact ⟨fun q => ⟨q, fun j hj => absurd hj (by omega)⟩, fun q => q.1⟩)
    have e12 : m1 = m2' := bt5 m1 k2 m2' n2 (fun t h4 => by rw [Bool.eq_iff_iff, k3 t h4, n3 t h4])
    refine ⟨(nI m1, o'), (nI m2', w'), ?_, ?_, by rw [e12]⟩
    · rw [F_X9_first, g1, sb, if_neg e, k1, sb]
    · rw [F_X10_first, g2, sb, if_neg e, h2', shl1 ns (by omega), show nI (2 ^ ns) - 1 = nI (2 ^ ns - 1) from pk_sub (a := 2 ^ ns) (b := 1) (by omega)]
      exact n1
theorem sim_orders : ∀ (σ μ : SS), Rel σ μ → ∃ q r, SX_orders σ = some q ∧ SM_orders μ = some r ∧ q.1 = r.1 ∧ Rel q.2 r.2 := by
  intro σ μ ⟨ns, nw, nh, nb, tc, bd, lg, sg, wn, wg, hp, hm, br, hT, hS, hW, hH, hB, hC, hD, hK, hA⟩
  obtain ⟨o1, o2, e1, e2, e3⟩ := fw_orders hS.2.1 hS.2.2.1 hS.2.2.2.1 hA (σ.2.1 24) (μ.2.1 20)
  exact ⟨_, _, sx_of e1, sx_of e2, e3, ns, nw, nh, nb, tc, bd, lg, sg, wn, wg, hp, hm, br, hT, hS, hW, hH, hB, hC, hD, hK, hA⟩
theorem sim_first : ∀ (σ μ : SS), Rel σ μ → ∃ q r, SX_first σ = some q ∧ SM_first μ = some r ∧ q.1 = r.1 ∧ Rel q.2 r.2 := by
  intro σ μ ⟨ns, nw, nh, nb, tc, bd, lg, sg, wn, wg, hp, hm, br, hT, hS, hW, hH, hB, hC, hD, hK, hA⟩
  obtain ⟨o1, o2, e1, e2, e3⟩ := fw_first hS.2.1 hS.2.2.1 hS.2.2.2.1 hA (σ.2.1 24) (μ.2.1 20)
  exact ⟨_, _, sx_of e1, sx_of e2, e3, ns, nw, nh, nb, tc, bd, lg, sg, wn, wg, hp, hm, br, hT, hS, hW, hH, hB, hC, hD, hK, hA⟩
