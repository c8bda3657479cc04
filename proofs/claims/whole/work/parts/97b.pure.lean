/-! pure rows: ORDERS, FIRST: the loops of both sides -/
theorem bm1 : ∀ a, a < 16 → ∀ d, d < 4 → nI a ||| ((1 : Int32) <<< (nI d &&& 31)) = nI (a ||| 2 ^ d) := by decide +kernel
theorem bm2 : ∀ m, m < 16 → ∀ S, S < 16 → ((nI m &&& (nI S ^^^ (-1))) = 0 ↔ ∀ t, t < 4 → m.testBit t = true → S.testBit t = true) := by decide +kernel
theorem bm3 : ∀ T, T < 16 → ∀ k, k < 4 → T.testBit k = true → nI T &&& (((1 : Int32) <<< (nI k &&& 31)) ^^^ (-1)) = nI (T - 2 ^ k) := by decide +kernel
theorem bm4 : ∀ T, T < 16 → ∀ k, k < 4 → T.testBit k = false → nI T &&& (((1 : Int32) <<< (nI k &&& 31)) ^^^ (-1)) = nI T := by decide +kernel
/-- both sides' pairs, in numbers -/
def TPR (n ns : Nat) (pa pb : Nat → Nat) (a b : Nat → Int32) : Prop := n ≤ 8 ∧ ∀ j, j < n → a j = nI (pa j) ∧ b j = nI (pb j) ∧ pa j < ns ∧ pb j < ns
/-! the class -/
theorem l_ahead_of {n ns k : Nat} {pa pb : Nat → Nat} {a b : Nat → Int32} (hns : ns ≤ 4) (hk : k < 4) (h : TPR n ns pa pb a b) : ∀ (r i m f : Nat), i + r = n → r < f → m < 16 → (∀ t, t < 4 → (m.testBit t = true ↔ ∃ j, j < i ∧ pb j = k ∧ pa j = t)) →
    ∃ m', L_X7_toldAheadOf_4 (nI k) (nI n) a b f (nI m) (nI i) = some (nI m') ∧ m' < 16 ∧ ∀ t, t < 4 → (m'.testBit t = true ↔ ∃ j, j < n ∧ pb j = k ∧ pa j = t) := by
  obtain ⟨hn, hj⟩ := h
  intro r
  induction r with
  | zero =>
    intro i m f hi hf hm ht
    obtain ⟨f, rfl⟩ : ∃ x, f = x + 1 := ⟨f - 1, by omega⟩
    obtain rfl : i = n := by omega
    exact ⟨m, by rw [L_X7_toldAheadOf_4, if_pos (nI_le (a := i) (b := i) (by omega) (by omega))], hm, ht⟩
  | succ r ih =>
    intro i m f hi hf hm ht
    obtain ⟨f, rfl⟩ : ∃ x, f = x + 1 := ⟨f - 1, by omega⟩
    obtain ⟨g1, g2, g3, g4⟩ := hj i (by omega)
    rw [L_X7_toldAheadOf_4, if_neg (nI_ge (a := i) (b := n) (by omega) (by omega)), at_in (k := i) (n := 8) (by omega) (by decide), sb, g2, jn, nI_1]
    by_cases e : pb i = k
    · rw [if_pos (by rw [e]), at_in (k := i) (n := 8) (by omega) (by decide), sb, g1, bm1 m hm (pa i) (by omega)]
      refine ih (i + 1) _ f (by omega) (by omega) (bt7 m hm (pa i) (by omega) 0 (by decide)).1 (fun t h4 => ?_)
      rw [(bt7 m hm (pa i) (by omega) t h4).2, ht t h4]
      constructor
      · rintro (⟨j, q1, q2, q3⟩ | q)
        · exact ⟨j, by omega, q2, q3⟩
        · exact ⟨i, by omega, e, q.symm⟩
      · rintro ⟨j, q1, q2, q3⟩
        by_cases q : j = i
        · subst q; exact Or.inr q3.symm
        · exact Or.inl ⟨j, by omega, q2, q3⟩
    · rw [if_neg (fun q => e ((nI_eq (a := pb i) (b := k) (by omega) (by omega)).mp q))]
      refine ih (i + 1) m f (by omega) (by omega) hm (fun t h4 => ?_)
      rw [ht t h4]
      constructor
      · rintro ⟨j, q1, q2, q3⟩; exact ⟨j, by omega, q2, q3⟩
      · rintro ⟨j, q1, q2, q3⟩
        by_cases q : j = i
        · subst q; exact absurd q2 e
        · exact ⟨j, by omega, q2, q3⟩
theorem e_ahead_of {n ns k : Nat} {pa pb : Nat → Nat} {a b : Nat → Int32} (hns : ns ≤ 4) (hk : k < 4) (h : TPR n ns pa pb a b) : ∃ m', F_X7_toldAheadOf (nI k) (nI n) a b = some (nI m') ∧ m' < 16 ∧ ∀ t, t < 4 → (m'.testBit t = true ↔ ∃ j, j < n ∧ pb j = k ∧ pa j = t) := by
  rw [F_X7_toldAheadOf]
  exact l_ahead_of hns hk h n 0 0 5000 (by omega) (Nat.lt_of_le_of_lt h.1 (by decide)) (by decide) (fun t _ => by rw [Nat.zero_testBit]; exact ⟨fun q => absurd q (by decide), fun ⟨j, q, _⟩ => absurd q (by omega)⟩)
theorem ahead_p9 {n ns k S T m : Nat} {pa pb : Nat → Nat} (hns : ns ≤ 4) (hp : TOLD n ns pa pb) (hm : m < 16) (hS : S < 16) (ht : ∀ t, t < 4 → (m.testBit t = true ↔ ∃ j, j < n ∧ pb j = k ∧ pa j = t)) (e : T - 2 ^ k = S) : (nI m &&& (nI S ^^^ (-1))) = 0 ↔ P9 n pa pb k T = true := by
  rw [bm2 m hm S hS, P9, decide_eq_true_iff, e]
  constructor
  · intro h j hj hb
    have := hp j hj
    exact h (pa j) (by omega) ((ht (pa j) (by omega)).mpr ⟨j, hj, hb, rfl⟩)
  · intro h t h4 h5
    obtain ⟨j, q1, q2, q3⟩ := (ht t h4).mp h5
    rw [← q3]
    exact h j q1 q2
/-- what a set has got when the sets below S have been gone through, and of S itself the signs below K -/
def prt (P : Nat → Nat → Bool) (ns S K T : Nat) : Nat := if T = 0 then 1 else sumK ns (fun k => if (T.testBit k && P k T) = true then (if T - 2 ^ k < S ∨ (T - 2 ^ k = S ∧ k < K) then fq P ns (T - 2 ^ k) else 0) else 0)
theorem prt_full {P : Nat → Nat → Bool} {ns S T : Nat} (hns : ns ≤ 4) (hT : T < 16) (h : T ≤ S) : prt P ns S 0 T = fq P ns T := by
  rw [prt]
  by_cases h0 : T = 0
  · subst h0; rw [if_pos rfl, fq_0]
  · rw [if_neg h0, fq_eq hns hT (by omega)]
    refine sumK_congr ns (fun k hk => ?_)
    by_cases hb : (T.testBit k && P k T) = true
    · have h1 : T.testBit k = true := by rw [Bool.and_eq_true] at hb; exact hb.1
      have h2 := (bt1 T hT k (by omega) h1).1
      rw [if_pos hb, if_pos hb, if_pos (Or.inl (by omega))]
    · rw [if_neg hb, if_neg hb]
theorem prt_self {P : Nat → Nat → Bool} {ns S K : Nat} (hns : ns ≤ 4) (hT : S < 16) : prt P ns S K S = fq P ns S := by
  rw [← prt_full (P := P) (S := S) hns hT (Nat.le_refl S), prt, prt]
  by_cases h0 : S = 0
  · rw [if_pos h0, if_pos h0]
  · rw [if_neg h0, if_neg h0]
    refine sumK_congr ns (fun k hk => ?_)
    by_cases hb : (S.testBit k && P k S) = true
    · have h1 : S.testBit k = true := by rw [Bool.and_eq_true] at hb; exact hb.1
      have h2 := (bt1 S hT k (by omega) h1).1
      rw [if_pos hb, if_pos hb, if_pos (Or.inl h2), if_pos (Or.inl h2)]
    · rw [if_neg hb, if_neg hb]
theorem prt_next {P : Nat → Nat → Bool} {ns S T : Nat} : prt P ns S ns T = prt P ns (S + 1) 0 T := by
  rw [prt, prt]
  by_cases h0 : T = 0
  · rw [if_pos h0, if_pos h0]
  · rw [if_neg h0, if_neg h0]
    refine sumK_congr ns (fun k hk => ?_)
    by_cases hb : (T.testBit k && P k T) = true
    · rw [if_pos hb, if_pos hb]
      by_cases h1 : T - 2 ^ k < S ∨ (T - 2 ^ k = S ∧ k < ns)
      · rw [if_pos h1, if_pos (by omega)]
      · rw [if_neg h1, if_neg (by omega)]
    · rw [if_neg hb, if_neg hb]
theorem prt_step0 {P : Nat → Nat → Bool} {ns S K T : Nat} (hns : ns ≤ 4) (hK : K < ns) (hT : T < 16) (hS : S < 16) (h : S.testBit K = true ∨ P K (S ||| 2 ^ K) = false ∨ T ≠ S ||| 2 ^ K) : prt P ns S (K + 1) T = prt P ns S K T := by
  rw [prt, prt]
  by_cases h0 : T = 0
  · rw [if_pos h0, if_pos h0]
  · rw [if_neg h0, if_neg h0]
    refine sumK_congr ns (fun k hk => ?_)
    by_cases hb : (T.testBit k && P k T) = true
    · rw [if_pos hb, if_pos hb]
      rw [Bool.and_eq_true] at hb
      obtain ⟨c1, c2, c3, c4⟩ := bt1 T hT k (by omega) hb.1
      have hne : ¬ (T - 2 ^ k = S ∧ k = K) := by
        rintro ⟨q1, rfl⟩
        rw [q1] at c2 c3
        rcases h with h | h | h
        · rw [c2] at h; exact absurd h (by decide)
        · rw [← c3, hb.2] at h; exact absurd h (by decide)
        · exact h c3
      by_cases h1 : T - 2 ^ k < S ∨ (T - 2 ^ k = S ∧ k < K)
      · rw [if_pos h1, if_pos (by omega)]
      · rw [if_neg h1, if_neg (by omega)]
    · rw [if_neg hb, if_neg hb]
theorem prt_step1 {P : Nat → Nat → Bool} {ns S K : Nat} (hns : ns ≤ 4) (hK : K < ns) (hS : S < 16) (h1 : S.testBit K = false) (h2 : P K (S ||| 2 ^ K) = true) : prt P ns S (K + 1) (S ||| 2 ^ K) = prt P ns S K (S ||| 2 ^ K) + fq P ns S := by
  obtain ⟨d1, d2, d3, d4⟩ := bt2 S hS K (by omega) h1
  rw [prt, prt, if_neg (by omega), if_neg (by omega)]
  refine sumK_one (K := K) ns hK (fun k hk hne => ?_) ?_
  · by_cases hb : ((S ||| 2 ^ K).testBit k && P k (S ||| 2 ^ K)) = true
    · rw [if_pos hb, if_pos hb]
      by_cases h5 : (S ||| 2 ^ K) - 2 ^ k < S ∨ ((S ||| 2 ^ K) - 2 ^ k = S ∧ k < K)
      · rw [if_pos h5, if_pos (by omega)]
      · rw [if_neg h5, if_neg (by omega)]
    · rw [if_neg hb, if_neg hb]
  · rw [d3, h2, if_pos (show (true && true) = true from rfl), if_pos (show (true && true) = true from rfl), d2, if_pos (show S < S ∨ (S = S ∧ K < K + 1) from Or.inr ⟨rfl, by omega⟩), if_neg (show ¬ (S < S ∨ (S = S ∧ K < K)) by omega), Nat.zero_add]
theorem l_ord45 {n ns S : Nat} {pa pb : Nat → Nat} {a b : Nat → Int32} (hns : ns ≤ 4) (hS : S < 2 ^ ns) (h : TPR n ns pa pb a b) (hp : TOLD n ns pa pb) (k121 : (Nat → Int32) → Option (Int32 × (Nat → Int32))) :
    ∀ (r K f : Nat) (o : Nat → Int32), K + r = ns → r < f → (∀ T, T < 2 ^ ns → o T = nI (prt (P9 n pa pb) ns S K T)) → ∃ o', L_X7_ordersOf_45 (nI ns) (nI n) a b (nI S) k121 f (nI K) o = k121 o' ∧ ∀ T, T < 2 ^ ns → o' T = nI (prt (P9 n pa pb) ns S ns T) := by
  have h16 : 2 ^ ns ≤ 16 := Nat.pow_le_pow_right (n := 2) (by decide) (show ns ≤ 4 from hns)
  intro r
  induction r with
  | zero =>
    intro K f o hi hf ho
    obtain ⟨f, rfl⟩ : ∃ x, f = x + 1 := ⟨f - 1, by omega⟩
    obtain rfl : K = ns := by omega
    exact ⟨o, by rw [L_X7_ordersOf_45, if_pos (nI_le (a := K) (b := K) (by omega) (by omega))], ho⟩
  | succ r ih =>
    intro K f o hi hf ho
    obtain ⟨f, rfl⟩ : ∃ x, f = x + 1 := ⟨f - 1, by omega⟩
    rw [L_X7_ordersOf_45, if_neg (nI_ge (a := K) (b := ns) (by omega) (by omega)), e_holds (by omega) (by omega), sb, jn, jn, nI_1]
    try dsimp only
    by_cases hb : S.testBit K = true
    · rw [if_pos hb, if_neg n10, jn, if_pos rfl]
      exact ih (K + 1) f o (by omega) (by omega) (fun T hT => by rw [ho T hT, prt_step0 hns (by omega) (by omega) (by omega) (Or.inl hb)])
    · rw [if_neg hb, if_pos p00]
      rw [Bool.not_eq_true] at hb
      obtain ⟨d1, d2, d3, d4⟩ := bt2 S (by omega) K (by omega) hb
      have d5 := bt3 ns hns S hS K (by omega)
      obtain ⟨m, g1, g2, g3⟩ := e_ahead_of (k := K) hns (by omega) h
      have hcond := ahead_p9 (T := S ||| 2 ^ K) hns hp g2 (by omega) g3 d2
      rw [g1, sb]
      by_cases hc : (nI m &&& (nI S ^^^ (-1))) = 0
      · have h9 := hcond.mp hc
        rw [if_pos hc, jn, if_neg n10, bm1 S (by omega) K (by omega), at_in (k := S ||| 2 ^ K) (n := 16) (by omega) (by decide), sb, at_in (k := S) (n := 16) (by omega) (by decide), sb, put_in (k := S ||| 2 ^ K) (n := 16) (by omega) (by decide), sb, ho _ d5, ho S hS, nI_add, prt_self hns (by omega), ← prt_step1 hns (by omega) (by omega) hb h9]
        refine ih (K + 1) f _ (by omega) (by omega) (fun T hT => ?_)
        by_cases e : T = S ||| 2 ^ K
        · subst e; rw [upd_s]
        · rw [upd_n e, ho T hT, prt_step0 hns (by omega) (by omega) (by omega) (Or.inr (Or.inr e))]
      · have h9 : P9 n pa pb K (S ||| 2 ^ K) = false := by
          cases hx : P9 n pa pb K (S ||| 2 ^ K) with
          | false => rfl
          | true => exact absurd (hcond.mpr hx) hc
        rw [if_neg hc, jn, if_pos p00]
        exact ih (K + 1) f o (by omega) (by omega) (fun T hT => by rw [ho T hT, prt_step0 hns (by omega) (by omega) (by omega) (Or.inr (Or.inl h9))])
theorem l_ord35 {n ns : Nat} {pa pb : Nat → Nat} {a b : Nat → Int32} (hns : ns ≤ 4) (h : TPR n ns pa pb a b) (hp : TOLD n ns pa pb) (k127 : (Nat → Int32) → Option (Int32 × (Nat → Int32))) :
    ∀ (r S f : Nat) (o : Nat → Int32), S + r = 2 ^ ns → r < f → (∀ T, T < 2 ^ ns → o T = nI (prt (P9 n pa pb) ns S 0 T)) → ∃ o', L_X7_ordersOf_35 (nI ns) (nI n) a b k127 f (nI S) o = k127 o' ∧ ∀ T, T < 2 ^ ns → o' T = nI (fq (P9 n pa pb) ns T) := by
  have h16 : 2 ^ ns ≤ 16 := Nat.pow_le_pow_right (n := 2) (by decide) (show ns ≤ 4 from hns)
  intro r
  induction r with
  | zero =>
    intro S f o hi hf ho
    obtain ⟨f, rfl⟩ : ∃ x, f = x + 1 := ⟨f - 1, by omega⟩
    exact ⟨o, by rw [L_X7_ordersOf_35, e_setsOf (by omega), sb, if_pos (nI_le (by omega) (by omega))], fun T hT => by rw [ho T hT, prt_full hns (by omega) (by omega)]⟩
  | succ r ih =>
    intro S f o hi hf ho
    obtain ⟨f, rfl⟩ : ∃ x, f = x + 1 := ⟨f - 1, by omega⟩
    obtain ⟨o1, g1, g2⟩ := l_ord45 (S := S) hns (by omega) h hp (fun (a_orderings_121 : Nat → Int32) => L_X7_ordersOf_35 (nI ns) (nI n) a b k127 f (nI S + 1) a_orderings_121) ns 0 5000 o (by omega) (by omega) ho
    obtain ⟨o2, k1, k2⟩ := ih (S + 1) f o1 (by omega) (by omega) (fun T hT => by rw [g2 T hT, prt_next])
    refine ⟨o2, ?_, k2⟩
    rw [L_X7_ordersOf_35, e_setsOf (by omega), sb, if_neg (nI_ge (by omega) (by omega)), jn]
    refine Eq.trans g1 ?_
    rw [nI_1]
    exact k1
theorem prt_0 {P : Nat → Nat → Bool} {ns T : Nat} : prt P ns 0 0 T = if T = 0 then 1 else 0 := by
  rw [prt]
  by_cases h0 : T = 0
  · rw [if_pos h0, if_pos h0]
  · rw [if_neg h0, if_neg h0]
    refine sumK_zero ns (fun k hk => ?_)
    by_cases hb : (T.testBit k && P k T) = true
    · rw [if_pos hb, if_neg (by omega)]
    · rw [if_neg hb]
theorem l_ord2 {ns : Nat} (hns : ns ≤ 4) (k33 : (Nat → Int32) → Option (Int32 × (Nat → Int32))) :
    ∀ (r S f : Nat) (o : Nat → Int32), S + r = 2 ^ ns → r < f → (∀ T, T < S → o T = nI (if T = 0 then 1 else 0)) → ∃ o', L_X7_ordersOf_2 (nI ns) k33 f (nI S) o = k33 o' ∧ ∀ T, T < 2 ^ ns → o' T = nI (if T = 0 then 1 else 0) := by
  have h16 : 2 ^ ns ≤ 16 := Nat.pow_le_pow_right (n := 2) (by decide) (show ns ≤ 4 from hns)
  intro r
  induction r with
  | zero =>
    intro S f o hi hf ho
    obtain ⟨f, rfl⟩ : ∃ x, f = x + 1 := ⟨f - 1, by omega⟩
    exact ⟨o, by rw [L_X7_ordersOf_2, e_setsOf (by omega), sb, if_pos (nI_le (by omega) (by omega))], fun T hT => ho T (by omega)⟩
  | succ r ih =>
    intro S f o hi hf ho
    obtain ⟨f, rfl⟩ : ∃ x, f = x + 1 := ⟨f - 1, by omega⟩
    have step : L_X7_ordersOf_2 (nI ns) k33 (f + 1) (nI S) o = L_X7_ordersOf_2 (nI ns) k33 f (nI (S + 1)) (upd o S (nI (if S = 0 then 1 else 0))) := by
      rw [L_X7_ordersOf_2, e_setsOf (by omega), sb, if_neg (nI_ge (by omega) (by omega)), jn]
      by_cases h0 : S = 0
      · subst h0
        rw [if_pos (show nI 0 = 0 from rfl), if_pos rfl]
        try dsimp only
        rw [put_in (k := 0) (n := 16) (by omega) (by decide), sb, nI_1]; rfl
      · rw [if_neg (nI_ne0 (by omega) (by omega)), if_neg h0]
        try dsimp only
        rw [put_in (k := S) (n := 16) (by omega) (by decide), sb, nI_1]; rfl
    rw [step]
    refine ih (S + 1) f _ (by omega) (by omega) (fun T hT => ?_)
    by_cases e : T = S
    · subst e; rw [upd_s]
    · rw [upd_n e]; exact ho T (by omega)
theorem e_ordersOf {n ns : Nat} {pa pb : Nat → Nat} {a b : Nat → Int32} (hns : ns ≤ 4) (h : TPR n ns pa pb a b) (hp : TOLD n ns pa pb) (o : Nat → Int32) : ∃ o', F_X7_ordersOf (nI ns) (nI n) a b o = some (nI (fq (P9 n pa pb) ns (2 ^ ns - 1)), o') := by
  have h16 : 2 ^ ns ≤ 16 := Nat.pow_le_pow_right (n := 2) (by decide) (show ns ≤ 4 from hns)
  have h0 : 0 < 2 ^ ns := Nat.pow_pos (by decide)
  obtain ⟨o1, g1, g2⟩ := l_ord2 hns (fun (a_orderings_33 : Nat → Int32) => jn (fun (a_orderings_127 : Nat → Int32) => (F_X9_setsOf (nI ns)).bind (fun q132 => (F_X4_at ((q132 - 1)) 16 a_orderings_127).bind (fun q137 => some (q137, a_orderings_127)))) (fun k_127 => L_X7_ordersOf_35 (nI ns) (nI n) a b k_127 5000 0 a_orderings_33)) (2 ^ ns) 0 5000 o (by omega) (by omega) (fun T hT => absurd hT (by omega))
  obtain ⟨o2, k1, k2⟩ := l_ord35 hns h hp (fun (a_orderings_127 : Nat → Int32) => (F_X9_setsOf (nI ns)).bind (fun q132 => (F_X4_at ((q132 - 1)) 16 a_orderings_127).bind (fun q137 => some (q137, a_orderings_127)))) (2 ^ ns) 0 5000 o1 (by omega) (by omega) (fun T hT => by rw [g2 T hT, prt_0])
  refine ⟨o2, ?_⟩
  rw [F_X7_ordersOf, jn]
  refine Eq.trans g1 ?_
  rw [jn]
  refine Eq.trans k1 ?_
  rw [e_setsOf (by omega), sb, show nI (2 ^ ns) - 1 = nI (2 ^ ns - 1) from pk_sub (a := 2 ^ ns) (b := 1) (by omega), at_in (k := 2 ^ ns - 1) (n := 16) (by omega) (by decide), sb, k2 _ (by omega)]
