/-! pure rows: sets of signs, in how many orders -/
def sumK : Nat → (Nat → Nat) → Nat
  | 0, _ => 0
  | n + 1, F => sumK n F + F n
theorem sumK_congr {F G : Nat → Nat} : ∀ n, (∀ k, k < n → F k = G k) → sumK n F = sumK n G := by
  intro n
  induction n with
  | zero => intro _; rfl
  | succ n ih => intro h; rw [sumK, sumK, ih (fun k hk => h k (by omega)), h n (by omega)]
theorem sumK_zero {F : Nat → Nat} : ∀ n, (∀ k, k < n → F k = 0) → sumK n F = 0 := by
  intro n
  induction n with
  | zero => intro _; rfl
  | succ n ih => intro h; rw [sumK, ih (fun k hk => h k (by omega)), h n (by omega)]
theorem sumK_one {F G : Nat → Nat} {K v : Nat} : ∀ n, K < n → (∀ k, k < n → k ≠ K → G k = F k) → G K = F K + v → sumK n G = sumK n F + v := by
  intro n
  induction n with
  | zero => intro h; exact absurd h (by omega)
  | succ n ih =>
    intro h h1 h2
    rw [sumK, sumK]
    by_cases e : n = K
    · subst e
      rw [sumK_congr (F := G) (G := F) n (fun k hk => h1 k (by omega) (by omega)), h2]; omega
    · rw [ih (by omega) (fun k hk => h1 k (by omega)) h2, h1 n (by omega) e]; omega
/-- by sets, in how many orders; P k T: k may be the last of T -/
def tb (P : Nat → Nat → Bool) (ns : Nat) : Nat → Nat → Nat
  | 0, _ => 0
  | n + 1, T => if T < n then tb P ns n T else if n = 0 then 1 else sumK ns (fun k => if (n.testBit k && P k n) = true then tb P ns n (n - 2 ^ k) else 0)
def fq (P : Nat → Nat → Bool) (ns T : Nat) : Nat := tb P ns (T + 1) T
theorem tb_fq (P : Nat → Nat → Bool) (ns : Nat) : ∀ n T, T < n → tb P ns n T = fq P ns T := by
  intro n
  induction n with
  | zero => intro T h; exact absurd h (by omega)
  | succ n ih =>
    intro T h
    by_cases e : T < n
    · rw [tb, if_pos e, ih T e]
    · obtain rfl : T = n := by omega
      rfl
theorem bt1a : ∀ T, T < 16 → ∀ k, k < 4 → T.testBit k = true → T - 2 ^ k < T ∧ (T - 2 ^ k).testBit k = false ∧ T = (T - 2 ^ k) ||| 2 ^ k := by decide +kernel
theorem bt1b : ∀ T, T < 16 → ∀ k, k < 4 → T.testBit k = true → ∀ t, t < 4 → (t = k ∨ (T - 2 ^ k).testBit t = T.testBit t) := by decide +kernel
theorem bt1 : ∀ T, T < 16 → ∀ k, k < 4 → T.testBit k = true → T - 2 ^ k < T ∧ (T - 2 ^ k).testBit k = false ∧ T = (T - 2 ^ k) ||| 2 ^ k ∧ ∀ t, t < 4 → t ≠ k → (T - 2 ^ k).testBit t = T.testBit t :=
  fun T hT k hk h => ⟨(bt1a T hT k hk h).1, (bt1a T hT k hk h).2.1, (bt1a T hT k hk h).2.2, fun t ht e => (bt1b T hT k hk h t ht).resolve_left e⟩
theorem bt2 : ∀ S, S < 16 → ∀ k, k < 4 → S.testBit k = false → (S ||| 2 ^ k) < 16 ∧ (S ||| 2 ^ k) - 2 ^ k = S ∧ (S ||| 2 ^ k).testBit k = true ∧ S < (S ||| 2 ^ k) := by decide +kernel
theorem bt3 : ∀ ns, ns ≤ 4 → ∀ S, S < 2 ^ ns → ∀ k, k < ns → (S ||| 2 ^ k) < 2 ^ ns := by decide +kernel
theorem bt4 : ∀ ns, ns ≤ 4 → ∀ t, t < ns → (2 ^ ns - 1).testBit t = true := by decide
theorem bt5 : ∀ a, a < 16 → ∀ b, b < 16 → (∀ t, t < 4 → a.testBit t = b.testBit t) → a = b := by decide +kernel
theorem bt6 : ∀ ns, ns ≤ 4 → ∀ t, t < 4 → ((2 ^ ns - 1).testBit t = true ↔ t < ns) := by decide
theorem bt7 : ∀ a, a < 16 → ∀ d, d < 4 → ∀ t, t < 4 → (a ||| 2 ^ d) < 16 ∧ ((a ||| 2 ^ d).testBit t = true ↔ a.testBit t = true ∨ t = d) := by decide +kernel
theorem fq_eq {P : Nat → Nat → Bool} {ns T : Nat} (hns : ns ≤ 4) (hT : T < 16) (h0 : 0 < T) : fq P ns T = sumK ns (fun k => if (T.testBit k && P k T) = true then fq P ns (T - 2 ^ k) else 0) := by
  rw [fq, tb, if_neg (by omega), if_neg (by omega)]
  refine sumK_congr ns (fun k hk => ?_)
  try dsimp only
  by_cases h : (T.testBit k && P k T) = true
  · have h1 : T.testBit k = true := by rw [Bool.and_eq_true] at h; exact h.1
    rw [if_pos h, if_pos h, tb_fq P ns T _ (bt1 T hT k (by omega) h1).1]
  · rw [if_neg h, if_neg h]
theorem fq_0 (P : Nat → Nat → Bool) (ns : Nat) : fq P ns 0 = 1 := rfl
/-- what is told, in numbers -/
def TOLD (n ns : Nat) (pa pb : Nat → Nat) : Prop := ∀ j, j < n → pa j < ns ∧ pb j < ns ∧ pa j ≠ pb j
def P9 (n : Nat) (pa pb : Nat → Nat) (k T : Nat) : Bool := decide (∀ j, j < n → pb j = k → (T - 2 ^ k).testBit (pa j) = true)
def P10 (n : Nat) (pa pb : Nat → Nat) (k T : Nat) : Bool := decide (∀ j, j < n → pa j = k → T.testBit (pb j) = false)
def CLO (n : Nat) (pa pb : Nat → Nat) (T : Nat) : Prop := ∀ j, j < n → T.testBit (pb j) = true → T.testBit (pa j) = true
theorem same_orders {n ns : Nat} {pa pb : Nat → Nat} (hns : ns ≤ 4) (hp : TOLD n ns pa pb) : ∀ N T, T < N → T < 2 ^ ns → (CLO n pa pb T → fq (P9 n pa pb) ns T = fq (P10 n pa pb) ns T) ∧ (¬ CLO n pa pb T → fq (P9 n pa pb) ns T = 0) := by
  have h16 : 2 ^ ns ≤ 16 := Nat.pow_le_pow_right (n := 2) (by decide) (show ns ≤ 4 from hns)
  intro N
  induction N with
  | zero => intro T h; exact absurd h (by omega)
  | succ N ih =>
    intro T hT hT2
    by_cases h0 : T = 0
    · subst h0
      refine ⟨fun _ => rfl, fun h => absurd (fun j _ hb => ?_) h⟩
      rw [Nat.zero_testBit] at hb
      exact absurd hb (by decide)
    · rw [fq_eq hns (by omega) (by omega), fq_eq hns (by omega) (by omega)]
      constructor
      · intro hC
        refine sumK_congr ns (fun k hk => ?_)
        try dsimp only
        by_cases hb : T.testBit k = true
        · obtain ⟨b1', b2, b3, b4⟩ := bt1 T (by omega) k (by omega) hb
          have h9 : P9 n pa pb k T = true := by
            rw [P9, decide_eq_true_iff]
            intro j hj e
            have hq := hp j hj
            rw [b4 (pa j) (by omega) (by omega)]
            exact hC j hj (by rw [e]; exact hb)
          obtain ⟨i1, i2⟩ := ih (T - 2 ^ k) (by omega) (by omega)
          rw [hb, h9, if_pos (by decide)]
          by_cases h10 : P10 n pa pb k T = true
          · rw [h10, if_pos (by decide)]
            refine i1 (fun j hj hj2 => ?_)
            have hq := hp j hj
            rw [P10, decide_eq_true_iff] at h10
            have e1 : pb j ≠ k := fun e => by rw [e, b2] at hj2; exact absurd hj2 (by decide)
            rw [b4 (pb j) (by omega) e1] at hj2
            have e2 : pa j ≠ k := fun e => by rw [h10 j hj e] at hj2; exact absurd hj2 (by decide)
            rw [b4 (pa j) (by omega) e2]
            exact hC j hj hj2
          · rw [if_neg (by rw [Bool.true_and]; exact h10)]
            refine i2 (fun hS => h10 ?_)
            rw [P10, decide_eq_true_iff]
            intro j hj e
            have hq := hp j hj
            cases hx : T.testBit (pb j) with
            | false => rfl
            | true =>
              have h5 := hS j hj (by rw [b4 (pb j) (by omega) (by omega)]; exact hx)
              rw [e, b2] at h5
              exact absurd h5 (by decide)
        · rw [Bool.not_eq_true] at hb
          rw [hb, Bool.false_and, Bool.false_and, if_neg (by decide), if_neg (by decide)]
      · intro hC
        refine sumK_zero ns (fun k hk => ?_)
        try dsimp only
        by_cases h : (T.testBit k && P9 n pa pb k T) = true
        · rw [if_pos h]
          rw [Bool.and_eq_true] at h
          obtain ⟨hb, h9⟩ := h
          obtain ⟨b1', b2, b3, b4⟩ := bt1 T (by omega) k (by omega) hb
          rw [P9, decide_eq_true_iff] at h9
          obtain ⟨i1, i2⟩ := ih (T - 2 ^ k) (by omega) (by omega)
          refine i2 (fun hS => hC (fun j hj hj2 => ?_))
          have hq := hp j hj
          by_cases e1 : pb j = k
          · have := h9 j hj e1
            rwa [b4 (pa j) (by omega) (by omega)] at this
          · have := hS j hj (by rw [b4 (pb j) (by omega) e1]; exact hj2)
            by_cases e2 : pa j = k
            · rw [e2]; exact hb
            · rwa [b4 (pa j) (by omega) e2] at this
        · rw [if_neg h]
theorem all_orders {n ns : Nat} {pa pb : Nat → Nat} (hns : ns ≤ 4) (hp : TOLD n ns pa pb) : fq (P9 n pa pb) ns (2 ^ ns - 1) = fq (P10 n pa pb) ns (2 ^ ns - 1) := by
  have h1 : 0 < 2 ^ ns := Nat.pow_pos (by decide)
  exact (same_orders hns hp (2 ^ ns) (2 ^ ns - 1) (by omega) (by omega)).1 (fun j hj _ => bt4 ns hns _ (hp j hj).1)
