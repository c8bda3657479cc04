/-! pure rows: the common divisor -/
def fbn : Nat → Nat
  | 0 => 1
  | 1 => 1
  | k + 2 => fbn (k + 1) + fbn k
def fbp : Nat → Nat × Nat
  | 0 => (1, 1)
  | k + 1 => ((fbp k).2, (fbp k).2 + (fbp k).1)
theorem fbp_ok : ∀ k, fbp k = (fbn k, fbn (k + 1)) := by
  intro k
  induction k with
  | zero => rfl
  | succ k ih => rw [fbp, ih]; rfl
theorem fbn_big : 2 ^ 63 < fbn 99 := by
  have h : fbn 99 = (fbp 99).1 := by rw [fbp_ok]
  rw [h]
  decide +kernel
theorem fbn_pos : ∀ k, 1 ≤ fbn k ∧ 1 ≤ fbn (k + 1) := by
  intro k
  induction k with
  | zero => exact ⟨Nat.le_refl 1, Nat.le_refl 1⟩
  | succ k ih => exact ⟨ih.2, by rw [fbn]; omega⟩
theorem cmp0 {b : Nat} (hb : b < 2 ^ 63) : lg_cmp (lN b) 0 = 0 ↔ b = 0 := by
  constructor
  · intro h
    rcases Nat.eq_zero_or_pos b with q | q
    · exact q
    · rw [lg_cmp, if_pos (show lN b > (0 : Int64) from (pk_lLT (a := 0) (b := b) (by decide) hb).mpr q)] at h
      exact absurd h (by decide)
  · intro h; subst h; decide
theorem lN_ne0 {b : Nat} (hb : b < 2 ^ 63) (h : b ≠ 0) : ¬ lN b = 0 := fun e => h ((pk_lEQ (a := b) (b := 0) hb (by decide)).mp e)
theorem gcd_step (a b : Nat) : Nat.gcd b (a % b) = Nat.gcd a b := by
  rw [Nat.gcd_comm b (a % b), ← Nat.gcd_rec b a, Nat.gcd_comm]
theorem step9 {a b i : Nat} (ha : a < 2 ^ 63) (hb : b < 2 ^ 63) (h : b ≠ 0) (hi : i < 100) (f : Nat) : L_X9_commonDivisor_9 (f + 1) (lN a) (lN b) (nI i) = L_X9_commonDivisor_9 f (lN b) (lN (a % b)) (nI (i + 1)) := by
  rw [L_X9_commonDivisor_9, if_neg (show ¬ (100 : Int32) ≤ nI i from nI_ge (a := i) (b := 100) hi (by decide)), if_neg (fun e => h ((cmp0 hb).mp e)), if_neg (lN_ne0 hb h), pk_lRem ha (Nat.pos_of_ne_zero h) hb, nI_1]
theorem stop9 {a i : Nat} (hi : i < 100) (f : Nat) : L_X9_commonDivisor_9 (f + 1) (lN a) (lN 0) (nI i) = some (lN a) := by
  rw [L_X9_commonDivisor_9, if_neg (show ¬ (100 : Int32) ≤ nI i from nI_ge (a := i) (b := 100) hi (by decide)), if_pos ((cmp0 (b := 0) (by decide)).mpr rfl)]
theorem step10 {a b : Nat} (ha : a < 2 ^ 63) (hb : b < 2 ^ 63) (h : b ≠ 0) (f : Nat) : L_X10_common_6 (f + 1) (lN a) (lN b) = L_X10_common_6 f (lN b) (lN (a % b)) := by
  rw [L_X10_common_6, if_neg (fun e => h ((cmp0 hb).mp e)), if_neg (lN_ne0 hb h), pk_lRem ha (Nat.pos_of_ne_zero h) hb]
theorem stop10 {a : Nat} (f : Nat) : L_X10_common_6 (f + 1) (lN a) (lN 0) = some (lN a) := by
  rw [L_X10_common_6, if_pos ((cmp0 (b := 0) (by decide)).mpr rfl)]
def GP (k : Nat) : Prop := ∀ (a b i f g : Nat), a < 2 ^ 63 → b < 2 ^ 63 → b < fbn k → i + k < 100 → k < f → k < g → L_X9_commonDivisor_9 f (lN a) (lN b) (nI i) = some (lN (Nat.gcd a b)) ∧ L_X10_common_6 g (lN a) (lN b) = some (lN (Nat.gcd a b))
theorem GP_0 {a i f g : Nat} (hi : i < 100) (hf : 0 < f) (hg : 0 < g) : L_X9_commonDivisor_9 f (lN a) (lN 0) (nI i) = some (lN (Nat.gcd a 0)) ∧ L_X10_common_6 g (lN a) (lN 0) = some (lN (Nat.gcd a 0)) := by
  obtain ⟨f, rfl⟩ : ∃ x, f = x + 1 := ⟨f - 1, by omega⟩
  obtain ⟨g, rfl⟩ : ∃ x, g = x + 1 := ⟨g - 1, by omega⟩
  rw [Nat.gcd_zero_right]
  exact ⟨stop9 hi f, stop10 g⟩
theorem GP_all : ∀ k, GP k ∧ GP (k + 1) := by
  intro k
  induction k with
  | zero =>
    have h0 : ∀ j, fbn j = 1 → GP j := by
      intro j hj a b i f g ha hb hbf hi hf hg
      obtain rfl : b = 0 := by omega
      exact GP_0 (by omega) (by omega) (by omega)
    exact ⟨h0 0 rfl, h0 1 rfl⟩
  | succ k ih =>
    refine ⟨ih.2, ?_⟩
    intro a b i f g ha hb hbf hi hf hg
    by_cases h : b = 0
    · subst h; exact GP_0 (by omega) (by omega) (by omega)
    · obtain ⟨f, rfl⟩ : ∃ x, f = x + 1 := ⟨f - 1, by omega⟩
      obtain ⟨g, rfl⟩ : ∃ x, g = x + 1 := ⟨g - 1, by omega⟩
      have hr : a % b < b := Nat.mod_lt a (Nat.pos_of_ne_zero h)
      rw [step9 ha hb h (by omega), step10 ha hb h, ← gcd_step a b]
      by_cases h1 : a % b < fbn (k + 1)
      · exact ih.2 b (a % b) (i + 1) f g hb (by omega) h1 (by omega) (by omega) (by omega)
      · have hp := fbn_pos k
        have h2 : a % b ≠ 0 := by omega
        have hs : b % (a % b) + a % b ≤ b := by
          have e := Nat.div_add_mod b (a % b)
          have d : 1 ≤ b / (a % b) := Nat.div_pos (by omega) (by omega)
          have m := Nat.mul_le_mul_left (a % b) d
          omega
        have hfb : fbn (k + 2) = fbn (k + 1) + fbn k := rfl
        have hbf2 : b < fbn (k + 2) := hbf
        obtain ⟨f, rfl⟩ : ∃ x, f = x + 1 := ⟨f - 1, by omega⟩
        obtain ⟨g, rfl⟩ : ∃ x, g = x + 1 := ⟨g - 1, by omega⟩
        rw [step9 hb (by omega) h2 (by omega), step10 hb (by omega) h2, ← gcd_step b (a % b)]
        exact ih.1 (a % b) (b % (a % b)) (i + 1 + 1) f g (by omega) (by omega) (by omega) (by omega) (by omega) (by omega)
theorem e_gcd9 {a b : Nat} (ha : a < 2 ^ 63) (hb : b < 2 ^ 63) : F_X9_commonDivisor (lN a) (lN b) = some (lN (Nat.gcd a b)) := by
  rw [F_X9_commonDivisor]
  exact ((GP_all 99).1 a b 0 5000 5000 ha hb (Nat.lt_trans hb fbn_big) (by decide) (by decide) (by decide)).1
theorem e_gcd10 {a b : Nat} (ha : a < 2 ^ 63) (hb : b < 2 ^ 63) : F_X10_common (lN a) (lN b) = some (lN (Nat.gcd a b)) := by
  rw [F_X10_common]
  exact ((GP_all 99).1 a b 0 5000 5000 ha hb (Nat.lt_trans hb fbn_big) (by decide) (by decide) (by decide)).2
theorem gcd_lt {a b : Nat} (hb : b < 2 ^ 63) (h : 0 < b) : Nat.gcd a b < 2 ^ 63 := Nat.lt_of_le_of_lt (Nat.le_of_dvd h (Nat.gcd_dvd_right a b)) hb
theorem gcd_ne {a b : Nat} (h : 0 < b) : Nat.gcd a b ≠ 0 := fun e => absurd (Nat.gcd_pos_of_pos_right a h) (by omega)
/-- a fraction in lowest terms, above or below -/
def low (a b : Nat) (p : Int32) : Nat := (if p = 0 then a else b) / Nat.gcd a b
theorem e_low9 {a b : Nat} (ha : a < 2 ^ 63) (hb : b < 2 ^ 63) (h : 0 < b) (p : Int32) : F_X9_inLowestTerms (lN a) (lN b) p = some (lN (low a b p)) := by
  have hg := gcd_lt (a := a) hb h
  have hn := gcd_ne (a := a) h
  rw [F_X9_inLowestTerms, e_gcd9 ha hb, sb, if_neg (fun e => hn ((cmp0 hg).mp e)), jn, low]
  by_cases hp : p = 0
  · rw [if_pos hp, if_pos hp]
    dsimp only
    rw [if_neg (lN_ne0 hg hn), pk_lDiv ha (Nat.pos_of_ne_zero hn) hg]
  · rw [if_neg hp, if_neg hp]
    dsimp only
    rw [if_neg (lN_ne0 hg hn), pk_lDiv hb (Nat.pos_of_ne_zero hn) hg]
theorem e_low10 {a b : Nat} (ha : a < 2 ^ 63) (hb : b < 2 ^ 63) (h : 0 < b) (p : Int32) : F_X10_part (lN a) (lN b) p = some (lN (low a b p)) := by
  have hg := gcd_lt (a := a) hb h
  have hn := gcd_ne (a := a) h
  rw [F_X10_part, e_gcd10 ha hb, sb, low]
  by_cases hp : p = 0
  · rw [if_pos hp, if_pos hp, if_neg (lN_ne0 hg hn), pk_lDiv ha (Nat.pos_of_ne_zero hn) hg]
  · rw [if_neg hp, if_neg hp, if_neg (lN_ne0 hg hn), pk_lDiv hb (Nat.pos_of_ne_zero hn) hg]
