/-! pure rows: houses to boats, in numbers: a code has a digit of four for each house, house 0 the highest -/
/-- what those of r houses from h on weigh that the code sends to boat b -/
def ldN (hp : Nat → Nat) : Nat → Nat → Nat → Nat → Nat
  | 0, _, _, _ => 0
  | r + 1, h, c, b => (if c / 4 ^ r = b then hp h else 0) + ldN hp r (h + 1) (c % 4 ^ r) b
/-- the code sends r houses from h on to boats of the set, each with room for it when it comes -/
def okc (S nb : Nat) (hp : Nat → Nat) : Nat → Nat → (Nat → Nat) → Nat → Bool
  | 0, _, _, _ => true
  | r + 1, h, R, c => (decide (c / 4 ^ r < nb) && S.testBit (c / 4 ^ r) && decide (hp h ≤ R (c / 4 ^ r))) && okc S nb hp r (h + 1) (fun x => if x = c / 4 ^ r then R x - hp h else R x) (c % 4 ^ r)
theorem p4pos (r : Nat) : 0 < 4 ^ r := Nat.pow_pos (by decide)
theorem p4s (r : Nat) : 4 ^ (r + 1) = 4 * 4 ^ r := by rw [Nat.pow_succ, Nat.mul_comm]
theorem c_div {r c : Nat} (h : c < 4 ^ (r + 1)) : c / 4 ^ r < 4 := by
  rw [Nat.div_lt_iff_lt_mul (p4pos r), ← p4s]; exact h
theorem c_mod (r c : Nat) : c % 4 ^ r < 4 ^ r := Nat.mod_lt _ (p4pos r)
theorem ok_iff {S nb nh : Nat} {hp : Nat → Nat} (hpos : ∀ j, j < nh → 1 ≤ hp j) : ∀ r h (R : Nat → Nat) c, h + r = nh → c < 4 ^ r → (okc S nb hp r h R c = true ↔ ∀ b, b < 4 → ldN hp r h c b = 0 ∨ (b < nb ∧ S.testBit b = true ∧ ldN hp r h c b ≤ R b)) := by
  intro r
  induction r with
  | zero => intro h R c _ _; rw [okc]; exact ⟨fun _ b _ => Or.inl rfl, fun _ => rfl⟩
  | succ r ih =>
    intro h R c hh hc
    have h1 := c_div hc
    have h3 := hpos h (by omega)
    have e := ih (h + 1) (fun x => if x = c / 4 ^ r then R x - hp h else R x) (c % 4 ^ r) (by omega) (c_mod r c)
    rw [okc, Bool.and_eq_true, Bool.and_eq_true, Bool.and_eq_true, decide_eq_true_iff, decide_eq_true_iff, e]
    have L : ∀ b, ldN hp (r + 1) h c b = (if c / 4 ^ r = b then hp h else 0) + ldN hp r (h + 1) (c % 4 ^ r) b := fun b => rfl
    revert L h1
    generalize c / 4 ^ r = b0
    intro h1 L
    constructor
    · rintro ⟨⟨⟨a1, a2⟩, a3⟩, a4⟩ b hb
      rw [L]
      by_cases e : b0 = b
      · subst e
        rw [if_pos rfl]
        refine Or.inr ⟨a1, a2, ?_⟩
        rcases a4 b0 hb with z | ⟨_, _, z⟩
        · omega
        · rw [if_pos rfl] at z; omega
      · rw [if_neg e, Nat.zero_add]
        rcases a4 b hb with z | ⟨z1, z2, z3⟩
        · exact Or.inl z
        · rw [if_neg (fun q => e q.symm)] at z3
          exact Or.inr ⟨z1, z2, z3⟩
    · intro q
      have qb := q b0 h1
      rw [L, if_pos rfl] at qb
      rcases qb with z | ⟨z1, z2, z3⟩
      · omega
      · refine ⟨⟨⟨z1, z2⟩, by omega⟩, fun b hb => ?_⟩
        by_cases e : b = b0
        · subst e
          rw [if_pos rfl]
          by_cases w : ldN hp r (h + 1) (c % 4 ^ r) b = 0
          · exact Or.inl w
          · exact Or.inr ⟨z1, z2, by omega⟩
        · have := q b hb
          rw [L, if_neg (fun q => e q.symm), Nat.zero_add] at this
          rw [if_neg e]
          exact this
theorem ld_low (hp : Nat → Nat) (b : Nat) : ∀ r h c, c < 4 ^ (r + 1) → ldN hp (r + 1) h c b = ldN hp r h (c / 4) b + (if c % 4 = b then hp (h + r) else 0) := by
  intro r
  induction r with
  | zero =>
    intro h c hc
    rw [ldN, ldN, ldN, Nat.pow_zero, Nat.div_one, Nat.mod_eq_of_lt (show c < 4 from hc), Nat.add_zero, Nat.add_zero, Nat.zero_add]
  | succ r ih =>
    intro h c hc
    have e1 : c / 4 ^ (r + 1) = c / 4 / 4 ^ r := by rw [p4s, Nat.div_div_eq_div_mul]
    have e2 : c % 4 ^ (r + 1) / 4 = c / 4 % 4 ^ r := by rw [p4s, Nat.mod_mul_right_div_self]
    have e3 : c % 4 ^ (r + 1) % 4 = c % 4 := Nat.mod_mod_of_dvd c ⟨4 ^ r, p4s r⟩
    have e4 : ldN hp (r + 1 + 1) h c b = (if c / 4 ^ (r + 1) = b then hp h else 0) + ldN hp (r + 1) (h + 1) (c % 4 ^ (r + 1)) b := rfl
    have e5 : ldN hp (r + 1) h (c / 4) b = (if c / 4 / 4 ^ r = b then hp h else 0) + ldN hp r (h + 1) (c / 4 % 4 ^ r) b := rfl
    rw [e4, ih (h + 1) _ (c_mod (r + 1) c), e5, e1, e2, e3, show h + 1 + r = h + (r + 1) by omega, Nat.add_assoc]
/-- the same, the last house first -/
def dsN (hp : Nat → Nat) (b : Nat) : Nat → Nat → Nat
  | 0, _ => 0
  | k + 1, v => (if v % 4 = b then hp k else 0) + dsN hp b k (v / 4)
theorem ds_ld (hp : Nat → Nat) (b : Nat) : ∀ k v, v < 4 ^ k → dsN hp b k v = ldN hp k 0 v b := by
  intro k
  induction k with
  | zero => intro v _; rfl
  | succ k ih =>
    intro v hv
    have h4 : v / 4 < 4 ^ k := by rw [Nat.div_lt_iff_lt_mul (by decide), Nat.mul_comm, ← p4s]; exact hv
    rw [dsN, ih _ h4, ld_low hp b k 0 v hv, Nat.zero_add, Nat.add_comm]
theorem ld_le {hp : Nat → Nat} {nh : Nat} (h9 : ∀ j, j < nh → hp j ≤ 9) (b : Nat) : ∀ r h c, h + r = nh → ldN hp r h c b ≤ 9 * r := by
  intro r
  induction r with
  | zero => intro h c _; rw [ldN]; omega
  | succ r ih =>
    intro h c hh
    have h1 := ih (h + 1) (c % 4 ^ r) (by omega)
    have h2 := h9 h (by omega)
    rw [ldN]
    by_cases e : c / 4 ^ r = b
    · rw [if_pos e]; omega
    · rw [if_neg e]; omega
theorem ld_ex {hp : Nat → Nat} {r h c : Nat} (hc : c < 4 ^ (r + 1)) (h1 : 1 ≤ hp h) : ∃ b, b < 4 ∧ 0 < ldN hp (r + 1) h c b :=
  ⟨c / 4 ^ r, c_div hc, by rw [ldN, if_pos rfl]; omega⟩
theorem cat_div {r b c0 : Nat} (h : c0 < 4 ^ r) : (b * 4 ^ r + c0) / 4 ^ r = b ∧ (b * 4 ^ r + c0) % 4 ^ r = c0 := by
  rw [Nat.add_comm]
  refine ⟨?_, ?_⟩
  · rw [Nat.add_mul_div_right _ _ (p4pos r), Nat.div_eq_of_lt h, Nat.zero_add]
  · rw [Nat.add_mul_mod_self_right, Nat.mod_eq_of_lt h]
theorem cat_dig {r k b c0 : Nat} (hk : k < r) : (b * 4 ^ r + c0) / 4 ^ k % 4 = c0 / 4 ^ k % 4 := by
  obtain ⟨i, rfl⟩ : ∃ i, r = k + (i + 1) := ⟨r - k - 1, by omega⟩
  have e : b * 4 ^ (k + (i + 1)) = b * 4 ^ i * 4 * 4 ^ k := by
    rw [Nat.pow_add, p4s, Nat.mul_comm (4 ^ k), ← Nat.mul_assoc, Nat.mul_comm 4, ← Nat.mul_assoc]
  rw [e, Nat.add_comm, Nat.add_mul_div_right _ _ (p4pos k), Nat.add_mul_mod_self_right]
/-- a code's boats; does all fit -/
def useK (hp : Nat → Nat) (nh c : Nat) : Nat → Nat
  | 0 => 0
  | b + 1 => useK hp nh c b ||| (if 0 < ldN hp nh 0 c b then 2 ^ b else 0)
def useN (hp : Nat → Nat) (nh c : Nat) : Nat := useK hp nh c 4
theorem use_k (hp : Nat → Nat) (nh c : Nat) : ∀ b, b ≤ 4 → useK hp nh c b < 16 ∧ ∀ t, t < 4 → ((useK hp nh c b).testBit t = true ↔ t < b ∧ 0 < ldN hp nh 0 c t) := by
  intro b
  induction b with
  | zero => intro _; exact ⟨by rw [useK]; decide, fun t _ => by rw [useK, Nat.zero_testBit]; exact ⟨fun q => absurd q (by decide), fun q => absurd q.1 (by omega)⟩⟩
  | succ b ih =>
    intro hb
    obtain ⟨i1, i2⟩ := ih (by omega)
    rw [useK]
    by_cases h : 0 < ldN hp nh 0 c b
    · rw [if_pos h]
      refine ⟨(bt7 _ i1 b (by omega) 0 (by decide)).1, fun t ht => ?_⟩
      rw [(bt7 _ i1 b (by omega) t ht).2, i2 t ht]
      constructor
      · rintro (⟨q1, q2⟩ | rfl)
        · exact ⟨by omega, q2⟩
        · exact ⟨by omega, h⟩
      · rintro ⟨q1, q2⟩
        by_cases e : t = b
        · exact Or.inr e
        · exact Or.inl ⟨by omega, q2⟩
    · rw [if_neg h, Nat.or_zero]
      refine ⟨i1, fun t ht => ?_⟩
      rw [i2 t ht]
      constructor
      · rintro ⟨q1, q2⟩; exact ⟨by omega, q2⟩
      · rintro ⟨q1, q2⟩
        by_cases e : t = b
        · subst e; exact absurd q2 h
        · exact ⟨by omega, q2⟩
theorem use_lt (hp : Nat → Nat) (nh c : Nat) : useN hp nh c < 16 := (use_k hp nh c 4 (by decide)).1
theorem use_bit (hp : Nat → Nat) (nh c : Nat) : ∀ t, t < 4 → ((useN hp nh c).testBit t = true ↔ 0 < ldN hp nh 0 c t) := fun t ht => ((use_k hp nh c 4 (by decide)).2 t ht).trans ⟨fun q => q.2, fun q => ⟨ht, q⟩⟩
def FIT (nb : Nat) (br hp : Nat → Nat) (nh c : Nat) : Prop := ∀ t, t < 4 → ldN hp nh 0 c t = 0 ∨ (t < nb ∧ ldN hp nh 0 c t ≤ br t)
theorem oks_iff {S nb nh c : Nat} {br hp : Nat → Nat} (hpos : ∀ j, j < nh → 1 ≤ hp j) (hc : c < 4 ^ nh) : okc S nb hp nh 0 br c = true ↔ FIT nb br hp nh c ∧ ∀ t, t < 4 → (useN hp nh c).testBit t = true → S.testBit t = true := by
  rw [ok_iff hpos nh 0 br c (by omega) hc]
  constructor
  · intro q
    refine ⟨fun t ht => ?_, fun t ht h => ?_⟩
    · rcases q t ht with z | ⟨z1, z2, z3⟩
      · exact Or.inl z
      · exact Or.inr ⟨z1, z3⟩
    · have h5 := (use_bit hp nh c t ht).mp h
      rcases q t ht with z | ⟨z1, z2, z3⟩
      · omega
      · exact z2
  · rintro ⟨q1, q2⟩ t ht
    rcases q1 t ht with z | ⟨z1, z2⟩
    · exact Or.inl z
    · by_cases e : ldN hp nh 0 c t = 0
      · exact Or.inl e
      · exact Or.inr ⟨z1, q2 t ht ((use_bit hp nh c t ht).mpr (by omega)), z2⟩
/-- how many boats, and the lowest set of several -/
def pcN (s : Nat) : Nat := (if s.testBit 0 = true then 1 else 0) + (if s.testBit 1 = true then 1 else 0) + (if s.testBit 2 = true then 1 else 0) + (if s.testBit 3 = true then 1 else 0)
def keyN (s : Nat) : Nat := 16 * pcN s + s
theorem key_sub : ∀ a, a < 16 → ∀ b, b < 16 → (∀ t, t < 4 → a.testBit t = true → b.testBit t = true) → keyN a ≤ keyN b := by decide +kernel
theorem key_inj : ∀ a, a < 16 → ∀ b, b < 16 → keyN a = keyN b → a = b := by decide +kernel
theorem key_lt : ∀ a, a < 16 → ∀ b, b < 16 → (keyN a < keyN b ↔ pcN a < pcN b ∨ (pcN a = pcN b ∧ a < b)) := by decide +kernel
theorem pc_le : ∀ nb, nb ≤ 4 → ∀ s, s < 2 ^ nb → 0 < s → 1 ≤ pcN s ∧ pcN s ≤ nb := by decide +kernel
theorem pow_bits : ∀ nb, nb ≤ 4 → ∀ s, s < 16 → (∀ t, t < 4 → s.testBit t = true → t < nb) → s < 2 ^ nb := by decide +kernel
def RINV (nb : Nat) (br hp : Nat → Nat) (nh C B F : Nat) : Prop := (B = 0 ∧ ∀ c, c < C → ¬ FIT nb br hp nh c) ∨ (F < C ∧ FIT nb br hp nh F ∧ useN hp nh F = B ∧ (∀ c, c < C → FIT nb br hp nh c → keyN B ≤ keyN (useN hp nh c)) ∧ ∀ c, c < F → FIT nb br hp nh c → useN hp nh c ≠ B)
def CRES (nb : Nat) (br hp : Nat → Nat) (nh S c : Nat) : Prop := 0 < S ∧ S < 2 ^ nb ∧ c < 4 ^ nh ∧ okc S nb hp nh 0 br c = true ∧ (∀ c', c' < c → ¬ okc S nb hp nh 0 br c' = true) ∧ ∀ S', 0 < S' → S' < 2 ^ nb → keyN S' < keyN S → ∀ c', c' < 4 ^ nh → ¬ okc S' nb hp nh 0 br c' = true
theorem use_pos {nh c : Nat} {hp : Nat → Nat} (hn : 1 ≤ nh) (hpos : ∀ j, j < nh → 1 ≤ hp j) (hc : c < 4 ^ nh) : 0 < useN hp nh c := by
  obtain ⟨n, rfl⟩ : ∃ n, nh = n + 1 := ⟨nh - 1, by omega⟩
  obtain ⟨b, hb, h1⟩ := ld_ex (hp := hp) (h := 0) hc (hpos 0 (by omega))
  have h2 := (use_bit hp (n + 1) c b hb).mpr h1
  rcases Nat.eq_zero_or_pos (useN hp (n + 1) c) with e | e
  · rw [e, Nat.zero_testBit] at h2; exact absurd h2 (by decide)
  · exact e
theorem use_nb {nb nh c : Nat} {br hp : Nat → Nat} (hnb : nb ≤ 4) (h : FIT nb br hp nh c) : useN hp nh c < 2 ^ nb := by
  refine pow_bits nb hnb _ (use_lt hp nh c) (fun t ht q => ?_)
  have h1 := (use_bit hp nh c t ht).mp q
  rcases h t ht with z | ⟨z, _⟩
  · omega
  · exact z
/-- what both have found is the same -/
theorem same_crew {nb nh S c B F : Nat} {br hp : Nat → Nat} (hnb : nb ≤ 4) (hn : 1 ≤ nh) (hpos : ∀ j, j < nh → 1 ≤ hp j) (hC : CRES nb br hp nh S c) (hR : RINV nb br hp nh (4 ^ nh) B F) : B = S ∧ F = c := by
  obtain ⟨s1, s2, s3, s4, s5, s6⟩ := hC
  have h16 : 2 ^ nb ≤ 16 := Nat.pow_le_pow_right (n := 2) (by decide) (show nb ≤ 4 from hnb)
  obtain ⟨f1, f2⟩ := (oks_iff hpos s3).mp s4
  rcases hR with ⟨r1, r2⟩ | ⟨r1, r2, r3, r4, r5⟩
  · exact absurd f1 (r2 c s3)
  · have u1 := use_lt hp nh F
    have u2 := use_nb hnb r2
    have u3 := use_pos hn hpos r1
    rw [r3] at u1 u2 u3
    have okB : ∀ S', S' = B → okc S' nb hp nh 0 br F = true := fun S' e => (oks_iff hpos r1).mpr ⟨r2, fun t _ q => by rw [e, ← r3]; exact q⟩
    have k1 : ¬ keyN B < keyN S := fun q => s6 B u3 u2 q F r1 (okB B rfl)
    have k2 := r4 c s3 f1
    have k3 := key_sub _ (use_lt hp nh c) S (by omega) f2
    have e1 : B = S := key_inj B u1 S (by omega) (by omega)
    have e2 : useN hp nh c = S := key_inj _ (use_lt hp nh c) S (by omega) (by omega)
    refine ⟨e1, ?_⟩
    have l1 : ¬ F < c := fun q => s5 F q (okB S e1.symm)
    have l2 : ¬ c < F := fun q => r5 c q f1 (by rw [e2, e1])
    omega
theorem no_crew {nb nh B F : Nat} {br hp : Nat → Nat} (hnb : nb ≤ 4) (hn : 1 ≤ nh) (hpos : ∀ j, j < nh → 1 ≤ hp j) (hC : ∀ S', 0 < S' → S' < 2 ^ nb → ∀ c', c' < 4 ^ nh → ¬ okc S' nb hp nh 0 br c' = true) (hR : RINV nb br hp nh (4 ^ nh) B F) : B = 0 := by
  rcases hR with ⟨r1, r2⟩ | ⟨r1, r2, r3, r4, r5⟩
  · exact r1
  · have u2 := use_nb hnb r2
    have u3 := use_pos hn hpos r1
    exact absurd ((oks_iff hpos r1).mpr ⟨r2, fun t _ q => q⟩) (hC _ u3 u2 F r1)
