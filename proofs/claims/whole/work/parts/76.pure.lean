/-! pure rows: DRIFT -/
def dst (e f : Nat) (u : Nat → Nat) (j : Nat) : Nat := u j * (4 - e - f) + (if j = 0 then 0 else u (j - 1)) * e + (if j = 12 then 0 else u (j + 1)) * f
def dit (e f : Nat) : Nat → (Nat → Nat) → Nat → Nat
  | 0, u => u
  | n + 1, u => dit e f n (dst e f u)
theorem dst_le {e f B : Nat} (hef : e + f ≤ 4) {u : Nat → Nat} (hu : ∀ j, j < 13 → u j ≤ B) : ∀ j, j < 13 → dst e f u j ≤ B * 4 := by
  intro j hj
  have h1 := Nat.mul_le_mul_right (4 - e - f) (hu j hj)
  have h2 : (if j = 0 then 0 else u (j - 1)) ≤ B := by
    by_cases h : j = 0
    · rw [if_pos h]; exact Nat.zero_le _
    · rw [if_neg h]; exact hu _ (by omega)
  have h3 : (if j = 12 then 0 else u (j + 1)) ≤ B := by
    by_cases h : j = 12
    · rw [if_pos h]; exact Nat.zero_le _
    · rw [if_neg h]; exact hu _ (by omega)
  have h4 := Nat.mul_le_mul_right e h2
  have h5 := Nat.mul_le_mul_right f h3
  have h6 : B * (4 - e - f) + B * e + B * f = B * 4 := by rw [← Nat.mul_add, ← Nat.mul_add]; congr 1; omega
  rw [dst]
  omega
theorem dexp {a b c : Nat} {e f : Nat} (he : e + f ≤ 4) : nI a * ((4 - nI e) - nI f) + nI b * nI e + nI c * nI f = nI (a * (4 - e - f) + b * e + c * f) := by
  rw [show (4 : Int32) - nI e = nI (4 - e) from pk_sub (a := 4) (b := e) (by omega), pk_sub (by omega), pk_mul, pk_mul, pk_mul, nI_add, nI_add]
theorem l_night {e f : Nat} (hef : e + f ≤ 4) {w : Nat → Int32} {u : Nat → Nat} (hw : ∀ j, j < 13 → w j = nI (u j)) (k : (Nat → Int32) → Option ((Nat → Int32) × (Nat → Int32))) : ∀ (r i g : Nat) (a : Nat → Int32), i + r = 13 → r < g → (∀ j, j < i → a j = nI (dst e f u j)) → ∃ a', L_X2_passNight_2 (nI e) (nI f) w k g (nI i) a = k a' ∧ ∀ j, j < 13 → a' j = nI (dst e f u j) := by
  intro r
  induction r with
  | zero =>
    intro i g a hi hg ha
    obtain ⟨g, rfl⟩ : ∃ x, g = x + 1 := ⟨g - 1, by omega⟩
    obtain rfl : i = 13 := by omega
    exact ⟨a, by rw [L_X2_passNight_2, if_pos (by decide)], ha⟩
  | succ r ih =>
    intro i g a hi hg ha
    obtain ⟨g, rfl⟩ : ∃ x, g = x + 1 := ⟨g - 1, by omega⟩
    have w1 : F_X2_waysTo (nI i) w = some (nI (u i)) := by rw [F_X2_waysTo, at_in (k := i) (n := 13) (by omega) (by decide), sb, hw i (by omega)]
    have w2 : F_X2_waysTo (nI i - 1) w = some (nI (if i = 0 then 0 else u (i - 1))) := by
      by_cases h : i = 0
      · subst h; rw [F_X2_waysTo, at_neg (by decide), sb, if_pos rfl]; rfl
      · rw [F_X2_waysTo, show nI i - 1 = nI (i - 1) from pk_sub (a := i) (b := 1) (by omega), at_in (k := i - 1) (n := 13) (by omega) (by decide), sb, hw _ (by omega), if_neg h]
    have w3 : F_X2_waysTo (nI i + 1) w = some (nI (if i = 12 then 0 else u (i + 1))) := by
      rw [F_X2_waysTo, nI_1]
      by_cases h : i = 12
      · subst h; rw [at_out (k := 12 + 1) (n := 13) (by omega) (by decide), sb, if_pos rfl]; rfl
      · rw [at_in (k := i + 1) (n := 13) (by omega) (by decide), sb, hw _ (by omega), if_neg h]
    obtain ⟨a', g1, g2⟩ := ih (i + 1) g (upd a i (nI (dst e f u i))) (by omega) (by omega) (fun j hj => by
      by_cases h : j = i
      · subst h; exact upd_s _ _ _
      · rw [upd_n h]; exact ha j (by omega))
    refine ⟨a', ?_, g2⟩
    rw [L_X2_passNight_2, if_neg (show ¬ (13 : Int32) ≤ nI i from nI_ge (a := i) (b := 13) (by omega) (by decide)), w1, sb, w2, sb, w3, sb, dexp hef, put_in (k := i) (n := 13) (by omega) (by decide), sb, nI_1]
    exact g1
theorem l_night2 {v : Nat → Nat} {b : Nat → Int32} (hb : ∀ j, j < 13 → b j = nI (v j)) : ∀ (r i g : Nat) (a : Nat → Int32), i + r = 13 → r < g → (∀ j, j < i → a j = nI (v j)) → ∃ a', L_X2_passNight_59 b g (nI i) a = some (a', b) ∧ ∀ j, j < 13 → a' j = nI (v j) := by
  intro r
  induction r with
  | zero =>
    intro i g a hi hg ha
    obtain ⟨g, rfl⟩ : ∃ x, g = x + 1 := ⟨g - 1, by omega⟩
    obtain rfl : i = 13 := by omega
    exact ⟨a, by rw [L_X2_passNight_59, if_pos (by decide)], ha⟩
  | succ r ih =>
    intro i g a hi hg ha
    obtain ⟨g, rfl⟩ : ∃ x, g = x + 1 := ⟨g - 1, by omega⟩
    obtain ⟨a', g1, g2⟩ := ih (i + 1) g (upd a i (nI (v i))) (by omega) (by omega) (fun j hj => by
      by_cases h : j = i
      · subst h; exact upd_s _ _ _
      · rw [upd_n h]; exact ha j (by omega))
    refine ⟨a', ?_, g2⟩
    rw [L_X2_passNight_59, if_neg (show ¬ (13 : Int32) ≤ nI i from nI_ge (a := i) (b := 13) (by omega) (by decide)), at_in (k := i) (n := 13) (by omega) (by decide), sb, put_in (k := i) (n := 13) (by omega) (by decide), sb, nI_1, hb i (by omega)]
    exact g1
theorem e_night {e f : Nat} (hef : e + f ≤ 4) {w : Nat → Int32} {u : Nat → Nat} (hw : ∀ j, j < 13 → w j = nI (u j)) (a : Nat → Int32) : ∃ w' a', F_X2_passNight (nI e) (nI f) w a = some (w', a') ∧ ∀ j, j < 13 → w' j = nI (dst e f u j) := by
  rw [F_X2_passNight, jn]
  obtain ⟨b, g1, g2⟩ := l_night hef hw (fun a_waysLater_57 => L_X2_passNight_59 a_waysLater_57 5000 0 w) 13 0 5000 a (by omega) (by omega) (fun j h => absurd h (by omega))
  obtain ⟨w', g3, g4⟩ := l_night2 g2 13 0 5000 w (by omega) (by omega) (fun j h => absurd h (by omega))
  exact ⟨w', b, g1.trans g3, g4⟩
def din (j : Nat) : Nat := if j = 6 then 1 else 0
theorem l_ini (k : (Nat → Int32) → Option ((Nat → Int32) × (Nat → Int32))) : ∀ (r i g : Nat) (a : Nat → Int32), i + r = 13 → r < g → (∀ j, j < i → a j = nI (din j)) → ∃ a', L_X2_pass_3 k g (nI i) a = k a' ∧ ∀ j, j < 13 → a' j = nI (din j) := by
  intro r
  induction r with
  | zero =>
    intro i g a hi hg ha
    obtain ⟨g, rfl⟩ : ∃ x, g = x + 1 := ⟨g - 1, by omega⟩
    obtain rfl : i = 13 := by omega
    exact ⟨a, by rw [L_X2_pass_3, if_pos (by decide)], ha⟩
  | succ r ih =>
    intro i g a hi hg ha
    obtain ⟨g, rfl⟩ : ∃ x, g = x + 1 := ⟨g - 1, by omega⟩
    obtain ⟨a', g1, g2⟩ := ih (i + 1) g (upd a i (nI (din i))) (by omega) (by omega) (fun j hj => by
      by_cases h : j = i
      · subst h; exact upd_s _ _ _
      · rw [upd_n h]; exact ha j (by omega))
    refine ⟨a', ?_, g2⟩
    rw [L_X2_pass_3, if_neg (show ¬ (13 : Int32) ≤ nI i from nI_ge (a := i) (b := 13) (by omega) (by decide)), jn, nI_1]
    by_cases h : i = 6
    · subst h
      rw [if_pos (show nI 6 = 6 from rfl)]
      dsimp only
      rw [put_in (k := 6) (n := 13) (by omega) (by decide), sb]
      exact g1
    · rw [if_neg (show ¬ nI i = 6 from fun e => h ((nI_eq (a := i) (b := 6) (by omega) (by decide)).mp e))]
      dsimp only
      rw [put_in (k := i) (n := 13) (by omega) (by decide), sb]
      rw [din, if_neg h] at g1
      exact g1
theorem l_pass {e f n : Nat} (hef : e + f ≤ 4) (hn : n ≤ 6) : ∀ (r i g : Nat) (w a : Nat → Int32) (u : Nat → Nat), i + r = n → r < g → (∀ j, j < 13 → w j = nI (u j)) → ∃ w' a', L_X2_pass_40 (nI n) (nI e) (nI f) g (nI i) w a = some (w', a') ∧ ∀ j, j < 13 → w' j = nI (dit e f r u j) := by
  intro r
  induction r with
  | zero =>
    intro i g w a u hi hg hw
    obtain ⟨g, rfl⟩ : ∃ x, g = x + 1 := ⟨g - 1, by omega⟩
    exact ⟨w, a, by rw [L_X2_pass_40, if_pos (nI_le (a := n) (b := i) (by omega) (by omega))], hw⟩
  | succ r ih =>
    intro i g w a u hi hg hw
    obtain ⟨g, rfl⟩ : ∃ x, g = x + 1 := ⟨g - 1, by omega⟩
    obtain ⟨w1, a1, g1, g2⟩ := e_night hef hw a
    obtain ⟨w2, a2, g3, g4⟩ := ih (i + 1) g w1 a1 (dst e f u) (by omega) (by omega) g2
    refine ⟨w2, a2, ?_, g4⟩
    rw [L_X2_pass_40, if_neg (nI_ge (a := i) (b := n) (by omega) (by omega)), g1, sb, nI_1]
    exact g3
theorem e_pass {e f n : Nat} (hef : e + f ≤ 4) (hn : n ≤ 6) (w a : Nat → Int32) : ∃ w' a', F_X2_pass (nI n) (nI e) (nI f) w a = some (w', a') ∧ ∀ j, j < 13 → w' j = nI (dit e f n din j) := by
  rw [F_X2_pass, jn]
  obtain ⟨b, g1, g2⟩ := l_ini (fun a_ways_37 => L_X2_pass_40 (nI n) (nI e) (nI f) 5000 0 a_ways_37 a) 13 0 5000 w (by omega) (by omega) (fun j h => absurd h (by omega))
  obtain ⟨w', a', g3, g4⟩ := l_pass hef hn n 0 5000 b a din (by omega) (by omega) g2
  exact ⟨w', a', g1.trans g3, g4⟩
theorem dit_le {e f : Nat} (hef : e + f ≤ 4) : ∀ (n B : Nat) (u : Nat → Nat), (∀ j, j < 13 → u j ≤ B) → ∀ j, j < 13 → dit e f n u j ≤ B * 4 ^ n := by
  intro n
  induction n with
  | zero => intro B u hu j hj; rw [dit, Nat.pow_zero, Nat.mul_one]; exact hu j hj
  | succ n ih =>
    intro B u hu j hj
    have h := ih (B * 4) (dst e f u) (dst_le hef hu) j hj
    rw [dit, Nat.pow_succ, Nat.mul_comm (4 ^ n) 4, ← Nat.mul_assoc]
    exact h
