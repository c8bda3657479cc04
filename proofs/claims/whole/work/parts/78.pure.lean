/-! pure rows: a sign's own chance, what hangs on the one ahead -/
def own (sg : Nat → Nat) (k p s : Nat) : Nat := if sg (4 * k) = 2 then 4 - sg (4 * k + 1 + s) else sg (4 * k + 1 + (if sg (4 * k) = 1 then p else s))
def prd (sg : Nat → Nat) (k : Nat) : Bool := decide (sg (4 * k) = 3) && decide (0 < k)
theorem own_le {ns k p s : Nat} {sg : Nat → Nat} (hk : k < ns) (hp : p < 3) (hs : s < 3) (h : ∀ j, j < 4 * ns → sg j ≤ 4) : own sg k p s ≤ 4 := by
  rw [own]
  by_cases h2 : sg (4 * k) = 2
  · rw [if_pos h2]; omega
  · rw [if_neg h2]
    by_cases h1 : sg (4 * k) = 1
    · rw [if_pos h1]; exact h _ (by omega)
    · rw [if_neg h1]; exact h _ (by omega)
theorem e_own9 {ns k p s : Nat} {sg : Nat → Nat} {cs : Nat → Int32} (hns : ns ≤ 4) (hk : k < ns) (hp : p < 3) (hs : s < 3) (h : ∀ j, j < 4 * ns → cs j = nI (sg j) ∧ sg j ≤ 4) : F_X8_ownChance (nI k) (nI p) (nI s) cs = some (nI (own sg k p s)) := by
  have e0 : nI k * 4 = nI (4 * k) := (pk_mul k 4).trans (by rw [Nat.mul_comm])
  have e1 : nI (4 * k) + 1 = nI (4 * k + 1) := nI_1 (4 * k)
  have g0 := h (4 * k) (by omega)
  rw [F_X8_ownChance, e0, at_in (k := 4 * k) (n := 16) (by omega) (by decide), sb, g0.1, e1, jn, own]
  by_cases h1 : sg (4 * k) = 1
  · have g1 := h (4 * k + 1 + p) (by omega)
    rw [if_pos (show nI (sg (4 * k)) = 1 by rw [h1]; rfl)]
    dsimp only
    rw [nI_add, at_in (k := 4 * k + 1 + p) (n := 16) (by omega) (by decide), sb, if_neg (show ¬ nI (sg (4 * k)) = 2 by rw [h1]; decide), g1.1, if_neg (show ¬ sg (4 * k) = 2 by omega), if_pos h1]
  · have g1 := h (4 * k + 1 + s) (by omega)
    rw [if_neg (show ¬ nI (sg (4 * k)) = 1 from fun e => h1 ((nI_eq (a := sg (4 * k)) (b := 1) (by omega) (by decide)).mp e))]
    dsimp only
    rw [nI_add, at_in (k := 4 * k + 1 + s) (n := 16) (by omega) (by decide), sb, g1.1]
    by_cases h2 : sg (4 * k) = 2
    · rw [if_pos (show nI (sg (4 * k)) = 2 by rw [h2]; rfl), if_pos h2, show (4 : Int32) - nI (sg (4 * k + 1 + s)) = nI (4 - sg (4 * k + 1 + s)) from pk_sub (a := 4) (b := sg (4 * k + 1 + s)) g1.2]
    · rw [if_neg (show ¬ nI (sg (4 * k)) = 2 from fun e => h2 ((nI_eq (a := sg (4 * k)) (b := 2) (by omega) (by decide)).mp e)), if_neg h2, if_neg h1]
theorem e_own10 {ns k p s : Nat} {sg : Nat → Nat} {mt : Nat → Int32} (hns : ns ≤ 4) (hk : k < ns) (hp : p < 3) (hs : s < 3) (h : ∀ j, j < 4 * ns → mt j = nI (sg j) ∧ sg j ≤ 4) : F_X10_seenBy (nI k) (nI p) (nI s) mt = some (nI (own sg k p s)) := by
  have e0 : 4 * nI k = nI (4 * k) := pk_mul 4 k
  have e1 : nI (4 * k) + 1 = nI (4 * k + 1) := nI_1 (4 * k)
  have g0 := h (4 * k) (by omega)
  have gs := h (4 * k + 1 + s) (by omega)
  rw [F_X10_seenBy, e0, if_pos (inbT (k := 4 * k) (n := 32) (by omega) (by decide)), nI_clamp (n := 4 * k) (by omega), g0.1, e1, nI_add, jn, own]
  by_cases h2 : sg (4 * k) = 2
  · rw [if_pos (show nI (sg (4 * k)) = 2 by rw [h2]; rfl), if_pos h2, if_pos (inbT (k := 4 * k + 1 + s) (n := 32) (by omega) (by decide)), nI_clamp (n := 4 * k + 1 + s) (by omega), gs.1, show (4 : Int32) - nI (sg (4 * k + 1 + s)) = nI (4 - sg (4 * k + 1 + s)) from pk_sub (a := 4) (b := sg (4 * k + 1 + s)) gs.2]
  · rw [if_neg (show ¬ nI (sg (4 * k)) = 2 from fun e => h2 ((nI_eq (a := sg (4 * k)) (b := 2) (by omega) (by decide)).mp e)), if_neg h2]
    by_cases h1 : sg (4 * k) = 1
    · have gp := h (4 * k + 1 + p) (by omega)
      rw [if_pos (show nI (sg (4 * k)) = 1 by rw [h1]; rfl), if_pos h1]
      dsimp only
      rw [nI_add, if_pos (inbT (k := 4 * k + 1 + p) (n := 32) (by omega) (by decide)), nI_clamp (n := 4 * k + 1 + p) (by omega), gp.1]
    · rw [if_neg (show ¬ nI (sg (4 * k)) = 1 from fun e => h1 ((nI_eq (a := sg (4 * k)) (b := 1) (by omega) (by decide)).mp e)), if_neg h1]
      dsimp only
      rw [nI_add, if_pos (inbT (k := 4 * k + 1 + s) (n := 32) (by omega) (by decide)), nI_clamp (n := 4 * k + 1 + s) (by omega), gs.1]
theorem e_hang9 {ns k : Nat} {sg : Nat → Nat} {cs : Nat → Int32} (hns : ns ≤ 4) (hk : k < ns) (h : ∀ j, j < 4 * ns → cs j = nI (sg j) ∧ sg j ≤ 4) : F_X8_hangsOnOther (nI k) cs = some (if prd sg k = true then 1 else 0) := by
  have e0 : nI k * 4 + 0 = nI (4 * k) := by rw [show nI k * 4 = nI (k * 4) from pk_mul k 4, show nI (k * 4) + 0 = nI (k * 4 + 0) from nI_add (k * 4) 0, Nat.add_zero, Nat.mul_comm]
  have g0 := h (4 * k) (by omega)
  rw [F_X8_hangsOnOther, prd]
  by_cases hk0 : k = 0
  · subst hk0; rw [if_pos (by decide), if_neg (by simp)]
  · rw [if_neg (show ¬ nI k ≤ 0 from nI_ge (a := 0) (b := k) (by omega) (by omega)), F_X8_signNumber, e0, at_in (k := 4 * k) (n := 16) (by omega) (by decide), sb, sb, g0.1]
    by_cases h3 : sg (4 * k) = 3
    · rw [if_pos (show nI (sg (4 * k)) = 3 by rw [h3]; rfl), if_pos (by simp [h3]; omega)]
    · rw [if_neg (show ¬ nI (sg (4 * k)) = 3 from fun e => h3 ((nI_eq (a := sg (4 * k)) (b := 3) (by omega) (by decide)).mp e)), if_neg (by simp [h3])]
theorem e_pair10 {ns k : Nat} {sg : Nat → Nat} {mt : Nat → Int32} (hns : ns ≤ 4) (hk : k < ns) (h : ∀ j, j < 4 * ns → mt j = nI (sg j) ∧ sg j ≤ 4) : F_X10_isPaired (nI k) mt = some (if prd sg k = true then 1 else 0) := by
  have e0 : 4 * nI k = nI (4 * k) := pk_mul 4 k
  have g0 := h (4 * k) (by omega)
  rw [F_X10_isPaired, e0, if_pos (inbT (k := 4 * k) (n := 32) (by omega) (by decide)), nI_clamp (n := 4 * k) (by omega), g0.1, prd]
  by_cases h3 : sg (4 * k) = 3
  · rw [if_pos (show nI (sg (4 * k)) = 3 by rw [h3]; rfl)]
    by_cases hk0 : k = 0
    · subst hk0; rw [if_pos (by decide), if_neg (by simp)]
    · rw [if_neg (show ¬ nI k ≤ 0 from nI_ge (a := 0) (b := k) (by omega) (by omega)), if_pos (by simp [h3]; omega)]
  · rw [if_neg (show ¬ nI (sg (4 * k)) = 3 from fun e => h3 ((nI_eq (a := sg (4 * k)) (b := 3) (by omega) (by decide)).mp e)), if_neg (by simp [h3])]
