/-! pure rows: in how many ways just these signs are seen -/
def byc (sg : Nat → Nat) (m k p s : Nat) : Nat := if prd sg k = true then (if m.testBit (k - 1) = true then own sg k p s else 0) else own sg k p s
def fac (sg : Nat → Nat) (m k p s : Nat) : Nat := if m.testBit k = true then byc sg m k p s else 4 - byc sg m k p s
def wv (sg : Nat → Nat) (m p s : Nat) : Nat → Nat → Nat
  | 0, _ => 1
  | r + 1, i => fac sg m i p s * wv sg m p s r (i + 1)
theorem byc_le {ns m k p s : Nat} {sg : Nat → Nat} (hk : k < ns) (hp : p < 3) (hs : s < 3) (h : ∀ j, j < 4 * ns → sg j ≤ 4) : byc sg m k p s ≤ 4 := by
  have ho := own_le hk hp hs h
  rw [byc]
  by_cases h1 : prd sg k = true
  · rw [if_pos h1]
    by_cases h2 : m.testBit (k - 1) = true
    · rw [if_pos h2]; exact ho
    · rw [if_neg h2]; omega
  · rw [if_neg h1]; exact ho
theorem n10 : ¬ (1 : Int32) = 0 := by decide
theorem p00 : (0 : Int32) = 0 := rfl
theorem l_ways9 {ns m p s : Nat} {sg : Nat → Nat} {cs : Nat → Int32} (hns : ns ≤ 4) (hm : m < 64) (hp : p < 3) (hs : s < 3) (h : ∀ j, j < 4 * ns → cs j = nI (sg j) ∧ sg j ≤ 4) : ∀ (r i acc f : Nat), i + r = ns → r < f → L_X8_waysToSee_6 (nI m) (nI p) (nI s) (nI ns) cs f (lN acc) (nI i) = some (lN (acc * wv sg m p s r i)) := by
  intro r
  induction r with
  | zero =>
    intro i acc f hi hf
    obtain ⟨f, rfl⟩ : ∃ g, f = g + 1 := ⟨f - 1, by omega⟩
    rw [L_X8_waysToSee_6, if_pos (nI_le (a := ns) (b := i) (by omega) (by omega)), wv, Nat.mul_one]
  | succ r ih =>
    intro i acc f hi hf
    obtain ⟨f, rfl⟩ : ∃ g, f = g + 1 := ⟨f - 1, by omega⟩
    have hik : i < ns := by omega
    have hb := byc_le (m := m) hik hp hs (fun j h9 => (h j h9).2)
    have fin : ∀ c : Nat, c = byc sg m i p s → ((F_X9_holds (nI m) (nI i)).bind (fun q66 => jn (fun (j0_83 : Int64) => L_X8_waysToSee_6 (nI m) (nI p) (nI s) (nI ns) cs f (lN acc * j0_83) (nI i + 1)) (fun k_83 => (if q66 = 0 then k_83 (Int32.toInt64 (4 - nI c)) else k_83 (Int32.toInt64 (nI c)))))) = some (lN (acc * wv sg m p s (r + 1) i)) := by
      intro c hc
      subst hc
      rw [e_holds hm (by omega), sb, jn, show (4 : Int32) - nI (byc sg m i p s) = nI (4 - byc sg m i p s) from pk_sub (a := 4) (b := byc sg m i p s) hb, nI_l (n := 4 - byc sg m i p s) (by omega), nI_l (n := byc sg m i p s) (by omega), nI_1, wv, fac]
      by_cases ht : m.testBit i = true
      · rw [if_pos ht, if_neg n10, if_pos ht]
        dsimp only
        rw [lN_mul, ih (i + 1) _ f (by omega) (by omega), Nat.mul_assoc]
      · rw [if_neg ht, if_pos p00, if_neg ht]
        dsimp only
        rw [lN_mul, ih (i + 1) _ f (by omega) (by omega), Nat.mul_assoc]
    rw [L_X8_waysToSee_6, if_neg (nI_ge (a := i) (b := ns) hik (by omega)), e_hang9 hns hik h, sb]
    by_cases h1 : prd sg i = true
    · have hi0 : 0 < i := by
        rw [prd, Bool.and_eq_true] at h1
        exact of_decide_eq_true h1.2
      rw [if_pos h1, jn, jn, if_neg n10, show nI i - 1 = nI (i - 1) from pk_sub (a := i) (b := 1) (by omega), e_holds hm (by omega), sb]
      by_cases h2 : m.testBit (i - 1) = true
      · rw [if_pos h2, if_neg n10]
        dsimp only
        rw [jn, if_pos p00, e_own9 hns hik hp hs h, sb]
        exact fin _ (by rw [byc, if_pos h1, if_pos h2])
      · rw [if_neg h2, if_pos p00]
        dsimp only
        rw [jn, if_neg n10]
        exact fin 0 (by rw [byc, if_pos h1, if_neg h2])
    · rw [if_neg h1, jn, jn, if_pos p00]
      dsimp only
      rw [jn, if_pos p00, e_own9 hns hik hp hs h, sb]
      exact fin _ (by rw [byc, if_neg h1])
theorem e_ways9 {ns m p s : Nat} {sg : Nat → Nat} {cs : Nat → Int32} (hns : ns ≤ 4) (hm : m < 64) (hp : p < 3) (hs : s < 3) (h : ∀ j, j < 4 * ns → cs j = nI (sg j) ∧ sg j ≤ 4) : F_X8_waysToSee (nI m) (nI p) (nI s) (nI ns) cs = some (lN (wv sg m p s ns 0)) := by
  rw [F_X8_waysToSee]
  have h9 := l_ways9 hns hm hp hs h ns 0 1 5000 (by omega) (by omega)
  rw [Nat.one_mul] at h9
  exact h9
