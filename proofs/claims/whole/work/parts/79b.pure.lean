/-! pure rows: in how many ways just these signs are seen: the reference -/
theorem n01 : ¬ (0 : Int32) = 1 := by decide
theorem p11 : (1 : Int32) = 1 := rfl
theorem l_ways10 {ns m p s : Nat} {sg : Nat → Nat} {m2 mt : Nat → Int32} (hns : ns ≤ 4) (hm : m < 64) (hp : p < 3) (hs : s < 3) (h2' : m2 0 = nI ns) (h : ∀ j, j < 4 * ns → mt j = nI (sg j) ∧ sg j ≤ 4) : ∀ (r i acc f : Nat), i + r = ns → r < f → L_X10_likely_6 (nI m) (nI p) (nI s) m2 mt f (lN acc) (nI i) = some (lN (acc * wv sg m p s r i)) := by
  have hm2 : m2 (Int32.toNatClampNeg 0) = nI ns := h2'
  intro r
  induction r with
  | zero =>
    intro i acc f hi hf
    obtain ⟨f, rfl⟩ : ∃ g, f = g + 1 := ⟨f - 1, by omega⟩
    rw [L_X10_likely_6, hm2, if_pos (nI_le (a := ns) (b := i) (by omega) (by omega)), wv, Nat.mul_one]
  | succ r ih =>
    intro i acc f hi hf
    obtain ⟨f, rfl⟩ : ∃ g, f = g + 1 := ⟨f - 1, by omega⟩
    have hik : i < ns := by omega
    have hb := byc_le (m := m) hik hp hs (fun j h9 => (h j h9).2)
    have fin : ∀ c : Nat, c = byc sg m i p s → (jn (fun (j0_74 : Int64) => L_X10_likely_6 (nI m) (nI p) (nI s) m2 mt f (lN acc * j0_74) (nI i + 1)) (fun k_74 => (if ((nI m >>> (nI i &&& 31)) &&& 1) = 1 then k_74 (Int32.toInt64 (nI c)) else k_74 (Int32.toInt64 (4 - nI c))))) = some (lN (acc * wv sg m p s (r + 1) i)) := by
      intro c hc
      subst hc
      rw [jn, bit_ok m hm i (by omega), show (4 : Int32) - nI (byc sg m i p s) = nI (4 - byc sg m i p s) from pk_sub (a := 4) (b := byc sg m i p s) hb, nI_l (n := 4 - byc sg m i p s) (by omega), nI_l (n := byc sg m i p s) (by omega), nI_1, wv, fac]
      by_cases ht : m.testBit i = true
      · rw [if_pos ht, if_pos p11, if_pos ht]
        dsimp only
        rw [lN_mul, ih (i + 1) _ f (by omega) (by omega), Nat.mul_assoc]
      · rw [if_neg ht, if_neg n01, if_neg ht]
        dsimp only
        rw [lN_mul, ih (i + 1) _ f (by omega) (by omega), Nat.mul_assoc]
    rw [L_X10_likely_6, hm2, if_neg (nI_ge (a := i) (b := ns) hik (by omega)), e_pair10 hns hik h, sb, jn, e_own10 hns hik hp hs h, sb, jn]
    by_cases h1 : prd sg i = true
    · have hi0 : 0 < i := by
        rw [prd, Bool.and_eq_true] at h1
        exact of_decide_eq_true h1.2
      rw [if_pos h1, if_neg n10, show nI i - 1 = nI (i - 1) from pk_sub (a := i) (b := 1) (by omega), bit_ok m hm (i - 1) (by omega)]
      by_cases h2 : m.testBit (i - 1) = true
      · rw [if_pos h2, if_neg n10]
        exact fin _ (by rw [byc, if_pos h1, if_pos h2])
      · rw [if_neg h2, if_pos p00]
        exact fin 0 (by rw [byc, if_pos h1, if_neg h2])
    · rw [if_neg h1, if_pos p00]
      exact fin _ (by rw [byc, if_neg h1])
theorem e_ways10 {ns m p s : Nat} {sg : Nat → Nat} {m2 mt : Nat → Int32} (hns : ns ≤ 4) (hm : m < 64) (hp : p < 3) (hs : s < 3) (h2 : m2 0 = nI ns) (h : ∀ j, j < 4 * ns → mt j = nI (sg j) ∧ sg j ≤ 4) : F_X10_likely (nI m) (nI p) (nI s) m2 mt = some (lN (wv sg m p s ns 0)) := by
  rw [F_X10_likely]
  have h9 := l_ways10 hns hm hp hs h2 h ns 0 1 5000 (by omega) (by omega)
  rw [Nat.one_mul] at h9
  exact h9
