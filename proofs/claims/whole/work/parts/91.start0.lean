/-! the two sides at the start -/
def nth (l : List Nat) (j : Nat) : Nat := l.getD j 0
abbrev LG0 : Nat → Nat := nth [1, 2, 1]
abbrev SG0 : Nat → Nat := nth [0, 1, 2, 3, 1, 0, 2, 4, 2, 4, 3, 1, 3, 2, 2, 2]
abbrev HP0 : Nat → Nat := nth [4, 3, 6, 2]
abbrev HM0 : Nat → Nat := nth [10, 25, 5, 40]
abbrev BR0 : Nat → Nat := nth [8, 5, 9]
abbrev WN0 : Nat → Nat := nth [1, 0, 2]
abbrev WG0 : Nat → Nat := nth [6, 2, 9]
theorem ev_some {A : Type} {o : Option A} {P : A → Bool} (h : (match o with | some x => P x | none => false) = true) : ∃ x, o = some x ∧ P x = true := by
  cases o with
  | none => cases h
  | some x => exact ⟨x, rfl, h⟩
def allE (n : Nat) (f : Nat → Int32) (g : Nat → Nat) : Bool := (List.range n).all (fun j => decide (f j = nI (g j)))
theorem allE_ok {n : Nat} {f : Nat → Int32} {g : Nat → Nat} (h : allE n f g = true) : ∀ j, j < n → f j = nI (g j) := fun j hj => of_decide_eq_true (List.all_eq_true.mp h j (List.mem_range.mpr hj))
/-- the checks of the reference's start, and of the class's -/
def PM (μ : SS) : Bool := allE 1 (μ.2.1 2) (nth [4]) && (allE 1 (μ.2.1 4) (nth [4]) && (allE 1 (μ.2.1 7) (nth [3]) && (allE 1 (μ.2.1 9) (nth [3]) && (allE 2 (μ.2.1 12) (nth [60, 5]) && (allE 3 (μ.2.1 1) LG0 && (allE 16 (μ.2.1 3) SG0 && (allE 4 (μ.2.1 5) HP0 && (allE 4 (μ.2.1 6) HM0 && (allE 3 (μ.2.1 8) BR0 && (allE 3 (μ.2.1 10) WN0 && allE 3 (μ.2.1 11) WG0))))))))))
theorem m_start : ∃ out, F0_X10 = some out ∧ PM (M0 out) = true := ev_some (by decide +kernel)
