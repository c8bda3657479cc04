/-! the class's start: the parsed text -/
def fg (f : Nat → Int32) (l : List Nat) (g : Nat → Nat) : Bool := l.all (fun j => decide (f j = nI (g j)))
def PX (σ : SS) : Bool := fg σ.1 [0, 1, 5, 6, 7, 8, 9, 10, 17, 20] (nth [0, 0, 0, 0, 0, 4, 4, 3, 3, 60, 5, 0, 0, 0, 0, 0, 0, 0, 0, 0, 0]) && (allE 3 (σ.2.1 2) LG0 && (allE 16 (σ.2.1 3) SG0 && (allE 4 (σ.2.1 4) HP0 && (allE 4 (σ.2.1 5) HM0 && (allE 3 (σ.2.1 6) BR0 && (allE 3 (σ.2.1 7) WN0 && allE 3 (σ.2.1 8) WG0))))))
theorem x_start : ∃ σ, F_X9_init = some σ ∧ PX σ = true := ev_some (by decide +kernel)
