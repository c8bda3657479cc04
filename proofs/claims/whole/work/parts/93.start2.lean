/-! the relation holds at the start -/
theorem fg_ok {f : Nat → Int32} {l : List Nat} {g : Nat → Nat} (h : fg f l g = true) : ∀ j, j ∈ l → f j = nI (g j) := fun j hj => of_decide_eq_true (List.all_eq_true.mp h j hj)
theorem rel_start {σ μ : SS} (hX : PX σ = true) (hM : PM μ = true) (hi : μ.1 = fun _ => 0) (hd : μ.2.1 13 0 = 0) : Rel σ μ := by
  simp only [PX, Bool.and_eq_true] at hX
  simp only [PM, Bool.and_eq_true] at hM
  obtain ⟨x0, x1, x2, x3, x4, x5, x6, x7⟩ := hX
  obtain ⟨m0, m1, m2, m3, m4, m5, m6, m7, m8, m9, m10, m11⟩ := hM
  have f := fg_ok x0
  have i0 : ∀ j, μ.1 j = 0 := fun j => by rw [hi]
  refine ⟨4, 3, 4, 3, 60, 5, LG0, SG0, WN0, WG0, HP0, HM0, BR0, ?_, ?_, ?_, ?_, ?_, ?_, ?_, ?_, ?_⟩
  · exact ⟨0, by decide, f 1 (by decide), i0 0, fun j h => absurd h (by omega)⟩
  · exact ⟨by decide, by decide, f 5 (by decide), allE_ok m0 0 (by decide), fun j h => ⟨allE_ok x2 j h, allE_ok m6 j h, (by decide : ∀ j, j < 16 → SG0 j ≤ 4) j h⟩, (by decide : ∀ k, k < 4 → SG0 (4 * k) ≤ 3)⟩
  · exact ⟨by decide, f 8 (by decide), allE_ok m3 0 (by decide), fun j h => ⟨⟨allE_ok x6 j h, allE_ok m10 j h, (by decide : ∀ j, j < 3 → WN0 j ≤ 4) j h⟩, allE_ok x7 j h, allE_ok m11 j h, (by decide : ∀ j, j < 3 → WG0 j ≤ 20) j h⟩⟩
  · exact ⟨by decide, f 6 (by decide), allE_ok m1 0 (by decide), fun j h => ⟨⟨allE_ok x3 j h, allE_ok m7 j h, (by decide : ∀ j, j < 4 → 1 ≤ HP0 j ∧ HP0 j ≤ 9) j h⟩, allE_ok x4 j h, allE_ok m8 j h, (by decide : ∀ j, j < 4 → HM0 j ≤ 60) j h⟩⟩
  · exact ⟨by decide, f 7 (by decide), allE_ok m2 0 (by decide), fun j h => ⟨allE_ok x5 j h, allE_ok m9 j h, (by decide : ∀ j, j < 3 → 1 ≤ BR0 j ∧ BR0 j ≤ 30) j h⟩⟩
  · exact ⟨by decide, by decide, f 9 (by decide), f 10 (by decide), allE_ok m4 0 (by decide), allE_ok m4 1 (by decide), fun j h => ⟨allE_ok x1 j h, allE_ok m5 j h, (by decide : ∀ j, j < 3 → LG0 j ≤ 4) j h⟩⟩
  · exact ⟨0, by decide, f 17 (by decide), hd, fun j h => absurd h (by omega)⟩
  · exact ⟨0, by decide, f 0 (by decide), i0 3, fun h => absurd h (by decide), fun h => absurd h (by decide)⟩
  · exact ⟨0, by decide, f 20 (by decide), i0 4, fun j h => absurd h (by omega)⟩
