/-! the start that whole_open asks for -/
theorem start_all : ∃ σ out, F_X9_init = some σ ∧ F0_X10 = some out ∧ Rel σ (M0 out) := by
  obtain ⟨σ, h1, h2⟩ := x_start
  obtain ⟨out, h3, h4⟩ := m_start
  exact ⟨σ, out, h1, h3, rel_start h2 h4 rfl rfl⟩
