/-! CREWS: the simulation -/
theorem m1_of {x : Int32} (h1 : ¬ x < -1) (h2 : x < 0) : x = -1 := by
  have a := Int32.lt_iff_toInt_lt.mp h2
  have b : ¬ x.toInt < (-1 : Int32).toInt := fun q => h1 (Int32.lt_iff_toInt_lt.mpr q)
  rw [show (-1 : Int32).toInt = -1 from rfl] at b
  rw [show (0 : Int32).toInt = 0 from rfl] at a
  exact Int32.toInt_inj.mp (by rw [show (-1 : Int32).toInt = -1 from rfl]; omega)
theorem shs : ∀ k, k < 6 → (((2 * nI k) &&& 31).toBitVec.smod 32).toNat = 2 * k := by decide +kernel
theorem dig10 {F nh j : Nat} (hj : j < nh) (hnh : nh ≤ 6) (hF : F < 4 ^ nh) : (nI F >>> ((2 * ((nI nh - 1) - nI j)) &&& 31)) &&& 3 = nI (F / 4 ^ (nh - 1 - j) % 4) := by
  have h46 : 4 ^ nh ≤ 4 ^ 6 := Nat.pow_le_pow_right (by decide) (by omega)
  rw [show nI nh - 1 = nI (nh - 1) from pk_sub (a := nh) (b := 1) (by omega), pk_sub (a := nh - 1) (b := j) (by omega), pk_shrN (n := F) (by omega) _ (2 * (nh - 1 - j)) (shs _ (by omega)), Nat.pow_mul]
  exact pk_andN (n := F / 4 ^ (nh - 1 - j)) (Nat.lt_of_le_of_lt (Nat.div_le_self _ _) (by omega)) 2 rfl
theorem crews0 {nb : Nat} {br : Nat → Nat} {pe m7 mr m4 : AR} (hnb : nb ≤ 4) (hbr : ∀ j, j < nb → mr j = nI (br j) ∧ br j ≤ 30) (h7 : m7 0 = nI nb) (h4 : m4 0 = nI 0) (k : Int32 → Int32 → Option Int32) (f : Nat) (hf : 2 ≤ f) : L_X10_crews_25 mr m7 m4 pe k f 0 0 0 = k 0 0 := by
  have h4' : m4 (Int32.toNatClampNeg 0) = nI 0 := h4
  have hu : useN (fun _ => 0) 0 0 = 0 := rfl
  obtain ⟨f, rfl⟩ : ∃ x, f = x + 2 := ⟨f - 2, by omega⟩
  have g : F_X10_boatsOf 0 mr m7 m4 pe = some 0 := by
    rcases e_boats10 (nh := 0) (c := 0) (hp := fun _ => 0) (pe := pe) hnb (by decide) (by decide) (fun j h => absurd h (by omega)) hbr h7 h4 with ⟨g1, _⟩ | ⟨g1, _⟩
    · exact g1
    · exact g1
  rw [L_X10_crews_25, h4', if_neg (by decide), g, sb, jn, jn, if_pos rfl]
  try dsimp only
  rw [jn, if_pos (by decide)]
  try dsimp only
  rw [L_X10_crews_25, h4', if_pos (by decide)]
theorem nm1' {i : Nat} (hi : i < 100) : ¬ nI i = -1 := fun e => absurd (show (nI i).toInt = -1 by rw [e]; rfl) (by rw [nI_toInt (by omega)]; omega)
theorem fw_crews (x : Int32) {nh nb : Nat} {hp hm br : Nat → Nat} {hc bc : Int32} {cp cm m4 mp mm cr m7 mr : AR} (hH : RHouses nh hp hm hc cp cm m4 mp mm) (hB : RBoats nb br bc cr m7 mr) (v : Int32) (bh rl : AR) :
    ∃ o1 o2, F_X9_crews x v bh rl bc hc cr cp = some o1 ∧ F_X10_crews x mr m7 m4 mp = some o2 ∧ o1.1 = o2 := by
  obtain ⟨hnh, rfl, h4, hj⟩ := hH
  obtain ⟨hnb, rfl, h7, hb⟩ := hB
  have h4' : m4 (Int32.toNatClampNeg 0) = nI nh := h4
  have hcp : ∀ j, j < nh → cp j = nI (hp j) ∧ hp j ≤ 9 := fun j h => ⟨(hj j h).1.1, (hj j h).1.2.2.2⟩
  have hmp : ∀ j, j < nh → mp j = nI (hp j) ∧ 1 ≤ hp j ∧ hp j ≤ 9 := fun j h => (hj j h).1.2
  have hcr : ∀ j, j < nb → cr j = nI (br j) ∧ br j ≤ 30 := fun j h => ⟨(hb j h).1, (hb j h).2.2.2⟩
  have hmr : ∀ j, j < nb → mr j = nI (br j) ∧ br j ≤ 30 := fun j h => ⟨(hb j h).2.1, (hb j h).2.2.2⟩
  rcases win_c x (-1) (nI nh - 1) with hw | ⟨hw, a1, a2⟩
  · exact ⟨(-1, v, bh, rl), -1, by rw [F_X9_crews, e_within, hw, b0], by rw [F_X10_crews, h4', e_in, hw, b0], rfl⟩
  · rcases Nat.eq_zero_or_pos nh with h0 | h0
    · subst h0
      refine ⟨(-4, v, bh, rl), -4, ?_, ?_, rfl⟩
      · rw [F_X9_crews, e_within, hw, b1, if_pos (by decide)]
      · rw [F_X10_crews, h4', e_in, hw, b1, jn, crews0 (br := br) hnb hmr h7 h4 _ 5000 (by decide), if_pos rfl]
    · have h16 : 2 ^ nb ≤ 16 := Nat.pow_le_pow_right (n := 2) (by decide) (show nb ≤ 4 from hnb)
      have h44 : 0 < 4 ^ nh := p4pos nh
      have h46 : 4 ^ nh ≤ 4 ^ 6 := Nat.pow_le_pow_right (by decide) (by omega)
      obtain ⟨B, F, r1, r2, r3, r4⟩ := l_crews10 (br := br) hnb hnh h0 hmp hmr h7 h4 (fun (x2_111 : Int32) (x3_111 : Int32) => (if x2_111 = 0 then some (-4) else (if x = (-1) then some (x2_111) else some (((x3_111 >>> ((2 * ((nI nh - 1) - x)) &&& 31)) &&& 3))))) (4 ^ nh) 0 5000 0 0 (by omega) (by omega) (by decide) h44 (Or.inl ⟨rfl, fun c hc => absurd hc (by omega)⟩)
      have hlt : ¬ nI nh < (1 : Int32) := nI_nlt (a := nh) (b := 1) h0 (by omega)
      have e10 : F_X10_crews x mr m7 m4 mp = (if nI B = 0 then some (-4) else (if x = (-1) then some (nI B) else some (((nI F >>> ((2 * ((nI nh - 1) - x)) &&& 31)) &&& 3)))) := by
        rw [F_X10_crews, h4', e_in, hw, b1, jn]
        exact r1
      rcases e_findC (nh := nh) (hp := hp) (br := br) (pe := cp) (cr := cr) hnb hnh hcp hcr v bh rl with ⟨S, c, bh', rl', f1, f2, f3⟩ | ⟨v', bh', rl', f1, f2⟩
      · obtain ⟨rfl, rfl⟩ := same_crew hnb h0 (fun j h => (hmp j h).2.1) f2 r4
        have hB0 : 0 < B := f2.1
        rw [if_neg (nI_ne0 hB0 (by omega))] at e10
        by_cases hx : x < 0
        · have hx1 := m1_of a1 hx
          refine ⟨(nI B, nI B, bh', rl'), nI B, ?_, by rw [e10, if_pos hx1], rfl⟩
          rw [F_X9_crews, e_within, hw, b1, if_neg hlt, f1, sb, if_neg n10]
          dsimp only
          rw [if_neg (fun q => absurd (Int32.lt_iff_toInt_lt.mp hx) (by have := Int32.le_iff_toInt_le.mp q; omega))]
        · obtain ⟨j, hjn, rfl⟩ := rng (by omega) hx a2
          refine ⟨(nI (F / 4 ^ (nh - 1 - j) % 4), nI B, bh', rl'), nI (F / 4 ^ (nh - 1 - j) % 4), ?_, by rw [e10, if_neg (nm1' (by omega)), dig10 hjn hnh r3], rfl⟩
          rw [F_X9_crews, e_within, hw, b1, if_neg hlt, f1, sb, if_neg n10]
          dsimp only
          rw [if_pos (nI_pos' (by omega)), F_X0_boatOf, at_in (k := j) (n := 6) (by omega) (by decide), sb, sb, f3 j hjn]
      · have hB0 := no_crew hnb h0 (fun j h => (hmp j h).2.1) f2 r4
        subst hB0
        refine ⟨(-4, v', bh', rl'), -4, ?_, by rw [e10, if_pos (show nI 0 = (0 : Int32) from rfl)], rfl⟩
        rw [F_X9_crews, e_within, hw, b1, if_neg hlt, f1, sb, if_pos rfl]
theorem sim_crews : ∀ (x1 : Int32) (σ μ : SS), Rel σ μ → ∃ q r, SX_crews x1 σ = some q ∧ SM_crews x1 μ = some r ∧ q.1 = r.1 ∧ Rel q.2 r.2 := by
  intro x1 σ μ ⟨ns, nw, nh, nb, tc, bd, lg, sg, wn, wg, hp, hm, br, hT, hS, hW, hH, hB, hC, hD, hK, hA⟩
  obtain ⟨o1, o2, e1, e2, e3⟩ := fw_crews x1 hH hB (σ.1 21) (σ.2.1 25) (σ.2.1 26)
  exact ⟨_, _, sx_of e1, sx_of e2, e3, ns, nw, nh, nb, tc, bd, lg, sg, wn, wg, hp, hm, br, hT, hS, hW, hH, hB, hC, hD, hK, hA⟩
