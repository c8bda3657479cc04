/-! the simulation lemma of LAY -/
theorem RSigns.laid {ns : Nat} {sg : Nat → Nat} {sc : Int32} {cs m2 mt t : AR} (h : DS ns sg sc cs m2 mt) (h1 : 1 ≤ ns) (ht : ∀ j, j < 16 → t j = mt (16 + j)) : RSigns ns sg sc cs (upd m2 0 (m2 1)) t :=
  ⟨h1, h.1, h.2.1, (upd_s _ _ _).trans h.2.2.1, fun j hj => ⟨(h.2.2.2.1 j hj).1, (ht j (by have := h.1; omega)).trans (h.2.2.2.1 j hj).2.1, (h.2.2.2.1 j hj).2.2⟩, h.2.2.2.2⟩
theorem RWorks.laid {nw : Nat} {wn wg : Nat → Nat} {wc : Int32} {cn cg m9 mn mg mn' mg' : AR} (h : DWk nw wn wg wc cn cg m9 mn mg) (hw : ∀ j, j < 5 → mg' j = mg (5 + j) ∧ mn' j = mn (5 + j)) : RWorks nw wn wg wc cn cg (upd m9 0 (m9 1)) mn' mg' :=
  ⟨h.1, h.2.1, (upd_s _ _ _).trans h.2.2.1, fun j hj => ⟨⟨(h.2.2.2 j hj).1.1, (hw j (by have := h.1; omega)).2.trans (h.2.2.2 j hj).1.2.1, (h.2.2.2 j hj).1.2.2⟩, (h.2.2.2 j hj).2.1, (hw j (by have := h.1; omega)).1.trans (h.2.2.2 j hj).2.2.1, (h.2.2.2 j hj).2.2.2⟩⟩
theorem RHouses.laid {nh : Nat} {hp hm : Nat → Nat} {hc : Int32} {cp cm m4 mp mm mp' mm' : AR} (h : DH nh hp hm hc cp cm m4 mp mm) (hw : ∀ j, j < 6 → mm' j = mm (6 + j) ∧ mp' j = mp (6 + j)) : RHouses nh hp hm hc cp cm (upd m4 0 (m4 1)) mp' mm' :=
  ⟨h.1, h.2.1, (upd_s _ _ _).trans h.2.2.1, fun j hj => ⟨⟨(h.2.2.2 j hj).1.1, (hw j (by have := h.1; omega)).2.trans (h.2.2.2 j hj).1.2.1, (h.2.2.2 j hj).1.2.2⟩, (h.2.2.2 j hj).2.1, (hw j (by have := h.1; omega)).1.trans (h.2.2.2 j hj).2.2.1, (h.2.2.2 j hj).2.2.2⟩⟩
theorem RBoats.laid {nb : Nat} {br : Nat → Nat} {bc : Int32} {cr m7 mr mr' : AR} (h : DB nb br bc cr m7 mr) (hw : ∀ j, j < 4 → mr' j = mr (4 + j)) : RBoats nb br bc cr (upd m7 0 (m7 1)) mr' :=
  ⟨h.1, h.2.1, (upd_s _ _ _).trans h.2.2.1, fun j hj => ⟨(h.2.2.2 j hj).1, (hw j (by have := h.1; omega)).trans (h.2.2.2 j hj).2.1, (h.2.2.2 j hj).2.2⟩⟩
theorem RCost.laid {tc bd : Nat} {lg : Nat → Nat} {c9 c10 : Int32} {cl m12 mg : AR} (h : DC tc bd lg c9 c10 cl m12 mg) : RCost tc bd lg c9 c10 cl (upd (upd m12 0 (m12 2)) 1 (m12 3)) (upd (upd (upd mg 0 (mg 3)) 1 (mg 4)) 2 (mg 5)) := by
  obtain ⟨h1, h2, h3, h4, h5, h6, h7⟩ := h
  refine ⟨h1, h2, h3, h4, ?_, ?_, fun j hj => ?_⟩
  · rw [upd_n (by decide), upd_s]; exact h5
  · rw [upd_s]; exact h6
  · rcases j3 hj with rfl | rfl | rfl
    · rw [upd_n (by decide), upd_n (by decide), upd_s]; exact h7 0 hj
    · rw [upd_n (by decide), upd_s]; exact h7 1 hj
    · rw [upd_s]; exact h7 2 hj
theorem sim_lay : ∀ (σ μ : SS), Rel σ μ → ∃ q r, SX_lay σ = some q ∧ SM_lay μ = some r ∧ q.1 = r.1 ∧ Rel q.2.1 r.2 := by
  intro σ μ ⟨ns, nw, nh, nb, tc, bd, lg, sg, wn, wg, hp, hm, br, hT, hS, hW, hH, hB, hC, hD, hK, hA⟩
  obtain ⟨n, lt, el, et, hX⟩ := tx_of hT
  obtain ⟨v, d', e', l', c', nu', at', so', m', k1, k2, k3, k4⟩ := fw_read hX (σ.1 13) (σ.1 16) (σ.1 12) (σ.1 11) (σ.1 15) (σ.1 14) (σ.1 4) (σ.1 3) (σ.1 2) (σ.2.1 1) (σ.2.1 13) (σ.2.1 12) (σ.2.1 11) (σ.2.1 9) (σ.2.1 10) (σ.2.1 15) (σ.2.1 14) (μ.1 1) (μ.1 2) (μ.2.1 8, μ.2.1 7, μ.2.1 11, μ.2.1 12, μ.2.1 1, μ.2.1 4, μ.2.1 6, μ.2.1 10, μ.2.1 5, μ.2.1 2, μ.2.1 3, μ.2.1 9)
  rw [← el] at k1
  rw [← et] at k2
  have no : (¬ v = -4 ∨ ¬ 1 ≤ d'.2.2.2.1) → (¬ v = -4 ∨ m'.2.2.2.2.2.2.2.2.2.1 1 = 0) → ∃ q r, SX_lay σ = some q ∧ SM_lay μ = some r ∧ q.1 = r.1 ∧ Rel q.2.1 r.2 := by
    intro c9 c10
    have e1 := lay9_no (kc := σ.1 0) (bdays := σ.1 17) (tp := σ.1 20) (sc := σ.1 5) k1 c9
    have e2 := lay10_no (ah := μ.1 4) (kp := μ.1 3) (days := μ.2.1 13) k2 c10
    obtain ⟨g1, g2, g3, g4, g5, g6, g7, g8, g9, g10, g11, g12⟩ := k3
    exact ⟨_, _, sx_of e1, sx_of e2, rfl, ns, nw, nh, nb, tc, bd, lg, sg, wn, wg, hp, hm, br, hT, hS.half g10 g11, hW.half g12 g8 g3, hH.half g6 g9 g7, hB.half g2 g1, hC.half g4 g5, hD, hK, hA⟩
  rcases k4 with ⟨rfl, ns', nw', nh', nb', tc', bd', lg', sg', wn', wg', hp', hm', br', dS, dW, dH, dB, dC⟩ | hv
  · rcases Nat.eq_zero_or_pos ns' with h0 | h0
    · subst h0
      refine no (Or.inr ?_) (Or.inr dS.2.2.1)
      rw [dS.2.1]
      decide
    · have hns := dS.1
      have c9 : 1 ≤ d'.2.2.2.1 := by rw [dS.2.1]; exact nI_le (a := 1) (b := ns') h0 (by omega)
      have c10 : ¬ m'.2.2.2.2.2.2.2.2.2.1 1 = 0 := by rw [dS.2.2.1]; exact nI_ne0 h0 (by omega)
      have e1 := lay9_ok (kc := σ.1 0) (bdays := σ.1 17) (tp := σ.1 20) (sc := σ.1 5) k1 c9
      obtain ⟨boat, bri, min, noi, peo, told, e2, f1, f2, f3, f4⟩ := lay10_ok (ah := μ.1 4) (kp := μ.1 3) (days := μ.2.1 13) k2 c10
      refine ⟨_, _, sx_of e1, sx_of e2, dS.2.1.trans dS.2.2.1.symm, ns', nw', nh', nb', tc', bd', lg', sg', wn', wg', hp', hm', br', hT, ?_, ?_, ?_, ?_, ?_, ?_, ?_, ?_⟩
      · exact RSigns.laid dS h0 f4
      · exact RWorks.laid dW f2
      · exact RHouses.laid dH f3
      · exact RBoats.laid dB f1
      · exact RCost.laid dC
      · exact ⟨0, by decide, rfl, rfl, fun j h => absurd h (by omega)⟩
      · exact ⟨0, by decide, rfl, rfl, fun h => absurd h (by decide), fun h => absurd h (by decide)⟩
      · exact ⟨0, by decide, rfl, rfl, fun j h => absurd h (by omega)⟩
  · exact no (Or.inl hv) (Or.inl hv)
