/-! pure rows: FAULT and what it leaves as it was -/
theorem RSigns.half {ns : Nat} {sg : Nat → Nat} {sc : Int32} {cs m2 mt m2' mt' : AR} (h : RSigns ns sg sc cs m2 mt) (h2 : SAME 1 m2 m2') (ht : SAME 16 mt mt') : RSigns ns sg sc cs m2' mt' :=
  ⟨h.1, h.2.1, h.2.2.1, (h2 0 (by decide)).trans h.2.2.2.1, fun j hj => ⟨(h.2.2.2.2.1 j hj).1, (ht j (by have := h.2.1; omega)).trans (h.2.2.2.2.1 j hj).2.1, (h.2.2.2.2.1 j hj).2.2⟩, h.2.2.2.2.2⟩
theorem RWorks.half {nw : Nat} {wn wg : Nat → Nat} {wc : Int32} {cn cg m9 mn mg m9' mn' mg' : AR} (h : RWorks nw wn wg wc cn cg m9 mn mg) (h9 : SAME 1 m9 m9') (hn : SAME 5 mn mn') (hg : SAME 5 mg mg') : RWorks nw wn wg wc cn cg m9' mn' mg' :=
  ⟨h.1, h.2.1, (h9 0 (by decide)).trans h.2.2.1, fun j hj => ⟨⟨(h.2.2.2 j hj).1.1, (hn j (by have := h.1; omega)).trans (h.2.2.2 j hj).1.2.1, (h.2.2.2 j hj).1.2.2⟩, (h.2.2.2 j hj).2.1, (hg j (by have := h.1; omega)).trans (h.2.2.2 j hj).2.2.1, (h.2.2.2 j hj).2.2.2⟩⟩
theorem RHouses.half {nh : Nat} {hp hm : Nat → Nat} {hc : Int32} {cp cm m4 mp mm m4' mp' mm' : AR} (h : RHouses nh hp hm hc cp cm m4 mp mm) (h4 : SAME 1 m4 m4') (h5 : SAME 6 mp mp') (h6 : SAME 6 mm mm') : RHouses nh hp hm hc cp cm m4' mp' mm' :=
  ⟨h.1, h.2.1, (h4 0 (by decide)).trans h.2.2.1, fun j hj => ⟨⟨(h.2.2.2 j hj).1.1, (h5 j (by have := h.1; omega)).trans (h.2.2.2 j hj).1.2.1, (h.2.2.2 j hj).1.2.2⟩, (h.2.2.2 j hj).2.1, (h6 j (by have := h.1; omega)).trans (h.2.2.2 j hj).2.2.1, (h.2.2.2 j hj).2.2.2⟩⟩
theorem RBoats.half {nb : Nat} {br : Nat → Nat} {bc : Int32} {cr m7 mr m7' mr' : AR} (h : RBoats nb br bc cr m7 mr) (h7 : SAME 1 m7 m7') (h8 : SAME 4 mr mr') : RBoats nb br bc cr m7' mr' :=
  ⟨h.1, h.2.1, (h7 0 (by decide)).trans h.2.2.1, fun j hj => ⟨(h.2.2.2 j hj).1, (h8 j (by have := h.1; omega)).trans (h.2.2.2 j hj).2.1, (h.2.2.2 j hj).2.2⟩⟩
theorem RCost.half {tc bd : Nat} {lg : Nat → Nat} {c9 c10 : Int32} {cl m12 mg m12' mg' : AR} (h : RCost tc bd lg c9 c10 cl m12 mg) (h1 : SAME 2 m12 m12') (h2 : SAME 3 mg mg') : RCost tc bd lg c9 c10 cl m12' mg' :=
  ⟨h.1, h.2.1, h.2.2.1, h.2.2.2.1, (h1 0 (by decide)).trans h.2.2.2.2.1, (h1 1 (by decide)).trans h.2.2.2.2.2.1, fun j hj => ⟨(h.2.2.2.2.2.2 j hj).1, (h2 j hj).trans (h.2.2.2.2.2.2 j hj).2.1, (h.2.2.2.2.2.2 j hj).2.2⟩⟩
theorem fw_fault {l t : Int32} {a b : AR} (hT : RText l a t b) (x1 x2 x3 x4 x5 x6 e lt' c : Int32) (nu brr hm hpp lgr sn wg wn : AR) (at0 so0 : Int32) (m : MT) :
    ∃ o1 o2, F_X9_fault x1 x2 x3 x4 x5 x6 brr hm hpp lgr sn wg wn e lt' c nu l a = some o1 ∧ F_X10_fault at0 so0 t m.1 m.2.1 m.2.2.1 m.2.2.2.1 m.2.2.2.2.1 m.2.2.2.2.2.1 m.2.2.2.2.2.2.1 m.2.2.2.2.2.2.2.1 m.2.2.2.2.2.2.2.2.1 m.2.2.2.2.2.2.2.2.2.1 b m.2.2.2.2.2.2.2.2.2.2.1 m.2.2.2.2.2.2.2.2.2.2.2 = some o2 ∧ o1.1 = o2.1 ∧ HALF m o2.2.2.2 := by
  obtain ⟨n, lt, rfl, rfl, hX⟩ := tx_of hT
  obtain ⟨v, d', e', l', c', nu', at', so', m', k1, k2, k3, k4⟩ := fw_read hX x1 x2 x3 x4 x5 x6 e lt' c nu brr hm hpp lgr sn wg wn at0 so0 m
  refine ⟨(v, d'.1, d'.2.1, d'.2.2.1, d'.2.2.2.1, d'.2.2.2.2.1, d'.2.2.2.2.2.1, d'.2.2.2.2.2.2.1, d'.2.2.2.2.2.2.2.1, d'.2.2.2.2.2.2.2.2.1, d'.2.2.2.2.2.2.2.2.2.1, d'.2.2.2.2.2.2.2.2.2.2.1, d'.2.2.2.2.2.2.2.2.2.2.2.1, d'.2.2.2.2.2.2.2.2.2.2.2.2, e', l', c', nu'), _, ?_, k2, rfl, k3⟩
  rw [F_X9_fault, k1, sb]
theorem sim_fault : ∀ (σ μ : SS), Rel σ μ → ∃ q r, SX_fault σ = some q ∧ SM_fault μ = some r ∧ q.1 = r.1 ∧ Rel q.2 r.2 := by
  intro σ μ ⟨ns, nw, nh, nb, tc, bd, lg, sg, wn, wg, hp, hm, br, hT, hS, hW, hH, hB, hC, hD, hK, hA⟩
  obtain ⟨o1, o2, e1, e2, e3, g1, g2, g3, g4, g5, g6, g7, g8, g9, g10, g11, g12⟩ := fw_fault hT (σ.1 13) (σ.1 16) (σ.1 12) (σ.1 11) (σ.1 15) (σ.1 14) (σ.1 4) (σ.1 3) (σ.1 2) (σ.2.1 1) (σ.2.1 13) (σ.2.1 12) (σ.2.1 11) (σ.2.1 9) (σ.2.1 10) (σ.2.1 15) (σ.2.1 14) (μ.1 1) (μ.1 2) (μ.2.1 8, μ.2.1 7, μ.2.1 11, μ.2.1 12, μ.2.1 1, μ.2.1 4, μ.2.1 6, μ.2.1 10, μ.2.1 5, μ.2.1 2, μ.2.1 3, μ.2.1 9)
  exact ⟨_, _, sx_of e1, sx_of e2, e3, ns, nw, nh, nb, tc, bd, lg, sg, wn, wg, hp, hm, br, hT, hS.half g10 g11, hW.half g12 g8 g3, hH.half g6 g9 g7, hB.half g2 g1, hC.half g4 g5, hD, hK, hA⟩
