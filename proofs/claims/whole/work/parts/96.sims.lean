/-! the simulation lemmas of what is believed of its sleep -/
theorem twh_of {ns nw tc bd : Nat} {sg wn wg lg : Nat → Nat} {sc wc c9 c10 : Int32} {cs m2 mt cn cg m9 mn mg cl m12 mgo : Nat → Int32} (hS : RSigns ns sg sc cs m2 mt) (hW : RWorks nw wn wg wc cn cg m9 mn mg) (hC : RCost tc bd lg c9 c10 cl m12 mgo) : TWH ns nw lg wn sg sc wc cl cs cn mgo mn m2 mt m9 :=
  ⟨hS.1, hS.2.1, hW.1, hS.2.2.1, hW.2.1, hS.2.2.2.1, hW.2.2.1, fun j h => ⟨⟨(hC.2.2.2.2.2.2 j h).1, (hC.2.2.2.2.2.2 j h).2.2⟩, (hC.2.2.2.2.2.2 j h).2.1, (hC.2.2.2.2.2.2 j h).2.2⟩,
    fun j h => ⟨⟨(hS.2.2.2.2.1 j h).1, (hS.2.2.2.2.1 j h).2.2⟩, (hS.2.2.2.2.1 j h).2.1, (hS.2.2.2.2.1 j h).2.2⟩, fun j h => ⟨⟨(hW.2.2.2 j h).1.1, (hW.2.2.2 j h).1.2.2⟩, (hW.2.2.2 j h).1.2.1, (hW.2.2.2 j h).1.2.2⟩⟩
theorem sim_feigned : ∀ (σ μ : SS), Rel σ μ → ∃ q r, SX_feigned σ = some q ∧ SM_feigned μ = some r ∧ q.1 = r.1 ∧ Rel q.2 r.2 := by
  intro σ μ ⟨ns, nw, nh, nb, tc, bd, lg, sg, wn, wg, hp, hm, br, hT, hS, hW, hH, hB, hC, hD, hK, hA⟩
  have hns := hS.2.1
  have hnw := hW.1
  obtain ⟨n, sd, wd, hDY⟩ := dyh_of (by omega) hnw hD
  have hTW := twh_of hS hW hC
  obtain ⟨o1, o2, e1, e2, e3⟩ := fw_feigned hDY hTW (σ.2.2.2 0) (σ.2.2.1 1) (σ.2.2.1 0) (μ.2.2.1 1) (μ.2.2.1 0)
  exact ⟨_, _, sx_of e1, sx_of e2, e3, ns, nw, nh, nb, tc, bd, lg, sg, wn, wg, hp, hm, br, hT, hS, hW, hH, hB, hC, hD, hK, hA⟩
theorem sim_belief : ∀ (x1 : Int32) (x2 : Int32) (σ μ : SS), Rel σ μ → ∃ q r, SX_belief x1 x2 σ = some q ∧ SM_belief x1 x2 μ = some r ∧ q.1 = r.1 ∧ Rel q.2 r.2 := by
  intro x1 x2 σ μ ⟨ns, nw, nh, nb, tc, bd, lg, sg, wn, wg, hp, hm, br, hT, hS, hW, hH, hB, hC, hD, hK, hA⟩
  have hns := hS.2.1
  have hnw := hW.1
  obtain ⟨n, sd, wd, hDY⟩ := dyh_of (by omega) hnw hD
  have hTW := twh_of hS hW hC
  obtain ⟨o1, o2, e1, e2, e3⟩ := fw_belief x1 x2 hDY hTW (σ.2.2.2 0) (σ.2.2.1 1) (σ.2.2.1 0) (μ.2.2.1 1) (μ.2.2.1 0)
  exact ⟨_, _, sx_of e1, sx_of e2, e3, ns, nw, nh, nb, tc, bd, lg, sg, wn, wg, hp, hm, br, hT, hS, hW, hH, hB, hC, hD, hK, hA⟩
theorem sim_near : ∀ (x1 : Int32) (x2 : Int32) (x3 : Int32) (σ μ : SS), Rel σ μ → ∃ q r, SX_near x1 x2 x3 σ = some q ∧ SM_near x1 x2 x3 μ = some r ∧ q.1 = r.1 ∧ Rel q.2 r.2 := by
  intro x1 x2 x3 σ μ ⟨ns, nw, nh, nb, tc, bd, lg, sg, wn, wg, hp, hm, br, hT, hS, hW, hH, hB, hC, hD, hK, hA⟩
  have hns := hS.2.1
  have hnw := hW.1
  obtain ⟨n, sd, wd, hDY⟩ := dyh_of (by omega) hnw hD
  have hTW := twh_of hS hW hC
  obtain ⟨o1, o2, e1, e2, e3⟩ := fw_near x1 x2 x3 hDY hTW (σ.2.2.2 1) (σ.2.2.2 0) (μ.2.2.2 0) (σ.2.2.1 3) (σ.2.2.1 2) (σ.2.2.1 1) (σ.2.2.1 0) (μ.2.2.1 1) (μ.2.2.1 2) (μ.2.2.1 0)
  exact ⟨_, _, sx_of e1, sx_of e2, e3, ns, nw, nh, nb, tc, bd, lg, sg, wn, wg, hp, hm, br, hT, hS, hW, hH, hB, hC, hD, hK, hA⟩
theorem sim_sight : ∀ (x1 : Int32) (x2 : Int32) (x3 : Int32) (σ μ : SS), Rel σ μ → ∃ q r, SX_sight x1 x2 x3 σ = some q ∧ SM_sight x1 x2 x3 μ = some r ∧ q.1 = r.1 ∧ Rel q.2 r.2 := by
  intro x1 x2 x3 σ μ ⟨ns, nw, nh, nb, tc, bd, lg, sg, wn, wg, hp, hm, br, hT, hS, hW, hH, hB, hC, hD, hK, hA⟩
  have hns := hS.2.1
  have hnw := hW.1
  obtain ⟨n, sd, wd, hDY⟩ := dyh_of (by omega) hnw hD
  have hTW := twh_of hS hW hC
  obtain ⟨o1, o2, e1, e2, e3⟩ := fw_sight x1 x2 x3 hDY hTW (σ.2.2.2 1) (σ.2.2.2 0) (μ.2.2.2 1) (σ.2.2.1 3) (σ.2.2.1 2) (σ.2.2.1 1) (σ.2.2.1 0) (μ.2.2.1 1) (μ.2.2.1 0)
  exact ⟨_, _, sx_of e1, sx_of e2, e3, ns, nw, nh, nb, tc, bd, lg, sg, wn, wg, hp, hm, br, hT, hS, hW, hH, hB, hC, hD, hK, hA⟩
theorem sim_tells : ∀ (x1 : Int32) (σ μ : SS), Rel σ μ → ∃ q r, SX_tells x1 σ = some q ∧ SM_tells x1 μ = some r ∧ q.1 = r.1 ∧ Rel q.2 r.2 := by
  intro x1 σ μ ⟨ns, nw, nh, nb, tc, bd, lg, sg, wn, wg, hp, hm, br, hT, hS, hW, hH, hB, hC, hD, hK, hA⟩
  have hns := hS.2.1
  have hnw := hW.1
  obtain ⟨n, sd, wd, hDY⟩ := dyh_of (by omega) hnw hD
  have hTW := twh_of hS hW hC
  obtain ⟨o1, o2, e1, e2, e3⟩ := fw_tells x1 hDY hTW (σ.2.2.2 1) (σ.2.2.2 0) (μ.2.2.2 1) (σ.2.2.1 3) (σ.2.2.1 2) (σ.2.2.1 1) (σ.2.2.1 0) (μ.2.2.1 1) (μ.2.2.1 0)
  exact ⟨_, _, sx_of e1, sx_of e2, e3, ns, nw, nh, nb, tc, bd, lg, sg, wn, wg, hp, hm, br, hT, hS, hW, hH, hB, hC, hD, hK, hA⟩
theorem sim_board : ∀ (x1 : Int32) (x2 : Int32) (σ μ : SS), Rel σ μ → ∃ q r, SX_board x1 x2 σ = some q ∧ SM_board x1 x2 μ = some r ∧ q.1 = r.1 ∧ Rel q.2 r.2 := by
  intro x1 x2 σ μ ⟨ns, nw, nh, nb, tc, bd, lg, sg, wn, wg, hp, hm, br, hT, hS, hW, hH, hB, hC, hD, hK, hA⟩
  have hns := hS.2.1
  have hnw := hW.1
  obtain ⟨n, sd, wd, hDY⟩ := dyh_of (by omega) hnw hD
  have hTW := twh_of hS hW hC
  obtain ⟨o1, o2, e1, e2, e3⟩ := fw_board x1 x2 hDY hTW hC.1 hC.2.1 hC.2.2.1 hC.2.2.2.1 hC.2.2.2.2.1 hC.2.2.2.2.2.1 (σ.2.2.2 1) (σ.2.2.2 0) (μ.2.2.2 0) (σ.2.2.1 3) (σ.2.2.1 2) (σ.2.2.1 1) (σ.2.2.1 0) (μ.2.2.1 1) (μ.2.2.1 2) (μ.2.2.1 0)
  exact ⟨_, _, sx_of e1, sx_of e2, e3, ns, nw, nh, nb, tc, bd, lg, sg, wn, wg, hp, hm, br, hT, hS, hW, hH, hB, hC, hD, hK, hA⟩
theorem sim_quiet : ∀ (x1 : Int32) (x2 : Int32) (σ μ : SS), Rel σ μ → ∃ q r, SX_quiet x1 x2 σ = some q ∧ SM_quiet x1 x2 μ = some r ∧ q.1 = r.1 ∧ Rel q.2 r.2 := by
  intro x1 x2 σ μ ⟨ns, nw, nh, nb, tc, bd, lg, sg, wn, wg, hp, hm, br, hT, hS, hW, hH, hB, hC, hD, hK, hA⟩
  have hns := hS.2.1
  have hnw := hW.1
  obtain ⟨n, sd, wd, hDY⟩ := dyh_of (by omega) hnw hD
  have hTW := twh_of hS hW hC
  obtain ⟨o1, o2, e1, e2, e3⟩ := fw_quiet x1 x2 hDY hTW (fun j h => ((hW.2.2.2 j h).2)) (σ.2.2.2 1) (σ.2.2.2 0) (μ.2.2.2 0) (σ.2.2.1 3) (σ.2.2.1 2) (σ.2.2.1 1) (σ.2.2.1 0) (μ.2.2.1 1) (μ.2.2.1 2) (μ.2.2.1 0)
  exact ⟨_, _, sx_of e1, sx_of e2, e3, ns, nw, nh, nb, tc, bd, lg, sg, wn, wg, hp, hm, br, hT, hS, hW, hH, hB, hC, hD, hK, hA⟩
