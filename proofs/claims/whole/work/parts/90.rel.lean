/-! the relation of the two states, and what is kept by the calls -/
def RCost (tc bd : Nat) (lg : Nat → Nat) (c9 c10 : Int32) (cl m12 mg : Nat → Int32) : Prop := tc ≤ 99 ∧ bd ≤ 9 ∧ c9 = nI tc ∧ c10 = nI bd ∧ m12 0 = nI tc ∧ m12 1 = nI bd ∧ ∀ j, j < 3 → cl j = nI (lg j) ∧ mg j = nI (lg j) ∧ lg j ≤ 4
def RAll (ns nw nh nb tc bd : Nat) (lg sg wn wg hp hm br : Nat → Nat) (σ μ : SS) : Prop :=
  RText (σ.1 1) (σ.2.1 0) (μ.1 0) (μ.2.1 0) ∧
  RSigns ns sg (σ.1 5) (σ.2.1 3) (μ.2.1 2) (μ.2.1 3) ∧
  RWorks nw wn wg (σ.1 8) (σ.2.1 7) (σ.2.1 8) (μ.2.1 9) (μ.2.1 10) (μ.2.1 11) ∧
  RHouses nh hp hm (σ.1 6) (σ.2.1 4) (σ.2.1 5) (μ.2.1 4) (μ.2.1 5) (μ.2.1 6) ∧
  RBoats nb br (σ.1 7) (σ.2.1 6) (μ.2.1 7) (μ.2.1 8) ∧
  RCost tc bd lg (σ.1 9) (σ.1 10) (σ.2.1 2) (μ.2.1 12) (μ.2.1 1) ∧
  RDiary ns nw (σ.1 17) (σ.2.1 16) (σ.2.1 17) (μ.2.1 13) (μ.2.1 14) (μ.2.1 15) 0 ∧
  RKept ns nw (σ.1 0) (σ.1 18) (σ.2.1 18) (σ.2.1 19) (σ.1 19) (σ.2.1 20) (σ.2.1 21) (μ.1 3) (μ.2.1 13) (μ.2.1 14) (μ.2.1 15) ∧
  RTold ns (σ.1 20) (σ.2.1 22) (σ.2.1 23) (μ.1 4) (μ.2.1 18) (μ.2.1 19)
def Rel (σ μ : SS) : Prop := ∃ (ns nw nh nb tc bd : Nat) (lg sg wn wg hp hm br : Nat → Nat), RAll ns nw nh nb tc bd lg sg wn wg hp hm br σ μ
theorem sx_of {A B : Type} {f : Option A} {g : A → Option B} {o : A} (h : f = some o) : f.bind g = g o := by rw [h]; rfl
theorem sim_write : ∀ (x1 : Int32) (σ μ : SS), Rel σ μ → ∃ q r, SX_write x1 σ = some q ∧ SM_write x1 μ = some r ∧ q.1 = r.1 ∧ Rel q.2 r.2 := by
  intro x1 σ μ ⟨ns, nw, nh, nb, tc, bd, lg, sg, wn, wg, hp, hm, br, hT, hS, hW, hH, hB, hC, hD, hK, hA⟩
  obtain ⟨o1, o2, e1, e2, e3, e4⟩ := fw_write x1 hT
  exact ⟨_, _, sx_of e1, sx_of e2, e3, ns, nw, nh, nb, tc, bd, lg, sg, wn, wg, hp, hm, br, e4, hS, hW, hH, hB, hC, hD, hK, hA⟩
theorem sim_wipe : ∀ (σ μ : SS), Rel σ μ → ∃ q r, SX_wipe σ = some q ∧ SM_wipe μ = some r ∧ q.1 = r.1 ∧ Rel q.2 r.2 := by
  intro σ μ ⟨ns, nw, nh, nb, tc, bd, lg, sg, wn, wg, hp, hm, br, hT, hS, hW, hH, hB, hC, hD, hK, hA⟩
  obtain ⟨o1, o2, e1, e2, e3, e4⟩ := fw_wipe hT
  exact ⟨_, _, sx_of e1, sx_of e2, e3, ns, nw, nh, nb, tc, bd, lg, sg, wn, wg, hp, hm, br, e4, hS, hW, hH, hB, hC, hD, hK, hA⟩
theorem sim_sign : ∀ (x1 : Int32) (x2 : Int32) (σ μ : SS), Rel σ μ → ∃ q r, SX_sign x1 x2 σ = some q ∧ SM_sign x1 x2 μ = some r ∧ q.1 = r.1 ∧ Rel q.2 r.2 := by
  intro x1 x2 σ μ ⟨ns, nw, nh, nb, tc, bd, lg, sg, wn, wg, hp, hm, br, hT, hS, hW, hH, hB, hC, hD, hK, hA⟩
  obtain ⟨v, e1, e2⟩ := fw_sign x1 x2 hS
  exact ⟨_, _, sx_of e1, sx_of e2, rfl, ns, nw, nh, nb, tc, bd, lg, sg, wn, wg, hp, hm, br, hT, hS, hW, hH, hB, hC, hD, hK, hA⟩
theorem sim_works : ∀ (x1 : Int32) (x2 : Int32) (σ μ : SS), Rel σ μ → ∃ q r, SX_works x1 x2 σ = some q ∧ SM_works x1 x2 μ = some r ∧ q.1 = r.1 ∧ Rel q.2 r.2 := by
  intro x1 x2 σ μ ⟨ns, nw, nh, nb, tc, bd, lg, sg, wn, wg, hp, hm, br, hT, hS, hW, hH, hB, hC, hD, hK, hA⟩
  obtain ⟨v, e1, e2⟩ := fw_works x1 x2 hW
  exact ⟨_, _, sx_of e1, sx_of e2, rfl, ns, nw, nh, nb, tc, bd, lg, sg, wn, wg, hp, hm, br, hT, hS, hW, hH, hB, hC, hD, hK, hA⟩
theorem sim_day : ∀ (x1 : Int32) (x2 : Int32) (σ μ : SS), Rel σ μ → ∃ q r, SX_day x1 x2 σ = some q ∧ SM_day x1 x2 μ = some r ∧ q.1 = r.1 ∧ Rel q.2 r.2 := by
  intro x1 x2 σ μ ⟨ns, nw, nh, nb, tc, bd, lg, sg, wn, wg, hp, hm, br, hT, hS, hW, hH, hB, hC, hD, hK, hA⟩
  obtain ⟨o1, o2, e1, e2, e3, e4, e5, e6⟩ := fw_day x1 x2 (ns := ns) (nw := nw) (Nat.lt_of_le_of_lt hS.2.1 (by decide)) (Nat.lt_of_le_of_lt hW.1 (by decide)) hS.2.2.1 hW.2.1 hS.2.2.2.1 hW.2.2.1 hD
  obtain ⟨n, hn, k1, k2, k3, k4⟩ := hK
  exact ⟨_, _, sx_of e1, sx_of e2, e3, ns, nw, nh, nb, tc, bd, lg, sg, wn, wg, hp, hm, br, hT, hS, hW, hH, hB, hC, e4, ⟨n, hn, k1, k2, fun h => (k3 h).congr (e5 1 (by omega)) (fun j h => e6 _ (by omega)), fun h => (k4 h).congr (e5 2 (by omega)) (fun j h => e6 _ (by omega))⟩, hA⟩
theorem sim_diary : ∀ (x1 : Int32) (x2 : Int32) (σ μ : SS), Rel σ μ → ∃ q r, SX_diary x1 x2 σ = some q ∧ SM_diary x1 x2 μ = some r ∧ q.1 = r.1 ∧ Rel q.2 r.2 := by
  intro x1 x2 σ μ ⟨ns, nw, nh, nb, tc, bd, lg, sg, wn, wg, hp, hm, br, hT, hS, hW, hH, hB, hC, hD, hK, hA⟩
  obtain ⟨v, e1, e2⟩ := fw_diary x1 x2 hD
  exact ⟨_, _, sx_of e1, sx_of e2, rfl, ns, nw, nh, nb, tc, bd, lg, sg, wn, wg, hp, hm, br, hT, hS, hW, hH, hB, hC, hD, hK, hA⟩
theorem sim_undo : ∀ (σ μ : SS), Rel σ μ → ∃ q r, SX_undo σ = some q ∧ SM_undo μ = some r ∧ q.1 = r.1 ∧ Rel q.2 r.2 := by
  intro σ μ ⟨ns, nw, nh, nb, tc, bd, lg, sg, wn, wg, hp, hm, br, hT, hS, hW, hH, hB, hC, hD, hK, hA⟩
  obtain ⟨o1, o2, e1, e2, e3, e4, e5⟩ := fw_undo hD
  obtain ⟨n, hn, k1, k2, k3, k4⟩ := hK
  exact ⟨_, _, sx_of e1, sx_of e2, e3, ns, nw, nh, nb, tc, bd, lg, sg, wn, wg, hp, hm, br, hT, hS, hW, hH, hB, hC, e4, ⟨n, hn, k1, k2, fun h => (k3 h).congr (e5 1 (by omega)) (fun j h => ⟨rfl, rfl⟩), fun h => (k4 h).congr (e5 2 (by omega)) (fun j h => ⟨rfl, rfl⟩)⟩, hA⟩
theorem sim_saved : ∀ (x1 : Int32) (σ μ : SS), Rel σ μ → ∃ q r, SX_saved x1 σ = some q ∧ SM_saved x1 μ = some r ∧ q.1 = r.1 ∧ Rel q.2 r.2 := by
  intro x1 σ μ ⟨ns, nw, nh, nb, tc, bd, lg, sg, wn, wg, hp, hm, br, hT, hS, hW, hH, hB, hC, hD, hK, hA⟩
  obtain ⟨v, e1, e2⟩ := fw_saved x1 hH hB
  exact ⟨_, _, sx_of e1, sx_of e2, rfl, ns, nw, nh, nb, tc, bd, lg, sg, wn, wg, hp, hm, br, hT, hS, hW, hH, hB, hC, hD, hK, hA⟩
theorem sim_ahead : ∀ (x1 : Int32) (x2 : Int32) (σ μ : SS), Rel σ μ → ∃ q r, SX_ahead x1 x2 σ = some q ∧ SM_ahead x1 x2 μ = some r ∧ q.1 = r.1 ∧ Rel q.2 r.2 := by
  intro x1 x2 σ μ ⟨ns, nw, nh, nb, tc, bd, lg, sg, wn, wg, hp, hm, br, hT, hS, hW, hH, hB, hC, hD, hK, hA⟩
  obtain ⟨o1, o2, e1, e2, e3, e4⟩ := fw_ahead x1 x2 hS.2.1 hS.2.2.1 hS.2.2.2.1 hA
  exact ⟨_, _, sx_of e1, sx_of e2, e3, ns, nw, nh, nb, tc, bd, lg, sg, wn, wg, hp, hm, br, hT, hS, hW, hH, hB, hC, hD, hK, e4⟩
theorem sim_forget : ∀ (σ μ : SS), Rel σ μ → ∃ q r, SX_forget σ = some q ∧ SM_forget μ = some r ∧ q.1 = r.1 ∧ Rel q.2 r.2 := by
  intro σ μ ⟨ns, nw, nh, nb, tc, bd, lg, sg, wn, wg, hp, hm, br, hT, hS, hW, hH, hB, hC, hD, hK, hA⟩
  obtain ⟨o1, o2, e1, e2, e3, e4⟩ := fw_forget hA
  exact ⟨_, _, sx_of e1, sx_of e2, e3, ns, nw, nh, nb, tc, bd, lg, sg, wn, wg, hp, hm, br, hT, hS, hW, hH, hB, hC, hD, hK, e4⟩
theorem sim_spring : ∀ (x1 : Int32) (x2 : Int32) (x3 : Int32) (σ μ : SS), Rel σ μ → ∃ q r, SX_spring x1 x2 x3 σ = some q ∧ SM_spring x1 x2 x3 μ = some r ∧ q.1 = r.1 ∧ Rel q.2 r.2 := by
  intro x1 x2 x3 σ μ ⟨ns, nw, nh, nb, tc, bd, lg, sg, wn, wg, hp, hm, br, hT, hS, hW, hH, hB, hC, hD, hK, hA⟩
  obtain ⟨v, e1, e2⟩ := fw_spring x1 x2 x3 hW (fun j h => ⟨(hC.2.2.2.2.2.2 j h).1, (hC.2.2.2.2.2.2 j h).2.2⟩) (fun j h => ⟨(hC.2.2.2.2.2.2 j h).2.1, (hC.2.2.2.2.2.2 j h).2.2⟩)
  exact ⟨_, _, sx_of e1, sx_of e2, rfl, ns, nw, nh, nb, tc, bd, lg, sg, wn, wg, hp, hm, br, hT, hS, hW, hH, hB, hC, hD, hK, hA⟩
theorem sim_keep : ∀ (σ μ : SS), Rel σ μ → ∃ q r, SX_keep σ = some q ∧ SM_keep μ = some r ∧ q.1 = r.1 ∧ Rel q.2 r.2 := by
  intro σ μ ⟨ns, nw, nh, nb, tc, bd, lg, sg, wn, wg, hp, hm, br, hT, hS, hW, hH, hB, hC, hD, hK, hA⟩
  obtain ⟨o1, o2, e1, e2, e3, e4, e5⟩ := fw_keep hD hK
  exact ⟨_, _, sx_of e1, sx_of e2, e3, ns, nw, nh, nb, tc, bd, lg, sg, wn, wg, hp, hm, br, hT, hS, hW, hH, hB, hC, e4, e5, hA⟩
theorem sim_back : ∀ (σ μ : SS), Rel σ μ → ∃ q r, SX_back σ = some q ∧ SM_back μ = some r ∧ q.1 = r.1 ∧ Rel q.2 r.2 := by
  intro σ μ ⟨ns, nw, nh, nb, tc, bd, lg, sg, wn, wg, hp, hm, br, hT, hS, hW, hH, hB, hC, hD, hK, hA⟩
  obtain ⟨o1, o2, e1, e2, e3, e4, e5⟩ := fw_back hD hK
  exact ⟨_, _, sx_of e1, sx_of e2, e3, ns, nw, nh, nb, tc, bd, lg, sg, wn, wg, hp, hm, br, hT, hS, hW, hH, hB, hC, e4, e5, hA⟩
theorem sim_count : ∀ (x1 : Int32) (σ μ : SS), Rel σ μ → ∃ q r, SX_count x1 σ = some q ∧ SM_count x1 μ = some r ∧ q.1 = r.1 ∧ Rel q.2 r.2 := by
  intro x1 σ μ ⟨ns, nw, nh, nb, tc, bd, lg, sg, wn, wg, hp, hm, br, hT, hS, hW, hH, hB, hC, hD, hK, hA⟩
  have hd : μ.2.1 13 0 = σ.1 17 := by obtain ⟨n, _, h1, h2, _⟩ := hD; rw [h1, h2]
  have ha : μ.1 4 = σ.1 20 := by obtain ⟨n, _, h1, h2, _⟩ := hA; rw [h1, h2]
  have hk : μ.1 3 = σ.1 0 := by obtain ⟨n, _, h1, h2, _⟩ := hK; rw [h1, h2]
  have ht : μ.1 0 = σ.1 1 := by obtain ⟨n, _, h1, h2, _⟩ := hT; rw [h1, h2]
  obtain ⟨v, e1, e2⟩ := fw_count x1 hH (hS.2.2.2.1.trans hS.2.2.1.symm) (hB.2.2.1.trans hB.2.1.symm) (hW.2.2.1.trans hW.2.1.symm) hd ha hk ht
  exact ⟨_, _, sx_of e1, sx_of e2, rfl, ns, nw, nh, nb, tc, bd, lg, sg, wn, wg, hp, hm, br, hT, hS, hW, hH, hB, hC, hD, hK, hA⟩
theorem sim_drift : ∀ (x1 : Int32) (x2 : Int32) (x3 : Int32) (x4 : Int32) (x5 : Int32) (σ μ : SS), Rel σ μ → ∃ q r, SX_drift x1 x2 x3 x4 x5 σ = some q ∧ SM_drift x1 x2 x3 x4 x5 μ = some r ∧ q.1 = r.1 ∧ Rel q.2 r.2 := by
  intro x1 x2 x3 x4 x5 σ μ ⟨ns, nw, nh, nb, tc, bd, lg, sg, wn, wg, hp, hm, br, hT, hS, hW, hH, hB, hC, hD, hK, hA⟩
  obtain ⟨o1, o2, e1, e2, e3⟩ := fw_drift x1 x2 x3 x4 x5 (σ.2.1 27) (σ.2.1 28) (μ.2.1 16) (μ.2.1 17)
  exact ⟨_, _, sx_of e1, sx_of e2, e3, ns, nw, nh, nb, tc, bd, lg, sg, wn, wg, hp, hm, br, hT, hS, hW, hH, hB, hC, hD, hK, hA⟩
