/-! pure rows: CREWS, the reference; the simulation -/
theorem many10 : ∀ s, s < 16 → F_X10_manyOf (nI s) = some (nI (pcN s)) := by decide +kernel
theorem l_sum10 {nh b : Nat} {hp : Nat → Nat} {pe : AR} (hnh : nh ≤ 6) (hb : b < 4) (hpe : ∀ j, j < nh → pe j = nI (hp j) ∧ hp j ≤ 9) (k71 : Int32 → Option Int32) : ∀ (k f s v : Nat), k ≤ nh → k < f → v < 4 ^ k → L_X10_boatsOf_29 pe (nI b) k71 f (nI s) (nI v) (nI k - 1) = k71 (nI (s + dsN hp b k v)) := by
  intro k
  induction k with
  | zero =>
    intro f s v hk hf hv
    obtain ⟨f, rfl⟩ : ∃ x, f = x + 1 := ⟨f - 1, by omega⟩
    rw [L_X10_boatsOf_29, if_pos (by decide), dsN, Nat.add_zero]
  | succ k ih =>
    intro f s v hk hf hv
    obtain ⟨f, rfl⟩ : ∃ x, f = x + 1 := ⟨f - 1, by omega⟩
    have h46 : 4 ^ (k + 1) ≤ 4 ^ 6 := Nat.pow_le_pow_right (by decide) (by omega)
    have hv4 : v / 4 < 4 ^ k := by rw [Nat.div_lt_iff_lt_mul (by decide), Nat.mul_comm, ← p4s]; exact hv
    have e1 : nI v / 4 = nI (v / 4) := pk_div (a := v) (d := 4) (by omega) (by decide) (by decide)
    have e2 : nI v - nI v / 4 * 4 = nI (v % 4) := pk_rem (a := v) (d := 4) (by omega) (by decide) (by decide)
    have e3 : nI k + (-1) = nI k - 1 := (Int32.sub_eq_add_neg _ _).symm
    obtain ⟨g1, g2⟩ := hpe k (by omega)
    rw [L_X10_boatsOf_29, nI_pred, if_neg (nI_pos (by omega)), jn, e2, e1, e3, dsN]
    by_cases e : v % 4 = b
    · rw [if_pos (by rw [e]), if_pos (inbT (k := k) (n := 12) (by omega) (by decide)), nI_clamp (n := k) (by omega), g1, if_pos e]
      try dsimp only
      rw [nI_add, ih f _ _ (by omega) (by omega) hv4, Nat.add_assoc]
    · rw [if_neg (fun q => e ((nI_eq (by omega) (by omega)).mp q)), if_neg e]
      try dsimp only
      rw [show nI s + 0 = nI (s + 0) from nI_add s 0, ih f _ _ (by omega) (by omega) hv4, Nat.add_assoc]
def okb (nb : Nat) (br hp : Nat → Nat) (nh c t : Nat) : Prop := ldN hp nh 0 c t = 0 ∨ (t < nb ∧ ldN hp nh 0 c t ≤ br t)
theorem l_boats10 {nb nh c : Nat} {hp br : Nat → Nat} {pe m7 mr m4 : AR} (hnb : nb ≤ 4) (hnh : nh ≤ 6) (hc : c < 4 ^ nh) (hpe : ∀ j, j < nh → pe j = nI (hp j) ∧ hp j ≤ 9) (hbr : ∀ j, j < nb → mr j = nI (br j) ∧ br j ≤ 30) (h7 : m7 0 = nI nb) (h4 : m4 0 = nI nh) (k131 : Int32 → Int32 → Option Int32) :
    ∀ (r b f : Nat) (v : Bool), b + r = 4 → r < f → (v = true ↔ ∀ t, t < b → okb nb br hp nh c t) → ∃ v' : Bool, L_X10_boatsOf_7 (nI c) mr m7 m4 pe k131 f (nI (useK hp nh c b)) (if v = true then 1 else 0) (nI b) = k131 (nI (useN hp nh c)) (if v' = true then 1 else 0) ∧ (v' = true ↔ FIT nb br hp nh c) := by
  have h7' : m7 (Int32.toNatClampNeg 0) = nI nb := h7
  have h4' : m4 (Int32.toNatClampNeg 0) = nI nh := h4
  intro r
  induction r with
  | zero =>
    intro b f v hb hf hv
    obtain ⟨f, rfl⟩ : ∃ x, f = x + 1 := ⟨f - 1, by omega⟩
    obtain rfl : b = 4 := by omega
    exact ⟨v, by rw [L_X10_boatsOf_7, if_pos (by decide), useN], hv⟩
  | succ r ih =>
    intro b f v hb hf hv
    obtain ⟨f, rfl⟩ : ∃ x, f = x + 1 := ⟨f - 1, by omega⟩
    have hl := ld_le (hp := hp) (nh := nh) (fun j h => (hpe j h).2) b nh 0 c (by omega)
    have hu := use_k hp nh c b (by omega)
    have go : ∀ w : Bool, (w = true ↔ ∀ t, t < b + 1 → okb nb br hp nh c t) → ∃ v' : Bool, L_X10_boatsOf_7 (nI c) mr m7 m4 pe k131 f (nI (useK hp nh c (b + 1))) (if w = true then 1 else 0) (nI (b + 1)) = k131 (nI (useN hp nh c)) (if v' = true then 1 else 0) ∧ (v' = true ↔ FIT nb br hp nh c) := fun w hw => ih (b + 1) f w (by omega) (by omega) hw
    have hL := l_sum10 (nh := nh) (b := b) hnh (by omega) hpe (fun (x5_71 : Int32) => jn (fun (j0_108 : Int32) => jn (fun (j0_123 : Int32) => L_X10_boatsOf_7 (nI c) mr m7 m4 pe k131 f ((nI (useK hp nh c b) ||| j0_123)) j0_108 ((nI b + 1))) (fun k_123 => (if x5_71 ≤ 0 then k_123 0 else k_123 (((1 : Int32) <<< (nI b &&& 31)))))) (fun k_108 => jn (k_108 0) (fun k_107 => (if (if v = true then (1 : Int32) else 0) = 0 then k_107 else jn (k_108 1) (fun k_103 => (if x5_71 = 0 then k_103 else (if (m7 (Int32.toNatClampNeg 0)) ≤ nI b then k_107 else (if inb (nI b) 8 = true then (if (mr (Int32.toNatClampNeg (nI b))) < x5_71 then k_107 else k_103) else none)))))))) nh 5000 0 c (Nat.le_refl nh) (by omega) hc
    have setv : ∀ w : Int32, jn (fun (j0_123 : Int32) => L_X10_boatsOf_7 (nI c) mr m7 m4 pe k131 f ((nI (useK hp nh c b) ||| j0_123)) w ((nI b + 1))) (fun k_123 => (if nI (ldN hp nh 0 c b) ≤ 0 then k_123 0 else k_123 (((1 : Int32) <<< (nI b &&& 31))))) = L_X10_boatsOf_7 (nI c) mr m7 m4 pe k131 f (nI (useK hp nh c (b + 1))) w (nI (b + 1)) := by
      intro w
      rw [jn, nI_1, useK]
      by_cases e : 0 < ldN hp nh 0 c b
      · rw [if_neg (nI_nle e (by omega)), if_pos e]
        dsimp only
        rw [bm1 _ hu.1 b (by omega)]
      · rw [if_pos (show nI (ldN hp nh 0 c b) ≤ 0 by rw [show ldN hp nh 0 c b = 0 by omega]; decide), if_neg e, Nat.or_zero]
        dsimp only
        rw [Int32.or_zero]
    have L7 : ∀ x y : Int32, x = y → L_X10_boatsOf_7 (nI c) mr m7 m4 pe k131 f (nI (useK hp nh c (b + 1))) x (nI (b + 1)) = L_X10_boatsOf_7 (nI c) mr m7 m4 pe k131 f (nI (useK hp nh c (b + 1))) y (nI (b + 1)) := fun x y e => by rw [e]
    have fin : ∀ w : Bool, (w = true ↔ ∀ t, t < b + 1 → okb nb br hp nh c t) → (jn (fun (j0_108 : Int32) => jn (fun (j0_123 : Int32) => L_X10_boatsOf_7 (nI c) mr m7 m4 pe k131 f ((nI (useK hp nh c b) ||| j0_123)) j0_108 ((nI b + 1))) (fun k_123 => (if nI (ldN hp nh 0 c b) ≤ 0 then k_123 0 else k_123 (((1 : Int32) <<< (nI b &&& 31)))))) (fun k_108 => jn (k_108 0) (fun k_107 => (if (if v = true then (1 : Int32) else 0) = 0 then k_107 else jn (k_108 1) (fun k_103 => (if nI (ldN hp nh 0 c b) = 0 then k_103 else (if (m7 (Int32.toNatClampNeg 0)) ≤ nI b then k_107 else (if inb (nI b) 8 = true then (if (mr (Int32.toNatClampNeg (nI b))) < nI (ldN hp nh 0 c b) then k_107 else k_103) else none)))))))) = L_X10_boatsOf_7 (nI c) mr m7 m4 pe k131 f (nI (useK hp nh c (b + 1))) (if w = true then 1 else 0) (nI (b + 1)) := by
      intro w hw
      have no : ¬ (∀ t, t < b + 1 → okb nb br hp nh c t) → (0 : Int32) = (if w = true then 1 else 0) := fun q => by rw [if_neg (fun z => q (hw.mp z))]
      have yes : (∀ t, t < b + 1 → okb nb br hp nh c t) → (1 : Int32) = (if w = true then 1 else 0) := fun q => by rw [if_pos (hw.mpr q)]
      rw [jn, jn]
      cases v with
      | false =>
        rw [if_neg (show ¬ (false = true) by decide), if_pos rfl]
        exact (setv _).trans (L7 _ _ (no (fun q => absurd (hv.mpr (fun t ht => q t (by omega))) (by decide))))
      | true =>
        have hv' := hv.mp rfl
        rw [if_pos (show true = true from rfl), if_neg n10, jn, h7']
        by_cases e : ldN hp nh 0 c b = 0
        · rw [if_pos (show nI (ldN hp nh 0 c b) = 0 by rw [e]; rfl)]
          exact (setv _).trans (L7 _ _ (yes (fun t ht => by
            by_cases q : t = b
            · subst q; exact Or.inl e
            · exact hv' t (by omega))))
        · rw [if_neg (nI_ne0 (by omega) (by omega))]
          by_cases e2 : b < nb
          · obtain ⟨q1, q2⟩ := hbr b e2
            rw [if_neg (nI_ge e2 (by omega)), if_pos (inbT (k := b) (n := 8) (by omega) (by decide)), nI_clamp (n := b) (by omega), q1]
            by_cases e3 : br b < ldN hp nh 0 c b
            · rw [if_pos (nI_lt e3 (by omega))]
              exact (setv _).trans (L7 _ _ (no (fun q => by
                rcases q b (by omega) with z | ⟨z1, z2⟩
                · exact e z
                · omega)))
            · rw [if_neg (nI_nlt (by omega) (by omega))]
              exact (setv _).trans (L7 _ _ (yes (fun t ht => by
                by_cases q : t = b
                · subst q; exact Or.inr ⟨e2, by omega⟩
                · exact hv' t (by omega))))
          · rw [if_pos (nI_le (by omega) (by omega))]
            exact (setv _).trans (L7 _ _ (no (fun q => by
              rcases q b (by omega) with z | ⟨z1, z2⟩
              · exact e z
              · exact e2 z1)))
    rw [L_X10_boatsOf_7, if_neg (show ¬ (4 : Int32) ≤ nI b from nI_ge (a := b) (b := 4) (by omega) (by decide)), jn, h4']
    rw [Nat.zero_add, ds_ld hp b nh c hc] at hL
    by_cases e : ∀ t, t < b + 1 → okb nb br hp nh c t
    · obtain ⟨v', q1, q2⟩ := go true ⟨fun _ => e, fun _ => rfl⟩
      exact ⟨v', hL.trans ((fin true ⟨fun _ => e, fun _ => rfl⟩).trans q1), q2⟩
    · obtain ⟨v', q1, q2⟩ := go false ⟨fun q => absurd q (by decide), fun q => absurd q e⟩
      exact ⟨v', hL.trans ((fin false ⟨fun q => absurd q (by decide), fun q => absurd q e⟩).trans q1), q2⟩
theorem e_boats10 {nb nh c : Nat} {hp br : Nat → Nat} {pe m7 mr m4 : AR} (hnb : nb ≤ 4) (hnh : nh ≤ 6) (hc : c < 4 ^ nh) (hpe : ∀ j, j < nh → pe j = nI (hp j) ∧ hp j ≤ 9) (hbr : ∀ j, j < nb → mr j = nI (br j) ∧ br j ≤ 30) (h7 : m7 0 = nI nb) (h4 : m4 0 = nI nh) :
    (F_X10_boatsOf (nI c) mr m7 m4 pe = some (nI (useN hp nh c)) ∧ FIT nb br hp nh c) ∨ (F_X10_boatsOf (nI c) mr m7 m4 pe = some (nI 0) ∧ ¬ FIT nb br hp nh c) := by
  obtain ⟨v, g1, g2⟩ := l_boats10 hnb hnh hc hpe hbr h7 h4 (fun (x2_131 : Int32) (x3_131 : Int32) => (if x3_131 = 0 then some (0) else some (x2_131))) 4 0 5000 true (by decide) (by decide) ⟨fun _ t ht => absurd ht (by omega), fun _ => rfl⟩
  rw [F_X10_boatsOf, jn]
  cases v with
  | true =>
    refine Or.inl ⟨Eq.trans g1 ?_, g2.mp rfl⟩
    rw [if_pos (show true = true from rfl), if_neg n10]
  | false =>
    refine Or.inr ⟨Eq.trans g1 ?_, fun q => absurd (g2.mpr q) (by decide)⟩
    rw [if_neg (show ¬ (false = true) by decide), if_pos rfl]
    rfl
theorem shl4 : ∀ n, n ≤ 6 → (1 : Int32) <<< (2 * nI n &&& 31) = nI (4 ^ n) := by decide +kernel
theorem l_crews10 {nb nh : Nat} {hp br : Nat → Nat} {pe m7 mr m4 : AR} (hnb : nb ≤ 4) (hnh : nh ≤ 6) (hn1 : 1 ≤ nh) (hpe : ∀ j, j < nh → pe j = nI (hp j) ∧ 1 ≤ hp j ∧ hp j ≤ 9) (hbr : ∀ j, j < nb → mr j = nI (br j) ∧ br j ≤ 30) (h7 : m7 0 = nI nb) (h4 : m4 0 = nI nh) (k111 : Int32 → Int32 → Option Int32) :
    ∀ (r C f B F : Nat), C + r = 4 ^ nh → r < f → B < 16 → F < 4 ^ nh → RINV nb br hp nh C B F → ∃ B' F', L_X10_crews_25 mr m7 m4 pe k111 f (nI B) (nI F) (nI C) = k111 (nI B') (nI F') ∧ B' < 16 ∧ F' < 4 ^ nh ∧ RINV nb br hp nh (4 ^ nh) B' F' := by
  have h4' : m4 (Int32.toNatClampNeg 0) = nI nh := h4
  have h46 : 4 ^ nh ≤ 4 ^ 6 := Nat.pow_le_pow_right (by decide) (by omega)
  intro r
  induction r with
  | zero =>
    intro C f B F hC hf hB hF hR
    obtain ⟨f, rfl⟩ : ∃ x, f = x + 1 := ⟨f - 1, by omega⟩
    obtain rfl : C = 4 ^ nh := by omega
    exact ⟨B, F, by rw [L_X10_crews_25, h4', shl4 nh hnh, if_pos (nI_le (by omega) (by omega))], hB, hF, hR⟩
  | succ r ih =>
    intro C f B F hC hf hB hF hR
    obtain ⟨f, rfl⟩ : ∃ x, f = x + 1 := ⟨f - 1, by omega⟩
    have keep : RINV nb br hp nh (C + 1) B F → ∃ B' F', L_X10_crews_25 mr m7 m4 pe k111 f (nI B) (nI F) (nI (C + 1)) = k111 (nI B') (nI F') ∧ B' < 16 ∧ F' < 4 ^ nh ∧ RINV nb br hp nh (4 ^ nh) B' F' := fun q => ih (C + 1) f B F (by omega) (by omega) hB hF q
    rw [L_X10_crews_25, h4', shl4 nh hnh, if_neg (nI_ge (by omega) (by omega))]
    have hk1 : ∀ u : Int32, jn (fun (x2_105 : Int32) (x3_105 : Int32) => L_X10_crews_25 mr m7 m4 pe k111 f x2_105 x3_105 (nI (C + 1))) (fun k_105 => (if u ≤ 0 then k_105 (nI B) (nI F) else (if (1 : Int32) = 0 then k_105 (nI B) (nI F) else k_105 u (nI C)))) = if u ≤ 0 then L_X10_crews_25 mr m7 m4 pe k111 f (nI B) (nI F) (nI (C + 1)) else L_X10_crews_25 mr m7 m4 pe k111 f u (nI C) (nI (C + 1)) := by
      intro u
      rw [jn]
      by_cases q : u ≤ 0
      · rw [if_pos q, if_pos q]
      · rw [if_neg q, if_neg q, if_neg n10]
    have hk0 : ∀ u : Int32, jn (fun (x2_105 : Int32) (x3_105 : Int32) => L_X10_crews_25 mr m7 m4 pe k111 f x2_105 x3_105 (nI (C + 1))) (fun k_105 => (if u ≤ 0 then k_105 (nI B) (nI F) else (if (0 : Int32) = 0 then k_105 (nI B) (nI F) else k_105 u (nI C)))) = L_X10_crews_25 mr m7 m4 pe k111 f (nI B) (nI F) (nI (C + 1)) := by
      intro u
      rw [jn]
      by_cases q : u ≤ 0
      · rw [if_pos q]
      · rw [if_neg q, if_pos rfl]
    rcases e_boats10 (c := C) hnb hnh (by omega) (fun j h => ⟨(hpe j h).1, (hpe j h).2.2⟩) hbr h7 h4 with ⟨g1, g2⟩ | ⟨g1, g2⟩
    · have hu := use_lt hp nh C
      have hup := use_pos (c := C) hn1 (fun j h => (hpe j h).2.1) (by omega)
      have hm := many10 (useN hp nh C) hu
      have hmB := many10 B hB
      have hp1 : pcN (useN hp nh C) < 100 := by
        have := pc_le 4 (by decide) (useN hp nh C) (by omega) hup; omega
      rw [g1, sb, jn, jn, nI_1]
      try dsimp only
      rw [hk1, hk0, if_neg (nI_nle hup (by omega))]
      have take : (B = 0 ∨ keyN (useN hp nh C) < keyN B) → ∃ B' F', L_X10_crews_25 mr m7 m4 pe k111 f (nI (useN hp nh C)) (nI C) (nI (C + 1)) = k111 (nI B') (nI F') ∧ B' < 16 ∧ F' < 4 ^ nh ∧ RINV nb br hp nh (4 ^ nh) B' F' := by
        intro q
        refine ih (C + 1) f _ C (by omega) (by omega) hu (by omega) (Or.inr ⟨by omega, g2, rfl, ?_, ?_⟩)
        · intro c hc hfit
          rcases Nat.lt_or_ge c C with z | z
          · rcases hR with ⟨r1, r2⟩ | ⟨r1, r2, r3, r4, r5⟩
            · exact absurd hfit (r2 c z)
            · have := r4 c z hfit
              have hBp := use_pos (c := F) hn1 (fun j h => (hpe j h).2.1) hF
              omega
          · obtain rfl : c = C := by omega
            exact Nat.le_refl _
        · intro c hc hfit e
          rcases hR with ⟨r1, r2⟩ | ⟨r1, r2, r3, r4, r5⟩
          · exact r2 c hc hfit
          · have := r4 c hc hfit
            have hBp := use_pos (c := F) hn1 (fun j h => (hpe j h).2.1) hF
            rw [e] at this
            omega
      have stay : B ≠ 0 → ¬ keyN (useN hp nh C) < keyN B → RINV nb br hp nh (C + 1) B F := by
        intro q1 q2
        rcases hR with ⟨r1, r2⟩ | ⟨r1, r2, r3, r4, r5⟩
        · exact absurd r1 q1
        · refine Or.inr ⟨by omega, r2, r3, fun c hc hfit => ?_, r5⟩
          rcases Nat.lt_or_ge c C with z | z
          · exact r4 c z hfit
          · obtain rfl : c = C := by omega
            omega
      by_cases e0 : B = 0
      · rw [if_pos (show nI B = 0 by rw [e0]; rfl)]
        exact take (Or.inl e0)
      · have hpB := pc_le 4 (by decide) B (by omega) (by omega)
        have kl := key_lt (useN hp nh C) hu B hB
        rw [if_neg (nI_ne0 (by omega) (by omega)), hm, sb, hmB, sb]
        by_cases e1 : pcN (useN hp nh C) < pcN B
        · rw [if_pos (nI_lt e1 (by omega))]
          exact take (Or.inr (kl.mpr (Or.inl e1)))
        · rw [if_neg (nI_nlt (by omega) (by omega)), sb, sb, jn]
          by_cases e2 : pcN (useN hp nh C) = pcN B
          · rw [if_pos (by rw [e2])]
            by_cases e3 : B ≤ useN hp nh C
            · rw [if_pos (nI_le e3 (by omega))]
              exact keep (stay e0 (fun q => by rcases kl.mp q with w | ⟨w1, w2⟩ <;> omega))
            · rw [if_neg (nI_ge (by omega) (by omega))]
              exact take (Or.inr (kl.mpr (Or.inr ⟨e2, by omega⟩)))
          · rw [if_neg (fun q => e2 ((nI_eq (by omega) (by omega)).mp q))]
            exact keep (stay e0 (fun q => by rcases kl.mp q with w | ⟨w1, w2⟩ <;> omega))
    · have hR2 : RINV nb br hp nh (C + 1) B F := by
        rcases hR with ⟨r1, r2⟩ | ⟨r1, r2, r3, r4, r5⟩
        · refine Or.inl ⟨r1, fun c hc hfit => ?_⟩
          rcases Nat.lt_or_ge c C with z | z
          · exact r2 c z hfit
          · obtain rfl : c = C := by omega
            exact g2 hfit
        · refine Or.inr ⟨by omega, r2, r3, fun c hc hfit => ?_, r5⟩
          rcases Nat.lt_or_ge c C with z | z
          · exact r4 c z hfit
          · obtain rfl : c = C := by omega
            exact absurd hfit g2
      have hmB := many10 B hB
      have hm0 := many10 0 (by decide)
      rw [g1, sb, jn, jn, nI_1]
      try dsimp only
      rw [hk1, hk0, if_pos (show nI 0 ≤ 0 by decide), hm0, sb, hmB, sb, sb, sb, jn]
      have fin := keep hR2
      by_cases c1 : nI B = 0
      · rw [if_pos c1]; exact fin
      · rw [if_neg c1]
        by_cases c2 : nI (pcN 0) < nI (pcN B)
        · rw [if_pos c2]; exact fin
        · rw [if_neg c2]
          by_cases c3 : nI (pcN 0) = nI (pcN B)
          · rw [if_pos c3]
            by_cases c4 : nI B ≤ nI 0
            · rw [if_pos c4]; exact fin
            · rw [if_neg c4]; exact fin
          · rw [if_neg c3]; exact fin
