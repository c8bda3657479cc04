/-! pure rows: CREWS, the class -/
theorem bitc : ∀ s, s < 16 → F_J6_bitCount_0f7a4 (nI s) = some (nI (pcN s)) := by decide +kernel
def RRow (nb : Nat) (rl : AR) (R : Nat → Nat) : Prop := ∀ b, b < nb → rl b = nI (R b) ∧ R b ≤ 30
/-- what a call for r houses from h on comes to -/
def SOUT (S nb : Nat) (hp : Nat → Nat) (r h : Nat) (R : Nat → Nat) (bh : AR) (o : Option (Int32 × AR × AR)) : Prop :=
  (∃ c bh' rl', o = some (1, bh', rl') ∧ c < 4 ^ r ∧ okc S nb hp r h R c = true ∧ (∀ c', c' < c → ¬ okc S nb hp r h R c' = true) ∧ (∀ j, j < h → bh' j = bh j) ∧ ∀ i, i < r → bh' (h + i) = nI (c / 4 ^ (r - 1 - i) % 4)) ∨
  (∃ bh' rl', o = some (0, bh', rl') ∧ (∀ c', c' < 4 ^ r → ¬ okc S nb hp r h R c' = true) ∧ (∀ j, j < h → bh' j = bh j) ∧ RRow nb rl' R)
theorem l_send {S nb nh r h : Nat} {hp : Nat → Nat} {pe : AR} {frec : Int32 → Int32 → AR → AR → Int32 → Int32 → AR → Option (Int32 × AR × AR)} (hS : S < 16) (hnb : nb ≤ 4) (hh : h < 6) (h9 : hp h ≤ 9) (R : Nat → Nat)
    (hrec : ∀ (bh rl : AR) (R' : Nat → Nat), RRow nb rl R' → SOUT S nb hp r (h + 1) R' bh (frec (nI (h + 1)) (nI S) bh rl (nI nb) (nI nh) pe)) :
    ∀ (k b f : Nat) (bh rl : AR), b + k = nb → k < f → RRow nb rl R → (∀ c', c' < b * 4 ^ r → ¬ okc S nb hp (r + 1) h R c' = true) → SOUT S nb hp (r + 1) h R bh (L_X0_sendFrom_25 (nI h) (nI S) (nI nb) (nI nh) pe (nI (hp h)) frec f (nI b) bh rl) := by
  intro k
  induction k with
  | zero =>
    intro b f bh rl hb hf hR hno
    obtain ⟨f, rfl⟩ : ∃ x, f = x + 1 := ⟨f - 1, by omega⟩
    obtain rfl : b = nb := by omega
    refine Or.inr ⟨bh, rl, by rw [L_X0_sendFrom_25, if_pos (nI_le (a := b) (b := b) (by omega) (by omega))], fun c' hc' hok => ?_, fun _ _ => rfl, hR⟩
    rcases Nat.lt_or_ge c' (b * 4 ^ r) with q | q
    · exact hno c' q hok
    · have : b ≤ c' / 4 ^ r := by rw [Nat.le_div_iff_mul_le (p4pos r)]; exact q
      rw [okc, Bool.and_eq_true, Bool.and_eq_true, Bool.and_eq_true, decide_eq_true_iff] at hok
      omega
  | succ k ih =>
    intro b f bh rl hb hf hR hno
    obtain ⟨f, rfl⟩ : ∃ x, f = x + 1 := ⟨f - 1, by omega⟩
    obtain ⟨g1, g2⟩ := hR b (by omega)
    have step : (∀ c0, c0 < 4 ^ r → ¬ okc S nb hp (r + 1) h R (b * 4 ^ r + c0) = true) → ∀ c', c' < (b + 1) * 4 ^ r → ¬ okc S nb hp (r + 1) h R c' = true := by
      intro q c' hc'
      rcases Nat.lt_or_ge c' (b * 4 ^ r) with z | z
      · exact hno c' z
      · rw [Nat.succ_mul] at hc'
        have := q (c' - b * 4 ^ r) (by omega)
        rwa [Nat.add_sub_cancel' z] at this
    have oks : ∀ c0, c0 < 4 ^ r → okc S nb hp (r + 1) h R (b * 4 ^ r + c0) = ((decide (b < nb) && S.testBit b && decide (hp h ≤ R b)) && okc S nb hp r (h + 1) (fun x => if x = b then R x - hp h else R x) c0) := by
      intro c0 hc0
      rw [okc, (cat_div hc0).1, (cat_div hc0).2]
    rw [L_X0_sendFrom_25, if_neg (nI_ge (a := b) (b := nb) (by omega) (by omega)), at_in (k := b) (n := 4) (by omega) (by decide), sb, e_holds (by omega) (by omega), sb, jn, g1, nI_1]
    by_cases h1 : S.testBit b = true
    · rw [if_pos h1, if_neg n10]
      by_cases h2 : R b < hp h
      · rw [if_pos (nI_lt h2 (by omega))]
        refine ih (b + 1) f bh rl (by omega) (by omega) hR (step (fun c0 hc0 hok => ?_))
        rw [oks c0 hc0, Bool.and_eq_true, Bool.and_eq_true, decide_eq_true_iff] at hok
        omega
      · have hR' : RRow nb (upd rl b (nI (R b - hp h))) (fun x => if x = b then R x - hp h else R x) := by
          intro x hx
          dsimp only
          by_cases e : x = b
          · subst e; rw [upd_s, if_pos rfl]; exact ⟨rfl, by omega⟩
          · rw [upd_n e, if_neg e]; exact hR x hx
        rw [if_neg (nI_nlt (by omega) (by omega)), put_in (k := h) (n := 6) hh (by decide), sb, show nI (R b) - nI (hp h) = nI (R b - hp h) from pk_sub (by omega), put_in (k := b) (n := 4) (by omega) (by decide), sb, nI_1]
        rcases hrec (upd bh h (nI b)) (upd rl b (nI (R b - hp h))) _ hR' with ⟨c0, bh', rl', o1, o2, o3, o4, o5, o6⟩ | ⟨bh', rl', o1, o2, o3, o4⟩
        · rw [o1, sb, if_neg n10]
          have hb4 : b * 4 ^ r + 4 ^ r ≤ 4 ^ (r + 1) := by
            rw [p4s, ← Nat.succ_mul]; exact Nat.mul_le_mul_right _ (by omega)
          refine Or.inl ⟨b * 4 ^ r + c0, bh', rl', rfl, by omega, ?_, ?_, fun j hj => ?_, fun i hi => ?_⟩
          · rw [oks c0 o2, Bool.and_eq_true, Bool.and_eq_true, Bool.and_eq_true, decide_eq_true_iff, decide_eq_true_iff]
            exact ⟨⟨⟨by omega, h1⟩, by omega⟩, o3⟩
          · intro c' hc' hok
            rcases Nat.lt_or_ge c' (b * 4 ^ r) with z | z
            · exact hno c' z hok
            · obtain ⟨c2, rfl⟩ : ∃ x, c' = b * 4 ^ r + x := ⟨c' - b * 4 ^ r, by omega⟩
              rw [oks c2 (by omega), Bool.and_eq_true] at hok
              exact o4 c2 (by omega) hok.2
          · rw [o5 j (by omega), upd_n (by omega)]
          · cases i with
            | zero => rw [Nat.add_zero, o5 h (by omega), upd_s, Nat.sub_zero, Nat.add_sub_cancel, (cat_div o2).1, Nat.mod_eq_of_lt (by omega)]
            | succ i => rw [show h + (i + 1) = h + 1 + i by omega, o6 i (by omega), show r + 1 - 1 - (i + 1) = r - 1 - i by omega, cat_dig (by omega)]
        · rw [o1, sb, if_pos rfl]
          dsimp only
          rw [put_in (k := b) (n := 4) (by omega) (by decide), sb]
          have hR2 : RRow nb (upd rl' b (nI (R b))) R := by
            intro x hx
            by_cases e : x = b
            · subst e; rw [upd_s]; exact ⟨rfl, g2⟩
            · have := o4 x hx
              dsimp only at this
              rw [if_neg e] at this
              rw [upd_n e]; exact this
          rcases ih (b + 1) f bh' (upd rl' b (nI (R b))) (by omega) (by omega) hR2 (step (fun c0 hc0 hok => by rw [oks c0 hc0, Bool.and_eq_true] at hok; exact o2 c0 hc0 hok.2)) with ⟨c1, bh2, rl2, w1, w2, w3, w4, w5, w6⟩ | ⟨bh2, rl2, w1, w2, w3, w4⟩
          · exact Or.inl ⟨c1, bh2, rl2, w1, w2, w3, w4, fun j hj => by rw [w5 j hj, o3 j (by omega), upd_n (by omega)], w6⟩
          · exact Or.inr ⟨bh2, rl2, w1, w2, fun j hj => by rw [w3 j hj, o3 j (by omega), upd_n (by omega)], w4⟩
    · rw [if_neg h1, if_pos p00]
      refine ih (b + 1) f bh rl (by omega) (by omega) hR (step (fun c0 hc0 hok => ?_))
      rw [oks c0 hc0, Bool.and_eq_true, Bool.and_eq_true, Bool.and_eq_true] at hok
      exact h1 hok.1.1.2
theorem e_send {S nb nh : Nat} {hp : Nat → Nat} {pe : AR} (hS : S < 16) (hnb : nb ≤ 4) (hnh : nh ≤ 6) (hpe : ∀ j, j < nh → pe j = nI (hp j) ∧ hp j ≤ 9) : ∀ (r d h : Nat) (bh rl : AR) (R : Nat → Nat), h + r = nh → r < d → RRow nb rl R → SOUT S nb hp r h R bh (F_X0_sendFrom d (nI h) (nI S) bh rl (nI nb) (nI nh) pe) := by
  intro r
  induction r with
  | zero =>
    intro d h bh rl R hh hd hR
    obtain ⟨d, rfl⟩ : ∃ x, d = x + 1 := ⟨d - 1, by omega⟩
    refine Or.inl ⟨0, bh, rl, by rw [F_X0_sendFrom, if_pos (nI_le (by omega) (by omega))], by decide, by rw [okc], fun c' hc' => absurd hc' (by omega), fun _ _ => rfl, fun i hi => absurd hi (by omega)⟩
  | succ r ih =>
    intro d h bh rl R hh hd hR
    obtain ⟨d, rfl⟩ : ∃ x, d = x + 1 := ⟨d - 1, by omega⟩
    obtain ⟨q1, q2⟩ := hpe h (by omega)
    rw [F_X0_sendFrom, if_neg (nI_ge (by omega) (by omega)), if_pos (show nI h < (6 : Int32) from nI_lt (a := h) (b := 6) (by omega) (by decide)), F_X8_peopleOf, at_in (k := h) (n := 6) (by omega) (by decide), sb, sb, q1]
    exact l_send (nh := nh) hS hnb (by omega) q2 R (fun bh rl R' hR' => ih d (h + 1) bh rl R' (by omega) (by omega) hR') nb 0 5000 bh rl (by omega) (by omega) hR (fun c' hc' => absurd hc' (by omega))
theorem l_rooms {nb : Nat} {br : Nat → Nat} {cr : AR} (hnb : nb ≤ 4) (hcr : ∀ j, j < nb → cr j = nI (br j) ∧ br j ≤ 30) (k34 : AR → Option (Int32 × Int32 × AR × AR)) : ∀ (r b f : Nat) (rl : AR), b + r = nb → r < f → (∀ x, x < b → rl x = nI (br x)) → ∃ rl', L_X0_findWith_7 (nI nb) cr k34 f (nI b) rl = k34 rl' ∧ RRow nb rl' br := by
  intro r
  induction r with
  | zero =>
    intro b f rl hb hf h
    obtain ⟨f, rfl⟩ : ∃ x, f = x + 1 := ⟨f - 1, by omega⟩
    obtain rfl : b = nb := by omega
    exact ⟨rl, by rw [L_X0_findWith_7, if_pos (nI_le (a := b) (b := b) (by omega) (by omega))], fun x hx => ⟨h x hx, (hcr x hx).2⟩⟩
  | succ r ih =>
    intro b f rl hb hf h
    obtain ⟨f, rfl⟩ : ∃ x, f = x + 1 := ⟨f - 1, by omega⟩
    rw [L_X0_findWith_7, if_neg (nI_ge (by omega) (by omega)), F_X8_roomOf, at_in (k := b) (n := 4) (by omega) (by decide), sb, sb, (hcr b (by omega)).1, put_in (k := b) (n := 4) (by omega) (by decide), sb, nI_1]
    refine ih (b + 1) f _ (by omega) (by omega) (fun x hx => ?_)
    by_cases e : x = b
    · subst e; rw [upd_s]
    · rw [upd_n e]; exact h x (by omega)
theorem e_findWith {S nb nh : Nat} {hp br : Nat → Nat} {pe cr : AR} (hS : S < 16) (hnb : nb ≤ 4) (hnh : nh ≤ 6) (hpe : ∀ j, j < nh → pe j = nI (hp j) ∧ hp j ≤ 9) (hcr : ∀ j, j < nb → cr j = nI (br j) ∧ br j ≤ 30) (v : Int32) (bh rl : AR) :
    (∃ c bh' rl', F_X0_findWith (nI S) v (nI nb) (nI nh) cr pe bh rl = some (1, nI S, bh', rl') ∧ c < 4 ^ nh ∧ okc S nb hp nh 0 br c = true ∧ (∀ c', c' < c → ¬ okc S nb hp nh 0 br c' = true) ∧ ∀ i, i < nh → bh' i = nI (c / 4 ^ (nh - 1 - i) % 4)) ∨
    (∃ bh' rl', F_X0_findWith (nI S) v (nI nb) (nI nh) cr pe bh rl = some (0, nI S, bh', rl') ∧ ∀ c', c' < 4 ^ nh → ¬ okc S nb hp nh 0 br c' = true) := by
  obtain ⟨rl1, g1, g2⟩ := l_rooms hnb hcr (fun (a_roomLeft_34 : AR) => (F_X0_sendFrom 7 0 (nI S) bh a_roomLeft_34 (nI nb) (nI nh) pe).bind (fun q37 => some (q37.1, nI S, q37.2.1, q37.2.2))) nb 0 5000 rl (by omega) (by omega) (fun x hx => absurd hx (by omega))
  have g3 : F_X0_findWith (nI S) v (nI nb) (nI nh) cr pe bh rl = (F_X0_sendFrom 7 (nI 0) (nI S) bh rl1 (nI nb) (nI nh) pe).bind (fun q37 => some (q37.1, nI S, q37.2.1, q37.2.2)) := by
    rw [F_X0_findWith, jn]
    exact g1
  rw [g3]
  rcases e_send hS hnb hnh hpe nh 7 0 bh rl1 br (by omega) (by omega) g2 with ⟨c, bh', rl', o1, o2, o3, o4, o5, o6⟩ | ⟨bh', rl', o1, o2, o3, o4⟩
  · exact Or.inl ⟨c, bh', rl', by rw [o1, sb], o2, o3, o4, fun i hi => by have := o6 i hi; rwa [Nat.zero_add] at this⟩
  · exact Or.inr ⟨bh', rl', by rw [o1, sb], o2⟩
/-- what find comes to -/
def FOUT (nb : Nat) (br hp : Nat → Nat) (nh : Nat) (o : Option (Int32 × Int32 × AR × AR)) : Prop :=
  ∃ S c bh' rl', o = some (1, nI S, bh', rl') ∧ CRES nb br hp nh S c ∧ ∀ i, i < nh → bh' i = nI (c / 4 ^ (nh - 1 - i) % 4)
theorem l_find12 {nb nh z : Nat} {hp br : Nat → Nat} {pe cr : AR} (hnb : nb ≤ 4) (hnh : nh ≤ 6) (hz : z < 100) (hpe : ∀ j, j < nh → pe j = nI (hp j) ∧ hp j ≤ 9) (hcr : ∀ j, j < nb → cr j = nI (br j) ∧ br j ≤ 30) (hlow : ∀ S', 0 < S' → S' < 2 ^ nb → pcN S' < z → ∀ c', c' < 4 ^ nh → ¬ okc S' nb hp nh 0 br c' = true) (k48 : Int32 → AR → AR → Option (Int32 × Int32 × AR × AR)) :
    ∀ (r s f : Nat) (v : Int32) (bh rl : AR), s + r = 2 ^ nb → r < f → 0 < s → (∀ S', 0 < S' → S' < s → pcN S' = z → ∀ c', c' < 4 ^ nh → ¬ okc S' nb hp nh 0 br c' = true) →
    FOUT nb br hp nh (L_X0_find_12 (nI nb) (nI nh) cr pe (nI z) k48 f (nI s) v bh rl) ∨ ∃ v' bh' rl', L_X0_find_12 (nI nb) (nI nh) cr pe (nI z) k48 f (nI s) v bh rl = k48 v' bh' rl' ∧ ∀ S', 0 < S' → S' < 2 ^ nb → pcN S' < z + 1 → ∀ c', c' < 4 ^ nh → ¬ okc S' nb hp nh 0 br c' = true := by
  have h16 : 2 ^ nb ≤ 16 := Nat.pow_le_pow_right (n := 2) (by decide) (show nb ≤ 4 from hnb)
  intro r
  induction r with
  | zero =>
    intro s f v bh rl hs hf h0 hno
    obtain ⟨f, rfl⟩ : ∃ x, f = x + 1 := ⟨f - 1, by omega⟩
    refine Or.inr ⟨v, bh, rl, by rw [L_X0_find_12, e_setsOf (by omega), sb, if_pos (nI_le (by omega) (by omega))], fun S' q1 q2 q3 => ?_⟩
    by_cases e : pcN S' = z
    · exact hno S' q1 (by omega) e
    · exact hlow S' q1 q2 (by omega)
  | succ r ih =>
    intro s f v bh rl hs hf h0 hno
    obtain ⟨f, rfl⟩ : ∃ x, f = x + 1 := ⟨f - 1, by omega⟩
    have hp1 := pc_le nb hnb s (by omega) h0
    rw [L_X0_find_12, e_setsOf (by omega), sb, if_neg (nI_ge (by omega) (by omega)), bitc s (by omega), sb, jn, nI_1]
    by_cases e : pcN s = z
    · rw [if_pos (by rw [e])]
      rcases e_findWith (S := s) (by omega) hnb hnh hpe hcr v bh rl with ⟨c, bh', rl', o1, o2, o3, o4, o5⟩ | ⟨bh', rl', o1, o2⟩
      · rw [o1, sb, if_neg n10]
        refine Or.inl ⟨s, c, bh', rl', rfl, ⟨h0, by omega, o2, o3, o4, fun S' q1 q2 q3 => ?_⟩, o5⟩
        rcases (key_lt S' (by omega) s (by omega)).mp q3 with w | ⟨w1, w2⟩
        · exact hlow S' q1 q2 (by omega)
        · exact hno S' q1 w2 (by omega)
      · rw [o1, sb, if_pos rfl]
        refine ih (s + 1) f _ _ _ (by omega) (by omega) (by omega) (fun S' q1 q2 q3 => ?_)
        by_cases w : S' = s
        · subst w; exact o2
        · exact hno S' q1 (by omega) q3
    · rw [if_neg (fun q => e ((nI_eq (by omega) (by omega)).mp q))]
      refine ih (s + 1) f _ _ _ (by omega) (by omega) (by omega) (fun S' q1 q2 q3 => ?_)
      by_cases w : S' = s
      · subst w; exact absurd q3 e
      · exact hno S' q1 (by omega) q3
theorem l_find2 {nb nh : Nat} {hp br : Nat → Nat} {pe cr : AR} (hnb : nb ≤ 4) (hnh : nh ≤ 6) (hpe : ∀ j, j < nh → pe j = nI (hp j) ∧ hp j ≤ 9) (hcr : ∀ j, j < nb → cr j = nI (br j) ∧ br j ≤ 30) :
    ∀ (r z f : Nat) (v : Int32) (bh rl : AR), z + r = nb + 1 → r < f → 0 < z → (∀ S', 0 < S' → S' < 2 ^ nb → pcN S' < z → ∀ c', c' < 4 ^ nh → ¬ okc S' nb hp nh 0 br c' = true) →
    FOUT nb br hp nh (L_X0_find_2 (nI nb) (nI nh) cr pe f (nI z) v bh rl) ∨ ∃ v' bh' rl', L_X0_find_2 (nI nb) (nI nh) cr pe f (nI z) v bh rl = some (0, v', bh', rl') ∧ ∀ S', 0 < S' → S' < 2 ^ nb → ∀ c', c' < 4 ^ nh → ¬ okc S' nb hp nh 0 br c' = true := by
  have h16 : 2 ^ nb ≤ 16 := Nat.pow_le_pow_right (n := 2) (by decide) (show nb ≤ 4 from hnb)
  have h1 : 0 < 2 ^ nb := Nat.pow_pos (by decide)
  intro r
  induction r with
  | zero =>
    intro z f v bh rl hs hf h0 hno
    obtain ⟨f, rfl⟩ : ∃ x, f = x + 1 := ⟨f - 1, by omega⟩
    refine Or.inr ⟨v, bh, rl, by rw [L_X0_find_2, if_pos (nI_lt (by omega) (by omega))], fun S' q1 q2 => ?_⟩
    have := pc_le nb hnb S' q2 q1
    exact hno S' q1 q2 (by omega)
  | succ r ih =>
    intro z f v bh rl hs hf h0 hno
    obtain ⟨f, rfl⟩ : ∃ x, f = x + 1 := ⟨f - 1, by omega⟩
    rw [L_X0_find_2, if_neg (nI_nlt (by omega) (by omega)), jn]
    rcases l_find12 (z := z) hnb hnh (by omega) hpe hcr hno (fun (v_boats_48 : Int32) (a_boatOfHouse_48 : AR) (a_roomLeft_48 : AR) => L_X0_find_2 (nI nb) (nI nh) cr pe f (nI z + 1) v_boats_48 a_boatOfHouse_48 a_roomLeft_48) (2 ^ nb - 1) 1 5000 v bh rl (by omega) (by omega) (by decide) (fun S' q1 q2 => absurd q2 (by omega)) with w | ⟨v', bh', rl', w1, w2⟩
    · exact Or.inl w
    · rw [nI_1] at w1
      have key : ∀ o : Option (Int32 × Int32 × AR × AR), o = L_X0_find_2 (nI nb) (nI nh) cr pe f (nI (z + 1)) v' bh' rl' → (FOUT nb br hp nh o ∨ ∃ v' bh' rl', o = some (0, v', bh', rl') ∧ ∀ S', 0 < S' → S' < 2 ^ nb → ∀ c', c' < 4 ^ nh → ¬ okc S' nb hp nh 0 br c' = true) := fun o e => by
        rw [e]
        exact ih (z + 1) f v' bh' rl' (by omega) (by omega) (by omega) w2
      rw [nI_1]
      exact key _ w1
theorem e_findC {nb nh : Nat} {hp br : Nat → Nat} {pe cr : AR} (hnb : nb ≤ 4) (hnh : nh ≤ 6) (hpe : ∀ j, j < nh → pe j = nI (hp j) ∧ hp j ≤ 9) (hcr : ∀ j, j < nb → cr j = nI (br j) ∧ br j ≤ 30) (v : Int32) (bh rl : AR) :
    FOUT nb br hp nh (F_X0_find v (nI nb) (nI nh) cr pe bh rl) ∨ ∃ v' bh' rl', F_X0_find v (nI nb) (nI nh) cr pe bh rl = some (0, v', bh', rl') ∧ ∀ S', 0 < S' → S' < 2 ^ nb → ∀ c', c' < 4 ^ nh → ¬ okc S' nb hp nh 0 br c' = true := by
  have h16 : 2 ^ nb ≤ 16 := Nat.pow_le_pow_right (n := 2) (by decide) (show nb ≤ 4 from hnb)
  rw [F_X0_find]
  refine l_find2 hnb hnh hpe hcr nb 1 5000 v bh rl (by omega) (by omega) (by decide) (fun S' q1 q2 q3 => ?_)
  have := pc_le nb hnb S' q2 q1
  omega
