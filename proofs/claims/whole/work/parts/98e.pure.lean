/-! pure rows: the items that are counted -/
theorem it98 {n p : Nat} {lt : Nat → Nat} {a b : AR} {d : DT} {m : MT} (h : TX n lt a b) (hp : p < n) (hL : chr n lt p = 98) (hR : REL5 d m) : ITEM n p lt a b d m := by
  intro e l c nu so
  have hn := h.1
  obtain ⟨bc, bdc, hc, sc, tc, wc, brr, hm, hpp, lgr, sn, wg, wn⟩ := d
  obtain ⟨boat, boats, brings, costs, goes, houses, minutes, noise, people, signs, told, works⟩ := m
  obtain ⟨ns, nw, nh, nb, tcn, bdn, lgn, sgn, wnn, wgn, hpn, hmn, brn, h1, h2, h3, h4, h5⟩ := hR
  obtain ⟨g1, g2, g3, g4⟩ := h4
  have b1' := cnt_le n lt (p + 1)
  have x1 : nx n lt (p + 1) = p + 1 + cnt n lt (p + 1) + 1 := rfl
  have N1_30_59 : ∀ q (s : Bool), q < 800 → F_X10_number 1 30 59 (nI q) (if s = true then 1 else 0) (nI n) b = _ := fun q s hq => e_number10 (l := 1) (hi := 30) (bh := 59) h hq (by decide) (by decide) (by decide) (by decide) s
  have hroom : ∀ (O : Type) (A : Int32 → Option O), jn A (fun k => (if (4 : Int32) ≤ boats (Int32.toNatClampNeg 1) then k 0 else k 1)) = A (if (decide (nb < 4)) = true then 1 else 0) := by
    intro O A
    rw [jn, show boats (Int32.toNatClampNeg 1) = nI nb from g3]
    by_cases hr : nb < 4
    · rw [if_neg (show ¬ (4 : Int32) ≤ nI nb from nI_ge (a := nb) (b := 4) hr (by decide)), if_pos (decide_eq_true hr)]
    · rw [if_pos (show (4 : Int32) ≤ nI nb from nI_le (a := 4) (b := nb) (by omega) (by omega)), if_neg (fun z => hr (of_decide_eq_true z))]
  obtain ⟨so0, hso⟩ : ∃ x : Bool, x = decide (nb < 4) := ⟨_, rfl⟩
  have c1 : boats (Int32.toNatClampNeg 1) = nI nb := g3
  have ref : ∃ m2 : MT, item10 (nI p) so (nI n) b (boat, boats, brings, costs, goes, houses, minutes, noise, people, signs, told, works) = some (nI (nxk n lt 1 (p + 1)), if (nso n lt so0 1 30 59 (p + 1)) = true then 1 else 0, m2) ∧ (((nso n lt so0 1 30 59 (p + 1)) = true ∧ m2 = ((upd boat (4 + nb) (nI (vk n lt (p + 1) 0))), (upd boats 1 (nI (nb + 1))), brings, costs, goes, houses, minutes, noise, people, signs, told, works)) ∨ ((nso n lt so0 1 30 59 (p + 1)) = false ∧ m2 = (boat, boats, brings, costs, goes, houses, minutes, noise, people, signs, told, works))) := by
    rw [item10]
    dsimp only
    rw [F_X10_readItem, here_lt h hp, sb, hL, if_neg (show ¬ nI 98 = 97 by decide), if_pos (show nI 98 = 98 from rfl), hroom, nI_1, ← hso, N1_30_59 _ _ (by omega), sb]
    dsimp only
    cases hS : (nso n lt so0 1 30 59 (p + 1)) with
    | false => exact ⟨_, by rw [if_neg (show ¬ (false = true) by decide), if_pos rfl]; rfl, Or.inr ⟨rfl, rfl⟩⟩
    | true =>
      have hr : nb < 4 := of_decide_eq_true (hso.symm.trans (ns1.mp hS).1)
      refine ⟨_, ?_, Or.inl ⟨rfl, rfl⟩⟩
      rw [if_pos (show true = true from rfl), if_neg n10, c1, show (4 : Int32) + nI nb = nI (4 + nb) from nI_add 4 nb, if_pos (inbT (k := 4 + nb) (n := 8) (by omega) (by decide)), nI_clamp (n := 4 + nb) (by omega), nI_1]
      rfl
  have tl : ∀ k v, tld 98 k v = true ↔ k = 1 ∧ rg (v 0) 1 30 = true := fun k v => by
    rw [tld, if_neg (by decide), if_pos rfl, Bool.and_eq_true, decide_eq_true_iff]
  obtain ⟨m2, ref1, ref2⟩ := ref
  have bd := nxk_le n lt 1 (p + 1)
  refine ⟨m2, _, _, ref1, ?_, by omega, by omega, ?_⟩
  · rcases ref2 with ⟨_, rfl⟩ | ⟨_, rfl⟩
    · exact ⟨(SAME.rfl'.up (by omega)), (SAME.rfl'.up (by omega)), SAME.rfl', SAME.rfl', SAME.rfl', SAME.rfl', SAME.rfl', SAME.rfl', SAME.rfl', SAME.rfl', SAME.rfl', SAME.rfl'⟩
    · exact ⟨SAME.rfl', SAME.rfl', SAME.rfl', SAME.rfl', SAME.rfl', SAME.rfl', SAME.rfl', SAME.rfl', SAME.rfl', SAME.rfl', SAME.rfl', SAME.rfl'⟩
  rcases e_readAt h hp e l c nu with ⟨k, nu', q1, q2, q3, q4, q5, q6⟩ | ⟨q1, x, y, z, nu', q2⟩
  · rw [hL, tl] at q4
    obtain ⟨rfl, r0⟩ := q4
    by_cases hr : nb < 4
    · have hS : (nso n lt so0 1 30 59 (p + 1)) = true := ns1.mpr ⟨hso.trans (decide_eq_true hr), q3, r0⟩
      rcases ref2 with ⟨_, rfl⟩ | ⟨hF, _⟩
      rotate_left
      · rw [hS] at hF; exact absurd hF (by decide)
      have w0 := rg_iff.mp r0
      refine Or.inl ⟨hS, nu', (nI (nb + 1), bdc, hc, sc, tc, wc, upd brr nb (nu' 0), hm, hpp, lgr, sn, wg, wn), _, q5, ?_, ns, nw, nh, nb + 1, tcn, bdn, lgn, sgn, wnn, wgn, hpn, hmn, fun j => if j = nb then vk n lt (p + 1) 0 else brn j, h1, h2, h3, ⟨by omega, rfl, by dsimp only; rw [upd_s], fun j hj => ?_⟩, h5⟩
      · rw [take9, hL]
        dsimp only
        rw [F_X8_take, if_neg (show ¬ nI 98 = 97 by decide), if_pos (show nI 98 = 98 from rfl), F_X8_takeBoat, show bc = nI nb from g2, if_pos (show nI nb < (4 : Int32) from nI_lt (a := nb) (b := 4) hr (by decide)), show F_X3_numberAt 0 nu' = some (nu' 0) from numAt (i := 0) (by decide) nu', sb, put_in (k := nb) (n := 4) (by omega) (by decide), sb, sb, nI_1]
      · dsimp only
        by_cases ej : j = nb
        · subst ej
          rw [upd_s, upd_s, if_pos rfl]
          exact ⟨q6 0 (by decide), rfl, w0.1, w0.2⟩
        · rw [upd_n ej, upd_n (by omega), if_neg ej]
          exact g4 j (by omega)
    · refine Or.inr ⟨Bool.eq_false_iff.mpr (fun s => hr (of_decide_eq_true (hso.symm.trans (ns1.mp s).1))), 1, _, _, _, nu', q5, Or.inr ⟨rfl, (nI nb, bdc, hc, sc, tc, wc, brr, hm, hpp, lgr, sn, wg, wn), ?_⟩⟩
      · rw [take9, hL]
        dsimp only
        rw [F_X8_take, if_neg (show ¬ nI 98 = 97 by decide), if_pos (show nI 98 = 98 from rfl), F_X8_takeBoat, show bc = nI nb from g2, if_neg (show ¬ nI nb < (4 : Int32) from nI_nlt (a := nb) (b := 4) (by omega) (by omega)), sb]
  · refine Or.inr ⟨Bool.eq_false_iff.mpr (fun s => ?_), 0, x, y, z, nu', q2, Or.inl rfl⟩
    have s' := ns1.mp s
    exact q1 1 (by decide) ⟨s'.2.1, by rw [hL, tl]; exact ⟨rfl, s'.2.2⟩⟩
theorem it104 {n p : Nat} {lt : Nat → Nat} {a b : AR} {d : DT} {m : MT} (h : TX n lt a b) (hp : p < n) (hL : chr n lt p = 104) (hR : REL5 d m) : ITEM n p lt a b d m := by
  intro e l c nu so
  have hn := h.1
  obtain ⟨bc, bdc, hc, sc, tc, wc, brr, hm, hpp, lgr, sn, wg, wn⟩ := d
  obtain ⟨boat, boats, brings, costs, goes, houses, minutes, noise, people, signs, told, works⟩ := m
  obtain ⟨ns, nw, nh, nb, tcn, bdn, lgn, sgn, wnn, wgn, hpn, hmn, brn, h1, h2, h3, h4, h5⟩ := hR
  obtain ⟨g1, g2, g3, g4⟩ := h3
  have b1' := cnt_le n lt (p + 1)
  have x1 : nx n lt (p + 1) = p + 1 + cnt n lt (p + 1) + 1 := rfl
  have b2 := cnt_le n lt (nx n lt (p + 1))
  have x2 : nx n lt (nx n lt (p + 1)) = (nx n lt (p + 1)) + cnt n lt (nx n lt (p + 1)) + 1 := rfl
  have N1_9_44 : ∀ q (s : Bool), q < 800 → F_X10_number 1 9 44 (nI q) (if s = true then 1 else 0) (nI n) b = _ := fun q s hq => e_number10 (l := 1) (hi := 9) (bh := 44) h hq (by decide) (by decide) (by decide) (by decide) s
  have N0_60_59 : ∀ q (s : Bool), q < 800 → F_X10_number 0 60 59 (nI q) (if s = true then 1 else 0) (nI n) b = _ := fun q s hq => e_number10 (l := 0) (hi := 60) (bh := 59) h hq (by decide) (by decide) (by decide) (by decide) s
  have hroom : ∀ (O : Type) (A : Int32 → Option O), jn A (fun k => (if (6 : Int32) ≤ houses (Int32.toNatClampNeg 1) then k 0 else k 1)) = A (if (decide (nh < 6)) = true then 1 else 0) := by
    intro O A
    rw [jn, show houses (Int32.toNatClampNeg 1) = nI nh from g3]
    by_cases hr : nh < 6
    · rw [if_neg (show ¬ (6 : Int32) ≤ nI nh from nI_ge (a := nh) (b := 6) hr (by decide)), if_pos (decide_eq_true hr)]
    · rw [if_pos (show (6 : Int32) ≤ nI nh from nI_le (a := 6) (b := nh) (by omega) (by omega)), if_neg (fun z => hr (of_decide_eq_true z))]
  obtain ⟨so0, hso⟩ : ∃ x : Bool, x = decide (nh < 6) := ⟨_, rfl⟩
  have c1 : houses (Int32.toNatClampNeg 1) = nI nh := g3
  have ref : ∃ m2 : MT, item10 (nI p) so (nI n) b (boat, boats, brings, costs, goes, houses, minutes, noise, people, signs, told, works) = some (nI (nxk n lt 2 (p + 1)), if (nso n lt (nso n lt so0 1 9 44 (p + 1)) 0 60 59 (nx n lt (p + 1))) = true then 1 else 0, m2) ∧ (((nso n lt (nso n lt so0 1 9 44 (p + 1)) 0 60 59 (nx n lt (p + 1))) = true ∧ m2 = (boat, boats, brings, costs, goes, (upd houses 1 (nI (nh + 1))), (upd minutes (6 + nh) (nI (vk n lt (p + 1) 1))), noise, (upd people (6 + nh) (nI (vk n lt (p + 1) 0))), signs, told, works)) ∨ ((nso n lt (nso n lt so0 1 9 44 (p + 1)) 0 60 59 (nx n lt (p + 1))) = false ∧ m2 = (boat, boats, brings, costs, goes, houses, minutes, noise, people, signs, told, works))) := by
    rw [item10]
    dsimp only
    rw [F_X10_readItem, here_lt h hp, sb, hL, if_neg (show ¬ nI 104 = 97 by decide), if_neg (show ¬ nI 104 = 98 by decide), if_pos (show nI 104 = 104 from rfl), hroom, nI_1, ← hso, N1_9_44 _ _ (by omega), sb]
    dsimp only
    rw [N0_60_59 _ _ (by omega), sb]
    dsimp only
    cases hS : (nso n lt (nso n lt so0 1 9 44 (p + 1)) 0 60 59 (nx n lt (p + 1))) with
    | false => exact ⟨_, by rw [if_neg (show ¬ (false = true) by decide), if_pos rfl]; rfl, Or.inr ⟨rfl, rfl⟩⟩
    | true =>
      have hr : nh < 6 := of_decide_eq_true (hso.symm.trans (ns2.mp hS).1)
      refine ⟨_, ?_, Or.inl ⟨rfl, rfl⟩⟩
      rw [if_pos (show true = true from rfl), if_neg n10, c1, show (6 : Int32) + nI nh = nI (6 + nh) from nI_add 6 nh, F_X10_house2, if_pos (inbT (k := 6 + nh) (n := 12) (by omega) (by decide)), if_pos (inbT (k := 6 + nh) (n := 12) (by omega) (by decide)), sb, nI_clamp (n := 6 + nh) (by omega), nI_1]
      rfl
  have tl : ∀ k v, tld 104 k v = true ↔ k = 2 ∧ rg (v 0) 1 9 = true ∧ rg (v 1) 0 60 = true := fun k v => by
    rw [tld, if_neg (by decide), if_neg (by decide), if_pos rfl, Bool.and_eq_true, Bool.and_eq_true, decide_eq_true_iff]
  obtain ⟨m2, ref1, ref2⟩ := ref
  have bd := nxk_le n lt 2 (p + 1)
  refine ⟨m2, _, _, ref1, ?_, by omega, by omega, ?_⟩
  · rcases ref2 with ⟨_, rfl⟩ | ⟨_, rfl⟩
    · exact ⟨SAME.rfl', SAME.rfl', SAME.rfl', SAME.rfl', SAME.rfl', (SAME.rfl'.up (by omega)), (SAME.rfl'.up (by omega)), SAME.rfl', (SAME.rfl'.up (by omega)), SAME.rfl', SAME.rfl', SAME.rfl'⟩
    · exact ⟨SAME.rfl', SAME.rfl', SAME.rfl', SAME.rfl', SAME.rfl', SAME.rfl', SAME.rfl', SAME.rfl', SAME.rfl', SAME.rfl', SAME.rfl', SAME.rfl'⟩
  rcases e_readAt h hp e l c nu with ⟨k, nu', q1, q2, q3, q4, q5, q6⟩ | ⟨q1, x, y, z, nu', q2⟩
  · rw [hL, tl] at q4
    obtain ⟨rfl, r0, r1⟩ := q4
    by_cases hr : nh < 6
    · have hS : (nso n lt (nso n lt so0 1 9 44 (p + 1)) 0 60 59 (nx n lt (p + 1))) = true := ns2.mpr ⟨hso.trans (decide_eq_true hr), q3, r0, r1⟩
      rcases ref2 with ⟨_, rfl⟩ | ⟨hF, _⟩
      rotate_left
      · rw [hS] at hF; exact absurd hF (by decide)
      have w0 := rg_iff.mp r0
      have w1 := rg_iff.mp r1
      refine Or.inl ⟨hS, nu', (bc, bdc, nI (nh + 1), sc, tc, wc, brr, upd hm nh (nu' 1), upd hpp nh (nu' 0), lgr, sn, wg, wn), _, q5, ?_, ns, nw, nh + 1, nb, tcn, bdn, lgn, sgn, wnn, wgn, fun j => if j = nh then vk n lt (p + 1) 0 else hpn j, fun j => if j = nh then vk n lt (p + 1) 1 else hmn j, brn, h1, h2, ⟨by omega, rfl, by dsimp only; rw [upd_s], fun j hj => ?_⟩, h4, h5⟩
      · rw [take9, hL]
        dsimp only
        rw [F_X8_take, if_neg (show ¬ nI 104 = 97 by decide), if_neg (show ¬ nI 104 = 98 by decide), if_pos (show nI 104 = 104 from rfl), F_X8_takeHouse, show hc = nI nh from g2, if_pos (show nI nh < (6 : Int32) from nI_lt (a := nh) (b := 6) hr (by decide)), show F_X3_numberAt 0 nu' = some (nu' 0) from numAt (i := 0) (by decide) nu', sb, put_in (k := nh) (n := 6) (by omega) (by decide), sb, show F_X3_numberAt 1 nu' = some (nu' 1) from numAt (i := 1) (by decide) nu', sb, put_in (k := nh) (n := 6) (by omega) (by decide), sb, sb, nI_1]
      · dsimp only
        by_cases ej : j = nh
        · subst ej
          rw [upd_s, upd_s, upd_s, upd_s, if_pos rfl, if_pos rfl]
          exact ⟨⟨q6 0 (by decide), rfl, w0.1, w0.2⟩, q6 1 (by decide), rfl, w1.2⟩
        · rw [upd_n ej, upd_n ej, upd_n (by omega), upd_n (by omega), if_neg ej, if_neg ej]
          exact g4 j (by omega)
    · refine Or.inr ⟨Bool.eq_false_iff.mpr (fun s => hr (of_decide_eq_true (hso.symm.trans (ns2.mp s).1))), 1, _, _, _, nu', q5, Or.inr ⟨rfl, (bc, bdc, nI nh, sc, tc, wc, brr, hm, hpp, lgr, sn, wg, wn), ?_⟩⟩
      · rw [take9, hL]
        dsimp only
        rw [F_X8_take, if_neg (show ¬ nI 104 = 97 by decide), if_neg (show ¬ nI 104 = 98 by decide), if_pos (show nI 104 = 104 from rfl), F_X8_takeHouse, show hc = nI nh from g2, if_neg (show ¬ nI nh < (6 : Int32) from nI_nlt (a := nh) (b := 6) (by omega) (by omega)), sb]
  · refine Or.inr ⟨Bool.eq_false_iff.mpr (fun s => ?_), 0, x, y, z, nu', q2, Or.inl rfl⟩
    have s' := ns2.mp s
    exact q1 2 (by decide) ⟨s'.2.1, by rw [hL, tl]; exact ⟨rfl, s'.2.2⟩⟩
theorem it115 {n p : Nat} {lt : Nat → Nat} {a b : AR} {d : DT} {m : MT} (h : TX n lt a b) (hp : p < n) (hL : chr n lt p = 115) (hR : REL5 d m) : ITEM n p lt a b d m := by
  intro e l c nu so
  have hn := h.1
  obtain ⟨bc, bdc, hc, sc, tc, wc, brr, hm, hpp, lgr, sn, wg, wn⟩ := d
  obtain ⟨boat, boats, brings, costs, goes, houses, minutes, noise, people, signs, told, works⟩ := m
  obtain ⟨ns, nw, nh, nb, tcn, bdn, lgn, sgn, wnn, wgn, hpn, hmn, brn, h1, h2, h3, h4, h5⟩ := hR
  obtain ⟨g1, g2, g3, g4, g5⟩ := h1
  have b1' := cnt_le n lt (p + 1)
  have x1 : nx n lt (p + 1) = p + 1 + cnt n lt (p + 1) + 1 := rfl
  have b2 := cnt_le n lt (nx n lt (p + 1))
  have x2 : nx n lt (nx n lt (p + 1)) = (nx n lt (p + 1)) + cnt n lt (nx n lt (p + 1)) + 1 := rfl
  have b3 := cnt_le n lt (nx n lt (nx n lt (p + 1)))
  have x3 : nx n lt (nx n lt (nx n lt (p + 1))) = (nx n lt (nx n lt (p + 1))) + cnt n lt (nx n lt (nx n lt (p + 1))) + 1 := rfl
  have b4 := cnt_le n lt (nx n lt (nx n lt (nx n lt (p + 1))))
  have x4 : nx n lt (nx n lt (nx n lt (nx n lt (p + 1)))) = (nx n lt (nx n lt (nx n lt (p + 1)))) + cnt n lt (nx n lt (nx n lt (nx n lt (p + 1)))) + 1 := rfl
  have N0_3_44 : ∀ q (s : Bool), q < 800 → F_X10_number 0 3 44 (nI q) (if s = true then 1 else 0) (nI n) b = _ := fun q s hq => e_number10 (l := 0) (hi := 3) (bh := 44) h hq (by decide) (by decide) (by decide) (by decide) s
  have N0_4_44 : ∀ q (s : Bool), q < 800 → F_X10_number 0 4 44 (nI q) (if s = true then 1 else 0) (nI n) b = _ := fun q s hq => e_number10 (l := 0) (hi := 4) (bh := 44) h hq (by decide) (by decide) (by decide) (by decide) s
  have N0_4_59 : ∀ q (s : Bool), q < 800 → F_X10_number 0 4 59 (nI q) (if s = true then 1 else 0) (nI n) b = _ := fun q s hq => e_number10 (l := 0) (hi := 4) (bh := 59) h hq (by decide) (by decide) (by decide) (by decide) s
  have hroom : ∀ (O : Type) (A : Int32 → Option O), jn A (fun k => (if (4 : Int32) ≤ signs (Int32.toNatClampNeg 1) then k 0 else k 1)) = A (if (decide (ns < 4)) = true then 1 else 0) := by
    intro O A
    rw [jn, show signs (Int32.toNatClampNeg 1) = nI ns from g3]
    by_cases hr : ns < 4
    · rw [if_neg (show ¬ (4 : Int32) ≤ nI ns from nI_ge (a := ns) (b := 4) hr (by decide)), if_pos (decide_eq_true hr)]
    · rw [if_pos (show (4 : Int32) ≤ nI ns from nI_le (a := 4) (b := ns) (by omega) (by omega)), if_neg (fun z => hr (of_decide_eq_true z))]
  obtain ⟨so0, hso⟩ : ∃ x : Bool, x = decide (ns < 4) := ⟨_, rfl⟩
  have c1 : signs (Int32.toNatClampNeg 1) = nI ns := g3
  have ref : ∃ m2 : MT, item10 (nI p) so (nI n) b (boat, boats, brings, costs, goes, houses, minutes, noise, people, signs, told, works) = some (nI (nxk n lt 4 (p + 1)), if (nso n lt (nso n lt (nso n lt (nso n lt so0 0 3 44 (p + 1)) 0 4 44 (nx n lt (p + 1))) 0 4 44 (nx n lt (nx n lt (p + 1)))) 0 4 59 (nx n lt (nx n lt (nx n lt (p + 1))))) = true then 1 else 0, m2) ∧ (((nso n lt (nso n lt (nso n lt (nso n lt so0 0 3 44 (p + 1)) 0 4 44 (nx n lt (p + 1))) 0 4 44 (nx n lt (nx n lt (p + 1)))) 0 4 59 (nx n lt (nx n lt (nx n lt (p + 1))))) = true ∧ m2 = (boat, boats, brings, costs, goes, houses, minutes, noise, people, (upd signs 1 (nI (ns + 1))), (upd (upd (upd (upd told (16 + 4 * ns) (nI (vk n lt (p + 1) 0))) (16 + 4 * ns + 1) (nI (vk n lt (p + 1) 1))) (16 + 4 * ns + 2) (nI (vk n lt (p + 1) 2))) (16 + 4 * ns + 3) (nI (vk n lt (p + 1) 3))), works)) ∨ ((nso n lt (nso n lt (nso n lt (nso n lt so0 0 3 44 (p + 1)) 0 4 44 (nx n lt (p + 1))) 0 4 44 (nx n lt (nx n lt (p + 1)))) 0 4 59 (nx n lt (nx n lt (nx n lt (p + 1))))) = false ∧ m2 = (boat, boats, brings, costs, goes, houses, minutes, noise, people, signs, told, works))) := by
    rw [item10]
    dsimp only
    rw [F_X10_readItem, here_lt h hp, sb, hL, if_neg (show ¬ nI 115 = 97 by decide), if_neg (show ¬ nI 115 = 98 by decide), if_neg (show ¬ nI 115 = 104 by decide), if_neg (show ¬ nI 115 = 108 by decide), if_pos (show nI 115 = 115 from rfl), hroom, nI_1, ← hso, N0_3_44 _ _ (by omega), sb]
    dsimp only
    rw [N0_4_44 _ _ (by omega), sb]
    dsimp only
    rw [N0_4_44 _ _ (by omega), sb]
    dsimp only
    rw [N0_4_59 _ _ (by omega), sb]
    dsimp only
    cases hS : (nso n lt (nso n lt (nso n lt (nso n lt so0 0 3 44 (p + 1)) 0 4 44 (nx n lt (p + 1))) 0 4 44 (nx n lt (nx n lt (p + 1)))) 0 4 59 (nx n lt (nx n lt (nx n lt (p + 1))))) with
    | false => exact ⟨_, by rw [if_neg (show ¬ (false = true) by decide), if_pos rfl]; rfl, Or.inr ⟨rfl, rfl⟩⟩
    | true =>
      have hr : ns < 4 := of_decide_eq_true (hso.symm.trans (ns4.mp hS).1)
      refine ⟨_, ?_, Or.inl ⟨rfl, rfl⟩⟩
      rw [if_pos (show true = true from rfl), if_neg n10, c1, show (4 : Int32) + nI ns = nI (4 + ns) from nI_add 4 ns, F_X10_sign4, show (4 : Int32) * nI (4 + ns) = nI (16 + 4 * ns) from (pk_mul 4 (4 + ns)).trans (by rw [Nat.mul_add]), show nI (16 + 4 * ns) + 1 = nI (16 + 4 * ns + 1) from nI_add _ 1, show nI (16 + 4 * ns) + 2 = nI (16 + 4 * ns + 2) from nI_add _ 2, show nI (16 + 4 * ns) + 3 = nI (16 + 4 * ns + 3) from nI_add _ 3, if_pos (inbT (k := 16 + 4 * ns) (n := 32) (by omega) (by decide)), if_pos (inbT (k := 16 + 4 * ns + 1) (n := 32) (by omega) (by decide)), if_pos (inbT (k := 16 + 4 * ns + 2) (n := 32) (by omega) (by decide)), if_pos (inbT (k := 16 + 4 * ns + 3) (n := 32) (by omega) (by decide)), sb, nI_clamp (n := 16 + 4 * ns) (by omega), nI_clamp (n := 16 + 4 * ns + 1) (by omega), nI_clamp (n := 16 + 4 * ns + 2) (by omega), nI_clamp (n := 16 + 4 * ns + 3) (by omega), nI_1]
      rfl
  have tl : ∀ k v, tld 115 k v = true ↔ k = 4 ∧ rg (v 0) 0 3 = true ∧ rg (v 1) 0 4 = true ∧ rg (v 2) 0 4 = true ∧ rg (v 3) 0 4 = true := fun k v => by
    rw [tld, if_neg (by decide), if_neg (by decide), if_neg (by decide), if_neg (by decide), if_pos rfl, Bool.and_eq_true, Bool.and_eq_true, Bool.and_eq_true, Bool.and_eq_true, decide_eq_true_iff]
  obtain ⟨m2, ref1, ref2⟩ := ref
  have bd := nxk_le n lt 4 (p + 1)
  refine ⟨m2, _, _, ref1, ?_, by omega, by omega, ?_⟩
  · rcases ref2 with ⟨_, rfl⟩ | ⟨_, rfl⟩
    · exact ⟨SAME.rfl', SAME.rfl', SAME.rfl', SAME.rfl', SAME.rfl', SAME.rfl', SAME.rfl', SAME.rfl', SAME.rfl', (SAME.rfl'.up (by omega)), ((((SAME.rfl'.up (by omega)).up (by omega)).up (by omega)).up (by omega)), SAME.rfl'⟩
    · exact ⟨SAME.rfl', SAME.rfl', SAME.rfl', SAME.rfl', SAME.rfl', SAME.rfl', SAME.rfl', SAME.rfl', SAME.rfl', SAME.rfl', SAME.rfl', SAME.rfl'⟩
  rcases e_readAt h hp e l c nu with ⟨k, nu', q1, q2, q3, q4, q5, q6⟩ | ⟨q1, x, y, z, nu', q2⟩
  · rw [hL, tl] at q4
    obtain ⟨rfl, r0, r1, r2, r3⟩ := q4
    by_cases hr : ns < 4
    · have hS : (nso n lt (nso n lt (nso n lt (nso n lt so0 0 3 44 (p + 1)) 0 4 44 (nx n lt (p + 1))) 0 4 44 (nx n lt (nx n lt (p + 1)))) 0 4 59 (nx n lt (nx n lt (nx n lt (p + 1))))) = true := ns4.mpr ⟨hso.trans (decide_eq_true hr), q3, r0, r1, r2, r3⟩
      rcases ref2 with ⟨_, rfl⟩ | ⟨hF, _⟩
      rotate_left
      · rw [hS] at hF; exact absurd hF (by decide)
      have w0 := rg_iff.mp r0
      have w1 := rg_iff.mp r1
      have w2 := rg_iff.mp r2
      have w3 := rg_iff.mp r3
      obtain ⟨sn', t1, t2, t3⟩ := e_takeSign hr nu' sn
      refine Or.inl ⟨hS, nu', (bc, bdc, hc, nI (ns + 1), tc, wc, brr, hm, hpp, lgr, sn', wg, wn), _, q5, ?_, ns + 1, nw, nh, nb, tcn, bdn, lgn, fun j => if j < 4 * ns then sgn j else vk n lt (p + 1) (j - 4 * ns), wnn, wgn, hpn, hmn, brn, ⟨by omega, rfl, by dsimp only; rw [upd_s], fun j hj => ?_, fun k hk => ?_⟩, h2, h3, h4, h5⟩
      · rw [take9, hL]
        dsimp only
        rw [F_X8_take, if_neg (show ¬ nI 115 = 97 by decide), if_neg (show ¬ nI 115 = 98 by decide), if_neg (show ¬ nI 115 = 104 by decide), if_pos (show nI 115 = 115 from rfl), show sc = nI ns from g2, t1, sb]
      · dsimp only
        by_cases ej : j < 4 * ns
        · rw [t2 j ej, upd_n (by omega), upd_n (by omega), upd_n (by omega), upd_n (by omega), if_pos ej]
          exact g4 j ej
        · obtain ⟨i, rfl⟩ : ∃ x, j = 4 * ns + x := ⟨j - 4 * ns, by omega⟩
          rw [if_neg ej, t3 i (by omega), show 4 * ns + i - 4 * ns = i by omega]
          refine ⟨q6 i (by omega), ?_, ?_⟩
          · rcases (by omega : i = 0 ∨ i = 1 ∨ i = 2 ∨ i = 3) with rfl | rfl | rfl | rfl
            · rw [upd_n (by omega), upd_n (by omega), upd_n (by omega), show 16 + (4 * ns + 0) = 16 + 4 * ns by omega, upd_s]
            · rw [upd_n (by omega), upd_n (by omega), show 16 + (4 * ns + 1) = 16 + 4 * ns + 1 by omega, upd_s]
            · rw [upd_n (by omega), show 16 + (4 * ns + 2) = 16 + 4 * ns + 2 by omega, upd_s]
            · rw [show 16 + (4 * ns + 3) = 16 + 4 * ns + 3 by omega, upd_s]
          · rcases (by omega : i = 0 ∨ i = 1 ∨ i = 2 ∨ i = 3) with rfl | rfl | rfl | rfl <;> omega
      · dsimp only
        by_cases ej : k < ns
        · rw [if_pos (by omega)]; exact g5 k ej
        · obtain rfl : k = ns := by omega
          rw [if_neg (by omega), Nat.sub_self]; exact w0.2
    · refine Or.inr ⟨Bool.eq_false_iff.mpr (fun s => hr (of_decide_eq_true (hso.symm.trans (ns4.mp s).1))), 1, _, _, _, nu', q5, Or.inr ⟨rfl, (bc, bdc, hc, nI ns, tc, wc, brr, hm, hpp, lgr, sn, wg, wn), ?_⟩⟩
      · rw [take9, hL]
        dsimp only
        rw [F_X8_take, if_neg (show ¬ nI 115 = 97 by decide), if_neg (show ¬ nI 115 = 98 by decide), if_neg (show ¬ nI 115 = 104 by decide), if_pos (show nI 115 = 115 from rfl), F_X8_takeSign, show sc = nI ns from g2, if_neg (show ¬ nI ns < (4 : Int32) from nI_nlt (a := ns) (b := 4) (by omega) (by omega)), sb]
  · refine Or.inr ⟨Bool.eq_false_iff.mpr (fun s => ?_), 0, x, y, z, nu', q2, Or.inl rfl⟩
    have s' := ns4.mp s
    exact q1 4 (by decide) ⟨s'.2.1, by rw [hL, tl]; exact ⟨rfl, s'.2.2⟩⟩
theorem it119 {n p : Nat} {lt : Nat → Nat} {a b : AR} {d : DT} {m : MT} (h : TX n lt a b) (hp : p < n) (hL : chr n lt p = 119) (hR : REL5 d m) : ITEM n p lt a b d m := by
  intro e l c nu so
  have hn := h.1
  obtain ⟨bc, bdc, hc, sc, tc, wc, brr, hm, hpp, lgr, sn, wg, wn⟩ := d
  obtain ⟨boat, boats, brings, costs, goes, houses, minutes, noise, people, signs, told, works⟩ := m
  obtain ⟨ns, nw, nh, nb, tcn, bdn, lgn, sgn, wnn, wgn, hpn, hmn, brn, h1, h2, h3, h4, h5⟩ := hR
  obtain ⟨g1, g2, g3, g4⟩ := h2
  have b1' := cnt_le n lt (p + 1)
  have x1 : nx n lt (p + 1) = p + 1 + cnt n lt (p + 1) + 1 := rfl
  have b2 := cnt_le n lt (nx n lt (p + 1))
  have x2 : nx n lt (nx n lt (p + 1)) = (nx n lt (p + 1)) + cnt n lt (nx n lt (p + 1)) + 1 := rfl
  have N0_4_44 : ∀ q (s : Bool), q < 800 → F_X10_number 0 4 44 (nI q) (if s = true then 1 else 0) (nI n) b = _ := fun q s hq => e_number10 (l := 0) (hi := 4) (bh := 44) h hq (by decide) (by decide) (by decide) (by decide) s
  have N0_20_59 : ∀ q (s : Bool), q < 800 → F_X10_number 0 20 59 (nI q) (if s = true then 1 else 0) (nI n) b = _ := fun q s hq => e_number10 (l := 0) (hi := 20) (bh := 59) h hq (by decide) (by decide) (by decide) (by decide) s
  have hroom : ∀ (O : Type) (A : Int32 → Option O), jn A (fun k => (if (5 : Int32) ≤ works (Int32.toNatClampNeg 1) then k 0 else k 1)) = A (if (decide (nw < 5)) = true then 1 else 0) := by
    intro O A
    rw [jn, show works (Int32.toNatClampNeg 1) = nI nw from g3]
    by_cases hr : nw < 5
    · rw [if_neg (show ¬ (5 : Int32) ≤ nI nw from nI_ge (a := nw) (b := 5) hr (by decide)), if_pos (decide_eq_true hr)]
    · rw [if_pos (show (5 : Int32) ≤ nI nw from nI_le (a := 5) (b := nw) (by omega) (by omega)), if_neg (fun z => hr (of_decide_eq_true z))]
  obtain ⟨so0, hso⟩ : ∃ x : Bool, x = decide (nw < 5) := ⟨_, rfl⟩
  have c1 : works (Int32.toNatClampNeg 1) = nI nw := g3
  have ref : ∃ m2 : MT, item10 (nI p) so (nI n) b (boat, boats, brings, costs, goes, houses, minutes, noise, people, signs, told, works) = some (nI (nxk n lt 2 (p + 1)), if (nso n lt (nso n lt so0 0 4 44 (p + 1)) 0 20 59 (nx n lt (p + 1))) = true then 1 else 0, m2) ∧ (((nso n lt (nso n lt so0 0 4 44 (p + 1)) 0 20 59 (nx n lt (p + 1))) = true ∧ m2 = (boat, boats, (upd brings (5 + nw) (nI (vk n lt (p + 1) 1))), costs, goes, houses, minutes, (upd noise (5 + nw) (nI (vk n lt (p + 1) 0))), people, signs, told, (upd works 1 (nI (nw + 1))))) ∨ ((nso n lt (nso n lt so0 0 4 44 (p + 1)) 0 20 59 (nx n lt (p + 1))) = false ∧ m2 = (boat, boats, brings, costs, goes, houses, minutes, noise, people, signs, told, works))) := by
    rw [item10]
    dsimp only
    rw [F_X10_readItem, here_lt h hp, sb, hL, if_neg (show ¬ nI 119 = 97 by decide), if_neg (show ¬ nI 119 = 98 by decide), if_neg (show ¬ nI 119 = 104 by decide), if_neg (show ¬ nI 119 = 108 by decide), if_neg (show ¬ nI 119 = 115 by decide), if_pos (show nI 119 = 119 from rfl), hroom, nI_1, ← hso, N0_4_44 _ _ (by omega), sb]
    dsimp only
    rw [N0_20_59 _ _ (by omega), sb]
    dsimp only
    cases hS : (nso n lt (nso n lt so0 0 4 44 (p + 1)) 0 20 59 (nx n lt (p + 1))) with
    | false => exact ⟨_, by rw [if_neg (show ¬ (false = true) by decide), if_pos rfl]; rfl, Or.inr ⟨rfl, rfl⟩⟩
    | true =>
      have hr : nw < 5 := of_decide_eq_true (hso.symm.trans (ns2.mp hS).1)
      refine ⟨_, ?_, Or.inl ⟨rfl, rfl⟩⟩
      rw [if_pos (show true = true from rfl), if_neg n10, c1, show (5 : Int32) + nI nw = nI (5 + nw) from nI_add 5 nw, F_X10_work2, if_pos (inbT (k := 5 + nw) (n := 10) (by omega) (by decide)), if_pos (inbT (k := 5 + nw) (n := 10) (by omega) (by decide)), sb, nI_clamp (n := 5 + nw) (by omega), nI_1]
      rfl
  have tl : ∀ k v, tld 119 k v = true ↔ k = 2 ∧ rg (v 0) 0 4 = true ∧ rg (v 1) 0 20 = true := fun k v => by
    rw [tld, if_neg (by decide), if_neg (by decide), if_neg (by decide), if_neg (by decide), if_neg (by decide), if_pos rfl, Bool.and_eq_true, Bool.and_eq_true, decide_eq_true_iff]
  obtain ⟨m2, ref1, ref2⟩ := ref
  have bd := nxk_le n lt 2 (p + 1)
  refine ⟨m2, _, _, ref1, ?_, by omega, by omega, ?_⟩
  · rcases ref2 with ⟨_, rfl⟩ | ⟨_, rfl⟩
    · exact ⟨SAME.rfl', SAME.rfl', (SAME.rfl'.up (by omega)), SAME.rfl', SAME.rfl', SAME.rfl', SAME.rfl', (SAME.rfl'.up (by omega)), SAME.rfl', SAME.rfl', SAME.rfl', (SAME.rfl'.up (by omega))⟩
    · exact ⟨SAME.rfl', SAME.rfl', SAME.rfl', SAME.rfl', SAME.rfl', SAME.rfl', SAME.rfl', SAME.rfl', SAME.rfl', SAME.rfl', SAME.rfl', SAME.rfl'⟩
  rcases e_readAt h hp e l c nu with ⟨k, nu', q1, q2, q3, q4, q5, q6⟩ | ⟨q1, x, y, z, nu', q2⟩
  · rw [hL, tl] at q4
    obtain ⟨rfl, r0, r1⟩ := q4
    by_cases hr : nw < 5
    · have hS : (nso n lt (nso n lt so0 0 4 44 (p + 1)) 0 20 59 (nx n lt (p + 1))) = true := ns2.mpr ⟨hso.trans (decide_eq_true hr), q3, r0, r1⟩
      rcases ref2 with ⟨_, rfl⟩ | ⟨hF, _⟩
      rotate_left
      · rw [hS] at hF; exact absurd hF (by decide)
      have w0 := rg_iff.mp r0
      have w1 := rg_iff.mp r1
      refine Or.inl ⟨hS, nu', (bc, bdc, hc, sc, tc, nI (nw + 1), brr, hm, hpp, lgr, sn, upd wg nw (nu' 1), upd wn nw (nu' 0)), _, q5, ?_, ns, nw + 1, nh, nb, tcn, bdn, lgn, sgn, fun j => if j = nw then vk n lt (p + 1) 0 else wnn j, fun j => if j = nw then vk n lt (p + 1) 1 else wgn j, hpn, hmn, brn, h1, ⟨by omega, rfl, by dsimp only; rw [upd_s], fun j hj => ?_⟩, h3, h4, h5⟩
      · rw [take9, hL]
        dsimp only
        rw [F_X8_take, if_neg (show ¬ nI 119 = 97 by decide), if_neg (show ¬ nI 119 = 98 by decide), if_neg (show ¬ nI 119 = 104 by decide), if_neg (show ¬ nI 119 = 115 by decide), if_pos (show nI 119 = 119 from rfl), F_X8_takeWorks, show wc = nI nw from g2, if_pos (show nI nw < (5 : Int32) from nI_lt (a := nw) (b := 5) hr (by decide)), show F_X3_numberAt 0 nu' = some (nu' 0) from numAt (i := 0) (by decide) nu', sb, put_in (k := nw) (n := 5) (by omega) (by decide), sb, show F_X3_numberAt 1 nu' = some (nu' 1) from numAt (i := 1) (by decide) nu', sb, put_in (k := nw) (n := 5) (by omega) (by decide), sb, sb, nI_1]
      · dsimp only
        by_cases ej : j = nw
        · subst ej
          rw [upd_s, upd_s, upd_s, upd_s, if_pos rfl, if_pos rfl]
          exact ⟨⟨q6 0 (by decide), rfl, w0.2⟩, q6 1 (by decide), rfl, w1.2⟩
        · rw [upd_n ej, upd_n ej, upd_n (by omega), upd_n (by omega), if_neg ej, if_neg ej]
          exact g4 j (by omega)
    · refine Or.inr ⟨Bool.eq_false_iff.mpr (fun s => hr (of_decide_eq_true (hso.symm.trans (ns2.mp s).1))), 1, _, _, _, nu', q5, Or.inr ⟨rfl, (bc, bdc, hc, sc, tc, nI nw, brr, hm, hpp, lgr, sn, wg, wn), ?_⟩⟩
      · rw [take9, hL]
        dsimp only
        rw [F_X8_take, if_neg (show ¬ nI 119 = 97 by decide), if_neg (show ¬ nI 119 = 98 by decide), if_neg (show ¬ nI 119 = 104 by decide), if_neg (show ¬ nI 119 = 115 by decide), if_pos (show nI 119 = 119 from rfl), F_X8_takeWorks, show wc = nI nw from g2, if_neg (show ¬ nI nw < (5 : Int32) from nI_nlt (a := nw) (b := 5) (by omega) (by omega)), sb]
  · refine Or.inr ⟨Bool.eq_false_iff.mpr (fun s => ?_), 0, x, y, z, nu', q2, Or.inl rfl⟩
    have s' := ns2.mp s
    exact q1 2 (by decide) ⟨s'.2.1, by rw [hL, tl]; exact ⟨rfl, s'.2.2⟩⟩
