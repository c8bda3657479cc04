/-! pure rows: the items, letter by letter -/
theorem it97 {n p : Nat} {lt : Nat → Nat} {a b : AR} {d : DT} {m : MT} (h : TX n lt a b) (hp : p < n) (hL : chr n lt p = 97) (hR : REL5 d m) : ITEM n p lt a b d m := by
  intro e l c nu so
  have hn := h.1
  obtain ⟨bc, bdc, hc, sc, tc, wc, brr, hm, hpp, lgr, sn, wg, wn⟩ := d
  obtain ⟨boat, boats, brings, costs, goes, houses, minutes, noise, people, signs, told, works⟩ := m
  obtain ⟨ns, nw, nh, nb, tcn, bdn, lgn, sgn, wnn, wgn, hpn, hmn, brn, h1, h2, h3, h4, c1, c2, c3, c4, c5, c6, c7⟩ := hR
  have b1' := cnt_le n lt (p + 1)
  have b2 := cnt_le n lt (nx n lt (p + 1))
  have b3 := cnt_le n lt (nx n lt (nx n lt (p + 1)))
  have x1 : nx n lt (p + 1) = p + 1 + cnt n lt (p + 1) + 1 := rfl
  have x2 : nx n lt (nx n lt (p + 1)) = nx n lt (p + 1) + cnt n lt (nx n lt (p + 1)) + 1 := rfl
  have x3 : nx n lt (nx n lt (nx n lt (p + 1))) = nx n lt (nx n lt (p + 1)) + cnt n lt (nx n lt (nx n lt (p + 1))) + 1 := rfl
  have N : ∀ q (s : Bool), q < 800 → F_X10_number 0 4 44 (nI q) (if s = true then 1 else 0) (nI n) b = _ := fun q s hq => e_number10 (l := 0) (hi := 4) (bh := 44) h hq (by decide) (by decide) (by decide) (by decide) s
  have M : ∀ q (s : Bool), q < 800 → F_X10_number 0 4 59 (nI q) (if s = true then 1 else 0) (nI n) b = _ := fun q s hq => e_number10 (l := 0) (hi := 4) (bh := 59) h hq (by decide) (by decide) (by decide) (by decide) s
  have law : ∀ u v w, F_X10_law 1 u v w goes = some (upd (upd (upd goes 3 u) 4 v) 5 w) := fun u v w => by rw [F_X10_law, if_pos (by decide), if_pos (by decide), if_pos (by decide)]; rfl
  have ref : item10 (nI p) so (nI n) b (boat, boats, brings, costs, goes, houses, minutes, noise, people, signs, told, works) = some (nI (nxk n lt 3 (p + 1)), if nso n lt (nso n lt (nso n lt true 0 4 44 (p + 1)) 0 4 44 (nx n lt (p + 1))) 0 4 59 (nx n lt (nx n lt (p + 1))) = true then 1 else 0, boat, boats, brings, costs, upd (upd (upd goes 3 (nI (vk n lt (p + 1) 0))) 4 (nI (vk n lt (p + 1) 1))) 5 (nI (vk n lt (p + 1) 2)), houses, minutes, noise, people, signs, told, works) := by
    rw [item10]
    dsimp only
    rw [F_X10_readItem, here_lt h hp, sb, hL, if_pos (show nI 97 = 97 from rfl), nI_1, show F_X10_number 0 4 44 (nI (p + 1)) 1 (nI n) b = _ from N (p + 1) true (by omega), sb]
    dsimp only
    rw [N _ _ (by omega), sb]
    dsimp only
    rw [M _ _ (by omega), sb]
    dsimp only
    rw [law, sb]
    rfl
  refine ⟨_, _, _, ref, ⟨SAME.rfl', SAME.rfl', SAME.rfl', SAME.rfl', ((SAME.rfl'.up (by omega)).up (by omega)).up (by omega), SAME.rfl', SAME.rfl', SAME.rfl', SAME.rfl', SAME.rfl', SAME.rfl', SAME.rfl'⟩, ?_, ?_, ?_⟩
  · have := nxk_le n lt 3 (p + 1); omega
  · have := nxk_le n lt 3 (p + 1); omega
  have tl : ∀ k v, tld 97 k v = true ↔ k = 3 ∧ rg (v 0) 0 4 = true ∧ rg (v 1) 0 4 = true ∧ rg (v 2) 0 4 = true := fun k v => by
    rw [tld, if_pos rfl, Bool.and_eq_true, Bool.and_eq_true, Bool.and_eq_true, decide_eq_true_iff]
  rcases e_readAt h hp e l c nu with ⟨k, nu', q1, q2, q3, q4, q5, q6⟩ | ⟨q1, x, y, z, nu', q2⟩
  · rw [hL, tl] at q4
    obtain ⟨rfl, r0, r1, r2⟩ := q4
    obtain ⟨lg', t1, t2⟩ := e_takeSleeps nu' lgr
    refine Or.inl ⟨ns3.mpr ⟨rfl, q3, r0, r1, r2⟩, nu', (bc, bdc, hc, sc, tc, wc, brr, hm, hpp, lg', sn, wg, wn), _, q5, ?_, ns, nw, nh, nb, tcn, bdn, vk n lt (p + 1), sgn, wnn, wgn, hpn, hmn, brn, h1, h2, h3, h4, c1, c2, c3, c4, c5, c6, ?_⟩
    · rw [take9, hL]
      dsimp only
      rw [F_X8_take, if_pos (show nI 97 = 97 from rfl), t1, sb]
    · intro j hj
      have w0 := rg_iff.mp r0
      have w1 := rg_iff.mp r1
      have w2 := rg_iff.mp r2
      dsimp only
      rcases j3 hj with rfl | rfl | rfl
      · refine ⟨(t2 0 hj).trans (q6 0 (by decide)), ?_, w0.2⟩
        rw [upd_n (by decide), upd_n (by decide), show 3 + 0 = 3 from rfl, upd_s]
      · refine ⟨(t2 1 hj).trans (q6 1 (by decide)), ?_, w1.2⟩
        rw [upd_n (by decide), show 3 + 1 = 4 from rfl, upd_s]
      · refine ⟨(t2 2 hj).trans (q6 2 (by decide)), ?_, w2.2⟩
        rw [show 3 + 2 = 5 from rfl, upd_s]
  · refine Or.inr ⟨Bool.eq_false_iff.mpr (fun s => ?_), 0, x, y, z, nu', q2, Or.inl rfl⟩
    have s' := ns3.mp s
    exact q1 3 (by decide) ⟨s'.2.1, by rw [hL, tl]; exact ⟨rfl, s'.2.2.1, s'.2.2.2.1, s'.2.2.2.2⟩⟩
theorem it108 {n p : Nat} {lt : Nat → Nat} {a b : AR} {d : DT} {m : MT} (h : TX n lt a b) (hp : p < n) (hL : chr n lt p = 108) (hR : REL5 d m) : ITEM n p lt a b d m := by
  intro e l c nu so
  have hn := h.1
  obtain ⟨bc, bdc, hc, sc, tc, wc, brr, hm, hpp, lgr, sn, wg, wn⟩ := d
  obtain ⟨boat, boats, brings, costs, goes, houses, minutes, noise, people, signs, told, works⟩ := m
  obtain ⟨ns, nw, nh, nb, tcn, bdn, lgn, sgn, wnn, wgn, hpn, hmn, brn, h1, h2, h3, h4, c1, c2, c3, c4, c5, c6, c7⟩ := hR
  have b1' := cnt_le n lt (p + 1)
  have x1 : nx n lt (p + 1) = p + 1 + cnt n lt (p + 1) + 1 := rfl
  have N : ∀ q (s : Bool), q < 800 → F_X10_number 0 99 44 (nI q) (if s = true then 1 else 0) (nI n) b = _ := fun q s hq => e_number10 (l := 0) (hi := 99) (bh := 44) h hq (by decide) (by decide) (by decide) (by decide) s
  have M : ∀ q (s : Bool), q < 800 → F_X10_number 0 9 59 (nI q) (if s = true then 1 else 0) (nI n) b = _ := fun q s hq => e_number10 (l := 0) (hi := 9) (bh := 59) h hq (by decide) (by decide) (by decide) (by decide) s
  have ref : item10 (nI p) so (nI n) b (boat, boats, brings, costs, goes, houses, minutes, noise, people, signs, told, works) = some (nI (nxk n lt 2 (p + 1)), if nso n lt (nso n lt true 0 99 44 (p + 1)) 0 9 59 (nx n lt (p + 1)) = true then 1 else 0, boat, boats, brings, upd (upd costs 2 (nI (vk n lt (p + 1) 0))) 3 (nI (vk n lt (p + 1) 1)), goes, houses, minutes, noise, people, signs, told, works) := by
    rw [item10]
    dsimp only
    rw [F_X10_readItem, here_lt h hp, sb, hL, if_neg (show ¬ nI 108 = 97 by decide), if_neg (show ¬ nI 108 = 98 by decide), if_neg (show ¬ nI 108 = 104 by decide), if_pos (show nI 108 = 108 from rfl), nI_1, show F_X10_number 0 99 44 (nI (p + 1)) 1 (nI n) b = _ from N (p + 1) true (by omega), sb]
    dsimp only
    rw [M _ _ (by omega), sb]
    rfl
  refine ⟨_, _, _, ref, ⟨SAME.rfl', SAME.rfl', SAME.rfl', (SAME.rfl'.up (by omega)).up (by omega), SAME.rfl', SAME.rfl', SAME.rfl', SAME.rfl', SAME.rfl', SAME.rfl', SAME.rfl', SAME.rfl'⟩, ?_, ?_, ?_⟩
  · have := nxk_le n lt 2 (p + 1); omega
  · have := nxk_le n lt 2 (p + 1); omega
  have tl : ∀ k v, tld 108 k v = true ↔ k = 2 ∧ rg (v 0) 0 99 = true ∧ rg (v 1) 0 9 = true := fun k v => by
    rw [tld, if_neg (by decide), if_neg (by decide), if_neg (by decide), if_pos rfl, Bool.and_eq_true, Bool.and_eq_true, decide_eq_true_iff]
  rcases e_readAt h hp e l c nu with ⟨k, nu', q1, q2, q3, q4, q5, q6⟩ | ⟨q1, x, y, z, nu', q2⟩
  · rw [hL, tl] at q4
    obtain ⟨rfl, r0, r1⟩ := q4
    have w0 := rg_iff.mp r0
    have w1 := rg_iff.mp r1
    refine Or.inl ⟨ns2.mpr ⟨rfl, q3, r0, r1⟩, nu', (bc, nu' 1, hc, sc, nu' 0, wc, brr, hm, hpp, lgr, sn, wg, wn), _, q5, ?_, ns, nw, nh, nb, vk n lt (p + 1) 0, vk n lt (p + 1) 1, lgn, sgn, wnn, wgn, hpn, hmn, brn, h1, h2, h3, h4, w0.2, w1.2, q6 0 (by decide), q6 1 (by decide), ?_, ?_, c7⟩
    · rw [take9, hL]
      dsimp only
      rw [F_X8_take, if_neg (show ¬ nI 108 = 97 by decide), if_neg (show ¬ nI 108 = 98 by decide), if_neg (show ¬ nI 108 = 104 by decide), if_neg (show ¬ nI 108 = 115 by decide), if_neg (show ¬ nI 108 = 119 by decide), F_X8_takeCosts, show F_X3_numberAt 0 nu' = some (nu' 0) from numAt (i := 0) (by decide) nu', sb, show F_X3_numberAt 1 nu' = some (nu' 1) from numAt (i := 1) (by decide) nu', sb, sb]
    · dsimp only
      rw [upd_n (by decide), upd_s]
    · dsimp only
      rw [upd_s]
  · refine Or.inr ⟨Bool.eq_false_iff.mpr (fun s => ?_), 0, x, y, z, nu', q2, Or.inl rfl⟩
    have s' := ns2.mp s
    exact q1 2 (by decide) ⟨s'.2.1, by rw [hL, tl]; exact ⟨rfl, s'.2.2.1, s'.2.2.2⟩⟩
theorem it_other {n p : Nat} {lt : Nat → Nat} {a b : AR} {d : DT} {m : MT} (h : TX n lt a b) (hp : p < n) (g1 : chr n lt p ≠ 97) (g2 : chr n lt p ≠ 98) (g3 : chr n lt p ≠ 104) (g4 : chr n lt p ≠ 108) (g5 : chr n lt p ≠ 115) (g6 : chr n lt p ≠ 119) : ITEM n p lt a b d m := by
  intro e l c nu so
  have hn := h.1
  have hc := chr_le h p
  have ne : ∀ (L : Nat) (z : Int32), L < 1000 → z = nI L → chr n lt p ≠ L → ¬ nI (chr n lt p) = z := fun L z h1 h2 h3 q => h3 ((nI_lit (b := L) (c := z) (by omega) h1 h2).mp q)
  refine ⟨m, p + 1, false, ?_, ⟨SAME.rfl', SAME.rfl', SAME.rfl', SAME.rfl', SAME.rfl', SAME.rfl', SAME.rfl', SAME.rfl', SAME.rfl', SAME.rfl', SAME.rfl', SAME.rfl'⟩, by omega, by omega, ?_⟩
  · rw [item10, F_X10_readItem, here_lt h hp, sb, if_neg (ne 97 97 (by decide) rfl g1), if_neg (ne 98 98 (by decide) rfl g2), if_neg (ne 104 104 (by decide) rfl g3), if_neg (ne 108 108 (by decide) rfl g4), if_neg (ne 115 115 (by decide) rfl g5), if_neg (ne 119 119 (by decide) rfl g6), nI_1]
    rfl
  · rcases e_readAt h hp e l c nu with ⟨k, nu', q1, q2, q3, q4, q5, q6⟩ | ⟨q1, x, y, z, nu', q2⟩
    · rw [tld, if_neg g1, if_neg g2, if_neg g3, if_neg g4, if_neg g5, if_neg g6] at q4
      exact absurd q4 (by decide)
    · exact Or.inr ⟨rfl, 0, x, y, z, nu', q2, Or.inl rfl⟩
