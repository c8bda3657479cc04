/-! pure rows: an ITEM, as the class reads it -/
/-- k numbers from a place on, parted by , and a ; behind the last -/
def sqn (n : Nat) (lt : Nat → Nat) : Nat → Nat → Bool
  | 0, _ => false
  | 1, p => decide (0 < cnt n lt p) && decide (chr n lt (p + cnt n lt p) = 59)
  | k + 2, p => (decide (0 < cnt n lt p) && decide (chr n lt (p + cnt n lt p) = 44)) && sqn n lt (k + 1) (nx n lt p)
def nxk (n : Nat) (lt : Nat → Nat) : Nat → Nat → Nat
  | 0, p => p
  | k + 1, p => nxk n lt k (nx n lt p)
theorem sqn_uniq (n : Nat) (lt : Nat → Nat) : ∀ k k' p, sqn n lt k p = true → sqn n lt k' p = true → k = k' := by
  intro k
  induction k with
  | zero => intro k' p h; rw [sqn] at h; exact absurd h (by decide)
  | succ k ih =>
    intro k' p h h'
    cases k' with
    | zero => rw [sqn] at h'; exact absurd h' (by decide)
    | succ k' =>
      cases k with
      | zero =>
        cases k' with
        | zero => rfl
        | succ k' =>
          rw [sqn, Bool.and_eq_true, decide_eq_true_iff, decide_eq_true_iff] at h
          rw [sqn, Bool.and_eq_true, Bool.and_eq_true, decide_eq_true_iff, decide_eq_true_iff] at h'
          omega
      | succ k =>
        cases k' with
        | zero =>
          rw [sqn, Bool.and_eq_true, decide_eq_true_iff, decide_eq_true_iff] at h'
          rw [sqn, Bool.and_eq_true, Bool.and_eq_true, decide_eq_true_iff, decide_eq_true_iff] at h
          omega
        | succ k' =>
          rw [sqn, Bool.and_eq_true] at h h'
          rw [ih (k' + 1) (nx n lt p) h.2 h'.2]
theorem nxk_le (n : Nat) (lt : Nat → Nat) : ∀ k p, p + k ≤ nxk n lt k p ∧ nxk n lt k p ≤ p + 3 * k := by
  intro k
  induction k with
  | zero => intro p; rw [nxk]; omega
  | succ k ih =>
    intro p
    have h1 := ih (nx n lt p)
    have h2 := cnt_le n lt p
    rw [nxk]
    rw [nx] at h1 ⊢
    omega
theorem dg_cnt {n : Nat} {lt : Nat → Nat} {p : Nat} : dg n lt p = true ↔ 0 < cnt n lt p := by
  rw [cnt]
  by_cases h : dg n lt p = true
  · rw [if_pos h]
    by_cases h2 : dg n lt (p + 1) = true
    · rw [if_pos h2]; exact ⟨fun _ => by omega, fun _ => h⟩
    · rw [if_neg h2]; exact ⟨fun _ => by omega, fun _ => h⟩
  · rw [if_neg h]; exact ⟨fun q => absurd q h, fun q => absurd q (by omega)⟩
theorem l_readAt9 {n : Nat} {lt : Nat → Nat} {a b : Nat → Int32} (h : TX n lt a b) (q3 : Int32) (k101 : Int32 → Int32 → Int32 → (Nat → Int32) → Option (Int32 × Int32 × Int32 × Int32 × (Nat → Int32))) :
    ∀ (r i f p : Nat) (nu : Nat → Int32), i + r = 4 → r + 1 < f → p < 300 + 3 * i →
    (∃ k nu', 1 ≤ k ∧ k ≤ r ∧ sqn n lt k p = true ∧ L_X3_readAt_26 (nI n) a q3 k101 f 1 (nI i) (nI p) (nI i) nu = k101 0 (nI (nxk n lt k p)) (nI (i + k)) nu' ∧ (∀ j, j < i → nu' j = nu j) ∧ ∀ j, j < k → nu' (i + j) = nI (vl n lt (nxk n lt j p))) ∨
    ((∀ k, k ≤ r → ¬ sqn n lt k p = true) ∧ ((∃ x y nu', L_X3_readAt_26 (nI n) a q3 k101 f 1 (nI i) (nI p) (nI i) nu = some (0, x, q3, y, nu')) ∨ ∃ x y nu', L_X3_readAt_26 (nI n) a q3 k101 f 1 (nI i) (nI p) (nI i) nu = k101 1 x y nu')) := by
  intro r
  induction r with
  | zero =>
    intro i f p nu hi hf hp
    obtain ⟨f, rfl⟩ : ∃ x, f = x + 1 := ⟨f - 1, by omega⟩
    obtain rfl : i = 4 := by omega
    refine Or.inr ⟨fun k hk => ?_, Or.inr ⟨nI p, nI 4, nu, by rw [L_X3_readAt_26, if_pos (by decide)]⟩⟩
    obtain rfl : k = 0 := by omega
    rw [sqn]; decide
  | succ r ih =>
    intro i f p nu hi hf hp
    obtain ⟨f, rfl⟩ : ∃ x, f = x + 1 := ⟨f - 1, by omega⟩
    have hc := cnt_le n lt p
    have h0 : ¬ sqn n lt 0 p = true := by rw [sqn]; decide
    rw [L_X3_readAt_26, if_neg (show ¬ (4 : Int32) ≤ nI i from nI_ge (a := i) (b := 4) (by omega) (by decide)), if_neg n10, e_readNumber h (by omega) (by omega)]
    by_cases hd : dg n lt p = true
    · have hd' := dg_cnt.mp hd
      rw [if_pos hd, sb, if_neg n10]
      dsimp only
      rw [e_letterAt h (by omega), sb, jn, nI_1, nI_1]
      have hcm := chr_le h (p + cnt n lt p)
      by_cases h44 : chr n lt (p + cnt n lt p) = 44
      · have e44 : nI (chr n lt (p + cnt n lt p)) = 44 := by rw [h44]; rfl
        rw [if_pos e44, jn, if_pos e44]
        rcases ih (i + 1) f (p + cnt n lt p + 1) (upd nu i (nI (vl n lt p))) (by omega) (by omega) (by omega) with ⟨k, nu', c1, c2, c3, c4, c5, c6⟩ | ⟨c1, c2⟩
        · refine Or.inl ⟨k + 1, nu', by omega, by omega, ?_, ?_, fun j hj => ?_, fun j hj => ?_⟩
          · obtain ⟨k, rfl⟩ : ∃ x, k = x + 1 := ⟨k - 1, by omega⟩
            rw [sqn, Bool.and_eq_true, Bool.and_eq_true, decide_eq_true_iff, decide_eq_true_iff]
            exact ⟨⟨hd', h44⟩, c3⟩
          · refine Eq.trans c4 ?_
            rw [show i + 1 + k = i + (k + 1) by omega]; rfl
          · rw [c5 j (by omega), upd_n (by omega)]
          · cases j with
            | zero => rw [Nat.add_zero, c5 i (by omega), upd_s]; rfl
            | succ j => rw [show i + (j + 1) = i + 1 + j by omega, c6 j (by omega)]; rfl
        · refine Or.inr ⟨fun k hk hs => ?_, c2⟩
          cases k with
          | zero => exact h0 hs
          | succ k =>
            cases k with
            | zero =>
              rw [sqn, Bool.and_eq_true, decide_eq_true_iff, decide_eq_true_iff] at hs
              omega
            | succ k =>
              rw [sqn, Bool.and_eq_true] at hs
              exact c1 (k + 1) (by omega) hs.2
      · have e44 : ¬ nI (chr n lt (p + cnt n lt p)) = 44 := fun e => h44 ((nI_eq (a := chr n lt (p + cnt n lt p)) (b := 44) (by omega) (by decide)).mp e)
        rw [if_neg e44]
        by_cases h59 : chr n lt (p + cnt n lt p) = 59
        · have e59 : nI (chr n lt (p + cnt n lt p)) = 59 := by rw [h59]; rfl
          obtain ⟨f, rfl⟩ : ∃ x, f = x + 1 := ⟨f - 1, by omega⟩
          refine Or.inl ⟨1, upd nu i (nI (vl n lt p)), by omega, by omega, ?_, ?_, fun j hj => upd_n (by omega), fun j hj => ?_⟩
          · rw [sqn, Bool.and_eq_true, decide_eq_true_iff, decide_eq_true_iff]
            exact ⟨hd', h59⟩
          · rw [if_pos e59, jn, if_neg e44]
            try dsimp only
            rw [L_X3_readAt_26]
            by_cases h4 : (4 : Int32) ≤ nI (i + 1)
            · rw [if_pos h4]; rfl
            · rw [if_neg h4, if_pos rfl]; rfl
          · obtain rfl : j = 0 := by omega
            rw [Nat.add_zero, upd_s]; rfl
        · have e59 : ¬ nI (chr n lt (p + cnt n lt p)) = 59 := fun e => h59 ((nI_eq (a := chr n lt (p + cnt n lt p)) (b := 59) (by omega) (by decide)).mp e)
          rw [if_neg e59]
          refine Or.inr ⟨fun k hk hs => ?_, Or.inl ⟨_, _, _, rfl⟩⟩
          cases k with
          | zero => exact h0 hs
          | succ k =>
            cases k with
            | zero =>
              rw [sqn, Bool.and_eq_true, decide_eq_true_iff, decide_eq_true_iff] at hs
              omega
            | succ k =>
              rw [sqn, Bool.and_eq_true, Bool.and_eq_true, decide_eq_true_iff, decide_eq_true_iff] at hs
              omega
    · have hd' : ¬ 0 < cnt n lt p := fun q => hd (dg_cnt.mpr q)
      rw [if_neg hd, sb, if_pos rfl]
      refine Or.inr ⟨fun k hk hs => ?_, Or.inl ⟨_, _, _, rfl⟩⟩
      cases k with
      | zero => exact h0 hs
      | succ k =>
        cases k with
        | zero =>
          rw [sqn, Bool.and_eq_true, decide_eq_true_iff, decide_eq_true_iff] at hs
          omega
        | succ k =>
          rw [sqn, Bool.and_eq_true, Bool.and_eq_true, decide_eq_true_iff, decide_eq_true_iff] at hs
          omega
def rg (v l h : Nat) : Bool := decide (l ≤ v) && decide (v ≤ h)
/-- is such an item told, of this letter, with so many numbers, these -/
def tld (L k : Nat) (v : Nat → Nat) : Bool :=
  if L = 97 then decide (k = 3) && (rg (v 0) 0 4 && (rg (v 1) 0 4 && rg (v 2) 0 4)) else
  if L = 98 then decide (k = 1) && rg (v 0) 1 30 else
  if L = 104 then decide (k = 2) && (rg (v 0) 1 9 && rg (v 1) 0 60) else
  if L = 108 then decide (k = 2) && (rg (v 0) 0 99 && rg (v 1) 0 9) else
  if L = 115 then decide (k = 4) && (rg (v 0) 0 3 && (rg (v 1) 0 4 && (rg (v 2) 0 4 && rg (v 3) 0 4))) else
  if L = 119 then decide (k = 2) && (rg (v 0) 0 4 && rg (v 1) 0 20) else false
theorem e_reach {i v l h : Nat} {nu : Nat → Int32} (hi : i < 4) (hn : nu i = nI v) (hv : v < 2 ^ 31) (hl : l < 2 ^ 31) (hh : h < 2 ^ 31) : F_X3_reaches (nI i) (nI l) (nI h) nu = some (if rg v l h = true then 1 else 0) := by
  rw [F_X3_reaches, at_in (k := i) (n := 4) hi (by decide), sb, e_within, sb, hn, win_nat hv hl hh, rg]
/-- a chain of questions -/
theorem qand {x y : Bool} {F : Option Int32} {G : Int32 → Option Int32} (hF : F = some (if x = true then 1 else 0)) (hG : G 1 = some (if y = true then 1 else 0)) : F.bind (fun q => if q = 0 then some 0 else G q) = some (if (x && y) = true then 1 else 0) := by
  rw [hF, sb]
  cases x with
  | false => rw [if_neg (show ¬ (false = true) by decide), if_pos rfl, Bool.false_and, if_neg (by decide)]
  | true => rw [if_pos (show true = true from rfl), if_neg n10, hG, Bool.true_and]
theorem qone {x : Bool} {F : Option Int32} (hF : F = some (if x = true then 1 else 0)) : F.bind (fun q => if q = 0 then some 0 else some (1 : Int32)) = some (if x = true then 1 else 0) := by
  rw [hF, sb]
  cases x with
  | false => rw [if_neg (show ¬ (false = true) by decide), if_pos rfl]
  | true => rw [if_pos (show true = true from rfl), if_neg n10]
theorem nI_lit {a b : Nat} {c : Int32} (ha : a < 1000) (hb : b < 1000) (hc : c = nI b) : nI a = c ↔ a = b := by rw [hc]; exact nI_eq (by omega) (by omega)
theorem e_isTold {L k : Nat} {v : Nat → Nat} {nu : Nat → Int32} (hL : L < 1000) (hk : k ≤ 4) (hv : ∀ j, v j ≤ 99) (hn : ∀ j, j < k → nu j = nI (v j)) : F_X3_isTold (nI L) (nI k) nu = some (if tld L k v = true then 1 else 0) := by
  have R : ∀ i l h, i < k → i < 4 → l < 1000 → h < 1000 → F_X3_reaches (nI i) (nI l) (nI h) nu = some (if rg (v i) l h = true then 1 else 0) := fun i l h h1 h2 h3 h4 => e_reach h2 (hn i h1) (by have := hv i; omega) (by omega) (by omega)
  have cne : ∀ K : Nat, k ≠ K → decide (k = K) = false := fun K h => decide_eq_false h
  rw [F_X3_isTold, tld]
  by_cases h97 : L = 97
  · rw [if_pos ((nI_lit (b := 97) (c := 97) hL (by decide) rfl).mpr h97), if_pos h97]
    by_cases hk3 : k = 3
    · subst hk3
      rw [if_pos (show nI 3 = 3 from rfl), show decide (3 = 3) = true from rfl, Bool.true_and]
      exact qand (R 0 0 4 (by decide) (by decide) (by decide) (by decide)) (qand (R 1 0 4 (by decide) (by decide) (by decide) (by decide)) (qone (R 2 0 4 (by decide) (by decide) (by decide) (by decide))))
    · rw [if_neg (fun q => hk3 ((nI_lit (b := 3) (c := 3) (by omega) (by decide) rfl).mp q)), cne 3 hk3, Bool.false_and, if_neg (by decide)]
  rw [if_neg (fun q => h97 ((nI_lit (b := 97) (c := 97) hL (by decide) rfl).mp q)), if_neg h97]
  by_cases h98 : L = 98
  · rw [if_pos ((nI_lit (b := 98) (c := 98) hL (by decide) rfl).mpr h98), if_pos h98]
    by_cases hk3 : k = 1
    · subst hk3
      rw [if_pos (show nI 1 = 1 from rfl), show decide (1 = 1) = true from rfl, Bool.true_and]
      exact qone (R 0 1 30 (by decide) (by decide) (by decide) (by decide))
    · rw [if_neg (fun q => hk3 ((nI_lit (b := 1) (c := 1) (by omega) (by decide) rfl).mp q)), cne 1 hk3, Bool.false_and, if_neg (by decide)]
  rw [if_neg (fun q => h98 ((nI_lit (b := 98) (c := 98) hL (by decide) rfl).mp q)), if_neg h98]
  by_cases h104 : L = 104
  · rw [if_pos ((nI_lit (b := 104) (c := 104) hL (by decide) rfl).mpr h104), if_pos h104]
    by_cases hk3 : k = 2
    · subst hk3
      rw [if_pos (show nI 2 = 2 from rfl), show decide (2 = 2) = true from rfl, Bool.true_and]
      exact qand (R 0 1 9 (by decide) (by decide) (by decide) (by decide)) (qone (R 1 0 60 (by decide) (by decide) (by decide) (by decide)))
    · rw [if_neg (fun q => hk3 ((nI_lit (b := 2) (c := 2) (by omega) (by decide) rfl).mp q)), cne 2 hk3, Bool.false_and, if_neg (by decide)]
  rw [if_neg (fun q => h104 ((nI_lit (b := 104) (c := 104) hL (by decide) rfl).mp q)), if_neg h104]
  by_cases h108 : L = 108
  · rw [if_pos ((nI_lit (b := 108) (c := 108) hL (by decide) rfl).mpr h108), if_pos h108]
    by_cases hk3 : k = 2
    · subst hk3
      rw [if_pos (show nI 2 = 2 from rfl), show decide (2 = 2) = true from rfl, Bool.true_and]
      exact qand (R 0 0 99 (by decide) (by decide) (by decide) (by decide)) (qone (R 1 0 9 (by decide) (by decide) (by decide) (by decide)))
    · rw [if_neg (fun q => hk3 ((nI_lit (b := 2) (c := 2) (by omega) (by decide) rfl).mp q)), cne 2 hk3, Bool.false_and, if_neg (by decide)]
  rw [if_neg (fun q => h108 ((nI_lit (b := 108) (c := 108) hL (by decide) rfl).mp q)), if_neg h108]
  by_cases h115 : L = 115
  · rw [if_pos ((nI_lit (b := 115) (c := 115) hL (by decide) rfl).mpr h115), if_pos h115]
    by_cases hk3 : k = 4
    · subst hk3
      rw [if_pos (show nI 4 = 4 from rfl), show decide (4 = 4) = true from rfl, Bool.true_and]
      exact qand (R 0 0 3 (by decide) (by decide) (by decide) (by decide)) (qand (R 1 0 4 (by decide) (by decide) (by decide) (by decide)) (qand (R 2 0 4 (by decide) (by decide) (by decide) (by decide)) (qone (R 3 0 4 (by decide) (by decide) (by decide) (by decide)))))
    · rw [if_neg (fun q => hk3 ((nI_lit (b := 4) (c := 4) (by omega) (by decide) rfl).mp q)), cne 4 hk3, Bool.false_and, if_neg (by decide)]
  rw [if_neg (fun q => h115 ((nI_lit (b := 115) (c := 115) hL (by decide) rfl).mp q)), if_neg h115]
  by_cases h119 : L = 119
  · rw [if_pos ((nI_lit (b := 119) (c := 119) hL (by decide) rfl).mpr h119), if_pos h119]
    by_cases hk3 : k = 2
    · subst hk3
      rw [if_pos (show nI 2 = 2 from rfl), show decide (2 = 2) = true from rfl, Bool.true_and]
      exact qand (R 0 0 4 (by decide) (by decide) (by decide) (by decide)) (qone (R 1 0 20 (by decide) (by decide) (by decide) (by decide)))
    · rw [if_neg (fun q => hk3 ((nI_lit (b := 2) (c := 2) (by omega) (by decide) rfl).mp q)), cne 2 hk3, Bool.false_and, if_neg (by decide)]
  rw [if_neg (fun q => h119 ((nI_lit (b := 119) (c := 119) hL (by decide) rfl).mp q)), if_neg h119, if_neg (by decide)]
/-- what the numbers of an item say -/
def vk (n : Nat) (lt : Nat → Nat) (p j : Nat) : Nat := vl n lt (nxk n lt j p)
theorem e_readAt {n p : Nat} {lt : Nat → Nat} {a b : Nat → Int32} (h : TX n lt a b) (hp : p < n) (e l c : Int32) (nu : Nat → Int32) :
    (∃ k nu', 1 ≤ k ∧ k ≤ 4 ∧ sqn n lt k (p + 1) = true ∧ tld (chr n lt p) k (vk n lt (p + 1)) = true ∧ F_X3_readAt (nI p) e l c (nI n) a nu = some (1, nI (nxk n lt k (p + 1)), nI (chr n lt p), nI k, nu') ∧ ∀ j, j < k → nu' j = nI (vk n lt (p + 1) j)) ∨
    ((∀ k, k ≤ 4 → ¬ (sqn n lt k (p + 1) = true ∧ tld (chr n lt p) k (vk n lt (p + 1)) = true)) ∧ ∃ x y z nu', F_X3_readAt (nI p) e l c (nI n) a nu = some (0, x, y, z, nu')) := by
  have hn := h.1
  have hc := chr_le h p
  have hv : ∀ j, vk n lt (p + 1) j ≤ 99 := fun j => vl_le n lt _
  rw [F_X3_readAt, e_letterAt h (by omega), sb, jn, nI_1]
  rcases l_readAt9 h (nI (chr n lt p)) (fun x3_101 v_end_101 v_numberCount_101 a_numbers_101 => (if x3_101 = 0 then (F_X3_isTold (nI (chr n lt p)) v_numberCount_101 a_numbers_101).bind (fun q106 => (if q106 = 0 then some (0, v_end_101, nI (chr n lt p), v_numberCount_101, a_numbers_101) else some (1, v_end_101, nI (chr n lt p), v_numberCount_101, a_numbers_101))) else some (0, v_end_101, nI (chr n lt p), v_numberCount_101, a_numbers_101))) 4 0 5000 (p + 1) nu (by omega) (by omega) (by omega) with ⟨k, nu', c1, c2, c3, c4, c5, c6⟩ | ⟨c1, c2⟩
  · have hnu : ∀ j, j < k → nu' j = nI (vk n lt (p + 1) j) := fun j hj => by have := c6 j hj; rwa [Nat.zero_add] at this
    have ht := e_isTold (L := chr n lt p) (k := k) (v := vk n lt (p + 1)) (by omega) c2 hv hnu
    by_cases hx : tld (chr n lt p) k (vk n lt (p + 1)) = true
    · refine Or.inl ⟨k, nu', c1, c2, c3, hx, Eq.trans c4 ?_, hnu⟩
      rw [if_pos rfl, Nat.zero_add, ht, sb, if_pos hx, if_neg n10]
    · refine Or.inr ⟨fun k' hk' ⟨s1, s2⟩ => hx (by rw [sqn_uniq n lt k k' (p + 1) c3 s1]; exact s2), nI (nxk n lt k (p + 1)), nI (chr n lt p), nI k, nu', Eq.trans c4 ?_⟩
      rw [if_pos rfl, Nat.zero_add, ht, sb, if_neg hx, if_pos rfl]
  · refine Or.inr ⟨fun k hk ⟨s1, s2⟩ => c1 k hk s1, ?_⟩
    rcases c2 with ⟨x, y, nu', e1⟩ | ⟨x, y, nu', e1⟩
    · exact ⟨x, _, y, nu', e1⟩
    · refine ⟨x, nI (chr n lt p), y, nu', Eq.trans e1 ?_⟩
      rw [if_neg n10]
