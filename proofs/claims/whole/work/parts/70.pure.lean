/-! pure rows: small numbers, rows, ranges, sets -/
theorem b0 {O : Type} (A B : Int32 → Option O) : ((some (0 : Int32)).bind (fun q => if q = 0 then A q else B q)) = A 0 := (if_pos rfl : (if (0 : Int32) = 0 then A 0 else B 0) = A 0)
theorem b1 {O : Type} (A B : Int32 → Option O) : ((some (1 : Int32)).bind (fun q => if q = 0 then A q else B q)) = B 1 := (if_neg (by decide) : (if (1 : Int32) = 0 then A 1 else B 1) = B 1)
theorem sb {A B : Type} (a : A) (f : A → Option B) : (some a).bind f = f a := rfl
def win (x lo hi : Int32) : Int32 := if x < lo then 0 else if hi < x then 0 else 1
theorem e_within (x lo hi : Int32) : F_X9_isWithin x lo hi = some (win x lo hi) := by
  rw [F_X9_isWithin, win]
  by_cases h1 : x < lo
  · rw [if_pos h1, if_pos h1]
  · rw [if_neg h1, if_neg h1]
    by_cases h2 : hi < x
    · rw [if_pos h2, if_pos h2]
    · rw [if_neg h2, if_neg h2]
theorem e_in (x lo hi : Int32) : F_X10_in x lo hi = some (win x lo hi) := by
  rw [F_X10_in, win]
  by_cases h1 : x < lo
  · rw [if_pos h1, if_pos h1]
  · rw [if_neg h1, if_neg h1]
    by_cases h2 : hi < x
    · rw [if_pos h2, if_pos h2]
    · rw [if_neg h2, if_neg h2]
theorem win_c (x lo hi : Int32) : win x lo hi = 0 ∨ (win x lo hi = 1 ∧ ¬ x < lo ∧ ¬ hi < x) := by
  rw [win]
  by_cases h1 : x < lo
  · rw [if_pos h1]; exact Or.inl rfl
  · rw [if_neg h1]
    by_cases h2 : hi < x
    · rw [if_pos h2]; exact Or.inl rfl
    · rw [if_neg h2]; exact Or.inr ⟨rfl, h1, h2⟩
theorem rng {x : Int32} {n : Nat} (hn : n < 2 ^ 30) (h1 : ¬ x < 0) (h2 : ¬ nI n - 1 < x) : ∃ j, j < n ∧ x = nI j := by
  obtain ⟨j, hj, rfl⟩ := nI_of h1
  refine ⟨j, ?_, rfl⟩
  have e : (nI n - 1).toInt = (n : Int) - 1 := pk_sub_toInt (a := n) (b := 1) hn (by decide)
  have ej : (nI j).toInt = (j : Int) := nI_toInt hj
  rcases Nat.lt_or_ge j n with q | q
  · exact q
  · exact absurd (Int32.lt_iff_toInt_lt.mpr (by rw [e, ej]; omega)) h2
theorem rngk {x : Int32} {n : Nat} (hn : n < 2 ^ 30) (h1 : ¬ x < 0) (h2 : ¬ nI n < x) : ∃ j, j ≤ n ∧ x = nI j := by
  obtain ⟨j, hj, rfl⟩ := nI_of h1
  refine ⟨j, ?_, rfl⟩
  rcases Nat.lt_or_ge n j with q | q
  · exact absurd (nI_lt q hj) h2
  · exact q
theorem inbT {k n : Nat} (h : k < n) (hn : n < 2 ^ 31) : inb (nI k) n = true := decide_eq_true (nI_in h hn)
theorem at_in {k n : Nat} (h : k < n) (hn : n < 2 ^ 31) (a : Nat → Int32) : F_X4_at (nI k) n a = some (a k) := by
  rw [F_X4_at, if_neg (nI_pos (Nat.lt_trans h hn)), if_neg (nI_ge h hn), if_pos (inbT h hn), nI_clamp (Nat.lt_trans h hn)]
theorem at_out {k n : Nat} (h : n ≤ k) (hk : k < 2 ^ 31) (a : Nat → Int32) : F_X4_at (nI k) n a = some 0 := by
  rw [F_X4_at, if_neg (nI_pos hk), if_pos (nI_le h hk)]
theorem at_neg {x : Int32} (h : x < 0) (n : Nat) (a : Nat → Int32) : F_X4_at x n a = some 0 := by
  rw [F_X4_at, if_pos h]
theorem put_in {k n : Nat} (h : k < n) (hn : n < 2 ^ 31) (v : Int32) (a : Nat → Int32) : F_X4_put (nI k) v n a = some (upd a k v) := by
  rw [F_X4_put, if_neg (nI_pos (Nat.lt_trans h hn)), if_neg (nI_ge h hn), if_pos (inbT h hn), nI_clamp (Nat.lt_trans h hn)]
theorem lat_in {k n : Nat} (h : k < n) (hn : n < 2 ^ 31) (a : Nat → Int64) : F_X4_longAt (nI k) n a = some (a k) := by
  rw [F_X4_longAt, if_neg (nI_pos (Nat.lt_trans h hn)), if_neg (nI_ge h hn), if_pos (inbT h hn), nI_clamp (Nat.lt_trans h hn)]
theorem lput_in {k n : Nat} (h : k < n) (hn : n < 2 ^ 31) (v : Int64) (a : Nat → Int64) : F_X4_putLong (nI k) v n a = some (vp_updL a k v) := by
  rw [F_X4_putLong, if_neg (nI_pos (Nat.lt_trans h hn)), if_neg (nI_ge h hn), if_pos (inbT h hn), nI_clamp (Nat.lt_trans h hn)]
theorem shl1 : ∀ n, n < 6 → (1 : Int32) <<< (nI n &&& 31) = nI (2 ^ n) := by decide +kernel
theorem e_setsOf {n : Nat} (h : n < 6) : F_X9_setsOf (nI n) = some (nI (2 ^ n)) := by rw [F_X9_setsOf, shl1 n h]
theorem pow6 : ∀ n, n < 6 → 2 ^ n ≤ 32 := by decide
/-- a set of n things, as the class asks it -/
theorem e_isSet {n : Nat} (h : n < 6) (x : Int32) : F_X9_isSet x (nI n) = some (win x 0 (nI (2 ^ n) - 1)) := by
  rw [F_X9_isSet, e_setsOf h, sb, e_within, sb]
theorem e_areWorks {n : Nat} (h : n < 6) (x : Int32) (w : Nat → Int32) (hw : w 0 = nI n) : F_X10_areWorks x w = some (win x 0 (nI (2 ^ n) - 1)) := by
  rw [F_X10_areWorks, show w (Int32.toNatClampNeg 0) = nI n from hw, shl1 n h, e_in, sb]
theorem e_isSign (n : Nat) (x : Int32) (w : Nat → Int32) (hw : w 0 = nI n) : F_X10_isSign x w = some (win x 0 (nI n - 1)) := by
  rw [F_X10_isSign, show w (Int32.toNatClampNeg 0) = nI n from hw, e_in, sb]
theorem upd_s (f : Nat → Int32) (k : Nat) (x : Int32) : upd f k x k = x := pk_us
theorem upd_n {f : Nat → Int32} {k j : Nat} {x : Int32} (h : j ≠ k) : upd f k x j = f j := pk_un h
/-! THE TEXT -/
def RText (l : Int32) (a : Nat → Int32) (t : Int32) (b : Nat → Int32) : Prop := ∃ n : Nat, n ≤ 200 ∧ l = nI n ∧ t = nI n ∧ ∀ j, j < n → a j = b j ∧ ∃ c : Nat, 32 ≤ c ∧ c ≤ 126 ∧ a j = nI c
theorem e_append {n : Nat} (h : n < 200) (x : Int32) (a : Nat → Int32) : F_X6_append x (nI n) a = some (nI (n + 1), upd a n x) := by
  rw [F_X6_append, if_neg (show ¬ (200 : Int32) ≤ nI n from nI_ge (a := n) (b := 200) h (by decide)), put_in h (by decide), sb, nI_1]
theorem byte_ok : ∀ c, c < 128 → vp_nar .byte (Int8.toInt32 (Int32.toInt8 (nI c))) = nI c := by decide +kernel
theorem fw_write (x : Int32) {l t : Int32} {a b : Nat → Int32} (h : RText l a t b) : ∃ o1 o2, F_X9_write x l a = some o1 ∧ F_X10_write x t b = some o2 ∧ o1.1 = o2.1 ∧ RText o1.2.1 o1.2.2 o2.2.1 o2.2.2 := by
  obtain ⟨n, hn, rfl, rfl, hj⟩ := h
  rcases win_c x 32 126 with hw | ⟨hw, h1, h2⟩
  · exact ⟨(-1, nI n, a), (-1, nI n, b), by rw [F_X9_write, e_within, hw, b0], by rw [F_X10_write, e_in, hw, b0], rfl, n, hn, rfl, rfl, hj⟩
  · have h0 : ¬ x < 0 := fun q => h1 (Int32.lt_trans q (by decide))
    obtain ⟨c, hc, rfl⟩ := rngk (n := 126) (by decide) h0 h2
    have hc3 : 32 ≤ c := by
      rcases Nat.lt_or_ge c 32 with q | q
      · exact absurd (nI_lt (a := c) (b := 32) q (by decide)) h1
      · exact q
    rcases Nat.lt_or_ge n 200 with q | q
    · refine ⟨(nI (n + 1), nI (n + 1), upd a n (nI c)), (nI (n + 1), nI (n + 1), upd b n (nI c)), ?_, ?_, rfl, n + 1, q, rfl, rfl, ?_⟩
      · rw [F_X9_write, e_within, hw, b1, if_pos (show nI n < (200 : Int32) from nI_lt (a := n) (b := 200) q (by decide)), e_append q, sb]
      · rw [F_X10_write, e_in, hw, b1, if_neg (show ¬ nI n = (200 : Int32) from fun e => absurd ((nI_eq (a := n) (b := 200) (by omega) (by decide)).mp e) (by omega)), if_pos (inbT q (by decide)), byte_ok c (by omega), nI_clamp (by omega), nI_1]
      · intro j hjn
        by_cases e : j = n
        · subst e; dsimp only; exact ⟨by rw [upd_s, upd_s], c, hc3, hc, upd_s _ _ _⟩
        · dsimp only; rw [upd_n e, upd_n e]; exact hj j (by omega)
    · obtain rfl : n = 200 := by omega
      exact ⟨(-3, nI 200, a), (-3, nI 200, b), by rw [F_X9_write, e_within, hw, b1, if_neg (by decide)], by rw [F_X10_write, e_in, hw, b1, if_pos (by decide)], rfl, 200, hn, rfl, rfl, hj⟩
theorem fw_wipe {l t : Int32} {a b : Nat → Int32} (h : RText l a t b) : ∃ o1 o2, F_X9_wipe l = some o1 ∧ F_X10_wipe t = some o2 ∧ o1.1 = o2.1 ∧ RText o1.2 a o2.2 b := by
  obtain ⟨n, hn, rfl, rfl, hj⟩ := h
  exact ⟨(nI n, 0), (nI n, 0), rfl, rfl, rfl, 0, by omega, rfl, rfl, fun j h => absurd h (by omega)⟩
/-! THE DIARY: days, signs, works of the class; the reference's rows, from the place 5 k on -/
def RDiary (ns nw : Nat) (d : Int32) (sg wk : Nat → Int32) (md ms mw : Nat → Int32) (k : Nat) : Prop := ∃ n : Nat, n ≤ 5 ∧ d = nI n ∧ md k = nI n ∧ ∀ j, j < n → (sg j = ms (5 * k + j) ∧ ∃ c : Nat, c < 2 ^ ns ∧ sg j = nI c) ∧ (wk j = mw (5 * k + j) ∧ ∃ c : Nat, c < 2 ^ nw ∧ wk j = nI c)
theorem e_dappend {n : Nat} (h : n < 5) (x y : Int32) (a b : Nat → Int32) : F_X1_append x y (nI n) a b = some (nI (n + 1), upd a n x, upd b n y) := by
  rw [F_X1_append, if_neg (show ¬ (5 : Int32) ≤ nI n from nI_ge (a := n) (b := 5) h (by decide)), put_in h (by decide), sb, put_in h (by decide), sb, nI_1]
theorem fw_day (x y : Int32) {ns nw : Nat} (hns : ns < 6) (hnw : nw < 6) {d sc wc : Int32} {sg wk md ms mw m2 m9 : Nat → Int32} (hs : sc = nI ns) (hw : wc = nI nw) (h2 : m2 0 = nI ns) (h9 : m9 0 = nI nw) (h : RDiary ns nw d sg wk md ms mw 0) :
    ∃ o1 o2, F_X9_day x y d sg wk sc wc = some o1 ∧ F_X10_day x y md ms m2 mw m9 = some o2 ∧ o1.1 = o2.1 ∧ RDiary ns nw o1.2.1 o1.2.2.1 o1.2.2.2 o2.2.1 o2.2.2.1 o2.2.2.2 0 ∧ (∀ j, 1 ≤ j → o2.2.1 j = md j) ∧ (∀ j, 5 ≤ j → o2.2.2.1 j = ms j ∧ o2.2.2.2 j = mw j) := by
  subst hs; subst hw
  obtain ⟨n, hn, rfl, hmd, hj⟩ := h
  have hmd' : md (Int32.toNatClampNeg 0) = nI n := hmd
  have h2' : m2 (Int32.toNatClampNeg 0) = nI ns := h2
  have p1 := pow6 ns hns
  have p2 := pow6 nw hnw
  have same : RDiary ns nw (nI n) sg wk md ms mw 0 := ⟨n, hn, rfl, hmd, hj⟩
  rcases win_c x 0 (nI (2 ^ ns) - 1) with hw | ⟨hw, a1, a2⟩
  · exact ⟨(-1, nI n, sg, wk), (-1, md, ms, mw), by rw [F_X9_day, e_isSet hns, hw, b0], by rw [F_X10_day, h2', shl1 ns hns, e_in, hw, b0], rfl, same, fun _ _ => rfl, fun _ _ => ⟨rfl, rfl⟩⟩
  · rcases win_c y 0 (nI (2 ^ nw) - 1) with hv | ⟨hv, c1, c2⟩
    · exact ⟨(-1, nI n, sg, wk), (-1, md, ms, mw), by rw [F_X9_day, e_isSet hns, hw, b1, e_isSet hnw, hv, b0], by rw [F_X10_day, h2', shl1 ns hns, e_in, hw, b1, e_areWorks hnw y m9 h9, hv, b0], rfl, same, fun _ _ => rfl, fun _ _ => ⟨rfl, rfl⟩⟩
    · obtain ⟨cx, hcx, rfl⟩ := rng (by omega) a1 a2
      obtain ⟨cy, hcy, rfl⟩ := rng (by omega) c1 c2
      rcases Nat.lt_or_ge n 5 with q | q
      · refine ⟨(nI (n + 1), nI (n + 1), upd sg n (nI cx), upd wk n (nI cy)), (nI (n + 1), upd md 0 (nI (n + 1)), upd ms n (nI cx), upd mw n (nI cy)), ?_, ?_, rfl, ⟨n + 1, q, rfl, upd_s md 0 (nI (n + 1)), ?_⟩, fun j hj1 => upd_n (by omega), fun j hj5 => ⟨upd_n (by omega), upd_n (by omega)⟩⟩
        · rw [F_X9_day, e_isSet hns, hw, b1, e_isSet hnw, hv, b1, if_pos (show nI n < (5 : Int32) from nI_lt (a := n) (b := 5) q (by decide)), e_dappend q, sb]
        · rw [F_X10_day, h2', shl1 ns hns, e_in, hw, b1, e_areWorks hnw _ m9 h9, hv, b1, hmd', if_neg (show ¬ nI n = (5 : Int32) from fun e => absurd ((nI_eq (a := n) (b := 5) (by omega) (by decide)).mp e) (by omega)), if_pos (inbT (by omega) (by decide)), if_pos (inbT (by omega) (by decide)), nI_clamp (by omega), nI_1]
          rfl
        · intro j hjn
          by_cases e : j = n
          · subst e
            dsimp only
            rw [upd_s, upd_s, show 5 * 0 + j = j by omega, upd_s, upd_s]
            exact ⟨⟨rfl, cx, hcx, rfl⟩, rfl, cy, hcy, rfl⟩
          · dsimp only; rw [upd_n e, upd_n e, upd_n (by omega), upd_n (by omega)]; exact hj j (by omega)
      · obtain rfl : n = 5 := by omega
        exact ⟨(-3, nI 5, sg, wk), (-3, md, ms, mw), by rw [F_X9_day, e_isSet hns, hw, b1, e_isSet hnw, hv, b1, if_neg (by decide)], by rw [F_X10_day, h2', shl1 ns hns, e_in, hw, b1, e_areWorks hnw _ m9 h9, hv, b1, hmd', if_pos (by decide)], rfl, same, fun _ _ => rfl, fun _ _ => ⟨rfl, rfl⟩⟩
theorem fw_undo {ns nw : Nat} {d : Int32} {sg wk md ms mw : Nat → Int32} (h : RDiary ns nw d sg wk md ms mw 0) : ∃ o1 o2, F_X9_undo d = some o1 ∧ F_X10_undo md = some o2 ∧ o1.1 = o2.1 ∧ RDiary ns nw o1.2 sg wk o2.2 ms mw 0 ∧ (∀ j, 1 ≤ j → o2.2 j = md j) := by
  obtain ⟨n, hn, rfl, hmd, hj⟩ := h
  have hmd' : md (Int32.toNatClampNeg 0) = nI n := hmd
  cases n with
  | zero => exact ⟨(-2, nI 0), (-2, md), by rw [F_X9_undo, if_neg (by decide)], by rw [F_X10_undo, hmd', if_pos (show nI 0 = (0 : Int32) from rfl)], rfl, ⟨0, hn, rfl, hmd, hj⟩, fun _ _ => rfl⟩
  | succ n =>
    refine ⟨(nI n, nI n), (nI n, upd md 0 (nI n)), ?_, ?_, rfl, ⟨n, by omega, rfl, upd_s md 0 (nI n), fun j h => hj j (by omega)⟩, fun j h => upd_n (by omega)⟩
    · rw [F_X9_undo, if_pos (show (1 : Int32) ≤ nI (n + 1) from nI_le (a := 1) (b := n + 1) (by omega) (by omega)), nI_pred]
    · rw [F_X10_undo, hmd', if_neg (show ¬ nI (n + 1) = (0 : Int32) from nI_ne0 (n := n + 1) (by omega) (by omega)), nI_pred]
      rfl
