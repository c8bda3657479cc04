/-! pure rows: the text in numbers: letters, numbers of one or two figures -/
def TX (n : Nat) (lt : Nat → Nat) (a b : Nat → Int32) : Prop := n ≤ 200 ∧ ∀ j, j < n → a j = nI (lt j) ∧ b j = nI (lt j) ∧ 32 ≤ lt j ∧ lt j ≤ 126
theorem tx_of {l t : Int32} {a b : Nat → Int32} (h : RText l a t b) : ∃ n lt, l = nI n ∧ t = nI n ∧ TX n lt a b := by
  obtain ⟨n, hn, h1, h2, hj⟩ := h
  refine ⟨n, fun j => (a j).toNatClampNeg, h1, h2, hn, fun j hjn => ?_⟩
  obtain ⟨e1, c, c1, c2, e2⟩ := hj j hjn
  have t1 : (a j).toNatClampNeg = c := by rw [e2]; exact nI_clamp (by omega)
  dsimp only
  rw [← e1, t1]
  exact ⟨e2, e2, c1, c2⟩
/-- the letter at a place; 0 behind the last one -/
def chr (n : Nat) (lt : Nat → Nat) (p : Nat) : Nat := if p < n then lt p else 0
def dg (n : Nat) (lt : Nat → Nat) (p : Nat) : Bool := decide (48 ≤ chr n lt p) && decide (chr n lt p ≤ 57)
def cnt (n : Nat) (lt : Nat → Nat) (p : Nat) : Nat := if dg n lt p = true then (if dg n lt (p + 1) = true then 2 else 1) else 0
def vl (n : Nat) (lt : Nat → Nat) (p : Nat) : Nat := if dg n lt p = true then (if dg n lt (p + 1) = true then 10 * (chr n lt p - 48) + (chr n lt (p + 1) - 48) else chr n lt p - 48) else 0
def nx (n : Nat) (lt : Nat → Nat) (p : Nat) : Nat := p + cnt n lt p + 1
theorem chr_le {n : Nat} {lt : Nat → Nat} {a b : Nat → Int32} (h : TX n lt a b) (p : Nat) : chr n lt p ≤ 126 := by
  rw [chr]
  by_cases hp : p < n
  · rw [if_pos hp]; exact (h.2 p hp).2.2.2
  · rw [if_neg hp]; omega
theorem dg_iff {n : Nat} {lt : Nat → Nat} {p : Nat} : dg n lt p = true ↔ 48 ≤ chr n lt p ∧ chr n lt p ≤ 57 := by rw [dg, Bool.and_eq_true, decide_eq_true_iff, decide_eq_true_iff]
theorem cnt_le (n : Nat) (lt : Nat → Nat) (p : Nat) : cnt n lt p ≤ 2 := by
  rw [cnt]
  by_cases h1 : dg n lt p = true
  · rw [if_pos h1]
    by_cases h2 : dg n lt (p + 1) = true
    · rw [if_pos h2]; omega
    · rw [if_neg h2]; omega
  · rw [if_neg h1]; omega
theorem vl_le (n : Nat) (lt : Nat → Nat) (p : Nat) : vl n lt p ≤ 99 := by
  rw [vl]
  by_cases h1 : dg n lt p = true
  · have := dg_iff.mp h1
    rw [if_pos h1]
    by_cases h2 : dg n lt (p + 1) = true
    · have := dg_iff.mp h2
      rw [if_pos h2]; omega
    · rw [if_neg h2]; omega
  · rw [if_neg h1]; omega
/-! the class -/
theorem e_letterAt {n p : Nat} {lt : Nat → Nat} {a b : Nat → Int32} (h : TX n lt a b) (hp : p < 1000) : F_X6_letterAt (nI p) (nI n) a = some (nI (chr n lt p)) := by
  have hn := h.1
  rw [F_X6_letterAt, chr]
  by_cases q : p < n
  · rw [if_neg (nI_ge q (by omega)), if_pos q, at_in (k := p) (n := 200) (by omega) (by decide), sb, (h.2 p q).1]
  · rw [if_pos (nI_le (by omega) (by omega)), if_neg q]; rfl
theorem win_nat {v l h : Nat} (hv : v < 2 ^ 31) (hl : l < 2 ^ 31) (hh : h < 2 ^ 31) : win (nI v) (nI l) (nI h) = if (decide (l ≤ v) && decide (v ≤ h)) = true then 1 else 0 := by
  rw [win]
  by_cases h1 : v < l
  · rw [if_pos (nI_lt h1 hl), if_neg (by rw [Bool.and_eq_true, decide_eq_true_iff]; omega)]
  · rw [if_neg (nI_nlt (by omega) hv)]
    by_cases h2 : h < v
    · rw [if_pos (nI_lt h2 hv), if_neg (by rw [Bool.and_eq_true, decide_eq_true_iff, decide_eq_true_iff]; omega)]
    · rw [if_neg (nI_nlt (by omega) hh), if_pos (by rw [Bool.and_eq_true, decide_eq_true_iff, decide_eq_true_iff]; omega)]
theorem e_figure {c : Nat} (hc : c < 1000) : F_X3_figure (nI c) = some (if (decide (48 ≤ c) && decide (c ≤ 57)) = true then nI (c - 48) else -1) := by
  rw [F_X3_figure, e_within, show win (nI c) 48 57 = _ from win_nat (v := c) (l := 48) (h := 57) (by omega) (by decide) (by decide)]
  by_cases h : (decide (48 ≤ c) && decide (c ≤ 57)) = true
  · have h' : 48 ≤ c := by rw [Bool.and_eq_true, decide_eq_true_iff, decide_eq_true_iff] at h; exact h.1
    rw [if_pos h, if_pos h, b1, show nI c - 48 = nI (c - 48) from pk_sub (a := c) (b := 48) h']
  · rw [if_neg h, if_neg h, b0]
theorem e_fig_at {n p : Nat} {lt : Nat → Nat} {a b : Nat → Int32} (h : TX n lt a b) : F_X3_figure (nI (chr n lt p)) = some (if dg n lt p = true then nI (chr n lt p - 48) else -1) := by
  rw [e_figure (by have := chr_le h p; omega), dg]
theorem e_readNumber {n p k : Nat} {lt : Nat → Nat} {a b : Nat → Int32} (h : TX n lt a b) (hp : p < 900) (hk : k < 4) (nu : Nat → Int32) : F_X3_readNumber (nI p) (nI k) (nI n) a nu = if dg n lt p = true then some (1, nI (p + cnt n lt p), nI (k + 1), upd nu k (nI (vl n lt p))) else some (0, nI p, nI k, nu) := by
  rw [F_X3_readNumber, e_letterAt h (by omega), sb, e_fig_at h, sb, nI_1, e_letterAt h (by omega), sb, e_fig_at h, sb, jn]
  by_cases h1 : dg n lt p = true
  · have q1 := dg_iff.mp h1
    rw [if_pos h1, if_pos h1, if_pos (show (0 : Int32) ≤ nI (chr n lt p - 48) from nI_pos' (by omega)), cnt, if_pos h1, vl, if_pos h1]
    by_cases h2 : dg n lt (p + 1) = true
    · have q2 := dg_iff.mp h2
      rw [if_pos h2, if_pos h2, if_pos h2, if_neg (nI_pos (by omega)), show (10 : Int32) * nI (chr n lt p - 48) = nI (10 * (chr n lt p - 48)) from pk_mul 10 _, nI_add, nI_1]
      try dsimp only
      rw [put_in (k := k) (n := 4) hk (by decide), sb, nI_1]
    · rw [if_neg h2, if_neg h2, if_neg h2, if_pos (by decide)]
      try dsimp only
      rw [put_in (k := k) (n := 4) hk (by decide), sb, nI_1]
  · rw [if_neg h1, if_neg h1, if_neg (by decide)]
/-! the reference -/
def hr (n : Nat) (lt : Nat → Nat) (p : Nat) : Int32 := if p < n then nI (lt p) else -1
theorem e_here {n p : Nat} {lt : Nat → Nat} {a b : Nat → Int32} (h : TX n lt a b) (hp : p < 1000) : F_X10_here (nI p) (nI n) b = some (hr n lt p) := by
  have hn := h.1
  rw [F_X10_here, hr]
  by_cases q : p < n
  · rw [if_neg (nI_ge q (by omega)), if_pos q, if_pos (inbT (k := p) (n := 200) (by omega) (by decide)), nI_clamp (n := p) (by omega), (h.2 p q).2.1]
  · rw [if_pos (nI_le (by omega) (by omega)), if_neg q]
theorem hr_iff {n p c : Nat} {lt : Nat → Nat} {a b : Nat → Int32} (h : TX n lt a b) (hc : 0 < c) (hc2 : c < 1000) : hr n lt p = nI c ↔ chr n lt p = c := by
  rw [hr, chr]
  by_cases q : p < n
  · have := (h.2 p q).2.2.2
    rw [if_pos q, if_pos q, nI_eq (by omega) (by omega)]
  · rw [if_neg q, if_neg q]
    refine ⟨fun e => absurd (show (nI c).toInt = -1 by rw [← e]; rfl) (by rw [nI_toInt (by omega)]; omega), fun e => absurd e (by omega)⟩
theorem hr_in {n p : Nat} {lt : Nat → Nat} {a b : Nat → Int32} (h : TX n lt a b) : F_X10_in (hr n lt p) 48 57 = some (if dg n lt p = true then 1 else 0) := by
  rw [e_in, hr, dg, chr]
  by_cases q : p < n
  · have := (h.2 p q).2.2.2
    rw [if_pos q, if_pos q, show win (nI (lt p)) 48 57 = _ from win_nat (v := lt p) (l := 48) (h := 57) (by omega) (by decide) (by decide)]
  · rw [if_neg q, if_neg q, if_neg (by decide)]; rfl
theorem hr_dg {n p : Nat} {lt : Nat → Nat} (h : dg n lt p = true) : hr n lt p = nI (chr n lt p) := by
  have q := dg_iff.mp h
  rw [hr, chr]
  rw [chr] at q
  by_cases r : p < n
  · rw [if_pos r, if_pos r]
  · rw [if_neg r] at q; omega
theorem l_number10 {n p : Nat} {lt : Nat → Nat} {a b : Nat → Int32} (h : TX n lt a b) (hp : p < 900) (k57 : Int32 → Int32 → Int32 → Option (Int32 × Int32 × Int32)) (f : Nat) (hf : 3 ≤ f) : L_X10_number_6 (nI n) b k57 f (nI 0) (nI 0) (nI p) = k57 (nI (vl n lt p)) (nI (cnt n lt p)) (nI (p + cnt n lt p)) := by
  obtain ⟨f, rfl⟩ : ∃ x, f = x + 3 := ⟨f - 3, by omega⟩
  rw [L_X10_number_6, if_neg (show ¬ (2 : Int32) ≤ nI 0 by decide), e_here h (by omega), sb, hr_in h, cnt, vl]
  by_cases h1 : dg n lt p = true
  · have q1 := dg_iff.mp h1
    have e1 : (10 : Int32) * nI 0 + nI (chr n lt p) - 48 = nI (chr n lt p - 48) := by
      rw [show (10 : Int32) * nI 0 = nI 0 from rfl, nI_add, Nat.zero_add]; exact pk_sub (a := chr n lt p) (b := 48) q1.1
    rw [if_pos h1, if_pos h1, if_pos h1, b1, hr_dg h1, sb, e1, nI_1, nI_1, L_X10_number_6, if_neg (show ¬ (2 : Int32) ≤ nI (0 + 1) by decide), e_here h (by omega), sb, hr_in h]
    by_cases h2 : dg n lt (p + 1) = true
    · have q2 := dg_iff.mp h2
      have e2 : (10 : Int32) * nI (chr n lt p - 48) + nI (chr n lt (p + 1)) - 48 = nI (10 * (chr n lt p - 48) + (chr n lt (p + 1) - 48)) := by
        rw [show (10 : Int32) * nI (chr n lt p - 48) = nI (10 * (chr n lt p - 48)) from pk_mul 10 _, nI_add, show nI (10 * (chr n lt p - 48) + chr n lt (p + 1)) - 48 = nI (10 * (chr n lt p - 48) + chr n lt (p + 1) - 48) from pk_sub (b := 48) (by omega)]
        congr 1; omega
      rw [if_pos h2, if_pos h2, if_pos h2, b1, hr_dg h2, sb, e2, nI_1, nI_1, L_X10_number_6, if_pos (show (2 : Int32) ≤ nI (0 + 1 + 1) by decide)]
    · rw [if_neg h2, if_neg h2, if_neg h2, b0]
  · rw [if_neg h1, if_neg h1, if_neg h1, b0]; rfl
/-- so far, and a number that is told, and the letter behind it -/
def nso (n : Nat) (lt : Nat → Nat) (so : Bool) (l h bh p : Nat) : Bool := so && decide (0 < cnt n lt p) && (decide (l ≤ vl n lt p) && decide (vl n lt p ≤ h)) && decide (chr n lt (p + cnt n lt p) = bh)
theorem e_number10 {n p l hi bh : Nat} {lt : Nat → Nat} {a b : Nat → Int32} (h : TX n lt a b) (hp : p < 800) (hl : l < 1000) (hh : hi < 1000) (hb : 0 < bh) (hb2 : bh < 1000) (so : Bool) : F_X10_number (nI l) (nI hi) (nI bh) (nI p) (if so = true then 1 else 0) (nI n) b = some (nI (vl n lt p), nI (nx n lt p), if nso n lt so l hi bh p = true then 1 else 0) := by
  have hv := vl_le n lt p
  have hc := cnt_le n lt p
  have hL := l_number10 (p := p) h (by omega) (fun (x4_57 : Int32) (x5_57 : Int32) (v_at_57 : Int32) => jn (fun (j0_93 : Int32) => some (x4_57, (v_at_57 + 1), j0_93)) (fun k_93 => jn (k_93 0) (fun k_92 => (if (if so = true then (1 : Int32) else 0) = 0 then k_92 else (if x5_57 ≤ 0 then k_92 else (F_X10_in x4_57 (nI l) (nI hi)).bind (fun q74 => (if q74 = 0 then k_92 else (F_X10_here v_at_57 (nI n) b).bind (fun q81 => (if q81 = nI bh then k_93 1 else k_92))))))))) 5000 (by decide)
  rw [F_X10_number, jn]
  refine Eq.trans hL ?_
  rw [jn, jn, nI_1, nx, nso]
  cases so with
  | false => rw [if_neg (show ¬ (false = true) by decide), if_pos rfl, Bool.false_and, Bool.false_and, Bool.false_and, if_neg (by decide)]
  | true =>
    rw [if_pos (show true = true from rfl), if_neg n10, Bool.true_and]
    by_cases h0 : cnt n lt p = 0
    · rw [if_pos (show nI (cnt n lt p) ≤ 0 by rw [h0]; decide), h0, show decide (0 < 0) = false from rfl, Bool.false_and, Bool.false_and, if_neg (by decide)]
    · rw [if_neg (nI_nle (by omega) (by omega)), e_in, win_nat (by omega) (by omega) (by omega), show decide (0 < cnt n lt p) = true from decide_eq_true (by omega), Bool.true_and]
      by_cases hr1 : (decide (l ≤ vl n lt p) && decide (vl n lt p ≤ hi)) = true
      · rw [if_pos hr1, b1, e_here h (by omega), sb, hr1, Bool.true_and]
        by_cases hx : chr n lt (p + cnt n lt p) = bh
        · rw [if_pos ((hr_iff h hb hb2).mpr hx), if_pos (decide_eq_true hx)]
        · rw [if_neg (fun q => hx ((hr_iff h hb hb2).mp q)), if_neg (fun q => hx (of_decide_eq_true q))]
      · rw [if_neg hr1, b0, Bool.eq_false_iff.mpr hr1, Bool.false_and, if_neg (by decide)]
