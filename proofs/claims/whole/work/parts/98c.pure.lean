/-! pure rows: an ITEM taken: the class's draft, the reference's second half -/
def DS (ns : Nat) (sg : Nat → Nat) (sc : Int32) (cs : Nat → Int32) (m2 mt : Nat → Int32) : Prop := ns ≤ 4 ∧ sc = nI ns ∧ m2 1 = nI ns ∧ (∀ j, j < 4 * ns → cs j = nI (sg j) ∧ mt (16 + j) = nI (sg j) ∧ sg j ≤ 4) ∧ ∀ k, k < ns → sg (4 * k) ≤ 3
def DWk (nw : Nat) (wn wg : Nat → Nat) (wc : Int32) (cn cg : Nat → Int32) (m9 mn mg : Nat → Int32) : Prop := nw ≤ 5 ∧ wc = nI nw ∧ m9 1 = nI nw ∧ ∀ j, j < nw → (cn j = nI (wn j) ∧ mn (5 + j) = nI (wn j) ∧ wn j ≤ 4) ∧ (cg j = nI (wg j) ∧ mg (5 + j) = nI (wg j) ∧ wg j ≤ 20)
def DH (nh : Nat) (hp hm : Nat → Nat) (hc : Int32) (cp cm : Nat → Int32) (m4 mp mm : Nat → Int32) : Prop := nh ≤ 6 ∧ hc = nI nh ∧ m4 1 = nI nh ∧ ∀ j, j < nh → (cp j = nI (hp j) ∧ mp (6 + j) = nI (hp j) ∧ 1 ≤ hp j ∧ hp j ≤ 9) ∧ (cm j = nI (hm j) ∧ mm (6 + j) = nI (hm j) ∧ hm j ≤ 60)
def DB (nb : Nat) (br : Nat → Nat) (bc : Int32) (cr : Nat → Int32) (m7 mr : Nat → Int32) : Prop := nb ≤ 4 ∧ bc = nI nb ∧ m7 1 = nI nb ∧ ∀ j, j < nb → cr j = nI (br j) ∧ mr (4 + j) = nI (br j) ∧ 1 ≤ br j ∧ br j ≤ 30
def DC (tc bd : Nat) (lg : Nat → Nat) (c9 c10 : Int32) (cl m12 mg : Nat → Int32) : Prop := tc ≤ 99 ∧ bd ≤ 9 ∧ c9 = nI tc ∧ c10 = nI bd ∧ m12 2 = nI tc ∧ m12 3 = nI bd ∧ ∀ j, j < 3 → cl j = nI (lg j) ∧ mg (3 + j) = nI (lg j) ∧ lg j ≤ 4
abbrev AR : Type := Nat → Int32
/-- boats, cost of a day, houses, signs, cost of a turn, works; room, minutes, people, lighter, signs' numbers, gain, noise -/
abbrev DT : Type := Int32 × Int32 × Int32 × Int32 × Int32 × Int32 × AR × AR × AR × AR × AR × AR × AR
/-- boat boats brings costs goes houses minutes noise people signs told works -/
abbrev MT : Type := AR × AR × AR × AR × AR × AR × AR × AR × AR × AR × AR × AR
def REL5 (d : DT) (m : MT) : Prop := ∃ (ns nw nh nb tc bd : Nat) (lg sg wn wg hp hm br : Nat → Nat),
  DS ns sg d.2.2.2.1 d.2.2.2.2.2.2.2.2.2.2.1 m.2.2.2.2.2.2.2.2.2.1 m.2.2.2.2.2.2.2.2.2.2.1 ∧
  DWk nw wn wg d.2.2.2.2.2.1 d.2.2.2.2.2.2.2.2.2.2.2.2 d.2.2.2.2.2.2.2.2.2.2.2.1 m.2.2.2.2.2.2.2.2.2.2.2 m.2.2.2.2.2.2.2.1 m.2.2.1 ∧
  DH nh hp hm d.2.2.1 d.2.2.2.2.2.2.2.2.1 d.2.2.2.2.2.2.2.1 m.2.2.2.2.2.1 m.2.2.2.2.2.2.2.2.1 m.2.2.2.2.2.2.1 ∧
  DB nb br d.1 d.2.2.2.2.2.2.1 m.2.1 m.1 ∧
  DC tc bd lg d.2.2.2.2.1 d.2.1 d.2.2.2.2.2.2.2.2.2.1 m.2.2.2.1 m.2.2.2.2.1
def SAME (k : Nat) (x y : AR) : Prop := ∀ j, j < k → y j = x j
theorem SAME.rfl' {k : Nat} {x : AR} : SAME k x x := fun _ _ => rfl
theorem SAME.up {k q : Nat} {x y : AR} {v : Int32} (h : SAME k x y) (hq : k ≤ q) : SAME k x (upd y q v) := fun j hj => by rw [upd_n (by omega)]; exact h j hj
def HALF (m m' : MT) : Prop := SAME 4 m.1 m'.1 ∧ SAME 1 m.2.1 m'.2.1 ∧ SAME 5 m.2.2.1 m'.2.2.1 ∧ SAME 2 m.2.2.2.1 m'.2.2.2.1 ∧ SAME 3 m.2.2.2.2.1 m'.2.2.2.2.1 ∧ SAME 1 m.2.2.2.2.2.1 m'.2.2.2.2.2.1 ∧ SAME 6 m.2.2.2.2.2.2.1 m'.2.2.2.2.2.2.1 ∧ SAME 5 m.2.2.2.2.2.2.2.1 m'.2.2.2.2.2.2.2.1 ∧ SAME 6 m.2.2.2.2.2.2.2.2.1 m'.2.2.2.2.2.2.2.2.1 ∧ SAME 1 m.2.2.2.2.2.2.2.2.2.1 m'.2.2.2.2.2.2.2.2.2.1 ∧ SAME 16 m.2.2.2.2.2.2.2.2.2.2.1 m'.2.2.2.2.2.2.2.2.2.2.1 ∧ SAME 1 m.2.2.2.2.2.2.2.2.2.2.2 m'.2.2.2.2.2.2.2.2.2.2.2
theorem SAME.trans {k : Nat} {x y z : AR} (h : SAME k x y) (g : SAME k y z) : SAME k x z := fun j hj => (g j hj).trans (h j hj)
theorem HALF.trans {m m' m2 : MT} (h : HALF m m') (g : HALF m' m2) : HALF m m2 := ⟨h.1.trans g.1, h.2.1.trans g.2.1, h.2.2.1.trans g.2.2.1, h.2.2.2.1.trans g.2.2.2.1, h.2.2.2.2.1.trans g.2.2.2.2.1, h.2.2.2.2.2.1.trans g.2.2.2.2.2.1, h.2.2.2.2.2.2.1.trans g.2.2.2.2.2.2.1, h.2.2.2.2.2.2.2.1.trans g.2.2.2.2.2.2.2.1, h.2.2.2.2.2.2.2.2.1.trans g.2.2.2.2.2.2.2.2.1, h.2.2.2.2.2.2.2.2.2.1.trans g.2.2.2.2.2.2.2.2.2.1, h.2.2.2.2.2.2.2.2.2.2.1.trans g.2.2.2.2.2.2.2.2.2.2.1, h.2.2.2.2.2.2.2.2.2.2.2.trans g.2.2.2.2.2.2.2.2.2.2.2⟩
def take9 (d : DT) (l : Int32) (nu : AR) : Option (Int32 × DT) := F_X8_take d.1 d.2.1 d.2.2.1 d.2.2.2.1 d.2.2.2.2.1 d.2.2.2.2.2.1 l nu d.2.2.2.2.2.2.1 d.2.2.2.2.2.2.2.1 d.2.2.2.2.2.2.2.2.1 d.2.2.2.2.2.2.2.2.2.1 d.2.2.2.2.2.2.2.2.2.2.1 d.2.2.2.2.2.2.2.2.2.2.2.1 d.2.2.2.2.2.2.2.2.2.2.2.2
def item10 (at' so ty : Int32) (tx : AR) (m : MT) : Option (Int32 × Int32 × MT) := F_X10_readItem at' so ty m.1 m.2.1 m.2.2.1 m.2.2.2.1 m.2.2.2.2.1 m.2.2.2.2.2.1 m.2.2.2.2.2.2.1 m.2.2.2.2.2.2.2.1 m.2.2.2.2.2.2.2.2.1 m.2.2.2.2.2.2.2.2.2.1 tx m.2.2.2.2.2.2.2.2.2.2.1 m.2.2.2.2.2.2.2.2.2.2.2
/-- one item, of both sides -/
def ITEM (n p : Nat) (lt : Nat → Nat) (a b : AR) (d : DT) (m : MT) : Prop := ∀ (e l c : Int32) (nu : AR) (so : Int32),
  ∃ (m' : MT) (k : Nat) (ok : Bool), item10 (nI p) so (nI n) b m = some (nI k, if ok = true then 1 else 0, m') ∧ HALF m m' ∧ p < k ∧ k ≤ p + 13 ∧
    ((ok = true ∧ ∃ nu' d' c', F_X3_readAt (nI p) e l c (nI n) a nu = some (1, nI k, nI (chr n lt p), c', nu') ∧ take9 d (nI (chr n lt p)) nu' = some (1, d') ∧ REL5 d' m') ∨
    (ok = false ∧ ∃ r x y z nu', F_X3_readAt (nI p) e l c (nI n) a nu = some (r, x, y, z, nu') ∧ (r = 0 ∨ (r = 1 ∧ ∃ d', take9 d y nu' = some (0, d')))))
theorem nso_iff {n l h bh p : Nat} {lt : Nat → Nat} {so : Bool} : nso n lt so l h bh p = true ↔ so = true ∧ 0 < cnt n lt p ∧ rg (vl n lt p) l h = true ∧ chr n lt (p + cnt n lt p) = bh := by
  rw [nso, Bool.and_eq_true, Bool.and_eq_true, Bool.and_eq_true, decide_eq_true_iff, decide_eq_true_iff, rg]
  exact ⟨fun ⟨⟨⟨a, b⟩, c⟩, d⟩ => ⟨a, b, c, d⟩, fun ⟨a, b, c, d⟩ => ⟨⟨⟨a, b⟩, c⟩, d⟩⟩
theorem sq1_iff {n p : Nat} {lt : Nat → Nat} : sqn n lt 1 p = true ↔ 0 < cnt n lt p ∧ chr n lt (p + cnt n lt p) = 59 := by rw [sqn, Bool.and_eq_true, decide_eq_true_iff, decide_eq_true_iff]
theorem sq2_iff {n p k : Nat} {lt : Nat → Nat} : sqn n lt (k + 2) p = true ↔ (0 < cnt n lt p ∧ chr n lt (p + cnt n lt p) = 44) ∧ sqn n lt (k + 1) (nx n lt p) = true := by rw [sqn, Bool.and_eq_true, Bool.and_eq_true, decide_eq_true_iff, decide_eq_true_iff]
theorem ns1 {n p l h : Nat} {lt : Nat → Nat} {so : Bool} : nso n lt so l h 59 p = true ↔ so = true ∧ sqn n lt 1 p = true ∧ rg (vk n lt p 0) l h = true := by
  rw [nso_iff, sq1_iff]
  exact ⟨fun ⟨a, b, c, d⟩ => ⟨a, ⟨b, d⟩, c⟩, fun ⟨a, ⟨b, d⟩, c⟩ => ⟨a, b, c, d⟩⟩
theorem ns2 {n p l h l1 h1 : Nat} {lt : Nat → Nat} {so : Bool} : nso n lt (nso n lt so l h 44 p) l1 h1 59 (nx n lt p) = true ↔ so = true ∧ sqn n lt 2 p = true ∧ rg (vk n lt p 0) l h = true ∧ rg (vk n lt p 1) l1 h1 = true := by
  rw [ns1, nso_iff, sq2_iff]
  exact ⟨fun ⟨⟨a, b, c, d⟩, e, f⟩ => ⟨a, ⟨⟨b, d⟩, e⟩, c, f⟩, fun ⟨a, ⟨⟨b, d⟩, e⟩, c, f⟩ => ⟨⟨a, b, c, d⟩, e, f⟩⟩
theorem ns3 {n p l h l1 h1 l2 h2 : Nat} {lt : Nat → Nat} {so : Bool} : nso n lt (nso n lt (nso n lt so l h 44 p) l1 h1 44 (nx n lt p)) l2 h2 59 (nx n lt (nx n lt p)) = true ↔ so = true ∧ sqn n lt 3 p = true ∧ rg (vk n lt p 0) l h = true ∧ rg (vk n lt p 1) l1 h1 = true ∧ rg (vk n lt p 2) l2 h2 = true := by
  rw [ns2, nso_iff, sq2_iff (k := 1) (p := p)]
  exact ⟨fun ⟨⟨a, b, c, d⟩, e, f⟩ => ⟨a, ⟨⟨b, d⟩, e⟩, c, f⟩, fun ⟨a, ⟨⟨b, d⟩, e⟩, c, f⟩ => ⟨⟨a, b, c, d⟩, e, f⟩⟩
theorem ns4 {n p l h l1 h1 l2 h2 l3 h3 : Nat} {lt : Nat → Nat} {so : Bool} : nso n lt (nso n lt (nso n lt (nso n lt so l h 44 p) l1 h1 44 (nx n lt p)) l2 h2 44 (nx n lt (nx n lt p))) l3 h3 59 (nx n lt (nx n lt (nx n lt p))) = true ↔ so = true ∧ sqn n lt 4 p = true ∧ rg (vk n lt p 0) l h = true ∧ rg (vk n lt p 1) l1 h1 = true ∧ rg (vk n lt p 2) l2 h2 = true ∧ rg (vk n lt p 3) l3 h3 = true := by
  rw [ns3, nso_iff, sq2_iff (k := 2) (p := p)]
  exact ⟨fun ⟨⟨a, b, c, d⟩, e, f⟩ => ⟨a, ⟨⟨b, d⟩, e⟩, c, f⟩, fun ⟨a, ⟨⟨b, d⟩, e⟩, c, f⟩ => ⟨⟨a, b, c, d⟩, e, f⟩⟩
theorem rg_iff {v l h : Nat} : rg v l h = true ↔ l ≤ v ∧ v ≤ h := by rw [rg, Bool.and_eq_true, decide_eq_true_iff, decide_eq_true_iff]
theorem here_lt {n p : Nat} {lt : Nat → Nat} {a b : AR} (h : TX n lt a b) (hp : p < n) : F_X10_here (nI p) (nI n) b = some (nI (chr n lt p)) := by
  have := h.1
  rw [e_here h (by omega), hr, chr, if_pos hp, if_pos hp]
theorem numAt {i : Nat} (hi : i < 4) (nu : AR) : F_X3_numberAt (nI i) nu = some (nu i) := by rw [F_X3_numberAt, at_in (k := i) (n := 4) hi (by decide), sb]
theorem ifb {ok : Bool} (h : ok = true) : (if ok = true then (1 : Int32) else 0) = 1 := if_pos h
/-! the class takes it -/
theorem e_takeSleeps (nu lg : AR) : ∃ lg', F_X8_takeSleeps nu lg = some (1, lg') ∧ ∀ j, j < 3 → lg' j = nu j := by
  have key : ∀ f, 4 ≤ f → L_X8_takeSleeps_2 nu f (nI 0) lg = some (1, upd (upd (upd lg 0 (nu 0)) (0 + 1) (nu (0 + 1))) (0 + 1 + 1) (nu (0 + 1 + 1))) := by
    intro f hf
    obtain ⟨f, rfl⟩ : ∃ x, f = x + 4 := ⟨f - 4, by omega⟩
    have st : ∀ i, i < 3 → ∀ f lg, L_X8_takeSleeps_2 nu (f + 1) (nI i) lg = L_X8_takeSleeps_2 nu f (nI (i + 1)) (upd lg i (nu i)) := fun i hi f lg => by
      rw [L_X8_takeSleeps_2, if_neg (show ¬ (3 : Int32) ≤ nI i from nI_ge (a := i) (b := 3) hi (by decide)), numAt (by omega), sb, put_in (k := i) (n := 3) hi (by decide), sb, nI_1]
    rw [st 0 (by decide), st (0 + 1) (by decide), st (0 + 1 + 1) (by decide), L_X8_takeSleeps_2, if_pos (show (3 : Int32) ≤ nI (0 + 1 + 1 + 1) by decide)]
  refine ⟨_, (show F_X8_takeSleeps nu lg = _ from key 5000 (by decide)), fun j hj => ?_⟩
  rcases j3 hj with rfl | rfl | rfl
  · rw [upd_n (by decide), upd_n (by decide), upd_s]
  · rw [upd_n (by decide), show (1 : Nat) = 0 + 1 from rfl, upd_s]
  · rw [show (2 : Nat) = 0 + 1 + 1 from rfl, upd_s]
theorem e_takeSign {ns : Nat} (hn : ns < 4) (nu sn : AR) : ∃ sn', F_X8_takeSign (nI ns) nu sn = some (1, nI (ns + 1), sn') ∧ (∀ j, j < 4 * ns → sn' j = sn j) ∧ ∀ j, j < 4 → sn' (4 * ns + j) = nu j := by
  have key : ∀ (k : AR → Option (Int32 × Int32 × AR)) (r i f : Nat) (s : AR), i + r = 4 → r < f → (∀ j, j < 4 * ns → s j = sn j) → (∀ j, j < i → s (4 * ns + j) = nu j) → ∃ s', L_X8_takeSign_12 (nI ns) nu k f (nI i) s = k s' ∧ (∀ j, j < 4 * ns → s' j = sn j) ∧ ∀ j, j < 4 → s' (4 * ns + j) = nu j := by
    intro k r
    induction r with
    | zero =>
      intro i f s hi hf h1 h2
      obtain ⟨f, rfl⟩ : ∃ x, f = x + 1 := ⟨f - 1, by omega⟩
      obtain rfl : i = 4 := by omega
      exact ⟨s, by rw [L_X8_takeSign_12, if_pos (by decide)], h1, h2⟩
    | succ r ih =>
      intro i f s hi hf h1 h2
      obtain ⟨f, rfl⟩ : ∃ x, f = x + 1 := ⟨f - 1, by omega⟩
      have e : nI ns * 4 + nI i = nI (4 * ns + i) := by rw [show nI ns * 4 = nI (ns * 4) from pk_mul ns 4, nI_add, Nat.mul_comm]
      rw [L_X8_takeSign_12, if_neg (show ¬ (4 : Int32) ≤ nI i from nI_ge (a := i) (b := 4) (by omega) (by decide)), numAt (by omega), sb, e, put_in (k := 4 * ns + i) (n := 16) (by omega) (by decide), sb, nI_1]
      refine ih (i + 1) f _ (by omega) (by omega) (fun j hj => by rw [upd_n (by omega)]; exact h1 j hj) (fun j hj => ?_)
      by_cases q : j = i
      · subst q; rw [upd_s]
      · rw [upd_n (by omega)]; exact h2 j (by omega)
  rw [F_X8_takeSign, if_pos (show nI ns < (4 : Int32) from nI_lt (a := ns) (b := 4) hn (by decide)), jn, nI_1]
  obtain ⟨s', g1, g2, g3⟩ := key (fun (a_signNumbers_43 : Nat → Int32) => some (1, nI (ns + 1), a_signNumbers_43)) 4 0 5000 sn (by decide) (by decide) (fun _ _ => rfl) (fun j hj => absurd hj (by omega))
  exact ⟨s', g1, g2, g3⟩
