/-! pure rows: houses and boats: SAVED, people, COUNT -/
def pN (t : Nat) (hm hp : Nat → Nat) : Nat → Nat → Nat
  | 0, _ => 0
  | r + 1, i => (if hm i ≤ t then hp i else 0) + pN t hm hp r (i + 1)
def sN (w : Nat → Nat) : Nat → Nat → Nat
  | 0, _ => 0
  | r + 1, i => w i + sN w r (i + 1)
theorem pN_le {t c : Nat} {hm hp : Nat → Nat} {n : Nat} (hw : ∀ j, j < n → hp j ≤ c) : ∀ r i, i + r = n → pN t hm hp r i ≤ r * c := by
  intro r
  induction r with
  | zero => intro i _; exact Nat.zero_le _
  | succ r ih =>
    intro i hi
    have h1 := ih (i + 1) (by omega)
    have h2 := hw i (by omega)
    rw [pN, Nat.succ_mul]
    by_cases h : hm i ≤ t
    · rw [if_pos h]; omega
    · rw [if_neg h]; omega
theorem sN_le {c : Nat} {w : Nat → Nat} {n : Nat} (hw : ∀ j, j < n → w j ≤ c) : ∀ r i, i + r = n → sN w r i ≤ r * c := by
  intro r
  induction r with
  | zero => intro i _; exact Nat.zero_le _
  | succ r ih =>
    intro i hi
    have h1 := ih (i + 1) (by omega)
    have h2 := hw i (by omega)
    rw [sN, Nat.succ_mul]; omega
theorem pN_all {t : Nat} {hm hp : Nat → Nat} {n : Nat} (hw : ∀ j, j < n → hm j ≤ t) : ∀ r i, i + r = n → pN t hm hp r i = sN hp r i := by
  intro r
  induction r with
  | zero => intro i _; rfl
  | succ r ih => intro i hi; rw [pN, sN, if_pos (hw i (by omega)), ih (i + 1) (by omega)]
def RHouses (nh : Nat) (hp hm : Nat → Nat) (hc : Int32) (cp cm : Nat → Int32) (m4 mp mm : Nat → Int32) : Prop := nh ≤ 6 ∧ hc = nI nh ∧ m4 0 = nI nh ∧ ∀ j, j < nh → (cp j = nI (hp j) ∧ mp j = nI (hp j) ∧ 1 ≤ hp j ∧ hp j ≤ 9) ∧ (cm j = nI (hm j) ∧ mm j = nI (hm j) ∧ hm j ≤ 60)
def RBoats (nb : Nat) (br : Nat → Nat) (bc : Int32) (cr : Nat → Int32) (m7 mr : Nat → Int32) : Prop := nb ≤ 4 ∧ bc = nI nb ∧ m7 0 = nI nb ∧ ∀ j, j < nb → cr j = nI (br j) ∧ mr j = nI (br j) ∧ 1 ≤ br j ∧ br j ≤ 30
theorem l_pw {t nh : Nat} (ht : t < 100) (hnh : nh ≤ 6) {cm cp : Nat → Int32} {hp hm : Nat → Nat} (hm1 : ∀ j, j < nh → cm j = nI (hm j) ∧ hm j ≤ 60) (hp1 : ∀ j, j < nh → cp j = nI (hp j)) : ∀ (r i acc f : Nat), i + r = nh → r < f → L_X8_peopleWithin_4 (nI t) (nI nh) cm cp f (nI acc) (nI i) = some (nI (acc + pN t hm hp r i)) := by
  intro r
  induction r with
  | zero =>
    intro i acc f hi hf
    obtain ⟨f, rfl⟩ : ∃ g, f = g + 1 := ⟨f - 1, by omega⟩
    rw [L_X8_peopleWithin_4, if_pos (nI_le (a := nh) (b := i) (by omega) (by omega))]
    rfl
  | succ r ih =>
    intro i acc f hi hf
    obtain ⟨f, rfl⟩ : ∃ g, f = g + 1 := ⟨f - 1, by omega⟩
    obtain ⟨g1, g2⟩ := hm1 i (by omega)
    rw [L_X8_peopleWithin_4, if_neg (nI_ge (a := i) (b := nh) (by omega) (by omega)), at_in (k := i) (n := 6) (by omega) (by decide), sb, g1, jn]
    by_cases h : hm i ≤ t
    · rw [if_neg (nI_nlt (a := t) (b := hm i) h (by omega)), F_X8_peopleOf, at_in (k := i) (n := 6) (by omega) (by decide), sb, sb, hp1 i (by omega), nI_add, nI_1]
      dsimp only
      rw [ih (i + 1) _ f (by omega) (by omega), pN, if_pos h, Nat.add_assoc]
    · rw [if_pos (nI_lt (a := t) (b := hm i) (by omega) (by omega)), nI_1]
      dsimp only
      rw [ih (i + 1) _ f (by omega) (by omega), pN, if_neg h, Nat.zero_add]
theorem e_pw {t nh : Nat} (ht : t < 100) (hnh : nh ≤ 6) {cm cp : Nat → Int32} {hp hm : Nat → Nat} (hm1 : ∀ j, j < nh → cm j = nI (hm j) ∧ hm j ≤ 60) (hp1 : ∀ j, j < nh → cp j = nI (hp j)) : F_X8_peopleWithin (nI t) (nI nh) cm cp = some (nI (pN t hm hp nh 0)) := by
  rw [F_X8_peopleWithin]
  have h := l_pw ht hnh hm1 hp1 nh 0 0 5000 (by omega) (by omega)
  rw [Nat.zero_add] at h
  exact h
theorem l_room {nb : Nat} (hnb : nb ≤ 4) {cr : Nat → Int32} {br : Nat → Nat} (h1 : ∀ j, j < nb → cr j = nI (br j)) : ∀ (r i acc f : Nat), i + r = nb → r < f → L_X8_roomInAll_4 (nI nb) cr f (nI acc) (nI i) = some (nI (acc + sN br r i)) := by
  intro r
  induction r with
  | zero =>
    intro i acc f hi hf
    obtain ⟨f, rfl⟩ : ∃ g, f = g + 1 := ⟨f - 1, by omega⟩
    rw [L_X8_roomInAll_4, if_pos (nI_le (a := nb) (b := i) (by omega) (by omega))]
    rfl
  | succ r ih =>
    intro i acc f hi hf
    obtain ⟨f, rfl⟩ : ∃ g, f = g + 1 := ⟨f - 1, by omega⟩
    rw [L_X8_roomInAll_4, if_neg (nI_ge (a := i) (b := nb) (by omega) (by omega)), F_X8_roomOf, at_in (k := i) (n := 4) (by omega) (by decide), sb, sb, h1 i (by omega), nI_add, nI_1, ih (i + 1) _ f (by omega) (by omega), sN, Nat.add_assoc]
theorem e_room {nb : Nat} (hnb : nb ≤ 4) {cr : Nat → Int32} {br : Nat → Nat} (h1 : ∀ j, j < nb → cr j = nI (br j)) : F_X8_roomInAll (nI nb) cr = some (nI (sN br nb 0)) := by
  rw [F_X8_roomInAll]
  have h := l_room hnb h1 nb 0 0 5000 (by omega) (by omega)
  rw [Nat.zero_add] at h
  exact h
theorem l_mp {t nh : Nat} (ht : t < 100) (hnh : nh ≤ 6) {m4 mm mp : Nat → Int32} {hp hm : Nat → Nat} (h4 : m4 0 = nI nh) (hm1 : ∀ j, j < nh → mm j = nI (hm j) ∧ hm j ≤ 60) (hp1 : ∀ j, j < nh → mp j = nI (hp j)) (k : Int32 → Int32 → Option Int32) (y : Int32) : ∀ (r i acc f : Nat), i + r = nh → r < f → L_X10_saved_19 (nI t) m4 mm mp k f (nI acc) y (nI i) = k (nI (acc + pN t hm hp r i)) y := by
  have h4' : m4 (Int32.toNatClampNeg 0) = nI nh := h4
  intro r
  induction r with
  | zero =>
    intro i acc f hi hf
    obtain ⟨f, rfl⟩ : ∃ g, f = g + 1 := ⟨f - 1, by omega⟩
    rw [L_X10_saved_19, h4', if_pos (nI_le (a := nh) (b := i) (by omega) (by omega))]
    rfl
  | succ r ih =>
    intro i acc f hi hf
    obtain ⟨f, rfl⟩ : ∃ g, f = g + 1 := ⟨f - 1, by omega⟩
    obtain ⟨g1, g2⟩ := hm1 i (by omega)
    rw [L_X10_saved_19, h4', if_neg (nI_ge (a := i) (b := nh) (by omega) (by omega)), if_pos (inbT (by omega) (by decide)), nI_clamp (by omega), g1, jn]
    by_cases h : hm i ≤ t
    · rw [if_neg (nI_nlt (a := t) (b := hm i) h (by omega)), if_pos (inbT (by omega) (by decide)), hp1 i (by omega)]
      dsimp only
      rw [nI_add, nI_1, ih (i + 1) _ f (by omega) (by omega), pN, if_pos h, Nat.add_assoc]
    · rw [if_pos (nI_lt (a := t) (b := hm i) (by omega) (by omega))]
      dsimp only
      rw [show nI acc + 0 = nI (acc + 0) from nI_add acc 0, nI_1, ih (i + 1) _ f (by omega) (by omega), pN, if_neg h, Nat.zero_add, Nat.add_zero]
theorem l_mr {nb : Nat} (hnb : nb ≤ 4) {m7 mr : Nat → Int32} {br : Nat → Nat} (h7 : m7 0 = nI nb) (h1 : ∀ j, j < nb → mr j = nI (br j)) (k : Int32 → Option Int32) : ∀ (r i acc f : Nat), i + r = nb → r < f → L_X10_saved_64 mr m7 k f (nI acc) (nI i) = k (nI (acc + sN br r i)) := by
  have h7' : m7 (Int32.toNatClampNeg 0) = nI nb := h7
  intro r
  induction r with
  | zero =>
    intro i acc f hi hf
    obtain ⟨f, rfl⟩ : ∃ g, f = g + 1 := ⟨f - 1, by omega⟩
    rw [L_X10_saved_64, h7', if_pos (nI_le (a := nb) (b := i) (by omega) (by omega))]
    rfl
  | succ r ih =>
    intro i acc f hi hf
    obtain ⟨f, rfl⟩ : ∃ g, f = g + 1 := ⟨f - 1, by omega⟩
    rw [L_X10_saved_64, h7', if_neg (nI_ge (a := i) (b := nb) (by omega) (by omega)), if_pos (inbT (by omega) (by decide)), nI_clamp (by omega), h1 i (by omega), nI_add, nI_1, ih (i + 1) _ f (by omega) (by omega), sN, Nat.add_assoc]
theorem fw_saved (x : Int32) {nh nb : Nat} {hp hm br : Nat → Nat} {hc bc : Int32} {cp cm cr m4 mp mm m7 mr : Nat → Int32} (h : RHouses nh hp hm hc cp cm m4 mp mm) (hb : RBoats nb br bc cr m7 mr) : ∃ v, F_X9_saved x bc hc cr cm cp = some v ∧ F_X10_saved x mr m7 m4 mm mp = some v := by
  obtain ⟨hn, rfl, h4, hj⟩ := h
  obtain ⟨hn2, rfl, h7, hj2⟩ := hb
  rcases win_c x 0 99 with hw | ⟨hw, a1, a2⟩
  · exact ⟨-1, by rw [F_X9_saved, e_within, hw, b0], by rw [F_X10_saved, e_in, hw, b0]⟩
  · obtain ⟨t, ht, rfl⟩ := rngk (n := 99) (by decide) a1 a2
    have e1 := e_pw (t := t) (by omega) hn (fun j h => ⟨(hj j h).2.1, (hj j h).2.2.2⟩) (fun j h => (hj j h).1.1)
    have e2 := e_room hn2 (fun j h => (hj2 j h).1)
    have b1_ := pN_le (t := t) (c := 9) (hm := hm) (hp := hp) (n := nh) (fun j h => (hj j h).1.2.2.2) nh 0 (by omega)
    have b2_ := sN_le (c := 30) (w := br) (n := nb) (fun j h => (hj2 j h).2.2.2) nb 0 (by omega)
    have p1 : pN t hm hp nh 0 < 2 ^ 31 := by omega
    have p2 : sN br nb 0 < 2 ^ 31 := by omega
    refine ⟨if nI (sN br nb 0) < nI (pN t hm hp nh 0) then nI (sN br nb 0) else nI (pN t hm hp nh 0), ?_, ?_⟩
    · rw [F_X9_saved, e_within, hw, b1, e1, sb, e2, sb]
    · rw [F_X10_saved, e_in, hw, b1, jn, show (0 : Int32) = nI 0 from rfl, l_mp (by omega) hn h4 (fun j h => ⟨(hj j h).2.2.1, (hj j h).2.2.2⟩) (fun j h => (hj j h).1.2.1) _ _ nh 0 0 5000 (by omega) (by omega), Nat.zero_add, jn, l_mr hn2 h7 (fun j h => (hj2 j h).2.1) _ nb 0 0 5000 (by omega) (by omega), Nat.zero_add]
      by_cases q : sN br nb 0 < pN t hm hp nh 0
      · rw [if_pos (nI_le (a := sN br nb 0) (b := pN t hm hp nh 0) (by omega) p1), if_pos (nI_lt q p1)]
      · rw [if_neg (nI_nlt (a := sN br nb 0) (b := pN t hm hp nh 0) (by omega) p2)]
        by_cases q2 : sN br nb 0 = pN t hm hp nh 0
        · rw [q2, if_pos (nI_le (Nat.le_refl _) p1)]
        · rw [if_neg (nI_ge (a := pN t hm hp nh 0) (b := sN br nb 0) (by omega) p2)]
theorem l_mc {nh : Nat} (hnh : nh ≤ 6) {m4 mp : Nat → Int32} {hp : Nat → Nat} (h4 : m4 0 = nI nh) (h1 : ∀ j, j < nh → mp j = nI (hp j)) : ∀ (r i acc f : Nat), i + r = nh → r < f → L_X10_count_104 m4 mp f (nI acc) (nI i) = some (nI (acc + sN hp r i)) := by
  have h4' : m4 (Int32.toNatClampNeg 0) = nI nh := h4
  intro r
  induction r with
  | zero =>
    intro i acc f hi hf
    obtain ⟨f, rfl⟩ : ∃ g, f = g + 1 := ⟨f - 1, by omega⟩
    rw [L_X10_count_104, h4', if_pos (nI_le (a := nh) (b := i) (by omega) (by omega))]
    rfl
  | succ r ih =>
    intro i acc f hi hf
    obtain ⟨f, rfl⟩ : ∃ g, f = g + 1 := ⟨f - 1, by omega⟩
    rw [L_X10_count_104, h4', if_neg (nI_ge (a := i) (b := nh) (by omega) (by omega)), if_pos (inbT (by omega) (by decide)), nI_clamp (by omega), h1 i (by omega), nI_add, nI_1, ih (i + 1) _ f (by omega) (by omega), sN, Nat.add_assoc]
theorem ex_ite {c : Prop} [Decidable c] {a b a' b' : Option Int32} (h1 : ∃ v, a = some v ∧ a' = some v) (h2 : ∃ v, b = some v ∧ b' = some v) : ∃ v, (if c then a else b) = some v ∧ (if c then a' else b') = some v := by
  by_cases h : c
  · rw [if_pos h, if_pos h]; exact h1
  · rw [if_neg h, if_neg h]; exact h2
theorem fw_count (x : Int32) {nh : Nat} {hp hm : Nat → Nat} {hc sc bc wc kc dc tc pc ka mt am : Int32} {cp cm m4 mp mm m2 m7 m9 md : Nat → Int32} (h : RHouses nh hp hm hc cp cm m4 mp mm) (h2 : m2 0 = sc) (h7 : m7 0 = bc) (h9 : m9 0 = wc) (hd : md 0 = dc) (ha : am = pc) (hk : ka = kc) (ht : mt = tc) : ∃ v, F_X9_count x kc dc tc pc bc hc sc wc cm cp = some v ∧ F_X10_count x am ka mt m7 md m4 mp m2 m9 = some v := by
  subst ha; subst hk; subst ht; subst h2; subst h7; subst h9; subst hd
  obtain ⟨hn, rfl, h4, hj⟩ := h
  have e1 := e_pw (t := 60) (by omega) hn (fun j h => ⟨(hj j h).2.1, (hj j h).2.2.2⟩) (fun j h => (hj j h).1.1)
  have e2 := l_mc hn h4 (fun j h => (hj j h).1.2.1) nh 0 0 5000 (by omega) (by omega)
  rw [pN_all (t := 60) (n := nh) (fun j h => (hj j h).2.2.2) nh 0 (by omega)] at e1
  rw [Nat.zero_add] at e2
  have e1' : F_X8_people (nI nh) cm cp = some (nI (sN hp nh 0)) := by rw [F_X8_people, show F_X8_peopleWithin 60 (nI nh) cm cp = _ from e1, sb]
  have e2' : L_X10_count_104 m4 mp 5000 0 0 = some (nI (sN hp nh 0)) := e2
  have h4' : m4 (Int32.toNatClampNeg 0) = nI nh := h4
  rw [F_X9_count, F_X10_count, e1', e2', sb, h4']
  exact ex_ite ⟨_, rfl, rfl⟩ (ex_ite ⟨_, rfl, rfl⟩ (ex_ite ⟨_, rfl, rfl⟩ (ex_ite ⟨_, rfl, rfl⟩ (ex_ite ⟨_, rfl, rfl⟩ (ex_ite ⟨_, rfl, rfl⟩ (ex_ite ⟨_, rfl, rfl⟩ (ex_ite ⟨_, rfl, rfl⟩ (ex_ite ⟨_, rfl, rfl⟩ ⟨_, rfl, rfl⟩))))))))
