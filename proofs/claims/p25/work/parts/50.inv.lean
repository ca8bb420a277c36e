/-! PURE ROWS: what holds of every state goes on to hold -/
theorem Inv_same {M M' : MS} (hI : Inv M) (sm : same M M') (hc : mn M' 0 ≤ 30 ∧ mn M' 1 ≤ 6 ∧ mn M' 2 ≤ 16 ∧ mn M' 3 ≤ 6 ∧ mn M' 5 ≤ 2500 ∧ mn M' 6 ≤ 500 ∧ mn M' 7 ≤ 8)
    (h2 : ∀ i, i < mn M' 0 → mt M' 0 i < 2880 ∧ -300 ≤ (mg M' i).toInt ∧ (mg M' i).toInt ≤ 900) (h3 : ∀ i j, i < j → j < mn M' 0 → mt M' 0 i < mt M' 0 j)
    (h4 : ∀ i, i < mn M' 1 → mt M' 1 i ≤ 400 ∧ mt M' 2 i ≤ 2500) (h5 : ∀ i, i < mn M' 2 → mt M' 3 i ≤ 400 ∧ mt M' 4 i ≤ 2000) (h6 : ∀ i, i < mn M' 3 → mt M' 5 i ≤ 400 ∧ mt M' 6 i ≤ 1)
    (n1 : mn M 1 ≤ mn M' 1) (n2 : mn M 2 ≤ mn M' 2) (n3 : mn M 3 ≤ mn M' 3) (l3 : ∀ i, i < mn M 2 → mt M' 3 i = mt M 3 i) (l1 : ∀ i, i < mn M 1 → mt M' 1 i = mt M 1 i) (h7 : mn M 7 ≤ mn M' 7 ∨ mn M 4 = 0) : Inv M' := by
  have hc0 := hI.c
  have e4 := sm.1
  refine ⟨⟨hc.1, hc.2.1, hc.2.2.1, hc.2.2.2.1, by omega, hc.2.2.2.2⟩, h2, h3, h4, h5, h6, fun i hi => ?_, fun i j hij hj e => ?_, fun j hj => ?_, fun i j hij hj e => ?_, fun t => ?_⟩
  · rw [e4] at hi
    have hp := hI.pas hi
    rw [show pS M' i = pS M i from sm.2 7 i (by decide), show pB M' i = pB M i from sm.2 8 i (by decide), show pP M' i = pP M i from sm.2 9 i (by decide), show pA M' i = pA M i from sm.2 11 i (by decide), show pO M' i = pO M i from sm.2 12 i (by decide), show pQ M' i = pQ M i from sm.2 13 i (by decide), show pT M' i = pT M i from sm.2 10 i (by decide), l3 _ hp.1, l1 _ hp.2.2.2.1]
    exact ⟨by omega, hp.2.1, by omega, by omega, hp.2.2.2.2⟩
  · rw [e4] at hj
    rw [show pS M' i = pS M i from sm.2 7 i (by decide), show pS M' j = pS M j from sm.2 7 j (by decide)] at e
    rw [show pB M' i = pB M i from sm.2 8 i (by decide), show pB M' j = pB M j from sm.2 8 j (by decide)]
    exact hI.sup hij hj e
  · rw [e4] at hj
    rw [show pS M' j = pS M j from sm.2 7 j (by decide), sm.S, show pO M' j = pO M j from sm.2 12 j (by decide), show pA M' j = pA M j from sm.2 11 j (by decide)]
    have ha := hI.alt hj
    refine ⟨ha.1, fun i hi => ?_⟩
    rw [show pO M' i = pO M i from sm.2 12 i (by decide), show pA M' i = pA M i from sm.2 11 i (by decide)]
    exact ha.2 i hi
  · rw [e4] at hj
    rw [show pP M' i = pP M i from sm.2 9 i (by decide), show pP M' j = pP M j from sm.2 9 j (by decide)] at e
    rw [show pB M' i = pB M i from sm.2 8 i (by decide), show pB M' j = pB M j from sm.2 8 j (by decide)]
    exact hI.pup hij hj e
  · rw [sm.U, e4]
    have := hI.tug t
    rcases h7 with h7 | h7
    · omega
    · rw [h7]; exact Nat.zero_le _
theorem inv_addTide {M : MS} (hI : Inv M) (x y : Int32) : Inv (oc_addTide M x y).2.2 := by
  have hc := hI.c
  unfold oc_addTide
  by_cases c : ¬ (isIx x 2880 ∧ -300 ≤ y ∧ y ≤ 900)
  · rw [cI_t c]; exact hI
  rw [cI_f c]
  by_cases d : mn M 0 = 30 ∨ 0 < mn M 4 ∨ ∃ j, j < mn M 0 ∧ mt M 0 j = nt x
  · rw [cI_t d]; exact hI
  rw [cI_f d]
  obtain ⟨⟨a, ha, rfl⟩, hy1, hy2⟩ := Classical.byContradiction c
  rw [nt_nI (by omega)] at d ⊢
  have hn : mn M 0 < 30 := by
    have : mn M 0 ≠ 30 := fun z => d (Or.inl z)
    omega
  have hna : ∀ j, j < mn M 0 → mt M 0 j ≠ a := fun j hj z => d (Or.inr (Or.inr ⟨j, hj, z⟩))
  rw [Int32.le_iff_toInt_le] at hy1 hy2
  have e1 : (-300 : Int32).toInt = -300 := by decide
  have e2 : (900 : Int32).toInt = 900 := by decide
  rw [e1] at hy1
  rw [e2] at hy2
  have hK := fGe_K M a
  have hsm : same M (insT M a y) := ⟨rfl, fun c i hc9 => if_neg (by omega)⟩
  have eT : ∀ i, mt (insT M a y) 0 i = (if i < fGe M a (mn M 0) 0 then mt M 0 i else if i = fGe M a (mn M 0) 0 then a else mt M 0 (i - 1)) := fun i => rfl
  have eG : ∀ i, mg (insT M a y) i = (if i < fGe M a (mn M 0) 0 then mg M i else if i = fGe M a (mn M 0) 0 then y else mg M (i - 1)) := fun i => rfl
  have em : mn (insT M a y) 0 = mn M 0 + 1 := rfl
  generalize fGe M a (mn M 0) 0 = k at hK eT eG
  have hk := hK.1
  show Inv (insT M a y)
  refine Inv_same hI hsm ⟨by rw [em]; omega, hc.2.1, hc.2.2.1, hc.2.2.2.1, hc.2.2.2.2.2⟩ (fun i hi => ?_) (fun i j hij hj => ?_) (fun i hi => hI.berth hi) (fun i hi => hI.ship hi) (fun i hi => hI.pilot hi) (Nat.le_refl _) (Nat.le_refl _) (Nat.le_refl _) (fun _ _ => rfl) (fun _ _ => rfl) (Or.inl (Nat.le_refl _))
  · rw [em] at hi
    rw [eT, eG]
    by_cases c1 : i < k
    · rw [if_pos c1, if_pos c1]; exact hI.tide (by omega)
    · rw [if_neg c1, if_neg c1]
      by_cases c2 : i = k
      · rw [if_pos c2, if_pos c2]; exact ⟨ha, hy1, hy2⟩
      · rw [if_neg c2, if_neg c2]; exact hI.tide (by omega)
  · rw [em] at hj
    rw [eT, eT]
    have hgt : ∀ q, k ≤ q → q < mn M 0 → a < mt M 0 q := by
      intro q h1 h2
      have h3 := hK.2.2 (by omega)
      have h4 := hna k (by omega)
      by_cases e : q = k
      · subst e; omega
      · have := hI.tup (i := k) (j := q) (by omega) h2; omega
    by_cases c1 : i < k
    · rw [if_pos c1]
      by_cases d1 : j < k
      · rw [if_pos d1]; exact hI.tup hij (by omega)
      · rw [if_neg d1]
        by_cases d2 : j = k
        · rw [if_pos d2]; exact hK.2.1 i c1
        · rw [if_neg d2]
          have h1 := hK.2.1 i c1
          have h2 := hgt (j - 1) (by omega) (by omega)
          omega
    · rw [if_neg c1, if_neg (by omega : ¬ j < k), if_neg (by omega : ¬ j = k)]
      by_cases c2 : i = k
      · rw [if_pos c2]; exact hgt (j - 1) (by omega) (by omega)
      · rw [if_neg c2]; exact hI.tup (by omega) (by omega)
theorem inv_setWater {M : MS} (hI : Inv M) (x y : Int32) : Inv (oc_setWater M x y).2.2 := by
  have hc := hI.c
  unfold oc_setWater
  by_cases c : ¬ (inR x 300 2500 ∧ inR y 0 500)
  · rw [cI_t c]; exact hI
  rw [cI_f c]
  obtain ⟨⟨a, a1, a2, rfl⟩, b, b1, b2, rfl⟩ := Classical.byContradiction c
  rw [nt_nI (by omega), nt_nI (by omega)]
  exact Inv_same hI ⟨rfl, fun _ _ _ => rfl⟩ ⟨hc.1, hc.2.1, hc.2.2.1, hc.2.2.2.1, a2, b2, hc.2.2.2.2.2.2.2⟩ (fun i hi => hI.tide hi) (fun i j hij hj => hI.tup hij hj) (fun i hi => hI.berth hi) (fun i hi => hI.ship hi) (fun i hi => hI.pilot hi) (Nat.le_refl _) (Nat.le_refl _) (Nat.le_refl _) (fun _ _ => rfl) (fun _ _ => rfl) (Or.inl (Nat.le_refl _))
theorem inv_setTugs {M : MS} (hI : Inv M) (x : Int32) : Inv (oc_setTugs M x).2.2 := by
  have hc := hI.c
  unfold oc_setTugs
  by_cases c : ¬ inR x 0 8
  · rw [cI_t c]; exact hI
  rw [cI_f c]
  by_cases d : 0 < mn M 4
  · rw [cI_t d]; exact hI
  rw [cI_f d]
  obtain ⟨a, a1, a2, rfl⟩ := Classical.byContradiction c
  rw [nt_nI (by omega)]
  exact Inv_same hI ⟨rfl, fun _ _ _ => rfl⟩ ⟨hc.1, hc.2.1, hc.2.2.1, hc.2.2.2.1, hc.2.2.2.2.2.1, hc.2.2.2.2.2.2.1, a2⟩ (fun i hi => hI.tide hi) (fun i j hij hj => hI.tup hij hj) (fun i hi => hI.berth hi) (fun i hi => hI.ship hi) (fun i hi => hI.pilot hi) (Nat.le_refl _) (Nat.le_refl _) (Nat.le_refl _) (fun _ _ => rfl) (fun _ _ => rfl) (Or.inr (by omega))
theorem inv_addBerth {M : MS} (hI : Inv M) (x y : Int32) : Inv (oc_addBerth M x y).2.2 := by
  have hc := hI.c
  unfold oc_addBerth
  by_cases c : ¬ (inR x 20 400 ∧ inR y 300 2500)
  · rw [cI_t c]; exact hI
  rw [cI_f c]
  by_cases d : mn M 1 = 6
  · rw [cI_t d]; exact hI
  rw [cI_f d]
  obtain ⟨⟨a, a1, a2, rfl⟩, b, b1, b2, rfl⟩ := Classical.byContradiction c
  rw [nt_nI (by omega), nt_nI (by omega)]
  have et : ∀ c i, mt (sN (sT (sT M 1 (mn M 1) a) 2 (mn M 1) b) 1 (mn M 1 + 1)) c i = (if c = 2 ∧ i = mn M 1 then b else if c = 1 ∧ i = mn M 1 then a else mt M c i) := fun _ _ => rfl
  refine Inv_same hI ⟨rfl, fun c i hc9 => by rw [et, if_neg (by omega), if_neg (by omega)]⟩ ⟨hc.1, by show mn M 1 + 1 ≤ 6; omega, hc.2.2.1, hc.2.2.2.1, hc.2.2.2.2.2⟩ (fun i hi => hI.tide hi) (fun i j hij hj => hI.tup hij hj) (fun i hi => ?_) (fun i hi => hI.ship hi) (fun i hi => hI.pilot hi) (by show mn M 1 ≤ mn M 1 + 1; omega) (Nat.le_refl _) (Nat.le_refl _) (fun _ _ => rfl) (fun i hi => ?_) (Or.inl (Nat.le_refl _))
  · have hi : i < mn M 1 + 1 := hi
    rw [et, et]
    by_cases e : i = mn M 1
    · rw [if_neg (fun z => absurd z.1 (by decide)), if_pos ⟨rfl, e⟩, if_pos ⟨rfl, e⟩]; exact ⟨a2, b2⟩
    · rw [if_neg (fun z => e z.2), if_neg (fun z => e z.2), if_neg (fun z => e z.2), if_neg (fun z => e z.2)]; exact hI.berth (by omega)
  · rw [et, if_neg (by omega), if_neg (by omega)]
theorem inv_addShip {M : MS} (hI : Inv M) (x y : Int32) : Inv (oc_addShip M x y).2.2 := by
  have hc := hI.c
  unfold oc_addShip
  by_cases c : ¬ (inR x 20 400 ∧ inR y 100 2000)
  · rw [cI_t c]; exact hI
  rw [cI_f c]
  by_cases d : mn M 2 = 16
  · rw [cI_t d]; exact hI
  rw [cI_f d]
  obtain ⟨⟨a, a1, a2, rfl⟩, b, b1, b2, rfl⟩ := Classical.byContradiction c
  rw [nt_nI (by omega), nt_nI (by omega)]
  have et : ∀ c i, mt (sN (sT (sT M 3 (mn M 2) a) 4 (mn M 2) b) 2 (mn M 2 + 1)) c i = (if c = 4 ∧ i = mn M 2 then b else if c = 3 ∧ i = mn M 2 then a else mt M c i) := fun _ _ => rfl
  refine Inv_same hI ⟨rfl, fun c i hc9 => by rw [et, if_neg (by omega), if_neg (by omega)]⟩ ⟨hc.1, hc.2.1, by show mn M 2 + 1 ≤ 16; omega, hc.2.2.2.1, hc.2.2.2.2.2⟩ (fun i hi => hI.tide hi) (fun i j hij hj => hI.tup hij hj) (fun i hi => hI.berth hi) (fun i hi => ?_) (fun i hi => hI.pilot hi) (Nat.le_refl _) (by show mn M 2 ≤ mn M 2 + 1; omega) (Nat.le_refl _) (fun i hi => ?_) (fun _ _ => rfl) (Or.inl (Nat.le_refl _))
  · have hi : i < mn M 2 + 1 := hi
    rw [et, et]
    by_cases e : i = mn M 2
    · rw [if_neg (fun z => absurd z.1 (by decide)), if_pos ⟨rfl, e⟩, if_pos ⟨rfl, e⟩]; exact ⟨a2, b2⟩
    · rw [if_neg (fun z => e z.2), if_neg (fun z => e z.2), if_neg (fun z => e z.2), if_neg (fun z => e z.2)]; exact hI.ship (by omega)
  · rw [et, if_neg (by omega), if_neg (by omega)]
theorem inv_addPilot {M : MS} (hI : Inv M) (x : Int32) (b : Nat) (hb : b ≤ 1) : Inv (oc_addPilot M x b).2.2 := by
  have hc := hI.c
  unfold oc_addPilot
  by_cases c : ¬ inR x 20 400
  · rw [cI_t c]; exact hI
  rw [cI_f c]
  by_cases d : mn M 3 = 6
  · rw [cI_t d]; exact hI
  rw [cI_f d]
  obtain ⟨a, a1, a2, rfl⟩ := Classical.byContradiction c
  rw [nt_nI (by omega)]
  have et : ∀ c i, mt (sN (sT (sT M 5 (mn M 3) a) 6 (mn M 3) b) 3 (mn M 3 + 1)) c i = (if c = 6 ∧ i = mn M 3 then b else if c = 5 ∧ i = mn M 3 then a else mt M c i) := fun _ _ => rfl
  refine Inv_same hI ⟨rfl, fun c i hc9 => by rw [et, if_neg (by omega), if_neg (by omega)]⟩ ⟨hc.1, hc.2.1, hc.2.2.1, by show mn M 3 + 1 ≤ 6; omega, hc.2.2.2.2.2⟩ (fun i hi => hI.tide hi) (fun i j hij hj => hI.tup hij hj) (fun i hi => hI.berth hi) (fun i hi => hI.ship hi) (fun i hi => ?_) (Nat.le_refl _) (Nat.le_refl _) (by show mn M 3 ≤ mn M 3 + 1; omega) (fun _ _ => rfl) (fun _ _ => rfl) (Or.inl (Nat.le_refl _))
  have hi : i < mn M 3 + 1 := hi
  rw [et, et]
  by_cases e : i = mn M 3
  · rw [if_neg (fun z => absurd z.1 (by decide)), if_pos ⟨rfl, e⟩, if_pos ⟨rfl, e⟩]; exact ⟨a2, hb⟩
  · rw [if_neg (fun z => e z.2), if_neg (fun z => e z.2), if_neg (fun z => e z.2), if_neg (fun z => e z.2)]; exact hI.pilot (by omega)
theorem bestP_ready {M : MS} {len : Nat} {out : Prop} {t : Nat} : ∀ n i, bestP M len out t n = some i → ready M i len out t := by
  intro n
  induction n with
  | zero => intro i h; cases h
  | succ n ih =>
    intro i h
    by_cases c : ready M n len out t
    · rw [bestP_succ_t c] at h
      cases hb : bestP M len out t n with
      | none => rw [hb] at h; cases h; exact c
      | some b =>
        rw [hb] at h
        unfold pick at h
        dsimp only at h
        split at h
        · cases h; exact c
        · cases h; exact ih _ hb
    · rw [bestP_succ_f c] at h; exact ih i h
theorem lastP_le {M : MS} (hI : Inv M) {n s i j : Nat} (hn : n ≤ mn M 4) (hi : lastP M s n = some i) (hj : j < n) (e : pP M j = s) : pB M j ≤ pB M i := by
  obtain ⟨h1, h2, h3⟩ := lastP_spec.1 i hi
  rcases Nat.lt_trichotomy j i with c | c | c
  · have := hI.pup c (by omega) (e.trans h2.symm); omega
  · subst c; exact Nat.le_refl _
  · exact absurd e (h3 j c hj)
theorem inv_bookM {M : MS} (hI : Inv M) {s : Nat} {y : Option Nat} {w : Nat × Nat} {t z : Nat} (hs : s < mn M 2) (hy : ∀ c, y = some c → c < mn M 1) (hn : mn M 4 < 40) (hw : way M s y = some w) (hb : beg M s y t) (hz : z ≤ t) (ht2 : t < 2820) : Inv (bookM M s w t z) := by
  have hc := hI.c
  obtain ⟨w', hw', hsf, hcb⟩ := hb
  rw [hw] at hw'; cases hw'
  obtain ⟨oo, b⟩ := w
  have hwb := way_b hI hy hw
  obtain ⟨c1, c2, c3, c4, c5, c6, c7⟩ := hcb
  dsimp only at c1 c2 c3 c4 c5 c6 c7
  obtain ⟨p, hp⟩ : ∃ p, bestP M (mt M 3 s) (oo = 1) t (mn M 3) = some p := by
    cases hbp : bestP M (mt M 3 s) (oo = 1) t (mn M 3) with
    | none => exact absurd hbp c6
    | some p => exact ⟨p, rfl⟩
  have hpl := bestP_lt _ _ hp
  have hrd := bestP_ready _ _ hp
  have e4 : mn (bookM M s (oo, b) t z) 4 = mn M 4 + 1 := rfl
  have o9 : ∀ c i, i < mn M 4 → mt (bookM M s (oo, b) t z) c i = mt M c i := fun c i hi => bk_o (Or.inr (by omega))
  have o7 : ∀ c i, c < 7 → mt (bookM M s (oo, b) t z) c i = mt M c i := fun c i hi => bk_o (Or.inl hi)
  have hlen : mt M 3 s ≤ mt M 1 b := by
    by_cases o : oo = 1
    · subst o
      obtain ⟨_, i, i1, i2, i3⟩ := way_out hw
      obtain ⟨j1, j2, -⟩ := lastS_spec.1 i i1
      have := (hI.pas j1).2.2.2.2.2.2.2
      rw [j2, ← i3] at this; exact this
    · exact (c4 o).1
  -- of the same ship: over
  have hS : ∀ i, i < mn M 4 → pS M i = s → pB M i + 60 ≤ t := by
    intro i hi e
    cases hl : lastS M s (mn M 4) with
    | none => exact absurd e ((lastS_spec.2 hl) i hi)
    | some j =>
      have := lastS_le hI (Nat.le_refl _) hl hi e
      unfold sFree at hsf
      rw [hl] at hsf; dsimp only at hsf
      omega
  have hP : ∀ i, i < mn M 4 → pP M i = p → pB M i + 60 ≤ t := by
    intro i hi e
    unfold ready at hrd
    cases hl : lastP M p (mn M 4) with
    | none => exact absurd e ((lastP_spec.2 hl) i hi)
    | some j =>
      have := lastP_le hI (Nat.le_refl _) hl hi e
      rw [hl] at hrd; dsimp only at hrd
      by_cases q : (port M p (mn M 4) ↔ oo = 1)
      · have := hrd.2.1 q; omega
      · have := hrd.2.2 q; omega
  refine ⟨⟨hc.1, hc.2.1, hc.2.2.1, hc.2.2.2.1, by rw [e4]; omega, hc.2.2.2.2.2⟩, fun i hi => ?_, fun i j hij hj => ?_, fun i hi => ?_, fun i hi => ?_, fun i hi => ?_, fun i hi => ?_, fun i j hij hj e => ?_, fun j hj => ?_, fun i j hij hj e => ?_, fun u => ?_⟩
  · rw [o7 0 i (by decide)]; exact hI.tide hi
  · rw [o7 0 i (by decide), o7 0 j (by decide)]; exact hI.tup hij hj
  · rw [o7 1 i (by decide), o7 2 i (by decide)]; exact hI.berth hi
  · rw [o7 3 i (by decide), o7 4 i (by decide)]; exact hI.ship hi
  · rw [o7 5 i (by decide), o7 6 i (by decide)]; exact hI.pilot hi
  · rw [e4] at hi
    rw [o7 3 _ (by decide), o7 1 _ (by decide)]
    by_cases e : i = mn M 4
    · subst e
      rw [bk_S, bk_B, bk_P hp, bk_A, bk_O, bk_Q, bk_T]
      exact ⟨hs, by omega, hpl, hwb.1, hwb.2, hz, rfl, hlen⟩
    · have := hI.pas (i := i) (by omega)
      rw [show pS (bookM M s (oo, b) t z) i = pS M i from o9 7 i (by omega), show pB (bookM M s (oo, b) t z) i = pB M i from o9 8 i (by omega), show pP (bookM M s (oo, b) t z) i = pP M i from o9 9 i (by omega), show pA (bookM M s (oo, b) t z) i = pA M i from o9 11 i (by omega), show pO (bookM M s (oo, b) t z) i = pO M i from o9 12 i (by omega), show pQ (bookM M s (oo, b) t z) i = pQ M i from o9 13 i (by omega), show pT (bookM M s (oo, b) t z) i = pT M i from o9 10 i (by omega)]
      exact this
  · rw [e4] at hj
    rw [show pS (bookM M s (oo, b) t z) i = pS M i from o9 7 i (by omega)] at e
    rw [show pB (bookM M s (oo, b) t z) i = pB M i from o9 8 i (by omega)]
    by_cases d : j = mn M 4
    · subst d
      rw [bk_S] at e
      rw [bk_B]; exact hS i (by omega) e
    · rw [show pS (bookM M s (oo, b) t z) j = pS M j from o9 7 j (by omega)] at e
      rw [show pB (bookM M s (oo, b) t z) j = pB M j from o9 8 j (by omega)]
      exact hI.sup hij (by omega) e
  · rw [e4] at hj
    by_cases d : j = mn M 4
    · subst d
      rw [bk_S, bk_lS _ (Nat.le_refl _), bk_O, bk_A]
      dsimp only
      rcases way_01 hw with q | q
      · subst q
        have hsea := (way_sea hw).2
        refine ⟨fun _ => rfl, fun i hi => ?_⟩
        rw [show pO (bookM M s (0, b) t z) i = pO M i from o9 12 i (lastS_spec.1 i hi).1]
        have := hsea i hi
        exact ⟨by omega, fun z => by omega⟩
      · subst q
        obtain ⟨_, i0, i1, i2, i3⟩ := way_out hw
        refine ⟨fun q => (by rw [i1] at q; cases q), fun i hi => ?_⟩
        rw [i1] at hi; cases hi
        rw [show pO (bookM M s (1, b) t z) i0 = pO M i0 from o9 12 i0 (lastS_spec.1 i0 i1).1, show pA (bookM M s (1, b) t z) i0 = pA M i0 from o9 11 i0 (lastS_spec.1 i0 i1).1]
        exact ⟨by omega, fun _ => i3⟩
    · have ha := hI.alt (j := j) (by omega)
      rw [show pS (bookM M s (oo, b) t z) j = pS M j from o9 7 j (by omega), bk_lS _ (by omega), show pO (bookM M s (oo, b) t z) j = pO M j from o9 12 j (by omega), show pA (bookM M s (oo, b) t z) j = pA M j from o9 11 j (by omega)]
      refine ⟨ha.1, fun i hi => ?_⟩
      have hij := (lastS_spec.1 i hi).1
      rw [show pO (bookM M s (oo, b) t z) i = pO M i from o9 12 i (by omega), show pA (bookM M s (oo, b) t z) i = pA M i from o9 11 i (by omega)]
      exact ha.2 i hi
  · rw [e4] at hj
    rw [show pP (bookM M s (oo, b) t z) i = pP M i from o9 9 i (by omega)] at e
    rw [show pB (bookM M s (oo, b) t z) i = pB M i from o9 8 i (by omega)]
    by_cases d : j = mn M 4
    · subst d
      rw [bk_P hp] at e
      rw [bk_B]; exact hP i (by omega) e
    · rw [show pP (bookM M s (oo, b) t z) j = pP M j from o9 9 j (by omega)] at e
      rw [show pB (bookM M s (oo, b) t z) j = pB M j from o9 8 j (by omega)]
      exact hI.pup hij (by omega) e
  · show uAt (bookM M s (oo, b) t z) u (mn M 4 + 1) ≤ mn M 7
    rw [uAt_succ, uAt_c (M := M) (mn M 4) (fun i hi => ⟨o9 8 i hi, o9 12 i hi, o9 10 i hi⟩), bk_O, bk_B, bk_T]
    have := hI.tug u
    by_cases q : tFrom oo t ≤ u ∧ u ≤ tFrom oo t + 39
    · rw [if_pos q]
      rcases c7 with c7 | c7
      · omega
      · exact c7 u q.1 (by omega)
    · rw [if_neg q]; omega
theorem inv_book {M : MS} (hI : Inv M) (x y z : Int32) : Inv (oc_book M x y z).2.2 := by
  have hc := hI.c
  unfold oc_book
  by_cases c : ¬ (isIx x (mn M 2) ∧ (y = -1 ∨ isIx y (mn M 1)))
  · rw [cI_t c]; exact hI
  rw [cI_f c]
  by_cases d : ¬ isIx z 2880
  · rw [cI_t d]; exact hI
  rw [cI_f d]
  obtain ⟨⟨s, hs, rfl⟩, hy⟩ := Classical.byContradiction c
  obtain ⟨t0, ht0, rfl⟩ := Classical.byContradiction d
  rw [nt_nI (by omega), nt_nI (by omega)]
  have hy1 : ∀ b, yO y = some b → b < mn M 1 := by
    intro b hb
    rcases hy with rfl | ⟨b2, hb2, rfl⟩
    · rw [yO_n] at hb; cases hb
    · rw [yO_s (by omega)] at hb; cases hb; exact hb2
  cases hf : fst (beg M s (yO y)) t0 2820 with
  | none => exact hI
  | some t =>
    cases hw : way M s (yO y) with
    | none => exact hI
    | some w =>
      show Inv (cI (mn M 4 = 40) ((3 : Int32), (0 : Int32), M) (0, nI (mn M 4), bookM M s w t t0)).2.2
      by_cases e : mn M 4 = 40
      · rw [cI_t e]; exact hI
      rw [cI_f e]
      obtain ⟨f1, f2, f3⟩ := fst_in hf
      exact inv_bookM hI hs hy1 (by omega) hw f3 f1 f2
theorem inv_M0 : Inv M0 := by
  refine ⟨⟨by decide, by decide, by decide, by decide, by decide, by decide, by decide, by decide⟩, fun i hi => absurd hi (Nat.not_lt_zero i), fun i j _ hi => absurd hi (Nat.not_lt_zero j), fun i hi => absurd hi (Nat.not_lt_zero i), fun i hi => absurd hi (Nat.not_lt_zero i), fun i hi => absurd hi (Nat.not_lt_zero i), fun i hi => absurd hi (Nat.not_lt_zero i), fun i j _ hi => absurd hi (Nat.not_lt_zero j), fun i hi => absurd hi (Nat.not_lt_zero i), fun i j _ hi => absurd hi (Nat.not_lt_zero j), fun t => Nat.zero_le _⟩

