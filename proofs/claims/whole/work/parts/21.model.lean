/-! PURE ROWS: the reference's cells, and what its readers answer -/
def mfs (ad : Nat → Nat) (T : Int32) (M : MS) : List Value := [.int T, .int (nI (mn M 0)), .ref (ad 2), .ref (ad 3), .int (nI (mn M 5)), .int (nI (mn M 6)), .int (nI (mn M 1)), .ref (ad 7), .ref (ad 8), .int (nI (mn M 2)), .ref (ad 10), .ref (ad 11), .int (nI (mn M 3)), .ref (ad 13), .ref (ad 14), .int (nI (mn M 7)), .int (nI (mn M 4)), .ref (ad 17)]
def mRow (k : Nat) : Nat × Nat := match k with
  | 2 => (2, 30)
  | 3 => (2, 30)
  | 7 => (2, 6)
  | 8 => (2, 6)
  | 10 => (2, 16)
  | 11 => (2, 16)
  | 13 => (2, 6)
  | 14 => (3, 6)
  | _ => (2, 280)
def mIx : List Nat := [2, 3, 7, 8, 10, 11, 13, 14, 17]
/-- what the rows hold -/
def mF (F : Nat → Nat → Int32) (M : MS) : Prop :=
  (∀ i, i < mn M 0 → F 2 i = nI (mt M 0 i)) ∧ (∀ i, i < mn M 0 → F 3 i = mg M i) ∧ (∀ i, i < mn M 1 → F 7 i = nI (mt M 1 i)) ∧ (∀ i, i < mn M 1 → F 8 i = nI (mt M 2 i)) ∧
  (∀ i, i < mn M 2 → F 10 i = nI (mt M 3 i)) ∧ (∀ i, i < mn M 2 → F 11 i = nI (mt M 4 i)) ∧ (∀ i, i < mn M 3 → F 13 i = nI (mt M 5 i)) ∧ (∀ i, i < mn M 3 → F 14 i = nI (mt M 6 i)) ∧
  (∀ i k, i < mn M 4 → k < 7 → F 17 (7 * i + k) = nI (mt M (7 + k) i))
def isM (h : XH) (m : Nat) (ad : Nat → Nat) (F : Nat → Nat → Int32) (T : Int32) (M : MS) : Prop :=
  h m = some (.inr (8, mfs ad T M)) ∧ (∀ k ∈ mIx, h (ad k) = some (.inl ((mRow k).1, (mRow k).2, .inl (F k)))) ∧ (∀ j ∈ mIx, ∀ k ∈ mIx, ad j = ad k → j = k) ∧ mF F M
theorem isM.r2 {h : XH} {m : Nat} {ad : Nat → Nat} {F : Nat → Nat → Int32} {T : Int32} {M : MS} (q : isM h m ad F T M) : h (ad 2) = some (.inl (2, 30, .inl (F 2))) := q.2.1 2 (by decide)
theorem isM.r3 {h : XH} {m : Nat} {ad : Nat → Nat} {F : Nat → Nat → Int32} {T : Int32} {M : MS} (q : isM h m ad F T M) : h (ad 3) = some (.inl (2, 30, .inl (F 3))) := q.2.1 3 (by decide)
theorem isM.r7 {h : XH} {m : Nat} {ad : Nat → Nat} {F : Nat → Nat → Int32} {T : Int32} {M : MS} (q : isM h m ad F T M) : h (ad 7) = some (.inl (2, 6, .inl (F 7))) := q.2.1 7 (by decide)
theorem isM.r8 {h : XH} {m : Nat} {ad : Nat → Nat} {F : Nat → Nat → Int32} {T : Int32} {M : MS} (q : isM h m ad F T M) : h (ad 8) = some (.inl (2, 6, .inl (F 8))) := q.2.1 8 (by decide)
theorem isM.r10 {h : XH} {m : Nat} {ad : Nat → Nat} {F : Nat → Nat → Int32} {T : Int32} {M : MS} (q : isM h m ad F T M) : h (ad 10) = some (.inl (2, 16, .inl (F 10))) := q.2.1 10 (by decide)
theorem isM.r11 {h : XH} {m : Nat} {ad : Nat → Nat} {F : Nat → Nat → Int32} {T : Int32} {M : MS} (q : isM h m ad F T M) : h (ad 11) = some (.inl (2, 16, .inl (F 11))) := q.2.1 11 (by decide)
theorem isM.r13 {h : XH} {m : Nat} {ad : Nat → Nat} {F : Nat → Nat → Int32} {T : Int32} {M : MS} (q : isM h m ad F T M) : h (ad 13) = some (.inl (2, 6, .inl (F 13))) := q.2.1 13 (by decide)
theorem isM.r14 {h : XH} {m : Nat} {ad : Nat → Nat} {F : Nat → Nat → Int32} {T : Int32} {M : MS} (q : isM h m ad F T M) : h (ad 14) = some (.inl (3, 6, .inl (F 14))) := q.2.1 14 (by decide)
theorem isM.r17 {h : XH} {m : Nat} {ad : Nat → Nat} {F : Nat → Nat → Int32} {T : Int32} {M : MS} (q : isM h m ad F T M) : h (ad 17) = some (.inl (2, 280, .inl (F 17))) := q.2.1 17 (by decide)
/-- what holds of every state that is reached -/
def Inv (M : MS) : Prop :=
  (mn M 0 ≤ 30 ∧ mn M 1 ≤ 6 ∧ mn M 2 ≤ 16 ∧ mn M 3 ≤ 6 ∧ mn M 4 ≤ 40 ∧ mn M 5 ≤ 2500 ∧ mn M 6 ≤ 500 ∧ mn M 7 ≤ 8) ∧
  (∀ i, i < mn M 0 → mt M 0 i < 2880 ∧ -300 ≤ (mg M i).toInt ∧ (mg M i).toInt ≤ 900) ∧ (∀ i j, i < j → j < mn M 0 → mt M 0 i < mt M 0 j) ∧
  (∀ i, i < mn M 1 → mt M 1 i ≤ 400 ∧ mt M 2 i ≤ 2500) ∧ (∀ i, i < mn M 2 → mt M 3 i ≤ 400 ∧ mt M 4 i ≤ 2000) ∧ (∀ i, i < mn M 3 → mt M 5 i ≤ 400 ∧ mt M 6 i ≤ 1) ∧
  (∀ i, i < mn M 4 → pS M i < mn M 2 ∧ pB M i ≤ 2819 ∧ pP M i < mn M 3 ∧ pA M i < mn M 1 ∧ pO M i ≤ 1 ∧ pQ M i ≤ pB M i ∧ pT M i = tugsFor (mt M 3 (pS M i)) ∧ mt M 3 (pS M i) ≤ mt M 1 (pA M i)) ∧
  (∀ i j, i < j → j < mn M 4 → pS M i = pS M j → pB M i + 60 ≤ pB M j) ∧
  (∀ j, j < mn M 4 → (lastS M (pS M j) j = none → pO M j = 0) ∧ ∀ i, lastS M (pS M j) j = some i → pO M j + pO M i = 1 ∧ (pO M j = 1 → pA M j = pA M i)) ∧
  (∀ i j, i < j → j < mn M 4 → pP M i = pP M j → pB M i + 60 ≤ pB M j) ∧
  (∀ t, uAt M t (mn M 4) ≤ mn M 7)
theorem Inv.c {M : MS} (h : Inv M) : mn M 0 ≤ 30 ∧ mn M 1 ≤ 6 ∧ mn M 2 ≤ 16 ∧ mn M 3 ≤ 6 ∧ mn M 4 ≤ 40 ∧ mn M 5 ≤ 2500 ∧ mn M 6 ≤ 500 ∧ mn M 7 ≤ 8 := h.1
theorem Inv.tide {M : MS} (h : Inv M) {i : Nat} (hi : i < mn M 0) : mt M 0 i < 2880 ∧ -300 ≤ (mg M i).toInt ∧ (mg M i).toInt ≤ 900 := h.2.1 i hi
theorem Inv.tup {M : MS} (h : Inv M) {i j : Nat} (hij : i < j) (hj : j < mn M 0) : mt M 0 i < mt M 0 j := h.2.2.1 i j hij hj
theorem Inv.berth {M : MS} (h : Inv M) {i : Nat} (hi : i < mn M 1) : mt M 1 i ≤ 400 ∧ mt M 2 i ≤ 2500 := h.2.2.2.1 i hi
theorem Inv.ship {M : MS} (h : Inv M) {i : Nat} (hi : i < mn M 2) : mt M 3 i ≤ 400 ∧ mt M 4 i ≤ 2000 := h.2.2.2.2.1 i hi
theorem Inv.pilot {M : MS} (h : Inv M) {i : Nat} (hi : i < mn M 3) : mt M 5 i ≤ 400 ∧ mt M 6 i ≤ 1 := h.2.2.2.2.2.1 i hi
theorem Inv.pas {M : MS} (h : Inv M) {i : Nat} (hi : i < mn M 4) : pS M i < mn M 2 ∧ pB M i ≤ 2819 ∧ pP M i < mn M 3 ∧ pA M i < mn M 1 ∧ pO M i ≤ 1 ∧ pQ M i ≤ pB M i ∧ pT M i = tugsFor (mt M 3 (pS M i)) ∧ mt M 3 (pS M i) ≤ mt M 1 (pA M i) := h.2.2.2.2.2.2.1 i hi
theorem Inv.sup {M : MS} (h : Inv M) {i j : Nat} (hij : i < j) (hj : j < mn M 4) (e : pS M i = pS M j) : pB M i + 60 ≤ pB M j := h.2.2.2.2.2.2.2.1 i j hij hj e
theorem Inv.alt {M : MS} (h : Inv M) {j : Nat} (hj : j < mn M 4) : (lastS M (pS M j) j = none → pO M j = 0) ∧ ∀ i, lastS M (pS M j) j = some i → pO M j + pO M i = 1 ∧ (pO M j = 1 → pA M j = pA M i) := h.2.2.2.2.2.2.2.2.1 j hj
theorem Inv.pup {M : MS} (h : Inv M) {i j : Nat} (hij : i < j) (hj : j < mn M 4) (e : pP M i = pP M j) : pB M i + 60 ≤ pB M j := h.2.2.2.2.2.2.2.2.2.1 i j hij hj e
theorem Inv.tug {M : MS} (h : Inv M) (t : Nat) : uAt M t (mn M 4) ≤ mn M 7 := h.2.2.2.2.2.2.2.2.2.2 t
theorem lastS_spec {M : MS} {s n : Nat} : (∀ i, lastS M s n = some i → i < n ∧ pS M i = s ∧ ∀ j, i < j → j < n → pS M j ≠ s) ∧ (lastS M s n = none → ∀ j, j < n → pS M j ≠ s) := by
  induction n with
  | zero => exact ⟨fun i h => (by cases h), fun _ j hj => absurd hj (Nat.not_lt_zero j)⟩
  | succ n ih =>
    unfold lastS
    by_cases c : pS M n = s
    · rw [if_pos c]
      exact ⟨fun i h => (by cases h; exact ⟨Nat.lt_succ_self _, c, fun j h1 h2 => by omega⟩), fun h => (by cases h)⟩
    · rw [if_neg c]
      refine ⟨fun i h => ?_, fun h j hj => ?_⟩
      · obtain ⟨h1, h2, h3⟩ := ih.1 i h
        refine ⟨by omega, h2, fun j h4 h5 => ?_⟩
        by_cases e : j = n
        · subst e; exact c
        · exact h3 j h4 (by omega)
      · by_cases e : j = n
        · subst e; exact c
        · exact ih.2 h j (by omega)
theorem lastP_spec {M : MS} {s n : Nat} : (∀ i, lastP M s n = some i → i < n ∧ pP M i = s ∧ ∀ j, i < j → j < n → pP M j ≠ s) ∧ (lastP M s n = none → ∀ j, j < n → pP M j ≠ s) := by
  induction n with
  | zero => exact ⟨fun i h => (by cases h), fun _ j hj => absurd hj (Nat.not_lt_zero j)⟩
  | succ n ih =>
    unfold lastP
    by_cases c : pP M n = s
    · rw [if_pos c]
      exact ⟨fun i h => (by cases h; exact ⟨Nat.lt_succ_self _, c, fun j h1 h2 => by omega⟩), fun h => (by cases h)⟩
    · rw [if_neg c]
      refine ⟨fun i h => ?_, fun h j hj => ?_⟩
      · obtain ⟨h1, h2, h3⟩ := ih.1 i h
        refine ⟨by omega, h2, fun j h4 h5 => ?_⟩
        by_cases e : j = n
        · subst e; exact c
        · exact h3 j h4 (by omega)
      · by_cases e : j = n
        · subst e; exact c
        · exact ih.2 h j (by omega)
theorem lastI_spec {M : MS} {s n : Nat} : (∀ i, lastI M s n = some i → i < n ∧ pS M i = s ∧ pO M i = 0 ∧ ∀ j, i < j → j < n → ¬ (pS M j = s ∧ pO M j = 0)) ∧ (lastI M s n = none → ∀ j, j < n → ¬ (pS M j = s ∧ pO M j = 0)) := by
  induction n with
  | zero => exact ⟨fun i h => (by cases h), fun _ j hj => absurd hj (Nat.not_lt_zero j)⟩
  | succ n ih =>
    unfold lastI
    by_cases c : pS M n = s ∧ pO M n = 0
    · rw [if_pos c]
      exact ⟨fun i h => (by cases h; exact ⟨Nat.lt_succ_self _, c.1, c.2, fun j h1 h2 => by omega⟩), fun h => (by cases h)⟩
    · rw [if_neg c]
      refine ⟨fun i h => ?_, fun h j hj => ?_⟩
      · obtain ⟨h1, h2, h3, h4⟩ := ih.1 i h
        refine ⟨by omega, h2, h3, fun j h5 h6 => ?_⟩
        by_cases e : j = n
        · subst e; exact c
        · exact h4 j h5 (by omega)
      · by_cases e : j = n
        · subst e; exact c
        · exact ih.2 h j (by omega)
theorem ix_iff {x : Int32} {n : Nat} (hn : n < 2 ^ 30) : (0 ≤ x ∧ x ≤ nI n - 1) ↔ isIx x n := by
  have h1 : (nI n - 1).toInt = (n : Int) - 1 := pk_sub_toInt (a := n) (b := 1) hn (by decide)
  rw [Int32.le_iff_toInt_le, Int32.le_iff_toInt_le, h1]
  constructor
  · intro ⟨h2, h3⟩
    rcases pk_ix x (n := n) (by omega) with q | q | q
    · rw [Int32.lt_iff_toInt_lt] at q; exact absurd h2 (by simpa using q)
    · rw [Int32.le_iff_toInt_le, nI_toInt (by omega)] at q; omega
    · exact q
  · rintro ⟨j, hj, rfl⟩
    rw [nI_toInt (by omega)]
    have h0 : (0 : Int32).toInt = 0 := rfl
    omega
section
variable {dc : Nat × Nat} {h : XH} {m : Nat} {ad : Nat → Nat} {F : Nat → Nat → Int32} {T : Int32} {M : MS} {Po : Int32 → Prop}
theorem sm_isIn {x a b : Int32} (hp : Po (bI (a ≤ x ∧ x ≤ b))) : w_X7_isIn dc h x a b Po := by
  refine wIf_i (fun c => ?_) (fun c => ?_)
  · rw [bI_f (fun q => Int32.not_le.mpr c q.1)] at hp
    exact wZ_0 hp
  · refine wIf_i (fun c2 => ?_) (fun c2 => ?_)
    · rw [bI_f (fun q => Int32.not_le.mpr c2 q.2)] at hp
      exact wZ_0 hp
    · rw [bI_t ⟨Int32.not_lt.mp c, Int32.not_lt.mp c2⟩] at hp
      exact wZ_1 hp
theorem sm_isTime {x : Int32} (hp : Po (bI (isIx x 2880))) : w_X7_isTime dc h x Po := by
  refine sm_isIn ?_
  rw [show (2879 : Int32) = nI 2880 - 1 from by decide, bI_c (d := isIx x 2880) (ix_iff (n := 2880) (by decide))]
  exact wZ_b hp
theorem sm_isShip (hM : isM h m ad F T M) (hI : Inv M) {x : Int32} (hp : Po (bI (isIx x (mn M 2)))) : w_X7_isShip dc h m x Po := by
  refine wI_i hM.1 rfl (sm_isIn ?_)
  rw [bI_c (ix_iff (n := mn M 2) (by have := hI.c; omega))]
  exact wZ_b hp
theorem sm_isBerth (hM : isM h m ad F T M) (hI : Inv M) {x : Int32} (hp : Po (bI (isIx x (mn M 1)))) : w_X7_isBerth dc h m x Po := by
  refine wI_i hM.1 rfl (sm_isIn ?_)
  rw [bI_c (ix_iff (n := mn M 1) (by have := hI.c; omega))]
  exact wZ_b hp
theorem sm_get (hM : isM h m ad F T M) (hI : Inv M) (p k : Nat) (hp : p < mn M 4) (hk : k < 7) {x y : Int32} (hx : x = nI p) (hy : y = nI k) (hh : Po (nI (mt M (7 + k) p))) : w_X7_get dc h m x y Po := by
  refine wR_i hM.1 rfl (wAI_i (7 * p + k) hM.r17 (by have := hI.c; omega) ?_ (by decide) ?_)
  · rw [hx, hy, show (7 : Int32) = nI 7 from rfl, pk_mul, nI_add]
  · rw [hM.2.2.2.2.2.2.2.2.2.2.2 p k hp hk]; exact hh
theorem sm_begin (hM : isM h m ad F T M) (hI : Inv M) (p : Nat) (hp : p < mn M 4) {x : Int32} (hx : x = nI p) (hh : Po (nI (pB M p))) : w_X7_begin dc h m x Po :=
  wO_i hM.1 (sm_get hM hI p 1 hp (by decide) hx rfl hh)
theorem sm_end (hM : isM h m ad F T M) (hI : Inv M) (p : Nat) (hp : p < mn M 4) {x : Int32} (hx : x = nI p) (hh : Po (nI (pB M p + 60))) : w_X7_end dc h m x Po :=
  wO_i hM.1 (sm_get hM hI p 1 hp (by decide) hx rfl (by rw [← nI_add] at hh; exact hh))
theorem sm_isOut (hM : isM h m ad F T M) (hI : Inv M) (p : Nat) (hp : p < mn M 4) {x : Int32} (hx : x = nI p) (hh : Po (bI (pO M p = 1))) : w_X7_isOut dc h m x Po := by
  refine wO_i hM.1 (sm_get hM hI p 5 hp (by decide) hx rfl (wIf_d (pO M p = 1) ?_ (fun c => ?_) (fun c => ?_)))
  · have := hI.pas hp
    exact nI_eq (a := pO M p) (b := 1) (by omega) (by decide)
  · rw [bI_t c] at hh; exact wZ_1 hh
  · rw [bI_f c] at hh; exact wZ_0 hh
theorem sm_needOf (hM : isM h m ad F T M) (hI : Inv M) (s : Nat) (hs : s < mn M 2) {x : Int32} (hx : x = nI s) (hh : Po (need M s)) : w_X7_needOf dc h m x Po := by
  have hc := hI.c
  have e : F 11 s = nI (mt M 4 s) := hM.2.2.2.2.2.2.2.2.1 s hs
  refine wR_i hM.1 rfl (wAI_i s hM.r11 (by omega) hx (by decide) (wR_i hM.1 rfl (wAI_i s hM.r11 (by omega) hx (by decide) ⟨by decide, wI_i hM.1 rfl ?_⟩)))
  rw [e]
  exact hh
theorem sm_heightAt_35 (hM : isM h m ad F T M) (hI : Inv M) (h0 : ¬ mn M 0 = 0) (t k : Nat) (ht2 : t < 2880) (hk : isK M t k) {x y : Int32} (hx : x = nI t) (hy : y = nI k) (hh : Po (ht M t)) : w_X7_heightAt_35 dc h m x y Po := by
  have hc := hI.c
  subst hx hy
  rw [← ht_of hk] at hh
  unfold htv at hh
  rw [if_neg h0] at hh
  have hkn := hk.1
  refine wI_i hM.1 rfl (wIf_d (k = mn M 0) (nI_eq (by omega) (by omega)) (fun c => ?_) (fun c => ?_))
  · rw [if_pos c] at hh
    refine wR_i hM.1 rfl (wI_i hM.1 rfl (wAI_i (mn M 0 - 1) hM.r3 (by omega) (by
      have := pk_sub (a := mn M 0) (b := 1) (by omega)
      exact this) (by decide) ?_))
    rw [hM.2.2.2.2.1 _ (by omega)]; exact hh
  · rw [if_neg c] at hh
    have hkl : k < mn M 0 := by omega
    have h69 : (k = 0 ∨ mt M 0 k = t) → w_X7_heightAt_69 dc h m (nI k) Po := fun z => by
      rw [if_pos z] at hh
      refine wR_i hM.1 rfl (wAI_i k hM.r3 (by omega) rfl (by decide) ?_)
      rw [hM.2.2.2.2.1 _ hkl]; exact hh
    refine wIf_d (k = 0) (nI_eq (by omega) (by decide)) (fun c0 => h69 (Or.inl c0)) (fun c0 => ?_)
    have hT := hI.tide hkl
    refine wR_i hM.1 rfl (wAI_i k hM.r2 (by omega) rfl (by decide) ?_)
    rw [hM.2.2.2.1 _ hkl]
    refine wIf_d (mt M 0 k = t) (nI_eq (by omega) (by omega)) (fun c1 => h69 (Or.inr c1)) (fun c1 => ?_)
    rw [if_neg (fun z => z.elim c0 c1)] at hh
    have hk1 : nI k - 1 = nI (k - 1) := pk_sub (a := k) (b := 1) (by omega)
    have hu := hI.tup (i := k - 1) (j := k) (by omega) hkl
    refine wR_i hM.1 rfl (wAI_i (k - 1) hM.r3 (by omega) hk1 (by decide) ?_)
    refine wR_i hM.1 rfl (wAI_i k hM.r3 (by omega) rfl (by decide) ?_)
    refine wR_i hM.1 rfl (wAI_i (k - 1) hM.r3 (by omega) hk1 (by decide) ?_)
    refine wR_i hM.1 rfl (wAI_i (k - 1) hM.r2 (by omega) hk1 (by decide) ?_)
    refine wR_i hM.1 rfl (wAI_i k hM.r2 (by omega) rfl (by decide) ?_)
    refine wR_i hM.1 rfl (wAI_i (k - 1) hM.r2 (by omega) hk1 (by decide) ?_)
    rw [hM.2.2.2.2.1 _ hkl, hM.2.2.2.2.1 _ (by omega : k - 1 < _), hM.2.2.2.1 _ hkl, hM.2.2.2.1 _ (by omega : k - 1 < _)]
    refine ⟨fun z => ?_, hh⟩
    rw [pk_sub (by omega)] at z
    exact nI_ne0 (by omega) (by omega) z
theorem sm_heightAt (hM : isM h m ad F T M) (hI : Inv M) (t : Nat) (ht2 : t < 2880) {x : Int32} (hx : x = nI t) (hh : Po (ht M t)) : w_X7_heightAt dc h m x Po := by
  have hc := hI.c
  subst hx
  refine wI_i hM.1 rfl (wIf_d (mn M 0 = 0) (nI_eq (by omega) (by decide)) (fun c => ?_) (fun c => ?_))
  · have e : ht M t = 0 := by unfold ht htv; rw [if_pos c]
    rw [e] at hh; exact hh
  · refine xloop_up (fun i => nI i) (fun i => ∀ j, j < i → mt M 0 j < t) (mn M 0) 0 (Nat.zero_le _) (fun j hj => absurd hj (Nat.not_lt_zero j)) (fun rec i _ hi hP hr => ?_) (fun rec hP => ?_)
    · have hT := hI.tide hi
      refine wI_i hM.1 rfl (wIf_f (nI_ge hi (by omega)) (wR_i hM.1 rfl (wAI_i i hM.r2 (by omega) rfl (by decide) ?_)))
      rw [hM.2.2.2.1 _ hi]
      refine wIf_d (t ≤ mt M 0 i) (n_le (by omega) (by omega)) (fun c1 => sm_heightAt_35 hM hI c t i ht2 ⟨by omega, hP, fun _ => c1⟩ rfl rfl hh) (fun c1 => ?_)
      have := hr (fun j hj => by
        by_cases e : j = i
        · subst e; omega
        · exact hP j (by omega))
      rw [nI_succ] at this
      exact this
    · refine wI_i hM.1 rfl (wIf_t (nI_le (Nat.le_refl _) (by omega)) (sm_heightAt_35 hM hI c t _ ht2 ⟨Nat.le_refl _, hP, fun q => absurd q (Nat.lt_irrefl _)⟩ rfl rfl hh))
end
