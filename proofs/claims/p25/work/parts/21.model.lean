/-! PURE ROWS: the reference's cells, and what its readers answer -/
/-- what holds of every state that is reached -/
def Inv (M : MS) : Prop :=
  (mn M 0 ≤ 30 ∧ mn M 1 ≤ 6 ∧ mn M 2 ≤ 16 ∧ mn M 3 ≤ 6 ∧ mn M 4 ≤ 40 ∧ mn M 5 ≤ 2500 ∧ mn M 6 ≤ 500 ∧ mn M 7 ≤ 8) ∧
  (∀ i, i < mn M 0 → mt M 0 i < 2880 ∧ -300 ≤ (mg M i).toInt ∧ (mg M i).toInt ≤ 900) ∧ (∀ i j, i < j → j < mn M 0 → mt M 0 i < mt M 0 j) ∧
  (∀ i, i < mn M 1 → mt M 1 i ≤ 400 ∧ mt M 2 i ≤ 2500) ∧ (∀ i, i < mn M 2 → mt M 3 i ≤ 400 ∧ mt M 4 i ≤ 2000) ∧ (∀ i, i < mn M 3 → mt M 5 i ≤ 400 ∧ mt M 6 i ≤ 1) ∧
  (∀ i, i < mn M 4 → pS M i < mn M 2 ∧ pB M i ≤ 2819 ∧ pP M i < mn M 3 ∧ pA M i < mn M 1 ∧ pO M i ≤ 1 ∧ pQ M i ≤ pB M i ∧ pT M i = tugsFor (mt M 3 (pS M i)) ∧ mt M 3 (pS M i) ≤ mt M 1 (pA M i)) ∧
  (∀ i j, i < j → j < mn M 4 → pS M i = pS M j → pB M i + 60 ≤ pB M j) ∧
  (∀ j, j < mn M 4 → (lastS M (pS M j) j = none → pO M j = 0) ∧ ∀ i, lastS M (pS M j) j = some i → pO M j + pO M i = 1 ∧ (pO M j = 1 → pA M j = pA M i)) ∧
  (∀ i j, i < j → j < mn M 4 → pP M i = pP M j → pB M i + 60 ≤ pB M j) ∧
  (∀ t, uAt M t (mn M 4) ≤ mn M 7)
theorem Inv.c {M : MS} (h : Inv M) : mn M 0 ≤ 30 ∧ mn M 1 ≤ 6 ∧ mn M 2 ≤ 16 ∧ mn M 3 ≤ 6 ∧ mn M 4 ≤ 40 ∧ mn M 5 ≤ 2500 ∧ mn M 6 ≤ 500 ∧ mn M 7 ≤ 8 := h.1
theorem Inv.tide {M : MS} (h : Inv M) {i : Nat} (hi : i < mn M 0) : mt M 0 i < 2880 ∧ -300 ≤ (mg M i).toInt ∧ (mg M i).toInt ≤ 900 := h.2.1 i hi
theorem Inv.tup {M : MS} (h : Inv M) {i j : Nat} (hij : i < j) (hj : j < mn M 0) : mt M 0 i < mt M 0 j := h.2.2.1 i j hij hj
theorem Inv.berth {M : MS} (h : Inv M) {i : Nat} (hi : i < mn M 1) : mt M 1 i ≤ 400 ∧ mt M 2 i ≤ 2500 := h.2.2.2.1 i hi
theorem Inv.ship {M : MS} (h : Inv M) {i : Nat} (hi : i < mn M 2) : mt M 3 i ≤ 400 ∧ mt M 4 i ≤ 2000 := h.2.2.2.2.1 i hi
theorem Inv.pilot {M : MS} (h : Inv M) {i : Nat} (hi : i < mn M 3) : mt M 5 i ≤ 400 ∧ mt M 6 i ≤ 1 := h.2.2.2.2.2.1 i hi
theorem Inv.pas {M : MS} (h : Inv M) {i : Nat} (hi : i < mn M 4) : pS M i < mn M 2 ∧ pB M i ≤ 2819 ∧ pP M i < mn M 3 ∧ pA M i < mn M 1 ∧ pO M i ≤ 1 ∧ pQ M i ≤ pB M i ∧ pT M i = tugsFor (mt M 3 (pS M i)) ∧ mt M 3 (pS M i) ≤ mt M 1 (pA M i) := h.2.2.2.2.2.2.1 i hi
theorem Inv.sup {M : MS} (h : Inv M) {i j : Nat} (hij : i < j) (hj : j < mn M 4) (e : pS M i = pS M j) : pB M i + 60 ≤ pB M j := h.2.2.2.2.2.2.2.1 i j hij hj e
theorem Inv.alt {M : MS} (h : Inv M) {j : Nat} (hj : j < mn M 4) : (lastS M (pS M j) j = none → pO M j = 0) ∧ ∀ i, lastS M (pS M j) j = some i → pO M j + pO M i = 1 ∧ (pO M j = 1 → pA M j = pA M i) := h.2.2.2.2.2.2.2.2.1 j hj
theorem Inv.pup {M : MS} (h : Inv M) {i j : Nat} (hij : i < j) (hj : j < mn M 4) (e : pP M i = pP M j) : pB M i + 60 ≤ pB M j := h.2.2.2.2.2.2.2.2.2.1 i j hij hj e
theorem Inv.tug {M : MS} (h : Inv M) (t : Nat) : uAt M t (mn M 4) ≤ mn M 7 := h.2.2.2.2.2.2.2.2.2.2 t
theorem lastS_spec {M : MS} {s n : Nat} : (∀ i, lastS M s n = some i → i < n ∧ pS M i = s ∧ ∀ j, i < j → j < n → pS M j ≠ s) ∧ (lastS M s n = none → ∀ j, j < n → pS M j ≠ s) := by
  induction n with
  | zero => exact ⟨fun i h => (by cases h), fun _ j hj => absurd hj (Nat.not_lt_zero j)⟩
  | succ n ih =>
    unfold lastS
    by_cases c : pS M n = s
    · rw [if_pos c]
      exact ⟨fun i h => (by cases h; exact ⟨Nat.lt_succ_self _, c, fun j h1 h2 => by omega⟩), fun h => (by cases h)⟩
    · rw [if_neg c]
      refine ⟨fun i h => ?_, fun h j hj => ?_⟩
      · obtain ⟨h1, h2, h3⟩ := ih.1 i h
        refine ⟨by omega, h2, fun j h4 h5 => ?_⟩
        by_cases e : j = n
        · subst e; exact c
        · exact h3 j h4 (by omega)
      · by_cases e : j = n
        · subst e; exact c
        · exact ih.2 h j (by omega)
theorem lastP_spec {M : MS} {s n : Nat} : (∀ i, lastP M s n = some i → i < n ∧ pP M i = s ∧ ∀ j, i < j → j < n → pP M j ≠ s) ∧ (lastP M s n = none → ∀ j, j < n → pP M j ≠ s) := by
  induction n with
  | zero => exact ⟨fun i h => (by cases h), fun _ j hj => absurd hj (Nat.not_lt_zero j)⟩
  | succ n ih =>
    unfold lastP
    by_cases c : pP M n = s
    · rw [if_pos c]
      exact ⟨fun i h => (by cases h; exact ⟨Nat.lt_succ_self _, c, fun j h1 h2 => by omega⟩), fun h => (by cases h)⟩
    · rw [if_neg c]
      refine ⟨fun i h => ?_, fun h j hj => ?_⟩
      · obtain ⟨h1, h2, h3⟩ := ih.1 i h
        refine ⟨by omega, h2, fun j h4 h5 => ?_⟩
        by_cases e : j = n
        · subst e; exact c
        · exact h3 j h4 (by omega)
      · by_cases e : j = n
        · subst e; exact c
        · exact ih.2 h j (by omega)
section
variable {dc : Nat × Nat} {h : XH} {m : Nat} {ad : Nat → Nat} {F : Nat → Nat → Int32} {T : Int32} {M : MS} {Po : Int32 → Prop}
end
