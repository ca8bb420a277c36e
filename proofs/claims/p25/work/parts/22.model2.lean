/-! PURE ROWS: the reference's readers, second part -/
theorem lastS_succ (M : MS) (s n : Nat) : lastS M s (n + 1) = if pS M n = s then some n else lastS M s n := rfl
theorem lastP_succ (M : MS) (s n : Nat) : lastP M s (n + 1) = if pP M n = s then some n else lastP M s n := rfl
theorem buN_succ (M : MS) (i q : Nat) : buN M i (q + 1) = if buN M i q = 2880 ∧ i < q ∧ pS M q = pS M i ∧ pO M q = 1 then pB M q + 60 else buN M i q := rfl
/-- a passage's times: booked later is later -/
theorem lastS_le {M : MS} (hI : Inv M) {n s i j : Nat} (hn : n ≤ mn M 4) (hi : lastS M s n = some i) (hj : j < n) (e : pS M j = s) : pB M j ≤ pB M i := by
  obtain ⟨h1, h2, h3⟩ := lastS_spec.1 i hi
  rcases Nat.lt_trichotomy j i with c | c | c
  · have := hI.sup c (by omega) (e.trans h2.symm); omega
  · subst c; exact Nat.le_refl _
  · exact absurd e (h3 j c hj)
/-- an outbound passage follows an inbound one of the same ship -/
theorem alt_next {M : MS} (hI : Inv M) {j : Nat} (hj : j < mn M 4) : pO M j = 1 ↔ ∃ i, lastS M (pS M j) j = some i ∧ pO M i = 0 := by
  have ha := hI.alt hj
  cases hl : lastS M (pS M j) j with
  | none =>
    have := ha.1 hl
    exact ⟨fun q => by omega, fun ⟨i, h, _⟩ => by cases h⟩
  | some i =>
    obtain ⟨h1, -⟩ := ha.2 i hl
    exact ⟨fun q => ⟨i, rfl, by omega⟩, fun ⟨k, h, hk⟩ => by cases h; omega⟩
/-- bu: nothing comes between -/
theorem buN_0 {M : MS} {i : Nat} : ∀ n, (∀ j, i < j → j < n → pS M j ≠ pS M i) → buN M i n = 2880 := by
  intro n
  induction n with
  | zero => intro _; rfl
  | succ n ih =>
    intro h
    have := ih (fun j h1 h2 => h j h1 (by omega))
    rw [buN_succ]
    rw [if_neg (fun z => h n z.2.1 (by omega) z.2.2.1), this]
theorem buN_le {M : MS} (hI : Inv M) {i : Nat} : ∀ n, n ≤ mn M 4 → buN M i n ≤ 2880 := by
  intro n
  induction n with
  | zero => intro _; exact Nat.le_refl _
  | succ n ih =>
    intro h
    have := ih (by omega)
    have hp := hI.pas (i := n) (by omega)
    rw [buN_succ]
    split <;> omega
section
variable {dc : Nat × Nat} {h : XH} {m : Nat} {ad : Nat → Nat} {F : Nat → Nat → Int32} {T : Int32} {M : MS} {Po : Int32 → Prop}
theorem nI_s (i : Nat) : nI i + 1 = nI (i + 1) := nI_1 i
theorem tugsFor_le (n : Nat) : tugsFor n ≤ 3 := by unfold tugsFor; split <;> (try split) <;> (try split) <;> omega
end
