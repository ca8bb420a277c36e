/-! PURE ROWS: the reference's canBegin, earliestFor, why, window, least -/
/-- where a ship s that is asked for y (a berth, or none: outbound) can go now: the way (0 inbound, 1 outbound) and the berth -/
def way (M : MS) (s : Nat) (y : Option Nat) : Option (Nat × Nat) := match lastS M s (mn M 4), y with
  | none, some b => some (0, b)
  | none, none => none
  | some i, some b => if pO M i = 1 then some (0, b) else none
  | some i, none => if pO M i = 0 then some (1, pA M i) else none
/-- when its latest passage is over -/
def sFree (M : MS) (s : Nat) : Nat := match lastS M s (mn M 4) with
  | none => 0
  | some i => pB M i + 60
def beg (M : MS) (s : Nat) (y : Option Nat) (t : Nat) : Prop := ∃ w, way M s y = some w ∧ sFree M s ≤ t ∧ canB M s w.2 w.1 t
/-- the first t from a on, ahead of e -/
noncomputable def fstT (P : Nat → Prop) : Nat → Nat → Option Nat
  | 0, _ => none
  | n + 1, a => @ite _ (P a) (Classical.propDecidable _) (some a) (fstT P n (a + 1))
noncomputable def fst (P : Nat → Prop) (a e : Nat) : Option Nat := fstT P (e - a) a
theorem fstT_none {P : Nat → Prop} : ∀ n a, (∀ t, a ≤ t → t < a + n → ¬ P t) → fstT P n a = none := by
  intro n
  induction n with
  | zero => intro a _; rfl
  | succ n ih =>
    intro a h
    unfold fstT
    rw [if_neg (h a (Nat.le_refl _) (by omega))]
    exact ih (a + 1) (fun t h1 h2 => h t (by omega) (by omega))
theorem fstT_some {P : Nat → Prop} : ∀ n a t, a ≤ t → t < a + n → P t → (∀ t', a ≤ t' → t' < t → ¬ P t') → fstT P n a = some t := by
  intro n
  induction n with
  | zero => intro a t h1 h2; omega
  | succ n ih =>
    intro a t h1 h2 h3 h4
    unfold fstT
    by_cases c : a = t
    · subst c; rw [if_pos h3]
    · rw [if_neg (h4 a (Nat.le_refl _) (by omega))]
      exact ih (a + 1) t (by omega) (by omega) h3 (fun t' h5 h6 => h4 t' (by omega) h6)
theorem fst_none {P : Nat → Prop} {a e : Nat} (h : ∀ t, a ≤ t → t < e → ¬ P t) : fst P a e = none := fstT_none _ _ (fun t h1 h2 => h t h1 (by omega))
theorem fst_some {P : Nat → Prop} {a e t : Nat} (h1 : a ≤ t) (h2 : t < e) (h3 : P t) (h4 : ∀ t', a ≤ t' → t' < t → ¬ P t') : fst P a e = some t := fstT_some _ _ _ h1 (by omega) h3 h4
theorem fstT_in {P : Nat → Prop} : ∀ n a t, fstT P n a = some t → a ≤ t ∧ t < a + n ∧ P t := by
  intro n
  induction n with
  | zero => intro a t h; cases h
  | succ n ih =>
    intro a t h
    unfold fstT at h
    by_cases c : P a
    · rw [if_pos c] at h; cases h; exact ⟨Nat.le_refl _, by omega, c⟩
    · rw [if_neg c] at h; have := ih _ _ h; exact ⟨by omega, by omega, this.2.2⟩
theorem fst_in {P : Nat → Prop} {a e t : Nat} (h : fst P a e = some t) : a ≤ t ∧ t < e ∧ P t := by
  have := fstT_in _ _ _ h
  exact ⟨this.1, by omega, this.2.2⟩
theorem fstT_congr {P Q : Nat → Prop} : ∀ n a, (∀ t, a ≤ t → t < a + n → (P t ↔ Q t)) → fstT P n a = fstT Q n a := by
  intro n
  induction n with
  | zero => intro a _; rfl
  | succ n ih =>
    intro a h
    unfold fstT
    rw [ih (a + 1) (fun t h1 h2 => h t (by omega) (by omega))]
    by_cases c : P a
    · rw [if_pos c, if_pos ((h a (Nat.le_refl _) (by omega)).mp c)]
    · rw [if_neg c, if_neg (fun z => c ((h a (Nat.le_refl _) (by omega)).mpr z))]
theorem fst_congr {P Q : Nat → Prop} {a e : Nat} (h : ∀ t, a ≤ t → t < e → (P t ↔ Q t)) : fst P a e = fst Q a e := fstT_congr _ _ (fun t h1 h2 => h t h1 (by omega))
/-- skipping minutes at which it is false -/
theorem fst_skip {P : Nat → Prop} {a b e : Nat} (hab : a ≤ b) (h : ∀ t, a ≤ t → t < b → ¬ P t) : fst P a e = fst P b e := by
  cases hb : fst P b e with
  | some t =>
    have h1 := fst_in hb
    have h2 : ∀ t', b ≤ t' → t' < t → ¬ P t' := by
      intro t' h3 h4 h5
      have key : ∀ n a, a ≤ t' → t' < a + n → P t' → ∀ u, fstT P n a = some u → u ≤ t' := by
        intro n
        induction n with
        | zero => intro a _ _ _ u h; cases h
        | succ n ih =>
          intro a q1 q2 q3 u hu
          unfold fstT at hu
          by_cases c : P a
          · rw [if_pos c] at hu; cases hu; exact q1
          · rw [if_neg c] at hu
            by_cases d : a = t'
            · subst d; exact absurd q3 c
            · exact ih (a + 1) (by omega) (by omega) q3 u hu
      have := key (e - b) b h3 (by omega) h5 t hb
      omega
    exact fst_some (by omega) h1.2.1 h1.2.2 (fun t' h3 h4 => by
      by_cases c : t' < b
      · exact h t' h3 c
      · exact h2 t' (by omega) h4)
  | none =>
    refine fst_none (fun t h1 h2 h3 => ?_)
    by_cases c : t < b
    · exact h t h1 c h3
    · have key : ∀ n a, a ≤ t → t < a + n → P t → fstT P n a ≠ none := by
        intro n
        induction n with
        | zero => intro a _ _ _ _; omega
        | succ n ih =>
          intro a q1 q2 q3 hu
          unfold fstT at hu
          by_cases c9 : P a
          · rw [if_pos c9] at hu; cases hu
          · rw [if_neg c9] at hu
            by_cases d : a = t
            · subst d; exact absurd q3 c9
            · exact ih (a + 1) (by omega) (by omega) q3 hu
      exact key (e - b) b (by omega) (by omega) h3 hb
section
variable {dc : Nat × Nat} {h : XH} {m : Nat} {ad : Nat → Nat} {F : Nat → Nat → Int32} {T : Int32} {M : MS} {Po : Int32 → Prop}
theorem nI_60 (t : Nat) : nI t + 60 = nI (t + 60) := nI_add t 60
end
