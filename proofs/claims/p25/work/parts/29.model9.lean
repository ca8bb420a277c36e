/-! PURE ROWS: the reference's operations, third part: least, earliest, cancel, passage, occupant, tugs, trips, ports -/
theorem buN_cases {M : MS} {i : Nat} : ∀ n, buN M i n = 2880 ∨ ∃ q, q < n ∧ i < q ∧ pS M q = pS M i ∧ pO M q = 1 ∧ buN M i n = pB M q + 60 := by
  intro n
  induction n with
  | zero => exact Or.inl rfl
  | succ n ih =>
    rw [buN_succ]
    split
    · rename_i z
      exact Or.inr ⟨n, by omega, z.2.1, z.2.2.1, z.2.2.2, rfl⟩
    · rcases ih with z | ⟨q, h1, h2⟩
      · exact Or.inl z
      · exact Or.inr ⟨q, by omega, h2⟩
noncomputable def oc_earliest (M : MS) (x y z : Int32) : Int32 × (Int32 × MS) := cI (¬ (isIx x (mn M 2) ∧ (y = -1 ∨ isIx y (mn M 1)))) (1, 0, M) (cI (¬ isIx z 2880) (2, 0, M) (0, oN (fst (beg M (nt x) (yO y)) (nt z) 2820), M))
noncomputable def oc_passage (M : MS) (x y : Int32) : Int32 × (Int32 × MS) := cI (¬ (isIx x (mn M 4) ∧ isIx y 6)) (1, 0, M) (0, nI (mt M (7 + nt y) (nt x)), M)
def occP (M : MS) (b t p : Nat) : Prop := pO M p = 0 ∧ pA M p = b ∧ pB M p ≤ t ∧ t < buN M p (mn M 4)
def occR (M : MS) (r : Option Nat) : Int32 := match r with
  | none => -1
  | some p => nI (pS M p)
noncomputable def oc_occupant (M : MS) (x y : Int32) : Int32 × (Int32 × MS) := cI (¬ isIx x (mn M 1)) (1, 0, M) (cI (¬ isIx y 2880) (2, 0, M) (0, occR M (fst (occP M (nt x) (nt y)) 0 (mn M 4)), M))
section
variable {dc : Nat × Nat} {h : XH} {m : Nat} {ad : Nat → Nat} {F : Nat → Nat → Int32} {T : Int32} {M : MS} {Po : Int32 → XH → Prop}
end
