/-! PURE ROWS: the reference's operations, second part -/
noncomputable def oc_setWater (M : MS) (x y : Int32) : Int32 × (Int32 × MS) := cI (¬ (inR x 300 2500 ∧ inR y 0 500)) (1, 0, M) (0, nI (mn M 5), sN (sN M 5 (nt x)) 6 (nt y))
noncomputable def oc_addBerth (M : MS) (x y : Int32) : Int32 × (Int32 × MS) := cI (¬ (inR x 20 400 ∧ inR y 300 2500)) (1, 0, M) (cI (mn M 1 = 6) (2, 0, M) (0, nI (mn M 1), sN (sT (sT M 1 (mn M 1) (nt x)) 2 (mn M 1) (nt y)) 1 (mn M 1 + 1)))
noncomputable def oc_addShip (M : MS) (x y : Int32) : Int32 × (Int32 × MS) := cI (¬ (inR x 20 400 ∧ inR y 100 2000)) (1, 0, M) (cI (mn M 2 = 16) (2, 0, M) (0, nI (mn M 2), sN (sT (sT M 3 (mn M 2) (nt x)) 4 (mn M 2) (nt y)) 2 (mn M 2 + 1)))
noncomputable def oc_addPilot (M : MS) (x : Int32) (b : Nat) : Int32 × (Int32 × MS) := cI (¬ inR x 20 400) (1, 0, M) (cI (mn M 3 = 6) (2, 0, M) (0, nI (mn M 3), sN (sT (sT M 5 (mn M 3) (nt x)) 6 (mn M 3) b) 3 (mn M 3 + 1)))
noncomputable def oc_setTugs (M : MS) (x : Int32) : Int32 × (Int32 × MS) := cI (¬ inR x 0 8) (1, 0, M) (cI (0 < mn M 4) (2, 0, M) (0, nI (mn M 7), sN M 7 (nt x)))
noncomputable def oc_count (M : MS) (x : Int32) : Int32 × (Int32 × MS) := cI (¬ isIx x 5) (1, 0, M) (0, nI (mn M (nt x)), M)
noncomputable def yO (y : Int32) : Option Nat := cI (y = -1) none (some (nt y))
theorem yO_n : yO (-1) = none := cI_t rfl
theorem yO_s {b : Nat} (h : b < 2 ^ 31) : yO (nI b) = some b := by unfold yO; rw [cI_f (nI_ne_m1 h), nt_nI h]
section
variable {dc : Nat × Nat} {h : XH} {m : Nat} {ad : Nat → Nat} {F : Nat → Nat → Int32} {T : Int32} {M : MS} {Po : Int32 → XH → Prop}
end
