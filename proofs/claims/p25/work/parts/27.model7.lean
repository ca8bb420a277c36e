/-! PURE ROWS: the reference's addTide -/
def insT (M : MS) (a : Nat) (v : Int32) : MS := (fun j => if j = 0 then mn M 0 + 1 else mn M j, (fun c i => if c = 0 then (if i < fGe M a (mn M 0) 0 then mt M 0 i else if i = fGe M a (mn M 0) 0 then a else mt M 0 (i - 1)) else mt M c i), fun i => if i < fGe M a (mn M 0) 0 then mg M i else if i = fGe M a (mn M 0) 0 then v else mg M (i - 1))
noncomputable def oc_addTide (M : MS) (x y : Int32) : Int32 × (Int32 × MS) :=
  cI (¬ (isIx x 2880 ∧ -300 ≤ y ∧ y ≤ 900)) (1, 0, M) (cI (mn M 0 = 30 ∨ 0 < mn M 4 ∨ ∃ j, j < mn M 0 ∧ mt M 0 j = nt x) (2, 0, M) (0, nI (mn M 0 + 1), insT M (nt x) y))
section
variable {dc : Nat × Nat} {h : XH} {m : Nat} {ad : Nat → Nat} {F : Nat → Nat → Int32} {T : Int32} {M : MS} {Po : Int32 → XH → Prop}
theorem upd_s {f : Nat → Int32} {k : Nat} {v : Int32} : upd f k v k = v := if_pos rfl
theorem upd_o {f : Nat → Int32} {k i : Nat} {v : Int32} (h : i ≠ k) : upd f k v i = f i := if_neg h
end
