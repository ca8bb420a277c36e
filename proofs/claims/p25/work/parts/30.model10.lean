/-! PURE ROWS: the reference's operations, fourth part: book, delay, digest, a new object -/
noncomputable def bkC (M : MS) (s : Nat) (w : Nat × Nat) (t z c : Nat) : Nat :=
  if c = 7 then s else if c = 8 then t else if c = 9 then (bestP M (mt M 3 s) (w.1 = 1) t (mn M 3)).getD 0 else if c = 10 then tugsFor (mt M 3 s) else if c = 11 then w.2 else if c = 12 then w.1 else z
noncomputable def bookM (M : MS) (s : Nat) (w : Nat × Nat) (t z : Nat) : MS := (fun j => if j = 4 then mn M 4 + 1 else mn M j, (fun c i => if 7 ≤ c ∧ i = mn M 4 then bkC M s w t z c else mt M c i), M.2.2)
noncomputable def bkR (M : MS) (s z : Nat) (rt : Option Nat) (rw_ : Option (Nat × Nat)) : Int32 × (Int32 × MS) := match rt, rw_ with
  | some t, some w => cI (mn M 4 = 40) (3, 0, M) (0, nI (mn M 4), bookM M s w t z)
  | _, _ => (3, 0, M)
noncomputable def oc_book (M : MS) (x y z : Int32) : Int32 × (Int32 × MS) := cI (¬ (isIx x (mn M 2) ∧ (y = -1 ∨ isIx y (mn M 1)))) (1, 0, M) (cI (¬ isIx z 2880) (2, 0, M) (bkR M (nt x) (nt z) (fst (beg M (nt x) (yO y)) (nt z) 2820) (way M (nt x) (yO y))))
def M0 : MS := (fun k => match k with
  | 5 => 1000
  | 6 => 50
  | 7 => 4
  | _ => 0, fun _ _ => 0, fun _ => 0)
section
variable {dc : Nat × Nat} {h : XH} {m : Nat} {ad : Nat → Nat} {F : Nat → Nat → Int32} {T : Int32} {M : MS} {Po : Int32 → XH → Prop}
end
