/-! PURE ROWS: what is kept; outcomes; the reference's operations, first part -/
noncomputable def cI {α : Type} (c : Prop) (a b : α) : α := @ite α c (Classical.propDecidable c) a b
theorem cI_t {α : Type} {c : Prop} {a b : α} (h : c) : cI c a b = a := if_pos h
theorem cI_f {α : Type} {c : Prop} {a b : α} (h : ¬ c) : cI c a b = b := if_neg h
/-- whose cell: 1 the reference's, 2 the out row, 0 the class's -/
def xk (e : XA) : Nat := match e with
  | .inr (c, _) => if c = 8 then 1 else 0
  | .inl (t, _) => if t = 2 ∨ t = 3 ∨ t = 4 then 1 else 0
def kept (n : Nat) (h h' : XH) : Prop := ∀ a e, h a = some e → xk e ≠ n → h' a = some e
theorem kept_n {n : Nat} {h : XH} {a : Nat} {e : XA} (q : h a = none) : kept n h (xup h a e) := by
  intro b e1 h1 h2
  unfold xup
  by_cases c : b = a
  · subst c; rw [q] at h1; cases h1
  · rw [if_neg c]; exact h1
theorem xup_s {h : XH} {a : Nat} {e : XA} : xup h a e a = some e := if_pos rfl
theorem xup_o {h : XH} {a b : Nat} {e : XA} (c : b ≠ a) : xup h a e b = h b := if_neg c
def sN (M : MS) (k v : Nat) : MS := (fun j => if j = k then v else mn M j, M.2)
def sT (M : MS) (a i v : Nat) : MS := (M.1, fun b j => if b = a ∧ j = i then v else mt M b j, M.2.2)
abbrev nt (x : Int32) : Nat := x.toNatClampNeg
def inR (x : Int32) (a b : Nat) : Prop := ∃ j, a ≤ j ∧ j ≤ b ∧ x = nI j
theorem inR_iff {x : Int32} {a b : Nat} (hb : b < 2 ^ 30) (hab : a ≤ b) : (nI a ≤ x ∧ x ≤ nI b) ↔ inR x a b := by
  constructor
  · intro ⟨h1, h2⟩
    rcases pk_ix x (n := b + 1) (by omega) with q | q | q
    · exfalso
      rw [Int32.lt_iff_toInt_lt] at q
      rw [Int32.le_iff_toInt_le, nI_toInt (by omega)] at h1
      have h0 : (0 : Int32).toInt = 0 := rfl
      omega
    · exfalso
      rw [Int32.le_iff_toInt_le, nI_toInt (by omega)] at q
      rw [Int32.le_iff_toInt_le, nI_toInt (by omega)] at h2
      omega
    · obtain ⟨j, hj, rfl⟩ := q
      exact ⟨j, (n_le (by omega) (by omega)).mp h1, by omega, rfl⟩
  · rintro ⟨j, h1, h2, rfl⟩
    exact ⟨(n_le (by omega) (by omega)).mpr h1, (n_le (by omega) (by omega)).mpr h2⟩
theorem nt_nI {j : Nat} (h : j < 2 ^ 31) : nt (nI j) = j := nI_clamp h
section
variable {dc : Nat × Nat} {h : XH} {m : Nat} {ad : Nat → Nat} {F : Nat → Nat → Int32} {T : Int32} {M : MS} {Po : Int32 → XH → Prop}
end
