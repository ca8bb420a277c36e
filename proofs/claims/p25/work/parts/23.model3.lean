/-! PURE ROWS: the reference's readers, third part: pilots, berths, passages that can begin -/
/-- tugs enough for n of them in each minute from f on, ahead of f + 40 -/
def tugOk (M : MS) (w f : Nat) : Prop := w = 0 ∨ ∀ k, f ≤ k → k < f + 40 → uAt M k (mn M 4) + w ≤ mn M 7
/-- the side where a pilot is behind all its passages among the first n -/
def port (M : MS) (p n : Nat) : Prop := match lastP M p n with
  | none => mt M 6 p = 1
  | some i => pO M i = 0
def pEnd (M : MS) (p n : Nat) : Int32 := match lastP M p n with
  | none => -1
  | some i => nI (pB M i + 60)
/-- a pilot can take a passage at t of a ship of this length -/
def ready (M : MS) (p len : Nat) (out : Prop) (t : Nat) : Prop := len ≤ mt M 5 p ∧ match lastP M p (mn M 4) with
  | none => (port M p (mn M 4) ↔ out) ∨ 60 ≤ t
  | some i => (((port M p (mn M 4) ↔ out) → pB M i + 90 ≤ t) ∧ (¬ (port M p (mn M 4) ↔ out) → pB M i + 150 ≤ t))
def pick (M : MS) (n : Nat) (r : Option Nat) : Option Nat := match r with
  | none => some n
  | some b => if pEnd M n (mn M 4) < pEnd M b (mn M 4) then some n else some b
noncomputable def bestP (M : MS) (len : Nat) (out : Prop) (t : Nat) : Nat → Option Nat
  | 0 => none
  | n + 1 => @ite _ (ready M n len out t) (Classical.propDecidable _) (pick M n (bestP M len out t n)) (bestP M len out t n)
theorem bestP_lt {M : MS} {len : Nat} {out : Prop} {t : Nat} : ∀ n i, bestP M len out t n = some i → i < n := by
  intro n
  induction n with
  | zero => intro i h; cases h
  | succ n ih =>
    intro i h
    unfold bestP at h
    by_cases c : ready M n len out t
    · rw [if_pos c] at h
      cases hb : bestP M len out t n with
      | none => rw [hb] at h; cases h; exact Nat.lt_succ_self _
      | some b =>
        rw [hb] at h
        unfold pick at h
        dsimp only at h
        split at h
        · cases h; exact Nat.lt_succ_self _
        · cases h; have := ih _ hb; omega
    · rw [if_neg c] at h; have := ih i h; omega
/-- no other ship has the berth at t or later -/
def bFree (M : MS) (s b t : Nat) : Prop := ∀ p, p < mn M 4 → pO M p = 0 → pA M p = b → pS M p ≠ s → buN M p (mn M 4) ≤ t
def gapOk (M : MS) (o t p : Nat) : Prop := (if pO M p = o then 20 else 60) ≤ (if pB M p ≤ t then t - pB M p else pB M p - t)
def apart (M : MS) (o t : Nat) : Prop := ∀ p, p < mn M 4 → gapOk M o t p
section
variable {dc : Nat × Nat} {h : XH} {m : Nat} {ad : Nat → Nat} {F : Nat → Nat → Int32} {T : Int32} {M : MS} {Po : Int32 → Prop}
theorem bI_eq {c d : Prop} : bI c = bI d ↔ (c ↔ d) := by
  constructor
  · intro q
    constructor
    · intro hc; rw [bI_t hc] at q; exact bI_1.mp q.symm
    · intro hd; rw [bI_t hd] at q; exact bI_1.mp q
  · exact bI_c
end
