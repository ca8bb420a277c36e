/-! PURE ROWS: the reference's readers, fourth part -/
/-- at least so much: what a passage of ship s at t wants, where at is its berth, out: outbound -/
def canB (M : MS) (s at_ o t : Nat) : Prop :=
  t + 60 ≤ 2879 ∧ (o = 1 → wtr M s (mt M 2 at_) t ∧ wtr M s (mn M 5) (t + 60)) ∧ (¬ o = 1 → wtr M s (mn M 5) t ∧ wtr M s (mt M 2 at_) (t + 60)) ∧
  (¬ o = 1 → mt M 3 s ≤ mt M 1 at_ ∧ bFree M s at_ t) ∧ apart M o t ∧ bestP M (mt M 3 s) (o = 1) t (mn M 3) ≠ none ∧ tugOk M (tugsFor (mt M 3 s)) (tFrom o t)
section
variable {dc : Nat × Nat} {h : XH} {m : Nat} {ad : Nat → Nat} {F : Nat → Nat → Int32} {T : Int32} {M : MS} {Po : Int32 → Prop}
theorem bestP_succ_f {M : MS} {len : Nat} {out : Prop} {t n : Nat} (c : ¬ ready M n len out t) : bestP M len out t (n + 1) = bestP M len out t n := if_neg c
theorem bestP_succ_t {M : MS} {len : Nat} {out : Prop} {t n : Nat} (c : ready M n len out t) : bestP M len out t (n + 1) = pick M n (bestP M len out t n) := if_pos c
end
