/-! PURE ROWS: the law's calls of the class that change something, second part -/
theorem obj_ci (g : Nat → Nat → Nat) (M : MS) (k i : Nat) (h1 : 1 ≤ k) (h2 : k ≤ 5) : (obj g M k i).1 = (if k = 1 then 1 else if k = 2 then 5 else if k = 3 then 3 else if k = 4 then 2 else 4) := by
  rcases (show k = 1 ∨ k = 2 ∨ k = 3 ∨ k = 4 ∨ k = 5 by omega) with z | z | z | z | z <;> subst z <;> rfl
section
variable {dc : Nat × Nat} {h h0 : XH} {x o : Nat} {g : Nat → Nat → Nat} {M : MS} {Po : Int32 → XH → Prop}
/-- the class's own fields change -/
theorem isB_x {h' : XH} {M' : MS} (hB : isB dc h x g M) (hI : Inv M) (h1 : h' x = some (.inr (7, bfs g M'))) (hk : ∀ a e, h a = some e → a ≠ x → h' a = some e) (e2 : M'.2 = M.2) (en : ∀ i, i ≤ 4 → mn M' i = mn M i) : isB dc h' x g M' := by
  have sm : same M M' := ⟨en 4 (by decide), fun c i _ => by show M'.2.1 c i = M.2.1 c i; rw [e2]⟩
  have cc : ∀ k, k ≤ 5 → cn M' k = cn M k := by
    intro k hk
    unfold cn
    by_cases c : k = 5
    · rw [if_pos c, if_pos c, en 4 (by decide)]
    · rw [if_neg c, if_neg c, en k (by omega)]
  have ne : ∀ a e, h a = some e → (∀ fs, e ≠ .inr (7, fs)) → h' a = some e := fun a e ha he => hk a e ha (fun z => by
    rw [z, hB.1] at ha; cases ha; exact he _ rfl)
  obtain ⟨t1, t2, T0, T1, t3, t4, t5⟩ := hB.T
  refine ⟨h1, ⟨by rw [en 0 (by decide)]; exact ne _ _ t1 (fun fs z => by cases z), t2, T0, T1, ne _ _ t3 (fun fs z => by cases z), ne _ _ t4 (fun fs z => by cases z), fun i hi => ?_⟩, fun k k1 k2 => ?_, fun k k1 k2 i hi => ?_, ne _ _ hB.D (fun fs z => by cases z), hB.J, fun k k1 k2 i j hi hj => ?_⟩
  · have := t5 i (by rw [← en 0 (by decide)]; exact hi)
    show T0 i = nI (M'.2.1 0 i) ∧ T1 i = M'.2.2 i
    rw [e2]; exact this
  · rw [en k k2]
    exact isL_kept (fun fs w => ne _ _ w (fun fs z => by cases z)) (fun c f _ w => ne _ _ w (fun fs z => by cases z)) (hB.L k k1 k2)
  · rw [cc k k2] at hi
    rw [obj_old hI sm (fun _ _ _ _ _ => rfl) k k1 k2 i hi (fun c _ => by show M'.2.1 c i = M.2.1 c i; rw [e2])]
    refine ne _ _ (hB.O k k1 k2 hi) (fun fs z => ?_)
    have := obj_ci g M k i k1 k2
    have q2 : (obj g M k i).1 = 7 := congrArg Prod.fst (Sum.inr.inj z)
    rw [q2] at this
    split at this <;> (try split at this) <;> (try split at this) <;> (try split at this) <;> omega
  · rw [cc k k2] at hi hj
    exact hB.I k k1 k2 i j hi hj
/-- none of the passages is of the new ship, of the new pilot -/
theorem lastS_none {M : MS} (hI : Inv M) {s : Nat} (hs : mn M 2 ≤ s) : lastS M s (mn M 4) = none := by
  cases hl : lastS M s (mn M 4) with
  | none => rfl
  | some i =>
    obtain ⟨h1, h2, -⟩ := lastS_spec.1 i hl
    have := hI.pas h1
    omega
theorem lastP_none {M : MS} (hI : Inv M) {s : Nat} (hs : mn M 3 ≤ s) : lastP M s (mn M 4) = none := by
  cases hl : lastP M s (mn M 4) with
  | none => rfl
  | some i =>
    obtain ⟨h1, h2, -⟩ := lastP_spec.1 i hl
    have := hI.pas h1
    omega
end
