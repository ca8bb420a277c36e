/-! PURE ROWS: the law's cancel -/
theorem buN_out {M : MS} (hI : Inv M) {i q n : Nat} (h1 : i < q) (h2 : q < n) (hn : n ≤ mn M 4) (hs : pS M q = pS M i) (ho : pO M q = 1) : buN M i n ≠ 2880 := by
  have e2 : buN M i (q + 1) ≠ 2880 := by
    rw [buN_succ]
    have hpj := hI.pas (i := q) (by omega)
    by_cases e0 : buN M i q = 2880
    · rw [if_pos ⟨e0, h1, hs, ho⟩]; omega
    · rw [if_neg (fun w => e0 w.1)]; exact e0
  rw [buN_keep e2 n (by omega)]; exact e2
/-- a stay that is not the last is over -/
theorem buN_closed {M : MS} (hI : Inv M) {n s k i : Nat} (hn : n ≤ mn M 4) (hl : lastS M s n = some k) (hi : i < n) (hs : pS M i = s) (ho : pO M i = 0) (hk : i ≠ k) : buN M i n ≠ 2880 := by
  obtain ⟨k1, k2, k3⟩ := lastS_spec.1 k hl
  have hik : i < k := by
    rcases Nat.lt_trichotomy i k with c | c | c
    · exact c
    · exact absurd c hk
    · exact absurd hs (k3 i c hi)
  by_cases o : pO M k = 1
  · exact buN_out hI hik k1 hn (k2.trans hs.symm) o
  · have hpk := hI.pas (i := k) (by omega)
    cases hj : lastS M (pS M k) k with
    | none => exact absurd (hs.trans k2.symm) ((lastS_spec.2 hj) i hik)
    | some j =>
      obtain ⟨j1, j2, j3⟩ := lastS_spec.1 j hj
      have ha := ((hI.alt (j := k) (by omega)).2 j hj).1
      have hij : i < j := by
        rcases Nat.lt_trichotomy i j with c | c | c
        · exact c
        · subst c; omega
        · exact absurd (hs.trans k2.symm) (j3 i c hik)
      exact buN_out hI hij (by omega) hn (j2.trans (k2.trans hs.symm)) (by omega)
section
variable {dc : Nat × Nat} {h h0 : XH} {x o : Nat} {g : Nat → Nat → Nat} {M : MS} {Po : Int32 → XH → Prop}
theorem isB.N (hB : isB dc h x g M) {k k' i i' : Nat} (h1 : 1 ≤ k) (h2 : k ≤ 5) (h1' : 1 ≤ k') (h2' : k' ≤ 5) (hi : i < cn M k) (hi' : i' < cn M k') (c : k ≠ k' ∨ i ≠ i') : g k i ≠ g k' i' := by
  intro z
  by_cases d : k = k'
  · subst d
    exact c.elim (fun w => w rfl) (fun w => w (hB.I k h1 h2 i i' hi hi' z))
  · have a1 := hB.O k h1 h2 hi
    have a2 := hB.O k' h1' h2' hi'
    rw [z, a2] at a1
    have q : (obj g M k' i').1 = (obj g M k i).1 := congrArg Prod.fst (Sum.inr.inj (Option.some.inj a1))
    rw [obj_ci g M k i h1 h2, obj_ci g M k' i' h1' h2'] at q
    rcases (show k = 1 ∨ k = 2 ∨ k = 3 ∨ k = 4 ∨ k = 5 by omega) with z | z | z | z | z <;> rcases (show k' = 1 ∨ k' = 2 ∨ k' = 3 ∨ k' = 4 ∨ k' = 5 by omega) with z' | z' | z' | z' | z' <;> subst z z' <;> first | exact d rfl | exact absurd q (by decide)
/-- what an object with a change at its end looks like: the ships' and pilots' latest passages, the passages' ends -/
def objV (g : Nat → Nat → Nat) (M : MS) (ls lp : Nat → Option Nat) (bu : Nat → Nat) (k i : Nat) : Nat × List Value := match k with
  | 1 => (1, [.int (nI i), .int (nI (mt M 1 i)), .int (nI (mt M 2 i))])
  | 2 => (5, [.int (nI i), .int (nI (mt M 3 i)), .int (nI (mt M 4 i)), va_rf (ls i)])
  | 3 => (3, [.int (nI i), .int (nI (mt M 5 i)), .int (nI (mt M 6 i)), va_rf (lp i)])
  | 4 => (2, [.ref (g 5 i), .int (nI (pQ M i)), .int (nI (pB M i)), .ref (g 3 (pP M i)), va_rf ((lastS M (pS M i) i).map (g 4)), va_rf ((lastP M (pP M i) i).map (g 4)), .int (nI (bu i))])
  | _ => (4, [.ref (g 2 (pS M i)), .ref (g 1 (pA M i)), .int (nI (pO M i)), .int (nI (pT M i))])
theorem objV_obj (g : Nat → Nat → Nat) (M : MS) (k i : Nat) : objV g M (fun i => (lastS M i (mn M 4)).map (g 4)) (fun i => (lastP M i (mn M 4)).map (g 4)) (bU M) k i = obj g M k i := by
  rcases k with _ | _ | _ | _ | _ | k <;> rfl
/-- the objects of a heap -/
def isV (h : XH) (g : Nat → Nat → Nat) (M : MS) (ls lp : Nat → Option Nat) (bu : Nat → Nat) : Prop := ∀ k, 1 ≤ k → k ≤ 5 → ∀ i, i < cn M k → h (g k i) = some (.inr (objV g M ls lp bu k i))
def isN (g : Nat → Nat → Nat) (M : MS) : Prop := ∀ k k' i i', 1 ≤ k → k ≤ 5 → 1 ≤ k' → k' ≤ 5 → i < cn M k → i' < cn M k' → (k ≠ k' ∨ i ≠ i') → g k i ≠ g k' i'
theorem isV_ship {ls lp : Nat → Option Nat} {bu : Nat → Nat} (hV : isV h g M ls lp bu) (hN : isN g M) (s : Nat) (hs : s < mn M 2) (r : Option Nat) {K : XH → Prop} (hh : ∀ h', isV h' g M (fun i => if i = s then r else ls i) lp bu → (∀ a e, h a = some e → a ≠ g 2 s → h' a = some e) → K h') : wP h (g 2 s) 5 3 (va_rf r) K := by
  refine wP_i (hV 2 (by decide) (by decide) s hs) (by decide : 3 < 4) (hh _ (fun k k1 k2 i hi => ?_) (fun a e q1 q2 => by rw [xup_o q2]; exact q1))
  by_cases c : k = 2 ∧ i = s
  · obtain ⟨c1, c2⟩ := c
    subst c1 c2
    rw [xup_s]
    show _ = some (Sum.inr (5, [Value.int (nI i), .int (nI (mt M 3 i)), .int (nI (mt M 4 i)), va_rf (if i = i then r else ls i)]))
    rw [if_pos rfl]; rfl
  · rw [xup_o (hN k 2 i s k1 k2 (by decide) (by decide) hi hs (by omega)), hV k k1 k2 i hi]
    rcases (show k = 1 ∨ k = 2 ∨ k = 3 ∨ k = 4 ∨ k = 5 by omega) with z | z | z | z | z
    · subst z; rfl
    · subst z
      show some (Sum.inr (5, [Value.int (nI i), .int (nI (mt M 3 i)), .int (nI (mt M 4 i)), va_rf (ls i)])) = some (Sum.inr (5, [Value.int (nI i), .int (nI (mt M 3 i)), .int (nI (mt M 4 i)), va_rf (if i = s then r else ls i)]))
      rw [if_neg (fun w => c ⟨rfl, w⟩)]
    · subst z; rfl
    · subst z; rfl
    · subst z; rfl
theorem isV_pilot {ls lp : Nat → Option Nat} {bu : Nat → Nat} (hV : isV h g M ls lp bu) (hN : isN g M) (s : Nat) (hs : s < mn M 3) (r : Option Nat) {K : XH → Prop} (hh : ∀ h', isV h' g M ls (fun i => if i = s then r else lp i) bu → (∀ a e, h a = some e → a ≠ g 3 s → h' a = some e) → K h') : wP h (g 3 s) 3 3 (va_rf r) K := by
  refine wP_i (hV 3 (by decide) (by decide) s hs) (by decide : 3 < 4) (hh _ (fun k k1 k2 i hi => ?_) (fun a e q1 q2 => by rw [xup_o q2]; exact q1))
  by_cases c : k = 3 ∧ i = s
  · obtain ⟨c1, c2⟩ := c
    subst c1 c2
    rw [xup_s]
    show _ = some (Sum.inr (3, [Value.int (nI i), .int (nI (mt M 5 i)), .int (nI (mt M 6 i)), va_rf (if i = i then r else lp i)]))
    rw [if_pos rfl]; rfl
  · rw [xup_o (hN k 3 i s k1 k2 (by decide) (by decide) hi hs (by omega)), hV k k1 k2 i hi]
    rcases (show k = 1 ∨ k = 2 ∨ k = 3 ∨ k = 4 ∨ k = 5 by omega) with z | z | z | z | z
    · subst z; rfl
    · subst z; rfl
    · subst z
      show some (Sum.inr (3, [Value.int (nI i), .int (nI (mt M 5 i)), .int (nI (mt M 6 i)), va_rf (lp i)])) = some (Sum.inr (3, [Value.int (nI i), .int (nI (mt M 5 i)), .int (nI (mt M 6 i)), va_rf (if i = s then r else lp i)]))
      rw [if_neg (fun w => c ⟨rfl, w⟩)]
    · subst z; rfl
    · subst z; rfl
theorem isV_pas {ls lp : Nat → Option Nat} {bu : Nat → Nat} (hV : isV h g M ls lp bu) (hN : isN g M) (s : Nat) (hs : s < mn M 4) (u : Nat) {y : Int32} (hy : y = nI u) {K : XH → Prop} (hh : ∀ h', isV h' g M ls lp (fun i => if i = s then u else bu i) → (∀ a e, h a = some e → a ≠ g 4 s → h' a = some e) → K h') : wP h (g 4 s) 2 6 (.int y) K := by
  subst hy
  refine wP_i (hV 4 (by decide) (by decide) s hs) (by decide : 6 < 7) (hh _ (fun k k1 k2 i hi => ?_) (fun a e q1 q2 => by rw [xup_o q2]; exact q1))
  by_cases c : k = 4 ∧ i = s
  · obtain ⟨c1, c2⟩ := c
    subst c1 c2
    rw [xup_s]
    show _ = some (Sum.inr (2, [Value.ref (g 5 i), .int (nI (pQ M i)), .int (nI (pB M i)), .ref (g 3 (pP M i)), va_rf ((lastS M (pS M i) i).map (g 4)), va_rf ((lastP M (pP M i) i).map (g 4)), .int (nI (if i = i then u else bu i))]))
    rw [if_pos rfl]; rfl
  · rw [xup_o (hN k 4 i s k1 k2 (by decide) (by decide) hi hs (by omega)), hV k k1 k2 i hi]
    rcases (show k = 1 ∨ k = 2 ∨ k = 3 ∨ k = 4 ∨ k = 5 by omega) with z | z | z | z | z
    · subst z; rfl
    · subst z; rfl
    · subst z; rfl
    · subst z
      show some (Sum.inr (2, [Value.ref (g 5 i), .int (nI (pQ M i)), .int (nI (pB M i)), .ref (g 3 (pP M i)), va_rf ((lastS M (pS M i) i).map (g 4)), va_rf ((lastP M (pP M i) i).map (g 4)), .int (nI (bu i))])) = some (Sum.inr (2, [Value.ref (g 5 i), .int (nI (pQ M i)), .int (nI (pB M i)), .ref (g 3 (pP M i)), va_rf ((lastS M (pS M i) i).map (g 4)), va_rf ((lastP M (pP M i) i).map (g 4)), .int (nI (if i = s then u else bu i))]))
      rw [if_neg (fun w => c ⟨rfl, w⟩)]
    · subst z; rfl
/-- what is no ship, no pilot, no passage stays -/
def vkept (h h' : XH) : Prop := ∀ a e, h a = some e → (∀ fs, e ≠ .inr (5, fs)) → (∀ fs, e ≠ .inr (3, fs)) → (∀ fs, e ≠ .inr (2, fs)) → h' a = some e
end
