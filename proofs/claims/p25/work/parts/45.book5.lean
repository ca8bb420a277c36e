/-! PURE ROWS: the law's calls of the class that change something, first part -/
def same (M M' : MS) : Prop := mn M' 4 = mn M 4 ∧ ∀ c i, 7 ≤ c → mt M' c i = mt M c i
theorem lastS_c {M M' : MS} {s : Nat} : ∀ n, (∀ i, i < n → pS M' i = pS M i) → lastS M' s n = lastS M s n := by
  intro n
  induction n with
  | zero => intro _; rfl
  | succ n ih => intro h; rw [lastS_succ, lastS_succ, ih (fun i hi => h i (by omega)), h n (by omega)]
theorem lastP_c {M M' : MS} {s : Nat} : ∀ n, (∀ i, i < n → pP M' i = pP M i) → lastP M' s n = lastP M s n := by
  intro n
  induction n with
  | zero => intro _; rfl
  | succ n ih => intro h; rw [lastP_succ, lastP_succ, ih (fun i hi => h i (by omega)), h n (by omega)]
theorem buN_c {M M' : MS} {i : Nat} : ∀ n, (i < n → pS M' i = pS M i) → (∀ j, j < n → pS M' j = pS M j ∧ pO M' j = pO M j ∧ pB M' j = pB M j) → buN M' i n = buN M i n := by
  intro n
  induction n with
  | zero => intro _ _; rfl
  | succ n ih =>
    intro h1 h2
    rw [buN_succ, buN_succ, ih (fun q => h1 (by omega)) (fun j hj => h2 j (by omega))]
    obtain ⟨e1, e2, e3⟩ := h2 n (by omega)
    rw [e1, e2, e3]
    by_cases c : i < n
    · rw [h1 (by omega)]
    · rw [if_neg (fun z => c z.2.1), if_neg (fun z => c z.2.1)]
theorem uAt_c {M M' : MS} {t : Nat} : ∀ n, (∀ i, i < n → pB M' i = pB M i ∧ pO M' i = pO M i ∧ pT M' i = pT M i) → uAt M' t n = uAt M t n := by
  intro n
  induction n with
  | zero => intro _; rfl
  | succ n ih =>
    intro h
    obtain ⟨e1, e2, e3⟩ := h n (by omega)
    rw [uAt_succ, uAt_succ, ih (fun i hi => h i (by omega)), e1, e2, e3]
theorem same.S {M M' : MS} (q : same M M') (s n : Nat) : lastS M' s n = lastS M s n := lastS_c n (fun i _ => q.2 7 i (by decide))
theorem same.P {M M' : MS} (q : same M M') (s n : Nat) : lastP M' s n = lastP M s n := lastP_c n (fun i _ => q.2 9 i (by decide))
theorem same.bN {M M' : MS} (q : same M M') (i n : Nat) : buN M' i n = buN M i n := buN_c n (fun _ => q.2 7 i (by decide)) (fun j _ => ⟨q.2 7 j (by decide), q.2 12 j (by decide), q.2 8 j (by decide)⟩)
theorem same.U {M M' : MS} (q : same M M') (t n : Nat) : uAt M' t n = uAt M t n := uAt_c n (fun i _ => ⟨q.2 8 i (by decide), q.2 12 i (by decide), q.2 10 i (by decide)⟩)
theorem map_c {r : Option Nat} {f f' : Nat → Nat} (h : ∀ i, r = some i → f' i = f i) : r.map f' = r.map f := by
  cases r with
  | none => rfl
  | some i => show some (f' i) = some (f i); rw [h i rfl]
/-- an object that stays as it is -/
theorem obj_old {M M' : MS} {g g' : Nat → Nat → Nat} (hI : Inv M) (sm : same M M') (gg : ∀ k, 1 ≤ k → k ≤ 5 → ∀ i, i < cn M k → g' k i = g k i) (k : Nat) (h1 : 1 ≤ k) (h2 : k ≤ 5) (i : Nat) (hi : i < cn M k) (hd : ∀ c, (k = 1 ∧ (c = 1 ∨ c = 2)) ∨ (k = 2 ∧ (c = 3 ∨ c = 4)) ∨ (k = 3 ∧ (c = 5 ∨ c = 6)) → mt M' c i = mt M c i) : obj g' M' k i = obj g M k i := by
  have gm : ∀ r : Option Nat, (∀ j, r = some j → j < mn M 4) → r.map (g' 4) = r.map (g 4) := fun r hr => map_c (fun j hj => gg 4 (by decide) (by decide) j (hr j hj))
  rcases (show k = 1 ∨ k = 2 ∨ k = 3 ∨ k = 4 ∨ k = 5 by omega) with z | z | z | z | z
  · subst z
    show ((1, [_, .int (nI (mt M' 1 i)), .int (nI (mt M' 2 i))]) : Nat × List Value) = (1, [_, .int (nI (mt M 1 i)), .int (nI (mt M 2 i))])
    rw [hd 1 (Or.inl ⟨rfl, Or.inl rfl⟩), hd 2 (Or.inl ⟨rfl, Or.inr rfl⟩)]
  · subst z
    show ((5, [_, .int (nI (mt M' 3 i)), .int (nI (mt M' 4 i)), va_rf ((lastS M' i (mn M' 4)).map (g' 4))]) : Nat × List Value) = (5, [_, .int (nI (mt M 3 i)), .int (nI (mt M 4 i)), va_rf ((lastS M i (mn M 4)).map (g 4))])
    rw [hd 3 (Or.inr (Or.inl ⟨rfl, Or.inl rfl⟩)), hd 4 (Or.inr (Or.inl ⟨rfl, Or.inr rfl⟩)), sm.1, sm.S, gm _ (fun j hj => (lastS_spec.1 j hj).1)]
  · subst z
    show ((3, [_, .int (nI (mt M' 5 i)), .int (nI (mt M' 6 i)), va_rf ((lastP M' i (mn M' 4)).map (g' 4))]) : Nat × List Value) = (3, [_, .int (nI (mt M 5 i)), .int (nI (mt M 6 i)), va_rf ((lastP M i (mn M 4)).map (g 4))])
    rw [hd 5 (Or.inr (Or.inr ⟨rfl, Or.inl rfl⟩)), hd 6 (Or.inr (Or.inr ⟨rfl, Or.inr rfl⟩)), sm.1, sm.P, gm _ (fun j hj => (lastP_spec.1 j hj).1)]
  · subst z
    have hi : i < mn M 4 := hi
    have hp := hI.pas hi
    have e1 : bU M' i = bU M i := by
      unfold bU
      rw [sm.1, sm.bN, show pO M' i = pO M i from sm.2 12 i (by decide), show pB M' i = pB M i from sm.2 8 i (by decide)]
    show ((2, [.ref (g' 5 i), .int (nI (pQ M' i)), .int (nI (pB M' i)), .ref (g' 3 (pP M' i)), va_rf ((lastS M' (pS M' i) i).map (g' 4)), va_rf ((lastP M' (pP M' i) i).map (g' 4)), .int (nI (bU M' i))]) : Nat × List Value) = (2, [.ref (g 5 i), .int (nI (pQ M i)), .int (nI (pB M i)), .ref (g 3 (pP M i)), va_rf ((lastS M (pS M i) i).map (g 4)), va_rf ((lastP M (pP M i) i).map (g 4)), .int (nI (bU M i))])
    rw [show pQ M' i = pQ M i from sm.2 13 i (by decide), show pB M' i = pB M i from sm.2 8 i (by decide), show pP M' i = pP M i from sm.2 9 i (by decide), show pS M' i = pS M i from sm.2 7 i (by decide), sm.S, sm.P, e1, gg 5 (by decide) (by decide) i hi, gg 3 (by decide) (by decide) _ hp.2.2.1, gm _ (fun j hj => by have := (lastS_spec.1 j hj).1; omega), gm _ (fun j hj => by have := (lastP_spec.1 j hj).1; omega)]
  · subst z
    have hi : i < mn M 4 := hi
    have hp := hI.pas hi
    show ((4, [.ref (g' 2 (pS M' i)), .ref (g' 1 (pA M' i)), .int (nI (pO M' i)), .int (nI (pT M' i))]) : Nat × List Value) = (4, [.ref (g 2 (pS M i)), .ref (g 1 (pA M i)), .int (nI (pO M i)), .int (nI (pT M i))])
    rw [show pS M' i = pS M i from sm.2 7 i (by decide), show pA M' i = pA M i from sm.2 11 i (by decide), show pO M' i = pO M i from sm.2 12 i (by decide), show pT M' i = pT M i from sm.2 10 i (by decide), gg 2 (by decide) (by decide) _ hp.1, gg 1 (by decide) (by decide) _ hp.2.2.2.1]
def xi (e : XA) : Bool := match e with
  | .inr (c, _) => c == 0
  | .inl (t, _) => t == 1
theorem xi_obj (g : Nat → Nat → Nat) (M : MS) (k i : Nat) : xi (.inr (obj g M k i)) = false := by
  unfold obj
  split <;> rfl
theorem xi_M {e : XA} (h : xk e ≠ 0) : xi e = false := by
  unfold xk at h
  unfold xi
  split
  · rename_i c fs
    dsimp only at h
    by_cases q : c = 8
    · subst q; rfl
    · rw [if_neg q] at h; exact absurd rfl h
  · rename_i t b
    dsimp only at h
    by_cases q : t = 1
    · subst q; exact absurd rfl h
    · simp [q]
theorem lk_use {dc : Nat × Nat} {h h' : XH} {l r n : Nat} {e : Nat → Nat} (hL : isL dc h l r n e) (k : lkept dc h h' l r) {a : Nat} {e9 : XA} (ha : h a = some e9) (hc : xi e9 = false) : h' a = some e9 := by
  obtain ⟨⟨mc, h1⟩, h2⟩ := hL
  refine k a e9 ha (fun z => ?_) ?_
  · subst z; rw [h1] at ha; cases ha; exact absurd (show true = false from hc) (by decide)
  · rcases h2 with ⟨h3, -⟩ | ⟨h3, cap, f, h4, -⟩
    · by_cases z : a = r
      · exact Or.inr (z.trans h3)
      · exact Or.inl z
    · refine Or.inl (fun z => ?_)
      subst z; rw [h4] at ha; cases ha; exact absurd (show true = false from hc) (by decide)
section
variable {dc : Nat × Nat} {h h0 : XH} {x o : Nat} {g : Nat → Nat → Nat} {M : MS}
theorem isL_row {l r n : Nat} {e : Nat → Nat} (hD : h dc.1 = some xro) (hL : isL dc h l r n e) : ∃ b, h r = some (.inl (1, b)) := by
  obtain ⟨-, h2⟩ := hL
  rcases h2 with ⟨h3, -⟩ | ⟨h3, cap, f, h4, -⟩
  · exact ⟨_, by rw [h3]; exact hD⟩
  · exact ⟨_, h4⟩
theorem xElem_obj (hB : isB dc h x g M) (k : Nat) (h1 : 1 ≤ k) (h2 : k ≤ 4) {i : Nat} (hi : i < mn M k) : xElem h (g k i) := by
  rcases (show k = 1 ∨ k = 2 ∨ k = 3 ∨ k = 4 by omega) with z | z | z | z
  · subst z; exact ⟨1, _, _, hB.berth hi, rfl, by decide⟩
  · subst z; exact ⟨5, _, _, hB.ship hi, rfl, by decide⟩
  · subst z; exact ⟨3, _, _, hB.pilot hi, rfl, by decide⟩
  · subst z; exact ⟨2, _, _, hB.pas hi, rfl, by decide⟩
/-- the other lists, when one has changed -/
theorem others (hB : isB dc h x g M) {h' : XH} (j : Nat) (j1 : 1 ≤ j) (j2 : j ≤ 4) (k : lkept dc h h' (g 0 j) (g 0 (6 + j))) : ∀ i, 1 ≤ i → i ≤ 4 → i ≠ j → isL dc h' (g 0 i) (g 0 (6 + i)) (mn M i) (g i) := by
  intro i i1 i2 hij
  have hJ := hB.J i j i1 i2 j1 j2 hij
  have hLi := hB.L i i1 i2
  refine isL_kept (fun fs w => k _ _ w hJ.1 (Or.inl (fun z => ?_))) (fun c f hr w => k _ _ w (fun z => ?_) (Or.inl (fun z => hr (hJ.2 z)))) hLi
  · obtain ⟨b, hb⟩ := isL_row hB.D (hB.L j j1 j2)
    rw [z, hb] at w; cases w
  · obtain ⟨⟨mc, h1⟩, -⟩ := hB.L j j1 j2
    rw [z, h1] at w; cases w
theorem sb_addL {Po : Int32 → XH → Prop} (hB : isB dc h x g M) (hI : Inv M) (j : Nat) (j1 : 1 ≤ j) (j2 : j ≤ 4) (hn : mn M j < 40) (q : Nat) (hq : xElem h q) (hh : ∀ h' r', isL dc h' (g 0 j) r' (mn M j + 1) (fun i => if i = mn M j then q else g j i) → (∀ i, 1 ≤ i → i ≤ 4 → i ≠ j → isL dc h' (g 0 i) (g 0 (6 + i)) (mn M i) (g i)) → (∀ a e, h a = some e → xi e = false → h' a = some e) → h' dc.1 = some xro → (∀ i, 1 ≤ i → i ≤ 4 → i ≠ j → r' = g 0 (6 + i) → r' = dc.1) → Po 1 h') : w_Jx4a65c_add_9ea2d dc h (g 0 j) q Po := by
  have hL := hB.L j j1 j2
  refine sl_add hL hB.D hn q hq (fun i hi => xElem_obj hB j j1 j2 hi) (fun h' r' w1 w2 w3 => ?_)
  refine hh h' r' w1 (others hB j j1 j2 w2) (fun a e h1 h2 => lk_use hL w2 h1 h2) ?_ (fun i i1 i2 hij z => ?_)
  · refine w2 _ _ hB.D (fun z => ?_) (Or.inr rfl)
    obtain ⟨⟨mc, h1⟩, -⟩ := hL
    have := hB.D
    rw [z, h1] at this; cases this
  · rcases w3 with w3 | w3
    · rw [w3] at z ⊢
      exact (hB.J j i j1 j2 i1 i2 (fun y => hij y.symm)).2 z
    · obtain ⟨b, hb⟩ := isL_row hB.D (hB.L i i1 i2)
      rw [z, hb] at w3; cases w3
/-- the tide stays -/
theorem isT_k {h' : XH} {g' : Nat → Nat → Nat} {M' : MS} (hT : isT h g M) (k : ∀ a e, h a = some e → xi e = false → h' a = some e) (e0 : g' 0 0 = g 0 0) (e5 : g' 0 5 = g 0 5) (e6 : g' 0 6 = g 0 6) (en : mn M' 0 = mn M 0) (et : ∀ i, mt M' 0 i = mt M 0 i) (eg : ∀ i, mg M' i = mg M i) : isT h' g' M' := by
  obtain ⟨h1, h2, T0, T1, h3, h4, h5⟩ := hT
  refine ⟨by rw [e0, e5, e6, en]; exact k _ _ h1 rfl, by rw [e5, e6]; exact h2, T0, T1, by rw [e5]; exact k _ _ h3 rfl, by rw [e6]; exact k _ _ h4 rfl, fun i hi => ?_⟩
  rw [et, eg]; exact h5 i (by omega)
def gN (g : Nat → Nat → Nat) (j n q : Nat) : Nat → Nat → Nat := fun k i => if k = j ∧ i = n then q else g k i
theorem gN_s {g : Nat → Nat → Nat} {j n q : Nat} : gN g j n q j n = q := if_pos ⟨rfl, rfl⟩
theorem gN_o {g : Nat → Nat → Nat} {j n q k i : Nat} (c : k ≠ j ∨ i ≠ n) : gN g j n q k i = g k i := if_neg (fun z => c.elim (fun w => w z.1) (fun w => w z.2))
/-- a new object at the end of its list -/
theorem sb_addObj {Po : Int32 → XH → Prop} {M' : MS} (hB : isB dc h x g M) (hI : Inv M) (he : ext h h0) (j : Nat) (j1 : 1 ≤ j) (j2 : j ≤ 3) (hn : mn M j < 40) (q : Nat) (hq : h q = none) (sm : same M M') (em1 : mn M' j = mn M j + 1) (em : ∀ i, i ≠ j → mn M' i = mn M i) (et : ∀ c i, (i ≠ mn M j ∨ c = 0) → mt M' c i = mt M c i) (eg : ∀ i, mg M' i = mg M i) (hd : ∀ c i, (j ≠ 1 ∧ (c = 1 ∨ c = 2)) ∨ (j ≠ 2 ∧ (c = 3 ∨ c = 4)) ∨ (j ≠ 3 ∧ (c = 5 ∨ c = 6)) → mt M' c i = mt M c i)
    (hq2 : h0 q = some (.inr (obj (gN g j (mn M j) q) M' j (mn M j)))) (hx0 : xElem h0 q) (hh : ∀ h' g', isB dc h' x g' M' → kM h h' → (∀ f, h o = some (.inl (4, 1, .inr (.inl f))) → h' o = some (.inl (4, 1, .inr (.inl f)))) → Po 1 h') : w_Jx4a65c_add_9ea2d dc h0 (g 0 j) q Po := by
  have hB0 : isB dc h0 x g M := isB_kept (n := 1) (by decide) (ext_k he) hB
  refine sb_addL hB0 hI j j1 (by omega) hn q hx0 (fun h' r' w1 w2 w3 w4 w5 => ?_)
  have gq : ∀ k i, 1 ≤ k → k ≤ 5 → i < cn M k → g k i ≠ q := fun k i k1 k2 hi z => by
    have := hB.O k k1 k2 hi
    rw [z, hq] at this; cases this
  obtain ⟨G, hG⟩ : ∃ G, G = gN (gN g j (mn M j) q) 0 (6 + j) r' := ⟨_, rfl⟩
  have G0 : ∀ i, i ≠ 6 + j → G 0 i = g 0 i := fun i hi => by rw [hG, gN_o (Or.inr hi), gN_o (Or.inl (by omega))]
  have Gr : G 0 (6 + j) = r' := by rw [hG, gN_s]
  have Gq : G j (mn M j) = q := by rw [hG, gN_o (Or.inl (by omega)), gN_s]
  have Go : ∀ k i, 1 ≤ k → (k ≠ j ∨ i ≠ mn M j) → G k i = g k i := fun k i k1 c => by rw [hG, gN_o (Or.inl (by omega)), gN_o c]
  refine hh h' G ?_ (fun a e h1 h2 => w3 a e (he a e h1) (xi_M (by omega))) (fun f hf => w3 _ _ (he _ _ hf) rfl)
  have cj : cn M' j = mn M j + 1 := by
    unfold cn
    rw [if_neg (by omega), em1]
  have co : ∀ k, 1 ≤ k → k ≤ 5 → k ≠ j → cn M' k = cn M k := by
    intro k k1 k2 c
    unfold cn
    by_cases c5 : k = 5
    · rw [if_pos c5, if_pos c5, em 4 (by omega)]
    · rw [if_neg c5, if_neg c5, em k c]
  have cM : cn M j = mn M j := by unfold cn; rw [if_neg (by omega)]
  have gg : ∀ k, 1 ≤ k → k ≤ 5 → ∀ i, i < cn M k → G k i = g k i := by
    intro k k1 k2 i hi
    refine Go k i k1 ?_
    by_cases c : k = j
    · subst c; rw [cM] at hi; exact Or.inr (by omega)
    · exact Or.inl c
  refine ⟨?_, ?_, ?_, ?_, w4, ?_, ?_⟩
  · have := w3 _ _ hB0.1 rfl
    rw [this]
    unfold bfs
    rw [em 5 (by omega), em 6 (by omega), em 7 (by omega), G0 0 (by omega), G0 1 (by omega), G0 2 (by omega), G0 3 (by omega), G0 4 (by omega)]
  · exact isT_k hB0.T w3 (G0 0 (by omega)) (G0 5 (by omega)) (G0 6 (by omega)) (em 0 (by omega)) (fun i => et 0 i (Or.inr rfl)) eg
  · intro k k1 k2
    rw [G0 k (by omega)]
    by_cases c : k = j
    · subst c
      rw [Gr, em1]
      have : G k = (fun i => if i = mn M k then q else g k i) := by
        funext i
        by_cases z : i = mn M k
        · rw [if_pos z, z, Gq]
        · rw [if_neg z, Go k i k1 (Or.inr z)]
      rw [this]; exact w1
    · rw [G0 _ (by omega), em k c]
      have : G k = g k := by
        funext i
        exact Go k i k1 (Or.inl c)
      rw [this]; exact w2 k k1 k2 c
  · intro k k1 k2 i hi
    by_cases c : k = j ∧ i = mn M j
    · obtain ⟨c1, c2⟩ := c
      rw [c1, c2, Gq]
      have := w3 _ _ hq2 (xi_obj _ _ _ _)
      rw [this]
      congr 2
      have g4 : ∀ r : Option Nat, r.map (gN g j (mn M j) q 4) = r.map (G 4) := fun r => map_c (fun j9 _ => by rw [Go 4 j9 (by omega) (Or.inl (by omega)), gN_o (Or.inl (by omega))])
      rcases (show j = 1 ∨ j = 2 ∨ j = 3 by omega) with z | z | z
      · subst z; rfl
      · subst z
        show ((5, [.int (nI (mn M 2)), .int (nI (mt M' 3 (mn M 2))), .int (nI (mt M' 4 (mn M 2))), va_rf ((lastS M' (mn M 2) (mn M' 4)).map (gN g 2 (mn M 2) q 4))]) : Nat × List Value) = (5, [.int (nI (mn M 2)), .int (nI (mt M' 3 (mn M 2))), .int (nI (mt M' 4 (mn M 2))), va_rf ((lastS M' (mn M 2) (mn M' 4)).map (G 4))])
        rw [g4]
      · subst z
        show ((3, [.int (nI (mn M 3)), .int (nI (mt M' 5 (mn M 3))), .int (nI (mt M' 6 (mn M 3))), va_rf ((lastP M' (mn M 3) (mn M' 4)).map (gN g 3 (mn M 3) q 4))]) : Nat × List Value) = (3, [.int (nI (mn M 3)), .int (nI (mt M' 5 (mn M 3))), .int (nI (mt M' 6 (mn M 3))), va_rf ((lastP M' (mn M 3) (mn M' 4)).map (G 4))])
        rw [g4]
    · have hi2 : i < cn M k := by
        by_cases z : k = j
        · have : i ≠ mn M j := fun y => c ⟨z, y⟩
          rw [z, cj] at hi
          rw [z, cM]; omega
        · rw [co k k1 k2 z] at hi; exact hi
      rw [gg k k1 k2 i hi2, obj_old hI sm gg k k1 k2 i hi2 (fun c9 hc9 => ?_)]
      · exact w3 _ _ (hB0.O k k1 k2 hi2) (xi_obj _ _ _ _)
      · by_cases z : k = j
        · exact et c9 i (Or.inl (fun y => c ⟨z, y⟩))
        · exact hd c9 i (by omega)
  · intro i k i1 i2 k1 k2 hik
    rw [G0 i (by omega), G0 k (by omega)]
    have hJ := hB0.J i k i1 i2 k1 k2 hik
    refine ⟨hJ.1, ?_⟩
    by_cases c : i = j
    · subst c
      rw [Gr, G0 _ (by omega)]
      exact w5 k k1 k2 (fun z => hik z.symm)
    · by_cases d : k = j
      · subst d
        rw [Gr, G0 _ (by omega)]
        exact fun z => z.trans (w5 i i1 i2 hik z.symm)
      · rw [G0 _ (by omega), G0 _ (by omega)]; exact hJ.2
  · intro k k1 k2 i i' hi hi' z
    by_cases c : k = j
    · subst c
      rw [cj] at hi hi'
      by_cases d : i = mn M k
      · by_cases d' : i' = mn M k
        · exact d.trans d'.symm
        · rw [d, Gq, Go k i' k1 (Or.inr d')] at z
          exact absurd z.symm (gq k i' k1 k2 (by omega))
      · by_cases d' : i' = mn M k
        · rw [d', Gq, Go k i k1 (Or.inr d)] at z
          exact absurd z (gq k i k1 k2 (by omega))
        · rw [Go k i k1 (Or.inr d), Go k i' k1 (Or.inr d')] at z
          exact hB.I k k1 k2 i i' (by omega) (by omega) z
    · rw [co k k1 k2 c] at hi hi'
      rw [Go k i k1 (Or.inl c), Go k i' k1 (Or.inl c)] at z
      exact hB.I k k1 k2 i i' hi hi' z
end
