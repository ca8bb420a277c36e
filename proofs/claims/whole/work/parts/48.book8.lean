/-! PURE ROWS: the law's cancel -/
theorem buN_out {M : MS} (hI : Inv M) {i q n : Nat} (h1 : i < q) (h2 : q < n) (hn : n ≤ mn M 4) (hs : pS M q = pS M i) (ho : pO M q = 1) : buN M i n ≠ 2880 := by
  have e2 : buN M i (q + 1) ≠ 2880 := by
    rw [buN_succ]
    have hpj := hI.pas (i := q) (by omega)
    by_cases e0 : buN M i q = 2880
    · rw [if_pos ⟨e0, h1, hs, ho⟩]; omega
    · rw [if_neg (fun w => e0 w.1)]; exact e0
  rw [buN_keep e2 n (by omega)]; exact e2
/-- a stay that is not the last is over -/
theorem buN_closed {M : MS} (hI : Inv M) {n s k i : Nat} (hn : n ≤ mn M 4) (hl : lastS M s n = some k) (hi : i < n) (hs : pS M i = s) (ho : pO M i = 0) (hk : i ≠ k) : buN M i n ≠ 2880 := by
  obtain ⟨k1, k2, k3⟩ := lastS_spec.1 k hl
  have hik : i < k := by
    rcases Nat.lt_trichotomy i k with c | c | c
    · exact c
    · exact absurd c hk
    · exact absurd hs (k3 i c hi)
  by_cases o : pO M k = 1
  · exact buN_out hI hik k1 hn (k2.trans hs.symm) o
  · have hpk := hI.pas (i := k) (by omega)
    cases hj : lastS M (pS M k) k with
    | none => exact absurd (hs.trans k2.symm) ((lastS_spec.2 hj) i hik)
    | some j =>
      obtain ⟨j1, j2, j3⟩ := lastS_spec.1 j hj
      have ha := ((hI.alt (j := k) (by omega)).2 j hj).1
      have hij : i < j := by
        rcases Nat.lt_trichotomy i j with c | c | c
        · exact c
        · subst c; omega
        · exact absurd (hs.trans k2.symm) (j3 i c hik)
      exact buN_out hI hij (by omega) hn (j2.trans (k2.trans hs.symm)) (by omega)
section
variable {dc : Nat × Nat} {h h0 : XH} {x o : Nat} {g : Nat → Nat → Nat} {M : MS} {Po : Int32 → XH → Prop}
theorem isB.N (hB : isB dc h x g M) {k k' i i' : Nat} (h1 : 1 ≤ k) (h2 : k ≤ 5) (h1' : 1 ≤ k') (h2' : k' ≤ 5) (hi : i < cn M k) (hi' : i' < cn M k') (c : k ≠ k' ∨ i ≠ i') : g k i ≠ g k' i' := by
  intro z
  by_cases d : k = k'
  · subst d
    exact c.elim (fun w => w rfl) (fun w => w (hB.I k h1 h2 i i' hi hi' z))
  · have a1 := hB.O k h1 h2 hi
    have a2 := hB.O k' h1' h2' hi'
    rw [z, a2] at a1
    have q : (obj g M k' i').1 = (obj g M k i).1 := congrArg Prod.fst (Sum.inr.inj (Option.some.inj a1))
    rw [obj_ci g M k i h1 h2, obj_ci g M k' i' h1' h2'] at q
    rcases (show k = 1 ∨ k = 2 ∨ k = 3 ∨ k = 4 ∨ k = 5 by omega) with z | z | z | z | z <;> rcases (show k' = 1 ∨ k' = 2 ∨ k' = 3 ∨ k' = 4 ∨ k' = 5 by omega) with z' | z' | z' | z' | z' <;> subst z z' <;> first | exact d rfl | exact absurd q (by decide)
/-- what an object with a change at its end looks like: the ships' and pilots' latest passages, the passages' ends -/
def objV (g : Nat → Nat → Nat) (M : MS) (ls lp : Nat → Option Nat) (bu : Nat → Nat) (k i : Nat) : Nat × List Value := match k with
  | 1 => (1, [.int (nI i), .int (nI (mt M 1 i)), .int (nI (mt M 2 i))])
  | 2 => (5, [.int (nI i), .int (nI (mt M 3 i)), .int (nI (mt M 4 i)), va_rf (ls i)])
  | 3 => (3, [.int (nI i), .int (nI (mt M 5 i)), .int (nI (mt M 6 i)), va_rf (lp i)])
  | 4 => (2, [.ref (g 5 i), .int (nI (pQ M i)), .int (nI (pB M i)), .ref (g 3 (pP M i)), va_rf ((lastS M (pS M i) i).map (g 4)), va_rf ((lastP M (pP M i) i).map (g 4)), .int (nI (bu i))])
  | _ => (4, [.ref (g 2 (pS M i)), .ref (g 1 (pA M i)), .int (nI (pO M i)), .int (nI (pT M i))])
theorem objV_obj (g : Nat → Nat → Nat) (M : MS) (k i : Nat) : objV g M (fun i => (lastS M i (mn M 4)).map (g 4)) (fun i => (lastP M i (mn M 4)).map (g 4)) (bU M) k i = obj g M k i := by
  rcases k with _ | _ | _ | _ | _ | k <;> rfl
theorem xi_objV (g : Nat → Nat → Nat) (M : MS) (ls lp : Nat → Option Nat) (bu : Nat → Nat) (k i : Nat) : xi (.inr (objV g M ls lp bu k i)) = false := by
  unfold objV
  split <;> rfl
/-- the objects of a heap -/
def isV (h : XH) (g : Nat → Nat → Nat) (M : MS) (ls lp : Nat → Option Nat) (bu : Nat → Nat) : Prop := ∀ k, 1 ≤ k → k ≤ 5 → ∀ i, i < cn M k → h (g k i) = some (.inr (objV g M ls lp bu k i))
def isN (g : Nat → Nat → Nat) (M : MS) : Prop := ∀ k k' i i', 1 ≤ k → k ≤ 5 → 1 ≤ k' → k' ≤ 5 → i < cn M k → i' < cn M k' → (k ≠ k' ∨ i ≠ i') → g k i ≠ g k' i'
theorem isV_ship {ls lp : Nat → Option Nat} {bu : Nat → Nat} (hV : isV h g M ls lp bu) (hN : isN g M) (s : Nat) (hs : s < mn M 2) (r : Option Nat) {K : XH → Prop} (hh : ∀ h', isV h' g M (fun i => if i = s then r else ls i) lp bu → (∀ a e, h a = some e → a ≠ g 2 s → h' a = some e) → K h') : wP h (g 2 s) 5 3 (va_rf r) K := by
  refine wP_i (hV 2 (by decide) (by decide) s hs) (by decide : 3 < 4) (hh _ (fun k k1 k2 i hi => ?_) (fun a e q1 q2 => by rw [xup_o q2]; exact q1))
  by_cases c : k = 2 ∧ i = s
  · obtain ⟨c1, c2⟩ := c
    subst c1 c2
    rw [xup_s]
    show _ = some (Sum.inr (5, [Value.int (nI i), .int (nI (mt M 3 i)), .int (nI (mt M 4 i)), va_rf (if i = i then r else ls i)]))
    rw [if_pos rfl]; rfl
  · rw [xup_o (hN k 2 i s k1 k2 (by decide) (by decide) hi hs (by omega)), hV k k1 k2 i hi]
    rcases (show k = 1 ∨ k = 2 ∨ k = 3 ∨ k = 4 ∨ k = 5 by omega) with z | z | z | z | z
    · subst z; rfl
    · subst z
      show some (Sum.inr (5, [Value.int (nI i), .int (nI (mt M 3 i)), .int (nI (mt M 4 i)), va_rf (ls i)])) = some (Sum.inr (5, [Value.int (nI i), .int (nI (mt M 3 i)), .int (nI (mt M 4 i)), va_rf (if i = s then r else ls i)]))
      rw [if_neg (fun w => c ⟨rfl, w⟩)]
    · subst z; rfl
    · subst z; rfl
    · subst z; rfl
theorem isV_pilot {ls lp : Nat → Option Nat} {bu : Nat → Nat} (hV : isV h g M ls lp bu) (hN : isN g M) (s : Nat) (hs : s < mn M 3) (r : Option Nat) {K : XH → Prop} (hh : ∀ h', isV h' g M ls (fun i => if i = s then r else lp i) bu → (∀ a e, h a = some e → a ≠ g 3 s → h' a = some e) → K h') : wP h (g 3 s) 3 3 (va_rf r) K := by
  refine wP_i (hV 3 (by decide) (by decide) s hs) (by decide : 3 < 4) (hh _ (fun k k1 k2 i hi => ?_) (fun a e q1 q2 => by rw [xup_o q2]; exact q1))
  by_cases c : k = 3 ∧ i = s
  · obtain ⟨c1, c2⟩ := c
    subst c1 c2
    rw [xup_s]
    show _ = some (Sum.inr (3, [Value.int (nI i), .int (nI (mt M 5 i)), .int (nI (mt M 6 i)), va_rf (if i = i then r else lp i)]))
    rw [if_pos rfl]; rfl
  · rw [xup_o (hN k 3 i s k1 k2 (by decide) (by decide) hi hs (by omega)), hV k k1 k2 i hi]
    rcases (show k = 1 ∨ k = 2 ∨ k = 3 ∨ k = 4 ∨ k = 5 by omega) with z | z | z | z | z
    · subst z; rfl
    · subst z; rfl
    · subst z
      show some (Sum.inr (3, [Value.int (nI i), .int (nI (mt M 5 i)), .int (nI (mt M 6 i)), va_rf (lp i)])) = some (Sum.inr (3, [Value.int (nI i), .int (nI (mt M 5 i)), .int (nI (mt M 6 i)), va_rf (if i = s then r else lp i)]))
      rw [if_neg (fun w => c ⟨rfl, w⟩)]
    · subst z; rfl
    · subst z; rfl
theorem isV_pas {ls lp : Nat → Option Nat} {bu : Nat → Nat} (hV : isV h g M ls lp bu) (hN : isN g M) (s : Nat) (hs : s < mn M 4) (u : Nat) {y : Int32} (hy : y = nI u) {K : XH → Prop} (hh : ∀ h', isV h' g M ls lp (fun i => if i = s then u else bu i) → (∀ a e, h a = some e → a ≠ g 4 s → h' a = some e) → K h') : wP h (g 4 s) 2 6 (.int y) K := by
  subst hy
  refine wP_i (hV 4 (by decide) (by decide) s hs) (by decide : 6 < 7) (hh _ (fun k k1 k2 i hi => ?_) (fun a e q1 q2 => by rw [xup_o q2]; exact q1))
  by_cases c : k = 4 ∧ i = s
  · obtain ⟨c1, c2⟩ := c
    subst c1 c2
    rw [xup_s]
    show _ = some (Sum.inr (2, [Value.ref (g 5 i), .int (nI (pQ M i)), .int (nI (pB M i)), .ref (g 3 (pP M i)), va_rf ((lastS M (pS M i) i).map (g 4)), va_rf ((lastP M (pP M i) i).map (g 4)), .int (nI (if i = i then u else bu i))]))
    rw [if_pos rfl]; rfl
  · rw [xup_o (hN k 4 i s k1 k2 (by decide) (by decide) hi hs (by omega)), hV k k1 k2 i hi]
    rcases (show k = 1 ∨ k = 2 ∨ k = 3 ∨ k = 4 ∨ k = 5 by omega) with z | z | z | z | z
    · subst z; rfl
    · subst z; rfl
    · subst z; rfl
    · subst z
      show some (Sum.inr (2, [Value.ref (g 5 i), .int (nI (pQ M i)), .int (nI (pB M i)), .ref (g 3 (pP M i)), va_rf ((lastS M (pS M i) i).map (g 4)), va_rf ((lastP M (pP M i) i).map (g 4)), .int (nI (bu i))])) = some (Sum.inr (2, [Value.ref (g 5 i), .int (nI (pQ M i)), .int (nI (pB M i)), .ref (g 3 (pP M i)), va_rf ((lastS M (pS M i) i).map (g 4)), va_rf ((lastP M (pP M i) i).map (g 4)), .int (nI (if i = s then u else bu i))]))
      rw [if_neg (fun w => c ⟨rfl, w⟩)]
    · subst z; rfl
/-- what is no ship, no pilot, no passage stays -/
def vkept (h h' : XH) : Prop := ∀ a e, h a = some e → (∀ fs, e ≠ .inr (5, fs)) → (∀ fs, e ≠ .inr (3, fs)) → (∀ fs, e ≠ .inr (2, fs)) → h' a = some e
theorem vkept_t {h h' h'' : XH} (p : vkept h h') (q : vkept h' h'') : vkept h h'' := fun a e z z0 z5 z6 => q a e (p a e z z0 z5 z6) z0 z5 z6
theorem lb_cancel (hB : isB dc h x g M) (hI : Inv M) (ho : isO h o) (hh : ∀ h' g', isB dc h' x g' (oc_cancel M).2.2 → kM h h' → outv h' o (oc_cancel M).1 (oc_cancel M).2.1 → Po (oc_cancel M).1 h') : w_L_cancel dc h x o Po := by
  have hc := hI.c
  unfold oc_cancel at hh
  refine wO_i hB.1 (sb_size hB 4 (by decide) (by decide) ?_)
  by_cases c : mn M 4 = 0
  · rw [cI_t c] at hh
    refine wIf_f (by rw [c]; decide) ⟨rfl, lb_er hB ho kM_r (by decide) hh⟩
  rw [cI_f c] at hh
  obtain ⟨n, hn⟩ : ∃ n, mn M 4 = n + 1 := ⟨mn M 4 - 1, by omega⟩
  have em : nI (mn M 4) - 1 = nI n := by rw [hn]; exact nI_m1 n
  rw [hn, Nat.add_sub_cancel] at hh
  rw [em]
  have hnl : n < mn M 4 := by omega
  have hp := hI.pas hnl
  refine wIf_t ((n_le (a := 0) (by decide) (by omega)).mpr (Nat.zero_le _)) (sb_lst hB 4 (by decide) (by decide) (sb_remL hB hI n hn rfl (fun h1 w1 w2 w3 w4 => wDer_i ?_)))
  have hV1 : isV h1 g M (fun i => (lastS M i (mn M 4)).map (g 4)) (fun i => (lastP M i (mn M 4)).map (g 4)) (bU M) := fun k k1 k2 i hi => by
    rw [objV_obj]; exact w3 _ _ (hB.O k k1 k2 hi) (xi_obj _ _ _ _)
  have hN : isN g M := fun k k' i i' a1 a2 a3 a4 a5 a6 a7 => hB.N a1 a2 a3 a4 a5 a6 a7
  have P1 := hV1 4 (by decide) (by decide) n hnl
  have R1 := hV1 5 (by decide) (by decide) n hnl
  refine wO_i P1 (wR_i P1 rfl (wR_i R1 rfl (wQ_i _ P1 rfl ?_)))
  refine isV_ship hV1 hN (pS M n) hp.1 _ (fun h2 hV2 k2 => ?_)
  have P2 := hV2 4 (by decide) (by decide) n hnl
  refine wR_i P2 rfl (wQ_i _ P2 rfl ?_)
  refine isV_pilot hV2 hN (pP M n) hp.2.2.1 _ (fun h3 hV3 k3 => ?_)
  have P3 := hV3 4 (by decide) (by decide) n hnl
  have R3 := hV3 5 (by decide) (by decide) n hnl
  have vk3 : vkept h1 h3 := by
    intro a e q0 q1 q2 q3
    refine k3 _ _ (k2 _ _ q0 (fun z => ?_)) (fun z => ?_)
    · rw [z, hV1 2 (by decide) (by decide) _ hp.1] at q0; cases q0; exact q1 _ rfl
    · rw [z, hV1 3 (by decide) (by decide) _ hp.2.2.1] at q0; cases q0; exact q2 _ rfl
  refine wR_i P3 rfl (wI_i R3 rfl ?_)
  -- the last look
  have fin : ∀ h4 bu, isV h4 g M (fun i => if i = pS M n then (lastS M (pS M n) n).map (g 4) else (lastS M i (mn M 4)).map (g 4)) (fun i => if i = pP M n then (lastP M (pP M n) n).map (g 4) else (lastP M i (mn M 4)).map (g 4)) bu → vkept h1 h4 → (∀ i, i < n → bu i = bU (sN M 4 n) i) → w_X6_cancel_90 dc h4 (g 2 (pS M n)) (fun r3 h4 => wSL h4 o 0 r3.toInt64 (fun h6 => Po 0 h6)) (fun E h9 => (E = "java/lang/IllegalStateException" ∧ Po 1 h9)) := by
    intro h4 bu hV4 vk hbu
    refine wI_i (hV4 2 (by decide) (by decide) _ hp.1) rfl ?_
    have vs : ∀ a e, h a = some e → xi e = false → (∀ fs, e ≠ .inr (5, fs)) → (∀ fs, e ≠ .inr (3, fs)) → (∀ fs, e ≠ .inr (2, fs)) → h4 a = some e := fun a e q0 q1 q2 q3 q4 => vk a e (w3 a e q0 q1) q2 q3 q4
    have cM : ∀ k, 1 ≤ k → k ≤ 5 → ∀ i, i < cn (sN M 4 n) k → i < cn M k := by
      intro k k1 k2 i hi
      unfold cn at hi ⊢
      by_cases c5 : k = 5
      · rw [if_pos c5] at hi ⊢
        have : i < n := hi
        omega
      · rw [if_neg c5] at hi ⊢
        have hi : i < (if k = 4 then n else mn M k) := hi
        by_cases c4 : k = 4
        · rw [if_pos c4] at hi; subst c4; omega
        · rw [if_neg c4] at hi; exact hi
    have lS : ∀ s k, lastS (sN M 4 n) s k = lastS M s k := fun s k => lastS_c k (fun i _ => rfl)
    have lP : ∀ s k, lastP (sN M 4 n) s k = lastP M s k := fun s k => lastP_c k (fun i _ => rfl)
    refine lb_fin (g1 := g) (M' := sN M 4 n) ho hh ?_ (fun a e q1 q2 => vs a e q1 (xi_M (by omega)) (fun fs z => by subst z; exact absurd (show (0 : Nat) = 1 from q2) (by decide)) (fun fs z => by subst z; exact absurd (show (0 : Nat) = 1 from q2) (by decide)) (fun fs z => by subst z; exact absurd (show (0 : Nat) = 1 from q2) (by decide))) (fun f hf => vs _ _ hf rfl (fun fs z => by cases z) (fun fs z => by cases z) (fun fs z => by cases z))
    obtain ⟨t1, t2, T0, T1, t3, t4, t5⟩ := hB.T
    refine ⟨vs _ _ hB.1 rfl (fun fs z => by cases z) (fun fs z => by cases z) (fun fs z => by cases z), ⟨vs _ _ t1 rfl (fun fs z => by cases z) (fun fs z => by cases z) (fun fs z => by cases z), t2, T0, T1, vs _ _ t3 rfl (fun fs z => by cases z) (fun fs z => by cases z) (fun fs z => by cases z), vs _ _ t4 rfl (fun fs z => by cases z) (fun fs z => by cases z) (fun fs z => by cases z), t5⟩, fun k k1 k2 => ?_, fun k k1 k2 i hi => ?_, vk _ _ w4 (fun fs z => by cases z) (fun fs z => by cases z) (fun fs z => by cases z), hB.J, fun k k1 k2 i j hi hj => hB.I k k1 k2 i j (cM k k1 k2 i hi) (cM k k1 k2 j hj)⟩
    · by_cases c4 : k = 4
      · subst c4
        exact isL_kept (fun fs w => vk _ _ w (fun fs z => by cases z) (fun fs z => by cases z) (fun fs z => by cases z)) (fun c f _ w => vk _ _ w (fun fs z => by cases z) (fun fs z => by cases z) (fun fs z => by cases z)) w1
      · rw [show mn (sN M 4 n) k = mn M k from if_neg c4]
        exact isL_kept (fun fs w => vk _ _ w (fun fs z => by cases z) (fun fs z => by cases z) (fun fs z => by cases z)) (fun c f _ w => vk _ _ w (fun fs z => by cases z) (fun fs z => by cases z) (fun fs z => by cases z)) (w2 k k1 k2 c4)
    · rw [hV4 k k1 k2 i (cM k k1 k2 i hi)]
      congr 2
      rcases (show k = 1 ∨ k = 2 ∨ k = 3 ∨ k = 4 ∨ k = 5 by omega) with z | z | z | z | z
      · subst z; rfl
      · subst z
        show ((5, [Value.int (nI i), .int (nI (mt M 3 i)), .int (nI (mt M 4 i)), va_rf (if i = pS M n then (lastS M (pS M n) n).map (g 4) else (lastS M i (mn M 4)).map (g 4))]) : Nat × List Value) = (5, [Value.int (nI i), .int (nI (mt M 3 i)), .int (nI (mt M 4 i)), va_rf ((lastS (sN M 4 n) i n).map (g 4))])
        rw [lS, hn, lastS_succ]
        by_cases d : i = pS M n
        · rw [if_pos d, d]
        · rw [if_neg d, if_neg (fun w => d w.symm)]
      · subst z
        show ((3, [Value.int (nI i), .int (nI (mt M 5 i)), .int (nI (mt M 6 i)), va_rf (if i = pP M n then (lastP M (pP M n) n).map (g 4) else (lastP M i (mn M 4)).map (g 4))]) : Nat × List Value) = (3, [Value.int (nI i), .int (nI (mt M 5 i)), .int (nI (mt M 6 i)), va_rf ((lastP (sN M 4 n) i n).map (g 4))])
        rw [lP, hn, lastP_succ]
        by_cases d : i = pP M n
        · rw [if_pos d, d]
        · rw [if_neg d, if_neg (fun w => d w.symm)]
      · subst z
        have hi : i < n := hi
        show ((2, [Value.ref (g 5 i), .int (nI (pQ M i)), .int (nI (pB M i)), .ref (g 3 (pP M i)), va_rf ((lastS M (pS M i) i).map (g 4)), va_rf ((lastP M (pP M i) i).map (g 4)), .int (nI (bu i))]) : Nat × List Value) = (2, [Value.ref (g 5 i), .int (nI (pQ M i)), .int (nI (pB M i)), .ref (g 3 (pP M i)), va_rf ((lastS (sN M 4 n) (pS M i) i).map (g 4)), va_rf ((lastP (sN M 4 n) (pP M i) i).map (g 4)), .int (nI (bU (sN M 4 n) i))])
        rw [lS, lP, hbu i hi]
      · subst z; rfl
  have bs : ∀ i k, buN (sN M 4 n) i k = buN M i k := fun i k => buN_c k (fun _ => rfl) (fun j _ => ⟨rfl, rfl, rfl⟩)
  have bsn : ∀ i, bU (sN M 4 n) i = if pO M i = 1 then pB M i else buN M i n := fun i => by
    show (if pO M i = 1 then pB M i else buN (sN M 4 n) i n) = _
    rw [bs]
  refine wIf_d (pO M n = 0) (nI_eq (a := pO M n) (b := 0) (by omega) (by decide)) (fun d => ?_) (fun d => ?_)
  · refine fin h3 _ hV3 vk3 (fun i hi => ?_)
    rw [bsn]
    unfold bU
    rw [hn, buN_succ, if_neg (show ¬ (buN M i n = 2880 ∧ i < n ∧ pS M n = pS M i ∧ pO M n = 1) from fun w => by omega)]
  · have o1 : pO M n = 1 := by omega
    obtain ⟨k, k1, k2o⟩ := (alt_next hI hnl).mp o1
    obtain ⟨k3', k4, k5⟩ := lastS_spec.1 k k1
    have hkl : k < mn M 4 := by omega
    have P3' := P3
    unfold objV at P3'
    dsimp only at P3'
    rw [k1] at P3'
    refine wQ_i (some (g 4 k)) P3' rfl (wOpt_s (wQ_i (some (g 4 k)) P3' rfl (wDer_i ?_)))
    refine isV_pas hV3 hN k hkl 2880 rfl (fun h4 hV4 k4' => ?_)
    refine fin h4 _ hV4 (fun a e q0 q1 q2 q3 => k4' _ _ (vk3 a e q0 q1 q2 q3) (fun z => ?_)) (fun i hi => ?_)
    · have := vk3 a e q0 q1 q2 q3
      rw [z, hV3 4 (by decide) (by decide) k hkl] at this; cases this; exact q3 _ rfl
    · rw [bsn]
      by_cases c9 : i = k
      · subst c9
        rw [if_pos rfl, if_neg (by omega)]
        exact (buN_0 n (fun j j1 j2 => by rw [k4]; exact k5 j j1 j2)).symm
      · rw [if_neg c9]
        unfold bU
        by_cases oi : pO M i = 1
        · rw [if_pos oi, if_pos oi]
        · rw [if_neg oi, if_neg oi, hn, buN_succ, if_neg]
          rintro ⟨z1, z2, z3, z4⟩
          have hpi := hI.pas (i := i) (by omega)
          exact buN_closed hI (by omega) k1 hi z3.symm (by omega) c9 z1
end
