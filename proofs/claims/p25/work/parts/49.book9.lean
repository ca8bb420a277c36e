/-! PURE ROWS: the law's book -/
theorem bk_o {M : MS} {s : Nat} {w : Nat × Nat} {t z c i : Nat} (h : c < 7 ∨ i ≠ mn M 4) : mt (bookM M s w t z) c i = mt M c i := if_neg (fun q => h.elim (fun u => by omega) (fun u => u q.2))
theorem bk_n {M : MS} {s : Nat} {w : Nat × Nat} {t z c : Nat} (h : 7 ≤ c) : mt (bookM M s w t z) c (mn M 4) = bkC M s w t z c := if_pos ⟨h, rfl⟩
theorem bk_m {M : MS} {s : Nat} {w : Nat × Nat} {t z k : Nat} (h : k ≠ 4) : mn (bookM M s w t z) k = mn M k := if_neg h
theorem bk_lS {M : MS} {s : Nat} {w : Nat × Nat} {t z i : Nat} : ∀ k, k ≤ mn M 4 → lastS (bookM M s w t z) i k = lastS M i k := fun k hk => lastS_c k (fun j hj => bk_o (Or.inr (by omega)))
theorem bk_lP {M : MS} {s : Nat} {w : Nat × Nat} {t z i : Nat} : ∀ k, k ≤ mn M 4 → lastP (bookM M s w t z) i k = lastP M i k := fun k hk => lastP_c k (fun j hj => bk_o (Or.inr (by omega)))
theorem bk_bN {M : MS} {s : Nat} {w : Nat × Nat} {t z i : Nat} : ∀ k, k ≤ mn M 4 → buN (bookM M s w t z) i k = buN M i k := fun k hk => buN_c k (fun hi => bk_o (Or.inr (by omega))) (fun j hj => ⟨bk_o (Or.inr (by omega)), bk_o (Or.inr (by omega)), bk_o (Or.inr (by omega))⟩)
theorem bk_S {M : MS} {s : Nat} {w : Nat × Nat} {t z : Nat} : pS (bookM M s w t z) (mn M 4) = s := bk_n (by decide)
theorem bk_B {M : MS} {s : Nat} {w : Nat × Nat} {t z : Nat} : pB (bookM M s w t z) (mn M 4) = t := bk_n (by decide)
theorem bk_P {M : MS} {s : Nat} {w : Nat × Nat} {t z p : Nat} (hp : bestP M (mt M 3 s) (w.1 = 1) t (mn M 3) = some p) : pP (bookM M s w t z) (mn M 4) = p := (bk_n (by decide)).trans (by show (bestP M (mt M 3 s) (w.1 = 1) t (mn M 3)).getD 0 = p; rw [hp]; rfl)
theorem bk_T {M : MS} {s : Nat} {w : Nat × Nat} {t z : Nat} : pT (bookM M s w t z) (mn M 4) = tugsFor (mt M 3 s) := bk_n (by decide)
theorem bk_A {M : MS} {s : Nat} {w : Nat × Nat} {t z : Nat} : pA (bookM M s w t z) (mn M 4) = w.2 := bk_n (by decide)
theorem bk_O {M : MS} {s : Nat} {w : Nat × Nat} {t z : Nat} : pO (bookM M s w t z) (mn M 4) = w.1 := bk_n (by decide)
theorem bk_Q {M : MS} {s : Nat} {w : Nat × Nat} {t z : Nat} : pQ (bookM M s w t z) (mn M 4) = z := bk_n (by decide)
theorem bk_bU {M : MS} {s : Nat} {w : Nat × Nat} {t z i : Nat} (hi : i < mn M 4) : bU (bookM M s w t z) i = if pO M i = 1 then pB M i else if buN M i (mn M 4) = 2880 ∧ s = pS M i ∧ w.1 = 1 then t + 60 else buN M i (mn M 4) := by
  show (if pO (bookM M s w t z) i = 1 then pB (bookM M s w t z) i else buN (bookM M s w t z) i (mn M 4 + 1)) = _
  rw [show pO (bookM M s w t z) i = pO M i from bk_o (Or.inr (by omega)), show pB (bookM M s w t z) i = pB M i from bk_o (Or.inr (by omega)), buN_succ, bk_bN _ (Nat.le_refl _), bk_S, bk_O, bk_B, show pS (bookM M s w t z) i = pS M i from bk_o (Or.inr (by omega))]
  by_cases c : pO M i = 1
  · rw [if_pos c, if_pos c]
  · rw [if_neg c, if_neg c]
    by_cases d : buN M i (mn M 4) = 2880 ∧ s = pS M i ∧ w.1 = 1
    · rw [if_pos d, if_pos ⟨d.1, hi, d.2⟩]
    · rw [if_neg d, if_neg (fun q => d ⟨q.1, q.2.2⟩)]
theorem bk_bUn {M : MS} (hI : Inv M) {s : Nat} {w : Nat × Nat} {t z : Nat} (hw : w.1 ≤ 1) : bU (bookM M s w t z) (mn M 4) = if w.1 = 0 then 2880 else t := by
  show (if pO (bookM M s w t z) (mn M 4) = 1 then pB (bookM M s w t z) (mn M 4) else buN (bookM M s w t z) (mn M 4) (mn M 4 + 1)) = _
  rw [bk_O, bk_B]
  by_cases c : w.1 = 1
  · rw [if_pos c, if_neg (by omega)]
  · rw [if_neg c, if_pos (by omega), buN_succ, if_neg (fun q => absurd q.2.1 (Nat.lt_irrefl _)), bk_bN _ (Nat.le_refl _)]
    have : ∀ n k, n ≤ k → buN M k n = 2880 := by
      intro n
      induction n with
      | zero => intro k _; rfl
      | succ n ih => intro k hk; rw [buN_succ, if_neg (fun q => by omega), ih k (by omega)]
    exact this _ _ (Nat.le_refl _)
section
variable {dc : Nat × Nat} {h h0 : XH} {x o : Nat} {g : Nat → Nat → Nat} {M : MS} {Po : Int32 → XH → Prop}
theorem sb_pasInit {Po : XH → Prop} (hB : isB dc h x g M) (hI : Inv M) (s b oo q p w z t : Nat) (hW : isW h g M w s b oo) (hs : s < mn M 2) (hp : p < mn M 3) (ho : oo ≤ 1) (hq : h q = none) {y1 y2 : Int32} (hy1 : y1 = nI z) (hy2 : y2 = nI t) (hh : ∀ h', h' q = some (.inr (2, [.ref w, .int (nI z), .int (nI t), .ref (g 3 p), va_rf ((lastS M s (mn M 4)).map (g 4)), va_rf ((lastP M p (mn M 4)).map (g 4)), .int (nI (if oo = 0 then 2880 else t))])) → ext h h' → Po h') : w_X1_init dc (xup h q (.inr (2, [.null, .int 0, .int 0, .null, .null, .null, .int 0]))) q w y1 y2 (g 3 p) Po := by
  subst hy1 hy2
  have n1 : w ≠ q := fun z => by rw [isW, z, hq] at hW; cases hW
  have n2 : g 2 s ≠ q := fun z => by have := hB.ship hs; rw [z, hq] at this; cases this
  have n3 : g 3 p ≠ q := fun z => by have := hB.pilot hp; rw [z, hq] at this; cases this
  refine wP_i xup_s (by decide : 0 < 7) (wP_i xup_s (by decide : 1 < 7) (wP_i xup_s (by decide : 2 < 7) (wP_i xup_s (by decide : 3 < 7) ?_)))
  refine wR_i (v := g 2 s) (by rw [xup_o n1, xup_o n1, xup_o n1, xup_o n1, xup_o n1]; exact hW) rfl ?_
  refine wQ_i _ (by rw [xup_o n2, xup_o n2, xup_o n2, xup_o n2, xup_o n2]; exact hB.ship hs) rfl ?_
  refine wP_i xup_s (by decide : 4 < 7) ?_
  refine wQ_i _ (by rw [xup_o n3, xup_o n3, xup_o n3, xup_o n3, xup_o n3, xup_o n3]; exact hB.pilot hp) rfl ?_
  refine wP_i xup_s (by decide : 5 < 7) ?_
  refine wI_i (v := nI oo) (by rw [xup_o n1, xup_o n1, xup_o n1, xup_o n1, xup_o n1, xup_o n1, xup_o n1]; exact hW) rfl ?_
  refine wIf_d (oo = 0) (nI_eq (b := 0) (by omega) (by decide)) (fun c => ?_) (fun c => ?_)
  · rw [if_pos c] at hh
    exact wP_i xup_s (by decide : 6 < 7) (hh _ xup_s (ext_u2 hq (ext_u2 hq (ext_u2 hq (ext_u2 hq (ext_u2 hq (ext_u2 hq (ext_u2 hq (ext_u hq)))))))))
  · rw [if_neg c] at hh
    exact wP_i xup_s (by decide : 6 < 7) (hh _ xup_s (ext_u2 hq (ext_u2 hq (ext_u2 hq (ext_u2 hq (ext_u2 hq (ext_u2 hq (ext_u2 hq (ext_u hq)))))))))
theorem sb_enter {Po : XH → Prop} (hB : isB dc h x g M) (hI : Inv M) (s q p w z t : Nat) (wy : Nat × Nat) (hn : mn M 4 < 40) (hs : s < mn M 2) (hp : p < mn M 3) (hb : wy.2 < mn M 1) (hwy : wy.1 ≤ 1) (hbest : bestP M (mt M 3 s) (wy.1 = 1) t (mn M 3) = some p)
    (hway : wy.1 = 1 → ∃ i, lastS M s (mn M 4) = some i ∧ pO M i = 0) (ht2 : t ≤ 2819) (hW : isW h g M w s wy.2 wy.1) (hq : h q = some (.inr (2, [.ref w, .int (nI z), .int (nI t), .ref (g 3 p), va_rf ((lastS M s (mn M 4)).map (g 4)), va_rf ((lastP M p (mn M 4)).map (g 4)), .int (nI (if wy.1 = 0 then 2880 else t))])))
    (nq : ∀ k i, 1 ≤ k → k ≤ 5 → i < cn M k → g k i ≠ q) (nw : ∀ k i, 1 ≤ k → k ≤ 5 → i < cn M k → g k i ≠ w)
    (hh : ∀ h' g', isB dc h' x g' (bookM M s wy t z) → (∀ a e, h a = some e → xi e = false → (∀ fs, e ≠ .inr (5, fs)) → (∀ fs, e ≠ .inr (3, fs)) → (∀ fs, e ≠ .inr (2, fs)) → h' a = some e) → Po h') : w_X6_enter dc h x q Po := by
  have hc := hI.c
  refine sb_lst hB 4 (by decide) (by decide) (sb_addL hB hI 4 (by decide) (by decide) hn q ⟨2, _, _, hq, rfl, by decide⟩ (fun h3 r' w1 w2 w3 w4 w5 => ?_))
  have hV3 : isV h3 g M (fun i => (lastS M i (mn M 4)).map (g 4)) (fun i => (lastP M i (mn M 4)).map (g 4)) (bU M) := fun k k1 k2 i hi => by
    rw [objV_obj]; exact w3 _ _ (hB.O k k1 k2 hi) (xi_obj _ _ _ _)
  have hN : isN g M := fun k k' i i' a1 a2 a3 a4 a5 a6 a7 => hB.N a1 a2 a3 a4 a5 a6 a7
  have P3 := w3 _ _ hq rfl
  have W3 := w3 _ _ hW rfl
  have n2 := nq 2 s (by decide) (by decide) hs
  have n3 := nq 3 p (by decide) (by decide) hp
  have m2 := nw 2 s (by decide) (by decide) hs
  have m3 := nw 3 p (by decide) (by decide) hp
  have h37 : ∀ h4 bu, isV h4 g M (fun i => (lastS M i (mn M 4)).map (g 4)) (fun i => (lastP M i (mn M 4)).map (g 4)) bu → h4 q = h3 q → h4 w = h3 w → vkept h3 h4 → (∀ i, i < mn M 4 → bu i = bU (bookM M s wy t z) i) → w_X6_enter_37 dc h4 q Po := by
    intro h4 bu hV4 e4q e4w vk hbu
    rw [P3] at e4q
    rw [W3] at e4w
    refine wR_i e4q rfl (wR_i e4w rfl ?_)
    refine isV_ship hV4 hN s hs (some q) (fun h5 hV5 k5 => ?_)
    have P5 := k5 _ _ e4q (fun z => n2 z.symm)
    have W5 := k5 _ _ e4w (fun z => m2 z.symm)
    refine wR_i P5 rfl ?_
    refine isV_pilot hV5 hN p hp (some q) (fun h6 hV6 k6 => ?_)
    have P6 := k6 _ _ P5 (fun z => n3 z.symm)
    have W6 := k6 _ _ W5 (fun z => m3 z.symm)
    have vk6 : vkept h3 h6 := by
      intro a e q0 q1 q2 q3
      refine k6 _ _ (k5 _ _ (vk _ _ q0 q1 q2 q3) (fun z => ?_)) (fun z => ?_)
      · have := vk _ _ q0 q1 q2 q3
        rw [z, hV4 2 (by decide) (by decide) s hs] at this; cases this; exact q1 _ rfl
      · have := k5 _ _ (vk _ _ q0 q1 q2 q3) (fun z => by
          have := vk _ _ q0 q1 q2 q3
          rw [z, hV4 2 (by decide) (by decide) s hs] at this; cases this; exact q1 _ rfl)
        rw [z, hV5 3 (by decide) (by decide) p hp] at this; cases this; exact q2 _ rfl
    obtain ⟨G, hG⟩ : ∃ G, G = gN (gN (gN g 4 (mn M 4) q) 5 (mn M 4) w) 0 10 r' := ⟨_, rfl⟩
    have G0 : ∀ i, i ≠ 10 → G 0 i = g 0 i := fun i hi => by rw [hG, gN_o (Or.inr hi), gN_o (Or.inl (by omega)), gN_o (Or.inl (by omega))]
    have Gr : G 0 10 = r' := by rw [hG, gN_s]
    have G4 : G 4 (mn M 4) = q := by rw [hG, gN_o (Or.inl (by omega)), gN_o (Or.inl (by omega)), gN_s]
    have G5 : G 5 (mn M 4) = w := by rw [hG, gN_o (Or.inl (by omega)), gN_s]
    have Go : ∀ k i, 1 ≤ k → (k ≤ 3 ∨ i ≠ mn M 4) → G k i = g k i := fun k i k1 c => by rw [hG, gN_o (Or.inl (by omega)), gN_o (by omega), gN_o (by omega)]
    have g4 : ∀ r : Option Nat, (∀ i, r = some i → i < mn M 4) → r.map (G 4) = r.map (g 4) := fun r hr => map_c (fun i hi => Go 4 i (by decide) (Or.inr (by have := hr i hi; omega)))
    have vs : ∀ a e, h a = some e → xi e = false → (∀ fs, e ≠ .inr (5, fs)) → (∀ fs, e ≠ .inr (3, fs)) → (∀ fs, e ≠ .inr (2, fs)) → h6 a = some e := fun a e q0 q1 q2 q3 q4 => vk6 a e (w3 a e q0 q1) q2 q3 q4
    refine hh h6 G ?_ vs
    have cM : ∀ k, 1 ≤ k → k ≤ 5 → ∀ i, i < cn (bookM M s wy t z) k → i < cn M k ∨ ((k = 4 ∨ k = 5) ∧ i = mn M 4) := by
      intro k k1 k2 i hi
      unfold cn at hi ⊢
      by_cases c5 : k = 5
      · rw [if_pos c5] at hi ⊢
        have : i < mn M 4 + 1 := hi
        omega
      · rw [if_neg c5] at hi ⊢
        by_cases c4 : k = 4
        · subst c4
          have : i < mn M 4 + 1 := hi
          omega
        · rw [bk_m c4] at hi; exact Or.inl hi
    obtain ⟨t1, t2, T0, T1, t3, t4, t5⟩ := hB.T
    have gk : ∀ k i, 1 ≤ k → k ≤ 5 → i < cn M k → G k i = g k i := fun k i k1 k2 hi => Go k i k1 (by
      unfold cn at hi
      by_cases c5 : k = 5
      · rw [if_pos c5] at hi; exact Or.inr (by omega)
      · rw [if_neg c5] at hi
        by_cases c4 : k = 4
        · subst c4; exact Or.inr (by omega)
        · exact Or.inl (by omega))
    refine ⟨?_, ?_, fun k k1 k2 => ?_, fun k k1 k2 i hi => ?_, vk6 _ _ w4 (fun fs z => by cases z) (fun fs z => by cases z) (fun fs z => by cases z), ?_, ?_⟩
    · rw [vs _ _ hB.1 rfl (fun fs z => by cases z) (fun fs z => by cases z) (fun fs z => by cases z)]
      unfold bfs
      rw [G0 0 (by decide), G0 1 (by decide), G0 2 (by decide), G0 3 (by decide), G0 4 (by decide), bk_m (by decide), bk_m (by decide), bk_m (by decide)]
    · refine ⟨?_, ?_, T0, T1, ?_, ?_, fun i hi => ?_⟩
      · rw [G0 0 (by decide), G0 5 (by decide), G0 6 (by decide), bk_m (by decide)]
        exact vs _ _ t1 rfl (fun fs z => by cases z) (fun fs z => by cases z) (fun fs z => by cases z)
      · rw [G0 5 (by decide), G0 6 (by decide)]; exact t2
      · rw [G0 5 (by decide)]
        exact vs _ _ t3 rfl (fun fs z => by cases z) (fun fs z => by cases z) (fun fs z => by cases z)
      · rw [G0 6 (by decide)]
        exact vs _ _ t4 rfl (fun fs z => by cases z) (fun fs z => by cases z) (fun fs z => by cases z)
      · rw [bk_m (by decide)] at hi
        rw [bk_o (Or.inl (by decide))]; exact t5 i hi
    · by_cases c4 : k = 4
      · subst c4
        rw [G0 4 (by decide), Gr]
        have : G 4 = (fun i => if i = mn M 4 then q else g 4 i) := by
          funext i
          by_cases y : i = mn M 4
          · rw [if_pos y, y, G4]
          · rw [if_neg y, Go 4 i (by decide) (Or.inr y)]
        rw [this]
        exact isL_kept (fun fs w => vk6 _ _ w (fun fs z => by cases z) (fun fs z => by cases z) (fun fs z => by cases z)) (fun c f _ w => vk6 _ _ w (fun fs z => by cases z) (fun fs z => by cases z) (fun fs z => by cases z)) w1
      · rw [G0 k (by omega), G0 (6 + k) (by omega), bk_m c4]
        have : G k = g k := by
          funext i
          exact Go k i k1 (Or.inl (by omega))
        rw [this]
        exact isL_kept (fun fs w => vk6 _ _ w (fun fs z => by cases z) (fun fs z => by cases z) (fun fs z => by cases z)) (fun c f _ w => vk6 _ _ w (fun fs z => by cases z) (fun fs z => by cases z) (fun fs z => by cases z)) (w2 k k1 k2 c4)
    · rcases cM k k1 k2 i hi with hi2 | ⟨hk9, hi2⟩
      · rw [gk k i k1 k2 hi2, hV6 k k1 k2 i hi2]
        congr 2
        rcases (show k = 1 ∨ k = 2 ∨ k = 3 ∨ k = 4 ∨ k = 5 by omega) with y | y | y | y | y
        · subst y
          show ((1, [Value.int (nI i), .int (nI (mt M 1 i)), .int (nI (mt M 2 i))]) : Nat × List Value) = (1, [Value.int (nI i), .int (nI (mt (bookM M s wy t z) 1 i)), .int (nI (mt (bookM M s wy t z) 2 i))])
          rw [bk_o (Or.inl (by decide)), bk_o (Or.inl (by decide))]
        · subst y
          show ((5, [Value.int (nI i), .int (nI (mt M 3 i)), .int (nI (mt M 4 i)), va_rf (if i = s then some q else (lastS M i (mn M 4)).map (g 4))]) : Nat × List Value) = (5, [Value.int (nI i), .int (nI (mt (bookM M s wy t z) 3 i)), .int (nI (mt (bookM M s wy t z) 4 i)), va_rf ((lastS (bookM M s wy t z) i (mn M 4 + 1)).map (G 4))])
          rw [bk_o (Or.inl (by decide)), bk_o (Or.inl (by decide)), lastS_succ, bk_S, bk_lS _ (Nat.le_refl _)]
          by_cases d : i = s
          · rw [if_pos d, if_pos d.symm]; rw [show Option.map (G 4) (some (mn M 4)) = some q by show some (G 4 (mn M 4)) = some q; rw [G4]]
          · rw [if_neg d, if_neg (fun w => d w.symm), g4 _ (fun j hj => (lastS_spec.1 j hj).1)]
        · subst y
          show ((3, [Value.int (nI i), .int (nI (mt M 5 i)), .int (nI (mt M 6 i)), va_rf (if i = p then some q else (lastP M i (mn M 4)).map (g 4))]) : Nat × List Value) = (3, [Value.int (nI i), .int (nI (mt (bookM M s wy t z) 5 i)), .int (nI (mt (bookM M s wy t z) 6 i)), va_rf ((lastP (bookM M s wy t z) i (mn M 4 + 1)).map (G 4))])
          rw [bk_o (Or.inl (by decide)), bk_o (Or.inl (by decide)), lastP_succ, bk_P hbest, bk_lP _ (Nat.le_refl _)]
          by_cases d : i = p
          · rw [if_pos d, if_pos d.symm]; rw [show Option.map (G 4) (some (mn M 4)) = some q by show some (G 4 (mn M 4)) = some q; rw [G4]]
          · rw [if_neg d, if_neg (fun w => d w.symm), g4 _ (fun j hj => (lastP_spec.1 j hj).1)]
        · subst y
          have hi2 : i < mn M 4 := hi2
          have hpi := hI.pas hi2
          show ((2, [Value.ref (g 5 i), .int (nI (pQ M i)), .int (nI (pB M i)), .ref (g 3 (pP M i)), va_rf ((lastS M (pS M i) i).map (g 4)), va_rf ((lastP M (pP M i) i).map (g 4)), .int (nI (bu i))]) : Nat × List Value) = (2, [Value.ref (G 5 i), .int (nI (pQ (bookM M s wy t z) i)), .int (nI (pB (bookM M s wy t z) i)), .ref (G 3 (pP (bookM M s wy t z) i)), va_rf ((lastS (bookM M s wy t z) (pS (bookM M s wy t z) i) i).map (G 4)), va_rf ((lastP (bookM M s wy t z) (pP (bookM M s wy t z) i) i).map (G 4)), .int (nI (bU (bookM M s wy t z) i))])
          have o9 : ∀ c, mt (bookM M s wy t z) c i = mt M c i := fun c => bk_o (Or.inr (by omega))
          rw [show pQ (bookM M s wy t z) i = pQ M i from o9 13, show pB (bookM M s wy t z) i = pB M i from o9 8, show pP (bookM M s wy t z) i = pP M i from o9 9, show pS (bookM M s wy t z) i = pS M i from o9 7, bk_lS _ (by omega), bk_lP _ (by omega), hbu i hi2, Go 5 i (by decide) (Or.inr (by omega)), Go 3 _ (by decide) (Or.inl (by decide)), g4 _ (fun j hj => by have := (lastS_spec.1 j hj).1; omega), g4 _ (fun j hj => by have := (lastP_spec.1 j hj).1; omega)]
        · subst y
          have hi2 : i < mn M 4 := hi2
          show ((4, [Value.ref (g 2 (pS M i)), .ref (g 1 (pA M i)), .int (nI (pO M i)), .int (nI (pT M i))]) : Nat × List Value) = (4, [Value.ref (G 2 (pS (bookM M s wy t z) i)), .ref (G 1 (pA (bookM M s wy t z) i)), .int (nI (pO (bookM M s wy t z) i)), .int (nI (pT (bookM M s wy t z) i))])
          have o9 : ∀ c, mt (bookM M s wy t z) c i = mt M c i := fun c => bk_o (Or.inr (by omega))
          rw [show pS (bookM M s wy t z) i = pS M i from o9 7, show pA (bookM M s wy t z) i = pA M i from o9 11, show pO (bookM M s wy t z) i = pO M i from o9 12, show pT (bookM M s wy t z) i = pT M i from o9 10, Go 2 _ (by decide) (Or.inl (by decide)), Go 1 _ (by decide) (Or.inl (by decide))]
      · rw [hi2]
        rcases hk9 with y | y
        · subst y
          rw [G4, P6]
          show some (Sum.inr (2, [Value.ref w, .int (nI z), .int (nI t), .ref (g 3 p), va_rf ((lastS M s (mn M 4)).map (g 4)), va_rf ((lastP M p (mn M 4)).map (g 4)), .int (nI (if wy.1 = 0 then 2880 else t))])) = some (Sum.inr (2, [Value.ref (G 5 (mn M 4)), .int (nI (pQ (bookM M s wy t z) (mn M 4))), .int (nI (pB (bookM M s wy t z) (mn M 4))), .ref (G 3 (pP (bookM M s wy t z) (mn M 4))), va_rf ((lastS (bookM M s wy t z) (pS (bookM M s wy t z) (mn M 4)) (mn M 4)).map (G 4)), va_rf ((lastP (bookM M s wy t z) (pP (bookM M s wy t z) (mn M 4)) (mn M 4)).map (G 4)), .int (nI (bU (bookM M s wy t z) (mn M 4)))]))
          rw [bk_Q, bk_B, bk_P hbest, bk_S, bk_lS _ (Nat.le_refl _), bk_lP _ (Nat.le_refl _), bk_bUn hI hwy, G5, Go 3 _ (by decide) (Or.inl (by decide)), g4 _ (fun j hj => (lastS_spec.1 j hj).1), g4 _ (fun j hj => (lastP_spec.1 j hj).1)]
        · subst y
          rw [G5, W6]
          show some (Sum.inr (4, [Value.ref (g 2 s), .ref (g 1 wy.2), .int (nI wy.1), .int (nI (tugsFor (mt M 3 s)))])) = some (Sum.inr (4, [Value.ref (G 2 (pS (bookM M s wy t z) (mn M 4))), .ref (G 1 (pA (bookM M s wy t z) (mn M 4))), .int (nI (pO (bookM M s wy t z) (mn M 4))), .int (nI (pT (bookM M s wy t z) (mn M 4)))]))
          rw [bk_S, bk_A, bk_O, bk_T, Go 2 _ (by decide) (Or.inl (by decide)), Go 1 _ (by decide) (Or.inl (by decide))]
    · intro i k i1 i2 k1 k2 hik
      rw [G0 i (by omega), G0 k (by omega)]
      have hJ := hB.J i k i1 i2 k1 k2 hik
      refine ⟨hJ.1, ?_⟩
      by_cases c : i = 4
      · subst c
        rw [Gr, G0 _ (by omega)]
        exact w5 k k1 k2 (fun z => hik z.symm)
      · by_cases d : k = 4
        · subst d
          rw [Gr, G0 _ (by omega)]
          exact fun z => z.trans (w5 i i1 i2 hik z.symm)
        · rw [G0 _ (by omega), G0 _ (by omega)]; exact hJ.2
    · intro k k1 k2 i i' hi hi' y
      rcases cM k k1 k2 i hi with a1 | ⟨a1, a2⟩
      · rcases cM k k1 k2 i' hi' with b1 | ⟨b1, b2⟩
        · rw [gk k i k1 k2 a1, gk k i' k1 k2 b1] at y
          exact hB.I k k1 k2 i i' a1 b1 y
        · rw [gk k i k1 k2 a1, b2] at y
          rcases b1 with b1 | b1
          · subst b1; rw [G4] at y; exact absurd y (nq 4 i (by decide) (by decide) a1)
          · subst b1; rw [G5] at y; exact absurd y (nw 5 i (by decide) (by decide) a1)
      · rcases cM k k1 k2 i' hi' with b1 | ⟨b1, b2⟩
        · rw [gk k i' k1 k2 b1, a2] at y
          rcases a1 with a1 | a1
          · subst a1; rw [G4] at y; exact absurd y.symm (nq 4 i' (by decide) (by decide) b1)
          · subst a1; rw [G5] at y; exact absurd y.symm (nw 5 i' (by decide) (by decide) b1)
        · exact a2.trans b2.symm
  refine wR_i P3 rfl (wI_i W3 rfl (wIf_d (wy.1 = 0) (nI_eq (a := wy.1) (b := 0) (by omega) (by decide)) (fun d => ?_) (fun d => ?_)))
  · refine h37 h3 _ hV3 rfl rfl (fun _ _ q0 _ _ _ => q0) (fun i hi => ?_)
    rw [bk_bU hi]
    unfold bU
    by_cases c : pO M i = 1
    · rw [if_pos c, if_pos c]
    · rw [if_neg c, if_neg c, if_neg (fun z => by omega)]
  · obtain ⟨k, k1, k2o⟩ := hway (by omega)
    obtain ⟨k3', k4, k5⟩ := lastS_spec.1 k k1
    have hPk := P3
    rw [k1] at hPk
    have nqk := nq 4 k (by decide) (by decide) k3'
    have nwk := nw 4 k (by decide) (by decide) k3'
    refine wQ_i (some (g 4 k)) hPk rfl (wOpt_s (wQ_i (some (g 4 k)) hPk rfl (wO_i hPk (wI_i hPk rfl (wDer_i ?_)))))
    refine isV_pas hV3 hN k k3' (t + 60) (nI_60 t) (fun h4 hV4 k4' => ?_)
    refine h37 h4 _ hV4 ?_ ?_ (fun a e q0 q1 q2 q3 => k4' _ _ q0 (fun z => ?_)) (fun i hi => ?_)
    · rw [k4' _ _ P3 (fun z => nqk z.symm), P3]
    · rw [k4' _ _ W3 (fun z => nwk z.symm), W3]
    · rw [z, hV3 4 (by decide) (by decide) k k3'] at q0; cases q0; exact q3 _ rfl
    · rw [bk_bU hi]
      by_cases c9 : i = k
      · subst c9
        rw [if_pos rfl, if_neg (by omega), if_pos ⟨buN_0 _ (fun j j1 j2 => by rw [k4]; exact k5 j j1 j2), k4.symm, by omega⟩]
      · rw [if_neg c9]
        unfold bU
        by_cases oi : pO M i = 1
        · rw [if_pos oi, if_pos oi]
        · rw [if_neg oi, if_neg oi, if_neg]
          rintro ⟨z1, z2, z3⟩
          have hpi := hI.pas hi
          exact buN_closed hI (Nat.le_refl _) k1 hi z2.symm (by omega) c9 z1
end
