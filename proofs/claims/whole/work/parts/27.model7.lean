/-! PURE ROWS: the reference's addTide -/
def insT (M : MS) (a : Nat) (v : Int32) : MS := (fun j => if j = 0 then mn M 0 + 1 else mn M j, (fun c i => if c = 0 then (if i < fGe M a (mn M 0) 0 then mt M 0 i else if i = fGe M a (mn M 0) 0 then a else mt M 0 (i - 1)) else mt M c i), fun i => if i < fGe M a (mn M 0) 0 then mg M i else if i = fGe M a (mn M 0) 0 then v else mg M (i - 1))
noncomputable def oc_addTide (M : MS) (x y : Int32) : Int32 × (Int32 × MS) :=
  cI (¬ (isIx x 2880 ∧ -300 ≤ y ∧ y ≤ 900)) (1, 0, M) (cI (mn M 0 = 30 ∨ 0 < mn M 4 ∨ ∃ j, j < mn M 0 ∧ mt M 0 j = nt x) (2, 0, M) (0, nI (mn M 0 + 1), insT M (nt x) y))
/-- the reference's cells, whatever the rows hold -/
def isC (h : XH) (m : Nat) (ad : Nat → Nat) (F : Nat → Nat → Int32) (T : Int32) (M : MS) : Prop :=
  h m = some (.inr (8, mfs ad T M)) ∧ (∀ k ∈ mIx, h (ad k) = some (.inl ((mRow k).1, (mRow k).2, .inl (F k)))) ∧ (∀ j ∈ mIx, ∀ k ∈ mIx, ad j = ad k → j = k)
theorem isM.C {h : XH} {m : Nat} {ad : Nat → Nat} {F : Nat → Nat → Int32} {T : Int32} {M : MS} (q : isM h m ad F T M) : isC h m ad F T M := ⟨q.1, q.2.1, q.2.2.1⟩
theorem isC.M {h : XH} {m : Nat} {ad : Nat → Nat} {F : Nat → Nat → Int32} {T : Int32} {M : MS} (q : isC h m ad F T M) (hF : mF F M) : isM h m ad F T M := ⟨q.1, q.2.1, q.2.2, hF⟩
section
variable {dc : Nat × Nat} {h : XH} {m : Nat} {ad : Nat → Nat} {F : Nat → Nat → Int32} {T : Int32} {M : MS} {Po : Int32 → XH → Prop}
theorem sm_rowC (hM : isC h m ad F T M) (k : Nat) (hk : k ∈ mIx) (ht2 : (mRow k).1 = 2) (i : Nat) (hi : i < (mRow k).2) {x v : Int32} (hx : x = nI i) {K : XH → Prop} (hh : ∀ h', isC h' m ad (fU F k (upd (F k) i v)) T M → kept 1 h h' → K h') : wSI h 2 (ad k) x v K := by
  have h1 := hM.2.1 k hk
  have hn : (mRow k).2 < 2 ^ 31 := by
    unfold mRow
    split <;> decide
  have h2 : isC (xup h (ad k) (.inl ((mRow k).1, (mRow k).2, .inl (upd (F k) i v)))) m ad (fU F k (upd (F k) i v)) T M := by
    refine ⟨?_, fun j hj => ?_, hM.2.2⟩
    · rw [xup_o (fun z => by rw [← z, hM.1] at h1; cases h1)]; exact hM.1
    · by_cases c : j = k
      · subst c; rw [xup_s]; unfold fU; rw [if_pos rfl]
      · rw [xup_o (fun z => c (hM.2.2 j hj k hk z))]; unfold fU; rw [if_neg c]; exact hM.2.1 j hj
  rw [ht2] at h1 h2
  exact wSI_i i h1 hi hx hn (hh _ h2 (kept_u h1 rfl))
theorem sm_putC (hM : isC h m ad F T M) (k : Nat) (v : Value) (hk : k < 18) {M' : MS} {T' : Int32} (e : (mfs ad T M).set k v = mfs ad T' M') {K : XH → Prop} (hh : ∀ h', isC h' m ad F T' M' → kept 1 h h' → K h') : wP h m 8 k v K := by
  refine wP_i hM.1 hk (hh _ ?_ (kept_u hM.1 rfl))
  rw [e]
  refine ⟨xup_s, fun j hj => ?_, hM.2.2⟩
  rw [xup_o (fun z => by have h1 := hM.2.1 j hj; rw [z, hM.1] at h1; cases h1)]
  exact hM.2.1 j hj
theorem sm_rowAI (hM : isC h m ad F T M) (k : Nat) (hk : k ∈ mIx) (ht2 : (mRow k).1 = 2) (i : Nat) (hi : i < (mRow k).2) {x : Int32} (hx : x = nI i) {K : Int32 → Prop} (hh : K (F k i)) : wAI h 2 (ad k) x K := by
  have h1 := hM.2.1 k hk
  have hn : (mRow k).2 < 2 ^ 31 := by
    unfold mRow
    split <;> decide
  rw [ht2] at h1
  exact wAI_i i h1 hi hx hn hh
/-- the rows of the tide while points make room at p -/
def tR (M : MS) (F : Nat → Nat → Int32) (F' : Nat → Nat → Int32) (a p : Nat) : Prop :=
  p ≤ mn M 0 ∧ (∀ i, i < p → F' 2 i = nI (mt M 0 i) ∧ F' 3 i = mg M i) ∧ (∀ i, p < i → i ≤ mn M 0 → F' 2 i = nI (mt M 0 (i - 1)) ∧ F' 3 i = mg M (i - 1)) ∧ (∀ i, p ≤ i → i < mn M 0 → a < mt M 0 i) ∧ ∀ j, j ≠ 2 → j ≠ 3 → F' j = F j
theorem upd_s {f : Nat → Int32} {k : Nat} {v : Int32} : upd f k v k = v := if_pos rfl
theorem upd_o {f : Nat → Int32} {k i : Nat} {v : Int32} (h : i ≠ k) : upd f k v i = f i := if_neg h
theorem sm_addTide_164 {h0 : XH} {F' : Nat → Nat → Int32} (hM : mF F M) (hI : Inv M) (hn : mn M 0 < 30) (a : Nat) (v : Int32) (ha : a < 2880) (hna : ∀ j, j < mn M 0 → mt M 0 j ≠ a) (p : Nat) (hC : isC h m ad F' T M) (hk : kept 1 h0 h) (hR : tR M F F' a p) (hlt : p = 0 ∨ mt M 0 (p - 1) ≤ a) (hh : ∀ h' F', isM h' m ad F' T (insT M a v) → kept 1 h0 h' → Po (nI (mn M 0 + 1)) h') : w_X7_addTide_164 dc h m (nI a) v (nI p) Po := by
  obtain ⟨r1, r2, r3, r4, r5⟩ := hR
  have hK : isK M a p := by
    refine ⟨r1, fun j hj => ?_, fun q => ?_⟩
    · have h1 : mt M 0 (p - 1) ≠ a := hna _ (by omega)
      by_cases e : j = p - 1
      · subst e; omega
      · have := hI.tup (i := j) (j := p - 1) (by omega) (by omega); omega
    · have := r4 p (Nat.le_refl _) q; omega
  have hp : p = fGe M a (mn M 0) 0 := isK_u hK (fGe_K M a)
  refine wR_i hC.1 rfl (sm_rowC hC 2 (by decide) rfl p (by show p < 30; omega) rfl (fun h1 C1 k1 => ?_))
  refine wR_i C1.1 rfl (sm_rowC C1 3 (by decide) rfl p (by show p < 30; omega) rfl (fun h2 C2 k2 => ?_))
  refine wI_i C2.1 rfl ?_
  refine sm_putC C2 1 _ (by decide) (M' := insT M a v) (T' := T) (by rw [nI_s]; rfl) (fun h3 C3 k3 => ?_)
  refine wI_i C3.1 rfl (hh h3 _ (C3.M ?_) (kept_t hk (kept_t k1 (kept_t k2 k3))))
  have g2 : ∀ i, i < mn M 0 + 1 → (fU (fU F' 2 (upd (F' 2) p (nI a))) 3 (upd ((fU F' 2 (upd (F' 2) p (nI a))) 3) p v)) 2 i = nI (mt (insT M a v) 0 i) := by
    intro i hi
    show upd (F' 2) p (nI a) i = nI (if i < fGe M a (mn M 0) 0 then mt M 0 i else if i = fGe M a (mn M 0) 0 then a else mt M 0 (i - 1))
    rw [← hp]
    by_cases e : i = p
    · subst e; rw [upd_s, if_neg (by omega), if_pos rfl]
    · rw [upd_o e]
      by_cases e2 : i < p
      · rw [if_pos e2]; exact (r2 i e2).1
      · rw [if_neg e2, if_neg e]; exact (r3 i (by omega) (by omega)).1
  have g3 : ∀ i, i < mn M 0 + 1 → (fU (fU F' 2 (upd (F' 2) p (nI a))) 3 (upd ((fU F' 2 (upd (F' 2) p (nI a))) 3) p v)) 3 i = mg (insT M a v) i := by
    intro i hi
    show upd (F' 3) p v i = (if i < fGe M a (mn M 0) 0 then mg M i else if i = fGe M a (mn M 0) 0 then v else mg M (i - 1))
    rw [← hp]
    by_cases e : i = p
    · subst e; rw [upd_s, if_neg (by omega), if_pos rfl]
    · rw [upd_o e]
      by_cases e2 : i < p
      · rw [if_pos e2]; exact (r2 i e2).2
      · rw [if_neg e2, if_neg e]; exact (r3 i (by omega) (by omega)).2
  obtain ⟨_, _, m3, m4, m5, m6, m7, m8, m9⟩ := hM
  refine ⟨g2, g3, ?_, ?_, ?_, ?_, ?_, ?_, ?_⟩
  · intro i hi; show F' 7 i = _; rw [r5 7 (by decide) (by decide)]; exact m3 i hi
  · intro i hi; show F' 8 i = _; rw [r5 8 (by decide) (by decide)]; exact m4 i hi
  · intro i hi; show F' 10 i = _; rw [r5 10 (by decide) (by decide)]; exact m5 i hi
  · intro i hi; show F' 11 i = _; rw [r5 11 (by decide) (by decide)]; exact m6 i hi
  · intro i hi; show F' 13 i = _; rw [r5 13 (by decide) (by decide)]; exact m7 i hi
  · intro i hi; show F' 14 i = _; rw [r5 14 (by decide) (by decide)]; exact m8 i hi
  · intro i k hi hk2
    show F' 17 (7 * i + k) = nI (if 7 + k = 0 then _ else mt M (7 + k) i)
    rw [if_neg (by omega), r5 17 (by decide) (by decide)]; exact m9 i k hi hk2
theorem sm_addTide (hM : isM h m ad F T M) (hI : Inv M) (x y : Int32) (hh : ∀ h' F', isM h' m ad F' (oc_addTide M x y).1 (oc_addTide M x y).2.2 → kept 1 h h' → Po (oc_addTide M x y).2.1 h') : w_X7_addTide dc h m x y Po := by
  have hc := hI.c
  refine sm_put0 hM 0 (fun h1 hM1 k1 => ?_)
  have hfail : ∀ h2 : XH, isM h2 m ad F 0 M → kept 1 h h2 → ¬ (isIx x 2880 ∧ -300 ≤ y ∧ y ≤ 900) → w_X7_addTide_25 dc h2 m Po := fun h2 hM2 k2 c => by
    refine wO_i hM2.1 (sm_fail hM2 (fun h3 hM3 k3 => ?_))
    unfold oc_addTide at hh
    rw [cI_t c] at hh
    exact hh h3 F hM3 (kept_t k2 k3)
  refine sm_isTime (wIf_d _ bI_0 (fun c => hfail h1 hM1 k1 (fun z => c z.1)) (fun c => ?_))
  have c := Classical.byContradiction c
  refine sm_isIn (wIf_d _ bI_0 (fun d => hfail h1 hM1 k1 (fun z => d z.2)) (fun d => ?_))
  have d := Classical.byContradiction d
  unfold oc_addTide at hh
  rw [cI_f (fun q => q ⟨c, d⟩)] at hh
  obtain ⟨a, ha, rfl⟩ := c
  rw [nt_nI (by omega)] at hh
  have h52 : ∀ c0 : Prop, (c0 ↔ (mn M 0 = 30 ∨ 0 < mn M 4)) → w_X7_addTide_52 dc h1 m (nI a) y (bI c0) Po := by
    intro c0 hc0
    show w_X7_addTide_56 dc h1 m (nI a) y Po (bI c0, nI 0)
    have e0 : bI c0 = bI (c0 ∨ ∃ j, j < 0 ∧ mt M 0 j = a) := bI_c ⟨Or.inl, fun z => z.elim id (fun ⟨j, q, _⟩ => absurd q (Nat.not_lt_zero j))⟩
    rw [e0]
    refine xloop_up (fun i => (bI (c0 ∨ ∃ j, j < i ∧ mt M 0 j = a), nI i)) (fun _ => True) (mn M 0) 0 (Nat.zero_le _) trivial (fun rec i _ hi _ hr => ?_) (fun rec _ => ?_)
    · have hr := hr trivial
      rw [nI_succ] at hr
      have hT := hI.tide hi
      refine wI_i hM1.1 rfl (wIf_f (nI_ge hi (by omega)) (wIf_d _ bI_0 (fun q => ?_) (fun q => ?_)))
      · refine wR_i hM1.1 rfl (wAI_i i hM1.r2 (by omega) rfl (by decide) ?_)
        rw [hM1.2.2.2.1 _ hi]
        refine wIf_d (mt M 0 i = a) (nI_eq (by omega) (by omega)) (fun e => ?_) (fun e => ?_)
        · show rec (1, nI i + 1)
          rw [bI_t (Or.inr ⟨i, by omega, e⟩)] at hr; exact hr
        · show rec (0, nI i + 1)
          rw [bI_f (fun z => z.elim (fun z => q (Or.inl z)) (fun ⟨j, q1, q2⟩ => by
            by_cases e3 : j = i
            · subst e3; exact e q2
            · exact q (Or.inr ⟨j, by omega, q2⟩)))] at hr; exact hr
      · have q := Classical.byContradiction q
        show rec (1, nI i + 1)
        rw [bI_t (q.elim Or.inl (fun ⟨j, q1, q2⟩ => Or.inr ⟨j, by omega, q2⟩))] at hr; exact hr
    · refine wI_i hM1.1 rfl (wIf_t (nI_le (Nat.le_refl _) (by omega)) (wIf_d _ bI_0 (fun q => ?_) (fun q => ?_)))
      · have q3 : ¬ (mn M 0 = 30 ∨ 0 < mn M 4 ∨ ∃ j, j < mn M 0 ∧ mt M 0 j = a) := fun z => q (z.elim (fun z => Or.inl (hc0.mpr (Or.inl z))) (fun z => z.elim (fun z => Or.inl (hc0.mpr (Or.inr z))) Or.inr))
        rw [cI_f q3] at hh
        have hn : mn M 0 < 30 := by
          have : mn M 0 ≠ 30 := fun z => q3 (Or.inl z)
          omega
        have hna : ∀ j, j < mn M 0 → mt M 0 j ≠ a := fun j hj z => q3 (Or.inr (Or.inr ⟨j, hj, z⟩))
        refine wI_i hM1.1 rfl ?_
        refine xloop_of (fun s : XH × Int32 => ∃ p F', s.2 = nI p ∧ isC s.1 m ad F' 0 M ∧ kept 1 h s.1 ∧ tR M F F' a p) (fun s => nt s.2) (fun rec s hs hr => ?_) _ ?_
        · obtain ⟨h2, l4⟩ := s
          obtain ⟨p, F', e1, hC, hk, hR⟩ := hs
          dsimp only at e1 hC hk hr
          subst e1
          have r1 := hR.1
          refine wIf_d (p = 0) ((n_le (b := 0) (by omega) (by decide)).trans (by omega)) (fun e => ?_) (fun e => ?_)
          · exact sm_addTide_164 hM1.2.2.2 hI hn a y ha hna p hC hk hR (Or.inl e) hh
          · have em : nI p - 1 = nI (p - 1) := pk_sub (a := p) (b := 1) (by omega)
            have em2 : nI p + (-1) = nI (p - 1) := by rw [← Int32.sub_eq_add_neg]; exact em
            have hT := hI.tide (i := p - 1) (by omega)
            refine wR_i hC.1 rfl (sm_rowAI hC 2 (by decide) rfl (p - 1) (by show p - 1 < 30; omega) em ?_)
            rw [(hR.2.1 (p - 1) (by omega)).1]
            refine wIf_d (mt M 0 (p - 1) ≤ a) (n_le (by omega) (by omega)) (fun g => ?_) (fun g => ?_)
            · exact sm_addTide_164 hM1.2.2.2 hI hn a y ha hna p hC hk hR (Or.inr g) hh
            · refine wR_i hC.1 rfl (wR_i hC.1 rfl (sm_rowAI hC 2 (by decide) rfl (p - 1) (by show p - 1 < 30; omega) em ?_))
              refine sm_rowC hC 2 (by decide) rfl p (by show p < 30; omega) rfl (fun h3 C3 k3 => ?_)
              refine wR_i C3.1 rfl (wR_i C3.1 rfl (sm_rowAI C3 3 (by decide) rfl (p - 1) (by show p - 1 < 30; omega) em ?_))
              refine sm_rowC C3 3 (by decide) rfl p (by show p < 30; omega) rfl (fun h4 C4 k4 => ?_)
              refine hr (h4, nI p + (-1)) ⟨p - 1, _, ?_, C4, kept_t hk (kept_t k3 k4), ?_⟩ ?_
              · exact em2
              · obtain ⟨r1, r2, r3, r4, r5⟩ := hR
                refine ⟨by omega, fun i hi => ?_, fun i hi hi2 => ?_, fun i hi hi2 => ?_, fun j h5 h6 => ?_⟩
                · show upd (F' 2) p _ i = _ ∧ upd (F' 3) p _ i = _
                  rw [upd_o (by omega), upd_o (by omega)]; exact r2 i (by omega)
                · show upd (F' 2) p (F' 2 (p - 1)) i = _ ∧ upd (F' 3) p (F' 3 (p - 1)) i = _
                  by_cases e5 : i = p
                  · subst e5; rw [upd_s, upd_s]; exact r2 _ (by omega)
                  · rw [upd_o e5, upd_o e5]; exact r3 i (by omega) hi2
                · by_cases e5 : i = p - 1
                  · subst e5; omega
                  · exact r4 i (by omega) hi2
                · unfold fU; rw [if_neg h6, if_neg h5]; exact r5 j h5 h6
              · show nt (nI p + (-1)) < nt (nI p)
                rw [em2, nt_nI (by omega), nt_nI (by omega)]; omega
        · exact ⟨mn M 0, F, rfl, hM1.C, k1, Nat.le_refl _, fun i hi => ⟨hM1.2.2.2.1 i hi, hM1.2.2.2.2.1 i hi⟩, fun i hi hi2 => by omega, fun i hi hi2 => by omega, fun j _ _ => rfl⟩
      · have q3 : (mn M 0 = 30 ∨ 0 < mn M 4 ∨ ∃ j, j < mn M 0 ∧ mt M 0 j = a) := by
          rcases Classical.byContradiction q with z | z
          · rcases hc0.mp z with z | z
            · exact Or.inl z
            · exact Or.inr (Or.inl z)
          · exact Or.inr (Or.inr z)
        rw [cI_t q3] at hh
        exact wO_i hM1.1 (sm_fail hM1 (fun h3 hM3 k3 => hh h3 F hM3 (kept_t k1 k3)))
  refine wI_i hM1.1 rfl (wIf_d (mn M 0 = 30) (nI_eq (b := 30) (by omega) (by decide)) (fun e => ?_) (fun e => wI_i hM1.1 rfl (wIf_d (mn M 4 = 0) ((n_le (b := 0) (by omega) (by decide)).trans (by omega)) (fun g => ?_) (fun g => ?_))))
  · have := h52 True ⟨fun _ => Or.inl e, fun _ => trivial⟩; rw [bI_t trivial] at this; exact this
  · have := h52 False ⟨fun z => z.elim, fun z => z.elim e (by omega)⟩; rw [bI_f id] at this; exact this
  · have := h52 True ⟨fun _ => Or.inr (by omega), fun _ => trivial⟩; rw [bI_t trivial] at this; exact this
end
