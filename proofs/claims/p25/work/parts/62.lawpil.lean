/-! PURE ROWS: the law's pilot, and whether a passage can begin, by the law's own count -/
theorem fstT_min {P : Nat → Prop} {t : Nat} : ∀ n a, fstT P n a = some t → ∀ t', a ≤ t' → t' < t → ¬ P t' := by
  intro n
  induction n with
  | zero => intro a h; cases h
  | succ n ih =>
    intro a h t' h1 h2 h3
    unfold fstT at h
    by_cases c : P a
    · rw [if_pos c] at h; cases h; omega
    · rw [if_neg c] at h
      by_cases e : t' = a
      · subst e; exact c h3
      · exact ih (a + 1) h t' (by omega) h2 h3
theorem fst_min {P : Nat → Prop} {a e t : Nat} (h : fst P a e = some t) : ∀ t', a ≤ t' → t' < t → ¬ P t' := fstT_min _ _ h
def late (M : MS) (p t k : Nat) : Prop := ∃ j, j < k ∧ pP M j = p ∧ t ≤ pB M j
def sdE (M : MS) (p k : Nat) : Nat := match lastP M p k with
  | none => mt M 6 p
  | some i => 1 - pO M i
def lsE (M : MS) (r : Option Nat) : Int32 := match r with
  | none => 0
  | some b => pEnd M b (mn M 4)
section
variable {dc : Nat × Nat} {h : XH} {M : MS} {q : Nat → Nat} {Po : Int32 → Prop} {aq an ap ab as_ api : Nat}
theorem pEnd_succ_t {M : MS} {p k : Nat} (c : pP M k = p) : pEnd M p (k + 1) = nI (pB M k + 60) := by
  unfold pEnd; rw [lastP_succ, if_pos c]
theorem pEnd_succ_f {M : MS} {p k : Nat} (c : ¬ pP M k = p) : pEnd M p (k + 1) = pEnd M p k := by
  unfold pEnd; rw [lastP_succ, if_neg c]
theorem sdE_succ_t {M : MS} {p k : Nat} (c : pP M k = p) : sdE M p (k + 1) = 1 - pO M k := by
  unfold sdE; rw [lastP_succ, if_pos c]
theorem sdE_succ_f {M : MS} {p k : Nat} (c : ¬ pP M k = p) : sdE M p (k + 1) = sdE M p k := by
  unfold sdE; rw [lastP_succ, if_neg c]
/-- the loop over the passages of one pilot -/
theorem ll_pilot_38 (hQ : isPs h aq M q) (hI : Inv M) (len t o p : Nat) (ht2 : t ≤ 2819) (hp : p < mn M 3) {l7 l8 : Int32} {rec9 : Int32 × Int32 × Int32 → Prop}
    (hh : wIf (nI o = 0) (w_L_pilot_140 dc h (nI len) (nI o) (nI t) (nI (mn M 4)) aq an api l7 l8 (nI p) (pEnd M p (mn M 4)) (bI (late M p t (mn M 4))) (nI (sdE M p (mn M 4))) 0 Po rec9) (w_L_pilot_140 dc h (nI len) (nI o) (nI t) (nI (mn M 4)) aq an api l7 l8 (nI p) (pEnd M p (mn M 4)) (bI (late M p t (mn M 4))) (nI (sdE M p (mn M 4))) 1 Po rec9)) :
    w_L_pilot_38 dc h (nI len) (nI o) (nI t) (nI (mn M 4)) aq an api l7 l8 (nI p) Po rec9 (-1, nI (mt M 6 p), 0, 0) := by
  have hc := hI.c
  have e0 : ((-1 : Int32), nI (mt M 6 p), (0 : Int32), (0 : Int32)) = (pEnd M p 0, nI (sdE M p 0), bI (late M p t 0), nI 0) := by
    rw [bI_f (fun ⟨j, hj, _⟩ => absurd hj (Nat.not_lt_zero j))]; rfl
  rw [e0]
  refine xloop_up (fun k => (pEnd M p k, nI (sdE M p k), bI (late M p t k), nI k)) (fun _ => True) (mn M 4) 0 (Nat.zero_le _) trivial (fun rec k _ hk _ hr => ?_) (fun rec _ => ?_)
  · have hr := hr trivial
    have hpk := hI.pas hk
    dsimp only [w_L_pilot_38_F]
    rw [nI_succ] at hr
    refine wIf_f (nI_ge hk (by omega)) (ps hQ k hk 2 (by decide) rfl rfl ?_)
    refine wIf_d (pP M k = p) (nI_eq (a := pP M k) (b := p) (by omega) (by omega)) (fun c => ?_) (fun c => ?_)
    · rw [pEnd_succ_t c, sdE_succ_t c] at hr
      have h80 : ∀ z : Int32, z = bI (late M p t (k + 1)) → w_L_pilot_80 dc h (nI len) (nI o) (nI t) (nI (mn M 4)) aq an api l7 l8 (nI p) (pEnd M p k) (nI (sdE M p k)) (nI k) z Po rec9 rec := fun z hz => by
        subst hz
        refine ps hQ k hk 1 (by decide) rfl rfl ?_
        have hlt : pEnd M p k < nI (pB M k) + 60 := by
          show pEnd M p k < nI (pB M k) + 60
          rw [nI_60]
          unfold pEnd
          cases hl : lastP M p k with
          | none =>
            show (-1 : Int32) < _
            rw [Int32.lt_iff_toInt_lt, nI_toInt (by omega)]
            exact Int.lt_of_lt_of_le (by decide) (Int.natCast_nonneg _)
          | some i =>
            obtain ⟨i1, i2, _⟩ := lastP_spec.1 i hl
            have := hI.pup i1 hk (i2.trans c.symm)
            exact (n_lt (by omega) (by omega)).mpr (by omega)
        refine wIf_t hlt (ps hQ k hk 1 (by decide) rfl rfl (ps hQ k hk 5 (by decide) rfl rfl ?_))
        show rec (nI (pB M k) + 60, 1 - nI (pO M k), bI (late M p t (k + 1)), nI k + 1)
        rw [nI_60, show (1 : Int32) - nI (pO M k) = nI (1 - pO M k) from pk_sub (a := 1) (by omega)]
        exact hr
      refine wIf_d (¬ late M p t k) bI_0 (fun d => ?_) (fun d => ?_)
      · refine ps hQ k hk 1 (by decide) rfl rfl (wIf_d (pB M k < t) (n_lt (a := pB M k) (by omega) (by omega)) (fun d2 => h80 0 ?_) (fun d2 => h80 1 ?_))
        · rw [bI_f]
          rintro ⟨j, j1, j2, j3⟩
          by_cases e : j = k
          · subst e; omega
          · exact d ⟨j, by omega, j2, j3⟩
        · rw [bI_t ⟨k, by omega, c, by omega⟩]
      · obtain ⟨j, j1, j2, j3⟩ := Classical.byContradiction d
        exact h80 1 (by rw [bI_t ⟨j, by omega, j2, j3⟩])
    · rw [pEnd_succ_f c, sdE_succ_f c, bI_c (show late M p t (k + 1) ↔ late M p t k from ⟨fun ⟨j, j1, j2, j3⟩ => ⟨j, by
        have : j ≠ k := fun z => c (z ▸ j2)
        omega, j2, j3⟩, fun ⟨j, j1, j2, j3⟩ => ⟨j, by omega, j2, j3⟩⟩)] at hr
      exact hr
  · dsimp only [w_L_pilot_38_F]
    exact wIf_t (nI_le (Nat.le_refl _) (by omega)) hh
theorem ll_pilot (hQ : isPs h aq M q) (hN : isNs h an M) (hP : isPr h api 6 (mn M 3) (fun i => nI (mt M 5 i)) (fun i => nI (mt M 6 i))) (hI : Inv M) (len t o : Nat) (ho : o ≤ 1) (hlen : len ≤ 400) (ht2 : t ≤ 2819) {x1 x2 x3 x4 : Int32} (h1 : x1 = nI len) (h2 : x2 = nI o) (h3 : x3 = nI t) (h4 : x4 = nI (mn M 4)) (hh : Po (oN (bestP M len (o = 1) t (mn M 3)))) : w_L_pilot dc h x1 x2 x3 x4 aq an api Po := by
  have hc := hI.c
  subst h1 h2 h3 h4
  have e0 : ((-1 : Int32), (0 : Int32), (0 : Int32)) = (oN (bestP M len (o = 1) t 0), lsE M (bestP M len (o = 1) t 0), nI 0) := rfl
  show w_L_pilot_9 dc h (nI len) (nI o) (nI t) (nI (mn M 4)) aq an api Po (-1, 0, 0)
  rw [e0]
  refine xloop_up (fun p => (oN (bestP M len (o = 1) t p), lsE M (bestP M len (o = 1) t p), nI p)) (fun _ => True) (mn M 3) 0 (Nat.zero_le _) trivial (fun rec p _ hp _ hr => ?_) (fun rec _ => ?_)
  · have hr := hr trivial
    have hpl := hI.pilot hp
    dsimp only [w_L_pilot_9_F]
    rw [nI_succ] at hr
    refine ns hN 3 (by decide) rfl (wIf_f (nI_ge (show p < nF M 3 from hp) (show mn M 3 < _ by omega)) (pr_1 hP p hp rfl (ll_pilot_38 hQ hI len t o p ht2 hp ?_)))
    -- what follows the loop
    have no : ¬ ready M p len (o = 1) t → w_L_pilot_208 dc h (nI len) (nI o) (nI t) (nI (mn M 4)) aq an api (oN (bestP M len (o = 1) t p)) (lsE M (bestP M len (o = 1) t p)) (nI p) (pEnd M p (mn M 4)) Po rec := fun z => by
      rw [bestP_succ_f z] at hr
      exact wIf_t rfl hr
    have yes : ready M p len (o = 1) t → w_L_pilot_204 dc h (nI len) (nI o) (nI t) (nI (mn M 4)) aq an api (oN (bestP M len (o = 1) t p)) (lsE M (bestP M len (o = 1) t p)) (nI p) (pEnd M p (mn M 4)) Po rec := fun z => by
      rw [bestP_succ_t z] at hr
      refine wIf_f (by decide) ?_
      cases hb : bestP M len (o = 1) t p with
      | none =>
        rw [hb] at hr
        exact wIf_t (show (-1 : Int32) < 0 by decide) hr
      | some b =>
        rw [hb] at hr
        have hbl := bestP_lt _ _ hb
        unfold pick at hr; dsimp only at hr
        refine wIf_f (nI_pos (show b < 2 ^ 31 by omega)) (wIf_i (fun d => ?_) (fun d => ?_))
        · have d : pEnd M p (mn M 4) < pEnd M b (mn M 4) := d
          rw [if_pos d] at hr; exact hr
        · have d : ¬ pEnd M p (mn M 4) < pEnd M b (mn M 4) := d
          rw [if_neg d] at hr; exact hr
    have h148 : ∀ z : Int32, ((z = 0 ∨ z = 1) ∧ (z = 1 ↔ (port M p (mn M 4) ↔ o = 1))) → w_L_pilot_148 dc h (nI len) (nI o) (nI t) (nI (mn M 4)) aq an api (oN (bestP M len (o = 1) t p)) (lsE M (bestP M len (o = 1) t p)) (nI p) (pEnd M p (mn M 4)) (bI (late M p t (mn M 4))) z Po rec := fun z hz => by
      refine pr_0 hP p hp rfl (wIf_d (mt M 5 p < len) (n_lt (by omega) (by omega)) (fun c => no (fun w => by have := w.1; omega)) (fun c => ?_))
      unfold ready at no yes
      refine wIf_d (¬ late M p t (mn M 4)) bI_0 (fun d => ?_) (fun d => ?_)
      · cases hl : lastP M p (mn M 4) with
        | none =>
          rw [hl] at no yes; dsimp only at no yes
          have e : pEnd M p (mn M 4) = -1 := by unfold pEnd; rw [hl]
          have n0 : ¬ (0 : Int32) ≤ pEnd M p (mn M 4) := by rw [e]; decide
          refine wIf_f n0 (wIf_i (fun c0 => ?_) (fun c0 => ?_))
          · have c1 : ¬ (port M p (mn M 4) ↔ o = 1) := fun w => by
              have := hz.2.mpr w; rw [c0] at this; exact absurd this (by decide)
            refine wIf_d (t < 60) (n_lt (b := 60) (by omega) (by decide)) (fun k => no (fun w => w.2.elim c1 (fun w => by omega))) (fun k => yes ⟨by omega, Or.inr (by omega)⟩)
          · have c1 : (port M p (mn M 4) ↔ o = 1) := hz.2.mp (hz.1.elim (fun w => absurd w c0) id)
            exact yes ⟨by omega, Or.inl c1⟩
        | some i =>
          rw [hl] at no yes; dsimp only at no yes
          obtain ⟨i1, i2, i3⟩ := lastP_spec.1 i hl
          have hpi := hI.pas i1
          have e : pEnd M p (mn M 4) = nI (pB M i + 60) := by unfold pEnd; rw [hl]
          have n0 : (0 : Int32) ≤ pEnd M p (mn M 4) := by rw [e]; exact Int32.not_lt.mp (nI_pos (by omega))
          refine wIf_t n0 (wIf_i (fun c0 => ?_) (fun c0 => ?_))
          · have c1 : ¬ (port M p (mn M 4) ↔ o = 1) := fun w => by
              have := hz.2.mpr w; rw [c0] at this; exact absurd this (by decide)
            refine wIf_d (t < pB M i + 60 + 90) (by rw [e]; exact sub_l (k := 90) (by omega) (by omega) (by decide)) (fun k => no (fun w => by have := w.2.2 c1; omega)) (fun k => yes ⟨by omega, fun w => absurd w c1, fun _ => by omega⟩)
          · have c1 : (port M p (mn M 4) ↔ o = 1) := hz.2.mp (hz.1.elim (fun w => absurd w c0) id)
            refine wIf_d (t < pB M i + 60 + 30) (by rw [e]; exact sub_l (k := 30) (by omega) (by omega) (by decide)) (fun k => no (fun w => by have := w.2.1 c1; omega)) (fun k => yes ⟨by omega, fun _ => by omega, fun w => absurd c1 w⟩)
      · obtain ⟨j, j1, j2, j3⟩ := Classical.byContradiction d
        refine no (fun w => ?_)
        cases hl : lastP M p (mn M 4) with
        | none => exact lastP_spec.2 hl j j1 j2
        | some i =>
          rw [hl] at w; dsimp only at w
          have hle := lastP_le hI (Nat.le_refl _) hl j1 j2
          rcases Classical.em (port M p (mn M 4) ↔ o = 1) with c | c
          · have := w.2.1 c; omega
          · have := w.2.2 c; omega
    have hside : (nI (sdE M p (mn M 4)) = nI o) ↔ (port M p (mn M 4) ↔ o = 1) := by
      unfold sdE port
      cases hl : lastP M p (mn M 4) with
      | none =>
        dsimp only
        rw [nI_eq (by omega) (by omega)]
        omega
      | some i =>
        have hpi := hI.pas (lastP_spec.1 i hl).1
        dsimp only
        rw [nI_eq (by omega) (by omega)]
        omega
    have h140 : ∀ z : Int32, z = nI o → w_L_pilot_140 dc h (nI len) (nI o) (nI t) (nI (mn M 4)) aq an api (oN (bestP M len (o = 1) t p)) (lsE M (bestP M len (o = 1) t p)) (nI p) (pEnd M p (mn M 4)) (bI (late M p t (mn M 4))) (nI (sdE M p (mn M 4))) z Po rec := fun z hz => by
      subst hz
      exact wIf_d _ hside (fun c => h148 1 ⟨Or.inr rfl, fun _ => c, fun _ => rfl⟩) (fun c => h148 0 ⟨Or.inl rfl, fun w => absurd w (by decide), fun w => absurd w c⟩)
    refine wIf_d (o = 0) (nI_eq (b := 0) (by omega) (by decide)) (fun c => h140 0 (by rw [c]; rfl)) (fun c => h140 1 (by rw [show o = 1 by omega]; rfl))
  · dsimp only [w_L_pilot_9_F]
    exact ns hN 3 (by decide) rfl (wIf_t (nI_le (Nat.le_refl _) (show mn M 3 < _ by omega)) hh)
end
