/-! PURE ROWS: the reference's readers, fourth part -/
/-- at least so much: what a passage of ship s at t wants, where at is its berth, out: outbound -/
def canB (M : MS) (s at_ o t : Nat) : Prop :=
  t + 60 ≤ 2879 ∧ (o = 1 → wtr M s (mt M 2 at_) t ∧ wtr M s (mn M 5) (t + 60)) ∧ (¬ o = 1 → wtr M s (mn M 5) t ∧ wtr M s (mt M 2 at_) (t + 60)) ∧
  (¬ o = 1 → mt M 3 s ≤ mt M 1 at_ ∧ bFree M s at_ t) ∧ apart M o t ∧ bestP M (mt M 3 s) (o = 1) t (mn M 3) ≠ none ∧ tugOk M (tugsFor (mt M 3 s)) (tFrom o t)
section
variable {dc : Nat × Nat} {h : XH} {m : Nat} {ad : Nat → Nat} {F : Nat → Nat → Int32} {T : Int32} {M : MS} {Po : Int32 → Prop}
theorem pEnd_r {M : MS} (hI : Inv M) (p : Nat) : pEnd M p (mn M 4) = -1 ∨ ∃ i, lastP M p (mn M 4) = some i ∧ i < mn M 4 ∧ pEnd M p (mn M 4) = nI (pB M i + 60) ∧ pB M i ≤ 2819 := by
  unfold pEnd
  cases hl : lastP M p (mn M 4) with
  | none => exact Or.inl rfl
  | some i =>
    have hi := (lastP_spec.1 i hl).1
    have hp := hI.pas hi
    exact Or.inr ⟨i, rfl, hi, rfl, by omega⟩
theorem bestP_succ_f {M : MS} {len : Nat} {out : Prop} {t n : Nat} (c : ¬ ready M n len out t) : bestP M len out t (n + 1) = bestP M len out t n := if_neg c
theorem bestP_succ_t {M : MS} {len : Nat} {out : Prop} {t n : Nat} (c : ready M n len out t) : bestP M len out t (n + 1) = pick M n (bestP M len out t n) := if_pos c
theorem sm_pilotFor (hM : isM h m ad F T M) (hI : Inv M) (n : Nat) (hn : n ≤ 400) (out : Prop) (t : Nat) (ht2 : t ≤ 2880) {x y z : Int32} (hx : x = nI n) (hy : y = bI out) (hz : z = nI t) (hh : Po (oN (bestP M n out t (mn M 3)))) : w_X7_pilotFor dc h m x y z Po := by
  have hc := hI.c
  subst hx hy hz
  refine wO_i hM.1 (xloop_up (fun i => (oN (bestP M n out t i), (pickE M (bestP M n out t i)), nI i)) (fun _ => True) (mn M 3) 0 (Nat.zero_le _) trivial (fun rec i _ hi _ hr => ?_) (fun rec _ => ?_))
  · have hr := hr trivial
    refine wI_i hM.1 rfl (wIf_f (nI_ge hi (by omega)) (sm_isReady hM hI i hi n hn out t ht2 rfl rfl rfl rfl (wIf_d _ bI_0 (fun c => ?_) (fun c => ?_))))
    · rw [bestP_succ_f c, nI_succ] at hr; exact hr
    · have c := Classical.byContradiction c
      rw [bestP_succ_t c] at hr
      have h57 : w_X7_pilotFor_57 dc h m (nI n) (bI out) (nI t) (oN (bestP M n out t i)) (pickE M (bestP M n out t i)) (nI i) (pEnd M i (mn M 4)) Po rec := by
        cases hb : bestP M n out t i with
        | none => rw [hb] at hr; refine wIf_t rfl ?_; rw [nI_succ] at hr; exact hr
        | some b =>
          rw [hb] at hr; unfold pick at hr; dsimp only at hr
          have hbl := bestP_lt _ _ hb
          refine wIf_f (nI_ne_m1 (by omega)) (wIf_i (fun (g : pEnd M i (mn M 4) < pEnd M b (mn M 4)) => ?_) (fun (g : ¬ pEnd M i (mn M 4) < pEnd M b (mn M 4)) => ?_))
          · rw [if_pos g, nI_succ] at hr; exact hr
          · rw [if_neg g, nI_succ] at hr; exact hr
      refine sm_lastTrip hM hI i hi rfl ?_
      unfold pEnd at h57
      cases hl : lastP M i (mn M 4) with
      | none => rw [hl] at h57; exact wIf_t rfl h57
      | some k =>
        rw [hl] at h57
        have hk := (lastP_spec.1 k hl).1
        refine wIf_f (nI_ne_m1 (by omega)) (sm_lastTrip hM hI i hi rfl ?_)
        rw [hl]
        exact sm_end hM hI k hk rfl h57
  · exact wI_i hM.1 rfl (wIf_t (nI_le (Nat.le_refl _) (by omega)) hh)
theorem sm_isBerthFree (hM : isM h m ad F T M) (hI : Inv M) (s b : Nat) (hs : s < mn M 2) (hb : b < mn M 1) (t : Nat) (ht2 : t ≤ 2880) {x y z : Int32} (hx : x = nI s) (hy : y = nI b) (hz : z = nI t) (hh : Po (bI (bFree M s b t))) : w_X7_isBerthFree dc h m x y z Po := by
  have hc := hI.c
  subst hx hy hz
  refine wO_i hM.1 (xloop_up (fun i => nI i) (fun i => ∀ p, p < i → pO M p = 0 → pA M p = b → pS M p ≠ s → buN M p (mn M 4) ≤ t) (mn M 4) 0 (Nat.zero_le _) (fun p hp => absurd hp (Nat.not_lt_zero p)) (fun rec i _ hi hP hr => ?_) (fun rec hP => ?_))
  · have hp := hI.pas hi
    have go : (pO M i = 0 → pA M i = b → pS M i ≠ s → buN M i (mn M 4) ≤ t) → rec (nI i + 1) := fun g => by
      have := hr (fun p hp => by
        by_cases e : p = i
        · subst e; exact g
        · exact hP p (by omega))
      rw [nI_succ] at this; exact this
    refine wI_i hM.1 rfl (wIf_f (nI_ge hi (by omega)) (sm_isOut hM hI i hi rfl (wIf_d (¬ pO M i = 1) bI_0 (fun o => ?_) (fun o => go (fun q => absurd (show ¬ pO M i = 1 by omega) o)))))
    refine sm_get hM hI i 4 hi (by decide) rfl rfl (wIf_d (pA M i = b) (nI_eq (a := pA M i) (b := b) (by omega) (by omega)) (fun c => ?_) (fun c => go (fun _ q => absurd q c)))
    refine sm_get hM hI i 0 hi (by decide) rfl rfl (wIf_d (pS M i = s) (nI_eq (a := pS M i) (b := s) (by omega) (by omega)) (fun d => go (fun _ _ q => absurd d q)) (fun d => ?_))
    have hle := buN_le hI (i := i) (mn M 4) (Nat.le_refl _)
    refine sm_leaves hM hI i hi (by omega) rfl (wIf_d (buN M i (mn M 4) ≤ t) (n_le (by omega) (by omega)) (fun e => go (fun _ _ _ => e)) (fun e => ?_))
    rw [bI_f (fun z => e (z i hi (by omega) c d))] at hh
    exact wZ_0 hh
  · refine wI_i hM.1 rfl (wIf_t (nI_le (Nat.le_refl _) (by omega)) ?_)
    rw [bI_t (c := bFree M s b t) hP] at hh; exact wZ_1 hh
theorem sm_isApart (hM : isM h m ad F T M) (hI : Inv M) (o : Nat) (ho : o ≤ 1) (t : Nat) (ht2 : t ≤ 2880) {x y : Int32} (hx : x = bI (o = 1)) (hy : y = nI t) (hh : Po (bI (apart M o t))) : w_X7_isApart dc h m x y Po := by
  have hc := hI.c
  subst hx hy
  refine wO_i hM.1 (xloop_up (fun i => nI i) (fun i => ∀ p, p < i → gapOk M o t p) (mn M 4) 0 (Nat.zero_le _) (fun p hp => absurd hp (Nat.not_lt_zero p)) (fun rec i _ hi hP hr => ?_) (fun rec hP => ?_))
  · have hp := hI.pas hi
    have ab : (if 0 ≤ (nI (pB M i) - nI t) then (nI (pB M i) - nI t) else 0 - (nI (pB M i) - nI t)) = nI (if pB M i ≤ t then t - pB M i else pB M i - t) := by
      have e1 := pk_sub_toInt (a := pB M i) (b := t) (by omega) (by omega)
      by_cases c : pB M i ≤ t
      · rw [if_pos c]
        by_cases c2 : 0 ≤ (nI (pB M i) - nI t)
        · rw [if_pos c2]
          rw [Int32.le_iff_toInt_le, e1] at c2
          have h0 : (0 : Int32).toInt = 0 := rfl
          have : pB M i = t := by omega
          rw [this, pk_sub (Nat.le_refl _)]
        · rw [if_neg c2]
          apply Int32.toInt_inj.mp
          rw [nI_toInt (by omega)]
          have e2 := pk_sub_toInt (a := t) (b := pB M i) (by omega) (by omega)
          have e3 : (0 : Int32) - (nI (pB M i) - nI t) = nI t - nI (pB M i) := by simp [Int32.sub_eq_add_neg, Int32.neg_add, Int32.add_comm]
          rw [e3, e2]; omega
      · rw [if_neg c]
        have c2 : 0 ≤ (nI (pB M i) - nI t) := by
          rw [Int32.le_iff_toInt_le, e1]
          have h0 : (0 : Int32).toInt = 0 := rfl
          omega
        rw [if_pos c2]
        exact pk_sub (by omega)
    have h36 : ∀ g : Nat, g ≤ 60 → g = (if pO M i = o then 20 else 60) → w_X7_isApart_36 dc h m (bI (o = 1)) (nI t) (nI i) (if 0 ≤ (nI (pB M i) - nI t) then (nI (pB M i) - nI t) else 0 - (nI (pB M i) - nI t)) (nI g) Po rec := by
      intro g hg9 hg
      rw [ab]
      have hgo : gapOk M o t i ↔ g ≤ (if pB M i ≤ t then t - pB M i else pB M i - t) := by unfold gapOk; rw [hg]
      refine wIf_d (gapOk M o t i) ((n_le (by omega) (by split <;> omega)).trans hgo.symm) (fun c => ?_) (fun c => ?_)
      · have := hr (fun p hp => by
          by_cases e : p = i
          · subst e; exact c
          · exact hP p (by omega))
        rw [nI_succ] at this; exact this
      · rw [bI_f (fun z => c (z i hi))] at hh; exact wZ_0 hh
    refine wI_i hM.1 rfl (wIf_f (nI_ge hi (by omega)) (sm_begin hM hI i hi rfl (sm_isOut hM hI i hi rfl (wIf_d (pO M i = 1 ↔ o = 1) bI_eq (fun c => ?_) (fun c => ?_)))))
    · exact h36 20 (by decide) (by rw [if_pos (by omega)])
    · exact h36 60 (by decide) (by rw [if_neg (by omega)])
  · refine wI_i hM.1 rfl (wIf_t (nI_le (Nat.le_refl _) (by omega)) ?_)
    rw [bI_t (c := apart M o t) hP] at hh; exact wZ_1 hh
theorem sm_hasWater (hM : isM h m ad F T M) (hI : Inv M) (s : Nat) (hs : s < mn M 2) (t : Nat) (ht2 : t < 2880) (d : Nat) {x y z : Int32} (hx : x = nI s) (hz : z = nI t) (hy : (y = -1 ∧ d = mn M 5) ∨ ∃ b, y = nI b ∧ b < mn M 1 ∧ d = mt M 2 b) (hh : Po (bI (wtr M s d t))) : w_X7_hasWater dc h m x y z Po := by
  have hc := hI.c
  subst hx hz
  have h18 : w_X7_hasWater_18 dc h m (nI s) (nI t) (nI d) Po := by
    refine sm_heightAt hM hI t ht2 rfl (sm_needOf hM hI s hs rfl (wIf_i (fun c => ?_) (fun c => ?_)))
    · rw [bI_f (fun z => z c)] at hh; exact wZ_0 hh
    · rw [bI_t (c := wtr M s d t) c] at hh; exact wZ_1 hh
  refine wO_i hM.1 ?_
  rcases hy with ⟨rfl, rfl⟩ | ⟨b, rfl, hb, rfl⟩
  · exact wIf_t rfl (wI_i hM.1 rfl h18)
  · refine wIf_f (nI_ne_m1 (by omega)) (wR_i hM.1 rfl (wAI_i b hM.r8 (by omega) rfl (by decide) ?_))
    rw [hM.2.2.2.2.2.2.1 b hb]; exact h18
theorem sm_canBegin_183 (hM : isM h m ad F T M) (hI : Inv M) (s : Nat) (hs : s < mn M 2) (t : Nat) (ht2 : t ≤ 2819) (o : Nat) (ho : o ≤ 1) {x y z : Int32} (hx : x = nI s) (hy : y = nI t) (hz : z = bI (o = 1)) (hh : Po (bI (apart M o t ∧ bestP M (mt M 3 s) (o = 1) t (mn M 3) ≠ none ∧ tugOk M (tugsFor (mt M 3 s)) (tFrom o t)))) : w_X7_canBegin_183 dc h m x y z Po := by
  have hc := hI.c
  have hsh := hI.ship hs
  subst hx hy hz
  have e10 : F 10 s = nI (mt M 3 s) := hM.2.2.2.2.2.2.2.1 s hs
  refine sm_isApart hM hI o ho t (by omega) rfl rfl (wIf_d _ bI_0 (fun c => ?_) (fun c => ?_))
  · rw [bI_f (fun z => c z.1)] at hh; exact wZ_0 hh
  · have c := Classical.byContradiction c
    refine wR_i hM.1 rfl (wAI_i s hM.r10 (by omega) rfl (by decide) ?_)
    rw [e10]
    have hb : ∀ i, bestP M (mt M 3 s) (o = 1) t (mn M 3) = some i → i < 2 ^ 31 := fun i h => by have := bestP_lt _ _ h; omega
    refine sm_pilotFor hM hI (mt M 3 s) (by omega) (o = 1) t (by omega) rfl rfl rfl (wIf_d _ (oN_m1 hb) (fun d => ?_) (fun d => ?_))
    · rw [bI_f (fun z => z.2.1 d)] at hh; exact wZ_0 hh
    · refine wR_i hM.1 rfl (wAI_i s hM.r10 (by omega) rfl (by decide) ?_)
      rw [e10]
      refine sm_areTugs hM hI (mt M 3 s) (by omega) t (by omega) (o = 1) rfl rfl rfl (tFrom o t) (fun q => by unfold tFrom; rw [if_pos q]; omega) (fun q => by unfold tFrom; rw [if_neg q]) (wIf_d _ bI_0 (fun g => ?_) (fun g => ?_))
      · rw [bI_f (fun z => g z.2.2)] at hh; exact wZ_0 hh
      · rw [bI_t ⟨c, d, Classical.byContradiction g⟩] at hh; exact wZ_1 hh
end
