/-! PURE ROWS: the class's readers: water, tugs, the way, pilots, when a passage can begin -/
def isW (h : XH) (g : Nat → Nat → Nat) (M : MS) (q s b o : Nat) : Prop := h q = some (.inr (4, [.ref (g 2 s), .ref (g 1 b), .int (nI o), .int (nI (tugsFor (mt M 3 s)))]))
/-- tugs are enough: seen at the first minute and where more come into use -/
def hT (M : MS) (w f : Nat) : Prop := uAt M f (mn M 4) + w ≤ mn M 7 ∧ ∀ i, i < mn M 4 → f < tFrom (pO M i) (pB M i) → tFrom (pO M i) (pB M i) < f + 40 → uAt M (tFrom (pO M i) (pB M i)) (mn M 4) + w ≤ mn M 7
theorem uAt_succ (M : MS) (t n : Nat) : uAt M t (n + 1) = uAt M t n + if tFrom (pO M n) (pB M n) ≤ t ∧ t ≤ tFrom (pO M n) (pB M n) + 39 then pT M n else 0 := rfl
theorem uAt_mono {M : MS} {t u : Nat} : ∀ n, (∀ i, i < n → (tFrom (pO M i) (pB M i) ≤ t ∧ t ≤ tFrom (pO M i) (pB M i) + 39) → (tFrom (pO M i) (pB M i) ≤ u ∧ u ≤ tFrom (pO M i) (pB M i) + 39)) → uAt M t n ≤ uAt M u n := by
  intro n
  induction n with
  | zero => intro _; exact Nat.le_refl _
  | succ n ih =>
    intro h
    have h1 := ih (fun i hi => h i (by omega))
    rw [uAt_succ, uAt_succ]
    by_cases c : tFrom (pO M n) (pB M n) ≤ t ∧ t ≤ tFrom (pO M n) (pB M n) + 39
    · rw [if_pos c, if_pos (h n (Nat.lt_succ_self _) c)]; omega
    · rw [if_neg c]; omega
theorem hT_iff {M : MS} (hI : Inv M) (w f : Nat) : hT M w f ↔ tugOk M w f := by
  constructor
  · intro ⟨h1, h2⟩
    refine Or.inr ?_
    have key : ∀ n k, k = f + n → k < f + 40 → uAt M k (mn M 4) + w ≤ mn M 7 := by
      intro n
      induction n with
      | zero => intro k hk _; rw [hk]; exact h1
      | succ n ih =>
        intro k hk hk2
        by_cases c : ∃ i, i < mn M 4 ∧ tFrom (pO M i) (pB M i) = k
        · obtain ⟨i, c1, c2⟩ := c
          have := h2 i c1 (by omega) (by omega)
          rw [c2] at this; exact this
        · have h3 := ih (k - 1) (by omega) (by omega)
          have h4 : uAt M k (mn M 4) ≤ uAt M (k - 1) (mn M 4) := uAt_mono _ (fun i hi z => by
            have : tFrom (pO M i) (pB M i) ≠ k := fun q => c ⟨i, hi, q⟩
            omega)
          omega
    intro k h3 h4
    exact key (k - f) k (by omega) h4
  · intro h
    rcases h with h | h
    · subst h
      exact ⟨hI.tug f, fun i _ _ _ => hI.tug _⟩
    · exact ⟨h f (Nat.le_refl _) (by omega), fun i _ h2 h3 => h _ (by omega) h3⟩
/-- what the class asks of a minute -/
def cB (M : MS) (s b o t : Nat) : Prop := apart M o t ∧ wtr M s (mn M 5) (if o = 0 then t else t + 60) ∧ wtr M s (mt M 2 b) (if o = 0 then t + 60 else t) ∧ hT M (tugsFor (mt M 3 s)) (tFrom o t) ∧ bestP M (mt M 3 s) (o = 1) t (mn M 3) ≠ none
section
variable {dc : Nat × Nat} {h : XH} {x : Nat} {g : Nat → Nat → Nat} {M : MS} {Po : Int32 → Prop}
theorem sb_heightAt (hB : isB dc h x g M) (hI : Inv M) (t : Nat) (ht2 : t < 2880) {y : Int32} (hy : y = nI t) (hh : Po (ht M t)) : wR h x 7 0 (fun a => wO h a 6 (w_X5_heightAt dc h a y Po)) :=
  wR_i hB.1 rfl (wO_i hB.T.1 (st_heightAt hB.T hI t ht2 hy hh))
theorem sb_waterNeed (hB : isB dc h x g M) (s : Nat) (hs : s < mn M 2) (hh : Po (need M s)) : w_X6_waterNeed dc h x (g 2 s) Po :=
  wI_i (hB.ship hs) rfl (wI_i (hB.ship hs) rfl ⟨by decide, wI_i hB.1 rfl hh⟩)
theorem sb_hasWater (hB : isB dc h x g M) (hI : Inv M) (s : Nat) (hs : s < mn M 2) (d : Nat) (t : Nat) (ht2 : t < 2880) {y z : Int32} (hy : y = nI d) (hz : z = nI t) (hh : Po (bI (wtr M s d t))) : w_X6_hasWater dc h x (g 2 s) y z Po := by
  subst hy
  refine wO_i hB.1 (sb_heightAt hB hI t ht2 hz (sb_waterNeed hB s hs (wIf_i (fun c => ?_) (fun c => ?_))))
  · rw [bI_f (fun z => z c)] at hh; exact wZ_0 hh
  · rw [bI_t (c := wtr M s d t) c] at hh; exact wZ_1 hh
theorem sb_tugsFromW {q : Nat} {fs : List Value} (o t : Nat) (hq : h q = some (.inr (4, fs))) (ho : fs[2]? = some (.int (nI o))) (ho2 : o ≤ 1) {y : Int32} (hy : y = nI t) (hh : Po (nI (tFrom o t))) : w_X3_tugsFrom dc h q y Po := by
  subst hy
  refine wI_i hq ho (wIf_d (o = 0) (nI_eq (b := 0) (by omega) (by decide)) (fun c => ?_) (fun c => ?_))
  · have e : (nI t + 60) - 40 = nI (tFrom o t) := by
      rw [nI_60, show (40 : Int32) = nI 40 from rfl, pk_sub (by omega)]
      unfold tFrom; rw [if_neg (by omega)]; congr 1
    rw [e]; exact hh
  · have e : nI t = nI (tFrom o t) := by unfold tFrom; rw [if_pos (by omega)]; rfl
    rw [e]; exact hh
theorem sb_tugsFromP (hB : isB dc h x g M) (hI : Inv M) (i : Nat) (hi : i < mn M 4) (hh : Po (nI (tFrom (pO M i) (pB M i)))) : w_X1_tugsFrom dc h (g 4 i) Po := by
  have hp := hI.pas hi
  exact wR_i (hB.pas hi) rfl (wI_i (hB.pas hi) rfl (wO_i (hB.way hi) (sb_tugsFromW (pO M i) (pB M i) (hB.way hi) rfl (by omega) rfl hh)))
theorem tFrom_le (o t : Nat) : tFrom o t ≤ t + 20 := by unfold tFrom; split <;> omega
theorem sb_tugsInUse (hB : isB dc h x g M) (hI : Inv M) (t : Nat) (ht2 : t < 3000) {y : Int32} (hy : y = nI t) (hh : Po (nI (uAt M t (mn M 4)))) : w_X6_tugsInUse dc h x y Po := by
  have hc := hI.c
  subst hy
  refine xloop_up (fun i => (nI (uAt M t i), nI i)) (fun _ => True) (mn M 4) 0 (Nat.zero_le _) trivial (fun rec i _ hi _ hr => ?_) (fun rec _ => ?_)
  · have hr := hr trivial
    rw [nI_succ, uAt_succ] at hr
    have hp := hI.pas hi
    have hf := tFrom_le (pO M i) (pB M i)
    refine sb_size hB 4 (by decide) (by decide) (wIf_f (nI_ge hi (by omega)) (sb_el hB hI 4 (by decide) (by decide) i hi rfl (wO_i (hB.pas hi) (sb_tugsFromP hB hI i hi ?_))))
    refine wIf_d (t < tFrom (pO M i) (pB M i)) (n_lt (by omega) (by omega)) (fun c => ?_) (fun c => ?_)
    · rw [if_neg (by omega)] at hr; exact hr
    have e : nI (tFrom (pO M i) (pB M i)) + 40 = nI (tFrom (pO M i) (pB M i) + 40) := nI_add _ 40
    rw [e]
    refine wIf_d (tFrom (pO M i) (pB M i) + 40 ≤ t) (n_le (by omega) (by omega)) (fun d => ?_) (fun d => ?_)
    · rw [if_neg (by omega)] at hr; exact hr
    · rw [if_pos (by omega)] at hr
      refine wR_i (hB.pas hi) rfl (wI_i (hB.way hi) rfl ?_)
      show rec (nI (uAt M t i) + nI (pT M i), nI i + 1)
      rw [nI_add (uAt M t i) (pT M i)]; exact hr
  · exact sb_size hB 4 (by decide) (by decide) (wIf_t (nI_le (Nat.le_refl _) (by omega)) hh)
theorem sub_le {u a w : Nat} (h1 : u < 2 ^ 30) (h2 : a < 2 ^ 30) (h3 : w < 2 ^ 30) : nI u ≤ nI a - nI w ↔ u + w ≤ a := by
  rw [Int32.le_iff_toInt_le, pk_sub_toInt h2 h3, nI_toInt (by omega)]; omega
theorem sb_hasTugs (hB : isB dc h x g M) (hI : Inv M) (s b o q : Nat) (hW : isW h g M q s b o) (ho : o ≤ 1) (t : Nat) (ht2 : t ≤ 2880) {y : Int32} (hy : y = nI t) (hh : Po (bI (hT M (tugsFor (mt M 3 s)) (tFrom o t)))) : w_X6_hasTugs dc h x q y Po := by
  have hc := hI.c
  have hw3 := tugsFor_le (mt M 3 s)
  have hf3 := tFrom_le o t
  have hu := hI.tug (tFrom o t)
  refine wO_i hB.1 (wO_i hW (sb_tugsFromW o t hW rfl ho hy (wI_i hB.1 rfl (wI_i hW rfl (sb_tugsInUse hB hI (tFrom o t) (by omega) rfl ?_)))))
  refine wIf_d _ (sub_le (by omega) (by omega) (by omega)) (fun c => ?_) (fun c => ?_)
  · refine xloop_up (fun i => nI i) (fun i => ∀ j, j < i → tFrom o t < tFrom (pO M j) (pB M j) → tFrom (pO M j) (pB M j) < tFrom o t + 40 → uAt M (tFrom (pO M j) (pB M j)) (mn M 4) + tugsFor (mt M 3 s) ≤ mn M 7) (mn M 4) 0 (Nat.zero_le _) (fun j hj => absurd hj (Nat.not_lt_zero j)) (fun rec i _ hi hP hr => ?_) (fun rec hP => ?_)
    · have hp := hI.pas hi
      have hf := tFrom_le (pO M i) (pB M i)
      have hu2 := hI.tug (tFrom (pO M i) (pB M i))
      have go : (tFrom o t < tFrom (pO M i) (pB M i) → tFrom (pO M i) (pB M i) < tFrom o t + 40 → uAt M (tFrom (pO M i) (pB M i)) (mn M 4) + tugsFor (mt M 3 s) ≤ mn M 7) → rec (nI i + 1) := fun k => by
        have := hr (fun j hj => by
          by_cases e : j = i
          · subst e; exact k
          · exact hP j (by omega))
        rw [nI_succ] at this; exact this
      refine sb_size hB 4 (by decide) (by decide) (wIf_f (nI_ge hi (by omega)) (sb_el hB hI 4 (by decide) (by decide) i hi rfl (wO_i (hB.pas hi) (sb_tugsFromP hB hI i hi ?_))))
      refine wIf_d (tFrom (pO M i) (pB M i) ≤ tFrom o t) (n_le (by omega) (by omega)) (fun d => go (fun z => by omega)) (fun d => ?_)
      have e : nI (tFrom o t) + 40 = nI (tFrom o t + 40) := nI_add _ 40
      rw [e]
      refine wIf_d (tFrom o t + 40 ≤ tFrom (pO M i) (pB M i)) (n_le (by omega) (by omega)) (fun d2 => go (fun _ z => by omega)) (fun d2 => ?_)
      refine sb_tugsInUse hB hI _ (by omega) rfl (wIf_d _ (sub_le (by omega) (by omega) (by omega)) (fun k => go (fun _ _ => k)) (fun k => ?_))
      rw [bI_f (fun z => k (z.2 i hi (by omega) (by omega)))] at hh; exact wZ_0 hh
    · refine sb_size hB 4 (by decide) (by decide) (wIf_t (nI_le (Nat.le_refl _) (by omega)) ?_)
      rw [bI_t (c := hT M (tugsFor (mt M 3 s)) (tFrom o t)) ⟨c, hP⟩] at hh; exact wZ_1 hh
  · rw [bI_f (fun z => c z.1)] at hh; exact wZ_0 hh
theorem abs_nI {a t : Nat} (h1 : a < 2 ^ 30) (h2 : t < 2 ^ 30) : (if 0 ≤ (nI a - nI t) then (nI a - nI t) else 0 - (nI a - nI t)) = nI (if a ≤ t then t - a else a - t) := by
  have e1 := pk_sub_toInt (a := a) (b := t) h1 h2
  by_cases c : a ≤ t
  · rw [if_pos c]
    by_cases c2 : 0 ≤ (nI a - nI t)
    · rw [if_pos c2]
      rw [Int32.le_iff_toInt_le, e1] at c2
      have h0 : (0 : Int32).toInt = 0 := rfl
      have : a = t := by omega
      rw [this, pk_sub (Nat.le_refl _)]
    · rw [if_neg c2]
      apply Int32.toInt_inj.mp
      rw [nI_toInt (by omega)]
      have e2 := pk_sub_toInt (a := t) (b := a) (by omega) (by omega)
      have e3 : (0 : Int32) - (nI a - nI t) = nI t - nI a := by simp [Int32.sub_eq_add_neg, Int32.neg_add, Int32.add_comm]
      rw [e3, e2]; omega
  · rw [if_neg c]
    have c2 : 0 ≤ (nI a - nI t) := by
      rw [Int32.le_iff_toInt_le, e1]
      have h0 : (0 : Int32).toInt = 0 := rfl
      omega
    rw [if_pos c2]
    exact pk_sub (by omega)
theorem sb_hasClearWay (hB : isB dc h x g M) (hI : Inv M) (s b o q : Nat) (hW : isW h g M q s b o) (ho : o ≤ 1) (t : Nat) (ht2 : t ≤ 2880) {y : Int32} (hy : y = nI t) (hh : Po (bI (apart M o t))) : w_X6_hasClearWay dc h x q y Po := by
  have hc := hI.c
  subst hy
  refine xloop_up (fun i => nI i) (fun i => ∀ p, p < i → gapOk M o t p) (mn M 4) 0 (Nat.zero_le _) (fun p hp => absurd hp (Nat.not_lt_zero p)) (fun rec i _ hi hP hr => ?_) (fun rec hP => ?_)
  · have hp := hI.pas hi
    have h48 : ∀ k : Nat, k ≤ 60 → k = (if pO M i = o then 20 else 60) → w_X6_hasClearWay_48 dc h x q (nI t) (nI i) (g 4 i) (nI k) Po rec := by
      intro k hk9 hk
      have hgo : gapOk M o t i ↔ k ≤ (if pB M i ≤ t then t - pB M i else pB M i - t) := by unfold gapOk; rw [hk]
      refine wI_i (hB.pas hi) rfl ?_
      rw [abs_nI (by omega) (by omega)]
      refine wIf_d (gapOk M o t i) ((n_le (by omega) (by split <;> omega)).trans hgo.symm) (fun c => ?_) (fun c => ?_)
      · have := hr (fun p hp => by
          by_cases e : p = i
          · subst e; exact c
          · exact hP p (by omega))
        rw [nI_succ] at this; exact this
      · rw [bI_f (fun z => c (z i hi))] at hh; exact wZ_0 hh
    refine sb_size hB 4 (by decide) (by decide) (wIf_f (nI_ge hi (by omega)) (sb_el hB hI 4 (by decide) (by decide) i hi rfl (wO_i (hB.pas hi) ?_)))
    refine wR_i (hB.pas hi) rfl (wI_i (hB.way hi) rfl (wI_i hW rfl (wIf_d (pO M i = o) (nI_eq (a := pO M i) (b := o) (by omega) (by omega)) (fun c => ?_) (fun c => ?_))))
    · exact h48 20 (by decide) (by rw [if_pos c])
    · exact h48 60 (by decide) (by rw [if_neg c])
  · refine sb_size hB 4 (by decide) (by decide) (wIf_t (nI_le (Nat.le_refl _) (by omega)) ?_)
    rw [bI_t (c := apart M o t) hP] at hh; exact wZ_1 hh
theorem sb_endsInPort (hB : isB dc h x g M) (hI : Inv M) (p : Nat) (hp : p < mn M 3) (hh : Po (bI (port M p (mn M 4)))) : w_X2_endsInPort dc h (g 3 p) Po := by
  have hpl := hI.pilot hp
  have hpb := hB.pilot hp
  unfold port at hh
  cases hl : lastP M p (mn M 4) with
  | none =>
    rw [hl] at hh hpb
    refine wQ_i none hpb rfl (wOpt_n (wI_i hpb rfl ?_))
    have e : nI (mt M 6 p) = bI (mt M 6 p = 1) := by
      by_cases c : mt M 6 p = 1
      · rw [bI_t c, c]; rfl
      · rw [bI_f c, show mt M 6 p = 0 by omega]; rfl
    rw [e]; exact wZ_b hh
  | some i =>
    rw [hl] at hh hpb
    have hi := (lastP_spec.1 i hl).1
    have hpi := hI.pas hi
    refine wQ_i (some (g 4 i)) hpb rfl (wOpt_s (wQ_i (some (g 4 i)) hpb rfl (wDer_i (wR_i (hB.pas hi) rfl (wI_i (hB.way hi) rfl (wIf_d (pO M i = 0) (nI_eq (a := pO M i) (b := 0) (by omega) (by decide)) (fun c => ?_) (fun c => ?_)))))))
    · dsimp only at hh; rw [bI_t c] at hh; exact wZ_1 hh
    · dsimp only at hh; rw [bI_f c] at hh; exact wZ_0 hh
theorem sb_latestEnd (hB : isB dc h x g M) (hI : Inv M) (p : Nat) (hp : p < mn M 3) (hh : Po (pEnd M p (mn M 4))) : w_X2_latestEnd dc h (g 3 p) Po := by
  have hpb := hB.pilot hp
  unfold pEnd at hh
  cases hl : lastP M p (mn M 4) with
  | none =>
    rw [hl] at hh hpb
    exact wQ_i none hpb rfl (wOpt_n hh)
  | some i =>
    rw [hl] at hh hpb
    have hi := (lastP_spec.1 i hl).1
    refine wQ_i (some (g 4 i)) hpb rfl (wOpt_s (wQ_i (some (g 4 i)) hpb rfl (wDer_i (wO_i (hB.pas hi) (wI_i (hB.pas hi) rfl ?_)))))
    rw [nI_60]; exact hh
theorem sb_canTake (hB : isB dc h x g M) (hI : Inv M) (p : Nat) (hp : p < mn M 3) (s b o q : Nat) (hW : isW h g M q s b o) (hs : s < mn M 2) (ho : o ≤ 1) (t : Nat) (ht2 : t ≤ 2880) {y : Int32} (hy : y = nI t) (hh : Po (bI (ready M p (mt M 3 s) (o = 1) t))) : w_X2_canTake dc h (g 3 p) q y Po := by
  have hpl := hI.pilot hp
  have hsh := hI.ship hs
  have hpb := hB.pilot hp
  subst hy
  refine wO_i hpb (wI_i hpb rfl (wR_i hW rfl (wI_i (hB.ship hs) rfl (wIf_d (mt M 3 s ≤ mt M 5 p) (n_le (by omega) (by omega)) (fun c => ?_) (fun c => ?_)))))
  · refine sb_endsInPort hB hI p hp (wI_i hW rfl ?_)
    have h33 : ∀ k : Nat, k ≤ 60 → (((port M p (mn M 4) ↔ o = 1) → k = 0) ∧ (¬ (port M p (mn M 4) ↔ o = 1) → k = 60)) → w_X2_canTake_33 dc h (g 3 p) (nI t) (nI k) Po := by
      intro k hk hk2
      unfold ready at hh
      cases hl : lastP M p (mn M 4) with
      | none =>
        rw [hl] at hh hpb; dsimp only at hh
        refine wQ_i none hpb rfl (wOpt_n (wIf_d (t < k) (n_lt (by omega) (by omega)) (fun d => ?_) (fun d => ?_)))
        · rw [bI_f (fun z => z.2.elim (fun z => by have := hk2.1 z; omega) (fun z => by omega))] at hh; exact wZ_0 hh
        · rw [bI_t ⟨c, (Classical.em (port M p (mn M 4) ↔ o = 1)).elim Or.inl (fun z => Or.inr (by have := hk2.2 z; omega))⟩] at hh; exact wZ_1 hh
      | some i =>
        rw [hl] at hh hpb; dsimp only at hh
        have hi := (lastP_spec.1 i hl).1
        have hpi := hI.pas hi
        refine wQ_i (some (g 4 i)) hpb rfl (wOpt_s (wQ_i (some (g 4 i)) hpb rfl (wDer_i (wO_i (hB.pas hi) (wI_i (hB.pas hi) rfl ?_)))))
        show wIf (nI t < nI (pB M i) + 60 + 30 + nI k) _ _
        rw [nI_60, show nI (pB M i + 60) + 30 = nI (pB M i + 60 + 30) from nI_add _ 30, nI_add]
        refine wIf_d (t < pB M i + 60 + 30 + k) (n_lt (by omega) (by omega)) (fun d => ?_) (fun d => ?_)
        · rw [bI_f (fun z => by
            by_cases w : (port M p (mn M 4) ↔ o = 1)
            · have := z.2.1 w; have := hk2.1 w; omega
            · have := z.2.2 w; have := hk2.2 w; omega)] at hh
          exact wZ_0 hh
        · rw [bI_t ⟨c, fun w => by have := hk2.1 w; omega, fun w => by have := hk2.2 w; omega⟩] at hh
          exact wZ_1 hh
    have eo : nI o = bI (o = 1) := by
      by_cases c : o = 1
      · rw [bI_t c, c]; rfl
      · rw [bI_f c, show o = 0 by omega]; rfl
    rw [eo]
    refine wIf_d (port M p (mn M 4) ↔ o = 1) bI_eq (fun d => ?_) (fun d => ?_)
    · exact h33 0 (by decide) ⟨fun _ => rfl, fun z => absurd d z⟩
    · exact h33 60 (by decide) ⟨fun z => absurd z d, fun _ => rfl⟩
  · rw [bI_f (fun z => c z.1)] at hh; exact wZ_0 hh
theorem sb_pilotFor {Po : Option Nat → Prop} (hB : isB dc h x g M) (hI : Inv M) (s b o q : Nat) (hW : isW h g M q s b o) (hs : s < mn M 2) (ho : o ≤ 1) (t : Nat) (ht2 : t ≤ 2880) {y : Int32} (hy : y = nI t) (hh : Po ((bestP M (mt M 3 s) (o = 1) t (mn M 3)).map (g 3))) : w_X6_pilotFor dc h x q y Po := by
  have hc := hI.c
  refine xloop_up (fun i => ((bestP M (mt M 3 s) (o = 1) t i).map (g 3), nI i)) (fun _ => True) (mn M 3) 0 (Nat.zero_le _) trivial (fun rec i _ hi _ hr => ?_) (fun rec _ => ?_)
  · have hr := hr trivial
    rw [nI_succ] at hr
    refine sb_size hB 3 (by decide) (by decide) (wIf_f (nI_ge hi (by omega)) (sb_el hB hI 3 (by decide) (by decide) i hi rfl (wO_i (hB.pilot hi) (sb_canTake hB hI i hi s b o q hW hs ho t ht2 hy (wIf_d _ bI_0 (fun c => ?_) (fun c => ?_))))))
    · rw [bestP_succ_f c] at hr; exact hr
    · rw [bestP_succ_t (Classical.byContradiction c)] at hr
      cases hb : bestP M (mt M 3 s) (o = 1) t i with
      | none => rw [hb] at hr; exact wOpt_n hr
      | some k =>
        rw [hb] at hr; unfold pick at hr; dsimp only at hr
        have hk := bestP_lt _ _ hb
        refine wOpt_s (sb_latestEnd hB hI i hi (wO_i (hB.pilot (i := k) (by omega)) (sb_latestEnd hB hI k (by omega) (wIf_i (fun d => ?_) (fun d => ?_)))))
        · rw [if_neg (Int32.not_lt.mpr d)] at hr; exact hr
        · rw [if_pos (Int32.not_le.mp d)] at hr; exact hr
  · exact sb_size hB 3 (by decide) (by decide) (wIf_t (nI_le (Nat.le_refl _) (by omega)) hh)
theorem sb_canBegin (hB : isB dc h x g M) (hI : Inv M) (s b o q : Nat) (hW : isW h g M q s b o) (hs : s < mn M 2) (hb : b < mn M 1) (ho : o ≤ 1) (t : Nat) (ht2 : t ≤ 2819) {y : Int32} (hy : y = nI t) (hh : Po (bI (cB M s b o t))) : w_X6_canBegin dc h x q y Po := by
  have hc := hI.c
  unfold cB at hh
  refine wO_i hB.1 (sb_hasClearWay hB hI s b o q hW ho t (by omega) hy (wIf_d _ bI_0 (fun c => ?_) (fun c => ?_)))
  · rw [bI_f (fun z => c z.1)] at hh; exact wZ_0 hh
  have c1 := Classical.byContradiction c
  have hbar : ∀ {P : Int32 → Prop}, P (nI (if o = 0 then t else t + 60)) → w_X3_barMinute dc h q y P := fun {P} k => by
    refine wI_i hW rfl (wIf_d (o = 0) (nI_eq (b := 0) (by omega) (by decide)) (fun d => ?_) (fun d => ?_))
    · rw [if_pos d] at k; rw [hy]; exact k
    · rw [if_neg d] at k; rw [hy, nI_60]; exact k
  have hber : ∀ {P : Int32 → Prop}, P (nI (if o = 0 then t + 60 else t)) → w_X3_berthMinute dc h q y P := fun {P} k => by
    refine wI_i hW rfl (wIf_d (o = 0) (nI_eq (b := 0) (by omega) (by decide)) (fun d => ?_) (fun d => ?_))
    · rw [if_pos d] at k; rw [hy, nI_60]; exact k
    · rw [if_neg d] at k; rw [hy]; exact k
  refine wR_i hW rfl (wI_i hB.1 rfl (wO_i hW (hbar (sb_hasWater hB hI s hs (mn M 5) _ (by split <;> omega) rfl rfl (wIf_d _ bI_0 (fun c => ?_) (fun c => ?_))))))
  · rw [bI_f (fun z => c z.2.1)] at hh; exact wZ_0 hh
  have c2 := Classical.byContradiction c
  refine wR_i hW rfl (wR_i hW rfl (wI_i (hB.berth hb) rfl (hber (sb_hasWater hB hI s hs (mt M 2 b) _ (by split <;> omega) rfl rfl (wIf_d _ bI_0 (fun c => ?_) (fun c => ?_))))))
  · rw [bI_f (fun z => c z.2.2.1)] at hh; exact wZ_0 hh
  have c3 := Classical.byContradiction c
  refine sb_hasTugs hB hI s b o q hW ho t (by omega) hy (wIf_d _ bI_0 (fun c => ?_) (fun c => ?_))
  · rw [bI_f (fun z => c z.2.2.2.1)] at hh; exact wZ_0 hh
  have c4 := Classical.byContradiction c
  refine sb_pilotFor hB hI s b o q hW hs ho t (by omega) hy ?_
  cases hp : bestP M (mt M 3 s) (o = 1) t (mn M 3) with
  | none => rw [bI_f (fun z => z.2.2.2.2 hp)] at hh; exact wOpt_n (wZ_0 hh)
  | some p => rw [bI_t ⟨c1, c2, c3, c4, by rw [hp]; exact fun z => by cases z⟩] at hh; exact wOpt_s (wZ_1 hh)
end
