/-! PURE ROWS: whether a passage can begin, by the law's own count, is whether it can begin -/
/-- the law's rows: n, points, berths, ships, pilots, passages -/
def isLw (h : XH) (M : MS) (an ap ab as_ api aq : Nat) (q : Nat → Nat) : Prop :=
  isNs h an M ∧ isPr h ap 20 (mn M 0) (fun i => nI (mt M 0 i)) (fun i => mg M i) ∧ isPr h ab 6 (mn M 1) (fun i => nI (mt M 1 i)) (fun i => nI (mt M 2 i)) ∧
  isPr h as_ 12 (mn M 2) (fun i => nI (mt M 3 i)) (fun i => nI (mt M 4 i)) ∧ isPr h api 6 (mn M 3) (fun i => nI (mt M 5 i)) (fun i => nI (mt M 6 i)) ∧ isPs h aq M q
section
variable {dc : Nat × Nat} {h : XH} {M : MS} {q : Nat → Nat} {Po : Int32 → Prop} {aq an ap ab as_ api : Nat}
/-- tugs, minute by minute -/
theorem cb_352 (hL : isLw h M an ap ab as_ api aq q) (hI : Inv M) (s t o : Nat) (hs : s < mn M 2) (ho : o ≤ 1) (ht2 : t ≤ 2819) {B : Prop}
    (hb : B ↔ bestP M (mt M 3 s) (o = 1) t (mn M 3) ≠ none ∧ tugOk M (tugsFor (mt M 3 s)) (tFrom o t)) (hh : Po (bI B)) :
    w_L_canBegin_352 dc h (nI s) (nI t) (nI (mn M 4)) aq an as_ api (nI o) (nI (tugsFor (mt M 3 s))) Po 0 := by
  obtain ⟨hN, hP0, hP1, hP2, hP3, hQ⟩ := hL
  have hc := hI.c
  have hsh := hI.ship hs
  have hw3 := tugsFor_le (mt M 3 s)
  refine xloop_up (fun m => nI m) (fun m => 0 < tugsFor (mt M 3 s) → ∀ j, j < m → (o = 1 → j < 40) → (o = 0 → 20 ≤ j) → uAt M (t + j) (mn M 4) + tugsFor (mt M 3 s) ≤ mn M 7) 60 0 (Nat.zero_le _) (fun _ j hj => absurd hj (Nat.not_lt_zero j)) (fun rec m _ hm hP hr => ?_) (fun rec hP => ?_)
  · have go : (0 < tugsFor (mt M 3 s) → (o = 1 → m < 40) → (o = 0 → 20 ≤ m) → uAt M (t + m) (mn M 4) + tugsFor (mt M 3 s) ≤ mn M 7) → rec (nI m + 1) := fun z => by
      have := hr (fun w j hj j1 j2 => by
        by_cases e : j = m
        · subst e; exact z w j1 j2
        · exact hP w j (by omega) j1 j2)
      rw [nI_succ] at this; exact this
    have h381 : (o = 1 → m < 40) → (o = 0 → 20 ≤ m) → w_L_canBegin_381 dc h (nI s) (nI t) (nI (mn M 4)) aq an as_ api (nI o) (nI (tugsFor (mt M 3 s))) (nI m) Po rec := fun m1 m2 => by
      refine wIf_d (tugsFor (mt M 3 s) ≤ 0) (n_le (b := 0) (by omega) (by decide)) (fun c => go (fun w => by omega)) (fun c => ?_)
      have hu := hI.tug (t + m)
      refine ll_tugsAt hQ hI (t + m) (by omega) rfl (nI_add t m) (ns hN 4 (by decide) rfl ?_)
      show wIf (nI (uAt M (t + m) (mn M 4)) + nI (tugsFor (mt M 3 s)) ≤ nI (mn M 7)) _ _
      rw [nI_add]
      refine wIf_d _ (n_le (by omega) (by omega)) (fun k => go (fun _ _ _ => k)) (fun k => ?_)
      rw [bI_f] at hh
      · exact wZ_0 hh
      · rintro hB
        have hB := (hb.mp hB).2
        rcases hB with z | z
        · omega
        · refine k (z (t + m) ?_ ?_)
          · unfold tFrom; split
            · omega
            · have := m2 (by omega); omega
          · unfold tFrom; split
            · rename_i w; have := m1 w; omega
            · omega
    refine wIf_f (nI_ge hm (by decide)) (wIf_d (o = 0) (nI_eq (b := 0) (by omega) (by decide)) (fun c => ?_) (fun c => ?_))
    · exact wIf_d (m < 20) (n_lt (b := 20) (by omega) (by decide)) (fun d => go (fun _ _ w => by have := w c; omega)) (fun d => h381 (fun w => by omega) (fun _ => by omega))
    · exact wIf_d (40 ≤ m) (n_le (a := 40) (by decide) (by omega)) (fun d => go (fun _ w _ => by have := w (by omega); omega)) (fun d => h381 (fun _ => by omega) (fun w => absurd w c))
  · have htug : tugOk M (tugsFor (mt M 3 s)) (tFrom o t) := by
      rcases Nat.eq_zero_or_pos (tugsFor (mt M 3 s)) with z | z
      · exact Or.inl z
      · refine Or.inr (fun k k1 k2 => ?_)
        have e : k = t + (k - t) := by unfold tFrom at k1; split at k1 <;> omega
        rw [e]
        refine hP z (k - t) ?_ (fun w => ?_) (fun w => ?_)
        · unfold tFrom at k2; split at k2 <;> omega
        · unfold tFrom at k2; rw [if_pos w] at k2; omega
        · unfold tFrom at k1; rw [if_neg (by omega)] at k1; omega
    refine wIf_t (by decide) (pr_0 hP2 s hs rfl (ll_pilot hQ hN hP3 hI (mt M 3 s) t o ho (by omega) ht2 rfl rfl rfl rfl ?_))
    cases hbp : bestP M (mt M 3 s) (o = 1) t (mn M 3) with
    | none =>
      refine wIf_t (show (-1 : Int32) < 0 by decide) ?_
      rw [bI_f (fun w => (hb.mp w).1 hbp)] at hh; exact wZ_0 hh
    | some p =>
      have := bestP_lt _ _ hbp
      refine wIf_f (nI_pos (show p < 2 ^ 31 by omega)) ?_
      rw [bI_t (hb.mpr ⟨by rw [hbp]; exact fun w => (by cases w), htug⟩)] at hh; exact wZ_1 hh
/-- the berth and the way, passage by passage; c: the call's berth -/
theorem cb_223 (hL : isLw h M an ap ab as_ api aq q) (hI : Inv M) (s t o b : Nat) (hs : s < mn M 2) (ho : o ≤ 1) (ht2 : t ≤ 2819) {l1 : Int32} (hl1 : o = 0 → b < mn M 1 ∧ l1 = nI b) {B : Prop}
    (hb : B ↔ (¬ o = 1 → bFree M s b t) ∧ apart M o t ∧ bestP M (mt M 3 s) (o = 1) t (mn M 3) ≠ none ∧ tugOk M (tugsFor (mt M 3 s)) (tFrom o t)) (hh : Po (bI B)) :
    w_L_canBegin_223 dc h (nI s) l1 (nI t) (nI (mn M 4)) aq an as_ api (nI o) Po := by
  have hL0 := hL
  obtain ⟨hN, hP0, hP1, hP2, hP3, hQ⟩ := hL
  have hc := hI.c
  have hsh := hI.ship hs
  have no : ¬ B → wZ 0 (Po 0) := fun z => by rw [bI_f z] at hh; exact wZ_0 hh
  refine xloop_up (fun k => nI k) (fun k => ∀ p, p < k → gapOk M o t p ∧ (o = 0 → pO M p = 0 → pA M p = b → pS M p ≠ s → buN M p (mn M 4) ≤ t)) (mn M 4) 0 (Nat.zero_le _) (fun p hp => absurd hp (Nat.not_lt_zero p)) (fun rec k _ hk hP hr => ?_) (fun rec hP => ?_)
  · have hp := hI.pas hk
    have h283 : (o = 0 → pO M k = 0 → pA M k = b → pS M k ≠ s → buN M k (mn M 4) ≤ t) → w_L_canBegin_283 dc h (nI s) l1 (nI t) (nI (mn M 4)) aq an as_ api (nI o) (nI k) Po rec := fun hfree => by
      have h327 : ∀ z : Nat, z ≤ 60 → z = (if pO M k = o then 20 else 60) → w_L_canBegin_327 dc h (nI s) l1 (nI t) (nI (mn M 4)) aq an as_ api (nI o) (nI k) (if 0 ≤ nI (pB M k) - nI t then nI (pB M k) - nI t else 0 - (nI (pB M k) - nI t)) (nI z) Po rec := fun z hz1 hz => by
        have hgo : gapOk M o t k ↔ z ≤ (if pB M k ≤ t then t - pB M k else pB M k - t) := by unfold gapOk; rw [hz]
        rw [abs_nI (by omega) (by omega)]
        refine wIf_d (gapOk M o t k) ((n_le (by omega) (by split <;> omega)).trans hgo.symm) (fun c => ?_) (fun c => no (fun w => c ((hb.mp w).2.1 k hk)))
        have := hr (fun p hp9 => by
          by_cases e : p = k
          · subst e; exact ⟨c, hfree⟩
          · exact hP p (by omega))
        rw [nI_succ] at this; exact this
      have h315 : ∀ z : Int32, z = nI (pO M k) → w_L_canBegin_315 dc h (nI s) l1 (nI t) (nI (mn M 4)) aq an as_ api (nI o) (nI k) (if 0 ≤ nI (pB M k) - nI t then nI (pB M k) - nI t else 0 - (nI (pB M k) - nI t)) z Po rec := fun z hz => by
        subst hz
        exact wIf_d (pO M k = o) (nI_eq (a := pO M k) (b := o) (by omega) (by omega)) (fun c => h327 20 (by decide) (by rw [if_pos c])) (fun c => h327 60 (by decide) (by rw [if_neg c]))
      refine ps hQ k hk 1 (by decide) rfl rfl (ps hQ k hk 5 (by decide) rfl rfl ?_)
      exact wIf_d (pO M k = 1) (nI_eq (a := pO M k) (b := 1) (by omega) (by decide)) (fun c => h315 1 (by rw [c]; rfl)) (fun c => h315 0 (by rw [show pO M k = 0 by omega]; rfl))
    refine wIf_f (nI_ge hk (by omega)) (wIf_d (o = 0) (nI_eq (b := 0) (by omega) (by decide)) (fun c => ?_) (fun c => h283 (fun w => absurd w c)))
    obtain ⟨hb1, hl1⟩ := hl1 c
    subst hl1
    refine ps hQ k hk 5 (by decide) rfl rfl (wIf_d (pO M k = 0) (nI_eq (a := pO M k) (b := 0) (by omega) (by decide)) (fun d => ?_) (fun d => h283 (fun _ w => absurd w d)))
    refine ps hQ k hk 4 (by decide) rfl rfl (wIf_d (pA M k = b) (nI_eq (a := pA M k) (b := b) (by omega) (by omega)) (fun e => ?_) (fun e => h283 (fun _ _ w => absurd w e)))
    refine ps hQ k hk 0 (by decide) rfl rfl (wIf_d (pS M k = s) (nI_eq (a := pS M k) (b := s) (by omega) (by omega)) (fun f => h283 (fun _ _ _ w => absurd f w)) (fun f => ?_))
    refine ll_leaves hQ hI k hk rfl rfl ?_
    have hbl := buN_le hI (i := k) (mn M 4) (Nat.le_refl _)
    have hlv := lvN_lt (M := M) (i := k) (t := t) (by omega)
    have hlv2 : lvN M k ≤ 100000 := by unfold lvN; split <;> omega
    refine wIf_d (lvN M k ≤ t) (n_le (by omega) (by omega)) (fun w => h283 (fun _ _ _ _ => by omega)) (fun w => no (fun z => ?_))
    have := (hb.mp z).1 (by omega) k hk d e f
    omega
  · refine wIf_t (nI_le (Nat.le_refl _) (by omega)) (pr_0 hP2 s hs rfl (ll_tugs hsh.1 rfl (cb_352 hL0 hI s t o hs ho ht2 ?_ hh)))
    refine hb.trans ⟨fun w => w.2.2, fun w => ⟨fun z p p1 p2 p3 p4 => (hP p p1).2 (by omega) p2 p3 p4, fun p p1 => (hP p p1).1, w⟩⟩
/-- water; and the berth's length -/
theorem cb_92 (hL : isLw h M an ap ab as_ api aq q) (hI : Inv M) (s t o b : Nat) (hs : s < mn M 2) (hb1 : b < mn M 1) (ho : o ≤ 1) (ht2 : t ≤ 2819) {l1 : Int32} (hl1 : o = 0 → l1 = nI b) {k : Nat} {l11 : Int32} (hk : o = 1 → k < mn M 4 ∧ l11 = nI k ∧ b = pA M k) {B : Prop}
    (hb : B ↔ canB M s b o t) (hh : Po (bI B)) : w_L_canBegin_92 dc h (nI s) l1 (nI t) (nI (mn M 4)) aq an ap ab as_ api (nI o) l11 Po := by
  have hL0 := hL
  obtain ⟨hN, hP0, hP1, hP2, hP3, hQ⟩ := hL
  have hc := hI.c
  have hsh := hI.ship hs
  have hbe := hI.berth hb1
  have no : ¬ B → wZ 0 (Po 0) := fun z => by rw [bI_f z] at hh; exact wZ_0 hh
  unfold canB at hb
  have tb : ∀ z : Nat, nI z + 60 = nI (z + 60) := fun z => nI_60 z
  have h190 : ∀ (d : Int32) (ta : Nat), d = nI ta → ta < 2880 → (o = 0 → ta = t + 60) → (o = 1 → ta = t) → wtr M s (mn M 5) (if o = 1 then t + 60 else t) → w_L_canBegin_190 dc h (nI s) l1 (nI t) (nI (mn M 4)) aq an ab as_ api (nI o) (need M s) (nI (mt M 2 b)) an ap d Po := fun d ta hd hta ta0 ta1 hw => by
    refine ll_height hN hP0 hI ta hta hd ?_
    refine wIf_d (wtr M s (mt M 2 b) ta) (by unfold wtr; exact Int32.not_lt.symm) (fun hw2 => ?_) (fun hw2 => no (fun z => ?_))
    · refine wIf_d (o = 0) (nI_eq (b := 0) (by omega) (by decide)) (fun c => ?_) (fun c => ?_)
      · have e := hl1 c
        refine pr_0 hP1 b hb1 (by rw [e]) (pr_0 hP2 s hs rfl (wIf_d (mt M 3 s ≤ mt M 1 b) (n_le (by omega) (by omega)) (fun k9 => ?_) (fun k9 => no (fun z => ?_))))
        · refine cb_223 hL0 hI s t o b hs ho ht2 (fun _ => ⟨hb1, e⟩) (hb.trans ⟨fun z => ⟨fun w => (z.2.2.2.1 w).2, z.2.2.2.2⟩, fun z => ⟨by omega, fun w => by omega, fun w => ⟨?_, ?_⟩, fun w => ⟨k9, z.1 w⟩, z.2⟩⟩) hh
          · rw [if_neg w] at hw; exact hw
          · rw [← ta0 c]; exact hw2
        · have := (hb.mp z).2.2.2.1 (by omega)
          omega
      · have c1 : o = 1 := by omega
        refine cb_223 hL0 hI s t o b hs ho ht2 (fun w => absurd w c) (hb.trans ⟨fun z => ⟨fun w => absurd c1 w, z.2.2.2.2⟩, fun z => ⟨by omega, fun w => ⟨?_, ?_⟩, fun w => absurd c1 w, fun w => absurd c1 w, z.2⟩⟩) hh
        · rw [← ta1 c1]; exact hw2
        · rw [if_pos c1] at hw; exact hw
    · rcases (show o = 0 ∨ o = 1 by omega) with c | c
      · have := ((hb.mp z).2.2.1 (by omega)).2
        rw [← ta0 c] at this; exact hw2 this
      · have := ((hb.mp z).2.1 c).1
        rw [← ta1 c] at this; exact hw2 this
  have h155 : ∀ (d : Int32) (tm : Nat), d = nI tm → tm < 2880 → tm = (if o = 1 then t + 60 else t) → ∀ z9 : Int32, z9 = nI b → w_L_canBegin_155 dc h (nI s) l1 (nI t) (nI (mn M 4)) aq an ap ab as_ api (nI o) z9 (need M s) (nI (mn M 5)) an ap d Po := fun d tm hd htm e z9 hz9 => by
    refine ll_height hN hP0 hI tm htm hd (wIf_i (fun c => no (fun z => ?_)) (fun c => ?_))
    · rcases (show o = 0 ∨ o = 1 by omega) with c9 | c9
      · have := ((hb.mp z).2.2.1 (by omega)).1
        rw [if_neg (by omega)] at e; subst e; exact this c
      · have := ((hb.mp z).2.1 c9).2
        rw [if_pos c9] at e; subst e; exact this c
    · have hw : wtr M s (mn M 5) (if o = 1 then t + 60 else t) := by rw [← e]; exact c
      refine pr_1 hP1 b hb1 (by rw [hz9]) (wIf_d (o = 0) (nI_eq (b := 0) (by omega) (by decide)) (fun c9 => ?_) (fun c9 => ?_))
      · exact h190 _ (t + 60) (tb t) (by omega) (fun _ => rfl) (fun w => by omega) hw
      · exact h190 _ t rfl (by omega) (fun w => absurd w c9) (fun _ => rfl) hw
  have h117 : ∀ z9 : Int32, z9 = nI b → w_L_canBegin_117 dc h (nI s) l1 (nI t) (nI (mn M 4)) aq an ap ab as_ api (nI o) z9 Po := fun z9 hz9 => by
    refine pr_1 hP2 s hs rfl (ll_need hN rfl (ns hN 5 (by decide) rfl (wIf_d (o = 0) (nI_eq (b := 0) (by omega) (by decide)) (fun c => ?_) (fun c => ?_))))
    · exact h155 _ t rfl (by omega) (by rw [if_neg (by omega)]) z9 hz9
    · exact h155 _ (t + 60) (tb t) (by omega) (by rw [if_pos (by omega)]) z9 hz9
  refine wIf_t ((n_le (b := 2819) (by omega) (by decide)).mpr ht2) (wIf_d (o = 0) (nI_eq (b := 0) (by omega) (by decide)) (fun c => h117 l1 (hl1 c)) (fun c => ?_))
  obtain ⟨k1, k2, k3⟩ := hk (by omega)
  exact ps hQ k k1 4 (by decide) k2 rfl (h117 _ (by rw [k3]))
theorem beg_iff {M : MS} {s t : Nat} {y : Option Nat} {o b : Nat} (hw : way M s y = some (o, b)) : beg M s y t ↔ sFree M s ≤ t ∧ canB M s b o t :=
  ⟨fun ⟨w, w1, w2, w3⟩ => by rw [hw] at w1; cases w1; exact ⟨w2, w3⟩, fun ⟨w2, w3⟩ => ⟨(o, b), hw, w2, w3⟩⟩
theorem ll_canBegin (hL : isLw h M an ap ab as_ api aq q) (hI : Inv M) (s t : Nat) (hs : s < mn M 2) (ht2 : t ≤ 2819) (y : Option Nat) (hy : ∀ c, y = some c → c < mn M 1) {x1 x2 x3 x4 : Int32} (h1 : x1 = nI s) (h2 : x2 = oN y) (h3 : x3 = nI t) (h4 : x4 = nI (mn M 4)) (hh : Po (bI (beg M s y t))) : w_L_canBegin dc h x1 x2 x3 x4 aq an ap ab as_ api Po := by
  have hL0 := hL
  obtain ⟨hN, hP0, hP1, hP2, hP3, hQ⟩ := hL
  have hc := hI.c
  subst h1 h2 h3 h4
  have no : ¬ beg M s y t → wZ 0 (Po 0) := fun z => by rw [bI_f z] at hh; exact wZ_0 hh
  -- behind the search for the ship's latest passage
  have h64 : ∀ (o i : Nat), o ≤ 1 → i ≤ 1 → (y = none ↔ o = 1) → (i = 1 ↔ ∃ k, lastS M s (mn M 4) = some k ∧ pO M k = 0) → w_L_canBegin_64 dc h (nI s) (oN y) (nI t) (nI (mn M 4)) aq an ap ab as_ api (nI o) (oN (lastS M s (mn M 4))) (nI i) Po := fun o i ho hi hyo hil => by
    refine wIf_d (o = i) (nI_eq (by omega) (by omega)) (fun c => ?_) (fun c => no (fun z => ?_))
    · subst c
      cases hl : lastS M s (mn M 4) with
      | none =>
        have o0 : o = 0 := by
          have : ¬ o = 1 := fun w => by obtain ⟨k, k1, _⟩ := hil.mp w; rw [hl] at k1; cases k1
          omega
        obtain ⟨b, hb⟩ : ∃ b, y = some b := by
          cases y with
          | none => exact absurd (hyo.mp rfl) (by omega)
          | some b => exact ⟨b, rfl⟩
        subst hb
        have hw : way M s (some b) = some (o, b) := by unfold way; rw [hl, o0]
        have hf : sFree M s = 0 := by unfold sFree; rw [hl]
        have hb9 := beg_iff (t := t) hw
        rw [hf] at hb9
        exact wIf_t (show (-1 : Int32) < 0 by decide) (cb_92 (k := 0) hL0 hI s t o b hs (hy b rfl) ho ht2 (fun _ => rfl) (fun w => by omega) (hb9.trans ⟨fun z => z.2, fun z => ⟨Nat.zero_le _, z⟩⟩) hh)
      | some k =>
        obtain ⟨k1, k2, k3⟩ := lastS_spec.1 k hl
        have hpk := hI.pas k1
        have hf : sFree M s = pB M k + 60 := by unfold sFree; rw [hl]
        refine wIf_f (nI_pos (show k < 2 ^ 31 by omega)) (ps hQ k k1 1 (by decide) rfl rfl ?_)
        show wIf (nI t < nI (pB M k) + 60) _ _
        rw [nI_60]
        have hways : ∃ b, way M s y = some (o, b) ∧ b < mn M 1 ∧ (o = 0 → y = some b) ∧ (o = 1 → b = pA M k) := by
          cases y with
          | none =>
            have o1 : o = 1 := hyo.mp rfl
            obtain ⟨k9, q1, q2⟩ := hil.mp o1
            rw [hl] at q1; cases q1
            exact ⟨pA M k, by unfold way; rw [hl]; dsimp only; rw [if_pos q2, o1], hpk.2.2.2.1, fun w => by omega, fun _ => rfl⟩
          | some b =>
            have o1 : ¬ o = 1 := fun w => by have := hyo.mpr w; cases this
            have q2 : pO M k = 1 := by
              have : ¬ pO M k = 0 := fun w => o1 (hil.mpr ⟨k, hl, w⟩)
              omega
            exact ⟨b, by unfold way; rw [hl]; dsimp only; rw [if_pos q2, show o = 0 by omega], hy b rfl, fun _ => rfl, fun w => absurd w o1⟩
        obtain ⟨b, hw, hb1, hy0, hy1⟩ := hways
        have hb9 := beg_iff (t := t) hw
        rw [hf] at hb9
        refine wIf_d (t < pB M k + 60) (n_lt (by omega) (by omega)) (fun d => no (fun z => by have := (hb9.mp z).1; omega)) (fun d => ?_)
        exact cb_92 (k := k) hL0 hI s t o b hs hb1 ho ht2 (fun w => by rw [hy0 w]; rfl) (fun w => ⟨k1, rfl, hy1 w⟩) (hb9.trans ⟨fun z => z.2, fun z => ⟨by omega, z⟩⟩) hh
    · obtain ⟨w, w1, _⟩ := z
      cases hl : lastS M s (mn M 4) with
      | none =>
        have i0 : ¬ i = 1 := fun w => by obtain ⟨k, k1, _⟩ := hil.mp w; rw [hl] at k1; cases k1
        cases y with
        | none => unfold way at w1; rw [hl] at w1; cases w1
        | some b =>
          have : ¬ o = 1 := fun w => by have := hyo.mpr w; cases this
          omega
      | some k =>
        have hpk := hI.pas (lastS_spec.1 k hl).1
        cases y with
        | none =>
          have o1 : o = 1 := hyo.mp rfl
          unfold way at w1; rw [hl] at w1; dsimp only at w1
          by_cases q2 : pO M k = 0
          · exact c (by rw [o1, hil.mpr ⟨k, hl, q2⟩])
          · rw [if_neg q2] at w1; cases w1
        | some b =>
          have o1 : ¬ o = 1 := fun w => by have := hyo.mpr w; cases this
          unfold way at w1; rw [hl] at w1; dsimp only at w1
          by_cases q2 : pO M k = 1
          · have : ¬ i = 1 := fun w => by obtain ⟨k9, q3, q4⟩ := hil.mp w; rw [hl] at q3; cases q3; omega
            omega
          · rw [if_neg q2] at w1; cases w1
  have h9 : ∀ (o : Nat) (z : Int32), z = nI o → o ≤ 1 → (y = none ↔ o = 1) → w_L_canBegin_9 dc h (nI s) (oN y) (nI t) (nI (mn M 4)) aq an ap ab as_ api z Po := fun o z hz ho hyo => by
    subst hz
    refine xloop_up (fun k => (oN (lastS M s k), nI k)) (fun _ => True) (mn M 4) 0 (Nat.zero_le _) trivial (fun rec k _ hk _ hr => ?_) (fun rec _ => ?_)
    · have hr := hr trivial
      have hpk := hI.pas hk
      rw [nI_succ, lastS_succ] at hr
      refine wIf_f (nI_ge hk (by omega)) (ps hQ k hk 0 (by decide) rfl rfl (wIf_d (pS M k = s) (nI_eq (a := pS M k) (b := s) (by omega) (by omega)) (fun c => ?_) (fun c => ?_)))
      · rw [if_pos c] at hr; exact hr
      · rw [if_neg c] at hr; exact hr
    · refine wIf_t (nI_le (Nat.le_refl _) (by omega)) ?_
      cases hl : lastS M s (mn M 4) with
      | none =>
        have := h64 o 0 ho (by decide) hyo ⟨fun w => (by cases w), fun ⟨k, k1, _⟩ => by rw [hl] at k1; cases k1⟩
        rw [hl] at this
        exact wIf_t (show (-1 : Int32) < 0 by decide) this
      | some k =>
        have k1 := (lastS_spec.1 k hl).1
        have hpk := hI.pas k1
        refine wIf_f (nI_pos (show k < 2 ^ 31 by omega)) (ps hQ k k1 5 (by decide) rfl rfl (wIf_d (pO M k = 0) (nI_eq (a := pO M k) (b := 0) (by omega) (by decide)) (fun c => ?_) (fun c => ?_)))
        · have := h64 o 1 ho (by decide) hyo ⟨fun _ => ⟨k, hl, c⟩, fun _ => rfl⟩
          rw [hl] at this
          exact this
        · have := h64 o 0 ho (by decide) hyo ⟨fun w => (by cases w), fun ⟨k9, q1, q2⟩ => by rw [hl] at q1; cases q1; exact absurd q2 c⟩
          rw [hl] at this
          exact this
  cases y with
  | none => exact wIf_f (show ¬ (0 : Int32) ≤ -1 by decide) (h9 1 1 rfl (by decide) ⟨fun _ => rfl, fun _ => rfl⟩)
  | some b =>
    have := hy b rfl
    exact wIf_t (Int32.not_lt.mp (nI_pos (show b < 2 ^ 31 by omega))) (h9 0 0 rfl (by decide) ⟨fun w => (by cases w), fun w => (by cases w)⟩)
end
