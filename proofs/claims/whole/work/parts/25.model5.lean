/-! PURE ROWS: the reference's canBegin, earliestFor, why, window, least -/
/-- where a ship s that is asked for y (a berth, or none: outbound) can go now: the way (0 inbound, 1 outbound) and the berth -/
def way (M : MS) (s : Nat) (y : Option Nat) : Option (Nat × Nat) := match lastS M s (mn M 4), y with
  | none, some b => some (0, b)
  | none, none => none
  | some i, some b => if pO M i = 1 then some (0, b) else none
  | some i, none => if pO M i = 0 then some (1, pA M i) else none
/-- when its latest passage is over -/
def sFree (M : MS) (s : Nat) : Nat := match lastS M s (mn M 4) with
  | none => 0
  | some i => pB M i + 60
def beg (M : MS) (s : Nat) (y : Option Nat) (t : Nat) : Prop := ∃ w, way M s y = some w ∧ sFree M s ≤ t ∧ canB M s w.2 w.1 t
/-- the first t from a on, ahead of e -/
noncomputable def fstT (P : Nat → Prop) : Nat → Nat → Option Nat
  | 0, _ => none
  | n + 1, a => @ite _ (P a) (Classical.propDecidable _) (some a) (fstT P n (a + 1))
noncomputable def fst (P : Nat → Prop) (a e : Nat) : Option Nat := fstT P (e - a) a
theorem fstT_none {P : Nat → Prop} : ∀ n a, (∀ t, a ≤ t → t < a + n → ¬ P t) → fstT P n a = none := by
  intro n
  induction n with
  | zero => intro a _; rfl
  | succ n ih =>
    intro a h
    unfold fstT
    rw [if_neg (h a (Nat.le_refl _) (by omega))]
    exact ih (a + 1) (fun t h1 h2 => h t (by omega) (by omega))
theorem fstT_some {P : Nat → Prop} : ∀ n a t, a ≤ t → t < a + n → P t → (∀ t', a ≤ t' → t' < t → ¬ P t') → fstT P n a = some t := by
  intro n
  induction n with
  | zero => intro a t h1 h2; omega
  | succ n ih =>
    intro a t h1 h2 h3 h4
    unfold fstT
    by_cases c : a = t
    · subst c; rw [if_pos h3]
    · rw [if_neg (h4 a (Nat.le_refl _) (by omega))]
      exact ih (a + 1) t (by omega) (by omega) h3 (fun t' h5 h6 => h4 t' (by omega) h6)
theorem fst_none {P : Nat → Prop} {a e : Nat} (h : ∀ t, a ≤ t → t < e → ¬ P t) : fst P a e = none := fstT_none _ _ (fun t h1 h2 => h t h1 (by omega))
theorem fst_some {P : Nat → Prop} {a e t : Nat} (h1 : a ≤ t) (h2 : t < e) (h3 : P t) (h4 : ∀ t', a ≤ t' → t' < t → ¬ P t') : fst P a e = some t := fstT_some _ _ _ h1 (by omega) h3 h4
theorem fstT_in {P : Nat → Prop} : ∀ n a t, fstT P n a = some t → a ≤ t ∧ t < a + n ∧ P t := by
  intro n
  induction n with
  | zero => intro a t h; cases h
  | succ n ih =>
    intro a t h
    unfold fstT at h
    by_cases c : P a
    · rw [if_pos c] at h; cases h; exact ⟨Nat.le_refl _, by omega, c⟩
    · rw [if_neg c] at h; have := ih _ _ h; exact ⟨by omega, by omega, this.2.2⟩
theorem fst_in {P : Nat → Prop} {a e t : Nat} (h : fst P a e = some t) : a ≤ t ∧ t < e ∧ P t := by
  have := fstT_in _ _ _ h
  exact ⟨this.1, by omega, this.2.2⟩
theorem fstT_congr {P Q : Nat → Prop} : ∀ n a, (∀ t, a ≤ t → t < a + n → (P t ↔ Q t)) → fstT P n a = fstT Q n a := by
  intro n
  induction n with
  | zero => intro a _; rfl
  | succ n ih =>
    intro a h
    unfold fstT
    rw [ih (a + 1) (fun t h1 h2 => h t (by omega) (by omega))]
    by_cases c : P a
    · rw [if_pos c, if_pos ((h a (Nat.le_refl _) (by omega)).mp c)]
    · rw [if_neg c, if_neg (fun z => c ((h a (Nat.le_refl _) (by omega)).mpr z))]
theorem fst_congr {P Q : Nat → Prop} {a e : Nat} (h : ∀ t, a ≤ t → t < e → (P t ↔ Q t)) : fst P a e = fst Q a e := fstT_congr _ _ (fun t h1 h2 => h t h1 (by omega))
/-- skipping minutes at which it is false -/
theorem fst_skip {P : Nat → Prop} {a b e : Nat} (hab : a ≤ b) (h : ∀ t, a ≤ t → t < b → ¬ P t) : fst P a e = fst P b e := by
  cases hb : fst P b e with
  | some t =>
    have h1 := fst_in hb
    have h2 : ∀ t', b ≤ t' → t' < t → ¬ P t' := by
      intro t' h3 h4 h5
      have key : ∀ n a, a ≤ t' → t' < a + n → P t' → ∀ u, fstT P n a = some u → u ≤ t' := by
        intro n
        induction n with
        | zero => intro a _ _ _ u h; cases h
        | succ n ih =>
          intro a q1 q2 q3 u hu
          unfold fstT at hu
          by_cases c : P a
          · rw [if_pos c] at hu; cases hu; exact q1
          · rw [if_neg c] at hu
            by_cases d : a = t'
            · subst d; exact absurd q3 c
            · exact ih (a + 1) (by omega) (by omega) q3 u hu
      have := key (e - b) b h3 (by omega) h5 t hb
      omega
    exact fst_some (by omega) h1.2.1 h1.2.2 (fun t' h3 h4 => by
      by_cases c : t' < b
      · exact h t' h3 c
      · exact h2 t' (by omega) h4)
  | none =>
    refine fst_none (fun t h1 h2 h3 => ?_)
    by_cases c : t < b
    · exact h t h1 c h3
    · have key : ∀ n a, a ≤ t → t < a + n → P t → fstT P n a ≠ none := by
        intro n
        induction n with
        | zero => intro a _ _ _ _; omega
        | succ n ih =>
          intro a q1 q2 q3 hu
          unfold fstT at hu
          by_cases c9 : P a
          · rw [if_pos c9] at hu; cases hu
          · rw [if_neg c9] at hu
            by_cases d : a = t
            · subst d; exact absurd q3 c9
            · exact ih (a + 1) (by omega) (by omega) q3 hu
      exact key (e - b) b (by omega) (by omega) h3 hb
section
variable {dc : Nat × Nat} {h : XH} {m : Nat} {ad : Nat → Nat} {F : Nat → Nat → Int32} {T : Int32} {M : MS} {Po : Int32 → Prop}
theorem nI_60 (t : Nat) : nI t + 60 = nI (t + 60) := nI_add t 60
theorem sm_cb76_0 (hM : isM h m ad F T M) (hI : Inv M) (s : Nat) (hs : s < mn M 2) (b : Nat) (hb : b < mn M 1) (t : Nat) (ht2 : t ≤ 2819) {w : Int32} (hh : Po (bI (canB M s b 0 t))) : w_X7_canBegin_76 dc h m (nI s) (nI b) (nI t) 0 w Po := by
  have hc := hI.c
  have hbr := hI.berth hb
  have hsh := hI.ship hs
  have e10 : F 10 s = nI (mt M 3 s) := hM.2.2.2.2.2.2.2.1 s hs
  have e7 : F 7 b = nI (mt M 1 b) := hM.2.2.2.2.2.1 b hb
  have ec : canB M s b 0 t ↔ wtr M s (mn M 5) t ∧ wtr M s (mt M 2 b) (t + 60) ∧ mt M 3 s ≤ mt M 1 b ∧ bFree M s b t ∧ (apart M 0 t ∧ bestP M (mt M 3 s) ((0 : Nat) = 1) t (mn M 3) ≠ none ∧ tugOk M (tugsFor (mt M 3 s)) (tFrom 0 t)) := by
    unfold canB
    constructor
    · intro ⟨_, _, h2, h3, h4, h5, h6⟩
      exact ⟨(h2 (by decide)).1, (h2 (by decide)).2, (h3 (by decide)).1, (h3 (by decide)).2, h4, h5, h6⟩
    · intro ⟨h1, h2, h3, h4, h5, h6, h7⟩
      exact ⟨by omega, fun q => absurd q (by decide), fun _ => ⟨h1, h2⟩, fun _ => ⟨h3, h4⟩, h5, h6, h7⟩
  rw [bI_c ec] at hh
  refine wIf_t (by rw [nI_60]; exact (n_le (b := 2879) (by omega) (by decide)).mpr (by omega)) (wIf_t rfl (wIf_t rfl (wO_i hM.1 ?_)))
  refine sm_hasWater hM hI s hs t (by omega) (mn M 5) rfl rfl (Or.inl ⟨rfl, rfl⟩) (wIf_d _ bI_0 (fun c => ?_) (fun c => ?_))
  · rw [bI_f (fun z => c z.1)] at hh; exact wZ_0 hh
  have c1 := Classical.byContradiction c
  refine wIf_t rfl (wO_i hM.1 ?_)
  refine sm_hasWater hM hI s hs (t + 60) (by omega) (mt M 2 b) rfl (nI_60 t) (Or.inr ⟨b, rfl, hb, rfl⟩) (wIf_d _ bI_0 (fun c => ?_) (fun c => ?_))
  · rw [bI_f (fun z => c z.2.1)] at hh; exact wZ_0 hh
  have c2 := Classical.byContradiction c
  refine wIf_t rfl (wR_i hM.1 rfl (wAI_i b hM.r7 (by omega) rfl (by decide) (wR_i hM.1 rfl (wAI_i s hM.r10 (by omega) rfl (by decide) ?_))))
  rw [e10, e7]
  refine wIf_d (mt M 1 b < mt M 3 s) (n_lt (by omega) (by omega)) (fun c => ?_) (fun c => ?_)
  · rw [bI_f (fun z => absurd z.2.2.1 (by omega))] at hh; exact wZ_0 hh
  refine sm_isBerthFree hM hI s b hs hb t (by omega) rfl rfl rfl (wIf_d _ bI_0 (fun c => ?_) (fun c => ?_))
  · rw [bI_f (fun z => c z.2.2.2.1)] at hh; exact wZ_0 hh
  have c4 := Classical.byContradiction c
  refine sm_canBegin_183 hM hI s hs t ht2 0 (by decide) rfl rfl (by rw [bI_f (by decide)]) ?_
  rw [bI_c (d := (apart M 0 t ∧ bestP M (mt M 3 s) ((0 : Nat) = 1) t (mn M 3) ≠ none ∧ tugOk M (tugsFor (mt M 3 s)) (tFrom 0 t))) ⟨fun z => z.2.2.2.2, fun z => ⟨c1, c2, by omega, c4, z⟩⟩] at hh
  exact hh
theorem sm_cb76_1 (hM : isM h m ad F T M) (hI : Inv M) (s : Nat) (hs : s < mn M 2) (i : Nat) (hi : i < mn M 4) (t : Nat) (ht2 : t ≤ 2819) (hh : Po (bI (canB M s (pA M i) 1 t))) : w_X7_canBegin_76 dc h m (nI s) (-1) (nI t) 1 (nI i) Po := by
  have hc := hI.c
  have hp := hI.pas hi
  have ec : canB M s (pA M i) 1 t ↔ wtr M s (mt M 2 (pA M i)) t ∧ wtr M s (mn M 5) (t + 60) ∧ (apart M 1 t ∧ bestP M (mt M 3 s) ((1 : Nat) = 1) t (mn M 3) ≠ none ∧ tugOk M (tugsFor (mt M 3 s)) (tFrom 1 t)) := by
    unfold canB
    constructor
    · intro ⟨_, h1, _, _, h4, h5, h6⟩
      exact ⟨(h1 rfl).1, (h1 rfl).2, h4, h5, h6⟩
    · intro ⟨h1, h2, h5, h6, h7⟩
      exact ⟨by omega, fun _ => ⟨h1, h2⟩, fun q => absurd rfl q, fun q => absurd rfl q, h5, h6, h7⟩
  rw [bI_c ec] at hh
  refine wIf_t (by rw [nI_60]; exact (n_le (b := 2879) (by omega) (by decide)).mpr (by omega)) (wIf_f (by decide) (sm_get hM hI i 4 hi (by decide) rfl rfl (wIf_f (by decide) (wO_i hM.1 ?_))))
  refine sm_hasWater hM hI s hs t (by omega) (mt M 2 (pA M i)) rfl rfl (Or.inr ⟨pA M i, rfl, hp.2.2.2.1, rfl⟩) (wIf_d _ bI_0 (fun c => ?_) (fun c => ?_))
  · rw [bI_f (fun z => c z.1)] at hh; exact wZ_0 hh
  have c1 := Classical.byContradiction c
  refine wIf_f (by decide) (wO_i hM.1 ?_)
  refine sm_hasWater hM hI s hs (t + 60) (by omega) (mn M 5) rfl (nI_60 t) (Or.inl ⟨rfl, rfl⟩) (wIf_d _ bI_0 (fun c => ?_) (fun c => ?_))
  · rw [bI_f (fun z => c z.2.1)] at hh; exact wZ_0 hh
  have c2 := Classical.byContradiction c
  refine wIf_f (by decide) ?_
  refine sm_canBegin_183 hM hI s hs t ht2 1 (by decide) rfl rfl (by rw [bI_t rfl]) ?_
  rw [bI_c (d := (apart M 1 t ∧ bestP M (mt M 3 s) ((1 : Nat) = 1) t (mn M 3) ≠ none ∧ tugOk M (tugsFor (mt M 3 s)) (tFrom 1 t))) ⟨fun z => z.2.2, fun z => ⟨c1, c2, z⟩⟩] at hh
  exact hh
theorem sm_canBegin (hM : isM h m ad F T M) (hI : Inv M) (s : Nat) (hs : s < mn M 2) (y : Option Nat) (hy : ∀ b, y = some b → b < mn M 1) (t : Nat) (ht2 : t ≤ 2819) {xx yy zz : Int32} (hx : xx = nI s) (hyy : yy = oN y) (hz : zz = nI t) (hh : Po (bI (beg M s y t))) : w_X7_canBegin dc h m xx yy zz Po := by
  have hc := hI.c
  subst hx hyy hz
  refine wO_i hM.1 ?_
  unfold beg at hh
  have h60 : ∀ (w : Nat × Nat), way M s y = some w → ∀ (z : Int32), (Po (bI (canB M s w.2 w.1 t)) → w_X7_canBegin_76 dc h m (nI s) (oN y) (nI t) z (oN (lastS M s (mn M 4))) Po) → w_X7_canBegin_60 dc h m (nI s) (oN y) (nI t) z (oN (lastS M s (mn M 4))) Po := by
    intro w hw z k
    have e1 : (∃ w', way M s y = some w' ∧ sFree M s ≤ t ∧ canB M s w'.2 w'.1 t) ↔ sFree M s ≤ t ∧ canB M s w.2 w.1 t := by
      constructor
      · rintro ⟨w', h1, h2⟩; rw [hw] at h1; cases h1; exact h2
      · intro h2; exact ⟨w, hw, h2⟩
    rw [bI_c e1] at hh
    unfold sFree at hh
    cases hl : lastS M s (mn M 4) with
    | none =>
      rw [hl] at hh k; dsimp only at hh
      refine wIf_t rfl (k ?_)
      rw [bI_c (d := canB M s w.2 w.1 t) ⟨fun z => z.2, fun z => ⟨Nat.zero_le _, z⟩⟩] at hh; exact hh
    | some i =>
      rw [hl] at hh k; dsimp only at hh
      have hi := (lastS_spec.1 i hl).1
      have hp := hI.pas hi
      refine wIf_f (nI_ne_m1 (by omega)) (sm_end hM hI i hi rfl (wIf_d (t < pB M i + 60) (n_lt (by omega) (by omega)) (fun c => ?_) (fun c => ?_)))
      · rw [bI_f (fun z => absurd z.1 (by omega))] at hh; exact wZ_0 hh
      · refine k ?_
        rw [bI_c (d := canB M s w.2 w.1 t) ⟨fun z => z.2, fun z => ⟨by omega, z⟩⟩] at hh; exact hh
  have hno : way M s y = none → Po 0 := fun hw => by
    rw [bI_f (fun ⟨w, h1, _⟩ => by rw [hw] at h1; cases h1)] at hh; exact hh
  cases y with
  | none =>
    refine wIf_t rfl (sm_latest hM hI s hs rfl (wIf_f (by decide) ?_))
    cases hl : lastS M s (mn M 4) with
    | none => exact wIf_t rfl (wZ_0 (hno (by unfold way; rw [hl])))
    | some i =>
      have hi := (lastS_spec.1 i hl).1
      have hp := hI.pas hi
      refine wIf_f (nI_ne_m1 (by omega)) (sm_isOut hM hI i hi rfl (wIf_d (¬ pO M i = 1) bI_0 (fun o => ?_) (fun o => ?_)))
      · have hw : way M s none = some (1, pA M i) := by unfold way; rw [hl]; exact if_pos (by omega)
        have := h60 _ hw 1 (fun q => by rw [hl]; exact sm_cb76_1 hM hI s hs i hi t ht2 q)
        rw [hl] at this; exact this
      · exact wZ_0 (hno (by unfold way; rw [hl]; exact if_neg (by omega)))
  | some b =>
    have hb := hy b rfl
    refine wIf_f (nI_ne_m1 (by omega)) (sm_latest hM hI s hs rfl (wIf_t rfl ?_))
    cases hl : lastS M s (mn M 4) with
    | none =>
      have hw : way M s (some b) = some (0, b) := by unfold way; rw [hl]
      have := h60 _ hw 0 (fun q => sm_cb76_0 hM hI s hs b hb t ht2 q)
      rw [hl] at this; exact wIf_t rfl this
    | some i =>
      have hi := (lastS_spec.1 i hl).1
      have hp := hI.pas hi
      refine wIf_f (nI_ne_m1 (by omega)) (sm_isOut hM hI i hi rfl (wIf_d (¬ pO M i = 1) bI_0 (fun o => ?_) (fun o => ?_)))
      · exact wZ_0 (hno (by unfold way; rw [hl]; exact if_neg o))
      · have hw : way M s (some b) = some (0, b) := by unfold way; rw [hl]; exact if_pos (Classical.byContradiction o)
        have := h60 _ hw 0 (fun q => sm_cb76_0 hM hI s hs b hb t ht2 q)
        rw [hl] at this; exact this
theorem sm_earliestFor (hM : isM h m ad F T M) (hI : Inv M) (s : Nat) (hs : s < mn M 2) (y : Option Nat) (hy : ∀ b, y = some b → b < mn M 1) (t : Nat) (ht2 : t < 2880) {xx yy zz : Int32} (hx : xx = nI s) (hyy : yy = oN y) (hz : zz = nI t) (hh : Po (oN (fst (beg M s y) t 2820))) : w_X7_earliestFor dc h m xx yy zz Po := by
  subst hx hyy hz
  refine wO_i hM.1 (xloop_up (fun i => nI i) (fun i => ∀ t', t ≤ t' → t' < i → ¬ beg M s y t') (max t 2820) t (Nat.le_max_left _ _) (fun t' h1 h2 => absurd h1 (by omega)) (fun rec i h1 h2 hP hr => ?_) (fun rec hP => ?_))
  · have hi : i < 2820 := by omega
    refine wIf_f (by rw [nI_60]; exact fun z => absurd ((n_lt (a := 2879) (by decide) (by omega)).mp z) (by omega)) (sm_canBegin hM hI s hs y hy i (by omega) rfl rfl rfl (wIf_d _ bI_0 (fun c => ?_) (fun c => ?_)))
    · have := hr (fun t' h3 h4 => by
        by_cases e : t' = i
        · subst e; exact c
        · exact hP t' h3 (by omega))
      rw [nI_succ] at this; exact this
    · rw [fst_some h1 hi (Classical.byContradiction c) hP] at hh; exact hh
  · refine wIf_t (by rw [nI_60]; exact (n_lt (a := 2879) (by decide) (by omega)).mpr (by omega)) ?_
    rw [fst_none (fun t' h1 h2 => hP t' h1 (by omega))] at hh; exact hh
end
