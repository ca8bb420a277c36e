/-! PURE ROWS: the reference's readers, third part: pilots, berths, passages that can begin -/
/-- tugs enough for n of them in each minute from f on, ahead of f + 40 -/
def tugOk (M : MS) (w f : Nat) : Prop := w = 0 ∨ ∀ k, f ≤ k → k < f + 40 → uAt M k (mn M 4) + w ≤ mn M 7
/-- the side where a pilot is behind all its passages among the first n -/
def port (M : MS) (p n : Nat) : Prop := match lastP M p n with
  | none => mt M 6 p = 1
  | some i => pO M i = 0
def pEnd (M : MS) (p n : Nat) : Int32 := match lastP M p n with
  | none => -1
  | some i => nI (pB M i + 60)
/-- a pilot can take a passage at t of a ship of this length -/
def ready (M : MS) (p len : Nat) (out : Prop) (t : Nat) : Prop := len ≤ mt M 5 p ∧ match lastP M p (mn M 4) with
  | none => (port M p (mn M 4) ↔ out) ∨ 60 ≤ t
  | some i => (((port M p (mn M 4) ↔ out) → pB M i + 90 ≤ t) ∧ (¬ (port M p (mn M 4) ↔ out) → pB M i + 150 ≤ t))
def pick (M : MS) (n : Nat) (r : Option Nat) : Option Nat := match r with
  | none => some n
  | some b => if pEnd M n (mn M 4) < pEnd M b (mn M 4) then some n else some b
def pickE (M : MS) (r : Option Nat) : Int32 := match r with
  | none => 0
  | some b => pEnd M b (mn M 4)
noncomputable def bestP (M : MS) (len : Nat) (out : Prop) (t : Nat) : Nat → Option Nat
  | 0 => none
  | n + 1 => @ite _ (ready M n len out t) (Classical.propDecidable _) (pick M n (bestP M len out t n)) (bestP M len out t n)
theorem bestP_lt {M : MS} {len : Nat} {out : Prop} {t : Nat} : ∀ n i, bestP M len out t n = some i → i < n := by
  intro n
  induction n with
  | zero => intro i h; cases h
  | succ n ih =>
    intro i h
    unfold bestP at h
    by_cases c : ready M n len out t
    · rw [if_pos c] at h
      cases hb : bestP M len out t n with
      | none => rw [hb] at h; cases h; exact Nat.lt_succ_self _
      | some b =>
        rw [hb] at h
        unfold pick at h
        dsimp only at h
        split at h
        · cases h; exact Nat.lt_succ_self _
        · cases h; have := ih _ hb; omega
    · rw [if_neg c] at h; have := ih i h; omega
/-- no other ship has the berth at t or later -/
def bFree (M : MS) (s b t : Nat) : Prop := ∀ p, p < mn M 4 → pO M p = 0 → pA M p = b → pS M p ≠ s → buN M p (mn M 4) ≤ t
def gapOk (M : MS) (o t p : Nat) : Prop := (if pO M p = o then 20 else 60) ≤ (if pB M p ≤ t then t - pB M p else pB M p - t)
def apart (M : MS) (o t : Nat) : Prop := ∀ p, p < mn M 4 → gapOk M o t p
section
variable {dc : Nat × Nat} {h : XH} {m : Nat} {ad : Nat → Nat} {F : Nat → Nat → Int32} {T : Int32} {M : MS} {Po : Int32 → Prop}
theorem sm_tugsFor (n : Nat) (hn : n ≤ 400) {x : Int32} (hx : x = nI n) (hh : Po (nI (tugsFor n))) : w_X7_tugsFor dc h x Po := by
  subst hx
  unfold tugsFor at hh
  refine wIf_d (100 ≤ n) (n_le (a := 100) (by decide) (by omega)) (fun c => ?_) (fun c => ?_)
  · rw [if_neg (by omega)] at hh
    refine wIf_d (160 ≤ n) (n_le (a := 160) (by decide) (by omega)) (fun c2 => ?_) (fun c2 => ?_)
    · rw [if_neg (by omega)] at hh
      refine wIf_d (220 ≤ n) (n_le (a := 220) (by decide) (by omega)) (fun c3 => ?_) (fun c3 => ?_)
      · rw [if_neg (by omega)] at hh; exact hh
      · rw [if_pos (by omega)] at hh; exact hh
    · rw [if_pos (by omega)] at hh; exact hh
  · rw [if_pos (by omega)] at hh; exact hh
theorem sm_areTugs (hM : isM h m ad F T M) (hI : Inv M) (n : Nat) (hn : n ≤ 400) (t : Nat) (ht2 : t ≤ 2880) (out : Prop) {x y z : Int32} (hx : x = nI n) (hy : y = bI out) (hz : z = nI t) (f : Nat) (hf1 : out → f = t) (hf2 : ¬ out → f = t + 20) (hh : Po (bI (tugOk M (tugsFor n) f))) : w_X7_areTugs dc h m x y z Po := by
  have hc := hI.c
  subst hx hy hz
  have hw3 := tugsFor_le n
  have h17 : ∀ (q : Int32), nI t + q = nI f → w_X7_areTugs_17 dc h m (nI (tugsFor n)) (nI t) q Po := by
    intro q hq
    show w_X7_areTugs_27 dc h m (nI (tugsFor n)) (nI t + q) Po (1, nI t + q)
    rw [hq]
    have hf3 : f ≤ 2900 := by
      by_cases o : out
      · rw [hf1 o]; omega
      · rw [hf2 o]; omega
    have e40 : nI f + 40 = nI (f + 40) := nI_add f 40
    refine xloop_up (fun k => (bI (∀ j, f ≤ j → j < k → uAt M j (mn M 4) + tugsFor n ≤ mn M 7), nI k)) (fun _ => True) (f + 40) f (by omega) trivial (fun rec k h1 h2 _ hr => ?_) (fun rec _ => ?_) |> fun g => by
      have e1 : bI (∀ j, f ≤ j → j < f → uAt M j (mn M 4) + tugsFor n ≤ mn M 7) = 1 := bI_t (fun j h1 h2 => by omega)
      rw [← e1]; exact g
    · have hr := hr trivial
      refine wIf_f (fun q => ?_) (wIf_d (tugsFor n = 0) ?_ (fun c => ?_) (fun c => ?_))
      · rw [e40] at q; have := (n_le (by omega) (by omega)).mp q; omega
      · exact (n_le (a := tugsFor n) (b := 0) (by omega) (by decide)).trans (by omega)
      · have e2 : bI (∀ j, f ≤ j → j < k → uAt M j (mn M 4) + tugsFor n ≤ mn M 7) = bI (tugOk M (tugsFor n) f) := by
          rw [bI_t (c := tugOk M (tugsFor n) f) (Or.inl c), bI_t (fun j _ _ => by have := hI.tug j; omega)]
        show wZ (bI _) (Po (bI _))
        rw [e2]; exact wZ_b hh
      · show wIf (bI _ = 0) (wZ (bI _) (Po (bI _))) _
        refine wIf_d _ bI_0 (fun d => ?_) (fun d => ?_)
        · have e2 : bI (∀ j, f ≤ j → j < k → uAt M j (mn M 4) + tugsFor n ≤ mn M 7) = bI (tugOk M (tugsFor n) f) := by
            rw [bI_f d, bI_f (fun z => z.elim c (fun z => d (fun j h3 h4 => z j h3 (by omega))))]
          rw [e2]; exact wZ_b hh
        · have d := Classical.byContradiction d
          have hu := hI.tug k
          refine sm_tugsAt hM hI k (by omega) rfl (wI_i hM.1 rfl ?_)
          rw [nI_add]
          refine wIf_d (mn M 7 < uAt M k (mn M 4) + tugsFor n) (n_lt (by omega) (by omega)) (fun g => ?_) (fun g => ?_)
          · have e3 : bI (∀ j, f ≤ j → j < k + 1 → uAt M j (mn M 4) + tugsFor n ≤ mn M 7) = 0 := bI_f (fun z => by have := z k h1 (by omega); omega)
            rw [e3, nI_succ] at hr; exact hr
          · have e3 : bI (∀ j, f ≤ j → j < k + 1 → uAt M j (mn M 4) + tugsFor n ≤ mn M 7) = 1 := bI_t (fun j h3 h4 => by
              by_cases e : j = k
              · subst e; omega
              · exact d j h3 (by omega))
            rw [e3, nI_succ] at hr; exact hr
    · refine wIf_t (by rw [e40]; exact nI_le (Nat.le_refl _) (by omega)) ?_
      show wZ (bI _) (Po (bI _))
      have e2 : bI (∀ j, f ≤ j → j < f + 40 → uAt M j (mn M 4) + tugsFor n ≤ mn M 7) = bI (tugOk M (tugsFor n) f) := by
        refine bI_c ⟨fun z => Or.inr z, fun z => z.elim (fun z j _ _ => by have := hI.tug j; omega) (fun z => z)⟩
      rw [e2]; exact wZ_b hh
  refine wO_i hM.1 (sm_tugsFor n hn rfl (wIf_d (¬ out) bI_0 (fun o => ?_) (fun o => ?_)))
  · exact h17 20 (by rw [hf2 o]; exact nI_add t 20)
  · exact h17 0 (by rw [hf1 (Classical.byContradiction o)]; exact nI_add t 0)
theorem sm_lastTrip (hM : isM h m ad F T M) (hI : Inv M) (s : Nat) (hs : s < mn M 3) {x : Int32} (hx : x = nI s) (hh : Po (oN (lastP M s (mn M 4)))) : w_X7_lastTrip dc h m x Po := by
  have hc := hI.c
  subst hx
  refine wO_i hM.1 (xloop_up (fun i => (oN (lastP M s i), nI i)) (fun _ => True) (mn M 4) 0 (Nat.zero_le _) trivial (fun rec i _ hi _ hr => ?_) (fun rec _ => ?_))
  · have hr := hr trivial
    rw [nI_succ] at hr
    refine wI_i hM.1 rfl (wIf_f (nI_ge hi (by omega)) (sm_get hM hI i 2 hi (by decide) rfl rfl ?_))
    have hp := hI.pas hi
    rw [lastP_succ] at hr
    refine wIf_d (pP M i = s) (nI_eq (a := pP M i) (b := s) (by omega) (by omega)) (fun c => ?_) (fun c => ?_)
    · rw [if_pos c] at hr
      cases hl : lastP M s i with
      | none => exact wIf_t rfl hr
      | some k =>
        obtain ⟨h1, h2, h3⟩ := lastP_spec.1 k hl
        have hu := hI.pup h1 hi (h2.trans c.symm)
        have hpk := hI.pas (i := k) (by omega)
        refine wIf_f (nI_ne_m1 (by omega)) (sm_begin hM hI i hi rfl (sm_begin hM hI k (by omega) rfl (wIf_f (fun z => ?_) hr)))
        have z := (n_le (by omega) (by omega)).mp z
        omega
    · rw [if_neg c] at hr; exact hr
  · exact wI_i hM.1 rfl (wIf_t (nI_le (Nat.le_refl _) (by omega)) hh)
theorem sm_isPortSide (hM : isM h m ad F T M) (hI : Inv M) (s : Nat) (hs : s < mn M 3) {x : Int32} (hx : x = nI s) (hh : Po (bI (port M s (mn M 4)))) : w_X7_isPortSide dc h m x Po := by
  have hc := hI.c
  subst hx
  refine wO_i hM.1 (sm_lastTrip hM hI s hs rfl ?_)
  unfold port at hh
  cases hl : lastP M s (mn M 4) with
  | none =>
    rw [hl] at hh
    refine wIf_t rfl (wR_i hM.1 rfl (wAI_i s hM.r14 (by omega) rfl (by decide) ?_))
    rw [hM.2.2.2.2.2.2.2.2.2.2.1 s hs]
    have hp := hI.pilot hs
    have e : nI (mt M 6 s) = bI (mt M 6 s = 1) := by
      by_cases c : mt M 6 s = 1
      · rw [bI_t c, c]; rfl
      · rw [bI_f c, show mt M 6 s = 0 by omega]; rfl
    rw [e]; exact wZ_b hh
  | some i =>
    rw [hl] at hh
    have hi := (lastP_spec.1 i hl).1
    have hp := hI.pas hi
    refine wIf_f (nI_ne_m1 (by omega)) (sm_isOut hM hI i hi rfl (wIf_d (¬ pO M i = 1) bI_0 (fun o => ?_) (fun o => ?_)))
    · dsimp only at hh; rw [bI_t (show pO M i = 0 by omega)] at hh; exact wZ_1 hh
    · dsimp only at hh; rw [bI_f (show ¬ pO M i = 0 by omega)] at hh; exact wZ_0 hh
theorem bI_eq {c d : Prop} : bI c = bI d ↔ (c ↔ d) := by
  constructor
  · intro q
    constructor
    · intro hc; rw [bI_t hc] at q; exact bI_1.mp q.symm
    · intro hd; rw [bI_t hd] at q; exact bI_1.mp q
  · exact bI_c
theorem sm_isReady (hM : isM h m ad F T M) (hI : Inv M) (s : Nat) (hs : s < mn M 3) (n : Nat) (hn : n ≤ 400) (out : Prop) (t : Nat) (ht2 : t ≤ 2880) {x y z w : Int32} (hx : x = nI s) (hy : y = nI n) (hz : z = bI out) (hw : w = nI t) (hh : Po (bI (ready M s n out t))) : w_X7_isReady dc h m x y z w Po := by
  have hc := hI.c
  have hp := hI.pilot hs
  subst hx hy hz hw
  refine wO_i hM.1 (wR_i hM.1 rfl (wAI_i s hM.r13 (by omega) rfl (by decide) ?_))
  rw [hM.2.2.2.2.2.2.2.2.2.1 s hs]
  refine wIf_d (n ≤ mt M 5 s) (n_le (by omega) (by omega)) (fun c => ?_) (fun c => ?_)
  · refine sm_lastTrip hM hI s hs rfl (sm_isPortSide hM hI s hs rfl ?_)
    have key : ∀ (d : Prop), (d ↔ (port M s (mn M 4) ↔ out)) → w_X7_isReady_33 dc h m (nI t) (oN (lastP M s (mn M 4))) (bI d) Po := by
      intro d hd
      unfold ready at hh
      cases hl : lastP M s (mn M 4) with
      | none =>
        rw [hl] at hh; dsimp only at hh
        refine wIf_t rfl (wIf_d (¬ d) bI_0 (fun g => ?_) (fun g => ?_))
        · refine wIf_d (t < 60) (n_lt (b := 60) (by omega) (by decide)) (fun e => ?_) (fun e => ?_)
          · rw [bI_f (fun z => z.2.elim (fun z => g (hd.mpr z)) (by omega))] at hh; exact wZ_0 hh
          · rw [bI_t ⟨c, Or.inr (by omega)⟩] at hh; exact wZ_1 hh
        · rw [bI_t ⟨c, Or.inl (hd.mp (Classical.byContradiction g))⟩] at hh; exact wZ_1 hh
      | some i =>
        rw [hl] at hh; dsimp only at hh
        have hi := (lastP_spec.1 i hl).1
        have hpi := hI.pas hi
        refine wIf_f (nI_ne_m1 (by omega)) (sm_begin hM hI i hi rfl (wIf_d (t ≤ pB M i) (n_le (by omega) (by omega)) (fun e => ?_) (fun e => ?_)))
        · rw [bI_f (fun z => by
            by_cases g : (port M s (mn M 4) ↔ out)
            · have := z.2.1 g; omega
            · have := z.2.2 g; omega)] at hh
          exact wZ_0 hh
        · have h92 : ∀ (q : Nat), (q ≤ 90) → (((port M s (mn M 4) ↔ out) → q = 30) ∧ (¬ (port M s (mn M 4) ↔ out) → q = 90)) → w_X7_isReady_92 dc h m (nI t) (nI (pB M i + 60)) (nI q) Po := by
            intro q hq9 hq
            show wIf (nI t < nI (pB M i + 60) + nI q) _ _
            rw [nI_add]
            refine wIf_d (t < pB M i + 60 + q) (n_lt (by omega) (by omega)) (fun k => ?_) (fun k => ?_)
            · rw [bI_f (fun z => by
                by_cases g : (port M s (mn M 4) ↔ out)
                · have := z.2.1 g; have := hq.1 g; omega
                · have := z.2.2 g; have := hq.2 g; omega)] at hh
              exact wZ_0 hh
            · rw [bI_t ⟨c, fun g => by have := hq.1 g; omega, fun g => by have := hq.2 g; omega⟩] at hh
              exact wZ_1 hh
          refine sm_end hM hI i hi rfl (wIf_d (¬ d) bI_0 (fun g => ?_) (fun g => ?_))
          · exact h92 90 (by decide) ⟨fun z => absurd (hd.mpr z) g, fun _ => rfl⟩
          · exact h92 30 (by decide) ⟨fun _ => rfl, fun z => absurd (hd.mp (Classical.byContradiction g)) z⟩
    refine wIf_d (port M s (mn M 4) ↔ out) bI_eq (fun g => ?_) (fun g => ?_)
    · have := key True ⟨fun _ => g, fun _ => trivial⟩; rw [bI_t trivial] at this; exact this
    · have := key False ⟨fun z => z.elim, fun z => g z⟩; rw [bI_f id] at this; exact this
  · rw [bI_f (fun z => c z.1)] at hh; exact wZ_0 hh
end
