/-! PURE ROWS: the class's first minute; the way of a ship; the same minute as the reference's -/
def ext (h h' : XH) : Prop := ∀ a e, h a = some e → h' a = some e
theorem ext_k {n : Nat} {h h' : XH} (q : ext h h') : kept n h h' := fun a e z _ => q a e z
theorem ext_u {h : XH} {q : Nat} {e : XA} (z : h q = none) : ext h (xup h q e) := fun a e1 h1 => by
  rw [xup_o (fun w => by rw [w, z] at h1; cases h1)]; exact h1
theorem ext_u2 {h h' : XH} {q : Nat} {e : XA} (z : h q = none) (w : ext h h') : ext h (xup h' q e) := fun a e1 h1 => by
  rw [xup_o (fun w => by rw [w, z] at h1; cases h1)]; exact w a e1 h1
theorem isL_kept {dc : Nat × Nat} {h h' : XH} {l r n : Nat} {e : Nat → Nat} (k1 : ∀ fs, h l = some (.inr (0, fs)) → h' l = some (.inr (0, fs))) (k2 : ∀ c f, r ≠ dc.1 → h r = some (qRow c f) → h' r = some (qRow c f)) (q : isL dc h l r n e) : isL dc h' l r n e := by
  obtain ⟨⟨mc, h1⟩, h2⟩ := q
  refine ⟨⟨mc, k1 _ h1⟩, ?_⟩
  rcases h2 with h2 | ⟨h3, cap, f, h4, h5⟩
  · exact Or.inl h2
  · exact Or.inr ⟨h3, cap, f, k2 _ _ h3 h4, h5⟩
theorem xk_obj (g : Nat → Nat → Nat) (M : MS) (k i : Nat) : xk (.inr (obj g M k i)) = 0 := by
  unfold obj
  split <;> rfl
theorem isB_kept {n : Nat} {dc : Nat × Nat} {h h' : XH} {x : Nat} {g : Nat → Nat → Nat} {M : MS} (hn : n ≠ 0) (k : kept n h h') (q : isB dc h x g M) : isB dc h' x g M := by
  obtain ⟨h1, ⟨h2, h3, T0, T1, h4, h5, h6⟩, h7, h8, h9, h10, h11⟩ := q
  refine ⟨k _ _ h1 (fun z => hn z.symm), ⟨k _ _ h2 (fun z => hn z.symm), h3, T0, T1, k _ _ h4 (fun z => hn z.symm), k _ _ h5 (fun z => hn z.symm), h6⟩, fun j q1 q2 => ?_, fun j q1 q2 i hi => k _ _ (h8 j q1 q2 i hi) (by rw [xk_obj]; exact fun z => hn z.symm), k _ _ h9 (fun z => hn z.symm), h10, h11⟩
  exact isL_kept (fun fs w => k _ _ w (fun z => hn z.symm)) (fun c f _ w => k _ _ w (fun z => hn z.symm)) (h7 j q1 q2)
def fFn (M : MS) (s b : Nat) : Nat → Nat
  | 0 => sFree M s
  | n + 1 => if pA M n = b then (if fFn M s b n < bU M n then bU M n else fFn M s b n) else fFn M s b n
theorem fFn_succ (M : MS) (s b n : Nat) : fFn M s b (n + 1) = if pA M n = b then (if fFn M s b n < bU M n then bU M n else fFn M s b n) else fFn M s b n := rfl
def fF (M : MS) (s b o : Nat) : Nat := if o = 0 then fFn M s b (mn M 4) else sFree M s
theorem fFn_le {M : MS} {s b t : Nat} : ∀ n, fFn M s b n ≤ t ↔ sFree M s ≤ t ∧ ∀ i, i < n → pA M i = b → bU M i ≤ t := by
  intro n
  induction n with
  | zero => exact ⟨fun h => ⟨h, fun i hi => absurd hi (Nat.not_lt_zero i)⟩, fun h => h.1⟩
  | succ n ih =>
    have split9 : (∀ i, i < n + 1 → pA M i = b → bU M i ≤ t) ↔ (∀ i, i < n → pA M i = b → bU M i ≤ t) ∧ (pA M n = b → bU M n ≤ t) := by
      constructor
      · intro h; exact ⟨fun i hi => h i (by omega), h n (by omega)⟩
      · intro h i hi
        by_cases e : i = n
        · subst e; exact h.2
        · exact h.1 i (by omega)
    rw [split9, fFn_succ]
    by_cases c : pA M n = b
    · rw [if_pos c]
      by_cases d : fFn M s b n < bU M n
      · rw [if_pos d]
        constructor
        · intro h; have := ih.mp (by omega); exact ⟨this.1, this.2, fun _ => h⟩
        · intro h; exact h.2.2 c
      · rw [if_neg d]
        constructor
        · intro h; have := ih.mp h; exact ⟨this.1, this.2, fun _ => by omega⟩
        · intro h; exact ih.mpr ⟨h.1, h.2.1⟩
    · rw [if_neg c, ih]
      exact ⟨fun h => ⟨h.1, h.2, fun z => absurd z c⟩, fun h => ⟨h.1, h.2.1⟩⟩
theorem bU_le {M : MS} (hI : Inv M) {i : Nat} (hi : i < mn M 4) : bU M i ≤ 2880 := by
  have hp := hI.pas hi
  have := buN_le hI (i := i) (mn M 4) (Nat.le_refl _)
  unfold bU; split <;> omega
theorem sFree_le {M : MS} (hI : Inv M) (s : Nat) : sFree M s ≤ 2880 := by
  unfold sFree
  cases hl : lastS M s (mn M 4) with
  | none => exact Nat.zero_le _
  | some i => have := hI.pas (lastS_spec.1 i hl).1; dsimp only; omega
theorem fFn_bd {M : MS} (hI : Inv M) (s b : Nat) : fFn M s b (mn M 4) ≤ 2880 := (fFn_le _).mpr ⟨sFree_le hI s, fun _ hi _ => bU_le hI hi⟩
theorem buN_keep {M : MS} {i q : Nat} (h : buN M i q ≠ 2880) : ∀ n, q ≤ n → buN M i n = buN M i q := by
  intro n
  induction n with
  | zero => intro hq; have : q = 0 := by omega
            subst this; rfl
  | succ n ih =>
    intro hq
    by_cases e : q = n + 1
    · subst e; rfl
    · have := ih (by omega)
      rw [buN_succ, if_neg (fun z => h (by rw [← this]; exact z.1)), this]
/-- an inbound passage's berth is given up by the ship's next passage -/
theorem buN_next {M : MS} (hI : Inv M) {k i n : Nat} (hi : i < n) (hn : n ≤ mn M 4) (hl : lastS M (pS M i) i = some k) (ho : pO M i = 1) : buN M k n = pB M i + 60 := by
  obtain ⟨h1, h2, h3⟩ := lastS_spec.1 k hl
  have e0 : buN M k i = 2880 := buN_0 i (fun j q1 q2 => by rw [h2]; exact h3 j q1 q2)
  have e1 : buN M k (i + 1) = pB M i + 60 := by rw [buN_succ, if_pos ⟨e0, h1, h2.symm, ho⟩]
  have hp := hI.pas (i := i) (by omega)
  rw [buN_keep (q := i + 1) (by omega) n (by omega), e1]
theorem free_iff {M : MS} (hI : Inv M) {s b t : Nat} (hsea : ∀ j, lastS M s (mn M 4) = some j → pO M j = 1) : fFn M s b (mn M 4) ≤ t ↔ sFree M s ≤ t ∧ bFree M s b t := by
  rw [fFn_le]
  constructor
  · intro ⟨h1, h2⟩
    refine ⟨h1, fun p hp ho hb hs => ?_⟩
    have := h2 p hp hb
    unfold bU at this
    rw [if_neg (by omega)] at this; exact this
  · intro ⟨h1, h2⟩
    refine ⟨h1, fun i hi hb => ?_⟩
    have hp := hI.pas hi
    by_cases hs : pS M i = s
    · -- of the ship itself: its latest one is outbound and behind
      cases hl : lastS M s (mn M 4) with
      | none => exact absurd hs ((lastS_spec.2 hl) i hi)
      | some j =>
        have hj := hsea j hl
        obtain ⟨j1, j2, j3⟩ := lastS_spec.1 j hl
        have hsf : sFree M s = pB M j + 60 := by unfold sFree; rw [hl]
        have hle := lastS_le hI (Nat.le_refl _) hl hi hs
        unfold bU
        by_cases o : pO M i = 1
        · rw [if_pos o]; omega
        · rw [if_neg o]
          rcases buN_cases (M := M) (i := i) (mn M 4) with z | ⟨q, q1, q2, q3, q4, q5⟩
          · exfalso
            have hij : i < j := by
              rcases Nat.lt_trichotomy i j with e | e | e
              · exact e
              · subst e; omega
              · exact absurd hs (j3 i e hi)
            have e2 : buN M i (j + 1) ≠ 2880 := by
              rw [buN_succ]
              have hpj := hI.pas j1
              by_cases e0 : buN M i j = 2880
              · rw [if_pos ⟨e0, hij, j2.trans hs.symm, hj⟩]; omega
              · rw [if_neg (fun w => e0 w.1)]; exact e0
            exact e2 ((buN_keep e2 (mn M 4) (by omega)).symm.trans z)
          · have := lastS_le hI (Nat.le_refl _) hl q1 (q3.trans hs)
            omega
    · unfold bU
      by_cases o : pO M i = 1
      · rw [if_pos o]
        obtain ⟨k, k1, k2⟩ := (alt_next hI hi).mp o
        obtain ⟨k3, k4, -⟩ := lastS_spec.1 k k1
        have hA := ((hI.alt hi).2 k k1).2 o
        have := h2 k (by omega) k2 (hA.symm.trans hb) (by rw [k4]; exact hs)
        rw [buN_next hI hi (Nat.le_refl _) k1 o] at this
        omega
      · rw [if_neg o]
        exact h2 i hi (by omega) hb hs
noncomputable def fB (M : MS) (s b o t : Nat) : Option Nat := if mt M 3 s ≤ mt M 1 b then fst (cB M s b o) (if t < fF M s b o then fF M s b o else t) 2820 else none
theorem cB_0 {M : MS} (hI : Inv M) {s b t : Nat} (ht2 : t < 2820) (hl : mt M 3 s ≤ mt M 1 b) : canB M s b 0 t ↔ bFree M s b t ∧ cB M s b 0 t := by
  unfold canB cB
  rw [hT_iff hI, if_pos rfl, if_pos rfl]
  constructor
  · intro ⟨_, _, h2, h3, h4, h5, h6⟩
    exact ⟨(h3 (by decide)).2, h4, (h2 (by decide)).1, (h2 (by decide)).2, h6, h5⟩
  · intro ⟨h1, h2, h3, h4, h5, h6⟩
    exact ⟨by omega, fun q => absurd q (by decide), fun _ => ⟨h3, h4⟩, fun _ => ⟨hl, h1⟩, h2, h6, h5⟩
theorem cB_1 {M : MS} (hI : Inv M) {s b t : Nat} (ht2 : t < 2820) : canB M s b 1 t ↔ cB M s b 1 t := by
  unfold canB cB
  rw [hT_iff hI, if_neg (by decide), if_neg (by decide)]
  constructor
  · intro ⟨_, h1, _, _, h4, h5, h6⟩
    exact ⟨h4, (h1 rfl).2, (h1 rfl).1, h6, h5⟩
  · intro ⟨h1, h2, h3, h4, h5⟩
    exact ⟨by omega, fun _ => ⟨h3, h2⟩, fun q => absurd rfl q, fun q => absurd rfl q, h1, h5, h4⟩
theorem way_sea {M : MS} {s : Nat} {y : Option Nat} {b : Nat} (h : way M s y = some (0, b)) : y = some b ∧ ∀ j, lastS M s (mn M 4) = some j → pO M j = 1 := by
  unfold way at h
  cases hl : lastS M s (mn M 4) with
  | none =>
    rw [hl] at h
    cases y with
    | none => cases h
    | some c => cases h; exact ⟨rfl, fun j q => (by cases q)⟩
  | some i =>
    rw [hl] at h
    cases y with
    | none => dsimp only at h; split at h <;> cases h
    | some c =>
      dsimp only at h
      by_cases o : pO M i = 1
      · rw [if_pos o] at h; cases h; exact ⟨rfl, fun j q => by cases q; exact o⟩
      · rw [if_neg o] at h; cases h
theorem way_out {M : MS} {s : Nat} {y : Option Nat} {b : Nat} (h : way M s y = some (1, b)) : y = none ∧ ∃ i, lastS M s (mn M 4) = some i ∧ pO M i = 0 ∧ b = pA M i := by
  unfold way at h
  cases hl : lastS M s (mn M 4) with
  | none =>
    rw [hl] at h
    cases y with
    | none => cases h
    | some c => cases h
  | some i =>
    rw [hl] at h
    cases y with
    | none =>
      dsimp only at h
      by_cases o : pO M i = 0
      · rw [if_pos o] at h; cases h; exact ⟨rfl, i, rfl, o, rfl⟩
      · rw [if_neg o] at h; cases h
    | some c => dsimp only at h; split at h <;> cases h
theorem way_01 {M : MS} {s : Nat} {y : Option Nat} {o b : Nat} (h : way M s y = some (o, b)) : o = 0 ∨ o = 1 := by
  unfold way at h
  cases hl : lastS M s (mn M 4) with
  | none =>
    rw [hl] at h
    cases y with
    | none => cases h
    | some c => cases h; exact Or.inl rfl
  | some i =>
    rw [hl] at h
    cases y with
    | none => dsimp only at h; split at h <;> cases h; exact Or.inr rfl
    | some c => dsimp only at h; split at h <;> cases h; exact Or.inl rfl
theorem way_b {M : MS} (hI : Inv M) {s : Nat} {y : Option Nat} {o b : Nat} (hy : ∀ c, y = some c → c < mn M 1) (h : way M s y = some (o, b)) : b < mn M 1 ∧ o ≤ 1 := by
  rcases way_01 h with z | z
  · subst z; have := way_sea h; exact ⟨hy b this.1, by decide⟩
  · subst z
    obtain ⟨_, i, h1, h2, h3⟩ := way_out h
    have := hI.pas (lastS_spec.1 i h1).1
    exact ⟨by omega, by decide⟩
theorem fB_eq {M : MS} (hI : Inv M) {s : Nat} {y : Option Nat} {o b t : Nat} (hw : way M s y = some (o, b)) : fst (beg M s y) t 2820 = fB M s b o t := by
  have eb : ∀ u, beg M s y u ↔ sFree M s ≤ u ∧ canB M s b o u := by
    intro u
    constructor
    · rintro ⟨w, h1, h2⟩; rw [hw] at h1; cases h1; exact h2
    · intro h2; exact ⟨(o, b), hw, h2⟩
  have hle : t ≤ (if t < fF M s b o then fF M s b o else t) := by split <;> omega
  rcases way_01 hw with z | z
  · subst z
    have hsea := way_sea hw
    unfold fB
    by_cases c : mt M 3 s ≤ mt M 1 b
    · rw [if_pos c]
      have e : ∀ u, u < 2820 → (beg M s y u ↔ fF M s b 0 ≤ u ∧ cB M s b 0 u) := by
        intro u hu
        rw [eb, cB_0 hI hu c, ← and_assoc, ← free_iff hI hsea.2]
        rfl
      rw [fst_skip hle (fun u h1 h2 h3 => ?_)]
      · refine fst_congr (fun u h1 h2 => (e u h2).trans ⟨fun q => q.2, fun q => ⟨?_, q⟩⟩)
        split at h1 <;> omega
      · by_cases hu : u < 2820
        · have := ((e u hu).mp h3).1
          split at h2 <;> omega
        · have := ((eb u).mp h3).2.1; omega
    · rw [if_neg c]
      exact fst_none (fun u _ _ h3 => c (((eb u).mp h3).2.2.2.2.1 (by decide)).1)
  · subst z
    obtain ⟨_, i, h1, h2, h3⟩ := way_out hw
    obtain ⟨i1, i2, -⟩ := lastS_spec.1 i h1
    have hp := hI.pas i1
    unfold fB
    rw [if_pos (by rw [h3, ← i2]; exact hp.2.2.2.2.2.2.2)]
    have e : ∀ u, u < 2820 → (beg M s y u ↔ fF M s b 1 ≤ u ∧ cB M s b 1 u) := by
      intro u hu
      rw [eb, cB_1 hI hu]; rfl
    rw [fst_skip hle (fun u h1 h2 h3 => ?_)]
    · refine fst_congr (fun u h1 h2 => (e u h2).trans ⟨fun q => q.2, fun q => ⟨?_, q⟩⟩)
      split at h1 <;> omega
    · by_cases hu : u < 2820
      · have := ((e u hu).mp h3).1
        split at h2 <;> omega
      · have := ((eb u).mp h3).2.1; omega
section
variable {dc : Nat × Nat} {h : XH} {x : Nat} {g : Nat → Nat → Nat} {M : MS} {Po : Int32 → Prop}
theorem sb_freeFrom (hB : isB dc h x g M) (hI : Inv M) (s b o q : Nat) (hW : isW h g M q s b o) (hs : s < mn M 2) (hb : b < mn M 1) (ho : o ≤ 1) (hh : Po (nI (fF M s b o))) : w_X6_freeFrom dc h x q Po := by
  have hc := hI.c
  have h20 : ∀ z : Int32, z = nI (sFree M s) → w_X6_freeFrom_20 dc h x q z Po := by
    intro z hz
    subst hz
    unfold fF at hh
    refine wI_i hW rfl (wIf_d (o = 0) (nI_eq (b := 0) (by omega) (by decide)) (fun c => ?_) (fun c => ?_))
    · rw [if_pos c] at hh
      refine xloop_up (fun i => (nI (fFn M s b i), nI i)) (fun i => fFn M s b i ≤ 2880) (mn M 4) 0 (Nat.zero_le _) (sFree_le hI s) (fun rec i _ hi hP hr => ?_) (fun rec _ => ?_)
      · have hp := hI.pas hi
        have hbu := bU_le hI hi
        have hr := hr (by rw [fFn_succ]; split <;> (try split) <;> omega)
        rw [nI_succ, fFn_succ] at hr
        refine sb_size hB 4 (by decide) (by decide) (wIf_f (nI_ge hi (by omega)) (sb_el hB hI 4 (by decide) (by decide) i hi rfl (wO_i (hB.pas hi) ?_)))
        refine wR_i (hB.pas hi) rfl (wR_i (hB.way hi) rfl (wI_i (hB.berth hp.2.2.2.1) rfl (wR_i hW rfl (wI_i (hB.berth hb) rfl ?_))))
        refine wIf_d (pA M i = b) (nI_eq (a := pA M i) (b := b) (by omega) (by omega)) (fun d => ?_) (fun d => ?_)
        · rw [if_pos d] at hr
          refine wI_i (hB.pas hi) rfl ?_
          show rec (if nI (fFn M s b i) < nI (bU M i) then nI (bU M i) else nI (fFn M s b i), nI i + 1)
          by_cases e : fFn M s b i < bU M i
          · rw [if_pos e] at hr
            rw [if_pos ((n_lt (by omega) (by omega)).mpr e)]; exact hr
          · rw [if_neg e] at hr
            rw [if_neg (fun w => e ((n_lt (by omega) (by omega)).mp w))]; exact hr
        · rw [if_neg d] at hr; exact hr
      · exact sb_size hB 4 (by decide) (by decide) (wIf_t (nI_le (Nat.le_refl _) (by omega)) hh)
    · rw [if_neg c] at hh; exact hh
  have hsh := hB.ship hs
  have hsf : sFree M s = (match lastS M s (mn M 4) with | none => 0 | some i => pB M i + 60) := rfl
  refine wR_i hW rfl ?_
  cases hl : lastS M s (mn M 4) with
  | none =>
    rw [hl] at hsh hsf
    exact wQ_i none hsh rfl (wOpt_n (h20 0 (by rw [hsf]; rfl)))
  | some i =>
    rw [hl] at hsh hsf
    have hi := (lastS_spec.1 i hl).1
    refine wQ_i (some (g 4 i)) hsh rfl (wOpt_s (wO_i (hB.pas hi) (wI_i (hB.pas hi) rfl (h20 _ ?_))))
    rw [nI_60, hsf]
theorem sb_firstBegin (hB : isB dc h x g M) (hI : Inv M) (s b o q : Nat) (hW : isW h g M q s b o) (hs : s < mn M 2) (hb : b < mn M 1) (ho : o ≤ 1) (t : Nat) (ht2 : t < 2880) {y : Int32} (hy : y = nI t) (hh : Po (oN (fB M s b o t))) : w_X6_firstBegin dc h x q y Po := by
  have hc := hI.c
  have hsh := hI.ship hs
  have hbr := hI.berth hb
  subst hy
  unfold fB at hh
  refine wO_i hB.1 (wR_i hW rfl (wI_i (hB.ship hs) rfl (wR_i hW rfl (wI_i (hB.berth hb) rfl (wIf_d (mt M 3 s ≤ mt M 1 b) (n_le (by omega) (by omega)) (fun c => ?_) (fun c => ?_))))))
  · rw [if_pos c] at hh
    refine sb_freeFrom hB hI s b o q hW hs hb ho ?_
    have hf : fF M s b o ≤ 2880 := by
      unfold fF
      split
      · exact fFn_bd hI s b
      · exact sFree_le hI s
    have em : (if nI t < nI (fF M s b o) then nI (fF M s b o) else nI t) = nI (if t < fF M s b o then fF M s b o else t) := by
      by_cases e : t < fF M s b o
      · rw [if_pos e, if_pos ((n_lt (by omega) (by omega)).mpr e)]
      · rw [if_neg e, if_neg (fun w => e ((n_lt (by omega) (by omega)).mp w))]
    show w_X6_firstBegin_32 dc h x q Po (if nI t < nI (fF M s b o) then nI (fF M s b o) else nI t)
    rw [em]
    obtain ⟨a, ha⟩ : ∃ a, a = (if t < fF M s b o then fF M s b o else t) := ⟨_, rfl⟩
    have ha2 : a ≤ 2880 := by rw [ha]; split <;> omega
    rw [← ha] at hh ⊢
    refine xloop_up (fun i => nI i) (fun i => ∀ t', a ≤ t' → t' < i → ¬ cB M s b o t') (max a 2820) a (Nat.le_max_left _ _) (fun t' h1 h2 => absurd h1 (by omega)) (fun rec i h1 h2 hP hr => ?_) (fun rec hP => ?_)
    · have hi : i < 2820 := by omega
      refine wIf_f (by rw [nI_60]; exact fun z => absurd ((n_lt (a := 2879) (by decide) (by omega)).mp z) (by omega)) (sb_canBegin hB hI s b o q hW hs hb ho i (by omega) rfl (wIf_d _ bI_0 (fun c => ?_) (fun c => ?_)))
      · have := hr (fun t' h3 h4 => by
          by_cases e : t' = i
          · subst e; exact c
          · exact hP t' h3 (by omega))
        rw [nI_succ] at this; exact this
      · rw [fst_some h1 hi (Classical.byContradiction c) hP] at hh; exact hh
    · refine wIf_t (by rw [nI_60]; exact (n_lt (a := 2879) (by decide) (by omega)).mpr (by omega)) ?_
      rw [fst_none (fun t' h1 h2 => hP t' h1 (by omega))] at hh; exact hh
  · rw [if_neg c] at hh; exact hh
theorem sb_wayInit {Po : XH → Prop} (hB : isB dc h x g M) (hI : Inv M) (s b o q : Nat) (hs : s < mn M 2) (ho : o ≤ 1) (hq : h q = none) {y : Int32} (hy : y = nI o) (hh : ∀ h', isW h' g M q s b o → ext h h' → Po h') : w_X3_init dc (xup h q (.inr (4, [.null, .null, .int 0, .int 0]))) q (g 2 s) (g 1 b) y Po := by
  have hsh := hI.ship hs
  have hne : g 2 s ≠ q := fun z => by have := hB.ship hs; rw [z, hq] at this; cases this
  refine wP_i xup_s (by decide : 0 < 4) (wP_i xup_s (by decide : 1 < 4) ?_)
  refine ⟨?_, wP_i xup_s (by decide : 2 < 4) ?_⟩
  · subst hy
    rcases (show o = 0 ∨ o = 1 by omega) with z | z
    · subst z; exact ⟨rfl, rfl⟩
    · subst z; exact ⟨rfl, rfl⟩
  refine wI_i (v := nI (mt M 3 s)) (by rw [xup_o hne, xup_o hne, xup_o hne, xup_o hne]; exact hB.ship hs) rfl ?_
  have h9 : ∀ {P : Int32 → Prop} {h' : XH}, P (nI (tugsFor (mt M 3 s))) → w_X3_tugsForLength dc h' (nI (mt M 3 s)) P := fun {P h'} k => by
    unfold tugsFor at k
    refine wIf_d (100 ≤ mt M 3 s) (n_le (a := 100) (by decide) (by omega)) (fun c => ?_) (fun c => ?_)
    · rw [if_neg (by omega)] at k
      refine wIf_d (160 ≤ mt M 3 s) (n_le (a := 160) (by decide) (by omega)) (fun c2 => ?_) (fun c2 => ?_)
      · rw [if_neg (by omega)] at k
        refine wIf_d (220 ≤ mt M 3 s) (n_le (a := 220) (by decide) (by omega)) (fun c3 => ?_) (fun c3 => ?_)
        · rw [if_neg (by omega)] at k; exact k
        · rw [if_pos (by omega)] at k; exact k
      · rw [if_pos (by omega)] at k; exact k
    · rw [if_pos (by omega)] at k; exact k
  refine h9 (wP_i xup_s (by decide : 3 < 4) (hh _ ?_ ?_))
  · show xup _ q _ q = _
    rw [xup_s, hy]; rfl
  · exact ext_u2 hq (ext_u2 hq (ext_u2 hq (ext_u2 hq (ext_u hq))))
theorem sb_routeOf {Po : Option Nat → XH → Prop} (hB : isB dc h x g M) (hI : Inv M) (s : Nat) (hs : s < mn M 2) (y : Option Nat) (hy : ∀ c, y = some c → c < mn M 1) {xx yy : Int32} (hx : xx = nI s) (hyy : yy = oN y) (h0 : way M s y = none → Po none h) (h1 : ∀ o b, way M s y = some (o, b) → ∀ q h', h q = none → isW h' g M q s b o → ext h h' → Po (some q) h') : w_X6_routeOf dc h x xx yy Po := by
  have hc := hI.c
  subst hx hyy
  have hsh := hB.ship hs
  refine sb_el hB hI 2 (by decide) (by decide) s hs rfl (wO_i hsh ?_)
  -- at sea
  have sea : (∀ b, way M s (some b) = some (0, b)) → way M s none = none → ∀ l4, w_X6_routeOf_34 dc h x (oN y) (g 2 s) l4 Po := by
    intro e1 e2 l4
    cases y with
    | none => exact wIf_t rfl (wIf_f (by decide) (h0 e2))
    | some b =>
      have hb := hy b rfl
      refine wIf_f (nI_ne_m1 (by omega)) (wIf_f (by decide) (fun q hq => ?_))
      have hB2 : isB dc (xup h q (.inr (4, [.null, .null, .int 0, .int 0]))) x g M := isB_kept (n := 1) (by decide) (kept_n hq) hB
      refine sb_el hB2 hI 1 (by decide) (by decide) b hb rfl (wO_i (hB2.berth hb) (sb_wayInit hB hI s b 0 q hs (by decide) hq rfl (fun h' w1 w2 => h1 0 b (e1 b) q h' hq w1 w2)))
  have hlB := hsh
  cases hl : lastS M s (mn M 4) with
  | none =>
    rw [hl] at hlB
    exact wQ_i none hlB rfl (wOpt_n (sea (fun b => by unfold way; rw [hl]) (by unfold way; rw [hl]) none))
  | some i =>
    rw [hl] at hlB
    have hi := (lastS_spec.1 i hl).1
    have hp := hI.pas hi
    refine wQ_i (some (g 4 i)) hlB rfl (wOpt_s (wR_i (hB.pas hi) rfl (wI_i (hB.way hi) rfl (wIf_d (pO M i = 0) (nI_eq (a := pO M i) (b := 0) (by omega) (by decide)) (fun o => ?_) (fun o => ?_)))))
    · cases y with
      | none =>
        refine wIf_t rfl (wIf_t rfl (fun q hq => wDer_i ?_))
        have n1 : g 4 i ≠ q := fun z => by have := hB.pas hi; rw [z, hq] at this; cases this
        have n2 : g 5 i ≠ q := fun z => by have := hB.way hi; rw [z, hq] at this; cases this
        refine wR_i (by rw [xup_o n1]; exact hB.pas hi) rfl (wR_i (by rw [xup_o n2]; exact hB.way hi) rfl ?_)
        exact sb_wayInit hB hI s (pA M i) 1 q hs (by decide) hq rfl (fun h' w1 w2 => h1 1 (pA M i) (by unfold way; rw [hl]; exact if_pos o) q h' hq w1 w2)
      | some b =>
        have hb := hy b rfl
        exact wIf_f (nI_ne_m1 (by omega)) (wIf_t rfl (h0 (by unfold way; rw [hl]; exact if_neg (by omega))))
    · exact sea (fun b => by unfold way; rw [hl]; exact if_pos (by omega)) (by unfold way; rw [hl]; exact if_neg o) _
theorem sb_checkCall (hB : isB dc h x g M) (hI : Inv M) (a b c : Int32) {A : Prop} {PX : String → Prop} (h0 : (isIx a (mn M 2) ∧ (b = -1 ∨ isIx b (mn M 1))) → isIx c 2880 → A) (h1 : ¬ (isIx a (mn M 2) ∧ (b = -1 ∨ isIx b (mn M 1))) → PX "java/lang/IndexOutOfBoundsException") (h2 : (isIx a (mn M 2) ∧ (b = -1 ∨ isIx b (mn M 1))) → ¬ isIx c 2880 → PX "java/lang/IllegalArgumentException") : w_X6_checkCall dc h x a b c A PX := by
  have hc := hI.c
  have h27 : (isIx a (mn M 2) ∧ (b = -1 ∨ isIx b (mn M 1))) → w_X6_checkCall_27 dc h x c A PX := fun k => sb_checkTime (h0 k) (h2 k)
  refine sb_size hB 2 (by decide) (by decide) (sb_checkNumber rfl (by omega) (fun k => ?_) (fun k => h1 (fun z => k z.1)))
  refine wIf_i (fun d => h27 ⟨k, Or.inl d⟩) (fun d => sb_size hB 1 (by decide) (by decide) (sb_checkNumber rfl (by omega) (fun k2 => h27 ⟨k, Or.inr k2⟩) (fun k2 => h1 (fun z => z.2.elim d k2))))
end
