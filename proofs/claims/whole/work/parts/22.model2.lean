/-! PURE ROWS: the reference's readers, second part -/
theorem bI_0' {c : Prop} : bI c = 0 ↔ ¬ c := bI_0
theorem lastS_succ (M : MS) (s n : Nat) : lastS M s (n + 1) = if pS M n = s then some n else lastS M s n := rfl
theorem lastI_succ (M : MS) (s n : Nat) : lastI M s (n + 1) = if pS M n = s ∧ pO M n = 0 then some n else lastI M s n := rfl
theorem lastP_succ (M : MS) (s n : Nat) : lastP M s (n + 1) = if pP M n = s then some n else lastP M s n := rfl
theorem buN_succ (M : MS) (i q : Nat) : buN M i (q + 1) = if buN M i q = 2880 ∧ i < q ∧ pS M q = pS M i ∧ pO M q = 1 then pB M q + 60 else buN M i q := rfl
theorem oN_m1 {r : Option Nat} (h : ∀ i, r = some i → i < 2 ^ 31) : oN r = -1 ↔ r = none := by
  cases r with
  | none => exact ⟨fun _ => rfl, fun _ => rfl⟩
  | some i => exact ⟨fun q => absurd q (nI_ne_m1 (h i rfl)), fun q => by cases q⟩
/-- a passage's times: booked later is later -/
theorem lastS_le {M : MS} (hI : Inv M) {n s i j : Nat} (hn : n ≤ mn M 4) (hi : lastS M s n = some i) (hj : j < n) (e : pS M j = s) : pB M j ≤ pB M i := by
  obtain ⟨h1, h2, h3⟩ := lastS_spec.1 i hi
  rcases Nat.lt_trichotomy j i with c | c | c
  · have := hI.sup c (by omega) (e.trans h2.symm); omega
  · subst c; exact Nat.le_refl _
  · exact absurd e (h3 j c hj)
/-- an outbound passage follows an inbound one of the same ship -/
theorem alt_next {M : MS} (hI : Inv M) {j : Nat} (hj : j < mn M 4) : pO M j = 1 ↔ ∃ i, lastS M (pS M j) j = some i ∧ pO M i = 0 := by
  have ha := hI.alt hj
  cases hl : lastS M (pS M j) j with
  | none =>
    have := ha.1 hl
    exact ⟨fun q => by omega, fun ⟨i, h, _⟩ => by cases h⟩
  | some i =>
    obtain ⟨h1, -⟩ := ha.2 i hl
    exact ⟨fun q => ⟨i, rfl, by omega⟩, fun ⟨k, h, hk⟩ => by cases h; omega⟩
theorem lastI_eq {M : MS} (hI : Inv M) {n s : Nat} (hn : n ≤ mn M 4) : lastI M s n = (match lastS M s n with | none => none | some i => if pO M i = 0 then some i else lastS M s i) := by
  induction n with
  | zero => rfl
  | succ n ih =>
    have ih := ih (by omega)
    rw [lastI_succ, lastS_succ]
    by_cases c : pS M n = s
    · by_cases o : pO M n = 0
      · rw [if_pos ⟨c, o⟩, if_pos c]; dsimp only; rw [if_pos o]
      · rw [if_neg (fun z => o z.2), if_pos c]; dsimp only
        rw [if_neg o, ih]
        have ho : pO M n = 1 := by have := hI.pas (i := n) (by omega); omega
        obtain ⟨i, h1, h2⟩ := (alt_next hI (j := n) (by omega)).mp ho
        rw [c] at h1
        rw [h1]; dsimp only; rw [if_pos h2]
    · rw [if_neg (fun z => c z.1), if_neg c]; exact ih
theorem uAt_le {M : MS} {t n k : Nat} (h : n ≤ k) : uAt M t n ≤ uAt M t k := by
  induction k with
  | zero => have : n = 0 := by omega
            subst this; exact Nat.le_refl _
  | succ k ih =>
    by_cases c : n = k + 1
    · subst c; exact Nat.le_refl _
    · have := ih (by omega)
      show _ ≤ uAt M t k + _
      omega
/-- bu: nothing comes between -/
theorem buN_0 {M : MS} {i : Nat} : ∀ n, (∀ j, i < j → j < n → pS M j ≠ pS M i) → buN M i n = 2880 := by
  intro n
  induction n with
  | zero => intro _; rfl
  | succ n ih =>
    intro h
    have := ih (fun j h1 h2 => h j h1 (by omega))
    rw [buN_succ]
    rw [if_neg (fun z => h n z.2.1 (by omega) z.2.2.1), this]
theorem buN_le {M : MS} (hI : Inv M) {i : Nat} : ∀ n, n ≤ mn M 4 → buN M i n ≤ 2880 := by
  intro n
  induction n with
  | zero => intro _; exact Nat.le_refl _
  | succ n ih =>
    intro h
    have := ih (by omega)
    have hp := hI.pas (i := n) (by omega)
    rw [buN_succ]
    split <;> omega
theorem buN_ge {M : MS} (hI : Inv M) {i : Nat} (hi : i < mn M 4) : ∀ n, n ≤ mn M 4 → pB M i + 60 ≤ buN M i n := by
  intro n
  have hpi := hI.pas hi
  induction n with
  | zero => intro _; show _ ≤ 2880; omega
  | succ n ih =>
    intro h
    have := ih (by omega)
    rw [buN_succ]
    split
    · rename_i z
      have := hI.sup z.2.1 (by omega) z.2.2.1.symm
      omega
    · exact this
section
variable {dc : Nat × Nat} {h : XH} {m : Nat} {ad : Nat → Nat} {F : Nat → Nat → Int32} {T : Int32} {M : MS} {Po : Int32 → Prop}
theorem nI_s (i : Nat) : nI i + 1 = nI (i + 1) := nI_1 i
theorem sm_latest (hM : isM h m ad F T M) (hI : Inv M) (s : Nat) (hs : s < mn M 2) {x : Int32} (hx : x = nI s) (hh : Po (oN (lastS M s (mn M 4)))) : w_X7_latest dc h m x (-1) Po := by
  have hc := hI.c
  subst hx
  refine wO_i hM.1 (xloop_up (fun i => (oN (lastS M s i), nI i)) (fun _ => True) (mn M 4) 0 (Nat.zero_le _) trivial (fun rec i _ hi _ hr => ?_) (fun rec _ => ?_))
  · have hr := hr trivial
    rw [nI_succ] at hr
    refine wI_i hM.1 rfl (wIf_f (nI_ge hi (by omega)) (sm_get hM hI i 0 hi (by decide) rfl rfl ?_))
    have hp := hI.pas hi
    rw [lastS_succ] at hr
    refine wIf_d (pS M i = s) (nI_eq (a := pS M i) (b := s) (by omega) (by omega)) (fun c => ?_) (fun c => ?_)
    · rw [if_pos c] at hr
      refine wIf_t rfl ?_
      cases hl : lastS M s i with
      | none => exact wIf_t rfl hr
      | some k =>
        obtain ⟨h1, h2, h3⟩ := lastS_spec.1 k hl
        have hu := hI.sup h1 hi (h2.trans c.symm)
        have hpk := hI.pas (i := k) (by omega)
        refine wIf_f (nI_ne_m1 (by omega)) (sm_begin hM hI i hi rfl (sm_begin hM hI k (by omega) rfl (wIf_f (fun z => ?_) hr)))
        have z := (n_le (by omega) (by omega)).mp z
        omega
    · rw [if_neg c] at hr; exact hr
  · exact wI_i hM.1 rfl (wIf_t (nI_le (Nat.le_refl _) (by omega)) hh)
theorem sm_latest0 (hM : isM h m ad F T M) (hI : Inv M) (s : Nat) (hs : s < mn M 2) {x : Int32} (hx : x = nI s) (hh : Po (oN (lastI M s (mn M 4)))) : w_X7_latest dc h m x 0 Po := by
  have hc := hI.c
  subst hx
  refine wO_i hM.1 (xloop_up (fun i => (oN (lastI M s i), nI i)) (fun _ => True) (mn M 4) 0 (Nat.zero_le _) trivial (fun rec i _ hi _ hr => ?_) (fun rec _ => ?_))
  · have hr := hr trivial
    rw [nI_succ] at hr
    refine wI_i hM.1 rfl (wIf_f (nI_ge hi (by omega)) (sm_get hM hI i 0 hi (by decide) rfl rfl ?_))
    have hp := hI.pas hi
    rw [lastI_succ] at hr
    refine wIf_d (pS M i = s) (nI_eq (a := pS M i) (b := s) (by omega) (by omega)) (fun c => ?_) (fun c => ?_)
    · refine wIf_f (by decide) (sm_get hM hI i 5 hi (by decide) rfl rfl ?_)
      refine wIf_d (pO M i = 0) (nI_eq (a := pO M i) (b := 0) (by omega) (by decide)) (fun o => ?_) (fun o => ?_)
      · rw [if_pos ⟨c, o⟩] at hr
        cases hl : lastI M s i with
        | none => exact wIf_t rfl hr
        | some k =>
          obtain ⟨h1, h2, -, h3⟩ := lastI_spec.1 k hl
          have hu := hI.sup h1 hi (h2.trans c.symm)
          have hpk := hI.pas (i := k) (by omega)
          refine wIf_f (nI_ne_m1 (by omega)) (sm_begin hM hI i hi rfl (sm_begin hM hI k (by omega) rfl (wIf_f (fun z => ?_) hr)))
          have z := (n_le (by omega) (by omega)).mp z
          omega
      · rw [if_neg (fun z => o z.2)] at hr; exact hr
    · rw [if_neg (fun z => c z.1)] at hr; exact hr
  · exact wI_i hM.1 rfl (wIf_t (nI_le (Nat.le_refl _) (by omega)) hh)
theorem sm_leaves (hM : isM h m ad F T M) (hI : Inv M) (i : Nat) (hi : i < mn M 4) (ho : pO M i = 0) {x : Int32} (hx : x = nI i) (hh : Po (nI (buN M i (mn M 4)))) : w_X7_leaves dc h m x Po := by
  have hc := hI.c
  have hpi := hI.pas hi
  subst hx
  refine wO_i hM.1 (xloop_up (fun q => (nI (buN M i q), nI q)) (fun q => buN M i q = 2880 ∨ ∃ p, p < q ∧ i < p ∧ pS M p = pS M i ∧ buN M i q = pB M p + 60) (mn M 4) 0 (Nat.zero_le _) (Or.inl rfl) (fun rec q _ hq hP hr => ?_) (fun rec _ => ?_))
  · have hpq := hI.pas hq
    refine wI_i hM.1 rfl (wIf_f (nI_ge hq (by omega)) (sm_get hM hI q 0 hq (by decide) rfl rfl (sm_get hM hI i 0 hi (by decide) rfl rfl ?_)))
    have keep : buN M i (q + 1) = buN M i q → rec (nI (buN M i q), nI q + 1) := fun e => by
      have := hr (by
        rw [e]
        rcases hP with z | ⟨p, z1, z2, z3, z4⟩
        · exact Or.inl z
        · exact Or.inr ⟨p, by omega, z2, z3, z4⟩)
      rw [e, nI_succ] at this
      exact this
    refine wIf_d (pS M q = pS M i) (nI_eq (a := pS M q) (b := pS M i) (by omega) (by omega)) (fun c => ?_) (fun c => ?_)
    · refine sm_isOut hM hI q hq rfl (wIf_d (¬ pO M q = 1) bI_0 (fun o => ?_) (fun o => ?_))
      · exact keep (by rw [buN_succ]; rw [if_neg (fun z => o z.2.2.2)])
      · have o : pO M q = 1 := Classical.byContradiction o
        refine sm_begin hM hI q hq rfl (sm_end hM hI i hi rfl (wIf_d (pB M q < pB M i + 60) (n_lt (by omega) (by omega)) (fun d => ?_) (fun d => ?_)))
        · refine keep ?_
          rw [buN_succ, if_neg]
          intro z
          have := hI.sup z.2.1 hq c.symm
          omega
        · have hlt : i < q := by
            rcases Nat.lt_trichotomy q i with e | e | e
            · have := hI.sup e hi c; omega
            · subst e; omega
            · exact e
          have hb := buN_le hI (i := i) q (by omega)
          refine sm_end hM hI q hq rfl ?_
          show rec (if nI (pB M q + 60) < nI (buN M i q) then nI (pB M q + 60) else nI (buN M i q), nI q + 1)
          rcases hP with z | ⟨p, z1, z2, z3, z4⟩
          · have e : buN M i (q + 1) = pB M q + 60 := by rw [buN_succ]; rw [if_pos ⟨z, hlt, c, o⟩]
            have := hr (Or.inr ⟨q, by omega, hlt, c, e⟩)
            rw [e] at this
            rw [if_pos ((n_lt (by omega) (by omega)).mpr (by omega)), nI_s]
            exact this
          · have hu := hI.sup z1 hq (z3.trans c.symm)
            rw [if_neg (fun y => by have := (n_lt (by omega) (by omega)).mp y; omega)]
            exact keep (by rw [buN_succ]; rw [if_neg (fun y => by omega)])
    · exact keep (by rw [buN_succ]; rw [if_neg (fun z => c z.2.2.1)])
  · exact wI_i hM.1 rfl (wIf_t (nI_le (Nat.le_refl _) (by omega)) hh)
theorem tugsFor_le (n : Nat) : tugsFor n ≤ 3 := by unfold tugsFor; split <;> (try split) <;> (try split) <;> omega
theorem sm_tugsAt (hM : isM h m ad F T M) (hI : Inv M) (t : Nat) (ht2 : t < 3000) {x : Int32} (hx : x = nI t) (hh : Po (nI (uAt M t (mn M 4)))) : w_X7_tugsAt dc h m x Po := by
  have hc := hI.c
  subst hx
  refine wO_i hM.1 (xloop_up (fun i => (nI (uAt M t i), nI i)) (fun _ => True) (mn M 4) 0 (Nat.zero_le _) trivial (fun rec i _ hi _ hr => ?_) (fun rec _ => ?_))
  · have hr := hr trivial
    rw [nI_succ] at hr
    have hp := hI.pas hi
    have h31 : ∀ (z : Int32) (w : Nat), z = nI w → w ≤ 20 → tFrom (pO M i) (pB M i) = pB M i + w → w_X7_tugsAt_31 dc h m (nI t) (nI (uAt M t i)) (nI i) (nI (pB M i)) z Po rec := by
      intro z w hz hw2 hw
      subst hz
      refine sm_isIn ?_
      have e1 : nI (pB M i) + nI w = nI (pB M i + w) := nI_add _ _
      have e2 : nI (pB M i + w) + 39 = nI (pB M i + w + 39) := nI_add _ 39
      rw [e1, e2]
      refine wIf_d (¬ (pB M i + w ≤ t ∧ t ≤ pB M i + w + 39)) (bI_0.trans (not_congr (and_congr (n_le (by omega) (by omega)) (n_le (by omega) (by omega))))) (fun c => ?_) (fun c => ?_)
      · have e : uAt M t (i + 1) = uAt M t i := by show uAt M t i + _ = _; rw [hw, if_neg c, Nat.add_zero]
        rw [e] at hr
        show rec (nI (uAt M t i) + 0, nI i + 1)
        have e3 : nI (uAt M t i) + 0 = nI (uAt M t i) := nI_add _ 0
        rw [e3]; exact hr
      · have c := Classical.byContradiction c
        have e : uAt M t (i + 1) = uAt M t i + pT M i := by show uAt M t i + _ = _; rw [hw, if_pos c]
        rw [e] at hr
        refine sm_get hM hI i 3 hi (by decide) rfl rfl ?_
        show rec (nI (uAt M t i) + nI (pT M i), nI i + 1)
        rw [nI_add]; exact hr
    refine wI_i hM.1 rfl (wIf_f (nI_ge hi (by omega)) (sm_begin hM hI i hi rfl (sm_isOut hM hI i hi rfl (wIf_d (¬ pO M i = 1) bI_0 (fun o => ?_) (fun o => ?_)))))
    · exact h31 20 20 rfl (by omega) (by unfold tFrom; rw [if_neg o])
    · exact h31 0 0 rfl (by omega) (by unfold tFrom; rw [if_pos (Classical.byContradiction o)])
  · exact wI_i hM.1 rfl (wIf_t (nI_le (Nat.le_refl _) (by omega)) hh)
end
