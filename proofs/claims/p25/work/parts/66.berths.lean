/-! PURE ROWS: each berth has one ship at most, and the day's last look -/
/-- who comes to a berth comes when those ahead have left it -/
def InvX (M : MS) : Prop := ∀ i j, i < j → j < mn M 4 → pO M i = 0 → pO M j = 0 → pA M i = pA M j → buN M i (mn M 4) ≤ pB M j
def act (M : MS) (t k : Nat) : Prop := pO M k = 0 ∧ pB M k ≤ t ∧ t < buN M k (mn M 4)
theorem stay_ship {M : MS} (hI : Inv M) {i j : Nat} (hij : i < j) (hj : j < mn M 4) (hi0 : pO M i = 0) (hj0 : pO M j = 0) (hs : pS M i = pS M j) : buN M i (mn M 4) ≤ pB M j := by
  cases hl : lastS M (pS M j) j with
  | none => exact absurd hs (lastS_spec.2 hl i hij)
  | some k =>
    obtain ⟨k1, k2, k3⟩ := lastS_spec.1 k hl
    have ha := ((hI.alt hj).2 k hl).1
    have hik : i < k := by
      rcases Nat.lt_trichotomy i k with c | c | c
      · exact c
      · subst c; omega
      · exact absurd hs (k3 i c hij)
    have h1 := buN_out hI hik k1 (Nat.le_of_lt hj) (k2.trans hs.symm) (by omega)
    rw [buN_keep h1 (mn M 4) (Nat.le_of_lt hj)]
    rcases buN_cases (M := M) (i := i) j with c | ⟨q, q1, q2, q3, q4, q5⟩
    · exact absurd c h1
    · rw [q5]
      exact hI.sup q1 hj (q3.trans hs)
theorem act_ship {M : MS} (hI : Inv M) {t i j : Nat} (hi : i < mn M 4) (hj : j < mn M 4) (ai : act M t i) (aj : act M t j) (hs : pS M i = pS M j) : i = j := by
  rcases Nat.lt_trichotomy i j with c | c | c
  · have := stay_ship hI c hj ai.1 aj.1 hs
    have := ai.2.2; have := aj.2.1; omega
  · exact c
  · have := stay_ship hI c hi aj.1 ai.1 hs.symm
    have := aj.2.2; have := ai.2.1; omega
theorem act_berth {M : MS} (hX : InvX M) {t i j : Nat} (hi : i < mn M 4) (hj : j < mn M 4) (ai : act M t i) (aj : act M t j) (hs : pA M i = pA M j) : i = j := by
  rcases Nat.lt_trichotomy i j with c | c | c
  · have := hX i j c hj ai.1 aj.1 hs
    have := ai.2.2; have := aj.2.1; omega
  · exact c
  · have := hX j i c hi aj.1 ai.1 hs.symm
    have := aj.2.2; have := ai.2.1; omega
theorem invX_bookM {M : MS} (hI : Inv M) (hX : InvX M) {s : Nat} {y : Option Nat} {w : Nat × Nat} {t z : Nat} (hw : way M s y = some w) (hb : beg M s y t) : InvX (bookM M s w t z) := by
  obtain ⟨o, b⟩ := w
  obtain ⟨hf, hcb⟩ := (beg_iff hw).mp hb
  have hbs : ∀ i, i < mn M 4 → buN (bookM M s (o, b) t z) i (mn M 4) = buN M i (mn M 4) := fun i _ => bk_bN _ (Nat.le_refl _)
  intro i j hij hj hi0 hj0 ha
  have hj : j < mn M 4 + 1 := hj
  show buN (bookM M s (o, b) t z) i (mn M 4 + 1) ≤ _
  have oi : ∀ c, mt (bookM M s (o, b) t z) c i = mt M c i := fun c => bk_o (Or.inr (by omega))
  have hi1 : pO M i = 0 := (oi 12).symm.trans hi0
  by_cases c : j = mn M 4
  · have hi : i < mn M 4 := by omega
    rw [c] at hj0 ha ⊢
    have e1 : pO (bookM M s (o, b) t z) (mn M 4) = o := bk_O
    have e2 : pA (bookM M s (o, b) t z) (mn M 4) = b := bk_A
    have e3 : pB (bookM M s (o, b) t z) (mn M 4) = t := bk_B
    have o0 : o = 0 := e1.symm.trans hj0
    subst o0
    have ha : pA M i = b := ((oi 11).symm.trans ha).trans e2
    rw [e3, buN_succ, if_neg (fun q => by have := q.2.2.2; rw [e1] at this; cases this), hbs i hi]
    by_cases d : pS M i = s
    · obtain ⟨_, hsea⟩ := way_sea hw
      cases hl : lastS M s (mn M 4) with
      | none => exact absurd d (lastS_spec.2 hl i hi)
      | some k =>
        have k0 := hsea k hl
        have h1 := buN_closed hI (Nat.le_refl _) hl hi d hi1 (fun q => by subst q; omega)
        have hfk : sFree M s = pB M k + 60 := by unfold sFree; rw [hl]
        rcases buN_cases (M := M) (i := i) (mn M 4) with e | ⟨q, q1, q2, q3, q4, q5⟩
        · exact absurd e h1
        · have := lastS_le hI (Nat.le_refl _) hl q1 (q3.trans d)
          omega
    · exact (hcb.2.2.2.1 (by decide)).2 i hi hi1 ha d
  · have hj : j < mn M 4 := by omega
    have oj : ∀ c, mt (bookM M s (o, b) t z) c j = mt M c j := fun c => bk_o (Or.inr (by omega))
    have hj0 : pO M j = 0 := (oj 12).symm.trans hj0
    have ha : pA M i = pA M j := ((oi 11).symm.trans ha).trans (oj 11)
    have h1 := hX i j hij hj hi1 hj0 ha
    have hpj := hI.pas hj
    rw [show pB (bookM M s (o, b) t z) j = pB M j from oj 8, buN_succ, hbs i (by omega), if_neg (fun q => by have := q.1; omega)]
    exact h1
theorem invX_0 {M : MS} (h : mn M 4 = 0) : InvX M := fun i j _ hj => by rw [h] at hj; exact absurd hj (Nat.not_lt_zero j)
/-- ships in a row of bits -/
noncomputable def sM (M : MS) (t : Nat) : Nat → Nat
  | 0 => 0
  | b + 1 => match fst (occP M b t) 0 (mn M 4) with
    | none => sM M t b
    | some p => sM M t b ||| 2 ^ pS M p
noncomputable def inM (M : MS) (t : Nat) : Nat → Nat
  | 0 => 0
  | k + 1 => @ite _ (act M t k) (Classical.propDecidable _) (inM M t k ||| 2 ^ pS M k) (inM M t k)
theorem bit_or {m s : Nat} (hm : m < 64) (hs : s < 6) : nI m ||| ((1 : Int32) <<< (nI s &&& 31)) = nI (m ||| 2 ^ s) :=
  (show ∀ m : Fin 64, ∀ s : Fin 6, nI m.1 ||| ((1 : Int32) <<< (nI s.1 &&& 31)) = nI (m.1 ||| 2 ^ s.1) by decide +kernel) ⟨m, hm⟩ ⟨s, hs⟩
theorem bit_at {m s : Nat} (hm : m < 64) (hs : s < 6) : ((nI m >>> (nI s &&& 31)) &&& 1) = 1 ↔ m.testBit s = true :=
  (show ∀ m : Fin 64, ∀ s : Fin 6, ((nI m.1 >>> (nI s.1 &&& 31)) &&& 1) = 1 ↔ m.1.testBit s.1 = true by decide +kernel) ⟨m, hm⟩ ⟨s, hs⟩
theorem or_64 {m s : Nat} (hm : m < 64) (hs : s < 6) : m ||| 2 ^ s < 64 :=
  (show ∀ m : Fin 64, ∀ s : Fin 6, m.1 ||| 2 ^ s.1 < 64 by decide +kernel) ⟨m, hm⟩ ⟨s, hs⟩
theorem bit_o (m s j : Nat) : (m ||| 2 ^ s).testBit j = true ↔ m.testBit j = true ∨ s = j := by
  rw [Nat.testBit_or, Nat.testBit_two_pow, Bool.or_eq_true, decide_eq_true_eq]
theorem sM_bit {M : MS} {t j : Nat} : ∀ b, (sM M t b).testBit j = true ↔ ∃ b' p, b' < b ∧ fst (occP M b' t) 0 (mn M 4) = some p ∧ pS M p = j := by
  intro b
  induction b with
  | zero => exact ⟨fun q => by simp [sM] at q, fun ⟨b', p, h, _⟩ => absurd h (Nat.not_lt_zero _)⟩
  | succ b ih =>
    unfold sM
    cases hf : fst (occP M b t) 0 (mn M 4) with
    | none =>
      dsimp only
      rw [ih]
      refine ⟨fun ⟨b', p, h1, h2, h3⟩ => ⟨b', p, by omega, h2, h3⟩, fun ⟨b', p, h1, h2, h3⟩ => ⟨b', p, ?_, h2, h3⟩⟩
      by_cases e : b' = b
      · subst e; rw [hf] at h2; cases h2
      · omega
    | some p0 =>
      dsimp only
      rw [bit_o, ih]
      refine ⟨fun q => ?_, fun ⟨b', p, h1, h2, h3⟩ => ?_⟩
      · rcases q with ⟨b', p, h1, h2, h3⟩ | q
        · exact ⟨b', p, by omega, h2, h3⟩
        · exact ⟨b, p0, by omega, hf, q⟩
      · by_cases e : b' = b
        · subst e; rw [hf] at h2; cases h2; exact Or.inr h3
        · exact Or.inl ⟨b', p, by omega, h2, h3⟩
theorem inM_bit {M : MS} {t j : Nat} : ∀ k, (inM M t k).testBit j = true ↔ ∃ p, p < k ∧ act M t p ∧ pS M p = j := by
  intro k
  induction k with
  | zero => exact ⟨fun q => by simp [inM] at q, fun ⟨p, h, _⟩ => absurd h (Nat.not_lt_zero _)⟩
  | succ k ih =>
    unfold inM
    by_cases c : act M t k
    · rw [if_pos c, bit_o, ih]
      refine ⟨fun q => ?_, fun ⟨p, h1, h2, h3⟩ => ?_⟩
      · rcases q with ⟨p, h1, h2⟩ | q
        · exact ⟨p, by omega, h2⟩
        · exact ⟨k, by omega, c, q⟩
      · by_cases e : p = k
        · subst e; exact Or.inr h3
        · exact Or.inl ⟨p, by omega, h2, h3⟩
    · rw [if_neg c, ih]
      refine ⟨fun ⟨p, h1, h2⟩ => ⟨p, by omega, h2⟩, fun ⟨p, h1, h2, h3⟩ => ⟨p, ?_, h2, h3⟩⟩
      by_cases e : p = k
      · subst e; exact absurd h2 c
      · omega
theorem sM_lt {M : MS} (hI : Inv M) (h6 : mn M 2 ≤ 6) {t : Nat} : ∀ b, sM M t b < 64 := by
  intro b
  induction b with
  | zero => show 0 < 64; decide
  | succ b ih =>
    unfold sM
    cases hf : fst (occP M b t) 0 (mn M 4) with
    | none => exact ih
    | some p =>
      have := hI.pas (fst_in hf).2.1
      exact or_64 ih (by omega)
theorem inM_lt {M : MS} (hI : Inv M) (h6 : mn M 2 ≤ 6) {t : Nat} : ∀ k, k ≤ mn M 4 → inM M t k < 64 := by
  intro k
  induction k with
  | zero => intro _; show 0 < 64; decide
  | succ k ih =>
    intro hk
    unfold inM
    by_cases c : act M t k
    · rw [if_pos c]
      have := hI.pas (i := k) (by omega)
      exact or_64 (ih (by omega)) (by omega)
    · rw [if_neg c]; exact ih (by omega)
theorem fstT_all {P : Nat → Prop} : ∀ n a, fstT P n a = none → ∀ t, a ≤ t → t < a + n → ¬ P t := by
  intro n
  induction n with
  | zero => intro a _ t h1 h2; omega
  | succ n ih =>
    intro a h t h1 h2 h3
    unfold fstT at h
    by_cases c : P a
    · rw [if_pos c] at h; cases h
    · rw [if_neg c] at h
      by_cases e : t = a
      · subst e; exact c h3
      · exact ih (a + 1) h t (by omega) (by omega) h3
theorem masks {M : MS} (hI : Inv M) (hX : InvX M) {t : Nat} : inM M t (mn M 4) = sM M t (mn M 1) := by
  apply Nat.eq_of_testBit_eq
  intro j
  rw [Bool.eq_iff_iff, inM_bit, sM_bit]
  refine ⟨fun ⟨p, h1, h2, h3⟩ => ?_, fun ⟨b, p, h1, h2, h3⟩ => ?_⟩
  · have hp := hI.pas h1
    cases hf : fst (occP M (pA M p) t) 0 (mn M 4) with
    | none => exact absurd ⟨h2.1, rfl, h2.2⟩ (fstT_all _ _ hf p (Nat.zero_le _) (by omega))
    | some k =>
      obtain ⟨_, f2, f3⟩ := fst_in hf
      have e := act_berth hX f2 h1 ⟨f3.1, f3.2.2⟩ h2 f3.2.1
      exact ⟨pA M p, k, hp.2.2.2.1, hf, by rw [e]; exact h3⟩
  · obtain ⟨_, f2, f3⟩ := fst_in h2
    exact ⟨p, f2, ⟨f3.1, f3.2.2⟩, h3⟩
theorem mask_new {M : MS} (hI : Inv M) {t b p : Nat} (hf : fst (occP M b t) 0 (mn M 4) = some p) : ¬ (sM M t b).testBit (pS M p) = true := by
  rw [sM_bit]
  rintro ⟨b', p', h1, h2, h3⟩
  obtain ⟨_, f2, f3⟩ := fst_in hf
  obtain ⟨_, g2, g3⟩ := fst_in h2
  have e := act_ship hI g2 f2 ⟨g3.1, g3.2.2⟩ ⟨f3.1, f3.2.2⟩ h3
  subst e
  have := g3.2.1; have := f3.2.1; omega
section
variable {dc : Nat × Nat} {h : XH} {x : Nat} {g : Nat → Nat → Nat} {M : MS} {q : Nat → Nat} {Po : Int32 → XH → Prop} {an aq : Nat}
theorem lb_446 (hB : isB dc h x g M) (hI : Inv M) (hX : InvX M) (h6 : mn M 2 ≤ 6) (hQ : isPs h aq M q) (t : Nat) (ht2 : t < 2880) {rec371 : Int32 → Prop} (hr9 : rec371 (nI t + 13)) : w_L_law_446 dc h x an aq (nI (mn M 4)) (nI t) (nI (sM M t (mn M 1))) Po rec371 (0, 0) := by
  have hc := hI.c
  refine xloop_up (fun k => (nI (inM M t k), nI k)) (fun _ => True) (mn M 4) 0 (Nat.zero_le _) trivial (fun rec k _ hk _ hr => ?_) (fun rec _ => ?_)
  · have hr := hr trivial
    have hp := hI.pas hk
    have hm := inM_lt hI h6 (t := t) k (by omega)
    dsimp only [w_L_law_446_F]
    rw [nI_succ] at hr
    have skip : ¬ act M t k → rec (nI (inM M t k), nI k + 1) := fun z => by
      have e : inM M t (k + 1) = inM M t k := if_neg z
      rw [e] at hr; exact hr
    refine wIf_f (nI_ge hk (by omega)) (ps hQ k hk 5 (by decide) rfl rfl (wIf_d (pO M k = 0) (nI_eq (a := pO M k) (b := 0) (by omega) (by decide)) (fun c => ?_) (fun c => skip (fun z => c z.1))))
    refine ps hQ k hk 1 (by decide) rfl rfl (wIf_d (t < pB M k) (n_lt (b := pB M k) (by omega) (by omega)) (fun d => skip (fun z => by have := z.2.1; omega)) (fun d => ?_))
    refine ll_leaves hQ hI k hk rfl rfl ?_
    have hlv := lvN_lt (M := M) (i := k) (t := t) ht2
    have hbl := buN_le hI (i := k) (mn M 4) (Nat.le_refl _)
    have hlv2 : lvN M k ≤ 100000 := by unfold lvN; split <;> omega
    refine wIf_d (lvN M k ≤ t) (n_le (by omega) (by omega)) (fun e => skip (fun z => by have := z.2.2; omega)) (fun e => ?_)
    refine ps hQ k hk 0 (by decide) rfl rfl ?_
    have ha : act M t k := ⟨c, by omega, by omega⟩
    have e9 : inM M t (k + 1) = inM M t k ||| 2 ^ pS M k := if_pos ha
    rw [e9, ← bit_or hm (by omega)] at hr
    exact hr
  · dsimp only [w_L_law_446_F]
    rw [masks hI hX]
    exact wIf_t (nI_le (Nat.le_refl _) (by omega)) (wIf_t rfl hr9)
theorem lb_385 (hB : isB dc h x g M) (hI : Inv M) (hX : InvX M) (h6 : mn M 2 ≤ 6) (hN : isNs h an M) (hQ : isPs h aq M q) (t : Nat) (ht2 : t < 2880) {rec371 : Int32 → Prop} (hr9 : rec371 (nI t + 13)) : w_L_law_385 dc h x an aq (nI (mn M 4)) (nI t) Po rec371 (0, 0) := by
  have hc := hI.c
  refine xloop_up (fun b => (nI (sM M t b), nI b)) (fun _ => True) (mn M 1) 0 (Nat.zero_le _) trivial (fun rec b _ hb _ hr => ?_) (fun rec _ => ?_)
  · have hr := hr trivial
    have hm := sM_lt hI h6 (t := t) b
    dsimp only [w_L_law_385_F]
    rw [nI_succ] at hr
    refine ns hN 1 (by decide) rfl (wIf_f (nI_ge (show b < nF M 1 from hb) (show mn M 1 < _ by omega)) (wO_i hB.1 (sb_occupant0 hB hI b hb t ht2 rfl rfl ?_)))
    cases hf : fst (occP M b t) 0 (mn M 4) with
    | none =>
      have e : sM M t (b + 1) = sM M t b := by show (match fst (occP M b t) 0 (mn M 4) with | none => sM M t b | some p => sM M t b ||| 2 ^ pS M p) = _; rw [hf]
      rw [e] at hr
      exact wIf_f (show ¬ (0 : Int32) ≤ -1 by decide) hr
    | some p =>
      have hp := hI.pas (fst_in hf).2.1
      have e : sM M t (b + 1) = sM M t b ||| 2 ^ pS M p := by show (match fst (occP M b t) 0 (mn M 4) with | none => sM M t b | some p => sM M t b ||| 2 ^ pS M p) = _; rw [hf]
      rw [e, ← bit_or hm (by omega)] at hr
      exact wIf_t (Int32.not_lt.mp (nI_pos (show pS M p < 2 ^ 31 by omega))) (wIf_f (fun z => mask_new hI hf ((bit_at hm (by omega)).mp z)) hr)
  · dsimp only [w_L_law_385_F]
    exact ns hN 1 (by decide) rfl (wIf_t (nI_le (Nat.le_refl _) (show mn M 1 < _ by omega)) (lb_446 hB hI hX h6 hQ t ht2 hr9))
theorem lb_371 (hB : isB dc h x g M) (hI : Inv M) (hX : InvX M) (h6 : mn M 2 ≤ 6) (hN : isNs h an M) (hQ : isPs h aq M q) (hh : Po 1 h) : w_L_law_371 dc h x an aq (nI (mn M 4)) Po 0 := by
  refine xloop_up (fun k => nI (13 * k)) (fun _ => True) 222 0 (by decide) trivial (fun rec k _ hk _ hr => ?_) (fun rec _ => ?_)
  · have hr := hr trivial
    refine wIf_f (nI_ge (show 13 * k < 2880 by omega) (by decide)) (lb_385 hB hI hX h6 hN hQ (13 * k) (by omega) ?_)
    rw [show nI (13 * k) + 13 = nI (13 * (k + 1)) from (nI_add (13 * k) 13)]
    exact hr
  · refine wIf_t (by decide) (wO_i hB.1 (sb_count0 hB 4 (by decide) rfl (wIf_t rfl (wZ_1 hh))))
end
