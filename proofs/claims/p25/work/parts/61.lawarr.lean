/-! PURE ROWS: the law's own rows, and what its small methods answer -/
abbrev rI (n : Nat) (f : Nat → Int32) : XA := .inl (2, n, .inl f)
abbrev rQ (n : Nat) (f : Nat → Option Nat) : XA := .inl (4, n, .inr (.inr (.inr (.inr f))))
theorem wA2_i {h : XH} {a n : Nat} {f : Nat → Option Nat} {x : Int32} {K : Option Nat → Prop} (i : Nat) (ha : h a = some (rQ n f)) (hi : i < n) (hx : x = nI i) (hn : n < 2 ^ 31) (hk : K (f i)) : wA2 h a x K := by
  subst hx
  exact ⟨n, f, ha, vp_in_nI hi hn, by rw [nI_clamp (by omega)]; exact hk⟩
theorem nI_2 (i : Nat) : 2 * nI i = nI (2 * i) := by
  have : nI (2 * i) = nI 2 * nI i := by unfold nI; exact Int32.ofNat_mul 2 i
  rw [this]; rfl
/-- pairs, one behind another -/
def isPr (h : XH) (a N n : Nat) (u v : Nat → Int32) : Prop := 2 * n ≤ N ∧ N ≤ 40 ∧ ∃ F, h a = some (rI N F) ∧ ∀ i, i < n → F (2 * i) = u i ∧ F (2 * i + 1) = v i
def nF (M : MS) (k : Nat) : Nat := if k = 4 then mn M 7 else mn M k
def isNs (h : XH) (a : Nat) (M : MS) : Prop := ∃ F, h a = some (rI 7 F) ∧ ∀ k, k < 7 → F k = nI (nF M k)
def isPs (h : XH) (a : Nat) (M : MS) (q : Nat → Nat) : Prop := mn M 4 ≤ 40 ∧ ∃ f, h a = some (rQ 40 f) ∧ ∀ k, k < mn M 4 → f k = some (q k) ∧ ∃ F, h (q k) = some (rI 6 F) ∧ ∀ j, j < 6 → F j = nI (mt M (7 + j) k)
section
variable {dc : Nat × Nat} {h : XH} {a N n : Nat} {u v : Nat → Int32} {M : MS} {q : Nat → Nat} {Po : Int32 → Prop} {K : Int32 → Prop}
theorem pr_0 (hp : isPr h a N n u v) (i : Nat) (hi : i < n) {y : Int32} (hy : y = 2 * nI i) (hk : K (u i)) : wAI h 2 a y K := by
  obtain ⟨h1, h2, F, hF, hv⟩ := hp
  refine wAI_i (2 * i) hF (by omega) (by rw [hy, nI_2]) (by omega) ?_
  rw [(hv i hi).1]; exact hk
theorem pr_1 (hp : isPr h a N n u v) (i : Nat) (hi : i < n) {y : Int32} (hy : y = 2 * nI i + 1) (hk : K (v i)) : wAI h 2 a y K := by
  obtain ⟨h1, h2, F, hF, hv⟩ := hp
  refine wAI_i (2 * i + 1) hF (by omega) (by rw [hy, nI_2]; exact nI_1 _) (by omega) ?_
  rw [(hv i hi).2]; exact hk
theorem ns (hn : isNs h a M) (k : Nat) (hk : k < 7) {y : Int32} (hy : y = nI k) (hh : K (nI (nF M k))) : wAI h 2 a y K := by
  obtain ⟨F, hF, hv⟩ := hn
  refine wAI_i k hF hk hy (by decide) ?_
  rw [hv k hk]; exact hh
theorem ps (hp : isPs h a M q) (k : Nat) (hk : k < mn M 4) (j : Nat) (hj : j < 6) {y z : Int32} (hy : y = nI k) (hz : z = nI j) (hh : K (nI (mt M (7 + j) k))) : wA2 h a y (fun r => wDer r (fun q => wAI h 2 q z K)) := by
  obtain ⟨h1, f, hf, hv⟩ := hp
  obtain ⟨h2, F, hF, hv2⟩ := hv k hk
  refine wA2_i k hf (by omega) hy (by decide) ?_
  rw [h2]
  refine wDer_i (wAI_i j hF hj hz (by decide) ?_)
  rw [hv2 j hj]; exact hh
theorem sub_l {a b k : Nat} (ha : a < 2 ^ 30) (hb : b < 2 ^ 30) (hk : k < 2 ^ 30) : nI a - nI b < nI k ↔ a < b + k := by
  rw [Int32.lt_iff_toInt_lt, pk_sub_toInt ha hb, nI_toInt (by omega)]; omega
theorem sub_g {a b k : Nat} (ha : a < 2 ^ 30) (hb : b < 2 ^ 30) (hk : k < 2 ^ 30) : nI k ≤ nI a - nI b ↔ b + k ≤ a := by
  rw [Int32.le_iff_toInt_le, pk_sub_toInt ha hb, nI_toInt (by omega)]; omega
theorem isK_u {M : MS} {t k k' : Nat} (h : isK M t k) (h' : isK M t k') : k = k' := by
  rcases Nat.lt_trichotomy k k' with c | c | c
  · have h1 := h'.2.1 k c
    have h2 := h.2.2 (by have := h'.1; omega)
    omega
  · exact c
  · have h1 := h.2.1 k' c
    have h2 := h'.2.2 (by have := h.1; omega)
    omega
theorem ht_of {M : MS} {t k : Nat} (h : isK M t k) : htv M t k = ht M t := by rw [isK_u h (fGe_K M t)]; rfl
/-- a division that comes out even -/
theorem i_mdiv {x d : Int32} (hx : -1200 ≤ x.toInt ∧ x.toInt ≤ 1200) (hd : 0 < d.toInt ∧ d.toInt ≤ 2880) : x * d / d = x := by
  apply Int32.toInt_inj.mp
  have g1 : x.toInt * d.toInt ≤ 1200 * d.toInt := Int.mul_le_mul_of_nonneg_right hx.2 (by omega)
  have g2 : -1200 * d.toInt ≤ x.toInt * d.toInt := Int.mul_le_mul_of_nonneg_right hx.1 (by omega)
  have h1 : (x * d).toInt = x.toInt * d.toInt := by
    rw [Int32.toInt_mul]
    generalize x.toInt * d.toInt = z at g1 g2 ⊢
    exact Int.bmod_eq_of_le (by omega) (by omega)
  rw [Int32.toInt_div, h1, Int.mul_tdiv_cancel _ (by omega)]
  exact Int.bmod_eq_of_le (by omega) (by omega)
theorem i_back (x y : Int32) : x + (y - x) = y := by rw [Int32.add_comm, Int32.sub_add_cancel]
theorem htv_step {M : MS} (hI : Inv M) {t i : Nat} (hi : i + 1 < mn M 0) (hk : isK M t (i + 1)) (ht2 : t < 2880) : mg M i + ((mg M (i + 1) - mg M i) * (nI t - nI (mt M 0 i))) / (nI (mt M 0 (i + 1)) - nI (mt M 0 i)) = ht M t := by
  have hc := hI.c
  rw [← ht_of hk]
  unfold htv
  rw [if_neg (by omega), if_neg (by omega)]
  by_cases c : mt M 0 (i + 1) = t
  · rw [if_pos (Or.inr c), ← c]
    have h1 := hI.tide hi
    have h0 := hI.tide (i := i) (by omega)
    have hu := hI.tup (i := i) (j := i + 1) (by omega) hi
    have e1 : (mg M (i + 1) - mg M i).toInt = (mg M (i + 1)).toInt - (mg M i).toInt := by
      rw [Int32.toInt_sub]
      exact Int.bmod_eq_of_le (by omega) (by omega)
    have e2 := pk_sub_toInt (a := mt M 0 (i + 1)) (b := mt M 0 i) (by omega) (by omega)
    rw [i_mdiv (by rw [e1]; omega) (by rw [e2]; omega)]
    exact i_back _ _
  · rw [if_neg (fun z => z.elim (by omega) c)]
    rfl
theorem ll_height {an ap : Nat} (hN : isNs h an M) (hP : isPr h ap 20 (mn M 0) (fun i => nI (mt M 0 i)) (fun i => mg M i)) (hI : Inv M) (t : Nat) (ht2 : t < 2880) {x : Int32} (hx : x = nI t) (hh : Po (ht M t)) : w_L_height dc h an ap x Po := by
  have hc := hI.c
  subst hx
  refine ns hN 0 (by decide) rfl (wIf_d (mn M 0 = 0) (nI_eq (a := mn M 0) (b := 0) (by omega) (by decide)) (fun c => ?_) (fun c => ?_))
  · have e : ht M t = 0 := by unfold ht htv; rw [if_pos c]
    rw [e] at hh; exact hh
  refine pr_0 hP 0 (by omega) rfl ?_
  have hT0 := hI.tide (i := 0) (by omega)
  refine wIf_d (mt M 0 0 < t) (n_lt (by omega) (by omega)) (fun d => ?_) (fun d => ?_)
  · refine xloop_up (fun i => nI i) (fun i => ∀ j, j < i → mt M 0 j < t) (mn M 0) 1 (by omega) (fun j hj => by rw [show j = 0 by omega]; exact d) (fun rec i hi1 hi hP2 hr => ?_) (fun rec hP2 => ?_)
    · have hTi := hI.tide hi
      obtain ⟨k, rfl⟩ : ∃ k, i = k + 1 := ⟨i - 1, by omega⟩
      have e1 : 2 * nI (k + 1) - 2 = 2 * nI k := by
        rw [nI_2, nI_2]; exact pk_sub (a := 2 * (k + 1)) (b := 2) (by omega)
      have e2 : 2 * nI (k + 1) - 1 = 2 * nI k + 1 := by
        rw [nI_2, nI_2]
        exact (pk_sub (a := 2 * (k + 1)) (b := 1) (by omega)).trans (by rw [show 2 * (k + 1) - 1 = 2 * k + 1 by omega]; exact (nI_1 _).symm)
      refine ns hN 0 (by decide) rfl (wIf_f (nI_ge (show k + 1 < nF M 0 from hi) (show mn M 0 < _ by omega)) (pr_0 hP (k + 1) hi rfl (wIf_d (t ≤ mt M 0 (k + 1)) (n_le (by omega) (by omega)) (fun c1 => ?_) (fun c1 => ?_))))
      · have hk : isK M t (k + 1) := ⟨by omega, hP2, fun _ => c1⟩
        have hu := hI.tup (i := k) (j := k + 1) (by omega) hi
        refine pr_0 hP k (by omega) e1 (pr_1 hP k (by omega) e2 (pr_1 hP (k + 1) hi rfl (pr_1 hP k (by omega) e2 (pr_0 hP (k + 1) hi rfl (pr_0 hP k (by omega) e1 ⟨fun z => ?_, ?_⟩)))))
        · rw [pk_sub (by omega)] at z
          exact nI_ne0 (by omega) (by omega) z
        · rw [← htv_step hI hi hk ht2] at hh; exact hh
      · have := hr (fun j hj => by
          by_cases e : j = k + 1
          · subst e; omega
          · exact hP2 j (by omega))
        rw [nI_succ] at this
        exact this
    · have hk : isK M t (mn M 0) := ⟨Nat.le_refl _, hP2, fun q => absurd q (Nat.lt_irrefl _)⟩
      obtain ⟨k, hk1⟩ : ∃ k, mn M 0 = k + 1 := ⟨mn M 0 - 1, by omega⟩
      have e2 : 2 * nI (mn M 0) - 1 = 2 * nI k + 1 := by
        rw [hk1, nI_2, nI_2]
        exact (pk_sub (a := 2 * (k + 1)) (b := 1) (by omega)).trans (by rw [show 2 * (k + 1) - 1 = 2 * k + 1 by omega]; exact (nI_1 _).symm)
      refine ns hN 0 (by decide) rfl (wIf_t (nI_le (Nat.le_refl _) (by omega)) (ns hN 0 (by decide) rfl (pr_1 hP k (by omega) e2 ?_)))
      rw [← ht_of hk] at hh
      unfold htv at hh
      rw [if_neg c, if_pos rfl, show mn M 0 - 1 = k by omega] at hh
      exact hh
  · refine pr_1 hP 0 (by omega) rfl ?_
    have hk : isK M t 0 := ⟨Nat.zero_le _, fun j hj => absurd hj (Nat.not_lt_zero j), fun _ => by omega⟩
    rw [← ht_of hk] at hh
    unfold htv at hh
    rw [if_neg c, if_neg (by omega), if_pos (Or.inl rfl)] at hh
    exact hh
theorem ll_need {an : Nat} (hN : isNs h an M) {s : Nat} {x : Int32} (hx : x = nI (mt M 4 s)) (hh : Po (need M s)) : w_L_need dc h an x Po := by
  subst hx
  exact ⟨by decide, ns hN 6 (by decide) rfl hh⟩
theorem ll_tugs {n : Nat} (hn : n ≤ 400) {x : Int32} (hx : x = nI n) (hh : Po (nI (tugsFor n))) : w_L_tugs dc h x Po := by
  subst hx
  unfold tugsFor at hh
  refine wIf_d (n < 220) (n_lt (b := 220) (by omega) (by decide)) (fun c => wIf_d (n < 160) (n_lt (b := 160) (by omega) (by decide)) (fun c2 => wIf_d (n < 100) (n_lt (b := 100) (by omega) (by decide)) (fun c3 => ?_) (fun c3 => ?_)) (fun c2 => ?_)) (fun c => ?_)
  · rw [if_pos c3] at hh; exact hh
  · rw [if_neg c3, if_pos c2] at hh; exact hh
  · rw [if_neg (by omega), if_neg c2, if_pos c] at hh; exact hh
  · rw [if_neg (by omega), if_neg (by omega), if_neg c] at hh; exact hh
theorem ll_tugsAt {aq : Nat} (hQ : isPs h aq M q) (hI : Inv M) (t : Nat) (ht2 : t < 3000) {x y : Int32} (hx : x = nI (mn M 4)) (hy : y = nI t) (hh : Po (nI (uAt M t (mn M 4)))) : w_L_tugsAt dc h x aq y Po := by
  have hc := hI.c
  subst hx hy
  refine xloop_up (fun i => (nI (uAt M t i), nI i)) (fun _ => True) (mn M 4) 0 (Nat.zero_le _) trivial (fun rec i _ hi _ hr => ?_) (fun rec _ => wIf_t (nI_le (Nat.le_refl _) (by omega)) hh)
  have hr := hr trivial
  rw [nI_succ, uAt_succ] at hr
  have hp := hI.pas hi
  have no : ¬ (tFrom (pO M i) (pB M i) ≤ t ∧ t ≤ tFrom (pO M i) (pB M i) + 39) → rec (nI (uAt M t i), nI i + 1) := fun k => by
    rw [if_neg k] at hr; exact hr
  have yes : (tFrom (pO M i) (pB M i) ≤ t ∧ t ≤ tFrom (pO M i) (pB M i) + 39) → w_L_tugsAt_60 dc h (nI (mn M 4)) aq (nI t) (nI (uAt M t i)) (nI i) Po rec := fun k => by
    rw [if_pos k] at hr
    refine ps hQ i hi 3 (by decide) rfl rfl ?_
    show rec (nI (uAt M t i) + nI (pT M i), nI i + 1)
    rw [nI_add]; exact hr
  refine wIf_f (nI_ge hi (by omega)) (ps hQ i hi 1 (by decide) rfl rfl (ps hQ i hi 5 (by decide) rfl rfl ?_))
  show wIf (nI (pO M i) = 1) (wIf (nI t - nI (pB M i) < 0) _ (wIf (40 ≤ nI t - nI (pB M i)) _ _)) (wIf (nI t - nI (pB M i) < 20) _ (wIf (60 ≤ nI t - nI (pB M i)) _ _))
  refine wIf_d (pO M i = 1) (nI_eq (a := pO M i) (b := 1) (by omega) (by decide)) (fun c => ?_) (fun c => ?_)
  · have e : tFrom (pO M i) (pB M i) = pB M i := by unfold tFrom; rw [if_pos c]; rfl
    rw [e] at no yes
    exact wIf_d (t < pB M i + 0) (sub_l (k := 0) (by omega) (by omega) (by decide)) (fun d => no (by omega)) (fun d => wIf_d (pB M i + 40 ≤ t) (sub_g (k := 40) (by omega) (by omega) (by decide)) (fun d2 => no (by omega)) (fun d2 => yes (by omega)))
  · have e : tFrom (pO M i) (pB M i) = pB M i + 20 := by unfold tFrom; rw [if_neg c]
    rw [e] at no yes
    exact wIf_d (t < pB M i + 20) (sub_l (k := 20) (by omega) (by omega) (by decide)) (fun d => no (by omega)) (fun d => wIf_d (pB M i + 60 ≤ t) (sub_g (k := 60) (by omega) (by omega) (by decide)) (fun d2 => no (by omega)) (fun d2 => yes (by omega)))
/-- when a berth is left for good -/
def lvN (M : MS) (i : Nat) : Nat := if buN M i (mn M 4) = 2880 then 100000 else buN M i (mn M 4)
theorem lvN_lt {M : MS} {i t : Nat} (ht2 : t < 2880) : t < lvN M i ↔ t < buN M i (mn M 4) := by
  unfold lvN
  split <;> omega
theorem ll_leaves {aq : Nat} (hQ : isPs h aq M q) (hI : Inv M) (i : Nat) (hi : i < mn M 4) {x y : Int32} (hx : x = nI (mn M 4)) (hy : y = nI i) (hh : Po (nI (lvN M i))) : w_L_leaves dc h x aq y Po := by
  have hc := hI.c
  have hpi := hI.pas hi
  subst hx hy
  have key : w_L_leaves_4 dc h (nI (mn M 4)) aq (nI i) Po (nI (i + 1)) := by
    refine xloop_up (fun k => nI k) (fun k => buN M i k = 2880) (mn M 4) (i + 1) (by omega) (buN_0 _ (fun j h1 h2 => by omega)) (fun rec k hk1 hk hP hr => ?_) (fun rec hP => ?_)
    · have hp := hI.pas hk
      have go : ¬ (pS M k = pS M i ∧ pO M k = 1) → rec (nI k + 1) := fun z => by
        have := hr (by rw [buN_succ, if_neg (fun w => z ⟨w.2.2.1, w.2.2.2⟩)]; exact hP)
        rw [nI_succ] at this; exact this
      refine wIf_f (nI_ge hk (by omega)) (ps hQ k hk 0 (by decide) rfl rfl (ps hQ i hi 0 (by decide) rfl rfl ?_))
      refine wIf_d (pS M k = pS M i) (nI_eq (a := pS M k) (b := pS M i) (by omega) (by omega)) (fun c => ?_) (fun c => go (fun z => c z.1))
      refine ps hQ k hk 5 (by decide) rfl rfl (wIf_d (pO M k = 1) (nI_eq (a := pO M k) (b := 1) (by omega) (by decide)) (fun d => ?_) (fun d => go (fun z => d z.2)))
      refine ps hQ k hk 1 (by decide) rfl rfl ?_
      have e : buN M i (k + 1) = pB M k + 60 := by rw [buN_succ, if_pos ⟨hP, by omega, c, d⟩]
      have e2 : buN M i (mn M 4) = pB M k + 60 := (buN_keep (by rw [e]; omega) _ (by omega)).trans e
      have e3 : lvN M i = pB M k + 60 := by unfold lvN; rw [if_neg (by omega), e2]
      rw [e3] at hh
      show Po (nI (pB M k) + 60)
      rw [nI_60]; exact hh
    · have e3 : lvN M i = 100000 := by unfold lvN; rw [if_pos hP]
      rw [e3] at hh
      exact wIf_t (nI_le (Nat.le_refl _) (by omega)) hh
  rw [nI_succ] at key
  exact key
end
