/-! PURE ROWS: the law's calls of the class that change nothing -/
def kM (h h' : XH) : Prop := ∀ a e, h a = some e → xk e = 1 → h' a = some e
theorem kM_r {h : XH} : kM h h := fun _ _ q _ => q
theorem kM_k {n : Nat} {h h' : XH} (hn : n ≠ 1) (q : kept n h h') : kM h h' := fun a e z z2 => q a e z (by rw [z2]; exact fun w => hn w.symm)
theorem kM_t {h h' h'' : XH} (p : kM h h') (q : kM h' h'') : kM h h'' := fun a e z z2 => q a e (p a e z z2) z2
def outv (h : XH) (o : Nat) (c r : Int32) : Prop := ∃ f, h o = some (.inl (4, 1, .inr (.inl f))) ∧ (c = 0 → f 0 = r.toInt64)
def isO (h : XH) (o : Nat) : Prop := ∃ f, h o = some (.inl (4, 1, .inr (.inl f)))
section
variable {dc : Nat × Nat} {h h0 : XH} {x o : Nat} {g : Nat → Nat → Nat} {M : MS} {Po : Int32 → XH → Prop}
theorem lb_er (hB : isB dc h x g M) (ho : isO h o) (k : kM h0 h) {c r : Int32} (hc : c ≠ 0) (hh : ∀ h' g', isB dc h' x g' M → kM h0 h' → outv h' o c r → Po c h') : Po c h := by
  obtain ⟨f, hf⟩ := ho
  exact hh h g hB k ⟨f, hf, fun z => absurd z hc⟩
theorem lb_okv (hB : isB dc h x g M) (ho : isO h o) (k : kM h0 h) {r : Int32} {v : Int64} (hv : v = r.toInt64) (hh : ∀ h' g', isB dc h' x g' M → kM h0 h' → outv h' o 0 r → Po 0 h') : wSL h o 0 v (fun h6 => Po 0 h6) := by
  subst hv
  obtain ⟨f, hf⟩ := ho
  refine ⟨1, f, hf, (show vp_in (nI 0) 1 from vp_in_nI (by decide) (by decide)), ?_⟩
  have k2 : kept 2 h (xup h o (.inl (4, 1, .inr (.inl (vp_updL f (0 : Int32).toNatClampNeg r.toInt64))))) := kept_u hf rfl
  exact hh _ g (isB_kept (n := 2) (by decide) k2 hB) (kM_t k (kM_k (by decide) k2)) ⟨_, xup_s, fun _ => rfl⟩
theorem lb_ok (hB : isB dc h x g M) (ho : isO h o) (k : kM h0 h) {r : Int32} (hh : ∀ h' g', isB dc h' x g' M → kM h0 h' → outv h' o 0 r → Po 0 h') : wSL h o 0 r.toInt64 (fun h6 => Po 0 h6) := lb_okv hB ho k rfl hh
theorem lb_height (hB : isB dc h x g M) (hI : Inv M) (ho : isO h o) (y : Int32) (hh : ∀ h' g', isB dc h' x g' (oc_height M y).2.2 → kM h h' → outv h' o (oc_height M y).1 (oc_height M y).2.1 → Po (oc_height M y).1 h') : w_L_height dc h x y o Po := by
  unfold oc_height at hh
  refine wO_i hB.1 (sb_checkTime (fun c => ?_) (fun c => ?_))
  · rw [cI_f (fun z => z c)] at hh
    obtain ⟨t, ht2, rfl⟩ := c
    rw [nt_nI (by omega)] at hh
    exact sb_heightAt hB hI t ht2 rfl (lb_ok hB ho kM_r hh)
  · rw [cI_t c] at hh; exact ⟨rfl, lb_er hB ho kM_r (by decide) hh⟩
theorem sb_counted {Po : Int32 → Prop} (hB : isB dc h x g M) (k : Nat) (hk : k < 5) (hh : Po (nI (mn M k))) {A : Prop} {z : Int32} (hz : z = nI k) : ((z = 0 → wR h x 7 0 (fun a1 => wI h a1 6 2 (fun v2 => Po v2))) ∧ (z = 1 → wR h x 7 1 (fun a3 => wO h a3 0 ( w_Jx4a65c_size_8abf5 dc h a3 (fun r6 => Po r6)))) ∧ (z = 2 → wR h x 7 2 (fun a9 => wO h a9 0 ( w_Jx4a65c_size_8abf5 dc h a9 (fun r12 => Po r12)))) ∧ (z = 3 → wR h x 7 3 (fun a15 => wO h a15 0 ( w_Jx4a65c_size_8abf5 dc h a15 (fun r18 => Po r18)))) ∧ (z = 4 → wR h x 7 4 (fun a21 => wO h a21 0 ( w_Jx4a65c_size_8abf5 dc h a21 (fun r24 => Po r24)))) ∧ ((z).toInt < 0 ∨ 4 < (z).toInt → A)) := by
  subst hz
  have e : ∀ j : Nat, j < 5 → nI k = nI j → k = j := fun j hj q => (nI_eq (a := k) (b := j) (by omega) (by omega)).mp q
  refine ⟨fun q => ?_, fun q => ?_, fun q => ?_, fun q => ?_, fun q => ?_, fun q => ?_⟩
  · have := e 0 (by decide) q; subst this; exact wR_i hB.1 rfl (wI_i hB.T.1 rfl hh)
  · have := e 1 (by decide) q; subst this; exact sb_size hB 1 (by decide) (by decide) hh
  · have := e 2 (by decide) q; subst this; exact sb_size hB 2 (by decide) (by decide) hh
  · have := e 3 (by decide) q; subst this; exact sb_size hB 3 (by decide) (by decide) hh
  · have := e 4 (by decide) q; subst this; exact sb_size hB 4 (by decide) (by decide) hh
  · rw [nI_toInt (by omega)] at q; omega
theorem lb_count (hB : isB dc h x g M) (hI : Inv M) (ho : isO h o) (y : Int32) (hh : ∀ h' g', isB dc h' x g' (oc_count M y).2.2 → kM h h' → outv h' o (oc_count M y).1 (oc_count M y).2.1 → Po (oc_count M y).1 h') : w_L_count dc h x y o Po := by
  unfold oc_count at hh
  refine wO_i hB.1 ?_
  by_cases c : isIx y 5
  · rw [cI_f (fun z => z c)] at hh
    obtain ⟨k, hk, rfl⟩ := c
    rw [nt_nI (by omega)] at hh
    exact sb_counted hB k hk (lb_ok hB ho kM_r hh) rfl
  · rw [cI_t c] at hh
    have n : ∀ k : Nat, k < 5 → y ≠ nI k := fun k hk z => c ⟨k, hk, z⟩
    exact ⟨fun z => absurd z (n 0 (by decide)), fun z => absurd z (n 1 (by decide)), fun z => absurd z (n 2 (by decide)), fun z => absurd z (n 3 (by decide)), fun z => absurd z (n 4 (by decide)), fun _ => ⟨rfl, lb_er hB ho kM_r (by decide) hh⟩⟩
theorem lb_need (hB : isB dc h x g M) (hI : Inv M) (ho : isO h o) (y : Int32) (hh : ∀ h' g', isB dc h' x g' (oc_need M y).2.2 → kM h h' → outv h' o (oc_need M y).1 (oc_need M y).2.1 → Po (oc_need M y).1 h') : w_L_need dc h x y o Po := by
  have hc := hI.c
  unfold oc_need at hh
  refine wO_i hB.1 (wO_i hB.1 (sb_size hB 2 (by decide) (by decide) (sb_checkNumber rfl (by omega) (fun c => ?_) (fun c => ?_))))
  · rw [cI_f (fun z => z c)] at hh
    obtain ⟨s, hs, rfl⟩ := c
    rw [nt_nI (by omega)] at hh
    exact sb_el hB hI 2 (by decide) (by decide) s hs rfl (wO_i (hB.ship hs) (sb_waterNeed hB s hs (lb_ok hB ho kM_r hh)))
  · rw [cI_t c] at hh; exact ⟨rfl, lb_er hB ho kM_r (by decide) hh⟩
theorem lb_window (hB : isB dc h x g M) (hI : Inv M) (ho : isO h o) (y z w : Int32) (hh : ∀ h' g', isB dc h' x g' (oc_window M y z w).2.2 → kM h h' → outv h' o (oc_window M y z w).1 (oc_window M y z w).2.1 → Po (oc_window M y z w).1 h') : w_L_window dc h x y z w o Po := by
  have hc := hI.c
  unfold oc_window at hh
  refine wO_i hB.1 (wO_i hB.1 (sb_checkCall hB hI y z w (fun c d => ?_) (fun c => ?_) (fun c d => ?_)))
  · rw [cI_f (fun q => q c), cI_f (fun q => q d)] at hh
    obtain ⟨⟨s, hs, rfl⟩, hy⟩ := c
    obtain ⟨t, ht2, rfl⟩ := d
    rw [nt_nI (by omega), nt_nI (by omega)] at hh
    refine sb_el hB hI 2 (by decide) (by decide) s hs rfl (wO_i (hB.ship hs) ?_)
    have h46 : ∀ d : Nat, dpt M (yO z) = d → w_X6_window_46 dc h x (nI t) (g 2 s) (nI d) (fun r3 => wSL h o 0 r3.toInt64 (fun h6 => Po 0 h6)) (fun E => (E = "java/lang/IndexOutOfBoundsException" ∧ Po 1 h) ∨ (E = "java/lang/IllegalArgumentException" ∧ Po 2 h)) := by
      intro d hd
      rw [hd] at hh
      refine xloop_up (fun i => nI i) (fun i => ∀ t', t ≤ t' → t' < i → ¬ wtr M s d t') 2880 t (by omega) (fun t' h1 h2 => absurd h1 (by omega)) (fun rec i h2 h3 hP hr => ?_) (fun rec hP => ?_)
      · refine wIf_f (fun q => absurd ((n_lt (a := 2879) (by decide) (by omega)).mp q) (by omega)) (sb_hasWater hB hI s hs d i (by omega) rfl rfl (wIf_d _ bI_0 (fun d => ?_) (fun d => ?_)))
        · have := hr (fun t' h3 h4 => by
            by_cases e : t' = i
            · subst e; exact d
            · exact hP t' h3 (by omega))
          rw [nI_succ] at this; exact this
        · rw [fst_some h2 h3 (Classical.byContradiction d) hP] at hh; exact lb_ok hB ho kM_r hh
      · refine wIf_t (by decide) ?_
        rw [fst_none (fun t' h1 h2 => hP t' h1 h2)] at hh; exact lb_ok hB ho kM_r (r := -1) hh
    rcases hy with rfl | ⟨b, hb, rfl⟩
    · exact wIf_t rfl (wI_i hB.1 rfl (h46 (mn M 5) (by rw [yO_n]; rfl)))
    · exact wIf_f (nI_ne_m1 (by omega)) (sb_el hB hI 1 (by decide) (by decide) b hb rfl (wO_i (hB.berth hb) (wI_i (hB.berth hb) rfl (h46 (mt M 2 b) (by rw [yO_s (by omega)]; rfl)))))
  · rw [cI_t c] at hh; exact Or.inl ⟨rfl, lb_er hB ho kM_r (by decide) hh⟩
  · rw [cI_f (fun q => q c), cI_t d] at hh; exact Or.inr ⟨rfl, lb_er hB ho kM_r (by decide) hh⟩
theorem mmin_min {M : MS} {a n : Nat} : mmin M a (n + 1) = if ht M (a + n + 1) < mmin M a n then ht M (a + n + 1) else mmin M a n := rfl
theorem sb_leastWater {Po : Int32 → Prop} (hB : isB dc h x g M) (hI : Inv M) (i : Nat) (hi : i < mn M 4) (a e : Nat) (hae : a ≤ e) (he : e < 2880) {y z : Int32} (hy : y = nI a) (hz : z = nI e) (hh : Po ((nI (mt M 2 (pA M i)) + mmin M a (e - a)) - nI (mt M 4 (pS M i)))) : w_X6_leastWater dc h x (g 5 i) y z Po := by
  have hp := hI.pas hi
  subst hy hz
  refine sb_heightAt hB hI a (by omega) rfl ?_
  show w_X6_leastWater_15 dc h x (g 5 i) (nI e) Po (mmin M a 0, nI a + 1)
  rw [nI_s]
  refine xloop_up (fun j => (mmin M a (j - a - 1), nI j)) (fun _ => True) (e + 1) (a + 1) (by omega) trivial (fun rec j h1 h2 _ hr => ?_) (fun rec _ => ?_) |> fun k => by
    rw [show mmin M a 0 = mmin M a (a + 1 - a - 1) by congr 1; omega]; exact k
  · have hr := hr trivial
    rw [nI_succ] at hr
    refine wIf_f (fun q => absurd ((n_lt (by omega) (by omega)).mp q) (by omega)) (sb_heightAt hB hI j (by omega) rfl ?_)
    rw [show j + 1 - a - 1 = (j - a - 1) + 1 by omega, mmin_min, show a + (j - a - 1) + 1 = j by omega] at hr
    exact hr
  · refine wIf_t ((n_lt (by omega) (by omega)).mpr (by omega)) ?_
    rw [show e + 1 - a - 1 = e - a by omega]
    exact wR_i (hB.way hi) rfl (wI_i (hB.berth hp.2.2.2.1) rfl (wR_i (hB.way hi) rfl (wI_i (hB.ship hp.1) rfl hh)))
theorem lb_least (hB : isB dc h x g M) (hI : Inv M) (ho : isO h o) (y : Int32) (hh : ∀ h' g', isB dc h' x g' (oc_least M y).2.2 → kM h h' → outv h' o (oc_least M y).1 (oc_least M y).2.1 → Po (oc_least M y).1 h') : w_L_least dc h x y o Po := by
  have hc := hI.c
  unfold oc_least at hh
  refine wO_i hB.1 (wO_i hB.1 (sb_size hB 2 (by decide) (by decide) (sb_checkNumber rfl (by omega) (fun c => ?_) (fun c => ?_))))
  · rw [cI_f (fun z => z c)] at hh
    obtain ⟨s, hs, rfl⟩ := c
    rw [nt_nI (by omega)] at hh
    refine sb_el hB hI 2 (by decide) (by decide) s hs rfl (wO_i (hB.ship hs) ?_)
    have hsh := hB.ship hs
    have hli := lastI_eq hI (n := mn M 4) (s := s) (Nat.le_refl _)
    cases hl : lastS M s (mn M 4) with
    | none =>
      rw [hl] at hsh hli
      dsimp only at hli
      rw [hli] at hh
      exact wQ_i none hsh rfl (wOpt_n (wIf_t rfl (wOpt_n (Or.inr ⟨rfl, lb_er hB ho kM_r (by decide) hh⟩))))
    | some j =>
      rw [hl] at hsh hli
      obtain ⟨j1, j2, j3⟩ := lastS_spec.1 j hl
      have hp := hI.pas j1
      refine wQ_i (some (g 4 j)) hsh rfl (wOpt_s (wR_i (hB.pas j1) rfl (wI_i (hB.way j1) rfl (wIf_d (pO M j = 0) (nI_eq (a := pO M j) (b := 0) (by omega) (by decide)) (fun d => ?_) (fun d => ?_)))))
      · dsimp only at hli
        rw [if_pos d] at hli
        rw [hli] at hh
        have hbu : buN M j (mn M 4) = 2880 := buN_0 _ (fun q q1 q2 => by rw [j2]; exact j3 q q1 q2)
        have hlm : lastMin M j = 2879 := by unfold lastMin; rw [if_pos hbu]
        dsimp only at hh
        unfold lst at hh
        rw [hlm] at hh
        refine wIf_t rfl (wOpt_s (wR_i (hB.pas j1) rfl (wO_i (hB.pas j1) (wI_i (hB.pas j1) rfl (wIf_t rfl (wO_i hB.1 ?_))))))
        refine sb_leastWater hB hI j j1 (pB M j + 60) 2879 (by omega) (by decide) (nI_60 _) rfl ?_
        rw [j2]; exact lb_ok hB ho kM_r hh
      · dsimp only at hli
        rw [if_neg d] at hli
        have ho1 : pO M j = 1 := by omega
        obtain ⟨i, i1, i2⟩ := (alt_next hI j1).mp ho1
        rw [j2] at i1
        rw [hli, i1] at hh
        obtain ⟨i3, i4, -⟩ := lastS_spec.1 i i1
        have hpi := hI.pas (i := i) (by omega)
        have hu := hI.sup i3 j1 (i4.trans j2.symm)
        have hbu : buN M i (mn M 4) = pB M j + 60 := buN_next hI j1 (Nat.le_refl _) (by rw [j2]; exact i1) ho1
        have hlm : lastMin M i = pB M j := by unfold lastMin; rw [if_neg (by omega), hbu]; omega
        dsimp only at hh
        unfold lst at hh
        rw [hlm] at hh
        have hpj := hB.pas j1
        rw [j2, i1] at hpj
        refine wIf_f (by decide) (wDer_i (wQ_i (some (g 4 i)) hpj rfl (wOpt_s ?_)))
        have i5 : i < mn M 4 := by omega
        refine wR_i (hB.pas i5) rfl (wO_i (hB.pas i5) (wI_i (hB.pas i5) rfl (wIf_f (by decide) (wDer_i (wI_i hpj rfl (wO_i hB.1 ?_))))))
        refine sb_leastWater hB hI i i5 (pB M i + 60) (pB M j) (by omega) (by omega) (nI_60 _) rfl ?_
        rw [i4]; exact lb_ok hB ho kM_r hh
  · rw [cI_t c] at hh; exact Or.inl ⟨rfl, lb_er hB ho kM_r (by decide) hh⟩
theorem lb_earliest (hB : isB dc h x g M) (hI : Inv M) (ho : isO h o) (y z w : Int32) (hh : ∀ h' g', isB dc h' x g' (oc_earliest M y z w).2.2 → kM h h' → outv h' o (oc_earliest M y z w).1 (oc_earliest M y z w).2.1 → Po (oc_earliest M y z w).1 h') : w_L_earliest dc h x y z w o Po := by
  have hc := hI.c
  unfold oc_earliest at hh
  refine wO_i hB.1 (wO_i hB.1 (sb_checkCall hB hI y z w (fun c d => ?_) (fun c => ?_) (fun c d => ?_)))
  · rw [cI_f (fun q => q c), cI_f (fun q => q d)] at hh
    obtain ⟨⟨s, hs, rfl⟩, hy⟩ := c
    obtain ⟨t, ht2, rfl⟩ := d
    rw [nt_nI (by omega), nt_nI (by omega)] at hh
    have hy1 : ∀ b, yO z = some b → b < mn M 1 := by
      intro b hb
      rcases hy with rfl | ⟨b2, hb2, rfl⟩
      · rw [yO_n] at hb; cases hb
      · rw [yO_s (by omega)] at hb; cases hb; exact hb2
    have hy2 : z = oN (yO z) := by
      rcases hy with rfl | ⟨b2, hb2, rfl⟩
      · rw [yO_n]; rfl
      · rw [yO_s (by omega)]; rfl
    refine sb_routeOf hB hI s hs (yO z) hy1 rfl hy2 (fun hw => ?_) (fun oo b hw q h' hq hW he => ?_)
    · have e : fst (beg M s (yO z)) t 2820 = none := fst_none (fun t' _ _ ⟨w, w1, _⟩ => by rw [hw] at w1; cases w1)
      rw [e] at hh
      exact wOpt_n (lb_ok hB ho kM_r (r := -1) hh)
    · have hb := way_b hI hy1 hw
      have hB2 : isB dc h' x g M := isB_kept (n := 1) (by decide) (ext_k he) hB
      have ho2 : isO h' o := ho.elim (fun f hf => ⟨f, he _ _ hf⟩)
      rw [fB_eq hI hw] at hh
      exact wOpt_s (wO_i hB2.1 (sb_firstBegin hB2 hI s b oo q hW hs hb.1 hb.2 t ht2 rfl (lb_ok hB2 ho2 (kM_k (n := 0) (by decide) (ext_k he)) hh)))
  · rw [cI_t c] at hh; exact Or.inl ⟨rfl, lb_er hB ho kM_r (by decide) hh⟩
  · rw [cI_f (fun q => q c), cI_t d] at hh; exact Or.inr ⟨rfl, lb_er hB ho kM_r (by decide) hh⟩
theorem sb_told {Po : Int32 → Prop} (hB : isB dc h x g M) (hI : Inv M) (i : Nat) (hi : i < mn M 4) (k : Nat) (hk : k < 6) {z : Int32} (hz : z = nI k) {A : Prop} (hh : Po (nI (mt M (7 + k) i))) : ((z = 0 → wR h (g 4 i) 2 0 (fun a19 => wR h a19 4 0 (fun a20 => wI h a20 5 0 (fun v21 => Po v21)))) ∧ (z = 1 → wI h (g 4 i) 2 2 (fun v22 => Po v22)) ∧ (z = 2 → wR h (g 4 i) 2 3 (fun a23 => wI h a23 3 0 (fun v24 => Po v24))) ∧ (z = 3 → wR h (g 4 i) 2 0 (fun a25 => wI h a25 4 3 (fun v26 => Po v26))) ∧ (z = 4 → wR h (g 4 i) 2 0 (fun a27 => wR h a27 4 1 (fun a28 => wI h a28 1 0 (fun v29 => Po v29)))) ∧ (z = 5 → wR h (g 4 i) 2 0 (fun a30 => wI h a30 4 2 (fun v31 => wIf (v31 = 0) (Po 0) (Po 1)))) ∧ ((z).toInt < 0 ∨ 5 < (z).toInt → A)) := by
  have hp := hI.pas hi
  subst hz
  have e : ∀ j : Nat, j < 6 → nI k = nI j → k = j := fun j hj q => (nI_eq (a := k) (b := j) (by omega) (by omega)).mp q
  refine ⟨fun q => ?_, fun q => ?_, fun q => ?_, fun q => ?_, fun q => ?_, fun q => ?_, fun q => ?_⟩
  · have := e 0 (by decide) q; subst this
    exact wR_i (hB.pas hi) rfl (wR_i (hB.way hi) rfl (wI_i (hB.ship hp.1) rfl hh))
  · have := e 1 (by decide) q; subst this
    exact wI_i (hB.pas hi) rfl hh
  · have := e 2 (by decide) q; subst this
    exact wR_i (hB.pas hi) rfl (wI_i (hB.pilot hp.2.2.1) rfl hh)
  · have := e 3 (by decide) q; subst this
    exact wR_i (hB.pas hi) rfl (wI_i (hB.way hi) rfl hh)
  · have := e 4 (by decide) q; subst this
    exact wR_i (hB.pas hi) rfl (wR_i (hB.way hi) rfl (wI_i (hB.berth hp.2.2.2.1) rfl hh))
  · have := e 5 (by decide) q; subst this
    refine wR_i (hB.pas hi) rfl (wI_i (hB.way hi) rfl (wIf_d (pO M i = 0) (nI_eq (a := pO M i) (b := 0) (by omega) (by decide)) (fun d => ?_) (fun d => ?_)))
    · rw [show mt M (7 + 5) i = 0 from d] at hh; exact hh
    · rw [show mt M (7 + 5) i = 1 from (show pO M i = 1 by omega)] at hh; exact hh
  · rw [nI_toInt (by omega)] at q; omega
theorem lb_passage (hB : isB dc h x g M) (hI : Inv M) (ho : isO h o) (y z : Int32) (hh : ∀ h' g', isB dc h' x g' (oc_passage M y z).2.2 → kM h h' → outv h' o (oc_passage M y z).1 (oc_passage M y z).2.1 → Po (oc_passage M y z).1 h') : w_L_passage dc h x y z o Po := by
  have hc := hI.c
  unfold oc_passage at hh
  refine wO_i hB.1 (sb_size hB 4 (by decide) (by decide) (sb_checkNumber rfl (by omega) (fun c => ?_) (fun c => ?_)))
  · obtain ⟨i, hi, rfl⟩ := c
    refine sb_el hB hI 4 (by decide) (by decide) i hi rfl (wO_i (hB.pas hi) ?_)
    by_cases d : isIx z 6
    · obtain ⟨k, hk, rfl⟩ := d
      rw [cI_f (fun q => q ⟨⟨i, hi, rfl⟩, ⟨k, hk, rfl⟩⟩), nt_nI (by omega), nt_nI (by omega)] at hh
      exact sb_told hB hI i hi k hk rfl (lb_ok hB ho kM_r hh)
    · rw [cI_t (fun q => d q.2)] at hh
      have n : ∀ k : Nat, k < 6 → z ≠ nI k := fun k hk q => d ⟨k, hk, q⟩
      exact ⟨fun q => absurd q (n 0 (by decide)), fun q => absurd q (n 1 (by decide)), fun q => absurd q (n 2 (by decide)), fun q => absurd q (n 3 (by decide)), fun q => absurd q (n 4 (by decide)), fun q => absurd q (n 5 (by decide)), fun _ => ⟨rfl, lb_er hB ho kM_r (by decide) hh⟩⟩
  · rw [cI_t (fun q => c q.1)] at hh; exact ⟨rfl, lb_er hB ho kM_r (by decide) hh⟩
theorem lb_occupant (hB : isB dc h x g M) (hI : Inv M) (ho : isO h o) (y z : Int32) (hh : ∀ h' g', isB dc h' x g' (oc_occupant M y z).2.2 → kM h h' → outv h' o (oc_occupant M y z).1 (oc_occupant M y z).2.1 → Po (oc_occupant M y z).1 h') : w_L_occupant dc h x y z o Po := by
  have hc := hI.c
  unfold oc_occupant at hh
  refine wO_i hB.1 (sb_size hB 1 (by decide) (by decide) (sb_checkNumber rfl (by omega) (fun c => sb_checkTime (fun d => ?_) (fun d => ?_)) (fun c => ?_)))
  · rw [cI_f (fun q => q c), cI_f (fun q => q d)] at hh
    obtain ⟨b, hb, rfl⟩ := c
    obtain ⟨t, ht2, rfl⟩ := d
    rw [nt_nI (by omega), nt_nI (by omega)] at hh
    refine xloop_up (fun i => nI i) (fun i => ∀ p, 0 ≤ p → p < i → ¬ occP M b t p) (mn M 4) 0 (Nat.zero_le _) (fun p _ hp => absurd hp (Nat.not_lt_zero p)) (fun rec i _ hi hP hr => ?_) (fun rec hP => ?_)
    · have hp := hI.pas hi
      have hbu := bU_le hI hi
      have go : ¬ occP M b t i → rec (nI i + 1) := fun g9 => by
        have := hr (fun p hp0 hp => by
          by_cases e : p = i
          · subst e; exact g9
          · exact hP p hp0 (by omega))
        rw [nI_succ] at this; exact this
      refine sb_size hB 4 (by decide) (by decide) (wIf_f (nI_ge hi (by omega)) (sb_el hB hI 4 (by decide) (by decide) i hi rfl (wO_i (hB.pas hi) ?_)))
      refine wR_i (hB.pas hi) rfl (wR_i (hB.way hi) rfl (wI_i (hB.berth hp.2.2.2.1) rfl (wIf_d (pA M i = b) (nI_eq (a := pA M i) (b := b) (by omega) (by omega)) (fun e => ?_) (fun e => go (fun q => e q.2.1)))))
      refine wI_i (hB.pas hi) rfl (wIf_d (t < pB M i) (n_lt (by omega) (by omega)) (fun k => wZ_0 (wIf_t rfl (go (fun q => absurd q.2.2.1 (by omega))))) (fun k => ?_))
      refine wI_i (hB.pas hi) rfl (wIf_d (bU M i ≤ t) (n_le (by omega) (by omega)) (fun k2 => wZ_0 (wIf_t rfl (go (fun q => ?_)))) (fun k2 => wZ_1 (wIf_f (by decide) ?_)))
      · have := q.2.2.2
        have e2 : bU M i = buN M i (mn M 4) := by unfold bU; rw [if_neg (by have := q.1; omega)]
        omega
      · have o0 : pO M i = 0 := by
          by_cases q : pO M i = 1
          · have e2 : bU M i = pB M i := by unfold bU; rw [if_pos q]
            omega
          · omega
        have e2 : bU M i = buN M i (mn M 4) := by unfold bU; rw [if_neg (by omega)]
        rw [fst_some (Nat.zero_le i) hi (show occP M b t i from ⟨o0, e, by omega, by omega⟩) hP] at hh
        exact wR_i (hB.pas hi) rfl (wR_i (hB.way hi) rfl (wI_i (hB.ship hp.1) rfl (lb_ok hB ho kM_r (r := nI (pS M i)) hh)))
    · refine sb_size hB 4 (by decide) (by decide) (wIf_t (nI_le (Nat.le_refl _) (by omega)) ?_)
      rw [fst_none hP] at hh
      exact lb_ok hB ho kM_r (r := -1) hh
  · rw [cI_f (fun q => q c), cI_t d] at hh; exact Or.inr ⟨rfl, lb_er hB ho kM_r (by decide) hh⟩
  · rw [cI_t c] at hh; exact Or.inl ⟨rfl, lb_er hB ho kM_r (by decide) hh⟩
theorem lb_freeTugs (hB : isB dc h x g M) (hI : Inv M) (ho : isO h o) (y : Int32) (hh : ∀ h' g', isB dc h' x g' (oc_freeTugs M y).2.2 → kM h h' → outv h' o (oc_freeTugs M y).1 (oc_freeTugs M y).2.1 → Po (oc_freeTugs M y).1 h') : w_L_freeTugs dc h x y o Po := by
  unfold oc_freeTugs at hh
  refine wO_i hB.1 (wO_i hB.1 (sb_checkTime (fun c => ?_) (fun c => ?_)))
  · rw [cI_f (fun z => z c)] at hh
    obtain ⟨t, ht2, rfl⟩ := c
    rw [nt_nI (by omega)] at hh
    exact wI_i hB.1 rfl (sb_tugsInUse hB hI t (by omega) rfl (lb_ok hB ho kM_r hh))
  · rw [cI_t c] at hh; exact ⟨rfl, lb_er hB ho kM_r (by decide) hh⟩
theorem lb_trips (hB : isB dc h x g M) (hI : Inv M) (ho : isO h o) (y : Int32) (hh : ∀ h' g', isB dc h' x g' (oc_trips M y).2.2 → kM h h' → outv h' o (oc_trips M y).1 (oc_trips M y).2.1 → Po (oc_trips M y).1 h') : w_L_trips dc h x y o Po := by
  have hc := hI.c
  unfold oc_trips at hh
  refine wO_i hB.1 (sb_size hB 3 (by decide) (by decide) (sb_checkNumber rfl (by omega) (fun c => ?_) (fun c => ?_)))
  · rw [cI_f (fun z => z c)] at hh
    obtain ⟨p, hp, rfl⟩ := c
    rw [nt_nI (by omega)] at hh
    refine xloop_up (fun i => (nI (trp M p i), nI i)) (fun _ => True) (mn M 4) 0 (Nat.zero_le _) trivial (fun rec i _ hi _ hr => ?_) (fun rec _ => ?_)
    · have hr := hr trivial
      have hpi := hI.pas hi
      rw [nI_succ, show trp M p (i + 1) = trp M p i + if pP M i = p then 1 else 0 from rfl] at hr
      refine sb_size hB 4 (by decide) (by decide) (wIf_f (nI_ge hi (by omega)) (sb_el hB hI 4 (by decide) (by decide) i hi rfl (wO_i (hB.pas hi) ?_)))
      refine wR_i (hB.pas hi) rfl (wI_i (hB.pilot hpi.2.2.1) rfl (wIf_d (pP M i = p) (nI_eq (a := pP M i) (b := p) (by omega) (by omega)) (fun e => ?_) (fun e => ?_)))
      · rw [if_pos e] at hr
        show rec (nI (trp M p i) + 1, nI i + 1)
        rw [nI_s (trp M p i)]; exact hr
      · rw [if_neg e] at hr; exact hr
    · exact sb_size hB 4 (by decide) (by decide) (wIf_t (nI_le (Nat.le_refl _) (by omega)) (lb_ok hB ho kM_r hh))
  · rw [cI_t c] at hh; exact ⟨rfl, lb_er hB ho kM_r (by decide) hh⟩
theorem lb_isInPort (hB : isB dc h x g M) (hI : Inv M) (ho : isO h o) (y : Int32) (hh : ∀ h' g', isB dc h' x g' (oc_isInPort M y).2.2 → kM h h' → outv h' o (oc_isInPort M y).1 (oc_isInPort M y).2.1 → Po (oc_isInPort M y).1 h') : w_L_isInPort dc h x y o Po := by
  have hc := hI.c
  unfold oc_isInPort at hh
  refine wO_i hB.1 (sb_size hB 3 (by decide) (by decide) (sb_checkNumber rfl (by omega) (fun c => ?_) (fun c => ?_)))
  · rw [cI_f (fun z => z c)] at hh
    obtain ⟨p, hp, rfl⟩ := c
    rw [nt_nI (by omega)] at hh
    refine sb_el hB hI 3 (by decide) (by decide) p hp rfl (wO_i (hB.pilot hp) (sb_endsInPort hB hI p hp (wZ_b (c := port M p (mn M 4)) (K := fun r3 => wIf (r3 = 0) (wSL h o 0 0 fun h6 => Po 0 h6) (wSL h o 0 1 fun h7 => Po 0 h7)) ?_)))
    refine wIf_d _ bI_0 (fun d => ?_) (fun d => ?_)
    · rw [bI_f d] at hh; exact lb_okv hB ho kM_r (r := 0) rfl hh
    · rw [bI_t (Classical.byContradiction d)] at hh; exact lb_okv hB ho kM_r (r := 1) rfl hh
  · rw [cI_t c] at hh; exact ⟨rfl, lb_er hB ho kM_r (by decide) hh⟩
theorem sb_delay {Po : UInt64 → Prop} (hB : isB dc h x g M) (hI : Inv M) (hh : (mn M 4 = 0 → Po FP.dconst0) ∧ (mn M 4 ≠ 0 → ∀ r : UInt64, alike64 r (FP.ddiv (FP.i2d (dsum M (mn M 4))) (FP.i2d (nI (mn M 4)))) = true → Po r)) : w_X6_delay dc h x Po := by
  have hc := hI.c
  refine sb_size hB 4 (by decide) (by decide) (wIf_d (mn M 4 = 0) (nI_eq (b := 0) (by omega) (by decide)) (fun c => hh.1 c) (fun c => ?_))
  refine xloop_up (fun i => (dsum M i, nI i)) (fun _ => True) (mn M 4) 0 (Nat.zero_le _) trivial (fun rec i _ hi _ hr => ?_) (fun rec _ => ?_)
  · have hr := hr trivial
    rw [nI_succ] at hr
    exact wIf_f (nI_ge hi (by omega)) (sb_el hB hI 4 (by decide) (by decide) i hi rfl (wO_i (hB.pas hi) (wI_i (hB.pas hi) rfl (wI_i (hB.pas hi) rfl hr))))
  · exact wIf_t (nI_le (Nat.le_refl _) (by omega)) (hh.2 c)
theorem sb_digest {Po : Int64 → Prop} (hB : isB dc h x g M) (hI : Inv M) (hh : Po (dgA M (mn M 4))) : w_X6_digest dc h x Po := by
  have hc := hI.c
  refine wO_i hB.1 (xloop_up (fun i => (dgC M i, nI i)) (fun _ => True) 5 0 (Nat.zero_le _) trivial (fun rec i _ hi _ hr => ?_) (fun rec _ => ?_))
  · have hr := hr trivial
    rw [nI_succ] at hr
    exact wIf_f (fun q => absurd ((n_lt (a := 4) (by decide) (by omega)).mp q) (by omega)) (sb_counted hB i hi hr rfl)
  · refine wIf_t (by decide) (wI_i hB.1 rfl (wI_i hB.1 rfl (wI_i hB.1 rfl ?_)))
    refine xloop_up (fun i => (dgS M i, nI i)) (fun _ => True) (mn M 2) 0 (Nat.zero_le _) trivial (fun rec i _ hi _ hr => ?_) (fun rec _ => ?_)
    · have hr := hr trivial
      rw [nI_succ] at hr
      exact sb_size hB 2 (by decide) (by decide) (wIf_f (nI_ge hi (by omega)) (sb_el hB hI 2 (by decide) (by decide) i hi rfl (wO_i (hB.ship hi) (wI_i (hB.ship hi) rfl (sb_waterNeed hB i hi hr)))))
    · refine sb_size hB 2 (by decide) (by decide) (wIf_t (nI_le (Nat.le_refl _) (by omega)) ?_)
      refine xloop_up (fun i => (dgA M i, nI i)) (fun _ => True) (mn M 4) 0 (Nat.zero_le _) trivial (fun rec i _ hi _ hr => ?_) (fun rec _ => ?_)
      · have hr := hr trivial
        refine sb_size hB 4 (by decide) (by decide) (wIf_f (nI_ge hi (by omega)) ?_)
        refine xloop_up (fun k => (dgP M (dgA M i) i k, nI k)) (fun _ => True) 6 0 (Nat.zero_le _) trivial (fun rec2 k _ hk _ hr2 => ?_) (fun rec2 _ => ?_)
        · have hr2 := hr2 trivial
          rw [nI_succ] at hr2
          refine wIf_f (fun q => absurd ((n_lt (a := 5) (by decide) (by omega)).mp q) (by omega)) ?_
          refine sb_size hB 4 (by decide) (by decide) (wIf_f (nI_pos (by omega)) (wIf_t ((n_lt (by omega) (by omega)).mpr hi) ?_))
          exact sb_el hB hI 4 (by decide) (by decide) i hi rfl (wO_i (hB.pas hi) (sb_told hB hI i hi k hk rfl hr2))
        · refine wIf_t (by decide) ?_
          rw [nI_succ] at hr; exact hr
      · exact sb_size hB 4 (by decide) (by decide) (wIf_t (nI_le (Nat.le_refl _) (by omega)) hh)
end
