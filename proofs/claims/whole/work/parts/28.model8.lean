/-! PURE ROWS: the reference's operations, second part -/
noncomputable def oc_height (M : MS) (x : Int32) : Int32 × (Int32 × MS) := cI (¬ isIx x 2880) (1, 0, M) (0, ht M (nt x), M)
noncomputable def oc_setWater (M : MS) (x y : Int32) : Int32 × (Int32 × MS) := cI (¬ (inR x 300 2500 ∧ inR y 0 500)) (1, 0, M) (0, nI (mn M 5), sN (sN M 5 (nt x)) 6 (nt y))
noncomputable def oc_addBerth (M : MS) (x y : Int32) : Int32 × (Int32 × MS) := cI (¬ (inR x 20 400 ∧ inR y 300 2500)) (1, 0, M) (cI (mn M 1 = 6) (2, 0, M) (0, nI (mn M 1), sN (sT (sT M 1 (mn M 1) (nt x)) 2 (mn M 1) (nt y)) 1 (mn M 1 + 1)))
noncomputable def oc_addShip (M : MS) (x y : Int32) : Int32 × (Int32 × MS) := cI (¬ (inR x 20 400 ∧ inR y 100 2000)) (1, 0, M) (cI (mn M 2 = 16) (2, 0, M) (0, nI (mn M 2), sN (sT (sT M 3 (mn M 2) (nt x)) 4 (mn M 2) (nt y)) 2 (mn M 2 + 1)))
noncomputable def oc_load (M : MS) (x y : Int32) : Int32 × (Int32 × MS) := cI (¬ isIx x (mn M 2)) (1, 0, M) (cI (¬ inR y 100 2000) (2, 0, M) (0, nI (mt M 4 (nt x)), sT M 4 (nt x) (nt y)))
noncomputable def oc_addPilot (M : MS) (x : Int32) (b : Nat) : Int32 × (Int32 × MS) := cI (¬ inR x 20 400) (1, 0, M) (cI (mn M 3 = 6) (2, 0, M) (0, nI (mn M 3), sN (sT (sT M 5 (mn M 3) (nt x)) 6 (mn M 3) b) 3 (mn M 3 + 1)))
noncomputable def oc_setTugs (M : MS) (x : Int32) : Int32 × (Int32 × MS) := cI (¬ inR x 0 8) (1, 0, M) (cI (0 < mn M 4) (2, 0, M) (0, nI (mn M 7), sN M 7 (nt x)))
noncomputable def oc_count (M : MS) (x : Int32) : Int32 × (Int32 × MS) := cI (¬ isIx x 5) (1, 0, M) (0, nI (mn M (nt x)), M)
noncomputable def oc_need (M : MS) (x : Int32) : Int32 × (Int32 × MS) := cI (¬ isIx x (mn M 2)) (1, 0, M) (0, need M (nt x), M)
noncomputable def yO (y : Int32) : Option Nat := cI (y = -1) none (some (nt y))
def dpt (M : MS) (y : Option Nat) : Nat := match y with
  | none => mn M 5
  | some b => mt M 2 b
noncomputable def oc_window (M : MS) (x y z : Int32) : Int32 × (Int32 × MS) := cI (¬ (isIx x (mn M 2) ∧ (y = -1 ∨ isIx y (mn M 1)))) (1, 0, M) (cI (¬ isIx z 2880) (2, 0, M) (0, oN (fst (wtr M (nt x) (dpt M (yO y))) (nt z) 2880), M))
theorem yO_n : yO (-1) = none := cI_t rfl
theorem yO_s {b : Nat} (h : b < 2 ^ 31) : yO (nI b) = some b := by unfold yO; rw [cI_f (nI_ne_m1 h), nt_nI h]
section
variable {dc : Nat × Nat} {h : XH} {m : Nat} {ad : Nat → Nat} {F : Nat → Nat → Int32} {T : Int32} {M : MS} {Po : Int32 → XH → Prop}
theorem sm_height (hM : isM h m ad F T M) (hI : Inv M) (x : Int32) (hh : ∀ h' F', isM h' m ad F' (oc_height M x).1 (oc_height M x).2.2 → kept 1 h h' → Po (oc_height M x).2.1 h') : w_X7_height dc h m x Po := by
  unfold oc_height at hh
  refine sm_put0 hM 0 (fun h1 hM1 k1 => sm_isTime (wIf_d _ bI_0 (fun c => ?_) (fun c => ?_)))
  · rw [cI_t c] at hh
    exact wO_i hM1.1 (sm_fail hM1 (fun h3 hM3 k3 => hh h3 F hM3 (kept_t k1 k3)))
  · rw [cI_f c] at hh
    obtain ⟨t, ht2, rfl⟩ := Classical.byContradiction c
    rw [nt_nI (by omega)] at hh
    exact wO_i hM1.1 (sm_heightAt hM1 hI t ht2 rfl (hh h1 F hM1 k1))
theorem sm_setWater (hM : isM h m ad F T M) (hI : Inv M) (x y : Int32) (hh : ∀ h' F', isM h' m ad F' (oc_setWater M x y).1 (oc_setWater M x y).2.2 → kept 1 h h' → Po (oc_setWater M x y).2.1 h') : w_X7_setWater dc h m x y Po := by
  unfold oc_setWater at hh
  refine sm_put0 hM 0 (fun h1 hM1 k1 => ?_)
  have hf : ¬ (inR x 300 2500 ∧ inR y 0 500) → w_X7_setWater_29 dc h1 m Po := fun c => by
    rw [cI_t c] at hh
    exact wO_i hM1.1 (sm_fail hM1 (fun h3 hM3 k3 => hh h3 F hM3 (kept_t k1 k3)))
  refine sm_range (a := 300) (b := 2500) (by decide) (by decide) rfl rfl (wIf_d _ bI_0 (fun c => hf (fun z => c z.1)) (fun c => ?_))
  refine sm_range (a := 0) (b := 500) (by decide) (by decide) rfl rfl (wIf_d _ bI_0 (fun d => hf (fun z => d z.2)) (fun d => ?_))
  have c := Classical.byContradiction c
  have d := Classical.byContradiction d
  rw [cI_f (fun q => q ⟨c, d⟩)] at hh
  obtain ⟨a, ha, ha2, rfl⟩ := c
  obtain ⟨b, hb, hb2, rfl⟩ := d
  rw [nt_nI (by omega), nt_nI (by omega)] at hh
  refine wI_i hM1.1 rfl ?_
  refine sm_put hM1 4 _ (by decide) (M' := sN M 5 a) (T' := 0) rfl hM1.2.2.2 (fun h2 hM2 k2 => ?_)
  refine sm_put hM2 5 _ (by decide) (M' := sN (sN M 5 a) 6 b) (T' := 0) rfl hM1.2.2.2 (fun h3 hM3 k3 => ?_)
  exact hh h3 F hM3 (kept_t k1 (kept_t k2 k3))
theorem sm_addBerth (hM : isM h m ad F T M) (hI : Inv M) (x y : Int32) (hh : ∀ h' F', isM h' m ad F' (oc_addBerth M x y).1 (oc_addBerth M x y).2.2 → kept 1 h h' → Po (oc_addBerth M x y).2.1 h') : w_X7_addBerth dc h m x y Po := by
  have hc := hI.c
  unfold oc_addBerth at hh
  refine sm_put0 hM 0 (fun h1 hM1 k1 => ?_)
  have hf : ¬ (inR x 20 400 ∧ inR y 300 2500) → w_X7_addBerth_30 dc h1 m Po := fun c => by
    rw [cI_t c] at hh
    exact wO_i hM1.1 (sm_fail hM1 (fun h3 hM3 k3 => hh h3 F hM3 (kept_t k1 k3)))
  refine sm_range (a := 20) (b := 400) (by decide) (by decide) rfl rfl (wIf_d _ bI_0 (fun c => hf (fun z => c z.1)) (fun c => ?_))
  refine sm_range (a := 300) (b := 2500) (by decide) (by decide) rfl rfl (wIf_d _ bI_0 (fun d => hf (fun z => d z.2)) (fun d => ?_))
  have c := Classical.byContradiction c
  have d := Classical.byContradiction d
  rw [cI_f (fun q => q ⟨c, d⟩)] at hh
  obtain ⟨a, ha, ha2, rfl⟩ := c
  obtain ⟨b, hb, hb2, rfl⟩ := d
  rw [nt_nI (by omega), nt_nI (by omega)] at hh
  refine wI_i hM1.1 rfl (wIf_d (mn M 1 = 6) (nI_eq (b := 6) (by omega) (by decide)) (fun e => ?_) (fun e => ?_))
  · rw [cI_t e] at hh
    exact wO_i hM1.1 (sm_fail hM1 (fun h3 hM3 k3 => hh h3 F hM3 (kept_t k1 k3)))
  rw [cI_f e] at hh
  refine wR_i hM1.1 rfl (wI_i hM1.1 rfl (sm_rowC hM1.C 7 (by decide) rfl (mn M 1) (by show mn M 1 < 6; omega) rfl (fun h2 C2 k2 => ?_)))
  refine wR_i C2.1 rfl (wI_i C2.1 rfl (sm_rowC C2 8 (by decide) rfl (mn M 1) (by show mn M 1 < 6; omega) rfl (fun h3 C3 k3 => ?_)))
  refine wI_i C3.1 rfl (sm_putC C3 6 _ (by decide) (M' := sN (sT (sT M 1 (mn M 1) a) 2 (mn M 1) b) 1 (mn M 1 + 1)) (T' := 0) (by rw [nI_s]; rfl) (fun h4 C4 k4 => ?_))
  refine wI_i C4.1 rfl ?_
  show Po (nI (mn M 1 + 1) - 1) h4
  rw [nI_m1]
  refine hh h4 _ (C4.M ?_) (kept_t k1 (kept_t k2 (kept_t k3 k4)))
  obtain ⟨m1, m2, m3, m4, m5, m6, m7, m8, m9⟩ := hM.2.2.2
  refine ⟨m1, m2, fun i hi => ?_, fun i hi => ?_, m5, m6, m7, m8, fun i k hi hk => ?_⟩
  · show upd (F 7) (mn M 1) (nI a) i = nI (if 1 = 1 ∧ i = mn M 1 then a else mt M 1 i)
    have hi : i < mn M 1 + 1 := hi
    by_cases q : i = mn M 1
    · subst q; rw [upd_s, if_pos ⟨rfl, rfl⟩]
    · rw [upd_o q, if_neg (fun z => q z.2)]; exact m3 i (by omega)
  · show upd (F 8) (mn M 1) (nI b) i = nI (if 2 = 2 ∧ i = mn M 1 then b else mt M 2 i)
    have hi : i < mn M 1 + 1 := hi
    by_cases q : i = mn M 1
    · subst q; rw [upd_s, if_pos ⟨rfl, rfl⟩]
    · rw [upd_o q, if_neg (fun z => q z.2)]; exact m4 i (by omega)
  · show F 17 (7 * i + k) = nI (if 7 + k = 2 ∧ i = mn M 1 then b else if 7 + k = 1 ∧ i = mn M 1 then a else mt M (7 + k) i)
    rw [if_neg (by omega), if_neg (by omega)]; exact m9 i k hi hk
theorem sm_addShip (hM : isM h m ad F T M) (hI : Inv M) (x y : Int32) (hh : ∀ h' F', isM h' m ad F' (oc_addShip M x y).1 (oc_addShip M x y).2.2 → kept 1 h h' → Po (oc_addShip M x y).2.1 h') : w_X7_addShip dc h m x y Po := by
  have hc := hI.c
  unfold oc_addShip at hh
  refine sm_put0 hM 0 (fun h1 hM1 k1 => ?_)
  have hf : ¬ (inR x 20 400 ∧ inR y 100 2000) → w_X7_addShip_29 dc h1 m Po := fun c => by
    rw [cI_t c] at hh
    exact wO_i hM1.1 (sm_fail hM1 (fun h3 hM3 k3 => hh h3 F hM3 (kept_t k1 k3)))
  refine sm_range (a := 20) (b := 400) (by decide) (by decide) rfl rfl (wIf_d _ bI_0 (fun c => hf (fun z => c z.1)) (fun c => ?_))
  refine sm_range (a := 100) (b := 2000) (by decide) (by decide) rfl rfl (wIf_d _ bI_0 (fun d => hf (fun z => d z.2)) (fun d => ?_))
  have c := Classical.byContradiction c
  have d := Classical.byContradiction d
  rw [cI_f (fun q => q ⟨c, d⟩)] at hh
  obtain ⟨a, ha, ha2, rfl⟩ := c
  obtain ⟨b, hb, hb2, rfl⟩ := d
  rw [nt_nI (by omega), nt_nI (by omega)] at hh
  refine wI_i hM1.1 rfl (wIf_d (mn M 2 = 16) (nI_eq (b := 16) (by omega) (by decide)) (fun e => ?_) (fun e => ?_))
  · rw [cI_t e] at hh
    exact wO_i hM1.1 (sm_fail hM1 (fun h3 hM3 k3 => hh h3 F hM3 (kept_t k1 k3)))
  rw [cI_f e] at hh
  refine wR_i hM1.1 rfl (wI_i hM1.1 rfl (sm_rowC hM1.C 10 (by decide) rfl (mn M 2) (by show mn M 2 < 16; omega) rfl (fun h2 C2 k2 => ?_)))
  refine wR_i C2.1 rfl (wI_i C2.1 rfl (sm_rowC C2 11 (by decide) rfl (mn M 2) (by show mn M 2 < 16; omega) rfl (fun h3 C3 k3 => ?_)))
  refine wI_i C3.1 rfl (sm_putC C3 9 _ (by decide) (M' := sN (sT (sT M 3 (mn M 2) a) 4 (mn M 2) b) 2 (mn M 2 + 1)) (T' := 0) (by rw [nI_s]; rfl) (fun h4 C4 k4 => ?_))
  refine wI_i C4.1 rfl ?_
  show Po (nI (mn M 2 + 1) - 1) h4
  rw [nI_m1]
  refine hh h4 _ (C4.M ?_) (kept_t k1 (kept_t k2 (kept_t k3 k4)))
  obtain ⟨m1, m2, m3, m4, m5, m6, m7, m8, m9⟩ := hM.2.2.2
  refine ⟨m1, m2, m3, m4, fun i hi => ?_, fun i hi => ?_, m7, m8, fun i k hi hk => ?_⟩
  · show upd (F 10) (mn M 2) (nI a) i = nI (if 3 = 3 ∧ i = mn M 2 then a else mt M 3 i)
    have hi : i < mn M 2 + 1 := hi
    by_cases q : i = mn M 2
    · subst q; rw [upd_s, if_pos ⟨rfl, rfl⟩]
    · rw [upd_o q, if_neg (fun z => q z.2)]; exact m5 i (by omega)
  · show upd (F 11) (mn M 2) (nI b) i = nI (if 4 = 4 ∧ i = mn M 2 then b else mt M 4 i)
    have hi : i < mn M 2 + 1 := hi
    by_cases q : i = mn M 2
    · subst q; rw [upd_s, if_pos ⟨rfl, rfl⟩]
    · rw [upd_o q, if_neg (fun z => q z.2)]; exact m6 i (by omega)
  · show F 17 (7 * i + k) = nI (if 7 + k = 4 ∧ i = mn M 2 then b else if 7 + k = 3 ∧ i = mn M 2 then a else mt M (7 + k) i)
    rw [if_neg (by omega), if_neg (by omega)]; exact m9 i k hi hk
theorem sm_load (hM : isM h m ad F T M) (hI : Inv M) (x y : Int32) (hh : ∀ h' F', isM h' m ad F' (oc_load M x y).1 (oc_load M x y).2.2 → kept 1 h h' → Po (oc_load M x y).2.1 h') : w_X7_load dc h m x y Po := by
  have hc := hI.c
  unfold oc_load at hh
  refine sm_put0 hM 0 (fun h1 hM1 k1 => wO_i hM1.1 (sm_isShip hM1 hI (wIf_d _ bI_0 (fun c => ?_) (fun c => ?_))))
  · rw [cI_t c] at hh
    exact sm_fail hM1 (fun h3 hM3 k3 => hh h3 F hM3 (kept_t k1 k3))
  rw [cI_f c] at hh
  obtain ⟨s, hs, rfl⟩ := Classical.byContradiction c
  refine sm_range (a := 100) (b := 2000) (by decide) (by decide) rfl rfl (wIf_d _ bI_0 (fun d => ?_) (fun d => ?_))
  · rw [cI_t d] at hh
    exact sm_fail hM1 (fun h3 hM3 k3 => hh h3 F hM3 (kept_t k1 k3))
  rw [cI_f d] at hh
  obtain ⟨b, hb, hb2, rfl⟩ := Classical.byContradiction d
  rw [nt_nI (by omega), nt_nI (by omega)] at hh
  obtain ⟨m1, m2, m3, m4, m5, m6, m7, m8, m9⟩ := hM.2.2.2
  refine wR_i hM1.1 rfl (wAI_i s hM1.r11 (by omega) rfl (by decide) (wR_i hM1.1 rfl (sm_rowC hM1.C 11 (by decide) rfl s (by show s < 16; omega) rfl (fun h2 C2 k2 => ?_))))
  rw [m6 s hs]
  refine hh h2 _ (isC.M (M := sT M 4 s b) C2 ?_) (kept_t k1 k2)
  refine ⟨m1, m2, m3, m4, m5, fun i hi => ?_, m7, m8, fun i k hi hk => ?_⟩
  · show upd (F 11) s (nI b) i = nI (if 4 = 4 ∧ i = s then b else mt M 4 i)
    have hi : i < mn M 2 := hi
    by_cases q : i = s
    · subst q; rw [upd_s, if_pos ⟨rfl, rfl⟩]
    · rw [upd_o q, if_neg (fun z => q z.2)]; exact m6 i hi
  · show F 17 (7 * i + k) = nI (if 7 + k = 4 ∧ i = s then b else mt M (7 + k) i)
    rw [if_neg (by omega)]; exact m9 i k hi hk
theorem sm_addPilot (hM : isM h m ad F T M) (hI : Inv M) (x : Int32) (b : Nat) (hb : b ≤ 1) {y : Int32} (hy : y = nI b) (hh : ∀ h' F', isM h' m ad F' (oc_addPilot M x b).1 (oc_addPilot M x b).2.2 → kept 1 h h' → Po (oc_addPilot M x b).2.1 h') : w_X7_addPilot dc h m x y Po := by
  have hc := hI.c
  unfold oc_addPilot at hh
  refine sm_put0 hM 0 (fun h1 hM1 k1 => ?_)
  refine sm_range (a := 20) (b := 400) (by decide) (by decide) rfl rfl (wIf_d _ bI_0 (fun c => ?_) (fun c => ?_))
  · rw [cI_t c] at hh
    exact wO_i hM1.1 (sm_fail hM1 (fun h3 hM3 k3 => hh h3 F hM3 (kept_t k1 k3)))
  have c := Classical.byContradiction c
  rw [cI_f (fun q => q c)] at hh
  obtain ⟨a, ha, ha2, rfl⟩ := c
  rw [nt_nI (by omega)] at hh
  refine wI_i hM1.1 rfl (wIf_d (mn M 3 = 6) (nI_eq (b := 6) (by omega) (by decide)) (fun e => ?_) (fun e => ?_))
  · rw [cI_t e] at hh
    exact wO_i hM1.1 (sm_fail hM1 (fun h3 hM3 k3 => hh h3 F hM3 (kept_t k1 k3)))
  rw [cI_f e] at hh
  refine wR_i hM1.1 rfl (wI_i hM1.1 rfl (sm_rowC hM1.C 13 (by decide) rfl (mn M 3) (by show mn M 3 < 6; omega) rfl (fun h2 C2 k2 => ?_)))
  refine wR_i C2.1 rfl (wI_i C2.1 rfl ?_)
  have hz : vp_nar .boolean y = y := by
    subst hy
    rcases (show b = 0 ∨ b = 1 by omega) with z | z
    · subst z; rfl
    · subst z; rfl
  have hrow := C2.2.1 14 (by decide)
  have C3 : isC (xup h2 (ad 14) (.inl (3, 6, .inl (upd (F 14) (mn M 3) y)))) m ad (fU (fU F 13 (upd (F 13) (mn M 3) (nI a))) 14 (upd (F 14) (mn M 3) y)) 0 M := by
    refine ⟨?_, fun j hj => ?_, C2.2.2⟩
    · rw [xup_o (fun z => by rw [← z, C2.1] at hrow; cases hrow)]; exact C2.1
    · by_cases q : j = 14
      · subst q; rw [xup_s]; unfold fU; rw [if_pos rfl]; rfl
      · rw [xup_o (fun z => q (C2.2.2 j hj 14 (by decide) z))]
        rw [C2.2.1 j hj]
        show _ = some (Sum.inl ((mRow j).1, (mRow j).2, Sum.inl (if j = 14 then _ else fU F 13 _ j)))
        rw [if_neg q]
  refine wSZ_i (mn M 3) hrow (by show mn M 3 < 6; omega) rfl (by decide) hz ?_
  have k3 : kept 1 h2 (xup h2 (ad 14) (.inl (3, 6, .inl (upd (F 14) (mn M 3) y)))) := kept_u hrow rfl
  refine wI_i C3.1 rfl (sm_putC C3 12 _ (by decide) (M' := sN (sT (sT M 5 (mn M 3) a) 6 (mn M 3) b) 3 (mn M 3 + 1)) (T' := 0) (by rw [nI_s]; rfl) (fun h4 C4 k4 => ?_))
  refine wI_i C4.1 rfl ?_
  show Po (nI (mn M 3 + 1) - 1) h4
  rw [nI_m1]
  refine hh h4 _ (C4.M ?_) (kept_t k1 (kept_t k2 (kept_t k3 k4)))
  obtain ⟨m1, m2, m3, m4, m5, m6, m7, m8, m9⟩ := hM.2.2.2
  refine ⟨m1, m2, m3, m4, m5, m6, fun i hi => ?_, fun i hi => ?_, fun i k hi hk => ?_⟩
  · show upd (F 13) (mn M 3) (nI a) i = nI (if 5 = 5 ∧ i = mn M 3 then a else mt M 5 i)
    have hi : i < mn M 3 + 1 := hi
    by_cases q : i = mn M 3
    · subst q; rw [upd_s, if_pos ⟨rfl, rfl⟩]
    · rw [upd_o q, if_neg (fun z => q z.2)]; exact m7 i (by omega)
  · show upd (F 14) (mn M 3) y i = nI (if 6 = 6 ∧ i = mn M 3 then b else mt M 6 i)
    have hi : i < mn M 3 + 1 := hi
    by_cases q : i = mn M 3
    · subst q; rw [upd_s, if_pos ⟨rfl, rfl⟩]; exact hy
    · rw [upd_o q, if_neg (fun z => q z.2)]; exact m8 i (by omega)
  · show F 17 (7 * i + k) = nI (if 7 + k = 6 ∧ i = mn M 3 then b else if 7 + k = 5 ∧ i = mn M 3 then a else mt M (7 + k) i)
    rw [if_neg (by omega), if_neg (by omega)]; exact m9 i k hi hk
theorem sm_setTugs (hM : isM h m ad F T M) (hI : Inv M) (x : Int32) (hh : ∀ h' F', isM h' m ad F' (oc_setTugs M x).1 (oc_setTugs M x).2.2 → kept 1 h h' → Po (oc_setTugs M x).2.1 h') : w_X7_setTugs dc h m x Po := by
  have hc := hI.c
  unfold oc_setTugs at hh
  refine sm_put0 hM 0 (fun h1 hM1 k1 => ?_)
  refine sm_range (a := 0) (b := 8) (by decide) (by decide) rfl rfl (wIf_d _ bI_0 (fun c => ?_) (fun c => ?_))
  · rw [cI_t c] at hh
    exact wO_i hM1.1 (sm_fail hM1 (fun h3 hM3 k3 => hh h3 F hM3 (kept_t k1 k3)))
  have c := Classical.byContradiction c
  rw [cI_f (fun q => q c)] at hh
  obtain ⟨a, ha, ha2, rfl⟩ := c
  rw [nt_nI (by omega)] at hh
  refine wI_i hM1.1 rfl (wIf_d (mn M 4 = 0) ((n_le (b := 0) (by omega) (by decide)).trans (by omega)) (fun e => ?_) (fun e => ?_))
  · rw [cI_f (by omega)] at hh
    refine wI_i hM1.1 rfl ?_
    refine sm_put hM1 15 _ (by decide) (M' := sN M 7 a) (T' := 0) rfl hM1.2.2.2 (fun h2 hM2 k2 => ?_)
    exact hh h2 F hM2 (kept_t k1 k2)
  · rw [cI_t (by omega)] at hh
    exact wO_i hM1.1 (sm_fail hM1 (fun h3 hM3 k3 => hh h3 F hM3 (kept_t k1 k3)))
theorem sm_counted {Po : Int32 → Prop} (hM : isM h m ad F T M) (k : Nat) (hk : k < 5) {x : Int32} (hx : x = nI k) (hh : Po (nI (mn M k))) : w_X7_counted dc h m x Po := by
  subst hx
  have e : ∀ j : Nat, j < 5 → nI k = nI j → k = j := fun j hj q => (nI_eq (a := k) (b := j) (by omega) (by omega)).mp q
  refine ⟨fun q => ?_, fun q => ?_, fun q => ?_, fun q => ?_, fun q => ?_⟩
  · have := e 0 (by decide) q; subst this; exact wI_i hM.1 rfl hh
  · have := e 1 (by decide) q; subst this; exact wI_i hM.1 rfl hh
  · have := e 2 (by decide) q; subst this; exact wI_i hM.1 rfl hh
  · have := e 3 (by decide) q; subst this; exact wI_i hM.1 rfl hh
  · rw [nI_toInt (by omega)] at q
    have : k = 4 := by omega
    subst this; exact wI_i hM.1 rfl hh
theorem sm_count (hM : isM h m ad F T M) (hI : Inv M) (x : Int32) (hh : ∀ h' F', isM h' m ad F' (oc_count M x).1 (oc_count M x).2.2 → kept 1 h h' → Po (oc_count M x).2.1 h') : w_X7_count dc h m x Po := by
  unfold oc_count at hh
  refine sm_put0 hM 0 (fun h1 hM1 k1 => sm_isIn ?_)
  rw [show (4 : Int32) = nI 5 - 1 from by decide, bI_c (d := isIx x 5) (ix_iff (n := 5) (by decide))]
  refine wIf_d _ bI_0 (fun c => ?_) (fun c => ?_)
  · rw [cI_t c] at hh
    exact wO_i hM1.1 (sm_fail hM1 (fun h3 hM3 k3 => hh h3 F hM3 (kept_t k1 k3)))
  · rw [cI_f c] at hh
    obtain ⟨t, ht2, rfl⟩ := Classical.byContradiction c
    rw [nt_nI (by omega)] at hh
    exact wO_i hM1.1 (sm_counted hM1 t ht2 rfl (hh h1 F hM1 k1))
theorem sm_need (hM : isM h m ad F T M) (hI : Inv M) (x : Int32) (hh : ∀ h' F', isM h' m ad F' (oc_need M x).1 (oc_need M x).2.2 → kept 1 h h' → Po (oc_need M x).2.1 h') : w_X7_need dc h m x Po := by
  have hc := hI.c
  unfold oc_need at hh
  refine sm_put0 hM 0 (fun h1 hM1 k1 => wO_i hM1.1 (sm_isShip hM1 hI (wIf_d _ bI_0 (fun c => ?_) (fun c => ?_))))
  · rw [cI_t c] at hh
    exact sm_fail hM1 (fun h3 hM3 k3 => hh h3 F hM3 (kept_t k1 k3))
  · rw [cI_f c] at hh
    obtain ⟨s, hs, rfl⟩ := Classical.byContradiction c
    rw [nt_nI (by omega)] at hh
    exact sm_needOf hM1 hI s hs rfl (hh h1 F hM1 k1)
theorem sm_window (hM : isM h m ad F T M) (hI : Inv M) (x y z : Int32) (hh : ∀ h' F', isM h' m ad F' (oc_window M x y z).1 (oc_window M x y z).2.2 → kept 1 h h' → Po (oc_window M x y z).2.1 h') : w_X7_window dc h m x y z Po := by
  have hc := hI.c
  unfold oc_window at hh
  refine sm_put0 hM 0 (fun h1 hM1 k1 => ?_)
  have hf : ¬ (isIx x (mn M 2) ∧ (y = -1 ∨ isIx y (mn M 1))) → w_X7_window_26 dc h1 m Po := fun c => by
    rw [cI_t c] at hh
    exact wO_i hM1.1 (sm_fail hM1 (fun h3 hM3 k3 => hh h3 F hM3 (kept_t k1 k3)))
  have h32 : (isIx x (mn M 2) ∧ (y = -1 ∨ isIx y (mn M 1))) → w_X7_window_32 dc h1 m x y z Po := fun g => by
    rw [cI_f (fun q => q g)] at hh
    refine sm_isTime (wIf_d _ bI_0 (fun c => ?_) (fun c => ?_))
    · rw [cI_t c] at hh
      exact wO_i hM1.1 (sm_fail hM1 (fun h3 hM3 k3 => hh h3 F hM3 (kept_t k1 k3)))
    rw [cI_f c] at hh
    obtain ⟨t, ht2, rfl⟩ := Classical.byContradiction c
    obtain ⟨⟨s, hs, rfl⟩, hy⟩ := g
    rw [nt_nI (by omega), nt_nI (by omega)] at hh
    have hy2 : (y = -1 ∧ dpt M (yO y) = mn M 5) ∨ ∃ b, y = nI b ∧ b < mn M 1 ∧ dpt M (yO y) = mt M 2 b := by
      rcases hy with rfl | ⟨b, hb, rfl⟩
      · exact Or.inl ⟨rfl, by rw [yO_n]; rfl⟩
      · exact Or.inr ⟨b, rfl, hb, by rw [yO_s (by omega)]; rfl⟩
    refine xloop_up (fun i => nI i) (fun i => ∀ t', t ≤ t' → t' < i → ¬ wtr M s (dpt M (yO y)) t') 2880 t (by omega) (fun t' h1 h2 => absurd h1 (by omega)) (fun rec i h2 h3 hP hr => ?_) (fun rec hP => ?_)
    · refine wIf_f (fun q => absurd ((n_lt (a := 2879) (by decide) (by omega)).mp q) (by omega)) (wO_i hM1.1 (sm_hasWater hM1 hI s hs i (by omega) (dpt M (yO y)) rfl rfl hy2 (wIf_d _ bI_0 (fun d => ?_) (fun d => ?_))))
      · have := hr (fun t' h3 h4 => by
          by_cases e : t' = i
          · subst e; exact d
          · exact hP t' h3 (by omega))
        rw [nI_succ] at this; exact this
      · rw [fst_some h2 h3 (Classical.byContradiction d) hP] at hh; exact hh h1 F hM1 k1
    · refine wIf_t (by decide) ?_
      rw [fst_none (fun t' h1 h2 => hP t' h1 h2)] at hh; exact hh h1 F hM1 k1
  refine wO_i hM1.1 (sm_isShip hM1 hI (wIf_d _ bI_0 (fun c => hf (fun z => c z.1)) (fun c => ?_)))
  have c := Classical.byContradiction c
  refine wIf_i (fun d => h32 ⟨c, Or.inl d⟩) (fun d => sm_isBerth hM1 hI (wIf_d _ bI_0 (fun e => hf (fun z => z.2.elim d e)) (fun e => h32 ⟨c, Or.inr (Classical.byContradiction e)⟩)))
end
