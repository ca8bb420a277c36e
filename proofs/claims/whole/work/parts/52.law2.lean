/-! PURE ROWS: the law's steps, one by one, and the law -/
theorem inv_cI {c : Prop} {a b : Int32 × (Int32 × MS)} (h1 : Inv a.2.2) (h2 : Inv b.2.2) : Inv (cI c a b).2.2 := by
  by_cases d : c
  · rw [cI_t d]; exact h1
  · rw [cI_f d]; exact h2
theorem inv_height {M : MS} (hI : Inv M) (x : Int32) : Inv (oc_height M x).2.2 := by
  unfold oc_height; exact inv_cI hI hI
theorem inv_count {M : MS} (hI : Inv M) (x : Int32) : Inv (oc_count M x).2.2 := by
  unfold oc_count; exact inv_cI hI hI
theorem inv_need {M : MS} (hI : Inv M) (x : Int32) : Inv (oc_need M x).2.2 := by
  unfold oc_need; exact inv_cI hI hI
theorem inv_window {M : MS} (hI : Inv M) (x y z : Int32) : Inv (oc_window M x y z).2.2 := by
  unfold oc_window; exact inv_cI hI (inv_cI hI hI)
theorem inv_earliest {M : MS} (hI : Inv M) (x y z : Int32) : Inv (oc_earliest M x y z).2.2 := by
  unfold oc_earliest; exact inv_cI hI (inv_cI hI hI)
theorem inv_passage {M : MS} (hI : Inv M) (x y : Int32) : Inv (oc_passage M x y).2.2 := by
  unfold oc_passage; exact inv_cI hI hI
theorem inv_occupant {M : MS} (hI : Inv M) (x y : Int32) : Inv (oc_occupant M x y).2.2 := by
  unfold oc_occupant; exact inv_cI hI (inv_cI hI hI)
theorem inv_freeTugs {M : MS} (hI : Inv M) (x : Int32) : Inv (oc_freeTugs M x).2.2 := by
  unfold oc_freeTugs; exact inv_cI hI hI
theorem inv_trips {M : MS} (hI : Inv M) (x : Int32) : Inv (oc_trips M x).2.2 := by
  unfold oc_trips; exact inv_cI hI hI
theorem inv_isInPort {M : MS} (hI : Inv M) (x : Int32) : Inv (oc_isInPort M x).2.2 := by
  unfold oc_isInPort; exact inv_cI hI hI
theorem inv_least {M : MS} (hI : Inv M) (x : Int32) : Inv (oc_least M x).2.2 := by
  unfold oc_least
  refine inv_cI hI ?_
  cases hl : lastI M (nt x) (mn M 4) with
  | none => exact hI
  | some i => exact hI
section
variable {dc : Nat × Nat} {L : Nat} {xs : Nat → Int32} {h : XH} {x m o i : Nat} {rec : XH → Prop}
theorem s1 {K : Int32 → Prop} (hL : L ≤ 2048) (hi : i + 4 ≤ L) (hk : K (xs (i + 1))) : wScr L xs (nI i + 1) K := scr_i (nI_s i) (by omega) (by omega) hk
theorem s2 {K : Int32 → Prop} (hL : L ≤ 2048) (hi : i + 4 ≤ L) (hk : K (xs (i + 2))) : wScr L xs (nI i + 2) K := scr_i (nI_add i 2) (by omega) (by omega) hk
theorem s3 {K : Int32 → Prop} (hL : L ≤ 2048) (hi : i + 4 ≤ L) (hk : K (xs (i + 3))) : wScr L xs (nI i + 3) K := scr_i (nI_add i 3) (by omega) (by omega) hk
theorem lc0 (hL : L ≤ 2048) (hi : i + 4 ≤ L) (hJ : isJ dc x m o h) (hr : ∀ h', isJ dc x m o h' → rec h') : w_L_law_c0 dc L xs h x m o (nI i) rec := by
  obtain ⟨M, ⟨g, hB⟩, ⟨ad, F, T, hM⟩, ho, hI⟩ := hJ
  exact s1 hL hi (s2 hL hi (law_step (CL := w_L_addTide dc h x (xs (i + 1)) (xs (i + 2)) o) (CM := fun h6 => w_X7_addTide dc h6 m (xs (i + 1)) (xs (i + 2))) hM (inv_addTide hI _ _) (fun Po hh => lb_addTide hB hI ho _ _ hh) (fun h' hM' Po hh => sm_addTide hM' hI _ _ hh) hr (fun r5 h6 k => s1 hL hi (s2 hL hi k))))
theorem lc1 (hL : L ≤ 2048) (hi : i + 4 ≤ L) (hJ : isJ dc x m o h) (hr : ∀ h', isJ dc x m o h' → rec h') : w_L_law_c1 dc L xs h x m o (nI i) rec := by
  obtain ⟨M, ⟨g, hB⟩, ⟨ad, F, T, hM⟩, ho, hI⟩ := hJ
  exact s1 hL hi (law_step (CL := w_L_height dc h x (xs (i + 1)) o) (CM := fun h6 => w_X7_height dc h6 m (xs (i + 1))) hM (inv_height hI _) (fun Po hh => lb_height hB hI ho _ hh) (fun h' hM' Po hh => sm_height hM' hI _ hh) hr (fun r5 h6 k => s1 hL hi k))
theorem lc2 (hL : L ≤ 2048) (hi : i + 4 ≤ L) (hJ : isJ dc x m o h) (hr : ∀ h', isJ dc x m o h' → rec h') : w_L_law_c2 dc L xs h x m o (nI i) rec := by
  obtain ⟨M, ⟨g, hB⟩, ⟨ad, F, T, hM⟩, ho, hI⟩ := hJ
  exact s1 hL hi (s2 hL hi (law_step (CL := w_L_setWater dc h x (xs (i + 1)) (xs (i + 2)) o) (CM := fun h6 => w_X7_setWater dc h6 m (xs (i + 1)) (xs (i + 2))) hM (inv_setWater hI _ _) (fun Po hh => lb_setWater hB hI ho _ _ hh) (fun h' hM' Po hh => sm_setWater hM' hI _ _ hh) hr (fun r5 h6 k => s1 hL hi (s2 hL hi k))))
theorem lc3 (hL : L ≤ 2048) (hi : i + 4 ≤ L) (hJ : isJ dc x m o h) (hr : ∀ h', isJ dc x m o h' → rec h') : w_L_law_c3 dc L xs h x m o (nI i) rec := by
  obtain ⟨M, ⟨g, hB⟩, ⟨ad, F, T, hM⟩, ho, hI⟩ := hJ
  exact s1 hL hi (s2 hL hi (law_step (CL := w_L_addBerth dc h x (xs (i + 1)) (xs (i + 2)) o) (CM := fun h6 => w_X7_addBerth dc h6 m (xs (i + 1)) (xs (i + 2))) hM (inv_addBerth hI _ _) (fun Po hh => lb_addBerth hB hI ho _ _ hh) (fun h' hM' Po hh => sm_addBerth hM' hI _ _ hh) hr (fun r5 h6 k => s1 hL hi (s2 hL hi k))))
theorem lc4 (hL : L ≤ 2048) (hi : i + 4 ≤ L) (hJ : isJ dc x m o h) (hr : ∀ h', isJ dc x m o h' → rec h') : w_L_law_c4 dc L xs h x m o (nI i) rec := by
  obtain ⟨M, ⟨g, hB⟩, ⟨ad, F, T, hM⟩, ho, hI⟩ := hJ
  exact s1 hL hi (s2 hL hi (law_step (CL := w_L_addShip dc h x (xs (i + 1)) (xs (i + 2)) o) (CM := fun h6 => w_X7_addShip dc h6 m (xs (i + 1)) (xs (i + 2))) hM (inv_addShip hI _ _) (fun Po hh => lb_addShip hB hI ho _ _ hh) (fun h' hM' Po hh => sm_addShip hM' hI _ _ hh) hr (fun r5 h6 k => s1 hL hi (s2 hL hi k))))
theorem lc5 (hL : L ≤ 2048) (hi : i + 4 ≤ L) (hJ : isJ dc x m o h) (hr : ∀ h', isJ dc x m o h' → rec h') : w_L_law_c5 dc L xs h x m o (nI i) rec := by
  obtain ⟨M, ⟨g, hB⟩, ⟨ad, F, T, hM⟩, ho, hI⟩ := hJ
  exact s1 hL hi (s2 hL hi (law_step (CL := w_L_load dc h x (xs (i + 1)) (xs (i + 2)) o) (CM := fun h6 => w_X7_load dc h6 m (xs (i + 1)) (xs (i + 2))) hM (inv_load hI _ _) (fun Po hh => lb_load hB hI ho _ _ hh) (fun h' hM' Po hh => sm_load hM' hI _ _ hh) hr (fun r5 h6 k => s1 hL hi (s2 hL hi k))))
theorem lc6 (hL : L ≤ 2048) (hi : i + 4 ≤ L) (hJ : isJ dc x m o h) (hr : ∀ h', isJ dc x m o h' → rec h') : w_L_law_c6 dc L xs h x m o (nI i) rec := by
  obtain ⟨M, ⟨g, hB⟩, ⟨ad, F, T, hM⟩, ho, hI⟩ := hJ
  refine s1 hL hi (s2 hL hi (wIf_i (fun c => ?_) (fun c => ?_)))
  · exact law_step (CL := w_L_addPilot dc h x (xs (i + 1)) 0 o) (CM := fun h6 => w_X7_addPilot dc h6 m (xs (i + 1)) 0) hM (inv_addPilot hI _ 0 (by decide)) (fun Po hh => lb_addPilot hB hI ho _ 0 (by decide) rfl hh) (fun h' hM' Po hh => sm_addPilot hM' hI _ 0 (by decide) rfl hh) hr (fun r5 h6 k => s1 hL hi (s2 hL hi (wIf_t c k)))
  · exact law_step (CL := w_L_addPilot dc h x (xs (i + 1)) 1 o) (CM := fun h6 => w_X7_addPilot dc h6 m (xs (i + 1)) 1) hM (inv_addPilot hI _ 1 (by decide)) (fun Po hh => lb_addPilot hB hI ho _ 1 (by decide) rfl hh) (fun h' hM' Po hh => sm_addPilot hM' hI _ 1 (by decide) rfl hh) hr (fun r5 h6 k => s1 hL hi (s2 hL hi (wIf_f c k)))
theorem lc7 (hL : L ≤ 2048) (hi : i + 4 ≤ L) (hJ : isJ dc x m o h) (hr : ∀ h', isJ dc x m o h' → rec h') : w_L_law_c7 dc L xs h x m o (nI i) rec := by
  obtain ⟨M, ⟨g, hB⟩, ⟨ad, F, T, hM⟩, ho, hI⟩ := hJ
  exact s1 hL hi (law_step (CL := w_L_setTugs dc h x (xs (i + 1)) o) (CM := fun h6 => w_X7_setTugs dc h6 m (xs (i + 1))) hM (inv_setTugs hI _) (fun Po hh => lb_setTugs hB hI ho _ hh) (fun h' hM' Po hh => sm_setTugs hM' hI _ hh) hr (fun r5 h6 k => s1 hL hi k))
theorem lc8 (hL : L ≤ 2048) (hi : i + 4 ≤ L) (hJ : isJ dc x m o h) (hr : ∀ h', isJ dc x m o h' → rec h') : w_L_law_c8 dc L xs h x m o (nI i) rec := by
  obtain ⟨M, ⟨g, hB⟩, ⟨ad, F, T, hM⟩, ho, hI⟩ := hJ
  exact s1 hL hi (law_step (CL := w_L_count dc h x (xs (i + 1)) o) (CM := fun h6 => w_X7_count dc h6 m (xs (i + 1))) hM (inv_count hI _) (fun Po hh => lb_count hB hI ho _ hh) (fun h' hM' Po hh => sm_count hM' hI _ hh) hr (fun r5 h6 k => s1 hL hi k))
theorem lc9 (hL : L ≤ 2048) (hi : i + 4 ≤ L) (hJ : isJ dc x m o h) (hr : ∀ h', isJ dc x m o h' → rec h') : w_L_law_c9 dc L xs h x m o (nI i) rec := by
  obtain ⟨M, ⟨g, hB⟩, ⟨ad, F, T, hM⟩, ho, hI⟩ := hJ
  exact s1 hL hi (law_step (CL := w_L_need dc h x (xs (i + 1)) o) (CM := fun h6 => w_X7_need dc h6 m (xs (i + 1))) hM (inv_need hI _) (fun Po hh => lb_need hB hI ho _ hh) (fun h' hM' Po hh => sm_need hM' hI _ hh) hr (fun r5 h6 k => s1 hL hi k))
theorem lc10 (hL : L ≤ 2048) (hi : i + 4 ≤ L) (hJ : isJ dc x m o h) (hr : ∀ h', isJ dc x m o h' → rec h') : w_L_law_c10 dc L xs h x m o (nI i) rec := by
  obtain ⟨M, ⟨g, hB⟩, ⟨ad, F, T, hM⟩, ho, hI⟩ := hJ
  exact s1 hL hi (s2 hL hi (s3 hL hi (law_step (CL := w_L_window dc h x (xs (i + 1)) (xs (i + 2)) (xs (i + 3)) o) (CM := fun h6 => w_X7_window dc h6 m (xs (i + 1)) (xs (i + 2)) (xs (i + 3))) hM (inv_window hI _ _ _) (fun Po hh => lb_window hB hI ho _ _ _ hh) (fun h' hM' Po hh => sm_window hM' hI _ _ _ hh) hr (fun r5 h6 k => s1 hL hi (s2 hL hi (s3 hL hi k))))))
theorem lc11 (hL : L ≤ 2048) (hi : i + 4 ≤ L) (hJ : isJ dc x m o h) (hr : ∀ h', isJ dc x m o h' → rec h') : w_L_law_c11 dc L xs h x m o (nI i) rec := by
  obtain ⟨M, ⟨g, hB⟩, ⟨ad, F, T, hM⟩, ho, hI⟩ := hJ
  exact s1 hL hi (law_step (CL := w_L_least dc h x (xs (i + 1)) o) (CM := fun h6 => w_X7_least dc h6 m (xs (i + 1))) hM (inv_least hI _) (fun Po hh => lb_least hB hI ho _ hh) (fun h' hM' Po hh => sm_least hM' hI _ hh) hr (fun r5 h6 k => s1 hL hi k))
theorem lc12 (hL : L ≤ 2048) (hi : i + 4 ≤ L) (hJ : isJ dc x m o h) (hr : ∀ h', isJ dc x m o h' → rec h') : w_L_law_c12 dc L xs h x m o (nI i) rec := by
  obtain ⟨M, ⟨g, hB⟩, ⟨ad, F, T, hM⟩, ho, hI⟩ := hJ
  exact s1 hL hi (s2 hL hi (s3 hL hi (law_step (CL := w_L_earliest dc h x (xs (i + 1)) (xs (i + 2)) (xs (i + 3)) o) (CM := fun h6 => w_X7_earliest dc h6 m (xs (i + 1)) (xs (i + 2)) (xs (i + 3))) hM (inv_earliest hI _ _ _) (fun Po hh => lb_earliest hB hI ho _ _ _ hh) (fun h' hM' Po hh => sm_earliest hM' hI _ _ _ hh) hr (fun r5 h6 k => s1 hL hi (s2 hL hi (s3 hL hi k))))))
theorem lc13 (hL : L ≤ 2048) (hi : i + 4 ≤ L) (hJ : isJ dc x m o h) (hr : ∀ h', isJ dc x m o h' → rec h') : w_L_law_c13 dc L xs h x m o (nI i) rec := by
  obtain ⟨M, ⟨g, hB⟩, ⟨ad, F, T, hM⟩, ho, hI⟩ := hJ
  exact s1 hL hi (s2 hL hi (s3 hL hi (law_step (CL := w_L_book dc h x (xs (i + 1)) (xs (i + 2)) (xs (i + 3)) o) (CM := fun h6 => w_X7_book dc h6 m (xs (i + 1)) (xs (i + 2)) (xs (i + 3))) hM (inv_book hI _ _ _) (fun Po hh => lb_book hB hI ho _ _ _ hh) (fun h' hM' Po hh => sm_book hM' hI _ _ _ hh) hr (fun r5 h6 k => s1 hL hi (s2 hL hi (s3 hL hi k))))))
theorem lc14 (hL : L ≤ 2048) (hi : i + 4 ≤ L) (hJ : isJ dc x m o h) (hr : ∀ h', isJ dc x m o h' → rec h') : w_L_law_c14 dc L xs h x m o (nI i) rec := by
  obtain ⟨M, ⟨g, hB⟩, ⟨ad, F, T, hM⟩, ho, hI⟩ := hJ
  exact law_step (CL := w_L_cancel dc h x o) (CM := fun h6 => w_X7_cancel dc h6 m) hM (inv_cancel hI) (fun Po hh => lb_cancel hB hI ho hh) (fun h' hM' Po hh => sm_cancel hM' hI hh) hr (fun r5 h6 k => k)
theorem lc15 (hL : L ≤ 2048) (hi : i + 4 ≤ L) (hJ : isJ dc x m o h) (hr : ∀ h', isJ dc x m o h' → rec h') : w_L_law_c15 dc L xs h x m o (nI i) rec := by
  obtain ⟨M, ⟨g, hB⟩, ⟨ad, F, T, hM⟩, ho, hI⟩ := hJ
  exact s1 hL hi (s2 hL hi (law_step (CL := w_L_passage dc h x (xs (i + 1)) (xs (i + 2)) o) (CM := fun h6 => w_X7_passage dc h6 m (xs (i + 1)) (xs (i + 2))) hM (inv_passage hI _ _) (fun Po hh => lb_passage hB hI ho _ _ hh) (fun h' hM' Po hh => sm_passage hM' hI _ _ hh) hr (fun r5 h6 k => s1 hL hi (s2 hL hi k))))
theorem lc16 (hL : L ≤ 2048) (hi : i + 4 ≤ L) (hJ : isJ dc x m o h) (hr : ∀ h', isJ dc x m o h' → rec h') : w_L_law_c16 dc L xs h x m o (nI i) rec := by
  obtain ⟨M, ⟨g, hB⟩, ⟨ad, F, T, hM⟩, ho, hI⟩ := hJ
  exact s1 hL hi (s2 hL hi (law_step (CL := w_L_occupant dc h x (xs (i + 1)) (xs (i + 2)) o) (CM := fun h6 => w_X7_occupant dc h6 m (xs (i + 1)) (xs (i + 2))) hM (inv_occupant hI _ _) (fun Po hh => lb_occupant hB hI ho _ _ hh) (fun h' hM' Po hh => sm_occupant hM' hI _ _ hh) hr (fun r5 h6 k => s1 hL hi (s2 hL hi k))))
theorem lc17 (hL : L ≤ 2048) (hi : i + 4 ≤ L) (hJ : isJ dc x m o h) (hr : ∀ h', isJ dc x m o h' → rec h') : w_L_law_c17 dc L xs h x m o (nI i) rec := by
  obtain ⟨M, ⟨g, hB⟩, ⟨ad, F, T, hM⟩, ho, hI⟩ := hJ
  exact s1 hL hi (law_step (CL := w_L_freeTugs dc h x (xs (i + 1)) o) (CM := fun h6 => w_X7_freeTugs dc h6 m (xs (i + 1))) hM (inv_freeTugs hI _) (fun Po hh => lb_freeTugs hB hI ho _ hh) (fun h' hM' Po hh => sm_freeTugs hM' hI _ hh) hr (fun r5 h6 k => s1 hL hi k))
theorem lc18 (hL : L ≤ 2048) (hi : i + 4 ≤ L) (hJ : isJ dc x m o h) (hr : ∀ h', isJ dc x m o h' → rec h') : w_L_law_c18 dc L xs h x m o (nI i) rec := by
  obtain ⟨M, ⟨g, hB⟩, ⟨ad, F, T, hM⟩, ho, hI⟩ := hJ
  exact s1 hL hi (law_step (CL := w_L_trips dc h x (xs (i + 1)) o) (CM := fun h6 => w_X7_trips dc h6 m (xs (i + 1))) hM (inv_trips hI _) (fun Po hh => lb_trips hB hI ho _ hh) (fun h' hM' Po hh => sm_trips hM' hI _ hh) hr (fun r5 h6 k => s1 hL hi k))
theorem lc19 (hL : L ≤ 2048) (hi : i + 4 ≤ L) (hJ : isJ dc x m o h) (hr : ∀ h', isJ dc x m o h' → rec h') : w_L_law_c19 dc L xs h x m o (nI i) rec := by
  obtain ⟨M, ⟨g, hB⟩, ⟨ad, F, T, hM⟩, ho, hI⟩ := hJ
  refine s1 hL hi (lb_isInPort hB hI ho (xs (i + 1)) (fun h' g' w1 w2 w3 => s1 hL hi ?_))
  have hM2 := isM_kM w2 hM
  refine wO_i hM2.1 (sm_isInPort hM2 hI _ (fun h'' F' w4 w5 => ?_))
  have hv := outv_k w5 w3
  have hI' : Inv (oc_isInPort M (xs (i + 1))).2.2 := inv_isInPort hI _
  have hrec := hr h'' ⟨_, ⟨g', isB_kept (n := 1) (by decide) w5 w1⟩, ⟨ad, F', _, w4⟩, hv.elim (fun f hf => ⟨f, hf.1⟩), hI'⟩
  refine wO_i w4.1 (sm_thrown w4 (wIf_t rfl (wIf_i (fun d => ?_) (fun _ => hrec))))
  obtain ⟨f, h1, h2⟩ := hv
  have e := h2 d
  have hb : (oc_isInPort M (xs (i + 1))).2.1 = 0 ∨ (oc_isInPort M (xs (i + 1))).2.1 = 1 := by
    unfold oc_isInPort
    by_cases c : ¬ isIx (xs (i + 1)) (mn M 3)
    · rw [cI_t c]; exact Or.inl rfl
    · rw [cI_f c]
      by_cases c2 : port M (nt (xs (i + 1))) (mn M 4)
      · exact Or.inr (bI_t c2)
      · exact Or.inl (bI_f c2)
  refine ⟨1, f, h1, (show vp_in (nI 0) 1 from vp_in_nI (by decide) (by decide)), wIf_i (fun c => wIf_t ?_ hrec) (fun c => wIf_t ?_ hrec)⟩
  · rw [lg_cmp_eq, show f (0 : Int32).toNatClampNeg = _ from e, c]; rfl
  · rw [lg_cmp_eq, show f (0 : Int32).toNatClampNeg = _ from e, hb.resolve_left c]; rfl
theorem lc20 (hJ : isJ dc x m o h) (hr : ∀ h', isJ dc x m o h' → rec h') : w_L_law_c20 dc L xs h x m o (nI i) rec := by
  obtain ⟨M, ⟨g, hB⟩, ⟨ad, F, T, hM⟩, ho, hI⟩ := hJ
  have fin : ∀ (d r r' : UInt64) (h' : XH) (F' : Nat → Nat → Int32), isM h' m ad F' 0 M → kept 1 h h' → alike64 r d = true → alike64 r' d = true → wIf ((Op.cmpValue (FP.dcmp r r') .l) = 0) (rec h') (wIf ((Op.cmpValue (FP.dcmp r r) .l) = 0) False (wIf ((Op.cmpValue (FP.dcmp r' r') .l) = 0) False (rec h'))) := by
    intro d r r' h' F' w1 w2 a1 a2
    have hrec := hr h' ⟨M, ⟨g, isB_kept (n := 1) (by decide) w2 hB⟩, ⟨ad, F', _, w1⟩, ho.elim (fun f hf => ⟨f, w2 _ _ hf (fun z => absurd (show (2 : Nat) = 1 from z) (by decide))⟩), hI⟩
    rcases dcmp_alike a1 a2 with e | ⟨e1, e2, e3⟩
    · exact wIf_t e hrec
    · exact wIf_f e1 (wIf_f e2 (wIf_f e3 hrec))
  refine wO_i hB.1 (sb_delay hB hI ⟨fun c => ?_, fun c r a1 => ?_⟩)
  · exact wO_i hM.1 (sm_delay hM hI (fun h' F' w1 w2 => ⟨fun _ => fin _ _ _ h' F' w1 w2 (alike64_refl _) (alike64_refl _), fun c2 => absurd c c2⟩))
  · exact wO_i hM.1 (sm_delay hM hI (fun h' F' w1 w2 => ⟨fun c2 => absurd c2 c, fun _ r' a2 => fin _ _ _ h' F' w1 w2 a1 a2⟩))
theorem lc21 (hJ : isJ dc x m o h) (hr : ∀ h', isJ dc x m o h' → rec h') : w_L_law_c21 dc L xs h x m o (nI i) rec := by
  obtain ⟨M, ⟨g, hB⟩, ⟨ad, F, T, hM⟩, ho, hI⟩ := hJ
  refine wO_i hB.1 (sb_digest hB hI (wO_i hM.1 (sm_digest hM hI (fun h' F' w1 w2 => wIf_t ((lg_cmp_eq _ _).mpr rfl) ?_))))
  exact hr h' ⟨M, ⟨g, isB_kept (n := 1) (by decide) w2 hB⟩, ⟨ad, F', _, w1⟩, ho.elim (fun f hf => ⟨f, w2 _ _ hf (fun z => absurd (show (2 : Nat) = 1 from z) (by decide))⟩), hI⟩
theorem law_loop (hL : L ≤ 2048) (hJ : isJ dc x m o h) : w_L_law_23 dc L xs x m o (h, 0) := by
  refine xloop_of (fun s : XH × Int32 => ∃ i, s.2 = nI i ∧ i ≤ L ∧ isJ dc x m o s.1) (fun s => L - nt s.2) (fun rec s hs hr => ?_) _ ⟨0, rfl, Nat.zero_le _, hJ⟩
  obtain ⟨h1, l4⟩ := s
  obtain ⟨i, e1, hi, hJ1⟩ := hs
  dsimp only at e1 hJ1 hr
  subst e1
  refine wIf_d ((L : Int) - 4 < i) ?_ (fun _ => trivial) (fun c => ?_)
  · rw [Int32.lt_iff_toInt_lt, nI_toInt (by omega)]
    rw [show (Int32.ofNat L - 4).toInt = (L : Int) - (4 : Nat) from pk_sub_toInt (a := L) (b := 4) (by omega) (by decide)]
    exact Iff.rfl
  have hi4 : i + 4 ≤ L := by omega
  have hr4 : ∀ h', isJ dc x m o h' → rec (h', nI i + 4) := fun h' hj => hr _ ⟨i + 4, nI_add i 4, hi4, hj⟩ (by
    show L - nt (nI i + 4) < L - nt (nI i)
    rw [show nI i + 4 = nI (i + 4) from nI_add i 4, nt_nI (by omega), nt_nI (by omega)]; omega)
  refine scr_i (i := i) rfl (by omega) (by omega) ?_
  exact ⟨fun _ => lc0 hL hi4 hJ1 hr4, fun _ => lc1 hL hi4 hJ1 hr4, fun _ => lc2 hL hi4 hJ1 hr4, fun _ => lc3 hL hi4 hJ1 hr4, fun _ => lc4 hL hi4 hJ1 hr4, fun _ => lc5 hL hi4 hJ1 hr4, fun _ => lc6 hL hi4 hJ1 hr4, fun _ => lc7 hL hi4 hJ1 hr4, fun _ => lc8 hL hi4 hJ1 hr4, fun _ => lc9 hL hi4 hJ1 hr4, fun _ => lc10 hL hi4 hJ1 hr4, fun _ => lc11 hL hi4 hJ1 hr4, fun _ => lc12 hL hi4 hJ1 hr4, fun _ => lc13 hL hi4 hJ1 hr4, fun _ => lc14 hL hi4 hJ1 hr4, fun _ => lc15 hL hi4 hJ1 hr4, fun _ => lc16 hL hi4 hJ1 hr4, fun _ => lc17 hL hi4 hJ1 hr4, fun _ => lc18 hL hi4 hJ1 hr4, fun _ => lc19 hL hi4 hJ1 hr4, fun _ => lc20 hJ1 hr4, fun _ => lc21 hJ1 hr4, fun _ => hr4 _ hJ1⟩
end
/-- PURE: the law holds of the predicates, on every script -/
theorem pure_law (dc : Nat × Nat) (L : Nat) (xs : Nat → Int32) (h : XH) (hL : L ≤ 2048) (hh : ∀ a, h a = if a = dc.1 then some xro else none) : w_L_law dc L xs h := by
  intro x hx
  have hd : h dc.1 = some xro := by rw [hh, if_pos rfl]
  have hdx : dc.1 ≠ x := fun z => by rw [z, hx] at hd; cases hd
  refine sb_init xup_s (by rw [xup_o hdx]; exact hd) (fun h1 g hB1 => ?_)
  intro m hm
  refine sm_init xup_s (fun h3 ad F hM3 k3 => ?_)
  have hB3 := isB_kept (n := 1) (by decide) k3 (isB_kept (n := 1) (by decide) (kept_n hm) hB1)
  intro o ho
  exact law_loop hL ⟨M0, ⟨g, isB_kept (n := 1) (by decide) (kept_n ho) hB3⟩, ⟨ad, F, 0, isM_kept (n := 0) (by decide) (kept_n ho) hM3⟩, ⟨_, xup_s⟩, inv_M0⟩
