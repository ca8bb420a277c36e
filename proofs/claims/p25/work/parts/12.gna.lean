theorem m_X0_init_0 : Cond.methodLink RX0 1 objectInit ∈ wsX0_init := by decide +kernel
theorem m_X0_init_1 : Cond.instanceMethod objectInit ∈ wsX0_init := by decide +kernel
theorem m_X0_init_2 : Cond.code objectInit ⟨#[0xb1]⟩ 1 none ∈ wsX0_init := by decide +kernel
theorem in_X0_init_X0 : ∀ w ∈ wsX00, w ∈ wsX0_init := by decide +kernel
theorem m_X0_init_4 : Cond.fieldLink RX0 7 "PilotBook$Berth" "number" "I" ∈ wsX0_init := by decide +kernel
theorem m_X0_init_5 : Cond.fieldLink RX0 13 "PilotBook$Berth" "length" "I" ∈ wsX0_init := by decide +kernel
theorem m_X0_init_6 : Cond.fieldLink RX0 16 "PilotBook$Berth" "depth" "I" ∈ wsX0_init := by decide +kernel
def w_X0_init (dc : Nat × Nat) (h : XH) (l0 : Nat) (l1 : Int32) (l2 : Int32) (l3 : Int32) (Po : XH → Prop) : Prop :=
  wP h l0 1 0 (.int l1) (fun h1 => wP h1 l0 1 1 (.int l2) (fun h2 => wP h2 l0 1 2 (.int l3) (fun h3 => Po h3)))
set_option maxRecDepth 100000 in
set_option maxHeartbeats 4000000 in
theorem k_X0_init (l : Launch) (dc : Nat × Nat) (h : XH) (l0 : Nat) (l1 : Int32) (l2 : Int32) (l3 : Int32) (Po : XH → Prop) (hw : w_X0_init dc h l0 l1 l2 l3 Po) : xM l dc yX0_init wsX0_init 1 20 0 0 [.ref l0, .int l1, .int l2, .int l3] h (xPv Po) := by
  refine xM_of [(0, .ref l0), (1, .int l1), (2, .int l2), (3, .int l3)] (own := RX0) (cc := cX0_init) (nL := 4) (ret := none) (by decide +kernel) rfl rfl (Nat.le_of_ble_eq_true rfl) rfl ?_
  intro X V hX S E
  subst hX
  refine xr_aload_n S 0 dX0_init_0 rfl ?_
  refine xr_objInit S dX0_init_1 m_X0_init_0 m_X0_init_1 m_X0_init_2 (Nat.le_of_ble_eq_true rfl) (Nat.le_of_ble_eq_true rfl) ?_
  refine xr_aload_n S 0 dX0_init_4 rfl ?_
  refine xr_iload_n S 1 dX0_init_5 rfl ?_
  refine xw_putF S 1 0 tyX0 dX0_init_6 in_X0_init_X0 rfl (by decide) m_X0_init_4 (Or.inl rfl) tyX0_ok nmX0 rfl rfl rfl rfl ⟨rfl, rfl⟩ hw (fun h1 hw => ?_)
  refine xr_aload_n S 0 dX0_init_9 rfl ?_
  refine xr_iload_n S 2 dX0_init_10 rfl ?_
  refine xw_putF S 1 1 tyX0 dX0_init_11 in_X0_init_X0 rfl (by decide) m_X0_init_5 (Or.inl rfl) tyX0_ok nmX0 rfl rfl rfl rfl ⟨rfl, rfl⟩ hw (fun h2 hw => ?_)
  refine xr_aload_n S 0 dX0_init_14 rfl ?_
  refine xr_iload_n S 3 dX0_init_15 rfl ?_
  refine xw_putF S 1 2 tyX0 dX0_init_16 in_X0_init_X0 rfl (by decide) m_X0_init_6 (Or.inl rfl) tyX0_ok nmX0 rfl rfl rfl rfl ⟨rfl, rfl⟩ hw (fun h3 hw => ?_)
  exact E.2.2.1 _ _ _ _ _ rfl dX0_init_19 ⟨rfl, hw⟩ (Nat.le_of_ble_eq_true rfl) (Nat.le_of_ble_eq_true rfl)
theorem m_X1_init_0 : Cond.methodLink RX1 3 objectInit ∈ wsX1_init := by decide +kernel
theorem m_X1_init_1 : Cond.instanceMethod objectInit ∈ wsX1_init := by decide +kernel
theorem m_X1_init_2 : Cond.code objectInit ⟨#[0xb1]⟩ 1 none ∈ wsX1_init := by decide +kernel
theorem in_X1_init_X1 : ∀ w ∈ wsX10, w ∈ wsX1_init := by decide +kernel
theorem m_X1_init_4 : Cond.fieldLink RX1 9 "PilotBook$Passage" "route" "LPilotBook$Route;" ∈ wsX1_init := by decide +kernel
theorem m_X1_init_5 : Cond.fieldLink RX1 15 "PilotBook$Passage" "askedFrom" "I" ∈ wsX1_init := by decide +kernel
theorem m_X1_init_6 : Cond.fieldLink RX1 19 "PilotBook$Passage" "begin" "I" ∈ wsX1_init := by decide +kernel
theorem m_X1_init_7 : Cond.fieldLink RX1 22 "PilotBook$Passage" "pilot" "LPilotBook$Pilot;" ∈ wsX1_init := by decide +kernel
theorem in_X1_init_X3 : ∀ w ∈ wsX30, w ∈ wsX1_init := by decide +kernel
theorem in_X1_init_X4 : ∀ w ∈ wsX40, w ∈ wsX1_init := by decide +kernel
theorem m_X1_init_10 : Cond.fieldLink RX1 38 "PilotBook$Passage" "shipBefore" "LPilotBook$Passage;" ∈ wsX1_init := by decide +kernel
theorem in_X1_init_X2 : ∀ w ∈ wsX20, w ∈ wsX1_init := by decide +kernel
theorem m_X1_init_12 : Cond.fieldLink RX1 44 "PilotBook$Passage" "pilotBefore" "LPilotBook$Passage;" ∈ wsX1_init := by decide +kernel
theorem m_X1_init_13 : Cond.fieldLink RX1 51 "PilotBook$Passage" "berthUntil" "I" ∈ wsX1_init := by decide +kernel
def w_X1_init_60 (dc : Nat × Nat) (h : XH) (t0 : Nat) (t1 : Int32) (Po : XH → Prop) : Prop :=
  wP h t0 2 6 (.int t1) (fun h11 => Po h11)
set_option maxRecDepth 100000 in
set_option maxHeartbeats 4000000 in
theorem k_X1_init_60 {V : XVT} {X : XC} {l : Launch} (S : xS V X l RX1 yX1_init.name cX1_init 5 wsX1_init (xRm 1 20 0 0)) (h : XH) (t0 : Nat) (t1 : Int32) (Po : XH → Prop) (E : xEnd V cX1_init none 0 0 (xPv Po)) (hw : w_X1_init_60 (xdc X) h t0 t1 Po) : V 0 0 h 60 [] [.int t1, .ref t0] := by
  refine xw_put S 2 6 tyX1 dX1_init_60 in_X1_init_X1 rfl (by decide) (Or.inl m_X1_init_13) (Or.inl rfl) tyX1_ok nmX1 rfl rfl ⟨rfl, rfl⟩ hw (fun h11 hw => ?_)
  exact E.2.2.1 _ _ _ _ _ rfl dX1_init_63 ⟨rfl, hw⟩ (Nat.le_of_ble_eq_true rfl) (Nat.le_of_ble_eq_true rfl)
def w_X1_init (dc : Nat × Nat) (h : XH) (l0 : Nat) (l1 : Nat) (l2 : Int32) (l3 : Int32) (l4 : Nat) (Po : XH → Prop) : Prop :=
  wP h l0 2 0 (.ref l1) (fun h1 => wP h1 l0 2 1 (.int l2) (fun h2 => wP h2 l0 2 2 (.int l3) (fun h3 => wP h3 l0 2 3 (.ref l4) (fun h4 => wR h4 l1 4 0 (fun a5 => wQ h4 a5 5 3 (fun r6 => wP h4 l0 2 4 (va_rf r6) (fun h7 => wQ h7 l4 3 3 (fun r8 => wP h7 l0 2 5 (va_rf r8) (fun h9 => wI h9 l1 4 2 (fun v10 => wIf (v10 = 0) (w_X1_init_60 dc h9 l0 2880 Po) (w_X1_init_60 dc h9 l0 l3 Po)))))))))))
set_option maxRecDepth 100000 in
set_option maxHeartbeats 4000000 in
theorem k_X1_init (l : Launch) (dc : Nat × Nat) (h : XH) (l0 : Nat) (l1 : Nat) (l2 : Int32) (l3 : Int32) (l4 : Nat) (Po : XH → Prop) (hw : w_X1_init dc h l0 l1 l2 l3 l4 Po) : xM l dc yX1_init wsX1_init 1 20 0 0 [.ref l0, .ref l1, .int l2, .int l3, .ref l4] h (xPv Po) := by
  refine xM_of [(0, .ref l0), (1, .ref l1), (2, .int l2), (3, .int l3), (4, .ref l4)] (own := RX1) (cc := cX1_init) (nL := 5) (ret := none) (by decide +kernel) rfl rfl (Nat.le_of_ble_eq_true rfl) rfl ?_
  intro X V hX S E
  subst hX
  refine xr_aload_n S 0 dX1_init_0 rfl ?_
  refine xr_objInit S dX1_init_1 m_X1_init_0 m_X1_init_1 m_X1_init_2 (Nat.le_of_ble_eq_true rfl) (Nat.le_of_ble_eq_true rfl) ?_
  refine xr_aload_n S 0 dX1_init_4 rfl ?_
  refine xr_aload_n S 1 dX1_init_5 rfl ?_
  refine xw_putF S 2 0 tyX1 dX1_init_6 in_X1_init_X1 rfl (by decide) m_X1_init_4 (Or.inl rfl) tyX1_ok nmX1 rfl rfl rfl rfl (xfit_q _ (some l1)) hw (fun h1 hw => ?_)
  refine xr_aload_n S 0 dX1_init_9 rfl ?_
  refine xr_iload_n S 2 dX1_init_10 rfl ?_
  refine xw_putF S 2 1 tyX1 dX1_init_11 in_X1_init_X1 rfl (by decide) m_X1_init_5 (Or.inl rfl) tyX1_ok nmX1 rfl rfl rfl rfl ⟨rfl, rfl⟩ hw (fun h2 hw => ?_)
  refine xr_aload_n S 0 dX1_init_14 rfl ?_
  refine xr_iload_n S 3 dX1_init_15 rfl ?_
  refine xw_putF S 2 2 tyX1 dX1_init_16 in_X1_init_X1 rfl (by decide) m_X1_init_6 (Or.inl rfl) tyX1_ok nmX1 rfl rfl rfl rfl ⟨rfl, rfl⟩ hw (fun h3 hw => ?_)
  refine xr_aload_n S 0 dX1_init_19 rfl ?_
  refine xr_aload S 4 dX1_init_20 rfl ?_
  refine xw_putF S 2 3 tyX1 dX1_init_22 in_X1_init_X1 rfl (by decide) m_X1_init_7 (Or.inl rfl) tyX1_ok nmX1 rfl rfl rfl rfl (xfit_q _ (some l4)) hw (fun h4 hw => ?_)
  refine xr_aload_n S 0 dX1_init_25 rfl ?_
  refine xr_aload_n S 1 dX1_init_26 rfl ?_
  refine xw_getR S 4 0 dX1_init_27 in_X1_init_X3 rfl (by decide) (Or.inr xn_X1_26) (Or.inl rfl) hw (fun a5 hw => ?_)
  refine xw_getQ S 5 3 dX1_init_30 in_X1_init_X4 rfl (by decide) (Or.inr xn_X1_32) (Or.inl rfl) hw (fun r6 hw => ?_)
  refine xw_putF S 2 4 tyX1 dX1_init_33 in_X1_init_X1 rfl (by decide) m_X1_init_10 (Or.inl rfl) tyX1_ok nmX1 rfl rfl rfl rfl (xfit_q _ r6) hw (fun h7 hw => ?_)
  refine xr_aload_n S 0 dX1_init_36 rfl ?_
  refine xr_aload S 4 dX1_init_37 rfl ?_
  refine xw_getQ S 3 3 dX1_init_39 in_X1_init_X2 rfl (by decide) (Or.inr xn_X1_41) (Or.inl rfl) hw (fun r8 hw => ?_)
  refine xw_putF S 2 5 tyX1 dX1_init_42 in_X1_init_X1 rfl (by decide) m_X1_init_12 (Or.inl rfl) tyX1_ok nmX1 rfl rfl rfl rfl (xfit_q _ r8) hw (fun h9 hw => ?_)
  refine xr_aload_n S 0 dX1_init_45 rfl ?_
  refine xr_aload_n S 1 dX1_init_46 rfl ?_
  refine xw_getI S 4 2 dX1_init_47 in_X1_init_X3 rfl (by decide) (Or.inr xn_X1_47) (Or.inl rfl) hw (fun v10 hw => ?_)
  refine xw_if_eq S 57 dX1_init_50 (by decide) hw (fun c hw => ?_) (fun c hw => ?_)
  · refine xr_sipush S (2880) dX1_init_57 (by decide) ?_
    refine xr_sub S [] [] rfl ?_
    exact k_X1_init_60 S h9 l0 2880 Po E hw
  · refine xr_iload_n S 3 dX1_init_53 rfl ?_
    refine xr_goto S (tgt := 60) dX1_init_54 (by decide) ?_
    refine xr_sub S [] [] rfl ?_
    exact k_X1_init_60 S h9 l0 l3 Po E hw
theorem in_X1_end_X1 : ∀ w ∈ wsX10, w ∈ wsX1_end := by decide +kernel
theorem m_X1_end_1 : Cond.fieldLink RX1 19 "PilotBook$Passage" "begin" "I" ∈ wsX1_end := by decide +kernel
def w_X1_end (dc : Nat × Nat) (h : XH) (l0 : Nat) (Po : Int32 → Prop) : Prop :=
  wI h l0 2 2 (fun v1 => Po (v1 + 60))
set_option maxRecDepth 100000 in
set_option maxHeartbeats 4000000 in
theorem k_X1_end (l : Launch) (dc : Nat × Nat) (h : XH) (l0 : Nat) (Po : Int32 → Prop) (hw : w_X1_end dc h l0 Po) : xM l dc yX1_end wsX1_end 0 0 0 0 [.ref l0] h (xRi h Po) := by
  refine xM_of [(0, .ref l0)] (own := RX1) (cc := cX1_end) (nL := 1) (ret := (some .int)) (by decide +kernel) rfl rfl (Nat.le_of_ble_eq_true rfl) rfl ?_
  intro X V hX S E
  subst hX
  refine xr_aload_n S 0 dX1_end_0 rfl ?_
  refine xw_getI S 2 2 dX1_end_1 in_X1_end_X1 rfl (by decide) (Or.inl m_X1_end_1) (Or.inl rfl) hw (fun v1 hw => ?_)
  refine xr_bipush S (60) dX1_end_4 (by decide) ?_
  refine xr_iadd S dX1_end_6 ?_
  exact E.1 _ _ _ _ _ _ rfl dX1_end_7 ⟨_, rfl, rfl, hw⟩ (Nat.le_of_ble_eq_true rfl) (Nat.le_of_ble_eq_true rfl)
theorem in_X3_tugsFrom_X3 : ∀ w ∈ wsX30, w ∈ wsX3_tugsFrom := by decide +kernel
theorem m_X3_tugsFrom_1 : Cond.fieldLink RX3 19 "PilotBook$Route" "isOutbound" "Z" ∈ wsX3_tugsFrom := by decide +kernel
def w_X3_tugsFrom (dc : Nat × Nat) (h : XH) (l0 : Nat) (l1 : Int32) (Po : Int32 → Prop) : Prop :=
  wI h l0 4 2 (fun v1 => wIf (v1 = 0) (Po ((l1 + 60) - 40)) (Po l1))
set_option maxRecDepth 100000 in
set_option maxHeartbeats 4000000 in
theorem k_X3_tugsFrom (l : Launch) (dc : Nat × Nat) (h : XH) (l0 : Nat) (l1 : Int32) (Po : Int32 → Prop) (hw : w_X3_tugsFrom dc h l0 l1 Po) : xM l dc yX3_tugsFrom wsX3_tugsFrom 0 0 0 0 [.ref l0, .int l1] h (xRi h Po) := by
  refine xM_of [(0, .ref l0), (1, .int l1)] (own := RX3) (cc := cX3_tugsFrom) (nL := 2) (ret := (some .int)) (by decide +kernel) rfl rfl (Nat.le_of_ble_eq_true rfl) rfl ?_
  intro X V hX S E
  subst hX
  refine xr_aload_n S 0 dX3_tugsFrom_0 rfl ?_
  refine xw_getI S 4 2 dX3_tugsFrom_1 in_X3_tugsFrom_X3 rfl (by decide) (Or.inl m_X3_tugsFrom_1) (Or.inl rfl) hw (fun v1 hw => ?_)
  refine xw_if_eq S 11 dX3_tugsFrom_4 (by decide) hw (fun c hw => ?_) (fun c hw => ?_)
  · refine xr_iload_n S 1 dX3_tugsFrom_11 rfl ?_
    refine xr_bipush S (60) dX3_tugsFrom_12 (by decide) ?_
    refine xr_iadd S dX3_tugsFrom_14 ?_
    refine xr_bipush S (40) dX3_tugsFrom_15 (by decide) ?_
    refine xr_isub S dX3_tugsFrom_17 ?_
    exact E.1 _ _ _ _ _ _ rfl dX3_tugsFrom_18 ⟨_, rfl, rfl, hw⟩ (Nat.le_of_ble_eq_true rfl) (Nat.le_of_ble_eq_true rfl)
  · refine xr_iload_n S 1 dX3_tugsFrom_7 rfl ?_
    refine xr_goto S (tgt := 18) dX3_tugsFrom_8 (by decide) ?_
    exact E.1 _ _ _ _ _ _ rfl dX3_tugsFrom_18 ⟨_, rfl, rfl, hw⟩ (Nat.le_of_ble_eq_true rfl) (Nat.le_of_ble_eq_true rfl)
theorem in_X1_tugsFrom_X1 : ∀ w ∈ wsX10, w ∈ wsX1_tugsFrom := by decide +kernel
theorem m_X1_tugsFrom_1 : Cond.fieldLink RX1 9 "PilotBook$Passage" "route" "LPilotBook$Route;" ∈ wsX1_tugsFrom := by decide +kernel
theorem m_X1_tugsFrom_2 : Cond.fieldLink RX1 19 "PilotBook$Passage" "begin" "I" ∈ wsX1_tugsFrom := by decide +kernel
def w_X1_tugsFrom (dc : Nat × Nat) (h : XH) (l0 : Nat) (Po : Int32 → Prop) : Prop :=
  wR h l0 2 0 (fun a1 => wI h l0 2 2 (fun v2 => wO h a1 4 ( w_X3_tugsFrom dc h a1 v2 (fun r5 => Po r5))))
set_option maxRecDepth 100000 in
set_option maxHeartbeats 4000000 in
theorem k_X1_tugsFrom (l : Launch) (dc : Nat × Nat) (h : XH) (l0 : Nat) (Po : Int32 → Prop) (hw : w_X1_tugsFrom dc h l0 Po) : xM l dc yX1_tugsFrom wsX1_tugsFrom 1 21 0 0 [.ref l0] h (xRi h Po) := by
  refine xM_of [(0, .ref l0)] (own := RX1) (cc := cX1_tugsFrom) (nL := 1) (ret := (some .int)) (by decide +kernel) rfl rfl (Nat.le_of_ble_eq_true rfl) rfl ?_
  intro X V hX S E
  subst hX
  refine xr_aload_n S 0 dX1_tugsFrom_0 rfl ?_
  refine xw_getR S 2 0 dX1_tugsFrom_1 in_X1_tugsFrom_X1 rfl (by decide) (Or.inl m_X1_tugsFrom_1) (Or.inl rfl) hw (fun a1 hw => ?_)
  refine xr_aload_n S 0 dX1_tugsFrom_4 rfl ?_
  refine xw_getI S 2 2 dX1_tugsFrom_5 in_X1_tugsFrom_X1 rfl (by decide) (Or.inl m_X1_tugsFrom_2) (Or.inl rfl) hw (fun v2 hw => ?_)
  obtain ⟨e3, hw⟩ := hw
  obtain ⟨f4, f4x⟩ := id e3
  refine xr_callV S 4 [.int v2] [] dX1_tugsFrom_8 (k_X3_tugsFrom l (xdc X) h a1 v2 _ hw) gX1_tugsFrom_X3_tugsFrom rfl pd_X3_tugsFrom ⟨Nat.le_of_ble_eq_true rfl, Nat.le_of_ble_eq_true rfl⟩ rfl (Nat.le_of_ble_eq_true rfl) ⟨Nat.le_of_ble_eq_true rfl, Nat.le_of_ble_eq_true rfl⟩ f4x rfl (fun v9 h7 hv => ?_)
  obtain ⟨r5, rfl, rfl, hw⟩ := hv
  exact E.1 _ _ _ _ _ _ rfl dX1_tugsFrom_11 ⟨_, rfl, rfl, hw⟩ (Nat.le_of_ble_eq_true rfl) (Nat.le_of_ble_eq_true rfl)
theorem in_X1_holdsBerthAt_X1 : ∀ w ∈ wsX10, w ∈ wsX1_holdsBerthAt := by decide +kernel
theorem m_X1_holdsBerthAt_1 : Cond.fieldLink RX1 19 "PilotBook$Passage" "begin" "I" ∈ wsX1_holdsBerthAt := by decide +kernel
theorem m_X1_holdsBerthAt_2 : Cond.fieldLink RX1 51 "PilotBook$Passage" "berthUntil" "I" ∈ wsX1_holdsBerthAt := by decide +kernel
def w_X1_holdsBerthAt (dc : Nat × Nat) (h : XH) (l0 : Nat) (l1 : Int32) (Po : Int32 → Prop) : Prop :=
  wI h l0 2 2 (fun v1 => wIf (l1 < v1) (wZ 0 (Po 0)) (wI h l0 2 6 (fun v2 => wIf (v2 ≤ l1) (wZ 0 (Po 0)) (wZ 1 (Po 1)))))
set_option maxRecDepth 100000 in
set_option maxHeartbeats 4000000 in
theorem k_X1_holdsBerthAt (l : Launch) (dc : Nat × Nat) (h : XH) (l0 : Nat) (l1 : Int32) (Po : Int32 → Prop) (hw : w_X1_holdsBerthAt dc h l0 l1 Po) : xM l dc yX1_holdsBerthAt wsX1_holdsBerthAt 0 0 0 0 [.ref l0, .int l1] h (xRi h Po) := by
  refine xM_of [(0, .ref l0), (1, .int l1)] (own := RX1) (cc := cX1_holdsBerthAt) (nL := 2) (ret := (some .boolean)) (by decide +kernel) rfl rfl (Nat.le_of_ble_eq_true rfl) rfl ?_
  intro X V hX S E
  subst hX
  refine xr_aload_n S 0 dX1_holdsBerthAt_0 rfl ?_
  refine xw_getI S 2 2 dX1_holdsBerthAt_1 in_X1_holdsBerthAt_X1 rfl (by decide) (Or.inl m_X1_holdsBerthAt_1) (Or.inl rfl) hw (fun v1 hw => ?_)
  refine xr_iload_n S 1 dX1_holdsBerthAt_4 rfl ?_
  refine xw_icmp_gt S 20 dX1_holdsBerthAt_5 (by decide) hw (fun c hw => ?_) (fun c hw => ?_)
  · refine xr_iconst S (0) dX1_holdsBerthAt_20 (by decide) ?_
    obtain ⟨hz, hw⟩ := hw
    exact E.2.1 _ _ _ _ _ _ rfl hz dX1_holdsBerthAt_21 ⟨_, rfl, rfl, hw⟩ (Nat.le_of_ble_eq_true rfl) (Nat.le_of_ble_eq_true rfl)
  · refine xr_iload_n S 1 dX1_holdsBerthAt_8 rfl ?_
    refine xr_aload_n S 0 dX1_holdsBerthAt_9 rfl ?_
    refine xw_getI S 2 6 dX1_holdsBerthAt_10 in_X1_holdsBerthAt_X1 rfl (by decide) (Or.inl m_X1_holdsBerthAt_2) (Or.inl rfl) hw (fun v2 hw => ?_)
    refine xw_icmp_ge S 20 dX1_holdsBerthAt_13 (by decide) hw (fun c hw => ?_) (fun c hw => ?_)
    · refine xr_iconst S (0) dX1_holdsBerthAt_20 (by decide) ?_
      obtain ⟨hz, hw⟩ := hw
      exact E.2.1 _ _ _ _ _ _ rfl hz dX1_holdsBerthAt_21 ⟨_, rfl, rfl, hw⟩ (Nat.le_of_ble_eq_true rfl) (Nat.le_of_ble_eq_true rfl)
    · refine xr_iconst S (1) dX1_holdsBerthAt_16 (by decide) ?_
      refine xr_goto S (tgt := 21) dX1_holdsBerthAt_17 (by decide) ?_
      obtain ⟨hz, hw⟩ := hw
      exact E.2.1 _ _ _ _ _ _ rfl hz dX1_holdsBerthAt_21 ⟨_, rfl, rfl, hw⟩ (Nat.le_of_ble_eq_true rfl) (Nat.le_of_ble_eq_true rfl)
theorem m_X2_init_0 : Cond.methodLink RX2 3 objectInit ∈ wsX2_init := by decide +kernel
theorem m_X2_init_1 : Cond.instanceMethod objectInit ∈ wsX2_init := by decide +kernel
theorem m_X2_init_2 : Cond.code objectInit ⟨#[0xb1]⟩ 1 none ∈ wsX2_init := by decide +kernel
theorem in_X2_init_X2 : ∀ w ∈ wsX20, w ∈ wsX2_init := by decide +kernel
theorem m_X2_init_4 : Cond.fieldLink RX2 9 "PilotBook$Pilot" "latest" "LPilotBook$Passage;" ∈ wsX2_init := by decide +kernel
theorem m_X2_init_5 : Cond.fieldLink RX2 15 "PilotBook$Pilot" "number" "I" ∈ wsX2_init := by decide +kernel
theorem m_X2_init_6 : Cond.fieldLink RX2 19 "PilotBook$Pilot" "limit" "I" ∈ wsX2_init := by decide +kernel
theorem m_X2_init_7 : Cond.fieldLink RX2 22 "PilotBook$Pilot" "startsInPort" "Z" ∈ wsX2_init := by decide +kernel
def w_X2_init (dc : Nat × Nat) (h : XH) (l0 : Nat) (l1 : Int32) (l2 : Int32) (l3 : Int32) (Po : XH → Prop) : Prop :=
  wP h l0 3 3 (va_rf none) (fun h1 => wP h1 l0 3 0 (.int l1) (fun h2 => wP h2 l0 3 1 (.int l2) (fun h3 => wPz h3 l0 3 2 l3 (fun h4 => Po h4))))
set_option maxRecDepth 100000 in
set_option maxHeartbeats 4000000 in
theorem k_X2_init (l : Launch) (dc : Nat × Nat) (h : XH) (l0 : Nat) (l1 : Int32) (l2 : Int32) (l3 : Int32) (Po : XH → Prop) (hw : w_X2_init dc h l0 l1 l2 l3 Po) : xM l dc yX2_init wsX2_init 1 20 0 0 [.ref l0, .int l1, .int l2, .int l3] h (xPv Po) := by
  refine xM_of [(0, .ref l0), (1, .int l1), (2, .int l2), (3, .int l3)] (own := RX2) (cc := cX2_init) (nL := 4) (ret := none) (by decide +kernel) rfl rfl (Nat.le_of_ble_eq_true rfl) rfl ?_
  intro X V hX S E
  subst hX
  refine xr_aload_n S 0 dX2_init_0 rfl ?_
  refine xr_objInit S dX2_init_1 m_X2_init_0 m_X2_init_1 m_X2_init_2 (Nat.le_of_ble_eq_true rfl) (Nat.le_of_ble_eq_true rfl) ?_
  refine xr_aload_n S 0 dX2_init_4 rfl ?_
  refine xr_null S dX2_init_5 ?_
  refine xw_put S 3 3 tyX2 dX2_init_6 in_X2_init_X2 rfl (by decide) (Or.inl m_X2_init_4) (Or.inl rfl) tyX2_ok nmX2 rfl rfl (xfit_q _ none) hw (fun h1 hw => ?_)
  refine xr_aload_n S 0 dX2_init_9 rfl ?_
  refine xr_iload_n S 1 dX2_init_10 rfl ?_
  refine xw_putF S 3 0 tyX2 dX2_init_11 in_X2_init_X2 rfl (by decide) m_X2_init_5 (Or.inl rfl) tyX2_ok nmX2 rfl rfl rfl rfl ⟨rfl, rfl⟩ hw (fun h2 hw => ?_)
  refine xr_aload_n S 0 dX2_init_14 rfl ?_
  refine xr_iload_n S 2 dX2_init_15 rfl ?_
  refine xw_putF S 3 1 tyX2 dX2_init_16 in_X2_init_X2 rfl (by decide) m_X2_init_6 (Or.inl rfl) tyX2_ok nmX2 rfl rfl rfl rfl ⟨rfl, rfl⟩ hw (fun h3 hw => ?_)
  refine xr_aload_n S 0 dX2_init_19 rfl ?_
  refine xr_iload_n S 3 dX2_init_20 rfl ?_
  obtain ⟨hz5, hw⟩ := hw
  refine xw_putF S 3 2 tyX2 dX2_init_21 in_X2_init_X2 rfl (by decide) m_X2_init_7 (Or.inl rfl) tyX2_ok nmX2 rfl rfl rfl rfl hz5 hw (fun h4 hw => ?_)
  exact E.2.2.1 _ _ _ _ _ rfl dX2_init_24 ⟨rfl, hw⟩ (Nat.le_of_ble_eq_true rfl) (Nat.le_of_ble_eq_true rfl)
theorem in_X2_endsInPort_X2 : ∀ w ∈ wsX20, w ∈ wsX2_endsInPort := by decide +kernel
theorem m_X2_endsInPort_1 : Cond.fieldLink RX2 9 "PilotBook$Pilot" "latest" "LPilotBook$Passage;" ∈ wsX2_endsInPort := by decide +kernel
theorem m_X2_endsInPort_2 : Cond.fieldLink RX2 22 "PilotBook$Pilot" "startsInPort" "Z" ∈ wsX2_endsInPort := by decide +kernel
theorem in_X2_endsInPort_X1 : ∀ w ∈ wsX10, w ∈ wsX2_endsInPort := by decide +kernel
theorem in_X2_endsInPort_X3 : ∀ w ∈ wsX30, w ∈ wsX2_endsInPort := by decide +kernel
def w_X2_endsInPort (dc : Nat × Nat) (h : XH) (l0 : Nat) (Po : Int32 → Prop) : Prop :=
  wQ h l0 3 3 (fun r1 => wOpt r1 (wI h l0 3 2 (fun v3 => wZ v3 (Po v3))) (fun q2 => wQ h l0 3 3 (fun r4 => wDer r4 (fun q5 => wR h q5 2 0 (fun a6 => wI h a6 4 2 (fun v7 => wIf (v7 = 0) (wZ 1 (Po 1)) (wZ 0 (Po 0))))))))
set_option maxRecDepth 100000 in
set_option maxHeartbeats 4000000 in
theorem k_X2_endsInPort (l : Launch) (dc : Nat × Nat) (h : XH) (l0 : Nat) (Po : Int32 → Prop) (hw : w_X2_endsInPort dc h l0 Po) : xM l dc yX2_endsInPort wsX2_endsInPort 0 0 0 0 [.ref l0] h (xRi h Po) := by
  refine xM_of [(0, .ref l0)] (own := RX2) (cc := cX2_endsInPort) (nL := 1) (ret := (some .boolean)) (by decide +kernel) rfl rfl (Nat.le_of_ble_eq_true rfl) rfl ?_
  intro X V hX S E
  subst hX
  refine xr_aload_n S 0 dX2_endsInPort_0 rfl ?_
  refine xw_getQ S 3 3 dX2_endsInPort_1 in_X2_endsInPort_X2 rfl (by decide) (Or.inl m_X2_endsInPort_1) (Or.inl rfl) hw (fun r1 hw => ?_)
  refine xw_ifnonnull S 14 dX2_endsInPort_4 (by decide) hw (fun q2 hr hwq2 => ?_) (fun hr hwq2 => ?_)
  · subst hr
    have hw := hwq2
    refine xr_aload_n S 0 dX2_endsInPort_14 rfl ?_
    refine xw_getQ S 3 3 dX2_endsInPort_15 in_X2_endsInPort_X2 rfl (by decide) (Or.inl m_X2_endsInPort_1) (Or.inl rfl) hw (fun r4 hw => ?_)
    obtain ⟨q5, hrq5, hwq5⟩ := hw
    subst hrq5
    have hw := hwq5
    refine xw_getR S 2 0 dX2_endsInPort_18 in_X2_endsInPort_X1 rfl (by decide) (Or.inr xn_X2_26) (Or.inl rfl) hw (fun a6 hw => ?_)
    refine xw_getI S 4 2 dX2_endsInPort_21 in_X2_endsInPort_X3 rfl (by decide) (Or.inr xn_X2_32) (Or.inl rfl) hw (fun v7 hw => ?_)
    refine xw_if_ne S 31 dX2_endsInPort_24 (by decide) hw (fun c hw => ?_) (fun c hw => ?_)
    · refine xr_iconst S (0) dX2_endsInPort_31 (by decide) ?_
      obtain ⟨hz, hw⟩ := hw
      exact E.2.1 _ _ _ _ _ _ rfl hz dX2_endsInPort_32 ⟨_, rfl, rfl, hw⟩ (Nat.le_of_ble_eq_true rfl) (Nat.le_of_ble_eq_true rfl)
    · refine xr_iconst S (1) dX2_endsInPort_27 (by decide) ?_
      refine xr_goto S (tgt := 32) dX2_endsInPort_28 (by decide) ?_
      obtain ⟨hz, hw⟩ := hw
      exact E.2.1 _ _ _ _ _ _ rfl hz dX2_endsInPort_32 ⟨_, rfl, rfl, hw⟩ (Nat.le_of_ble_eq_true rfl) (Nat.le_of_ble_eq_true rfl)
  · subst hr
    have hw := hwq2
    refine xr_aload_n S 0 dX2_endsInPort_7 rfl ?_
    refine xw_getI S 3 2 dX2_endsInPort_8 in_X2_endsInPort_X2 rfl (by decide) (Or.inl m_X2_endsInPort_2) (Or.inl rfl) hw (fun v3 hw => ?_)
    refine xr_goto S (tgt := 32) dX2_endsInPort_11 (by decide) ?_
    obtain ⟨hz, hw⟩ := hw
    exact E.2.1 _ _ _ _ _ _ rfl hz dX2_endsInPort_32 ⟨_, rfl, rfl, hw⟩ (Nat.le_of_ble_eq_true rfl) (Nat.le_of_ble_eq_true rfl)
theorem in_X2_latestEnd_X2 : ∀ w ∈ wsX20, w ∈ wsX2_latestEnd := by decide +kernel
theorem m_X2_latestEnd_1 : Cond.fieldLink RX2 9 "PilotBook$Pilot" "latest" "LPilotBook$Passage;" ∈ wsX2_latestEnd := by decide +kernel
def w_X2_latestEnd (dc : Nat × Nat) (h : XH) (l0 : Nat) (Po : Int32 → Prop) : Prop :=
  wQ h l0 3 3 (fun r1 => wOpt r1 (Po (-1)) (fun q2 => wQ h l0 3 3 (fun r3 => wDer r3 (fun q4 => wO h q4 2 ( w_X1_end dc h q4 (fun r7 => Po r7))))))
set_option maxRecDepth 100000 in
set_option maxHeartbeats 4000000 in
theorem k_X2_latestEnd (l : Launch) (dc : Nat × Nat) (h : XH) (l0 : Nat) (Po : Int32 → Prop) (hw : w_X2_latestEnd dc h l0 Po) : xM l dc yX2_latestEnd wsX2_latestEnd 1 20 0 0 [.ref l0] h (xRi h Po) := by
  refine xM_of [(0, .ref l0)] (own := RX2) (cc := cX2_latestEnd) (nL := 1) (ret := (some .int)) (by decide +kernel) rfl rfl (Nat.le_of_ble_eq_true rfl) rfl ?_
  intro X V hX S E
  subst hX
  refine xr_aload_n S 0 dX2_latestEnd_0 rfl ?_
  refine xw_getQ S 3 3 dX2_latestEnd_1 in_X2_latestEnd_X2 rfl (by decide) (Or.inl m_X2_latestEnd_1) (Or.inl rfl) hw (fun r1 hw => ?_)
  refine xw_ifnonnull S 11 dX2_latestEnd_4 (by decide) hw (fun q2 hr hwq2 => ?_) (fun hr hwq2 => ?_)
  · subst hr
    have hw := hwq2
    refine xr_aload_n S 0 dX2_latestEnd_11 rfl ?_
    refine xw_getQ S 3 3 dX2_latestEnd_12 in_X2_latestEnd_X2 rfl (by decide) (Or.inl m_X2_latestEnd_1) (Or.inl rfl) hw (fun r3 hw => ?_)
    obtain ⟨q4, hrq4, hwq4⟩ := hw
    subst hrq4
    have hw := hwq4
    obtain ⟨e5, hw⟩ := hw
    obtain ⟨f6, f6x⟩ := id e5
    refine xr_callV S 2 [] [] dX2_latestEnd_15 (k_X1_end l (xdc X) h q4 _ hw) gX2_latestEnd_X1_end rfl pd_X1_end ⟨Nat.le_of_ble_eq_true rfl, Nat.le_of_ble_eq_true rfl⟩ rfl (Nat.le_of_ble_eq_true rfl) ⟨Nat.le_of_ble_eq_true rfl, Nat.le_of_ble_eq_true rfl⟩ f6x rfl (fun v9 h9 hv => ?_)
    obtain ⟨r7, rfl, rfl, hw⟩ := hv
    exact E.1 _ _ _ _ _ _ rfl dX2_latestEnd_18 ⟨_, rfl, rfl, hw⟩ (Nat.le_of_ble_eq_true rfl) (Nat.le_of_ble_eq_true rfl)
  · subst hr
    have hw := hwq2
    refine xr_iconst S (-1) dX2_latestEnd_7 (by decide) ?_
    refine xr_goto S (tgt := 18) dX2_latestEnd_8 (by decide) ?_
    exact E.1 _ _ _ _ _ _ rfl dX2_latestEnd_18 ⟨_, rfl, rfl, hw⟩ (Nat.le_of_ble_eq_true rfl) (Nat.le_of_ble_eq_true rfl)
theorem in_X2_canTake_X2 : ∀ w ∈ wsX20, w ∈ wsX2_canTake := by decide +kernel
theorem m_X2_canTake_1 : Cond.fieldLink RX2 19 "PilotBook$Pilot" "limit" "I" ∈ wsX2_canTake := by decide +kernel
theorem in_X2_canTake_X3 : ∀ w ∈ wsX30, w ∈ wsX2_canTake := by decide +kernel
theorem in_X2_canTake_X4 : ∀ w ∈ wsX40, w ∈ wsX2_canTake := by decide +kernel
theorem m_X2_canTake_4 : Cond.fieldLink RX2 9 "PilotBook$Pilot" "latest" "LPilotBook$Passage;" ∈ wsX2_canTake := by decide +kernel
def w_X2_canTake_33 (dc : Nat × Nat) (h : XH) (l0 : Nat) (l2 : Int32) (t0 : Int32) (Po : Int32 → Prop) : Prop :=
  wQ h l0 3 3 (fun r9 => wOpt r9 (wIf (l2 < t0) (wZ 0 (Po 0)) (wZ 1 (Po 1))) (fun q10 => wQ h l0 3 3 (fun r11 => wDer r11 (fun q12 => wO h q12 2 ( w_X1_end dc h q12 (fun r15 => wIf (l2 < ((r15 + 30) + t0)) (wZ 0 (Po 0)) (wZ 1 (Po 1))))))))
set_option maxRecDepth 100000 in
set_option maxHeartbeats 4000000 in
theorem k_X2_canTake_33 {V : XVT} {X : XC} {l : Launch} (S : xS V X l RX2 yX2_canTake.name cX2_canTake 4 wsX2_canTake (xRm 1 20 0 0)) (h : XH) (l0 : Nat) (l2 : Int32) (t0 : Int32) (Po : Int32 → Prop) (E : xEnd V cX2_canTake (some .boolean) 0 0 (xRi h Po)) (hO : ∃ fs, h l0 = some (.inr (3, fs))) (hw : w_X2_canTake_33 (xdc X) h l0 l2 t0 Po) : V 0 0 h 33 [(0, .ref l0), (2, .int l2)] [.int t0] := by
  refine xr_istore_n S [(3, .int t0), (0, .ref l0), (2, .int l2)] dX2_canTake_33 (by decide) rfl ?_
  refine xr_aload_n S 1 dX2_canTake_34 rfl ?_
  refine xw_getQ S 3 3 dX2_canTake_35 in_X2_canTake_X2 rfl (by decide) (Or.inl m_X2_canTake_4) (Or.inl rfl) hw (fun r9 hw => ?_)
  refine xw_ifnonnull S 54 dX2_canTake_38 (by decide) hw (fun q10 hr hwq10 => ?_) (fun hr hwq10 => ?_)
  · subst hr
    have hw := hwq10
    refine xr_iload_n S 2 dX2_canTake_54 rfl ?_
    refine xr_aload_n S 1 dX2_canTake_55 rfl ?_
    refine xw_getQ S 3 3 dX2_canTake_56 in_X2_canTake_X2 rfl (by decide) (Or.inl m_X2_canTake_4) (Or.inl rfl) hw (fun r11 hw => ?_)
    obtain ⟨q12, hrq12, hwq12⟩ := hw
    subst hrq12
    have hw := hwq12
    obtain ⟨e13, hw⟩ := hw
    obtain ⟨f14, f14x⟩ := id e13
    refine xr_callV S 2 [] [.int l2] dX2_canTake_59 (k_X1_end l (xdc X) h q12 _ hw) gX2_canTake_X1_end rfl pd_X1_end ⟨Nat.le_of_ble_eq_true rfl, Nat.le_of_ble_eq_true rfl⟩ rfl (Nat.le_of_ble_eq_true rfl) ⟨Nat.le_of_ble_eq_true rfl, Nat.le_of_ble_eq_true rfl⟩ f14x rfl (fun v9 h17 hv => ?_)
    obtain ⟨r15, rfl, rfl, hw⟩ := hv
    refine xr_bipush S (30) dX2_canTake_62 (by decide) ?_
    refine xr_iadd S dX2_canTake_64 ?_
    refine xr_iload_n S 0 dX2_canTake_65 rfl ?_
    refine xr_iadd S dX2_canTake_66 ?_
    refine xw_icmp_lt S 74 dX2_canTake_67 (by decide) hw (fun c hw => ?_) (fun c hw => ?_)
    · refine xr_iconst S (0) dX2_canTake_74 (by decide) ?_
      obtain ⟨hz, hw⟩ := hw
      exact E.2.1 _ _ _ _ _ _ rfl hz dX2_canTake_75 ⟨_, rfl, rfl, hw⟩ (Nat.le_of_ble_eq_true rfl) (Nat.le_of_ble_eq_true rfl)
    · refine xr_iconst S (1) dX2_canTake_70 (by decide) ?_
      refine xr_goto S (tgt := 75) dX2_canTake_71 (by decide) ?_
      obtain ⟨hz, hw⟩ := hw
      exact E.2.1 _ _ _ _ _ _ rfl hz dX2_canTake_75 ⟨_, rfl, rfl, hw⟩ (Nat.le_of_ble_eq_true rfl) (Nat.le_of_ble_eq_true rfl)
  · subst hr
    have hw := hwq10
    refine xr_iload_n S 2 dX2_canTake_41 rfl ?_
    refine xr_iload_n S 0 dX2_canTake_42 rfl ?_
    refine xw_icmp_lt S 50 dX2_canTake_43 (by decide) hw (fun c hw => ?_) (fun c hw => ?_)
    · refine xr_iconst S (0) dX2_canTake_50 (by decide) ?_
      refine xr_goto S (tgt := 75) dX2_canTake_51 (by decide) ?_
      obtain ⟨hz, hw⟩ := hw
      exact E.2.1 _ _ _ _ _ _ rfl hz dX2_canTake_75 ⟨_, rfl, rfl, hw⟩ (Nat.le_of_ble_eq_true rfl) (Nat.le_of_ble_eq_true rfl)
    · refine xr_iconst S (1) dX2_canTake_46 (by decide) ?_
      refine xr_goto S (tgt := 75) dX2_canTake_47 (by decide) ?_
      obtain ⟨hz, hw⟩ := hw
      exact E.2.1 _ _ _ _ _ _ rfl hz dX2_canTake_75 ⟨_, rfl, rfl, hw⟩ (Nat.le_of_ble_eq_true rfl) (Nat.le_of_ble_eq_true rfl)
def w_X2_canTake (dc : Nat × Nat) (h : XH) (l0 : Nat) (l1 : Nat) (l2 : Int32) (Po : Int32 → Prop) : Prop :=
  wO h l0 3 (wI h l0 3 1 (fun v1 => wR h l1 4 0 (fun a2 => wI h a2 5 1 (fun v3 => wIf (v3 ≤ v1) (w_X2_endsInPort dc h l0 (fun r5 => wI h l1 4 2 (fun v8 => wIf (r5 = v8) (w_X2_canTake_33 dc h l0 l2 0 Po) (w_X2_canTake_33 dc h l0 l2 60 Po)))) (wZ 0 (Po 0))))))
set_option maxRecDepth 100000 in
set_option maxHeartbeats 4000000 in
theorem k_X2_canTake (l : Launch) (dc : Nat × Nat) (h : XH) (l0 : Nat) (l1 : Nat) (l2 : Int32) (Po : Int32 → Prop) (hw : w_X2_canTake dc h l0 l1 l2 Po) : xM l dc yX2_canTake wsX2_canTake 1 20 0 0 [.ref l0, .ref l1, .int l2] h (xRi h Po) := by
  refine xM_of [(0, .ref l0), (1, .ref l1), (2, .int l2)] (own := RX2) (cc := cX2_canTake) (nL := 4) (ret := (some .boolean)) (by decide +kernel) rfl rfl (Nat.le_of_ble_eq_true rfl) rfl ?_
  intro X V hX S E
  subst hX
  obtain ⟨hO, hw⟩ := hw
  refine xr_aload_n S 0 dX2_canTake_0 rfl ?_
  refine xw_getI S 3 1 dX2_canTake_1 in_X2_canTake_X2 rfl (by decide) (Or.inl m_X2_canTake_1) (Or.inl rfl) hw (fun v1 hw => ?_)
  refine xr_aload_n S 1 dX2_canTake_4 rfl ?_
  refine xw_getR S 4 0 dX2_canTake_5 in_X2_canTake_X3 rfl (by decide) (Or.inr xn_X2_41) (Or.inl rfl) hw (fun a2 hw => ?_)
  refine xw_getI S 5 1 dX2_canTake_8 in_X2_canTake_X4 rfl (by decide) (Or.inr xn_X2_45) (Or.inl rfl) hw (fun v3 hw => ?_)
  refine xw_icmp_ge S 16 dX2_canTake_11 (by decide) hw (fun c hw => ?_) (fun c hw => ?_)
  · refine xr_aload_n S 0 dX2_canTake_16 rfl ?_
    obtain ⟨f4, f4x⟩ := id hO
    refine xr_callV S 3 [] [] dX2_canTake_17 (k_X2_endsInPort l (xdc X) h l0 _ hw) gX2_canTake_X2_endsInPort rfl pd_X2_endsInPort ⟨Nat.le_of_ble_eq_true rfl, Nat.le_of_ble_eq_true rfl⟩ rfl (Nat.le_of_ble_eq_true rfl) ⟨Nat.le_of_ble_eq_true rfl, Nat.le_of_ble_eq_true rfl⟩ f4x rfl (fun v9 h7 hv => ?_)
    obtain ⟨r5, rfl, rfl, hw⟩ := hv
    refine xr_aload_n S 1 dX2_canTake_20 rfl ?_
    refine xw_getI S 4 2 dX2_canTake_21 in_X2_canTake_X3 rfl (by decide) (Or.inr xn_X2_32) (Or.inl rfl) hw (fun v8 hw => ?_)
    refine xw_icmp_ne S 31 dX2_canTake_24 (by decide) hw (fun c hw => ?_) (fun c hw => ?_)
    · refine xr_bipush S (60) dX2_canTake_31 (by decide) ?_
      refine xr_sub S [(0, .ref l0), (2, .int l2)] [0, 2] rfl ?_
      exact k_X2_canTake_33 S h l0 l2 60 Po E hO hw
    · refine xr_iconst S (0) dX2_canTake_27 (by decide) ?_
      refine xr_goto S (tgt := 33) dX2_canTake_28 (by decide) ?_
      refine xr_sub S [(0, .ref l0), (2, .int l2)] [0, 2] rfl ?_
      exact k_X2_canTake_33 S h l0 l2 0 Po E hO hw
  · refine xr_iconst S (0) dX2_canTake_14 (by decide) ?_
    obtain ⟨hz, hw⟩ := hw
    exact E.2.1 _ _ _ _ _ _ rfl hz dX2_canTake_15 ⟨_, rfl, rfl, hw⟩ (Nat.le_of_ble_eq_true rfl) (Nat.le_of_ble_eq_true rfl)
def w_X3_tugsForLength (dc : Nat × Nat) (h : XH) (l0 : Int32) (Po : Int32 → Prop) : Prop :=
  wIf (100 ≤ l0) (wIf (160 ≤ l0) (wIf (220 ≤ l0) (Po 3) (Po 2)) (Po 1)) (Po 0)
set_option maxRecDepth 100000 in
set_option maxHeartbeats 4000000 in
theorem k_X3_tugsForLength (l : Launch) (dc : Nat × Nat) (h : XH) (l0 : Int32) (Po : Int32 → Prop) (hw : w_X3_tugsForLength dc h l0 Po) : xM l dc yX3_tugsForLength wsX3_tugsForLength 0 0 0 0 [.int l0] h (xRi h Po) := by
  refine xM_of [(0, .int l0)] (own := RX3) (cc := cX3_tugsForLength) (nL := 1) (ret := (some .int)) (by decide +kernel) rfl rfl (Nat.le_of_ble_eq_true rfl) rfl ?_
  intro X V hX S E
  subst hX
  refine xr_iload_n S 0 dX3_tugsForLength_0 rfl ?_
  refine xr_bipush S (100) dX3_tugsForLength_1 (by decide) ?_
  refine xw_icmp_ge S 8 dX3_tugsForLength_3 (by decide) hw (fun c hw => ?_) (fun c hw => ?_)
  · refine xr_iload_n S 0 dX3_tugsForLength_8 rfl ?_
    refine xr_sipush S (160) dX3_tugsForLength_9 (by decide) ?_
    refine xw_icmp_ge S 17 dX3_tugsForLength_12 (by decide) hw (fun c hw => ?_) (fun c hw => ?_)
    · refine xr_iload_n S 0 dX3_tugsForLength_17 rfl ?_
      refine xr_sipush S (220) dX3_tugsForLength_18 (by decide) ?_
      refine xw_icmp_ge S 28 dX3_tugsForLength_21 (by decide) hw (fun c hw => ?_) (fun c hw => ?_)
      · refine xr_iconst S (3) dX3_tugsForLength_28 (by decide) ?_
        exact E.1 _ _ _ _ _ _ rfl dX3_tugsForLength_29 ⟨_, rfl, rfl, hw⟩ (Nat.le_of_ble_eq_true rfl) (Nat.le_of_ble_eq_true rfl)
      · refine xr_iconst S (2) dX3_tugsForLength_24 (by decide) ?_
        refine xr_goto S (tgt := 29) dX3_tugsForLength_25 (by decide) ?_
        exact E.1 _ _ _ _ _ _ rfl dX3_tugsForLength_29 ⟨_, rfl, rfl, hw⟩ (Nat.le_of_ble_eq_true rfl) (Nat.le_of_ble_eq_true rfl)
    · refine xr_iconst S (1) dX3_tugsForLength_15 (by decide) ?_
      exact E.1 _ _ _ _ _ _ rfl dX3_tugsForLength_16 ⟨_, rfl, rfl, hw⟩ (Nat.le_of_ble_eq_true rfl) (Nat.le_of_ble_eq_true rfl)
  · refine xr_iconst S (0) dX3_tugsForLength_6 (by decide) ?_
    exact E.1 _ _ _ _ _ _ rfl dX3_tugsForLength_7 ⟨_, rfl, rfl, hw⟩ (Nat.le_of_ble_eq_true rfl) (Nat.le_of_ble_eq_true rfl)
theorem m_X3_init_0 : Cond.methodLink RX3 3 objectInit ∈ wsX3_init := by decide +kernel
theorem m_X3_init_1 : Cond.instanceMethod objectInit ∈ wsX3_init := by decide +kernel
theorem m_X3_init_2 : Cond.code objectInit ⟨#[0xb1]⟩ 1 none ∈ wsX3_init := by decide +kernel
theorem in_X3_init_X3 : ∀ w ∈ wsX30, w ∈ wsX3_init := by decide +kernel
theorem m_X3_init_4 : Cond.fieldLink RX3 9 "PilotBook$Route" "ship" "LPilotBook$Ship;" ∈ wsX3_init := by decide +kernel
theorem m_X3_init_5 : Cond.fieldLink RX3 15 "PilotBook$Route" "berth" "LPilotBook$Berth;" ∈ wsX3_init := by decide +kernel
theorem m_X3_init_6 : Cond.fieldLink RX3 19 "PilotBook$Route" "isOutbound" "Z" ∈ wsX3_init := by decide +kernel
theorem in_X3_init_X4 : ∀ w ∈ wsX40, w ∈ wsX3_init := by decide +kernel
theorem m_X3_init_8 : Cond.fieldLink RX3 33 "PilotBook$Route" "tugs" "I" ∈ wsX3_init := by decide +kernel
def w_X3_init (dc : Nat × Nat) (h : XH) (l0 : Nat) (l1 : Nat) (l2 : Nat) (l3 : Int32) (Po : XH → Prop) : Prop :=
  wP h l0 4 0 (.ref l1) (fun h1 => wP h1 l0 4 1 (.ref l2) (fun h2 => wPz h2 l0 4 2 l3 (fun h3 => wI h3 l1 5 1 (fun v5 => w_X3_tugsForLength dc h3 v5 (fun r6 => wP h3 l0 4 3 (.int r6) (fun h9 => Po h9))))))
set_option maxRecDepth 100000 in
set_option maxHeartbeats 4000000 in
theorem k_X3_init (l : Launch) (dc : Nat × Nat) (h : XH) (l0 : Nat) (l1 : Nat) (l2 : Nat) (l3 : Int32) (Po : XH → Prop) (hw : w_X3_init dc h l0 l1 l2 l3 Po) : xM l dc yX3_init wsX3_init 1 20 0 0 [.ref l0, .ref l1, .ref l2, .int l3] h (xPv Po) := by
  refine xM_of [(0, .ref l0), (1, .ref l1), (2, .ref l2), (3, .int l3)] (own := RX3) (cc := cX3_init) (nL := 4) (ret := none) (by decide +kernel) rfl rfl (Nat.le_of_ble_eq_true rfl) rfl ?_
  intro X V hX S E
  subst hX
  refine xr_aload_n S 0 dX3_init_0 rfl ?_
  refine xr_objInit S dX3_init_1 m_X3_init_0 m_X3_init_1 m_X3_init_2 (Nat.le_of_ble_eq_true rfl) (Nat.le_of_ble_eq_true rfl) ?_
  refine xr_aload_n S 0 dX3_init_4 rfl ?_
  refine xr_aload_n S 1 dX3_init_5 rfl ?_
  refine xw_putF S 4 0 tyX3 dX3_init_6 in_X3_init_X3 rfl (by decide) m_X3_init_4 (Or.inl rfl) tyX3_ok nmX3 rfl rfl rfl rfl (xfit_q _ (some l1)) hw (fun h1 hw => ?_)
  refine xr_aload_n S 0 dX3_init_9 rfl ?_
  refine xr_aload_n S 2 dX3_init_10 rfl ?_
  refine xw_putF S 4 1 tyX3 dX3_init_11 in_X3_init_X3 rfl (by decide) m_X3_init_5 (Or.inl rfl) tyX3_ok nmX3 rfl rfl rfl rfl (xfit_q _ (some l2)) hw (fun h2 hw => ?_)
  refine xr_aload_n S 0 dX3_init_14 rfl ?_
  refine xr_iload_n S 3 dX3_init_15 rfl ?_
  obtain ⟨hz4, hw⟩ := hw
  refine xw_putF S 4 2 tyX3 dX3_init_16 in_X3_init_X3 rfl (by decide) m_X3_init_6 (Or.inl rfl) tyX3_ok nmX3 rfl rfl rfl rfl hz4 hw (fun h3 hw => ?_)
  refine xr_aload_n S 0 dX3_init_19 rfl ?_
  refine xr_aload_n S 1 dX3_init_20 rfl ?_
  refine xw_getI S 5 1 dX3_init_21 in_X3_init_X4 rfl (by decide) (Or.inr xn_X3_23) (Or.inl rfl) hw (fun v5 hw => ?_)
  refine xr_callS S [.int v5] [.ref l0] dX3_init_24 (k_X3_tugsForLength l (xdc X) h3 v5 _ hw) gX3_init_X3_tugsForLength rfl pd_X3_tugsForLength ⟨Nat.le_of_ble_eq_true rfl, Nat.le_of_ble_eq_true rfl⟩ rfl (Nat.le_of_ble_eq_true rfl) ⟨Nat.le_of_ble_eq_true rfl, Nat.le_of_ble_eq_true rfl⟩ (fun v9 h8 hv => ?_)
  obtain ⟨r6, rfl, rfl, hw⟩ := hv
  refine xw_putF S 4 3 tyX3 dX3_init_27 in_X3_init_X3 rfl (by decide) m_X3_init_8 (Or.inl rfl) tyX3_ok nmX3 rfl rfl rfl rfl ⟨rfl, rfl⟩ hw (fun h9 hw => ?_)
  exact E.2.2.1 _ _ _ _ _ rfl dX3_init_30 ⟨rfl, hw⟩ (Nat.le_of_ble_eq_true rfl) (Nat.le_of_ble_eq_true rfl)
theorem in_X3_barMinute_X3 : ∀ w ∈ wsX30, w ∈ wsX3_barMinute := by decide +kernel
theorem m_X3_barMinute_1 : Cond.fieldLink RX3 19 "PilotBook$Route" "isOutbound" "Z" ∈ wsX3_barMinute := by decide +kernel
def w_X3_barMinute (dc : Nat × Nat) (h : XH) (l0 : Nat) (l1 : Int32) (Po : Int32 → Prop) : Prop :=
  wI h l0 4 2 (fun v1 => wIf (v1 = 0) (Po l1) (Po (l1 + 60)))
set_option maxRecDepth 100000 in
set_option maxHeartbeats 4000000 in
theorem k_X3_barMinute (l : Launch) (dc : Nat × Nat) (h : XH) (l0 : Nat) (l1 : Int32) (Po : Int32 → Prop) (hw : w_X3_barMinute dc h l0 l1 Po) : xM l dc yX3_barMinute wsX3_barMinute 0 0 0 0 [.ref l0, .int l1] h (xRi h Po) := by
  refine xM_of [(0, .ref l0), (1, .int l1)] (own := RX3) (cc := cX3_barMinute) (nL := 2) (ret := (some .int)) (by decide +kernel) rfl rfl (Nat.le_of_ble_eq_true rfl) rfl ?_
  intro X V hX S E
  subst hX
  refine xr_aload_n S 0 dX3_barMinute_0 rfl ?_
  refine xw_getI S 4 2 dX3_barMinute_1 in_X3_barMinute_X3 rfl (by decide) (Or.inl m_X3_barMinute_1) (Or.inl rfl) hw (fun v1 hw => ?_)
  refine xw_if_eq S 14 dX3_barMinute_4 (by decide) hw (fun c hw => ?_) (fun c hw => ?_)
  · refine xr_iload_n S 1 dX3_barMinute_14 rfl ?_
    exact E.1 _ _ _ _ _ _ rfl dX3_barMinute_15 ⟨_, rfl, rfl, hw⟩ (Nat.le_of_ble_eq_true rfl) (Nat.le_of_ble_eq_true rfl)
  · refine xr_iload_n S 1 dX3_barMinute_7 rfl ?_
    refine xr_bipush S (60) dX3_barMinute_8 (by decide) ?_
    refine xr_iadd S dX3_barMinute_10 ?_
    refine xr_goto S (tgt := 15) dX3_barMinute_11 (by decide) ?_
    exact E.1 _ _ _ _ _ _ rfl dX3_barMinute_15 ⟨_, rfl, rfl, hw⟩ (Nat.le_of_ble_eq_true rfl) (Nat.le_of_ble_eq_true rfl)
theorem in_X3_berthMinute_X3 : ∀ w ∈ wsX30, w ∈ wsX3_berthMinute := by decide +kernel
theorem m_X3_berthMinute_1 : Cond.fieldLink RX3 19 "PilotBook$Route" "isOutbound" "Z" ∈ wsX3_berthMinute := by decide +kernel
def w_X3_berthMinute (dc : Nat × Nat) (h : XH) (l0 : Nat) (l1 : Int32) (Po : Int32 → Prop) : Prop :=
  wI h l0 4 2 (fun v1 => wIf (v1 = 0) (Po (l1 + 60)) (Po l1))
set_option maxRecDepth 100000 in
set_option maxHeartbeats 4000000 in
theorem k_X3_berthMinute (l : Launch) (dc : Nat × Nat) (h : XH) (l0 : Nat) (l1 : Int32) (Po : Int32 → Prop) (hw : w_X3_berthMinute dc h l0 l1 Po) : xM l dc yX3_berthMinute wsX3_berthMinute 0 0 0 0 [.ref l0, .int l1] h (xRi h Po) := by
  refine xM_of [(0, .ref l0), (1, .int l1)] (own := RX3) (cc := cX3_berthMinute) (nL := 2) (ret := (some .int)) (by decide +kernel) rfl rfl (Nat.le_of_ble_eq_true rfl) rfl ?_
  intro X V hX S E
  subst hX
  refine xr_aload_n S 0 dX3_berthMinute_0 rfl ?_
  refine xw_getI S 4 2 dX3_berthMinute_1 in_X3_berthMinute_X3 rfl (by decide) (Or.inl m_X3_berthMinute_1) (Or.inl rfl) hw (fun v1 hw => ?_)
  refine xw_if_eq S 11 dX3_berthMinute_4 (by decide) hw (fun c hw => ?_) (fun c hw => ?_)
  · refine xr_iload_n S 1 dX3_berthMinute_11 rfl ?_
    refine xr_bipush S (60) dX3_berthMinute_12 (by decide) ?_
    refine xr_iadd S dX3_berthMinute_14 ?_
    exact E.1 _ _ _ _ _ _ rfl dX3_berthMinute_15 ⟨_, rfl, rfl, hw⟩ (Nat.le_of_ble_eq_true rfl) (Nat.le_of_ble_eq_true rfl)
  · refine xr_iload_n S 1 dX3_berthMinute_7 rfl ?_
    refine xr_goto S (tgt := 15) dX3_berthMinute_8 (by decide) ?_
    exact E.1 _ _ _ _ _ _ rfl dX3_berthMinute_15 ⟨_, rfl, rfl, hw⟩ (Nat.le_of_ble_eq_true rfl) (Nat.le_of_ble_eq_true rfl)
theorem m_X4_init_0 : Cond.methodLink RX4 1 objectInit ∈ wsX4_init := by decide +kernel
theorem m_X4_init_1 : Cond.instanceMethod objectInit ∈ wsX4_init := by decide +kernel
theorem m_X4_init_2 : Cond.code objectInit ⟨#[0xb1]⟩ 1 none ∈ wsX4_init := by decide +kernel
theorem in_X4_init_X4 : ∀ w ∈ wsX40, w ∈ wsX4_init := by decide +kernel
theorem m_X4_init_4 : Cond.fieldLink RX4 7 "PilotBook$Ship" "latest" "LPilotBook$Passage;" ∈ wsX4_init := by decide +kernel
theorem m_X4_init_5 : Cond.fieldLink RX4 13 "PilotBook$Ship" "number" "I" ∈ wsX4_init := by decide +kernel
theorem m_X4_init_6 : Cond.fieldLink RX4 17 "PilotBook$Ship" "length" "I" ∈ wsX4_init := by decide +kernel
theorem m_X4_init_7 : Cond.fieldLink RX4 20 "PilotBook$Ship" "draft" "I" ∈ wsX4_init := by decide +kernel
def w_X4_init (dc : Nat × Nat) (h : XH) (l0 : Nat) (l1 : Int32) (l2 : Int32) (l3 : Int32) (Po : XH → Prop) : Prop :=
  wP h l0 5 3 (va_rf none) (fun h1 => wP h1 l0 5 0 (.int l1) (fun h2 => wP h2 l0 5 1 (.int l2) (fun h3 => wP h3 l0 5 2 (.int l3) (fun h4 => Po h4))))
set_option maxRecDepth 100000 in
set_option maxHeartbeats 4000000 in
theorem k_X4_init (l : Launch) (dc : Nat × Nat) (h : XH) (l0 : Nat) (l1 : Int32) (l2 : Int32) (l3 : Int32) (Po : XH → Prop) (hw : w_X4_init dc h l0 l1 l2 l3 Po) : xM l dc yX4_init wsX4_init 1 20 0 0 [.ref l0, .int l1, .int l2, .int l3] h (xPv Po) := by
  refine xM_of [(0, .ref l0), (1, .int l1), (2, .int l2), (3, .int l3)] (own := RX4) (cc := cX4_init) (nL := 4) (ret := none) (by decide +kernel) rfl rfl (Nat.le_of_ble_eq_true rfl) rfl ?_
  intro X V hX S E
  subst hX
  refine xr_aload_n S 0 dX4_init_0 rfl ?_
  refine xr_objInit S dX4_init_1 m_X4_init_0 m_X4_init_1 m_X4_init_2 (Nat.le_of_ble_eq_true rfl) (Nat.le_of_ble_eq_true rfl) ?_
  refine xr_aload_n S 0 dX4_init_4 rfl ?_
  refine xr_null S dX4_init_5 ?_
  refine xw_put S 5 3 tyX4 dX4_init_6 in_X4_init_X4 rfl (by decide) (Or.inl m_X4_init_4) (Or.inl rfl) tyX4_ok nmX4 rfl rfl (xfit_q _ none) hw (fun h1 hw => ?_)
  refine xr_aload_n S 0 dX4_init_9 rfl ?_
  refine xr_iload_n S 1 dX4_init_10 rfl ?_
  refine xw_putF S 5 0 tyX4 dX4_init_11 in_X4_init_X4 rfl (by decide) m_X4_init_5 (Or.inl rfl) tyX4_ok nmX4 rfl rfl rfl rfl ⟨rfl, rfl⟩ hw (fun h2 hw => ?_)
  refine xr_aload_n S 0 dX4_init_14 rfl ?_
  refine xr_iload_n S 2 dX4_init_15 rfl ?_
  refine xw_putF S 5 1 tyX4 dX4_init_16 in_X4_init_X4 rfl (by decide) m_X4_init_6 (Or.inl rfl) tyX4_ok nmX4 rfl rfl rfl rfl ⟨rfl, rfl⟩ hw (fun h3 hw => ?_)
  refine xr_aload_n S 0 dX4_init_19 rfl ?_
  refine xr_iload_n S 3 dX4_init_20 rfl ?_
  refine xw_put S 5 2 tyX4 dX4_init_21 in_X4_init_X4 rfl (by decide) (Or.inl m_X4_init_7) (Or.inl rfl) tyX4_ok nmX4 rfl rfl ⟨rfl, rfl⟩ hw (fun h4 hw => ?_)
  exact E.2.2.1 _ _ _ _ _ rfl dX4_init_24 ⟨rfl, hw⟩ (Nat.le_of_ble_eq_true rfl) (Nat.le_of_ble_eq_true rfl)
theorem m_X5_init_0 : Cond.methodLink RX5 3 objectInit ∈ wsX5_init := by decide +kernel
theorem m_X5_init_1 : Cond.instanceMethod objectInit ∈ wsX5_init := by decide +kernel
theorem m_X5_init_2 : Cond.code objectInit ⟨#[0xb1]⟩ 1 none ∈ wsX5_init := by decide +kernel
theorem m_X5_init_3 : Cond.arrayClass .int ∈ wsX5_init := by decide +kernel
theorem in_X5_init_X5 : ∀ w ∈ wsX50, w ∈ wsX5_init := by decide +kernel
theorem m_X5_init_5 : Cond.fieldLink RX5 9 "PilotBook$Tide" "times" "[I" ∈ wsX5_init := by decide +kernel
theorem m_X5_init_6 : Cond.fieldLink RX5 15 "PilotBook$Tide" "heights" "[I" ∈ wsX5_init := by decide +kernel
theorem m_X5_init_7 : Cond.fieldLink RX5 18 "PilotBook$Tide" "size" "I" ∈ wsX5_init := by decide +kernel
def w_X5_init (dc : Nat × Nat) (h : XH) (l0 : Nat) (Po : XH → Prop) : Prop :=
  wNewI h 0 30 (fun q1 h2 => wP h2 l0 6 0 (.ref q1) (fun h3 => wNewI h3 0 30 (fun q4 h5 => wP h5 l0 6 1 (.ref q4) (fun h6 => wP h6 l0 6 2 (.int 0) (fun h7 => Po h7)))))
set_option maxRecDepth 100000 in
set_option maxHeartbeats 4000000 in
theorem k_X5_init (l : Launch) (dc : Nat × Nat) (h : XH) (l0 : Nat) (Po : XH → Prop) (hw : w_X5_init dc h l0 Po) : xM l dc yX5_init wsX5_init 1 20 2 60 [.ref l0] h (xPv Po) := by
  refine xM_of [(0, .ref l0)] (own := RX5) (cc := cX5_init) (nL := 1) (ret := none) (by decide +kernel) rfl rfl (Nat.le_of_ble_eq_true rfl) rfl ?_
  intro X V hX S E
  subst hX
  refine xr_aload_n S 0 dX5_init_0 rfl ?_
  refine xr_objInit S dX5_init_1 m_X5_init_0 m_X5_init_1 m_X5_init_2 (Nat.le_of_ble_eq_true rfl) (Nat.le_of_ble_eq_true rfl) ?_
  refine xr_aload_n S 0 dX5_init_4 rfl ?_
  refine xr_bipush S (30) dX5_init_5 (by decide) ?_
  refine xr_newi S 0 dX5_init_7 (Or.inl rfl) m_X5_init_3 (by decide) (N := 30) (by decide) (by decide) (Nat.le_of_ble_eq_true rfl) (Nat.le_of_ble_eq_true rfl) (fun q1 hq => ?_)
  have hw := hw q1 hq
  generalize xup h q1 (.inl (0, 30, .inl (fun _ => 0))) = h2 at hw ⊢
  refine xw_putF S 6 0 tyX5 dX5_init_9 in_X5_init_X5 rfl (by decide) m_X5_init_5 (Or.inl rfl) tyX5_ok nmX5 rfl rfl rfl rfl (xfit_a _ (some q1)) hw (fun h3 hw => ?_)
  refine xr_aload_n S 0 dX5_init_12 rfl ?_
  refine xr_bipush S (30) dX5_init_13 (by decide) ?_
  refine xr_newi S 0 dX5_init_15 (Or.inl rfl) m_X5_init_3 (by decide) (N := 30) (by decide) (by decide) (Nat.le_of_ble_eq_true rfl) (Nat.le_of_ble_eq_true rfl) (fun q4 hq => ?_)
  have hw := hw q4 hq
  generalize xup h3 q4 (.inl (0, 30, .inl (fun _ => 0))) = h5 at hw ⊢
  refine xw_putF S 6 1 tyX5 dX5_init_17 in_X5_init_X5 rfl (by decide) m_X5_init_6 (Or.inl rfl) tyX5_ok nmX5 rfl rfl rfl rfl (xfit_a _ (some q4)) hw (fun h6 hw => ?_)
  refine xr_aload_n S 0 dX5_init_20 rfl ?_
  refine xr_iconst S (0) dX5_init_21 (by decide) ?_
  refine xw_put S 6 2 tyX5 dX5_init_22 in_X5_init_X5 rfl (by decide) (Or.inl m_X5_init_7) (Or.inl rfl) tyX5_ok nmX5 rfl rfl ⟨rfl, rfl⟩ hw (fun h7 hw => ?_)
  exact E.2.2.1 _ _ _ _ _ rfl dX5_init_25 ⟨rfl, hw⟩ (Nat.le_of_ble_eq_true rfl) (Nat.le_of_ble_eq_true rfl)
theorem in_X5_pointsUpTo_X5 : ∀ w ∈ wsX50, w ∈ wsX5_pointsUpTo := by decide +kernel
theorem m_X5_pointsUpTo_1 : Cond.fieldLink RX5 18 "PilotBook$Tide" "size" "I" ∈ wsX5_pointsUpTo := by decide +kernel
theorem m_X5_pointsUpTo_2 : Cond.fieldLink RX5 9 "PilotBook$Tide" "times" "[I" ∈ wsX5_pointsUpTo := by decide +kernel
def w_X5_pointsUpTo_2_F (dc : Nat × Nat) (h : XH) (l0 : Nat) (l1 : Int32) (Po : Int32 → Prop) (rec2 : Int32 → Prop) : Int32 → Prop := fun l2 =>
  wI h l0 6 2 (fun v1 => wIf (v1 ≤ l2) (Po l2) (wR h l0 6 0 (fun a2 => wAI h 0 a2 l2 (fun v3 => wIf (l1 < v3) (Po l2) (rec2 (l2 + 1))))))
def w_X5_pointsUpTo_2 (dc : Nat × Nat) (h : XH) (l0 : Nat) (l1 : Int32) (Po : Int32 → Prop) : Int32 → Prop := xloop (w_X5_pointsUpTo_2_F dc h l0 l1 Po)
set_option maxRecDepth 100000 in
set_option maxHeartbeats 4000000 in
theorem k_X5_pointsUpTo_2 {V : XVT} {X : XC} {l : Launch} (S : xS V X l RX5 yX5_pointsUpTo.name cX5_pointsUpTo 3 wsX5_pointsUpTo (xRm 0 0 0 0)) (h : XH) (l0 : Nat) (l1 : Int32) (Po : Int32 → Prop) (E : xEnd V cX5_pointsUpTo (some .int) 0 0 (xRi h Po)) (s0 : Int32) (hw : w_X5_pointsUpTo_2 (xdc X) h l0 l1 Po s0) : V 0 0 h 2 [(0, .ref l0), (1, .int l1), (2, .int s0)] [] := by
  refine xloop_use (P := fun s : Int32 => V 0 0 h 2 [(0, .ref l0), (1, .int l1), (2, .int s)] []) (fun rec2 hr2 s hw => ?_) hw
  obtain ⟨l2, rfl⟩ : ∃ z, z = s := ⟨s, rfl⟩
  refine xr_iload_n S 2 dX5_pointsUpTo_2 rfl ?_
  refine xr_aload_n S 0 dX5_pointsUpTo_3 rfl ?_
  refine xw_getI S 6 2 dX5_pointsUpTo_4 in_X5_pointsUpTo_X5 rfl (by decide) (Or.inl m_X5_pointsUpTo_1) (Or.inl rfl) hw (fun v1 hw => ?_)
  refine xw_icmp_ge S 26 dX5_pointsUpTo_7 (by decide) hw (fun c hw => ?_) (fun c hw => ?_)
  · refine xr_iload_n S 2 dX5_pointsUpTo_26 rfl ?_
    exact E.1 _ _ _ _ _ _ rfl dX5_pointsUpTo_27 ⟨_, rfl, rfl, hw⟩ (Nat.le_of_ble_eq_true rfl) (Nat.le_of_ble_eq_true rfl)
  · refine xr_aload_n S 0 dX5_pointsUpTo_10 rfl ?_
    refine xw_getR S 6 0 dX5_pointsUpTo_11 in_X5_pointsUpTo_X5 rfl (by decide) (Or.inl m_X5_pointsUpTo_2) (Or.inl rfl) hw (fun a2 hw => ?_)
    refine xr_iload_n S 2 dX5_pointsUpTo_14 rfl ?_
    refine xw_iald S 0 dX5_pointsUpTo_15 (Or.inl rfl) hw (fun v3 hw => ?_)
    refine xr_iload_n S 1 dX5_pointsUpTo_16 rfl ?_
    refine xw_icmp_gt S 26 dX5_pointsUpTo_17 (by decide) hw (fun c hw => ?_) (fun c hw => ?_)
    · refine xr_iload_n S 2 dX5_pointsUpTo_26 rfl ?_
      exact E.1 _ _ _ _ _ _ rfl dX5_pointsUpTo_27 ⟨_, rfl, rfl, hw⟩ (Nat.le_of_ble_eq_true rfl) (Nat.le_of_ble_eq_true rfl)
    · refine xr_iinc S 2 ((l2 + 1)) [(2, .int (l2 + 1)), (0, .ref l0), (1, .int l1)] dX5_pointsUpTo_20 rfl rfl (by decide) rfl ?_
      refine xr_goto S (tgt := 2) dX5_pointsUpTo_23 (by decide) ?_
      refine xr_sub S [(0, .ref l0), (1, .int l1), (2, .int (l2 + 1))] [1, 2, 0] rfl ?_
      exact hr2 (l2 + 1) hw
def w_X5_pointsUpTo (dc : Nat × Nat) (h : XH) (l0 : Nat) (l1 : Int32) (Po : Int32 → Prop) : Prop :=
  w_X5_pointsUpTo_2 dc h l0 l1 Po 0
set_option maxRecDepth 100000 in
set_option maxHeartbeats 4000000 in
theorem k_X5_pointsUpTo (l : Launch) (dc : Nat × Nat) (h : XH) (l0 : Nat) (l1 : Int32) (Po : Int32 → Prop) (hw : w_X5_pointsUpTo dc h l0 l1 Po) : xM l dc yX5_pointsUpTo wsX5_pointsUpTo 0 0 0 0 [.ref l0, .int l1] h (xRi h Po) := by
  refine xM_of [(0, .ref l0), (1, .int l1)] (own := RX5) (cc := cX5_pointsUpTo) (nL := 3) (ret := (some .int)) (by decide +kernel) rfl rfl (Nat.le_of_ble_eq_true rfl) rfl ?_
  intro X V hX S E
  subst hX
  refine xr_iconst S (0) dX5_pointsUpTo_0 (by decide) ?_
  refine xr_istore_n S [(2, .int 0), (0, .ref l0), (1, .int l1)] dX5_pointsUpTo_1 (by decide) rfl ?_
  refine xr_sub S [(0, .ref l0), (1, .int l1), (2, .int 0)] [1, 2, 0] rfl ?_
  exact k_X5_pointsUpTo_2 S h l0 l1 Po E 0 hw
theorem in_X5_hasPointAt_X5 : ∀ w ∈ wsX50, w ∈ wsX5_hasPointAt := by decide +kernel
theorem m_X5_hasPointAt_1 : Cond.fieldLink RX5 9 "PilotBook$Tide" "times" "[I" ∈ wsX5_hasPointAt := by decide +kernel
def w_X5_hasPointAt (dc : Nat × Nat) (h : XH) (l0 : Nat) (l1 : Int32) (Po : Int32 → Prop) : Prop :=
  wO h l0 6 (w_X5_pointsUpTo dc h l0 l1 (fun r2 => wIf (r2 ≤ 0) (wZ 0 (Po 0)) (wR h l0 6 0 (fun a5 => wAI h 0 a5 (r2 - 1) (fun v6 => wIf (v6 = l1) (wZ 1 (Po 1)) (wZ 0 (Po 0)))))))
set_option maxRecDepth 100000 in
set_option maxHeartbeats 4000000 in
theorem k_X5_hasPointAt (l : Launch) (dc : Nat × Nat) (h : XH) (l0 : Nat) (l1 : Int32) (Po : Int32 → Prop) (hw : w_X5_hasPointAt dc h l0 l1 Po) : xM l dc yX5_hasPointAt wsX5_hasPointAt 1 22 0 0 [.ref l0, .int l1] h (xRi h Po) := by
  refine xM_of [(0, .ref l0), (1, .int l1)] (own := RX5) (cc := cX5_hasPointAt) (nL := 3) (ret := (some .boolean)) (by decide +kernel) rfl rfl (Nat.le_of_ble_eq_true rfl) rfl ?_
  intro X V hX S E
  subst hX
  obtain ⟨hO, hw⟩ := hw
  refine xr_aload_n S 0 dX5_hasPointAt_0 rfl ?_
  refine xr_iload_n S 1 dX5_hasPointAt_1 rfl ?_
  obtain ⟨f1, f1x⟩ := id hO
  refine xr_callV S 6 [.int l1] [] dX5_hasPointAt_2 (k_X5_pointsUpTo l (xdc X) h l0 l1 _ hw) gX5_hasPointAt_X5_pointsUpTo rfl pd_X5_pointsUpTo ⟨Nat.le_of_ble_eq_true rfl, Nat.le_of_ble_eq_true rfl⟩ rfl (Nat.le_of_ble_eq_true rfl) ⟨Nat.le_of_ble_eq_true rfl, Nat.le_of_ble_eq_true rfl⟩ f1x rfl (fun v9 h4 hv => ?_)
  obtain ⟨r2, rfl, rfl, hw⟩ := hv
  refine xr_istore_n S [(2, .int r2), (0, .ref l0), (1, .int l1)] dX5_hasPointAt_5 (by decide) rfl ?_
  refine xr_iload_n S 0 dX5_hasPointAt_6 rfl ?_
  refine xw_if_le S 26 dX5_hasPointAt_7 (by decide) hw (fun c hw => ?_) (fun c hw => ?_)
  · refine xr_iconst S (0) dX5_hasPointAt_26 (by decide) ?_
    obtain ⟨hz, hw⟩ := hw
    exact E.2.1 _ _ _ _ _ _ rfl hz dX5_hasPointAt_27 ⟨_, rfl, rfl, hw⟩ (Nat.le_of_ble_eq_true rfl) (Nat.le_of_ble_eq_true rfl)
  · refine xr_aload_n S 1 dX5_hasPointAt_10 rfl ?_
    refine xw_getR S 6 0 dX5_hasPointAt_11 in_X5_hasPointAt_X5 rfl (by decide) (Or.inl m_X5_hasPointAt_1) (Or.inl rfl) hw (fun a5 hw => ?_)
    refine xr_iload_n S 0 dX5_hasPointAt_14 rfl ?_
    refine xr_iconst S (1) dX5_hasPointAt_15 (by decide) ?_
    refine xr_isub S dX5_hasPointAt_16 ?_
    refine xw_iald S 0 dX5_hasPointAt_17 (Or.inl rfl) hw (fun v6 hw => ?_)
    refine xr_iload_n S 2 dX5_hasPointAt_18 rfl ?_
    refine xw_icmp_ne S 26 dX5_hasPointAt_19 (by decide) hw (fun c hw => ?_) (fun c hw => ?_)
    · refine xr_iconst S (0) dX5_hasPointAt_26 (by decide) ?_
      obtain ⟨hz, hw⟩ := hw
      exact E.2.1 _ _ _ _ _ _ rfl hz dX5_hasPointAt_27 ⟨_, rfl, rfl, hw⟩ (Nat.le_of_ble_eq_true rfl) (Nat.le_of_ble_eq_true rfl)
    · refine xr_iconst S (1) dX5_hasPointAt_22 (by decide) ?_
      refine xr_goto S (tgt := 27) dX5_hasPointAt_23 (by decide) ?_
      obtain ⟨hz, hw⟩ := hw
      exact E.2.1 _ _ _ _ _ _ rfl hz dX5_hasPointAt_27 ⟨_, rfl, rfl, hw⟩ (Nat.le_of_ble_eq_true rfl) (Nat.le_of_ble_eq_true rfl)
theorem in_X5_insert_X5 : ∀ w ∈ wsX50, w ∈ wsX5_insert := by decide +kernel
theorem m_X5_insert_1 : Cond.fieldLink RX5 18 "PilotBook$Tide" "size" "I" ∈ wsX5_insert := by decide +kernel
theorem m_X5_insert_2 : Cond.fieldLink RX5 9 "PilotBook$Tide" "times" "[I" ∈ wsX5_insert := by decide +kernel
theorem m_X5_insert_3 : Cond.fieldLink RX5 15 "PilotBook$Tide" "heights" "[I" ∈ wsX5_insert := by decide +kernel
def w_X5_insert_22_F (dc : Nat × Nat) (l0 : Nat) (l1 : Int32) (l2 : Int32) (l3 : Int32) (Po : XH → Prop) (rec22 : XH × Int32 → Prop) : XH × Int32 → Prop := fun s => match s with
  | (h, l4) =>
  wIf (l4 ≤ l3) (wR h l0 6 0 (fun a8 => wSI h 0 a8 l3 l1 (fun h9 => wR h9 l0 6 1 (fun a10 => wSI h9 0 a10 l3 l2 (fun h11 => wI h11 l0 6 2 (fun v12 => wP h11 l0 6 2 (.int (v12 + 1)) (fun h13 => Po h13))))))) (wR h l0 6 0 (fun a14 => wR h l0 6 0 (fun a15 => wAI h 0 a15 (l4 - 1) (fun v16 => wSI h 0 a14 l4 v16 (fun h17 => wR h17 l0 6 1 (fun a18 => wR h17 l0 6 1 (fun a19 => wAI h17 0 a19 (l4 - 1) (fun v20 => wSI h17 0 a18 l4 v20 (fun h21 => (rec22 (h21, (l4 + (-1)))))))))))))
def w_X5_insert_22 (dc : Nat × Nat) (l0 : Nat) (l1 : Int32) (l2 : Int32) (l3 : Int32) (Po : XH → Prop) : XH × Int32 → Prop := xloop (w_X5_insert_22_F dc l0 l1 l2 l3 Po)
set_option maxRecDepth 100000 in
set_option maxHeartbeats 4000000 in
theorem k_X5_insert_22 {V : XVT} {X : XC} {l : Launch} (S : xS V X l RX5 yX5_insert.name cX5_insert 5 wsX5_insert (xRm 1 22 0 0)) (h : XH) (l0 : Nat) (l1 : Int32) (l2 : Int32) (l3 : Int32) (Po : XH → Prop) (E : xEnd V cX5_insert none 0 0 (xPv Po)) (s0 : XH × Int32) (hw : w_X5_insert_22 (xdc X) l0 l1 l2 l3 Po s0) : V 0 0 s0.1 22 [(0, .ref l0), (1, .int l1), (2, .int l2), (3, .int l3), (4, .int s0.2)] [] := by
  refine xloop_use (P := fun s : XH × Int32 => V 0 0 s.1 22 [(0, .ref l0), (1, .int l1), (2, .int l2), (3, .int l3), (4, .int s.2)] []) (fun rec22 hr22 s hw => ?_) hw
  obtain ⟨h, l4⟩ := s
  try dsimp only
  refine xr_iload S 4 dX5_insert_22 rfl ?_
  refine xr_iload_n S 3 dX5_insert_24 rfl ?_
  refine xw_icmp_le S 66 dX5_insert_25 (by decide) hw (fun c hw => ?_) (fun c hw => ?_)
  · refine xr_aload_n S 0 dX5_insert_66 rfl ?_
    refine xw_getR S 6 0 dX5_insert_67 in_X5_insert_X5 rfl (by decide) (Or.inl m_X5_insert_2) (Or.inl rfl) hw (fun a8 hw => ?_)
    refine xr_iload_n S 3 dX5_insert_70 rfl ?_
    refine xr_iload_n S 1 dX5_insert_71 rfl ?_
    refine xw_iast S 0 dX5_insert_72 (Or.inl rfl) hw (fun h9 hw => ?_)
    refine xr_aload_n S 0 dX5_insert_73 rfl ?_
    refine xw_getR S 6 1 dX5_insert_74 in_X5_insert_X5 rfl (by decide) (Or.inl m_X5_insert_3) (Or.inl rfl) hw (fun a10 hw => ?_)
    refine xr_iload_n S 3 dX5_insert_77 rfl ?_
    refine xr_iload_n S 2 dX5_insert_78 rfl ?_
    refine xw_iast S 0 dX5_insert_79 (Or.inl rfl) hw (fun h11 hw => ?_)
    refine xr_aload_n S 0 dX5_insert_80 rfl ?_
    refine xr_dup S dX5_insert_81 rfl ?_
    refine xw_getI S 6 2 dX5_insert_82 in_X5_insert_X5 rfl (by decide) (Or.inl m_X5_insert_1) (Or.inl rfl) hw (fun v12 hw => ?_)
    refine xr_iconst S (1) dX5_insert_85 (by decide) ?_
    refine xr_iadd S dX5_insert_86 ?_
    refine xw_put S 6 2 tyX5 dX5_insert_87 in_X5_insert_X5 rfl (by decide) (Or.inl m_X5_insert_1) (Or.inl rfl) tyX5_ok nmX5 rfl rfl ⟨rfl, rfl⟩ hw (fun h13 hw => ?_)
    exact E.2.2.1 _ _ _ _ _ rfl dX5_insert_90 ⟨rfl, hw⟩ (Nat.le_of_ble_eq_true rfl) (Nat.le_of_ble_eq_true rfl)
  · refine xr_aload_n S 0 dX5_insert_28 rfl ?_
    refine xw_getR S 6 0 dX5_insert_29 in_X5_insert_X5 rfl (by decide) (Or.inl m_X5_insert_2) (Or.inl rfl) hw (fun a14 hw => ?_)
    refine xr_iload S 4 dX5_insert_32 rfl ?_
    refine xr_aload_n S 0 dX5_insert_34 rfl ?_
    refine xw_getR S 6 0 dX5_insert_35 in_X5_insert_X5 rfl (by decide) (Or.inl m_X5_insert_2) (Or.inl rfl) hw (fun a15 hw => ?_)
    refine xr_iload S 4 dX5_insert_38 rfl ?_
    refine xr_iconst S (1) dX5_insert_40 (by decide) ?_
    refine xr_isub S dX5_insert_41 ?_
    refine xw_iald S 0 dX5_insert_42 (Or.inl rfl) hw (fun v16 hw => ?_)
    refine xw_iast S 0 dX5_insert_43 (Or.inl rfl) hw (fun h17 hw => ?_)
    refine xr_aload_n S 0 dX5_insert_44 rfl ?_
    refine xw_getR S 6 1 dX5_insert_45 in_X5_insert_X5 rfl (by decide) (Or.inl m_X5_insert_3) (Or.inl rfl) hw (fun a18 hw => ?_)
    refine xr_iload S 4 dX5_insert_48 rfl ?_
    refine xr_aload_n S 0 dX5_insert_50 rfl ?_
    refine xw_getR S 6 1 dX5_insert_51 in_X5_insert_X5 rfl (by decide) (Or.inl m_X5_insert_3) (Or.inl rfl) hw (fun a19 hw => ?_)
    refine xr_iload S 4 dX5_insert_54 rfl ?_
    refine xr_iconst S (1) dX5_insert_56 (by decide) ?_
    refine xr_isub S dX5_insert_57 ?_
    refine xw_iald S 0 dX5_insert_58 (Or.inl rfl) hw (fun v20 hw => ?_)
    refine xw_iast S 0 dX5_insert_59 (Or.inl rfl) hw (fun h21 hw => ?_)
    refine xr_iinc S 4 ((l4 + (-1))) [(4, .int (l4 + (-1))), (0, .ref l0), (1, .int l1), (2, .int l2), (3, .int l3)] dX5_insert_60 rfl rfl (by decide) rfl ?_
    refine xr_goto S (tgt := 22) dX5_insert_63 (by decide) ?_
    refine xr_sub S [(0, .ref l0), (1, .int l1), (2, .int l2), (3, .int l3), (4, .int (l4 + (-1)))] [1, 2, 3, 4, 0] rfl ?_
    exact hr22 (h21, (l4 + (-1))) hw
def w_X5_insert (dc : Nat × Nat) (h : XH) (l0 : Nat) (l1 : Int32) (l2 : Int32) (Po : XH → Prop) : Prop :=
  wI h l0 6 2 (fun v1 => wIf (v1 < 30) (wO h l0 6 ( w_X5_pointsUpTo dc h l0 l1 (fun r4 => wI h l0 6 2 (fun v7 => (w_X5_insert_22 dc l0 l1 l2 r4 Po (h, v7)))))) (Po h))
set_option maxRecDepth 100000 in
set_option maxHeartbeats 4000000 in
theorem k_X5_insert (l : Launch) (dc : Nat × Nat) (h : XH) (l0 : Nat) (l1 : Int32) (l2 : Int32) (Po : XH → Prop) (hw : w_X5_insert dc h l0 l1 l2 Po) : xM l dc yX5_insert wsX5_insert 1 22 0 0 [.ref l0, .int l1, .int l2] h (xPv Po) := by
  refine xM_of [(0, .ref l0), (1, .int l1), (2, .int l2)] (own := RX5) (cc := cX5_insert) (nL := 5) (ret := none) (by decide +kernel) rfl rfl (Nat.le_of_ble_eq_true rfl) rfl ?_
  intro X V hX S E
  subst hX
  refine xr_aload_n S 0 dX5_insert_0 rfl ?_
  refine xw_getI S 6 2 dX5_insert_1 in_X5_insert_X5 rfl (by decide) (Or.inl m_X5_insert_1) (Or.inl rfl) hw (fun v1 hw => ?_)
  refine xr_bipush S (30) dX5_insert_4 (by decide) ?_
  refine xw_icmp_lt S 10 dX5_insert_6 (by decide) hw (fun c hw => ?_) (fun c hw => ?_)
  · refine xr_aload_n S 0 dX5_insert_10 rfl ?_
    refine xr_iload_n S 1 dX5_insert_11 rfl ?_
    obtain ⟨e2, hw⟩ := hw
    obtain ⟨f3, f3x⟩ := id e2
    refine xr_callV S 6 [.int l1] [] dX5_insert_12 (k_X5_pointsUpTo l (xdc X) h l0 l1 _ hw) gX5_insert_X5_pointsUpTo rfl pd_X5_pointsUpTo ⟨Nat.le_of_ble_eq_true rfl, Nat.le_of_ble_eq_true rfl⟩ rfl (Nat.le_of_ble_eq_true rfl) ⟨Nat.le_of_ble_eq_true rfl, Nat.le_of_ble_eq_true rfl⟩ f3x rfl (fun v9 h6 hv => ?_)
    obtain ⟨r4, rfl, rfl, hw⟩ := hv
    refine xr_istore_n S [(3, .int r4), (0, .ref l0), (1, .int l1), (2, .int l2)] dX5_insert_15 (by decide) rfl ?_
    refine xr_aload_n S 1 dX5_insert_16 rfl ?_
    refine xw_getI S 6 2 dX5_insert_17 in_X5_insert_X5 rfl (by decide) (Or.inl m_X5_insert_1) (Or.inl rfl) hw (fun v7 hw => ?_)
    refine xr_istore S [(4, .int v7), (3, .int r4), (0, .ref l0), (1, .int l1), (2, .int l2)] dX5_insert_20 (by decide) rfl ?_
    refine xr_sub S [(0, .ref l0), (1, .int l1), (2, .int l2), (3, .int r4), (4, .int v7)] [2, 3, 4, 1, 0] rfl ?_
    exact k_X5_insert_22 S h l0 l1 l2 r4 Po E (h, v7) hw
  · exact E.2.2.1 _ _ _ _ _ rfl dX5_insert_9 ⟨rfl, hw⟩ (Nat.le_of_ble_eq_true rfl) (Nat.le_of_ble_eq_true rfl)
theorem in_X5_heightAt_X5 : ∀ w ∈ wsX50, w ∈ wsX5_heightAt := by decide +kernel
theorem m_X5_heightAt_1 : Cond.fieldLink RX5 18 "PilotBook$Tide" "size" "I" ∈ wsX5_heightAt := by decide +kernel
theorem m_X5_heightAt_2 : Cond.fieldLink RX5 9 "PilotBook$Tide" "times" "[I" ∈ wsX5_heightAt := by decide +kernel
theorem m_X5_heightAt_3 : Cond.fieldLink RX5 15 "PilotBook$Tide" "heights" "[I" ∈ wsX5_heightAt := by decide +kernel
def w_X5_heightAt (dc : Nat × Nat) (h : XH) (l0 : Nat) (l1 : Int32) (Po : Int32 → Prop) : Prop :=
  wO h l0 6 (wI h l0 6 2 (fun v1 => wIf (v1 = 0) (Po 0) (w_X5_pointsUpTo dc h l0 l1 (fun r3 => wIf (r3 = 0) (wR h l0 6 1 (fun a24 => wAI h 0 a24 0 (fun v25 => Po v25))) (wI h l0 6 2 (fun v6 => wIf (r3 = v6) (wR h l0 6 1 (fun a22 => wAI h 0 a22 (r3 - 1) (fun v23 => Po v23))) (wR h l0 6 0 (fun a7 => wAI h 0 a7 r3 (fun v8 => wR h l0 6 0 (fun a9 => wAI h 0 a9 (r3 - 1) (fun v10 => wR h l0 6 1 (fun a11 => wAI h 0 a11 r3 (fun v12 => wR h l0 6 1 (fun a13 => wAI h 0 a13 (r3 - 1) (fun v14 => wR h l0 6 0 (fun a15 => wAI h 0 a15 (r3 - 1) (fun v16 => wIf ((v8 - v10) ≤ 0) (wR h l0 6 1 (fun a17 => wAI h 0 a17 (r3 - 1) (fun v18 => Po v18))) (wR h l0 6 1 (fun a19 => wAI h 0 a19 (r3 - 1) (fun v20 => wDiv (v8 - v10) ( Po (v20 + (((v12 - v14) * (l1 - v16)) / (v8 - v10))))))))))))))))))))))))
set_option maxRecDepth 100000 in
set_option maxHeartbeats 4000000 in
theorem k_X5_heightAt (l : Launch) (dc : Nat × Nat) (h : XH) (l0 : Nat) (l1 : Int32) (Po : Int32 → Prop) (hw : w_X5_heightAt dc h l0 l1 Po) : xM l dc yX5_heightAt wsX5_heightAt 1 22 0 0 [.ref l0, .int l1] h (xRi h Po) := by
  refine xM_of [(0, .ref l0), (1, .int l1)] (own := RX5) (cc := cX5_heightAt) (nL := 6) (ret := (some .int)) (by decide +kernel) rfl rfl (Nat.le_of_ble_eq_true rfl) rfl ?_
  intro X V hX S E
  subst hX
  obtain ⟨hO, hw⟩ := hw
  refine xr_aload_n S 0 dX5_heightAt_0 rfl ?_
  refine xw_getI S 6 2 dX5_heightAt_1 in_X5_heightAt_X5 rfl (by decide) (Or.inl m_X5_heightAt_1) (Or.inl rfl) hw (fun v1 hw => ?_)
  refine xw_if_ne S 9 dX5_heightAt_4 (by decide) hw (fun c hw => ?_) (fun c hw => ?_)
  · refine xr_aload_n S 0 dX5_heightAt_9 rfl ?_
    refine xr_iload_n S 1 dX5_heightAt_10 rfl ?_
    obtain ⟨f2, f2x⟩ := id hO
    refine xr_callV S 6 [.int l1] [] dX5_heightAt_11 (k_X5_pointsUpTo l (xdc X) h l0 l1 _ hw) gX5_heightAt_X5_pointsUpTo rfl pd_X5_pointsUpTo ⟨Nat.le_of_ble_eq_true rfl, Nat.le_of_ble_eq_true rfl⟩ rfl (Nat.le_of_ble_eq_true rfl) ⟨Nat.le_of_ble_eq_true rfl, Nat.le_of_ble_eq_true rfl⟩ f2x rfl (fun v9 h5 hv => ?_)
    obtain ⟨r3, rfl, rfl, hw⟩ := hv
    refine xr_istore_n S [(2, .int r3), (0, .ref l0), (1, .int l1)] dX5_heightAt_14 (by decide) rfl ?_
    refine xr_iload_n S 0 dX5_heightAt_15 rfl ?_
    refine xw_if_ne S 26 dX5_heightAt_16 (by decide) hw (fun c hw => ?_) (fun c hw => ?_)
    · refine xr_iload_n S 0 dX5_heightAt_26 rfl ?_
      refine xr_iconst S (1) dX5_heightAt_27 (by decide) ?_
      refine xr_isub S dX5_heightAt_28 ?_
      refine xr_istore_n S [(3, .int (r3 - 1)), (2, .int r3), (0, .ref l0), (1, .int l1)] dX5_heightAt_29 (by decide) rfl ?_
      refine xr_iload_n S 1 dX5_heightAt_30 rfl ?_
      refine xr_aload_n S 2 dX5_heightAt_31 rfl ?_
      refine xw_getI S 6 2 dX5_heightAt_32 in_X5_heightAt_X5 rfl (by decide) (Or.inl m_X5_heightAt_1) (Or.inl rfl) hw (fun v6 hw => ?_)
      refine xw_icmp_ne S 45 dX5_heightAt_35 (by decide) hw (fun c hw => ?_) (fun c hw => ?_)
      · refine xr_aload_n S 2 dX5_heightAt_45 rfl ?_
        refine xw_getR S 6 0 dX5_heightAt_46 in_X5_heightAt_X5 rfl (by decide) (Or.inl m_X5_heightAt_2) (Or.inl rfl) hw (fun a7 hw => ?_)
        refine xr_iload_n S 1 dX5_heightAt_49 rfl ?_
        refine xw_iald S 0 dX5_heightAt_50 (Or.inl rfl) hw (fun v8 hw => ?_)
        refine xr_aload_n S 2 dX5_heightAt_51 rfl ?_
        refine xw_getR S 6 0 dX5_heightAt_52 in_X5_heightAt_X5 rfl (by decide) (Or.inl m_X5_heightAt_2) (Or.inl rfl) hw (fun a9 hw => ?_)
        refine xr_iload_n S 0 dX5_heightAt_55 rfl ?_
        refine xw_iald S 0 dX5_heightAt_56 (Or.inl rfl) hw (fun v10 hw => ?_)
        refine xr_isub S dX5_heightAt_57 ?_
        refine xr_istore S [(4, .int (v8 - v10)), (3, .int (r3 - 1)), (2, .int r3), (0, .ref l0), (1, .int l1)] dX5_heightAt_58 (by decide) rfl ?_
        refine xr_aload_n S 3 dX5_heightAt_60 rfl ?_
        refine xw_getR S 6 1 dX5_heightAt_61 in_X5_heightAt_X5 rfl (by decide) (Or.inl m_X5_heightAt_3) (Or.inl rfl) hw (fun a11 hw => ?_)
        refine xr_iload_n S 2 dX5_heightAt_64 rfl ?_
        refine xw_iald S 0 dX5_heightAt_65 (Or.inl rfl) hw (fun v12 hw => ?_)
        refine xr_aload_n S 3 dX5_heightAt_66 rfl ?_
        refine xw_getR S 6 1 dX5_heightAt_67 in_X5_heightAt_X5 rfl (by decide) (Or.inl m_X5_heightAt_3) (Or.inl rfl) hw (fun a13 hw => ?_)
        refine xr_iload_n S 1 dX5_heightAt_70 rfl ?_
        refine xw_iald S 0 dX5_heightAt_71 (Or.inl rfl) hw (fun v14 hw => ?_)
        refine xr_isub S dX5_heightAt_72 ?_
        refine xr_iload_n S 4 dX5_heightAt_73 rfl ?_
        refine xr_aload_n S 3 dX5_heightAt_74 rfl ?_
        refine xw_getR S 6 0 dX5_heightAt_75 in_X5_heightAt_X5 rfl (by decide) (Or.inl m_X5_heightAt_2) (Or.inl rfl) hw (fun a15 hw => ?_)
        refine xr_iload_n S 1 dX5_heightAt_78 rfl ?_
        refine xw_iald S 0 dX5_heightAt_79 (Or.inl rfl) hw (fun v16 hw => ?_)
        refine xr_isub S dX5_heightAt_80 ?_
        refine xr_imul S dX5_heightAt_81 ?_
        refine xr_istore S [(5, .int ((v12 - v14) * (l1 - v16))), (4, .int (v8 - v10)), (3, .int (r3 - 1)), (2, .int r3), (0, .ref l0), (1, .int l1)] dX5_heightAt_82 (by decide) rfl ?_
        refine xr_iload S 1 dX5_heightAt_84 rfl ?_
        refine xw_if_le S 104 dX5_heightAt_86 (by decide) hw (fun c hw => ?_) (fun c hw => ?_)
        · refine xr_aload_n S 4 dX5_heightAt_104 rfl ?_
          refine xw_getR S 6 1 dX5_heightAt_105 in_X5_heightAt_X5 rfl (by decide) (Or.inl m_X5_heightAt_3) (Or.inl rfl) hw (fun a17 hw => ?_)
          refine xr_iload_n S 2 dX5_heightAt_108 rfl ?_
          refine xw_iald S 0 dX5_heightAt_109 (Or.inl rfl) hw (fun v18 hw => ?_)
          exact E.1 _ _ _ _ _ _ rfl dX5_heightAt_110 ⟨_, rfl, rfl, hw⟩ (Nat.le_of_ble_eq_true rfl) (Nat.le_of_ble_eq_true rfl)
        · refine xr_aload_n S 4 dX5_heightAt_89 rfl ?_
          refine xw_getR S 6 1 dX5_heightAt_90 in_X5_heightAt_X5 rfl (by decide) (Or.inl m_X5_heightAt_3) (Or.inl rfl) hw (fun a19 hw => ?_)
          refine xr_iload_n S 2 dX5_heightAt_93 rfl ?_
          refine xw_iald S 0 dX5_heightAt_94 (Or.inl rfl) hw (fun v20 hw => ?_)
          refine xr_iload S 0 dX5_heightAt_95 rfl ?_
          refine xr_iload S 1 dX5_heightAt_97 rfl ?_
          obtain ⟨hn21, hw⟩ := hw
          refine xr_idiv S dX5_heightAt_99 hn21 ?_
          refine xr_iadd S dX5_heightAt_100 ?_
          refine xr_goto S (tgt := 110) dX5_heightAt_101 (by decide) ?_
          exact E.1 _ _ _ _ _ _ rfl dX5_heightAt_110 ⟨_, rfl, rfl, hw⟩ (Nat.le_of_ble_eq_true rfl) (Nat.le_of_ble_eq_true rfl)
      · refine xr_aload_n S 2 dX5_heightAt_38 rfl ?_
        refine xw_getR S 6 1 dX5_heightAt_39 in_X5_heightAt_X5 rfl (by decide) (Or.inl m_X5_heightAt_3) (Or.inl rfl) hw (fun a22 hw => ?_)
        refine xr_iload_n S 0 dX5_heightAt_42 rfl ?_
        refine xw_iald S 0 dX5_heightAt_43 (Or.inl rfl) hw (fun v23 hw => ?_)
        exact E.1 _ _ _ _ _ _ rfl dX5_heightAt_44 ⟨_, rfl, rfl, hw⟩ (Nat.le_of_ble_eq_true rfl) (Nat.le_of_ble_eq_true rfl)
    · refine xr_aload_n S 1 dX5_heightAt_19 rfl ?_
      refine xw_getR S 6 1 dX5_heightAt_20 in_X5_heightAt_X5 rfl (by decide) (Or.inl m_X5_heightAt_3) (Or.inl rfl) hw (fun a24 hw => ?_)
      refine xr_iconst S (0) dX5_heightAt_23 (by decide) ?_
      refine xw_iald S 0 dX5_heightAt_24 (Or.inl rfl) hw (fun v25 hw => ?_)
      exact E.1 _ _ _ _ _ _ rfl dX5_heightAt_25 ⟨_, rfl, rfl, hw⟩ (Nat.le_of_ble_eq_true rfl) (Nat.le_of_ble_eq_true rfl)
  · refine xr_iconst S (0) dX5_heightAt_7 (by decide) ?_
    exact E.1 _ _ _ _ _ _ rfl dX5_heightAt_8 ⟨_, rfl, rfl, hw⟩ (Nat.le_of_ble_eq_true rfl) (Nat.le_of_ble_eq_true rfl)
