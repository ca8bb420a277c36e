theorem m_X7_init_0 : Cond.methodLink RX7 1 objectInit ∈ wsX7_init := by decide +kernel
theorem m_X7_init_1 : Cond.instanceMethod objectInit ∈ wsX7_init := by decide +kernel
theorem m_X7_init_2 : Cond.code objectInit ⟨#[0xb1]⟩ 1 none ∈ wsX7_init := by decide +kernel
theorem m_X7_init_3 : Cond.arrayClass .int ∈ wsX7_init := by decide +kernel
theorem in_X7_init_X7 : ∀ w ∈ wsX70, w ∈ wsX7_init := by decide +kernel
theorem m_X7_init_5 : Cond.fieldLink RX7 9 "PilotBookModel" "times" "[I" ∈ wsX7_init := by decide +kernel
theorem m_X7_init_6 : Cond.fieldLink RX7 13 "PilotBookModel" "heights" "[I" ∈ wsX7_init := by decide +kernel
theorem m_X7_init_7 : Cond.fieldLink RX7 16 "PilotBookModel" "barDepth" "I" ∈ wsX7_init := by decide +kernel
theorem m_X7_init_8 : Cond.fieldLink RX7 20 "PilotBookModel" "margin" "I" ∈ wsX7_init := by decide +kernel
theorem m_X7_init_9 : Cond.fieldLink RX7 23 "PilotBookModel" "berthLengths" "[I" ∈ wsX7_init := by decide +kernel
theorem m_X7_init_10 : Cond.fieldLink RX7 26 "PilotBookModel" "berthDepths" "[I" ∈ wsX7_init := by decide +kernel
theorem m_X7_init_11 : Cond.fieldLink RX7 29 "PilotBookModel" "lengths" "[I" ∈ wsX7_init := by decide +kernel
theorem m_X7_init_12 : Cond.fieldLink RX7 32 "PilotBookModel" "drafts" "[I" ∈ wsX7_init := by decide +kernel
theorem m_X7_init_13 : Cond.fieldLink RX7 35 "PilotBookModel" "limits" "[I" ∈ wsX7_init := by decide +kernel
theorem m_X7_init_14 : Cond.arrayClass .boolean ∈ wsX7_init := by decide +kernel
theorem m_X7_init_15 : Cond.fieldLink RX7 38 "PilotBookModel" "areInPort" "[Z" ∈ wsX7_init := by decide +kernel
theorem m_X7_init_16 : Cond.fieldLink RX7 42 "PilotBookModel" "tugs" "I" ∈ wsX7_init := by decide +kernel
theorem m_X7_init_17 : Cond.fieldLink RX7 45 "PilotBookModel" "table" "[I" ∈ wsX7_init := by decide +kernel
def w_X7_init (dc : Nat × Nat) (h : XH) (l0 : Nat) (Po : XH → Prop) : Prop :=
  wNewI h 2 30 (fun q1 h2 => wP h2 l0 8 2 (.ref q1) (fun h3 => wNewI h3 2 30 (fun q4 h5 => wP h5 l0 8 3 (.ref q4) (fun h6 => wP h6 l0 8 4 (.int 1000) (fun h7 => wP h7 l0 8 5 (.int 50) (fun h8 => wNewI h8 2 6 (fun q9 h10 => wP h10 l0 8 7 (.ref q9) (fun h11 => wNewI h11 2 6 (fun q12 h13 => wP h13 l0 8 8 (.ref q12) (fun h14 => wNewI h14 2 16 (fun q15 h16 => wP h16 l0 8 10 (.ref q15) (fun h17 => wNewI h17 2 16 (fun q18 h19 => wP h19 l0 8 11 (.ref q18) (fun h20 => wNewI h20 2 6 (fun q21 h22 => wP h22 l0 8 13 (.ref q21) (fun h23 => wNewI h23 3 6 (fun q24 h25 => wP h25 l0 8 14 (.ref q24) (fun h26 => wP h26 l0 8 15 (.int 4) (fun h27 => wNewI h27 2 280 (fun q28 h29 => wP h29 l0 8 17 (.ref q28) (fun h30 => Po h30)))))))))))))))))))))
set_option maxRecDepth 100000 in
set_option maxHeartbeats 4000000 in
theorem k_X7_init (l : Launch) (dc : Nat × Nat) (h : XH) (l0 : Nat) (Po : XH → Prop) (hw : w_X7_init dc h l0 Po) : xM l dc yX7_init wsX7_init 1 20 9 396 [.ref l0] h (xPv Po) := by
  refine xM_of [(0, .ref l0)] (own := RX7) (cc := cX7_init) (nL := 1) (ret := none) (by decide +kernel) rfl rfl (Nat.le_of_ble_eq_true rfl) rfl ?_
  intro X V hX S E
  subst hX
  refine xr_aload_n S 0 dX7_init_0 rfl ?_
  refine xr_objInit S dX7_init_1 m_X7_init_0 m_X7_init_1 m_X7_init_2 (Nat.le_of_ble_eq_true rfl) (Nat.le_of_ble_eq_true rfl) ?_
  refine xr_aload_n S 0 dX7_init_4 rfl ?_
  refine xr_bipush S (30) dX7_init_5 (by decide) ?_
  refine xr_newi S 2 dX7_init_7 (Or.inr rfl) m_X7_init_3 (by decide) (N := 30) (by decide) (by decide) (Nat.le_of_ble_eq_true rfl) (Nat.le_of_ble_eq_true rfl) (fun q1 hq => ?_)
  have hw := hw q1 hq
  generalize xup h q1 (.inl (2, 30, .inl (fun _ => 0))) = h2 at hw ⊢
  refine xw_putF S 8 2 tyX7 dX7_init_9 in_X7_init_X7 rfl (by decide) m_X7_init_5 (Or.inl rfl) tyX7_ok nmX7 rfl rfl rfl rfl (xfit_a _ (some q1)) hw (fun h3 hw => ?_)
  refine xr_aload_n S 0 dX7_init_12 rfl ?_
  refine xr_bipush S (30) dX7_init_13 (by decide) ?_
  refine xr_newi S 2 dX7_init_15 (Or.inr rfl) m_X7_init_3 (by decide) (N := 30) (by decide) (by decide) (Nat.le_of_ble_eq_true rfl) (Nat.le_of_ble_eq_true rfl) (fun q4 hq => ?_)
  have hw := hw q4 hq
  generalize xup h3 q4 (.inl (2, 30, .inl (fun _ => 0))) = h5 at hw ⊢
  refine xw_putF S 8 3 tyX7 dX7_init_17 in_X7_init_X7 rfl (by decide) m_X7_init_6 (Or.inl rfl) tyX7_ok nmX7 rfl rfl rfl rfl (xfit_a _ (some q4)) hw (fun h6 hw => ?_)
  refine xr_aload_n S 0 dX7_init_20 rfl ?_
  refine xr_sipush S (1000) dX7_init_21 (by decide) ?_
  refine xw_put S 8 4 tyX7 dX7_init_24 in_X7_init_X7 rfl (by decide) (Or.inl m_X7_init_7) (Or.inl rfl) tyX7_ok nmX7 rfl rfl ⟨rfl, rfl⟩ hw (fun h7 hw => ?_)
  refine xr_aload_n S 0 dX7_init_27 rfl ?_
  refine xr_bipush S (50) dX7_init_28 (by decide) ?_
  refine xw_put S 8 5 tyX7 dX7_init_30 in_X7_init_X7 rfl (by decide) (Or.inl m_X7_init_8) (Or.inl rfl) tyX7_ok nmX7 rfl rfl ⟨rfl, rfl⟩ hw (fun h8 hw => ?_)
  refine xr_aload_n S 0 dX7_init_33 rfl ?_
  refine xr_bipush S (6) dX7_init_34 (by decide) ?_
  refine xr_newi S 2 dX7_init_36 (Or.inr rfl) m_X7_init_3 (by decide) (N := 6) (by decide) (by decide) (Nat.le_of_ble_eq_true rfl) (Nat.le_of_ble_eq_true rfl) (fun q9 hq => ?_)
  have hw := hw q9 hq
  generalize xup h8 q9 (.inl (2, 6, .inl (fun _ => 0))) = h10 at hw ⊢
  refine xw_putF S 8 7 tyX7 dX7_init_38 in_X7_init_X7 rfl (by decide) m_X7_init_9 (Or.inl rfl) tyX7_ok nmX7 rfl rfl rfl rfl (xfit_a _ (some q9)) hw (fun h11 hw => ?_)
  refine xr_aload_n S 0 dX7_init_41 rfl ?_
  refine xr_bipush S (6) dX7_init_42 (by decide) ?_
  refine xr_newi S 2 dX7_init_44 (Or.inr rfl) m_X7_init_3 (by decide) (N := 6) (by decide) (by decide) (Nat.le_of_ble_eq_true rfl) (Nat.le_of_ble_eq_true rfl) (fun q12 hq => ?_)
  have hw := hw q12 hq
  generalize xup h11 q12 (.inl (2, 6, .inl (fun _ => 0))) = h13 at hw ⊢
  refine xw_putF S 8 8 tyX7 dX7_init_46 in_X7_init_X7 rfl (by decide) m_X7_init_10 (Or.inl rfl) tyX7_ok nmX7 rfl rfl rfl rfl (xfit_a _ (some q12)) hw (fun h14 hw => ?_)
  refine xr_aload_n S 0 dX7_init_49 rfl ?_
  refine xr_bipush S (16) dX7_init_50 (by decide) ?_
  refine xr_newi S 2 dX7_init_52 (Or.inr rfl) m_X7_init_3 (by decide) (N := 16) (by decide) (by decide) (Nat.le_of_ble_eq_true rfl) (Nat.le_of_ble_eq_true rfl) (fun q15 hq => ?_)
  have hw := hw q15 hq
  generalize xup h14 q15 (.inl (2, 16, .inl (fun _ => 0))) = h16 at hw ⊢
  refine xw_putF S 8 10 tyX7 dX7_init_54 in_X7_init_X7 rfl (by decide) m_X7_init_11 (Or.inl rfl) tyX7_ok nmX7 rfl rfl rfl rfl (xfit_a _ (some q15)) hw (fun h17 hw => ?_)
  refine xr_aload_n S 0 dX7_init_57 rfl ?_
  refine xr_bipush S (16) dX7_init_58 (by decide) ?_
  refine xr_newi S 2 dX7_init_60 (Or.inr rfl) m_X7_init_3 (by decide) (N := 16) (by decide) (by decide) (Nat.le_of_ble_eq_true rfl) (Nat.le_of_ble_eq_true rfl) (fun q18 hq => ?_)
  have hw := hw q18 hq
  generalize xup h17 q18 (.inl (2, 16, .inl (fun _ => 0))) = h19 at hw ⊢
  refine xw_putF S 8 11 tyX7 dX7_init_62 in_X7_init_X7 rfl (by decide) m_X7_init_12 (Or.inl rfl) tyX7_ok nmX7 rfl rfl rfl rfl (xfit_a _ (some q18)) hw (fun h20 hw => ?_)
  refine xr_aload_n S 0 dX7_init_65 rfl ?_
  refine xr_bipush S (6) dX7_init_66 (by decide) ?_
  refine xr_newi S 2 dX7_init_68 (Or.inr rfl) m_X7_init_3 (by decide) (N := 6) (by decide) (by decide) (Nat.le_of_ble_eq_true rfl) (Nat.le_of_ble_eq_true rfl) (fun q21 hq => ?_)
  have hw := hw q21 hq
  generalize xup h20 q21 (.inl (2, 6, .inl (fun _ => 0))) = h22 at hw ⊢
  refine xw_putF S 8 13 tyX7 dX7_init_70 in_X7_init_X7 rfl (by decide) m_X7_init_13 (Or.inl rfl) tyX7_ok nmX7 rfl rfl rfl rfl (xfit_a _ (some q21)) hw (fun h23 hw => ?_)
  refine xr_aload_n S 0 dX7_init_73 rfl ?_
  refine xr_bipush S (6) dX7_init_74 (by decide) ?_
  refine xr_newz S dX7_init_76 m_X7_init_14 (by decide) (N := 6) (by decide) (by decide) (Nat.le_of_ble_eq_true rfl) (Nat.le_of_ble_eq_true rfl) (fun q24 hq => ?_)
  have hw := hw q24 hq
  generalize xup h23 q24 (.inl (3, 6, .inl (fun _ => 0))) = h25 at hw ⊢
  refine xw_putF S 8 14 tyX7 dX7_init_78 in_X7_init_X7 rfl (by decide) m_X7_init_15 (Or.inl rfl) tyX7_ok nmX7 rfl rfl rfl rfl (xfit_a _ (some q24)) hw (fun h26 hw => ?_)
  refine xr_aload_n S 0 dX7_init_81 rfl ?_
  refine xr_iconst S (4) dX7_init_82 (by decide) ?_
  refine xw_put S 8 15 tyX7 dX7_init_83 in_X7_init_X7 rfl (by decide) (Or.inl m_X7_init_16) (Or.inl rfl) tyX7_ok nmX7 rfl rfl ⟨rfl, rfl⟩ hw (fun h27 hw => ?_)
  refine xr_aload_n S 0 dX7_init_86 rfl ?_
  refine xr_sipush S (280) dX7_init_87 (by decide) ?_
  refine xr_newi S 2 dX7_init_90 (Or.inr rfl) m_X7_init_3 (by decide) (N := 280) (by decide) (by decide) (Nat.le_of_ble_eq_true rfl) (Nat.le_of_ble_eq_true rfl) (fun q28 hq => ?_)
  have hw := hw q28 hq
  generalize xup h27 q28 (.inl (2, 280, .inl (fun _ => 0))) = h29 at hw ⊢
  refine xw_putF S 8 17 tyX7 dX7_init_92 in_X7_init_X7 rfl (by decide) m_X7_init_17 (Or.inl rfl) tyX7_ok nmX7 rfl rfl rfl rfl (xfit_a _ (some q28)) hw (fun h30 hw => ?_)
  exact E.2.2.1 _ _ _ _ _ rfl dX7_init_95 ⟨rfl, hw⟩ (Nat.le_of_ble_eq_true rfl) (Nat.le_of_ble_eq_true rfl)
theorem in_X7_thrown_X7 : ∀ w ∈ wsX70, w ∈ wsX7_thrown := by decide +kernel
theorem m_X7_thrown_1 : Cond.fieldLink RX7 48 "PilotBookModel" "thrown" "I" ∈ wsX7_thrown := by decide +kernel
def w_X7_thrown (dc : Nat × Nat) (h : XH) (l0 : Nat) (Po : Int32 → Prop) : Prop :=
  wI h l0 8 0 (fun v1 => Po v1)
set_option maxRecDepth 100000 in
set_option maxHeartbeats 4000000 in
theorem k_X7_thrown (l : Launch) (dc : Nat × Nat) (h : XH) (l0 : Nat) (Po : Int32 → Prop) (hw : w_X7_thrown dc h l0 Po) : xM l dc yX7_thrown wsX7_thrown 0 0 0 0 [.ref l0] h (xRi h Po) := by
  refine xM_of [(0, .ref l0)] (own := RX7) (cc := cX7_thrown) (nL := 1) (ret := (some .int)) (by decide +kernel) rfl rfl (Nat.le_of_ble_eq_true rfl) rfl ?_
  intro X V hX S E
  subst hX
  refine xr_aload_n S 0 dX7_thrown_0 rfl ?_
  refine xw_getI S 8 0 dX7_thrown_1 in_X7_thrown_X7 rfl (by decide) (Or.inl m_X7_thrown_1) (Or.inl rfl) hw (fun v1 hw => ?_)
  exact E.1 _ _ _ _ _ _ rfl dX7_thrown_4 ⟨_, rfl, rfl, hw⟩ (Nat.le_of_ble_eq_true rfl) (Nat.le_of_ble_eq_true rfl)
theorem in_X7_fail_X7 : ∀ w ∈ wsX70, w ∈ wsX7_fail := by decide +kernel
theorem m_X7_fail_1 : Cond.fieldLink RX7 48 "PilotBookModel" "thrown" "I" ∈ wsX7_fail := by decide +kernel
def w_X7_fail (dc : Nat × Nat) (h : XH) (l0 : Nat) (l1 : Int32) (Po : Int32 → XH → Prop) : Prop :=
  wP h l0 8 0 (.int l1) (fun h1 => Po 0 h1)
set_option maxRecDepth 100000 in
set_option maxHeartbeats 4000000 in
theorem k_X7_fail (l : Launch) (dc : Nat × Nat) (h : XH) (l0 : Nat) (l1 : Int32) (Po : Int32 → XH → Prop) (hw : w_X7_fail dc h l0 l1 Po) : xM l dc yX7_fail wsX7_fail 0 0 0 0 [.ref l0, .int l1] h (xPi Po) := by
  refine xM_of [(0, .ref l0), (1, .int l1)] (own := RX7) (cc := cX7_fail) (nL := 2) (ret := (some .int)) (by decide +kernel) rfl rfl (Nat.le_of_ble_eq_true rfl) rfl ?_
  intro X V hX S E
  subst hX
  refine xr_aload_n S 0 dX7_fail_0 rfl ?_
  refine xr_iload_n S 1 dX7_fail_1 rfl ?_
  refine xw_put S 8 0 tyX7 dX7_fail_2 in_X7_fail_X7 rfl (by decide) (Or.inl m_X7_fail_1) (Or.inl rfl) tyX7_ok nmX7 rfl rfl ⟨rfl, rfl⟩ hw (fun h1 hw => ?_)
  refine xr_iconst S (0) dX7_fail_5 (by decide) ?_
  exact E.1 _ _ _ _ _ _ rfl dX7_fail_6 ⟨_, rfl, hw⟩ (Nat.le_of_ble_eq_true rfl) (Nat.le_of_ble_eq_true rfl)
def w_X7_isIn (dc : Nat × Nat) (h : XH) (l0 : Int32) (l1 : Int32) (l2 : Int32) (Po : Int32 → Prop) : Prop :=
  wIf (l0 < l1) (wZ 0 (Po 0)) (wIf (l2 < l0) (wZ 0 (Po 0)) (wZ 1 (Po 1)))
set_option maxRecDepth 100000 in
set_option maxHeartbeats 4000000 in
theorem k_X7_isIn (l : Launch) (dc : Nat × Nat) (h : XH) (l0 : Int32) (l1 : Int32) (l2 : Int32) (Po : Int32 → Prop) (hw : w_X7_isIn dc h l0 l1 l2 Po) : xM l dc yX7_isIn wsX7_isIn 0 0 0 0 [.int l0, .int l1, .int l2] h (xRi h Po) := by
  refine xM_of [(0, .int l0), (1, .int l1), (2, .int l2)] (own := RX7) (cc := cX7_isIn) (nL := 3) (ret := (some .boolean)) (by decide +kernel) rfl rfl (Nat.le_of_ble_eq_true rfl) rfl ?_
  intro X V hX S E
  subst hX
  refine xr_iload_n S 0 dX7_isIn_0 rfl ?_
  refine xr_iload_n S 1 dX7_isIn_1 rfl ?_
  refine xw_icmp_lt S 14 dX7_isIn_2 (by decide) hw (fun c hw => ?_) (fun c hw => ?_)
  · refine xr_iconst S (0) dX7_isIn_14 (by decide) ?_
    obtain ⟨hz, hw⟩ := hw
    exact E.2.1 _ _ _ _ _ _ rfl hz dX7_isIn_15 ⟨_, rfl, rfl, hw⟩ (Nat.le_of_ble_eq_true rfl) (Nat.le_of_ble_eq_true rfl)
  · refine xr_iload_n S 0 dX7_isIn_5 rfl ?_
    refine xr_iload_n S 2 dX7_isIn_6 rfl ?_
    refine xw_icmp_gt S 14 dX7_isIn_7 (by decide) hw (fun c hw => ?_) (fun c hw => ?_)
    · refine xr_iconst S (0) dX7_isIn_14 (by decide) ?_
      obtain ⟨hz, hw⟩ := hw
      exact E.2.1 _ _ _ _ _ _ rfl hz dX7_isIn_15 ⟨_, rfl, rfl, hw⟩ (Nat.le_of_ble_eq_true rfl) (Nat.le_of_ble_eq_true rfl)
    · refine xr_iconst S (1) dX7_isIn_10 (by decide) ?_
      refine xr_goto S (tgt := 15) dX7_isIn_11 (by decide) ?_
      obtain ⟨hz, hw⟩ := hw
      exact E.2.1 _ _ _ _ _ _ rfl hz dX7_isIn_15 ⟨_, rfl, rfl, hw⟩ (Nat.le_of_ble_eq_true rfl) (Nat.le_of_ble_eq_true rfl)
def w_X7_isTime (dc : Nat × Nat) (h : XH) (l0 : Int32) (Po : Int32 → Prop) : Prop :=
  w_X7_isIn dc h l0 0 2879 (fun r1 => wZ r1 (Po r1))
set_option maxRecDepth 100000 in
set_option maxHeartbeats 4000000 in
theorem k_X7_isTime (l : Launch) (dc : Nat × Nat) (h : XH) (l0 : Int32) (Po : Int32 → Prop) (hw : w_X7_isTime dc h l0 Po) : xM l dc yX7_isTime wsX7_isTime 1 22 0 0 [.int l0] h (xRi h Po) := by
  refine xM_of [(0, .int l0)] (own := RX7) (cc := cX7_isTime) (nL := 1) (ret := (some .boolean)) (by decide +kernel) rfl rfl (Nat.le_of_ble_eq_true rfl) rfl ?_
  intro X V hX S E
  subst hX
  refine xr_iload_n S 0 dX7_isTime_0 rfl ?_
  refine xr_iconst S (0) dX7_isTime_1 (by decide) ?_
  refine xr_sipush S (2879) dX7_isTime_2 (by decide) ?_
  refine xr_callS S [.int l0, .int 0, .int 2879] [] dX7_isTime_5 (k_X7_isIn l (xdc X) h l0 0 2879 _ hw) gX7_isTime_X7_isIn rfl pd_X7_isIn ⟨Nat.le_of_ble_eq_true rfl, Nat.le_of_ble_eq_true rfl⟩ rfl (Nat.le_of_ble_eq_true rfl) ⟨Nat.le_of_ble_eq_true rfl, Nat.le_of_ble_eq_true rfl⟩ (fun v9 h3 hv => ?_)
  obtain ⟨r1, rfl, rfl, hw⟩ := hv
  obtain ⟨hz, hw⟩ := hw
  exact E.2.1 _ _ _ _ _ _ rfl hz dX7_isTime_8 ⟨_, rfl, rfl, hw⟩ (Nat.le_of_ble_eq_true rfl) (Nat.le_of_ble_eq_true rfl)
theorem in_X7_isShip_X7 : ∀ w ∈ wsX70, w ∈ wsX7_isShip := by decide +kernel
theorem m_X7_isShip_1 : Cond.fieldLink RX7 55 "PilotBookModel" "ships" "I" ∈ wsX7_isShip := by decide +kernel
def w_X7_isShip (dc : Nat × Nat) (h : XH) (l0 : Nat) (l1 : Int32) (Po : Int32 → Prop) : Prop :=
  wI h l0 8 9 (fun v1 => w_X7_isIn dc h l1 0 (v1 - 1) (fun r2 => wZ r2 (Po r2)))
set_option maxRecDepth 100000 in
set_option maxHeartbeats 4000000 in
theorem k_X7_isShip (l : Launch) (dc : Nat × Nat) (h : XH) (l0 : Nat) (l1 : Int32) (Po : Int32 → Prop) (hw : w_X7_isShip dc h l0 l1 Po) : xM l dc yX7_isShip wsX7_isShip 1 22 0 0 [.ref l0, .int l1] h (xRi h Po) := by
  refine xM_of [(0, .ref l0), (1, .int l1)] (own := RX7) (cc := cX7_isShip) (nL := 2) (ret := (some .boolean)) (by decide +kernel) rfl rfl (Nat.le_of_ble_eq_true rfl) rfl ?_
  intro X V hX S E
  subst hX
  refine xr_iload_n S 1 dX7_isShip_0 rfl ?_
  refine xr_iconst S (0) dX7_isShip_1 (by decide) ?_
  refine xr_aload_n S 0 dX7_isShip_2 rfl ?_
  refine xw_getI S 8 9 dX7_isShip_3 in_X7_isShip_X7 rfl (by decide) (Or.inl m_X7_isShip_1) (Or.inl rfl) hw (fun v1 hw => ?_)
  refine xr_iconst S (1) dX7_isShip_6 (by decide) ?_
  refine xr_isub S dX7_isShip_7 ?_
  refine xr_callS S [.int l1, .int 0, .int (v1 - 1)] [] dX7_isShip_8 (k_X7_isIn l (xdc X) h l1 0 (v1 - 1) _ hw) gX7_isShip_X7_isIn rfl pd_X7_isIn ⟨Nat.le_of_ble_eq_true rfl, Nat.le_of_ble_eq_true rfl⟩ rfl (Nat.le_of_ble_eq_true rfl) ⟨Nat.le_of_ble_eq_true rfl, Nat.le_of_ble_eq_true rfl⟩ (fun v9 h4 hv => ?_)
  obtain ⟨r2, rfl, rfl, hw⟩ := hv
  obtain ⟨hz, hw⟩ := hw
  exact E.2.1 _ _ _ _ _ _ rfl hz dX7_isShip_11 ⟨_, rfl, rfl, hw⟩ (Nat.le_of_ble_eq_true rfl) (Nat.le_of_ble_eq_true rfl)
theorem in_X7_isBerth_X7 : ∀ w ∈ wsX70, w ∈ wsX7_isBerth := by decide +kernel
theorem m_X7_isBerth_1 : Cond.fieldLink RX7 58 "PilotBookModel" "berths" "I" ∈ wsX7_isBerth := by decide +kernel
def w_X7_isBerth (dc : Nat × Nat) (h : XH) (l0 : Nat) (l1 : Int32) (Po : Int32 → Prop) : Prop :=
  wI h l0 8 6 (fun v1 => w_X7_isIn dc h l1 0 (v1 - 1) (fun r2 => wZ r2 (Po r2)))
set_option maxRecDepth 100000 in
set_option maxHeartbeats 4000000 in
theorem k_X7_isBerth (l : Launch) (dc : Nat × Nat) (h : XH) (l0 : Nat) (l1 : Int32) (Po : Int32 → Prop) (hw : w_X7_isBerth dc h l0 l1 Po) : xM l dc yX7_isBerth wsX7_isBerth 1 22 0 0 [.ref l0, .int l1] h (xRi h Po) := by
  refine xM_of [(0, .ref l0), (1, .int l1)] (own := RX7) (cc := cX7_isBerth) (nL := 2) (ret := (some .boolean)) (by decide +kernel) rfl rfl (Nat.le_of_ble_eq_true rfl) rfl ?_
  intro X V hX S E
  subst hX
  refine xr_iload_n S 1 dX7_isBerth_0 rfl ?_
  refine xr_iconst S (0) dX7_isBerth_1 (by decide) ?_
  refine xr_aload_n S 0 dX7_isBerth_2 rfl ?_
  refine xw_getI S 8 6 dX7_isBerth_3 in_X7_isBerth_X7 rfl (by decide) (Or.inl m_X7_isBerth_1) (Or.inl rfl) hw (fun v1 hw => ?_)
  refine xr_iconst S (1) dX7_isBerth_6 (by decide) ?_
  refine xr_isub S dX7_isBerth_7 ?_
  refine xr_callS S [.int l1, .int 0, .int (v1 - 1)] [] dX7_isBerth_8 (k_X7_isIn l (xdc X) h l1 0 (v1 - 1) _ hw) gX7_isBerth_X7_isIn rfl pd_X7_isIn ⟨Nat.le_of_ble_eq_true rfl, Nat.le_of_ble_eq_true rfl⟩ rfl (Nat.le_of_ble_eq_true rfl) ⟨Nat.le_of_ble_eq_true rfl, Nat.le_of_ble_eq_true rfl⟩ (fun v9 h4 hv => ?_)
  obtain ⟨r2, rfl, rfl, hw⟩ := hv
  obtain ⟨hz, hw⟩ := hw
  exact E.2.1 _ _ _ _ _ _ rfl hz dX7_isBerth_11 ⟨_, rfl, rfl, hw⟩ (Nat.le_of_ble_eq_true rfl) (Nat.le_of_ble_eq_true rfl)
theorem in_X7_addTide_X7 : ∀ w ∈ wsX70, w ∈ wsX7_addTide := by decide +kernel
theorem m_X7_addTide_1 : Cond.fieldLink RX7 48 "PilotBookModel" "thrown" "I" ∈ wsX7_addTide := by decide +kernel
theorem m_X7_addTide_2 : Cond.fieldLink RX7 69 "PilotBookModel" "points" "I" ∈ wsX7_addTide := by decide +kernel
theorem m_X7_addTide_3 : Cond.fieldLink RX7 9 "PilotBookModel" "times" "[I" ∈ wsX7_addTide := by decide +kernel
theorem m_X7_addTide_4 : Cond.fieldLink RX7 13 "PilotBookModel" "heights" "[I" ∈ wsX7_addTide := by decide +kernel
theorem m_X7_addTide_5 : Cond.fieldLink RX7 72 "PilotBookModel" "passages" "I" ∈ wsX7_addTide := by decide +kernel
def w_X7_addTide_25 (dc : Nat × Nat) (h : XH) (l0 : Nat) (Po : Int32 → XH → Prop) : Prop :=
  wO h l0 8 ( w_X7_fail dc h l0 1 (fun r7 h8 => Po r7 h8))
set_option maxRecDepth 100000 in
set_option maxHeartbeats 4000000 in
theorem k_X7_addTide_25 {V : XVT} {X : XC} {l : Launch} (S : xS V X l RX7 yX7_addTide.name cX7_addTide 5 wsX7_addTide (xRm 2 42 0 0)) (h : XH) (l0 : Nat) (Po : Int32 → XH → Prop) (E : xEnd V cX7_addTide (some .int) 0 0 (xPi Po)) (hw : w_X7_addTide_25 (xdc X) h l0 Po) : V 0 0 h 25 [(0, .ref l0)] [] := by
  refine xr_aload_n S 0 dX7_addTide_25 rfl ?_
  refine xr_iconst S (1) dX7_addTide_26 (by decide) ?_
  obtain ⟨e5, hw⟩ := hw
  obtain ⟨f6, f6x⟩ := id e5
  refine xr_callV S 8 [.int 1] [] dX7_addTide_27 (k_X7_fail l (xdc X) h l0 1 _ hw) gX7_addTide_X7_fail rfl pd_X7_fail ⟨Nat.le_of_ble_eq_true rfl, Nat.le_of_ble_eq_true rfl⟩ rfl (Nat.le_of_ble_eq_true rfl) ⟨Nat.le_of_ble_eq_true rfl, Nat.le_of_ble_eq_true rfl⟩ f6x rfl (fun v9 h8 hv => ?_)
  obtain ⟨r7, rfl, hw⟩ := hv
  exact E.1 _ _ _ _ _ _ rfl dX7_addTide_30 ⟨_, rfl, hw⟩ (Nat.le_of_ble_eq_true rfl) (Nat.le_of_ble_eq_true rfl)
def w_X7_addTide_164 (dc : Nat × Nat) (h : XH) (l0 : Nat) (l1 : Int32) (l2 : Int32) (l4 : Int32) (Po : Int32 → XH → Prop) : Prop :=
  wR h l0 8 2 (fun a16 => wSI h 2 a16 l4 l1 (fun h17 => wR h17 l0 8 3 (fun a18 => wSI h17 2 a18 l4 l2 (fun h19 => wI h19 l0 8 1 (fun v20 => wP h19 l0 8 1 (.int (v20 + 1)) (fun h21 => wI h21 l0 8 1 (fun v22 => Po v22 h21)))))))
set_option maxRecDepth 100000 in
set_option maxHeartbeats 4000000 in
theorem k_X7_addTide_164 {V : XVT} {X : XC} {l : Launch} (S : xS V X l RX7 yX7_addTide.name cX7_addTide 5 wsX7_addTide (xRm 2 42 0 0)) (h : XH) (l0 : Nat) (l1 : Int32) (l2 : Int32) (l4 : Int32) (Po : Int32 → XH → Prop) (E : xEnd V cX7_addTide (some .int) 0 0 (xPi Po)) (hw : w_X7_addTide_164 (xdc X) h l0 l1 l2 l4 Po) : V 0 0 h 164 [(0, .ref l0), (1, .int l1), (2, .int l2), (4, .int l4)] [] := by
  refine xr_aload_n S 0 dX7_addTide_164 rfl ?_
  refine xw_getR S 8 2 dX7_addTide_165 in_X7_addTide_X7 rfl (by decide) (Or.inl m_X7_addTide_3) (Or.inl rfl) hw (fun a16 hw => ?_)
  refine xr_iload S 3 dX7_addTide_168 rfl ?_
  refine xr_iload_n S 1 dX7_addTide_170 rfl ?_
  refine xw_iast S 2 dX7_addTide_171 (Or.inr rfl) hw (fun h17 hw => ?_)
  refine xr_aload_n S 0 dX7_addTide_172 rfl ?_
  refine xw_getR S 8 3 dX7_addTide_173 in_X7_addTide_X7 rfl (by decide) (Or.inl m_X7_addTide_4) (Or.inl rfl) hw (fun a18 hw => ?_)
  refine xr_iload S 3 dX7_addTide_176 rfl ?_
  refine xr_iload_n S 2 dX7_addTide_178 rfl ?_
  refine xw_iast S 2 dX7_addTide_179 (Or.inr rfl) hw (fun h19 hw => ?_)
  refine xr_aload_n S 0 dX7_addTide_180 rfl ?_
  refine xr_dup S dX7_addTide_181 rfl ?_
  refine xw_getI S 8 1 dX7_addTide_182 in_X7_addTide_X7 rfl (by decide) (Or.inl m_X7_addTide_2) (Or.inl rfl) hw (fun v20 hw => ?_)
  refine xr_iconst S (1) dX7_addTide_185 (by decide) ?_
  refine xr_iadd S dX7_addTide_186 ?_
  refine xw_put S 8 1 tyX7 dX7_addTide_187 in_X7_addTide_X7 rfl (by decide) (Or.inl m_X7_addTide_2) (Or.inl rfl) tyX7_ok nmX7 rfl rfl ⟨rfl, rfl⟩ hw (fun h21 hw => ?_)
  refine xr_aload_n S 0 dX7_addTide_190 rfl ?_
  refine xw_getI S 8 1 dX7_addTide_191 in_X7_addTide_X7 rfl (by decide) (Or.inl m_X7_addTide_2) (Or.inl rfl) hw (fun v22 hw => ?_)
  exact E.1 _ _ _ _ _ _ rfl dX7_addTide_194 ⟨_, rfl, hw⟩ (Nat.le_of_ble_eq_true rfl) (Nat.le_of_ble_eq_true rfl)
def w_X7_addTide_108_F (dc : Nat × Nat) (l0 : Nat) (l1 : Int32) (l2 : Int32) (Po : Int32 → XH → Prop) (rec108 : XH × Int32 → Prop) : XH × Int32 → Prop := fun s => match s with
  | (h, l4) =>
  wIf (l4 ≤ 0) (w_X7_addTide_164 dc h l0 l1 l2 l4 Po) (wR h l0 8 2 (fun a23 => wAI h 2 a23 (l4 - 1) (fun v24 => wIf (v24 ≤ l1) (w_X7_addTide_164 dc h l0 l1 l2 l4 Po) (wR h l0 8 2 (fun a25 => wR h l0 8 2 (fun a26 => wAI h 2 a26 (l4 - 1) (fun v27 => wSI h 2 a25 l4 v27 (fun h28 => wR h28 l0 8 3 (fun a29 => wR h28 l0 8 3 (fun a30 => wAI h28 2 a30 (l4 - 1) (fun v31 => wSI h28 2 a29 l4 v31 (fun h32 => (rec108 (h32, (l4 + (-1))))))))))))))))
def w_X7_addTide_108 (dc : Nat × Nat) (l0 : Nat) (l1 : Int32) (l2 : Int32) (Po : Int32 → XH → Prop) : XH × Int32 → Prop := xloop (w_X7_addTide_108_F dc l0 l1 l2 Po)
set_option maxRecDepth 100000 in
set_option maxHeartbeats 4000000 in
theorem k_X7_addTide_108 {V : XVT} {X : XC} {l : Launch} (S : xS V X l RX7 yX7_addTide.name cX7_addTide 5 wsX7_addTide (xRm 2 42 0 0)) (h : XH) (l0 : Nat) (l1 : Int32) (l2 : Int32) (Po : Int32 → XH → Prop) (E : xEnd V cX7_addTide (some .int) 0 0 (xPi Po)) (s0 : XH × Int32) (hw : w_X7_addTide_108 (xdc X) l0 l1 l2 Po s0) : V 0 0 s0.1 108 [(0, .ref l0), (1, .int l1), (2, .int l2), (4, .int s0.2)] [] := by
  refine xloop_use (P := fun s : XH × Int32 => V 0 0 s.1 108 [(0, .ref l0), (1, .int l1), (2, .int l2), (4, .int s.2)] []) (fun rec108 hr108 s hw => ?_) hw
  obtain ⟨h, l4⟩ := s
  try dsimp only
  refine xr_iload S 3 dX7_addTide_108 rfl ?_
  refine xw_if_le S 164 dX7_addTide_110 (by decide) hw (fun c hw => ?_) (fun c hw => ?_)
  · exact k_X7_addTide_164 S h l0 l1 l2 l4 Po E hw
  · refine xr_aload_n S 0 dX7_addTide_113 rfl ?_
    refine xw_getR S 8 2 dX7_addTide_114 in_X7_addTide_X7 rfl (by decide) (Or.inl m_X7_addTide_3) (Or.inl rfl) hw (fun a23 hw => ?_)
    refine xr_iload S 3 dX7_addTide_117 rfl ?_
    refine xr_iconst S (1) dX7_addTide_119 (by decide) ?_
    refine xr_isub S dX7_addTide_120 ?_
    refine xw_iald S 2 dX7_addTide_121 (Or.inr rfl) hw (fun v24 hw => ?_)
    refine xr_iload_n S 1 dX7_addTide_122 rfl ?_
    refine xw_icmp_le S 164 dX7_addTide_123 (by decide) hw (fun c hw => ?_) (fun c hw => ?_)
    · exact k_X7_addTide_164 S h l0 l1 l2 l4 Po E hw
    · refine xr_aload_n S 0 dX7_addTide_126 rfl ?_
      refine xw_getR S 8 2 dX7_addTide_127 in_X7_addTide_X7 rfl (by decide) (Or.inl m_X7_addTide_3) (Or.inl rfl) hw (fun a25 hw => ?_)
      refine xr_iload S 3 dX7_addTide_130 rfl ?_
      refine xr_aload_n S 0 dX7_addTide_132 rfl ?_
      refine xw_getR S 8 2 dX7_addTide_133 in_X7_addTide_X7 rfl (by decide) (Or.inl m_X7_addTide_3) (Or.inl rfl) hw (fun a26 hw => ?_)
      refine xr_iload S 3 dX7_addTide_136 rfl ?_
      refine xr_iconst S (1) dX7_addTide_138 (by decide) ?_
      refine xr_isub S dX7_addTide_139 ?_
      refine xw_iald S 2 dX7_addTide_140 (Or.inr rfl) hw (fun v27 hw => ?_)
      refine xw_iast S 2 dX7_addTide_141 (Or.inr rfl) hw (fun h28 hw => ?_)
      refine xr_aload_n S 0 dX7_addTide_142 rfl ?_
      refine xw_getR S 8 3 dX7_addTide_143 in_X7_addTide_X7 rfl (by decide) (Or.inl m_X7_addTide_4) (Or.inl rfl) hw (fun a29 hw => ?_)
      refine xr_iload S 3 dX7_addTide_146 rfl ?_
      refine xr_aload_n S 0 dX7_addTide_148 rfl ?_
      refine xw_getR S 8 3 dX7_addTide_149 in_X7_addTide_X7 rfl (by decide) (Or.inl m_X7_addTide_4) (Or.inl rfl) hw (fun a30 hw => ?_)
      refine xr_iload S 3 dX7_addTide_152 rfl ?_
      refine xr_iconst S (1) dX7_addTide_154 (by decide) ?_
      refine xr_isub S dX7_addTide_155 ?_
      refine xw_iald S 2 dX7_addTide_156 (Or.inr rfl) hw (fun v31 hw => ?_)
      refine xw_iast S 2 dX7_addTide_157 (Or.inr rfl) hw (fun h32 hw => ?_)
      refine xr_iinc S 3 ((l4 + (-1))) [(4, .int (l4 + (-1))), (0, .ref l0), (1, .int l1), (2, .int l2)] dX7_addTide_158 rfl rfl (by decide) rfl ?_
      refine xr_goto S (tgt := 108) dX7_addTide_161 (by decide) ?_
      refine xr_sub S [(0, .ref l0), (1, .int l1), (2, .int l2), (4, .int (l4 + (-1)))] [1, 2, 3, 0] rfl ?_
      exact hr108 (h32, (l4 + (-1))) hw
def w_X7_addTide_85 (dc : Nat × Nat) (h : XH) (l0 : Nat) (l1 : Int32) (l2 : Int32) (l4 : Int32) (t0 : Int32) (Po : Int32 → XH → Prop) (rec56 : Int32 × Int32 → Prop) : Prop :=
  rec56 (t0, (l4 + 1))
set_option maxRecDepth 100000 in
set_option maxHeartbeats 4000000 in
theorem k_X7_addTide_85 {V : XVT} {X : XC} {l : Launch} (S : xS V X l RX7 yX7_addTide.name cX7_addTide 5 wsX7_addTide (xRm 2 42 0 0)) (h : XH) (l0 : Nat) (l1 : Int32) (l2 : Int32) (l4 : Int32) (t0 : Int32) (Po : Int32 → XH → Prop) (E : xEnd V cX7_addTide (some .int) 0 0 (xPi Po)) (rec56 : Int32 × Int32 → Prop) (hr56 : ∀ s : Int32 × Int32, rec56 s → V 0 0 h 56 [(0, .ref l0), (1, .int l1), (2, .int l2), (3, .int s.1), (4, .int s.2)] []) (hw : w_X7_addTide_85 (xdc X) h l0 l1 l2 l4 t0 Po rec56) : V 0 0 h 85 [(0, .ref l0), (1, .int l1), (2, .int l2), (4, .int l4)] [.int t0] := by
  refine xr_istore_n S [(3, .int t0), (0, .ref l0), (1, .int l1), (2, .int l2), (4, .int l4)] dX7_addTide_85 (by decide) rfl ?_
  refine xr_iinc S 4 ((l4 + 1)) [(4, .int (l4 + 1)), (3, .int t0), (0, .ref l0), (1, .int l1), (2, .int l2)] dX7_addTide_86 rfl rfl (by decide) rfl ?_
  refine xr_goto S (tgt := 56) dX7_addTide_89 (by decide) ?_
  refine xr_sub S [(0, .ref l0), (1, .int l1), (2, .int l2), (3, .int t0), (4, .int (l4 + 1))] [2, 3, 4, 1, 0] rfl ?_
  exact hr56 (t0, (l4 + 1)) hw
def w_X7_addTide_80 (dc : Nat × Nat) (h : XH) (l0 : Nat) (l1 : Int32) (l2 : Int32) (l4 : Int32) (Po : Int32 → XH → Prop) (rec56 : Int32 × Int32 → Prop) : Prop :=
  w_X7_addTide_85 dc h l0 l1 l2 l4 1 Po rec56
set_option maxRecDepth 100000 in
set_option maxHeartbeats 4000000 in
theorem k_X7_addTide_80 {V : XVT} {X : XC} {l : Launch} (S : xS V X l RX7 yX7_addTide.name cX7_addTide 5 wsX7_addTide (xRm 2 42 0 0)) (h : XH) (l0 : Nat) (l1 : Int32) (l2 : Int32) (l4 : Int32) (Po : Int32 → XH → Prop) (E : xEnd V cX7_addTide (some .int) 0 0 (xPi Po)) (rec56 : Int32 × Int32 → Prop) (hr56 : ∀ s : Int32 × Int32, rec56 s → V 0 0 h 56 [(0, .ref l0), (1, .int l1), (2, .int l2), (3, .int s.1), (4, .int s.2)] []) (hw : w_X7_addTide_80 (xdc X) h l0 l1 l2 l4 Po rec56) : V 0 0 h 80 [(0, .ref l0), (1, .int l1), (2, .int l2), (4, .int l4)] [] := by
  refine xr_iconst S (1) dX7_addTide_80 (by decide) ?_
  refine xr_goto S (tgt := 85) dX7_addTide_81 (by decide) ?_
  exact k_X7_addTide_85 S h l0 l1 l2 l4 1 Po E rec56 hr56 hw
def w_X7_addTide_56_F (dc : Nat × Nat) (h : XH) (l0 : Nat) (l1 : Int32) (l2 : Int32) (Po : Int32 → XH → Prop) (rec56 : Int32 × Int32 → Prop) : Int32 × Int32 → Prop := fun s => match s with
  | (l3, l4) =>
  wI h l0 8 1 (fun v14 => wIf (v14 ≤ l4) (wIf (l3 = 0) (wI h l0 8 1 (fun v15 => (w_X7_addTide_108 dc l0 l1 l2 Po (h, v15)))) (wO h l0 8 ( w_X7_fail dc h l0 2 (fun r35 h36 => Po r35 h36)))) (wIf (l3 = 0) (wR h l0 8 2 (fun a38 => wAI h 2 a38 l4 (fun v39 => wIf (v39 = l1) (w_X7_addTide_80 dc h l0 l1 l2 l4 Po rec56) (w_X7_addTide_85 dc h l0 l1 l2 l4 0 Po rec56)))) (w_X7_addTide_80 dc h l0 l1 l2 l4 Po rec56)))
def w_X7_addTide_56 (dc : Nat × Nat) (h : XH) (l0 : Nat) (l1 : Int32) (l2 : Int32) (Po : Int32 → XH → Prop) : Int32 × Int32 → Prop := xloop (w_X7_addTide_56_F dc h l0 l1 l2 Po)
set_option maxRecDepth 100000 in
set_option maxHeartbeats 4000000 in
theorem k_X7_addTide_56 {V : XVT} {X : XC} {l : Launch} (S : xS V X l RX7 yX7_addTide.name cX7_addTide 5 wsX7_addTide (xRm 2 42 0 0)) (h : XH) (l0 : Nat) (l1 : Int32) (l2 : Int32) (Po : Int32 → XH → Prop) (E : xEnd V cX7_addTide (some .int) 0 0 (xPi Po)) (s0 : Int32 × Int32) (hw : w_X7_addTide_56 (xdc X) h l0 l1 l2 Po s0) : V 0 0 h 56 [(0, .ref l0), (1, .int l1), (2, .int l2), (3, .int s0.1), (4, .int s0.2)] [] := by
  refine xloop_use (P := fun s : Int32 × Int32 => V 0 0 h 56 [(0, .ref l0), (1, .int l1), (2, .int l2), (3, .int s.1), (4, .int s.2)] []) (fun rec56 hr56 s hw => ?_) hw
  obtain ⟨l3, l4⟩ := s
  try dsimp only
  refine xr_iload S 4 dX7_addTide_56 rfl ?_
  refine xr_aload_n S 0 dX7_addTide_58 rfl ?_
  refine xw_getI S 8 1 dX7_addTide_59 in_X7_addTide_X7 rfl (by decide) (Or.inl m_X7_addTide_2) (Or.inl rfl) hw (fun v14 hw => ?_)
  refine xw_icmp_ge S 92 dX7_addTide_62 (by decide) hw (fun c hw => ?_) (fun c hw => ?_)
  · refine xr_iload_n S 3 dX7_addTide_92 rfl ?_
    refine xw_if_eq S 102 dX7_addTide_93 (by decide) hw (fun c hw => ?_) (fun c hw => ?_)
    · refine xr_aload_n S 0 dX7_addTide_102 rfl ?_
      refine xw_getI S 8 1 dX7_addTide_103 in_X7_addTide_X7 rfl (by decide) (Or.inl m_X7_addTide_2) (Or.inl rfl) hw (fun v15 hw => ?_)
      refine xr_istore S [(4, .int v15), (0, .ref l0), (1, .int l1), (2, .int l2), (3, .int l3)] dX7_addTide_106 (by decide) rfl ?_
      refine xr_sub S [(0, .ref l0), (1, .int l1), (2, .int l2), (4, .int v15)] [1, 2, 3, 0] rfl ?_
      exact k_X7_addTide_108 S h l0 l1 l2 Po E (h, v15) hw
    · refine xr_aload_n S 0 dX7_addTide_96 rfl ?_
      refine xr_iconst S (2) dX7_addTide_97 (by decide) ?_
      obtain ⟨e33, hw⟩ := hw
      obtain ⟨f34, f34x⟩ := id e33
      refine xr_callV S 8 [.int 2] [] dX7_addTide_98 (k_X7_fail l (xdc X) h l0 2 _ hw) gX7_addTide_X7_fail rfl pd_X7_fail ⟨Nat.le_of_ble_eq_true rfl, Nat.le_of_ble_eq_true rfl⟩ rfl (Nat.le_of_ble_eq_true rfl) ⟨Nat.le_of_ble_eq_true rfl, Nat.le_of_ble_eq_true rfl⟩ f34x rfl (fun v9 h36 hv => ?_)
      obtain ⟨r35, rfl, hw⟩ := hv
      exact E.1 _ _ _ _ _ _ rfl dX7_addTide_101 ⟨_, rfl, hw⟩ (Nat.le_of_ble_eq_true rfl) (Nat.le_of_ble_eq_true rfl)
  · refine xr_iload_n S 3 dX7_addTide_65 rfl ?_
    refine xw_if_ne S 80 dX7_addTide_66 (by decide) hw (fun c hw => ?_) (fun c hw => ?_)
    · refine xr_sub S [(0, .ref l0), (1, .int l1), (2, .int l2), (4, .int l4)] [0, 1, 2, 4] rfl ?_
      exact k_X7_addTide_80 S h l0 l1 l2 l4 Po E rec56 hr56 hw
    · refine xr_aload_n S 0 dX7_addTide_69 rfl ?_
      refine xw_getR S 8 2 dX7_addTide_70 in_X7_addTide_X7 rfl (by decide) (Or.inl m_X7_addTide_3) (Or.inl rfl) hw (fun a38 hw => ?_)
      refine xr_iload S 4 dX7_addTide_73 rfl ?_
      refine xw_iald S 2 dX7_addTide_75 (Or.inr rfl) hw (fun v39 hw => ?_)
      refine xr_iload_n S 1 dX7_addTide_76 rfl ?_
      refine xw_icmp_ne S 84 dX7_addTide_77 (by decide) hw (fun c hw => ?_) (fun c hw => ?_)
      · refine xr_iconst S (0) dX7_addTide_84 (by decide) ?_
        refine xr_sub S [(0, .ref l0), (1, .int l1), (2, .int l2), (4, .int l4)] [0, 1, 2, 4] rfl ?_
        exact k_X7_addTide_85 S h l0 l1 l2 l4 0 Po E rec56 hr56 hw
      · refine xr_sub S [(0, .ref l0), (1, .int l1), (2, .int l2), (4, .int l4)] [0, 1, 2, 4] rfl ?_
        exact k_X7_addTide_80 S h l0 l1 l2 l4 Po E rec56 hr56 hw
def w_X7_addTide_52 (dc : Nat × Nat) (h : XH) (l0 : Nat) (l1 : Int32) (l2 : Int32) (t0 : Int32) (Po : Int32 → XH → Prop) : Prop :=
  w_X7_addTide_56 dc h l0 l1 l2 Po (t0, 0)
set_option maxRecDepth 100000 in
set_option maxHeartbeats 4000000 in
theorem k_X7_addTide_52 {V : XVT} {X : XC} {l : Launch} (S : xS V X l RX7 yX7_addTide.name cX7_addTide 5 wsX7_addTide (xRm 2 42 0 0)) (h : XH) (l0 : Nat) (l1 : Int32) (l2 : Int32) (t0 : Int32) (Po : Int32 → XH → Prop) (E : xEnd V cX7_addTide (some .int) 0 0 (xPi Po)) (hw : w_X7_addTide_52 (xdc X) h l0 l1 l2 t0 Po) : V 0 0 h 52 [(0, .ref l0), (1, .int l1), (2, .int l2)] [.int t0] := by
  refine xr_istore_n S [(3, .int t0), (0, .ref l0), (1, .int l1), (2, .int l2)] dX7_addTide_52 (by decide) rfl ?_
  refine xr_iconst S (0) dX7_addTide_53 (by decide) ?_
  refine xr_istore S [(4, .int 0), (3, .int t0), (0, .ref l0), (1, .int l1), (2, .int l2)] dX7_addTide_54 (by decide) rfl ?_
  refine xr_sub S [(0, .ref l0), (1, .int l1), (2, .int l2), (3, .int t0), (4, .int 0)] [2, 3, 4, 1, 0] rfl ?_
  exact k_X7_addTide_56 S h l0 l1 l2 Po E (t0, 0) hw
def w_X7_addTide_47 (dc : Nat × Nat) (h : XH) (l0 : Nat) (l1 : Int32) (l2 : Int32) (Po : Int32 → XH → Prop) : Prop :=
  w_X7_addTide_52 dc h l0 l1 l2 1 Po
set_option maxRecDepth 100000 in
set_option maxHeartbeats 4000000 in
theorem k_X7_addTide_47 {V : XVT} {X : XC} {l : Launch} (S : xS V X l RX7 yX7_addTide.name cX7_addTide 5 wsX7_addTide (xRm 2 42 0 0)) (h : XH) (l0 : Nat) (l1 : Int32) (l2 : Int32) (Po : Int32 → XH → Prop) (E : xEnd V cX7_addTide (some .int) 0 0 (xPi Po)) (hw : w_X7_addTide_47 (xdc X) h l0 l1 l2 Po) : V 0 0 h 47 [(0, .ref l0), (1, .int l1), (2, .int l2)] [] := by
  refine xr_iconst S (1) dX7_addTide_47 (by decide) ?_
  refine xr_goto S (tgt := 52) dX7_addTide_48 (by decide) ?_
  exact k_X7_addTide_52 S h l0 l1 l2 1 Po E hw
def w_X7_addTide (dc : Nat × Nat) (h : XH) (l0 : Nat) (l1 : Int32) (l2 : Int32) (Po : Int32 → XH → Prop) : Prop :=
  wP h l0 8 0 (.int 0) (fun h1 => w_X7_isTime dc h1 l1 (fun r2 => wIf (r2 = 0) (w_X7_addTide_25 dc h1 l0 Po) (w_X7_isIn dc h1 l2 (-300) 900 (fun r10 => wIf (r10 = 0) (w_X7_addTide_25 dc h1 l0 Po) (wI h1 l0 8 1 (fun v13 => wIf (v13 = 30) (w_X7_addTide_47 dc h1 l0 l1 l2 Po) (wI h1 l0 8 16 (fun v40 => wIf (v40 ≤ 0) (w_X7_addTide_52 dc h1 l0 l1 l2 0 Po) (w_X7_addTide_47 dc h1 l0 l1 l2 Po)))))))))
set_option maxRecDepth 100000 in
set_option maxHeartbeats 4000000 in
theorem k_X7_addTide (l : Launch) (dc : Nat × Nat) (h : XH) (l0 : Nat) (l1 : Int32) (l2 : Int32) (Po : Int32 → XH → Prop) (hw : w_X7_addTide dc h l0 l1 l2 Po) : xM l dc yX7_addTide wsX7_addTide 2 42 0 0 [.ref l0, .int l1, .int l2] h (xPi Po) := by
  refine xM_of [(0, .ref l0), (1, .int l1), (2, .int l2)] (own := RX7) (cc := cX7_addTide) (nL := 5) (ret := (some .int)) (by decide +kernel) rfl rfl (Nat.le_of_ble_eq_true rfl) rfl ?_
  intro X V hX S E
  subst hX
  refine xr_aload_n S 0 dX7_addTide_0 rfl ?_
  refine xr_iconst S (0) dX7_addTide_1 (by decide) ?_
  refine xw_put S 8 0 tyX7 dX7_addTide_2 in_X7_addTide_X7 rfl (by decide) (Or.inl m_X7_addTide_1) (Or.inl rfl) tyX7_ok nmX7 rfl rfl ⟨rfl, rfl⟩ hw (fun h1 hw => ?_)
  refine xr_iload_n S 1 dX7_addTide_5 rfl ?_
  refine xr_callS S [.int l1] [] dX7_addTide_6 (k_X7_isTime l (xdc X) h1 l1 _ hw) gX7_addTide_X7_isTime rfl pd_X7_isTime ⟨Nat.le_of_ble_eq_true rfl, Nat.le_of_ble_eq_true rfl⟩ rfl (Nat.le_of_ble_eq_true rfl) ⟨Nat.le_of_ble_eq_true rfl, Nat.le_of_ble_eq_true rfl⟩ (fun v9 h4 hv => ?_)
  obtain ⟨r2, rfl, rfl, hw⟩ := hv
  refine xw_if_eq S 25 dX7_addTide_9 (by decide) hw (fun c hw => ?_) (fun c hw => ?_)
  · refine xr_sub S [(0, .ref l0)] [0] rfl ?_
    exact k_X7_addTide_25 S h1 l0 Po E hw
  · refine xr_iload_n S 2 dX7_addTide_12 rfl ?_
    refine xr_sipush S (-300) dX7_addTide_13 (by decide) ?_
    refine xr_sipush S (900) dX7_addTide_16 (by decide) ?_
    refine xr_callS S [.int l2, .int (-300), .int 900] [] dX7_addTide_19 (k_X7_isIn l (xdc X) h1 l2 (-300) 900 _ hw) gX7_addTide_X7_isIn rfl pd_X7_isIn ⟨Nat.le_of_ble_eq_true rfl, Nat.le_of_ble_eq_true rfl⟩ rfl (Nat.le_of_ble_eq_true rfl) ⟨Nat.le_of_ble_eq_true rfl, Nat.le_of_ble_eq_true rfl⟩ (fun v9 h12 hv => ?_)
    obtain ⟨r10, rfl, rfl, hw⟩ := hv
    refine xw_if_ne S 31 dX7_addTide_22 (by decide) hw (fun c hw => ?_) (fun c hw => ?_)
    · refine xr_aload_n S 0 dX7_addTide_31 rfl ?_
      refine xw_getI S 8 1 dX7_addTide_32 in_X7_addTide_X7 rfl (by decide) (Or.inl m_X7_addTide_2) (Or.inl rfl) hw (fun v13 hw => ?_)
      refine xr_bipush S (30) dX7_addTide_35 (by decide) ?_
      refine xw_icmp_eq S 47 dX7_addTide_37 (by decide) hw (fun c hw => ?_) (fun c hw => ?_)
      · exact k_X7_addTide_47 S h1 l0 l1 l2 Po E hw
      · refine xr_aload_n S 0 dX7_addTide_40 rfl ?_
        refine xw_getI S 8 16 dX7_addTide_41 in_X7_addTide_X7 rfl (by decide) (Or.inl m_X7_addTide_5) (Or.inl rfl) hw (fun v40 hw => ?_)
        refine xw_if_le S 51 dX7_addTide_44 (by decide) hw (fun c hw => ?_) (fun c hw => ?_)
        · refine xr_iconst S (0) dX7_addTide_51 (by decide) ?_
          exact k_X7_addTide_52 S h1 l0 l1 l2 0 Po E hw
        · exact k_X7_addTide_47 S h1 l0 l1 l2 Po E hw
    · refine xr_sub S [(0, .ref l0)] [0] rfl ?_
      exact k_X7_addTide_25 S h1 l0 Po E hw
theorem in_X7_heightAt_X7 : ∀ w ∈ wsX70, w ∈ wsX7_heightAt := by decide +kernel
theorem m_X7_heightAt_1 : Cond.fieldLink RX7 69 "PilotBookModel" "points" "I" ∈ wsX7_heightAt := by decide +kernel
theorem m_X7_heightAt_2 : Cond.fieldLink RX7 13 "PilotBookModel" "heights" "[I" ∈ wsX7_heightAt := by decide +kernel
theorem m_X7_heightAt_3 : Cond.fieldLink RX7 9 "PilotBookModel" "times" "[I" ∈ wsX7_heightAt := by decide +kernel
def w_X7_heightAt_69 (dc : Nat × Nat) (h : XH) (l0 : Nat) (l2 : Int32) (Po : Int32 → Prop) : Prop :=
  wR h l0 8 3 (fun a4 => wAI h 2 a4 l2 (fun v5 => Po v5))
set_option maxRecDepth 100000 in
set_option maxHeartbeats 4000000 in
theorem k_X7_heightAt_69 {V : XVT} {X : XC} {l : Launch} (S : xS V X l RX7 yX7_heightAt.name cX7_heightAt 4 wsX7_heightAt (xRm 0 0 0 0)) (h : XH) (l0 : Nat) (l2 : Int32) (Po : Int32 → Prop) (E : xEnd V cX7_heightAt (some .int) 0 0 (xRi h Po)) (hw : w_X7_heightAt_69 (xdc X) h l0 l2 Po) : V 0 0 h 69 [(0, .ref l0), (2, .int l2)] [] := by
  refine xr_aload_n S 0 dX7_heightAt_69 rfl ?_
  refine xw_getR S 8 3 dX7_heightAt_70 in_X7_heightAt_X7 rfl (by decide) (Or.inl m_X7_heightAt_2) (Or.inl rfl) hw (fun a4 hw => ?_)
  refine xr_iload_n S 1 dX7_heightAt_73 rfl ?_
  refine xw_iald S 2 dX7_heightAt_74 (Or.inr rfl) hw (fun v5 hw => ?_)
  exact E.1 _ _ _ _ _ _ rfl dX7_heightAt_75 ⟨_, rfl, rfl, hw⟩ (Nat.le_of_ble_eq_true rfl) (Nat.le_of_ble_eq_true rfl)
def w_X7_heightAt_35 (dc : Nat × Nat) (h : XH) (l0 : Nat) (l1 : Int32) (l2 : Int32) (Po : Int32 → Prop) : Prop :=
  wI h l0 8 1 (fun v3 => wIf (l2 = v3) (wR h l0 8 3 (fun a21 => wI h l0 8 1 (fun v22 => wAI h 2 a21 (v22 - 1) (fun v23 => Po v23)))) (wIf (l2 = 0) (w_X7_heightAt_69 dc h l0 l2 Po) (wR h l0 8 2 (fun a6 => wAI h 2 a6 l2 (fun v7 => wIf (v7 = l1) (w_X7_heightAt_69 dc h l0 l2 Po) (wR h l0 8 3 (fun a8 => wAI h 2 a8 (l2 - 1) (fun v9 => wR h l0 8 3 (fun a10 => wAI h 2 a10 l2 (fun v11 => wR h l0 8 3 (fun a12 => wAI h 2 a12 (l2 - 1) (fun v13 => wR h l0 8 2 (fun a14 => wAI h 2 a14 (l2 - 1) (fun v15 => wR h l0 8 2 (fun a16 => wAI h 2 a16 l2 (fun v17 => wR h l0 8 2 (fun a18 => wAI h 2 a18 (l2 - 1) (fun v19 => wDiv (v17 - v19) ( Po (v9 + (((v11 - v13) * (l1 - v15)) / (v17 - v19))))))))))))))))))))))
set_option maxRecDepth 100000 in
set_option maxHeartbeats 4000000 in
theorem k_X7_heightAt_35 {V : XVT} {X : XC} {l : Launch} (S : xS V X l RX7 yX7_heightAt.name cX7_heightAt 4 wsX7_heightAt (xRm 0 0 0 0)) (h : XH) (l0 : Nat) (l1 : Int32) (l2 : Int32) (Po : Int32 → Prop) (E : xEnd V cX7_heightAt (some .int) 0 0 (xRi h Po)) (hw : w_X7_heightAt_35 (xdc X) h l0 l1 l2 Po) : V 0 0 h 35 [(0, .ref l0), (1, .int l1), (2, .int l2)] [] := by
  refine xr_iload_n S 2 dX7_heightAt_35 rfl ?_
  refine xr_aload_n S 0 dX7_heightAt_36 rfl ?_
  refine xw_getI S 8 1 dX7_heightAt_37 in_X7_heightAt_X7 rfl (by decide) (Or.inl m_X7_heightAt_1) (Or.inl rfl) hw (fun v3 hw => ?_)
  refine xw_icmp_ne S 55 dX7_heightAt_40 (by decide) hw (fun c hw => ?_) (fun c hw => ?_)
  · refine xr_iload_n S 2 dX7_heightAt_55 rfl ?_
    refine xw_if_eq S 69 dX7_heightAt_56 (by decide) hw (fun c hw => ?_) (fun c hw => ?_)
    · refine xr_sub S [(0, .ref l0), (2, .int l2)] [0, 2] rfl ?_
      exact k_X7_heightAt_69 S h l0 l2 Po E hw
    · refine xr_aload_n S 0 dX7_heightAt_59 rfl ?_
      refine xw_getR S 8 2 dX7_heightAt_60 in_X7_heightAt_X7 rfl (by decide) (Or.inl m_X7_heightAt_3) (Or.inl rfl) hw (fun a6 hw => ?_)
      refine xr_iload_n S 2 dX7_heightAt_63 rfl ?_
      refine xw_iald S 2 dX7_heightAt_64 (Or.inr rfl) hw (fun v7 hw => ?_)
      refine xr_iload_n S 1 dX7_heightAt_65 rfl ?_
      refine xw_icmp_ne S 76 dX7_heightAt_66 (by decide) hw (fun c hw => ?_) (fun c hw => ?_)
      · refine xr_iload_n S 2 dX7_heightAt_76 rfl ?_
        refine xr_iconst S (1) dX7_heightAt_77 (by decide) ?_
        refine xr_isub S dX7_heightAt_78 ?_
        refine xr_istore_n S [(3, .int (l2 - 1)), (0, .ref l0), (1, .int l1), (2, .int l2)] dX7_heightAt_79 (by decide) rfl ?_
        refine xr_aload_n S 1 dX7_heightAt_80 rfl ?_
        refine xw_getR S 8 3 dX7_heightAt_81 in_X7_heightAt_X7 rfl (by decide) (Or.inl m_X7_heightAt_2) (Or.inl rfl) hw (fun a8 hw => ?_)
        refine xr_iload_n S 0 dX7_heightAt_84 rfl ?_
        refine xw_iald S 2 dX7_heightAt_85 (Or.inr rfl) hw (fun v9 hw => ?_)
        refine xr_aload_n S 1 dX7_heightAt_86 rfl ?_
        refine xw_getR S 8 3 dX7_heightAt_87 in_X7_heightAt_X7 rfl (by decide) (Or.inl m_X7_heightAt_2) (Or.inl rfl) hw (fun a10 hw => ?_)
        refine xr_iload_n S 3 dX7_heightAt_90 rfl ?_
        refine xw_iald S 2 dX7_heightAt_91 (Or.inr rfl) hw (fun v11 hw => ?_)
        refine xr_aload_n S 1 dX7_heightAt_92 rfl ?_
        refine xw_getR S 8 3 dX7_heightAt_93 in_X7_heightAt_X7 rfl (by decide) (Or.inl m_X7_heightAt_2) (Or.inl rfl) hw (fun a12 hw => ?_)
        refine xr_iload_n S 0 dX7_heightAt_96 rfl ?_
        refine xw_iald S 2 dX7_heightAt_97 (Or.inr rfl) hw (fun v13 hw => ?_)
        refine xr_isub S dX7_heightAt_98 ?_
        refine xr_iload_n S 2 dX7_heightAt_99 rfl ?_
        refine xr_aload_n S 1 dX7_heightAt_100 rfl ?_
        refine xw_getR S 8 2 dX7_heightAt_101 in_X7_heightAt_X7 rfl (by decide) (Or.inl m_X7_heightAt_3) (Or.inl rfl) hw (fun a14 hw => ?_)
        refine xr_iload_n S 0 dX7_heightAt_104 rfl ?_
        refine xw_iald S 2 dX7_heightAt_105 (Or.inr rfl) hw (fun v15 hw => ?_)
        refine xr_isub S dX7_heightAt_106 ?_
        refine xr_imul S dX7_heightAt_107 ?_
        refine xr_aload_n S 1 dX7_heightAt_108 rfl ?_
        refine xw_getR S 8 2 dX7_heightAt_109 in_X7_heightAt_X7 rfl (by decide) (Or.inl m_X7_heightAt_3) (Or.inl rfl) hw (fun a16 hw => ?_)
        refine xr_iload_n S 3 dX7_heightAt_112 rfl ?_
        refine xw_iald S 2 dX7_heightAt_113 (Or.inr rfl) hw (fun v17 hw => ?_)
        refine xr_aload_n S 1 dX7_heightAt_114 rfl ?_
        refine xw_getR S 8 2 dX7_heightAt_115 in_X7_heightAt_X7 rfl (by decide) (Or.inl m_X7_heightAt_3) (Or.inl rfl) hw (fun a18 hw => ?_)
        refine xr_iload_n S 0 dX7_heightAt_118 rfl ?_
        refine xw_iald S 2 dX7_heightAt_119 (Or.inr rfl) hw (fun v19 hw => ?_)
        refine xr_isub S dX7_heightAt_120 ?_
        obtain ⟨hn20, hw⟩ := hw
        refine xr_idiv S dX7_heightAt_121 hn20 ?_
        refine xr_iadd S dX7_heightAt_122 ?_
        exact E.1 _ _ _ _ _ _ rfl dX7_heightAt_123 ⟨_, rfl, rfl, hw⟩ (Nat.le_of_ble_eq_true rfl) (Nat.le_of_ble_eq_true rfl)
      · refine xr_sub S [(0, .ref l0), (2, .int l2)] [0, 2] rfl ?_
        exact k_X7_heightAt_69 S h l0 l2 Po E hw
  · refine xr_aload_n S 0 dX7_heightAt_43 rfl ?_
    refine xw_getR S 8 3 dX7_heightAt_44 in_X7_heightAt_X7 rfl (by decide) (Or.inl m_X7_heightAt_2) (Or.inl rfl) hw (fun a21 hw => ?_)
    refine xr_aload_n S 0 dX7_heightAt_47 rfl ?_
    refine xw_getI S 8 1 dX7_heightAt_48 in_X7_heightAt_X7 rfl (by decide) (Or.inl m_X7_heightAt_1) (Or.inl rfl) hw (fun v22 hw => ?_)
    refine xr_iconst S (1) dX7_heightAt_51 (by decide) ?_
    refine xr_isub S dX7_heightAt_52 ?_
    refine xw_iald S 2 dX7_heightAt_53 (Or.inr rfl) hw (fun v23 hw => ?_)
    exact E.1 _ _ _ _ _ _ rfl dX7_heightAt_54 ⟨_, rfl, rfl, hw⟩ (Nat.le_of_ble_eq_true rfl) (Nat.le_of_ble_eq_true rfl)
def w_X7_heightAt_11_F (dc : Nat × Nat) (h : XH) (l0 : Nat) (l1 : Int32) (Po : Int32 → Prop) (rec11 : Int32 → Prop) : Int32 → Prop := fun l2 =>
  wI h l0 8 1 (fun v2 => wIf (v2 ≤ l2) (w_X7_heightAt_35 dc h l0 l1 l2 Po) (wR h l0 8 2 (fun a24 => wAI h 2 a24 l2 (fun v25 => wIf (l1 ≤ v25) (w_X7_heightAt_35 dc h l0 l1 l2 Po) (rec11 (l2 + 1))))))
def w_X7_heightAt_11 (dc : Nat × Nat) (h : XH) (l0 : Nat) (l1 : Int32) (Po : Int32 → Prop) : Int32 → Prop := xloop (w_X7_heightAt_11_F dc h l0 l1 Po)
set_option maxRecDepth 100000 in
set_option maxHeartbeats 4000000 in
theorem k_X7_heightAt_11 {V : XVT} {X : XC} {l : Launch} (S : xS V X l RX7 yX7_heightAt.name cX7_heightAt 4 wsX7_heightAt (xRm 0 0 0 0)) (h : XH) (l0 : Nat) (l1 : Int32) (Po : Int32 → Prop) (E : xEnd V cX7_heightAt (some .int) 0 0 (xRi h Po)) (s0 : Int32) (hw : w_X7_heightAt_11 (xdc X) h l0 l1 Po s0) : V 0 0 h 11 [(0, .ref l0), (1, .int l1), (2, .int s0)] [] := by
  refine xloop_use (P := fun s : Int32 => V 0 0 h 11 [(0, .ref l0), (1, .int l1), (2, .int s)] []) (fun rec11 hr11 s hw => ?_) hw
  obtain ⟨l2, rfl⟩ : ∃ z, z = s := ⟨s, rfl⟩
  refine xr_iload_n S 2 dX7_heightAt_11 rfl ?_
  refine xr_aload_n S 0 dX7_heightAt_12 rfl ?_
  refine xw_getI S 8 1 dX7_heightAt_13 in_X7_heightAt_X7 rfl (by decide) (Or.inl m_X7_heightAt_1) (Or.inl rfl) hw (fun v2 hw => ?_)
  refine xw_icmp_ge S 35 dX7_heightAt_16 (by decide) hw (fun c hw => ?_) (fun c hw => ?_)
  · exact k_X7_heightAt_35 S h l0 l1 l2 Po E hw
  · refine xr_aload_n S 0 dX7_heightAt_19 rfl ?_
    refine xw_getR S 8 2 dX7_heightAt_20 in_X7_heightAt_X7 rfl (by decide) (Or.inl m_X7_heightAt_3) (Or.inl rfl) hw (fun a24 hw => ?_)
    refine xr_iload_n S 2 dX7_heightAt_23 rfl ?_
    refine xw_iald S 2 dX7_heightAt_24 (Or.inr rfl) hw (fun v25 hw => ?_)
    refine xr_iload_n S 1 dX7_heightAt_25 rfl ?_
    refine xw_icmp_ge S 35 dX7_heightAt_26 (by decide) hw (fun c hw => ?_) (fun c hw => ?_)
    · exact k_X7_heightAt_35 S h l0 l1 l2 Po E hw
    · refine xr_iinc S 2 ((l2 + 1)) [(2, .int (l2 + 1)), (0, .ref l0), (1, .int l1)] dX7_heightAt_29 rfl rfl (by decide) rfl ?_
      refine xr_goto S (tgt := 11) dX7_heightAt_32 (by decide) ?_
      refine xr_sub S [(0, .ref l0), (1, .int l1), (2, .int (l2 + 1))] [1, 2, 0] rfl ?_
      exact hr11 (l2 + 1) hw
def w_X7_heightAt (dc : Nat × Nat) (h : XH) (l0 : Nat) (l1 : Int32) (Po : Int32 → Prop) : Prop :=
  wI h l0 8 1 (fun v1 => wIf (v1 = 0) (Po 0) (w_X7_heightAt_11 dc h l0 l1 Po 0))
set_option maxRecDepth 100000 in
set_option maxHeartbeats 4000000 in
theorem k_X7_heightAt (l : Launch) (dc : Nat × Nat) (h : XH) (l0 : Nat) (l1 : Int32) (Po : Int32 → Prop) (hw : w_X7_heightAt dc h l0 l1 Po) : xM l dc yX7_heightAt wsX7_heightAt 0 0 0 0 [.ref l0, .int l1] h (xRi h Po) := by
  refine xM_of [(0, .ref l0), (1, .int l1)] (own := RX7) (cc := cX7_heightAt) (nL := 4) (ret := (some .int)) (by decide +kernel) rfl rfl (Nat.le_of_ble_eq_true rfl) rfl ?_
  intro X V hX S E
  subst hX
  refine xr_aload_n S 0 dX7_heightAt_0 rfl ?_
  refine xw_getI S 8 1 dX7_heightAt_1 in_X7_heightAt_X7 rfl (by decide) (Or.inl m_X7_heightAt_1) (Or.inl rfl) hw (fun v1 hw => ?_)
  refine xw_if_ne S 9 dX7_heightAt_4 (by decide) hw (fun c hw => ?_) (fun c hw => ?_)
  · refine xr_iconst S (0) dX7_heightAt_9 (by decide) ?_
    refine xr_istore_n S [(2, .int 0), (0, .ref l0), (1, .int l1)] dX7_heightAt_10 (by decide) rfl ?_
    refine xr_sub S [(0, .ref l0), (1, .int l1), (2, .int 0)] [1, 2, 0] rfl ?_
    exact k_X7_heightAt_11 S h l0 l1 Po E 0 hw
  · refine xr_iconst S (0) dX7_heightAt_7 (by decide) ?_
    exact E.1 _ _ _ _ _ _ rfl dX7_heightAt_8 ⟨_, rfl, rfl, hw⟩ (Nat.le_of_ble_eq_true rfl) (Nat.le_of_ble_eq_true rfl)
theorem in_X7_height_X7 : ∀ w ∈ wsX70, w ∈ wsX7_height := by decide +kernel
theorem m_X7_height_1 : Cond.fieldLink RX7 48 "PilotBookModel" "thrown" "I" ∈ wsX7_height := by decide +kernel
def w_X7_height (dc : Nat × Nat) (h : XH) (l0 : Nat) (l1 : Int32) (Po : Int32 → XH → Prop) : Prop :=
  wP h l0 8 0 (.int 0) (fun h1 => w_X7_isTime dc h1 l1 (fun r2 => wIf (r2 = 0) (wO h1 l0 8 ( w_X7_fail dc h1 l0 1 (fun r7 h8 => Po r7 h8))) (wO h1 l0 8 ( w_X7_heightAt dc h1 l0 l1 (fun r12 => Po r12 h1)))))
set_option maxRecDepth 100000 in
set_option maxHeartbeats 4000000 in
theorem k_X7_height (l : Launch) (dc : Nat × Nat) (h : XH) (l0 : Nat) (l1 : Int32) (Po : Int32 → XH → Prop) (hw : w_X7_height dc h l0 l1 Po) : xM l dc yX7_height wsX7_height 2 42 0 0 [.ref l0, .int l1] h (xPi Po) := by
  refine xM_of [(0, .ref l0), (1, .int l1)] (own := RX7) (cc := cX7_height) (nL := 2) (ret := (some .int)) (by decide +kernel) rfl rfl (Nat.le_of_ble_eq_true rfl) rfl ?_
  intro X V hX S E
  subst hX
  refine xr_aload_n S 0 dX7_height_0 rfl ?_
  refine xr_iconst S (0) dX7_height_1 (by decide) ?_
  refine xw_put S 8 0 tyX7 dX7_height_2 in_X7_height_X7 rfl (by decide) (Or.inl m_X7_height_1) (Or.inl rfl) tyX7_ok nmX7 rfl rfl ⟨rfl, rfl⟩ hw (fun h1 hw => ?_)
  refine xr_iload_n S 1 dX7_height_5 rfl ?_
  refine xr_callS S [.int l1] [] dX7_height_6 (k_X7_isTime l (xdc X) h1 l1 _ hw) gX7_height_X7_isTime rfl pd_X7_isTime ⟨Nat.le_of_ble_eq_true rfl, Nat.le_of_ble_eq_true rfl⟩ rfl (Nat.le_of_ble_eq_true rfl) ⟨Nat.le_of_ble_eq_true rfl, Nat.le_of_ble_eq_true rfl⟩ (fun v9 h4 hv => ?_)
  obtain ⟨r2, rfl, rfl, hw⟩ := hv
  refine xw_if_eq S 20 dX7_height_9 (by decide) hw (fun c hw => ?_) (fun c hw => ?_)
  · refine xr_aload_n S 0 dX7_height_20 rfl ?_
    refine xr_iconst S (1) dX7_height_21 (by decide) ?_
    obtain ⟨e5, hw⟩ := hw
    obtain ⟨f6, f6x⟩ := id e5
    refine xr_callV S 8 [.int 1] [] dX7_height_22 (k_X7_fail l (xdc X) h1 l0 1 _ hw) gX7_height_X7_fail rfl pd_X7_fail ⟨Nat.le_of_ble_eq_true rfl, Nat.le_of_ble_eq_true rfl⟩ rfl (Nat.le_of_ble_eq_true rfl) ⟨Nat.le_of_ble_eq_true rfl, Nat.le_of_ble_eq_true rfl⟩ f6x rfl (fun v9 h8 hv => ?_)
    obtain ⟨r7, rfl, hw⟩ := hv
    exact E.1 _ _ _ _ _ _ rfl dX7_height_25 ⟨_, rfl, hw⟩ (Nat.le_of_ble_eq_true rfl) (Nat.le_of_ble_eq_true rfl)
  · refine xr_aload_n S 0 dX7_height_12 rfl ?_
    refine xr_iload_n S 1 dX7_height_13 rfl ?_
    obtain ⟨e10, hw⟩ := hw
    obtain ⟨f11, f11x⟩ := id e10
    refine xr_callV S 8 [.int l1] [] dX7_height_14 (k_X7_heightAt l (xdc X) h1 l0 l1 _ hw) gX7_height_X7_heightAt rfl pd_X7_heightAt ⟨Nat.le_of_ble_eq_true rfl, Nat.le_of_ble_eq_true rfl⟩ rfl (Nat.le_of_ble_eq_true rfl) ⟨Nat.le_of_ble_eq_true rfl, Nat.le_of_ble_eq_true rfl⟩ f11x rfl (fun v9 h14 hv => ?_)
    obtain ⟨r12, rfl, rfl, hw⟩ := hv
    refine xr_goto S (tgt := 25) dX7_height_17 (by decide) ?_
    exact E.1 _ _ _ _ _ _ rfl dX7_height_25 ⟨_, rfl, hw⟩ (Nat.le_of_ble_eq_true rfl) (Nat.le_of_ble_eq_true rfl)
theorem in_X7_setWater_X7 : ∀ w ∈ wsX70, w ∈ wsX7_setWater := by decide +kernel
theorem m_X7_setWater_1 : Cond.fieldLink RX7 48 "PilotBookModel" "thrown" "I" ∈ wsX7_setWater := by decide +kernel
theorem m_X7_setWater_2 : Cond.fieldLink RX7 16 "PilotBookModel" "barDepth" "I" ∈ wsX7_setWater := by decide +kernel
theorem m_X7_setWater_3 : Cond.fieldLink RX7 20 "PilotBookModel" "margin" "I" ∈ wsX7_setWater := by decide +kernel
def w_X7_setWater_29 (dc : Nat × Nat) (h : XH) (l0 : Nat) (Po : Int32 → XH → Prop) : Prop :=
  wO h l0 8 ( w_X7_fail dc h l0 1 (fun r7 h8 => Po r7 h8))
set_option maxRecDepth 100000 in
set_option maxHeartbeats 4000000 in
theorem k_X7_setWater_29 {V : XVT} {X : XC} {l : Launch} (S : xS V X l RX7 yX7_setWater.name cX7_setWater 4 wsX7_setWater (xRm 1 22 0 0)) (h : XH) (l0 : Nat) (Po : Int32 → XH → Prop) (E : xEnd V cX7_setWater (some .int) 0 0 (xPi Po)) (hw : w_X7_setWater_29 (xdc X) h l0 Po) : V 0 0 h 29 [(0, .ref l0)] [] := by
  refine xr_aload_n S 0 dX7_setWater_29 rfl ?_
  refine xr_iconst S (1) dX7_setWater_30 (by decide) ?_
  obtain ⟨e5, hw⟩ := hw
  obtain ⟨f6, f6x⟩ := id e5
  refine xr_callV S 8 [.int 1] [] dX7_setWater_31 (k_X7_fail l (xdc X) h l0 1 _ hw) gX7_setWater_X7_fail rfl pd_X7_fail ⟨Nat.le_of_ble_eq_true rfl, Nat.le_of_ble_eq_true rfl⟩ rfl (Nat.le_of_ble_eq_true rfl) ⟨Nat.le_of_ble_eq_true rfl, Nat.le_of_ble_eq_true rfl⟩ f6x rfl (fun v9 h8 hv => ?_)
  obtain ⟨r7, rfl, hw⟩ := hv
  exact E.1 _ _ _ _ _ _ rfl dX7_setWater_34 ⟨_, rfl, hw⟩ (Nat.le_of_ble_eq_true rfl) (Nat.le_of_ble_eq_true rfl)
def w_X7_setWater (dc : Nat × Nat) (h : XH) (l0 : Nat) (l1 : Int32) (l2 : Int32) (Po : Int32 → XH → Prop) : Prop :=
  wP h l0 8 0 (.int 0) (fun h1 => w_X7_isIn dc h1 l1 300 2500 (fun r2 => wIf (r2 = 0) (w_X7_setWater_29 dc h1 l0 Po) (w_X7_isIn dc h1 l2 0 500 (fun r10 => wIf (r10 = 0) (w_X7_setWater_29 dc h1 l0 Po) (wI h1 l0 8 4 (fun v13 => wP h1 l0 8 4 (.int l1) (fun h14 => wP h14 l0 8 5 (.int l2) (fun h15 => Po v13 h15))))))))
set_option maxRecDepth 100000 in
set_option maxHeartbeats 4000000 in
theorem k_X7_setWater (l : Launch) (dc : Nat × Nat) (h : XH) (l0 : Nat) (l1 : Int32) (l2 : Int32) (Po : Int32 → XH → Prop) (hw : w_X7_setWater dc h l0 l1 l2 Po) : xM l dc yX7_setWater wsX7_setWater 1 22 0 0 [.ref l0, .int l1, .int l2] h (xPi Po) := by
  refine xM_of [(0, .ref l0), (1, .int l1), (2, .int l2)] (own := RX7) (cc := cX7_setWater) (nL := 4) (ret := (some .int)) (by decide +kernel) rfl rfl (Nat.le_of_ble_eq_true rfl) rfl ?_
  intro X V hX S E
  subst hX
  refine xr_aload_n S 0 dX7_setWater_0 rfl ?_
  refine xr_iconst S (0) dX7_setWater_1 (by decide) ?_
  refine xw_put S 8 0 tyX7 dX7_setWater_2 in_X7_setWater_X7 rfl (by decide) (Or.inl m_X7_setWater_1) (Or.inl rfl) tyX7_ok nmX7 rfl rfl ⟨rfl, rfl⟩ hw (fun h1 hw => ?_)
  refine xr_iload_n S 1 dX7_setWater_5 rfl ?_
  refine xr_sipush S (300) dX7_setWater_6 (by decide) ?_
  refine xr_sipush S (2500) dX7_setWater_9 (by decide) ?_
  refine xr_callS S [.int l1, .int 300, .int 2500] [] dX7_setWater_12 (k_X7_isIn l (xdc X) h1 l1 300 2500 _ hw) gX7_setWater_X7_isIn rfl pd_X7_isIn ⟨Nat.le_of_ble_eq_true rfl, Nat.le_of_ble_eq_true rfl⟩ rfl (Nat.le_of_ble_eq_true rfl) ⟨Nat.le_of_ble_eq_true rfl, Nat.le_of_ble_eq_true rfl⟩ (fun v9 h4 hv => ?_)
  obtain ⟨r2, rfl, rfl, hw⟩ := hv
  refine xw_if_eq S 29 dX7_setWater_15 (by decide) hw (fun c hw => ?_) (fun c hw => ?_)
  · refine xr_sub S [(0, .ref l0)] [0] rfl ?_
    exact k_X7_setWater_29 S h1 l0 Po E hw
  · refine xr_iload_n S 2 dX7_setWater_18 rfl ?_
    refine xr_iconst S (0) dX7_setWater_19 (by decide) ?_
    refine xr_sipush S (500) dX7_setWater_20 (by decide) ?_
    refine xr_callS S [.int l2, .int 0, .int 500] [] dX7_setWater_23 (k_X7_isIn l (xdc X) h1 l2 0 500 _ hw) gX7_setWater_X7_isIn rfl pd_X7_isIn ⟨Nat.le_of_ble_eq_true rfl, Nat.le_of_ble_eq_true rfl⟩ rfl (Nat.le_of_ble_eq_true rfl) ⟨Nat.le_of_ble_eq_true rfl, Nat.le_of_ble_eq_true rfl⟩ (fun v9 h12 hv => ?_)
    obtain ⟨r10, rfl, rfl, hw⟩ := hv
    refine xw_if_ne S 35 dX7_setWater_26 (by decide) hw (fun c hw => ?_) (fun c hw => ?_)
    · refine xr_aload_n S 0 dX7_setWater_35 rfl ?_
      refine xw_getI S 8 4 dX7_setWater_36 in_X7_setWater_X7 rfl (by decide) (Or.inl m_X7_setWater_2) (Or.inl rfl) hw (fun v13 hw => ?_)
      refine xr_istore_n S [(3, .int v13), (0, .ref l0), (1, .int l1), (2, .int l2)] dX7_setWater_39 (by decide) rfl ?_
      refine xr_aload_n S 1 dX7_setWater_40 rfl ?_
      refine xr_iload_n S 2 dX7_setWater_41 rfl ?_
      refine xw_put S 8 4 tyX7 dX7_setWater_42 in_X7_setWater_X7 rfl (by decide) (Or.inl m_X7_setWater_2) (Or.inl rfl) tyX7_ok nmX7 rfl rfl ⟨rfl, rfl⟩ hw (fun h14 hw => ?_)
      refine xr_aload_n S 1 dX7_setWater_45 rfl ?_
      refine xr_iload_n S 3 dX7_setWater_46 rfl ?_
      refine xw_put S 8 5 tyX7 dX7_setWater_47 in_X7_setWater_X7 rfl (by decide) (Or.inl m_X7_setWater_3) (Or.inl rfl) tyX7_ok nmX7 rfl rfl ⟨rfl, rfl⟩ hw (fun h15 hw => ?_)
      refine xr_iload_n S 0 dX7_setWater_50 rfl ?_
      exact E.1 _ _ _ _ _ _ rfl dX7_setWater_51 ⟨_, rfl, hw⟩ (Nat.le_of_ble_eq_true rfl) (Nat.le_of_ble_eq_true rfl)
    · refine xr_sub S [(0, .ref l0)] [0] rfl ?_
      exact k_X7_setWater_29 S h1 l0 Po E hw
theorem in_X7_addBerth_X7 : ∀ w ∈ wsX70, w ∈ wsX7_addBerth := by decide +kernel
theorem m_X7_addBerth_1 : Cond.fieldLink RX7 48 "PilotBookModel" "thrown" "I" ∈ wsX7_addBerth := by decide +kernel
theorem m_X7_addBerth_2 : Cond.fieldLink RX7 58 "PilotBookModel" "berths" "I" ∈ wsX7_addBerth := by decide +kernel
theorem m_X7_addBerth_3 : Cond.fieldLink RX7 23 "PilotBookModel" "berthLengths" "[I" ∈ wsX7_addBerth := by decide +kernel
theorem m_X7_addBerth_4 : Cond.fieldLink RX7 26 "PilotBookModel" "berthDepths" "[I" ∈ wsX7_addBerth := by decide +kernel
def w_X7_addBerth_30 (dc : Nat × Nat) (h : XH) (l0 : Nat) (Po : Int32 → XH → Prop) : Prop :=
  wO h l0 8 ( w_X7_fail dc h l0 1 (fun r7 h8 => Po r7 h8))
set_option maxRecDepth 100000 in
set_option maxHeartbeats 4000000 in
theorem k_X7_addBerth_30 {V : XVT} {X : XC} {l : Launch} (S : xS V X l RX7 yX7_addBerth.name cX7_addBerth 3 wsX7_addBerth (xRm 1 22 0 0)) (h : XH) (l0 : Nat) (Po : Int32 → XH → Prop) (E : xEnd V cX7_addBerth (some .int) 0 0 (xPi Po)) (hw : w_X7_addBerth_30 (xdc X) h l0 Po) : V 0 0 h 30 [(0, .ref l0)] [] := by
  refine xr_aload_n S 0 dX7_addBerth_30 rfl ?_
  refine xr_iconst S (1) dX7_addBerth_31 (by decide) ?_
  obtain ⟨e5, hw⟩ := hw
  obtain ⟨f6, f6x⟩ := id e5
  refine xr_callV S 8 [.int 1] [] dX7_addBerth_32 (k_X7_fail l (xdc X) h l0 1 _ hw) gX7_addBerth_X7_fail rfl pd_X7_fail ⟨Nat.le_of_ble_eq_true rfl, Nat.le_of_ble_eq_true rfl⟩ rfl (Nat.le_of_ble_eq_true rfl) ⟨Nat.le_of_ble_eq_true rfl, Nat.le_of_ble_eq_true rfl⟩ f6x rfl (fun v9 h8 hv => ?_)
  obtain ⟨r7, rfl, hw⟩ := hv
  exact E.1 _ _ _ _ _ _ rfl dX7_addBerth_35 ⟨_, rfl, hw⟩ (Nat.le_of_ble_eq_true rfl) (Nat.le_of_ble_eq_true rfl)
def w_X7_addBerth (dc : Nat × Nat) (h : XH) (l0 : Nat) (l1 : Int32) (l2 : Int32) (Po : Int32 → XH → Prop) : Prop :=
  wP h l0 8 0 (.int 0) (fun h1 => w_X7_isIn dc h1 l1 20 400 (fun r2 => wIf (r2 = 0) (w_X7_addBerth_30 dc h1 l0 Po) (w_X7_isIn dc h1 l2 300 2500 (fun r10 => wIf (r10 = 0) (w_X7_addBerth_30 dc h1 l0 Po) (wI h1 l0 8 6 (fun v13 => wIf (v13 = 6) (wO h1 l0 8 ( w_X7_fail dc h1 l0 2 (fun r25 h26 => Po r25 h26))) (wR h1 l0 8 7 (fun a14 => wI h1 l0 8 6 (fun v15 => wSI h1 2 a14 v15 l1 (fun h16 => wR h16 l0 8 8 (fun a17 => wI h16 l0 8 6 (fun v18 => wSI h16 2 a17 v18 l2 (fun h19 => wI h19 l0 8 6 (fun v20 => wP h19 l0 8 6 (.int (v20 + 1)) (fun h21 => wI h21 l0 8 6 (fun v22 => Po (v22 - 1) h21))))))))))))))))
set_option maxRecDepth 100000 in
set_option maxHeartbeats 4000000 in
theorem k_X7_addBerth (l : Launch) (dc : Nat × Nat) (h : XH) (l0 : Nat) (l1 : Int32) (l2 : Int32) (Po : Int32 → XH → Prop) (hw : w_X7_addBerth dc h l0 l1 l2 Po) : xM l dc yX7_addBerth wsX7_addBerth 1 22 0 0 [.ref l0, .int l1, .int l2] h (xPi Po) := by
  refine xM_of [(0, .ref l0), (1, .int l1), (2, .int l2)] (own := RX7) (cc := cX7_addBerth) (nL := 3) (ret := (some .int)) (by decide +kernel) rfl rfl (Nat.le_of_ble_eq_true rfl) rfl ?_
  intro X V hX S E
  subst hX
  refine xr_aload_n S 0 dX7_addBerth_0 rfl ?_
  refine xr_iconst S (0) dX7_addBerth_1 (by decide) ?_
  refine xw_put S 8 0 tyX7 dX7_addBerth_2 in_X7_addBerth_X7 rfl (by decide) (Or.inl m_X7_addBerth_1) (Or.inl rfl) tyX7_ok nmX7 rfl rfl ⟨rfl, rfl⟩ hw (fun h1 hw => ?_)
  refine xr_iload_n S 1 dX7_addBerth_5 rfl ?_
  refine xr_bipush S (20) dX7_addBerth_6 (by decide) ?_
  refine xr_sipush S (400) dX7_addBerth_8 (by decide) ?_
  refine xr_callS S [.int l1, .int 20, .int 400] [] dX7_addBerth_11 (k_X7_isIn l (xdc X) h1 l1 20 400 _ hw) gX7_addBerth_X7_isIn rfl pd_X7_isIn ⟨Nat.le_of_ble_eq_true rfl, Nat.le_of_ble_eq_true rfl⟩ rfl (Nat.le_of_ble_eq_true rfl) ⟨Nat.le_of_ble_eq_true rfl, Nat.le_of_ble_eq_true rfl⟩ (fun v9 h4 hv => ?_)
  obtain ⟨r2, rfl, rfl, hw⟩ := hv
  refine xw_if_eq S 30 dX7_addBerth_14 (by decide) hw (fun c hw => ?_) (fun c hw => ?_)
  · refine xr_sub S [(0, .ref l0)] [0] rfl ?_
    exact k_X7_addBerth_30 S h1 l0 Po E hw
  · refine xr_iload_n S 2 dX7_addBerth_17 rfl ?_
    refine xr_sipush S (300) dX7_addBerth_18 (by decide) ?_
    refine xr_sipush S (2500) dX7_addBerth_21 (by decide) ?_
    refine xr_callS S [.int l2, .int 300, .int 2500] [] dX7_addBerth_24 (k_X7_isIn l (xdc X) h1 l2 300 2500 _ hw) gX7_addBerth_X7_isIn rfl pd_X7_isIn ⟨Nat.le_of_ble_eq_true rfl, Nat.le_of_ble_eq_true rfl⟩ rfl (Nat.le_of_ble_eq_true rfl) ⟨Nat.le_of_ble_eq_true rfl, Nat.le_of_ble_eq_true rfl⟩ (fun v9 h12 hv => ?_)
    obtain ⟨r10, rfl, rfl, hw⟩ := hv
    refine xw_if_ne S 36 dX7_addBerth_27 (by decide) hw (fun c hw => ?_) (fun c hw => ?_)
    · refine xr_aload_n S 0 dX7_addBerth_36 rfl ?_
      refine xw_getI S 8 6 dX7_addBerth_37 in_X7_addBerth_X7 rfl (by decide) (Or.inl m_X7_addBerth_2) (Or.inl rfl) hw (fun v13 hw => ?_)
      refine xr_bipush S (6) dX7_addBerth_40 (by decide) ?_
      refine xw_icmp_ne S 51 dX7_addBerth_42 (by decide) hw (fun c hw => ?_) (fun c hw => ?_)
      · refine xr_aload_n S 0 dX7_addBerth_51 rfl ?_
        refine xw_getR S 8 7 dX7_addBerth_52 in_X7_addBerth_X7 rfl (by decide) (Or.inl m_X7_addBerth_3) (Or.inl rfl) hw (fun a14 hw => ?_)
        refine xr_aload_n S 0 dX7_addBerth_55 rfl ?_
        refine xw_getI S 8 6 dX7_addBerth_56 in_X7_addBerth_X7 rfl (by decide) (Or.inl m_X7_addBerth_2) (Or.inl rfl) hw (fun v15 hw => ?_)
        refine xr_iload_n S 1 dX7_addBerth_59 rfl ?_
        refine xw_iast S 2 dX7_addBerth_60 (Or.inr rfl) hw (fun h16 hw => ?_)
        refine xr_aload_n S 0 dX7_addBerth_61 rfl ?_
        refine xw_getR S 8 8 dX7_addBerth_62 in_X7_addBerth_X7 rfl (by decide) (Or.inl m_X7_addBerth_4) (Or.inl rfl) hw (fun a17 hw => ?_)
        refine xr_aload_n S 0 dX7_addBerth_65 rfl ?_
        refine xw_getI S 8 6 dX7_addBerth_66 in_X7_addBerth_X7 rfl (by decide) (Or.inl m_X7_addBerth_2) (Or.inl rfl) hw (fun v18 hw => ?_)
        refine xr_iload_n S 2 dX7_addBerth_69 rfl ?_
        refine xw_iast S 2 dX7_addBerth_70 (Or.inr rfl) hw (fun h19 hw => ?_)
        refine xr_aload_n S 0 dX7_addBerth_71 rfl ?_
        refine xr_dup S dX7_addBerth_72 rfl ?_
        refine xw_getI S 8 6 dX7_addBerth_73 in_X7_addBerth_X7 rfl (by decide) (Or.inl m_X7_addBerth_2) (Or.inl rfl) hw (fun v20 hw => ?_)
        refine xr_iconst S (1) dX7_addBerth_76 (by decide) ?_
        refine xr_iadd S dX7_addBerth_77 ?_
        refine xw_put S 8 6 tyX7 dX7_addBerth_78 in_X7_addBerth_X7 rfl (by decide) (Or.inl m_X7_addBerth_2) (Or.inl rfl) tyX7_ok nmX7 rfl rfl ⟨rfl, rfl⟩ hw (fun h21 hw => ?_)
        refine xr_aload_n S 0 dX7_addBerth_81 rfl ?_
        refine xw_getI S 8 6 dX7_addBerth_82 in_X7_addBerth_X7 rfl (by decide) (Or.inl m_X7_addBerth_2) (Or.inl rfl) hw (fun v22 hw => ?_)
        refine xr_iconst S (1) dX7_addBerth_85 (by decide) ?_
        refine xr_isub S dX7_addBerth_86 ?_
        exact E.1 _ _ _ _ _ _ rfl dX7_addBerth_87 ⟨_, rfl, hw⟩ (Nat.le_of_ble_eq_true rfl) (Nat.le_of_ble_eq_true rfl)
      · refine xr_aload_n S 0 dX7_addBerth_45 rfl ?_
        refine xr_iconst S (2) dX7_addBerth_46 (by decide) ?_
        obtain ⟨e23, hw⟩ := hw
        obtain ⟨f24, f24x⟩ := id e23
        refine xr_callV S 8 [.int 2] [] dX7_addBerth_47 (k_X7_fail l (xdc X) h1 l0 2 _ hw) gX7_addBerth_X7_fail rfl pd_X7_fail ⟨Nat.le_of_ble_eq_true rfl, Nat.le_of_ble_eq_true rfl⟩ rfl (Nat.le_of_ble_eq_true rfl) ⟨Nat.le_of_ble_eq_true rfl, Nat.le_of_ble_eq_true rfl⟩ f24x rfl (fun v9 h26 hv => ?_)
        obtain ⟨r25, rfl, hw⟩ := hv
        exact E.1 _ _ _ _ _ _ rfl dX7_addBerth_50 ⟨_, rfl, hw⟩ (Nat.le_of_ble_eq_true rfl) (Nat.le_of_ble_eq_true rfl)
    · refine xr_sub S [(0, .ref l0)] [0] rfl ?_
      exact k_X7_addBerth_30 S h1 l0 Po E hw
theorem in_X7_addShip_X7 : ∀ w ∈ wsX70, w ∈ wsX7_addShip := by decide +kernel
theorem m_X7_addShip_1 : Cond.fieldLink RX7 48 "PilotBookModel" "thrown" "I" ∈ wsX7_addShip := by decide +kernel
theorem m_X7_addShip_2 : Cond.fieldLink RX7 55 "PilotBookModel" "ships" "I" ∈ wsX7_addShip := by decide +kernel
theorem m_X7_addShip_3 : Cond.fieldLink RX7 29 "PilotBookModel" "lengths" "[I" ∈ wsX7_addShip := by decide +kernel
theorem m_X7_addShip_4 : Cond.fieldLink RX7 32 "PilotBookModel" "drafts" "[I" ∈ wsX7_addShip := by decide +kernel
def w_X7_addShip_29 (dc : Nat × Nat) (h : XH) (l0 : Nat) (Po : Int32 → XH → Prop) : Prop :=
  wO h l0 8 ( w_X7_fail dc h l0 1 (fun r7 h8 => Po r7 h8))
set_option maxRecDepth 100000 in
set_option maxHeartbeats 4000000 in
theorem k_X7_addShip_29 {V : XVT} {X : XC} {l : Launch} (S : xS V X l RX7 yX7_addShip.name cX7_addShip 3 wsX7_addShip (xRm 1 22 0 0)) (h : XH) (l0 : Nat) (Po : Int32 → XH → Prop) (E : xEnd V cX7_addShip (some .int) 0 0 (xPi Po)) (hw : w_X7_addShip_29 (xdc X) h l0 Po) : V 0 0 h 29 [(0, .ref l0)] [] := by
  refine xr_aload_n S 0 dX7_addShip_29 rfl ?_
  refine xr_iconst S (1) dX7_addShip_30 (by decide) ?_
  obtain ⟨e5, hw⟩ := hw
  obtain ⟨f6, f6x⟩ := id e5
  refine xr_callV S 8 [.int 1] [] dX7_addShip_31 (k_X7_fail l (xdc X) h l0 1 _ hw) gX7_addShip_X7_fail rfl pd_X7_fail ⟨Nat.le_of_ble_eq_true rfl, Nat.le_of_ble_eq_true rfl⟩ rfl (Nat.le_of_ble_eq_true rfl) ⟨Nat.le_of_ble_eq_true rfl, Nat.le_of_ble_eq_true rfl⟩ f6x rfl (fun v9 h8 hv => ?_)
  obtain ⟨r7, rfl, hw⟩ := hv
  exact E.1 _ _ _ _ _ _ rfl dX7_addShip_34 ⟨_, rfl, hw⟩ (Nat.le_of_ble_eq_true rfl) (Nat.le_of_ble_eq_true rfl)
def w_X7_addShip (dc : Nat × Nat) (h : XH) (l0 : Nat) (l1 : Int32) (l2 : Int32) (Po : Int32 → XH → Prop) : Prop :=
  wP h l0 8 0 (.int 0) (fun h1 => w_X7_isIn dc h1 l1 20 400 (fun r2 => wIf (r2 = 0) (w_X7_addShip_29 dc h1 l0 Po) (w_X7_isIn dc h1 l2 100 2000 (fun r10 => wIf (r10 = 0) (w_X7_addShip_29 dc h1 l0 Po) (wI h1 l0 8 9 (fun v13 => wIf (v13 = 16) (wO h1 l0 8 ( w_X7_fail dc h1 l0 2 (fun r25 h26 => Po r25 h26))) (wR h1 l0 8 10 (fun a14 => wI h1 l0 8 9 (fun v15 => wSI h1 2 a14 v15 l1 (fun h16 => wR h16 l0 8 11 (fun a17 => wI h16 l0 8 9 (fun v18 => wSI h16 2 a17 v18 l2 (fun h19 => wI h19 l0 8 9 (fun v20 => wP h19 l0 8 9 (.int (v20 + 1)) (fun h21 => wI h21 l0 8 9 (fun v22 => Po (v22 - 1) h21))))))))))))))))
set_option maxRecDepth 100000 in
set_option maxHeartbeats 4000000 in
theorem k_X7_addShip (l : Launch) (dc : Nat × Nat) (h : XH) (l0 : Nat) (l1 : Int32) (l2 : Int32) (Po : Int32 → XH → Prop) (hw : w_X7_addShip dc h l0 l1 l2 Po) : xM l dc yX7_addShip wsX7_addShip 1 22 0 0 [.ref l0, .int l1, .int l2] h (xPi Po) := by
  refine xM_of [(0, .ref l0), (1, .int l1), (2, .int l2)] (own := RX7) (cc := cX7_addShip) (nL := 3) (ret := (some .int)) (by decide +kernel) rfl rfl (Nat.le_of_ble_eq_true rfl) rfl ?_
  intro X V hX S E
  subst hX
  refine xr_aload_n S 0 dX7_addShip_0 rfl ?_
  refine xr_iconst S (0) dX7_addShip_1 (by decide) ?_
  refine xw_put S 8 0 tyX7 dX7_addShip_2 in_X7_addShip_X7 rfl (by decide) (Or.inl m_X7_addShip_1) (Or.inl rfl) tyX7_ok nmX7 rfl rfl ⟨rfl, rfl⟩ hw (fun h1 hw => ?_)
  refine xr_iload_n S 1 dX7_addShip_5 rfl ?_
  refine xr_bipush S (20) dX7_addShip_6 (by decide) ?_
  refine xr_sipush S (400) dX7_addShip_8 (by decide) ?_
  refine xr_callS S [.int l1, .int 20, .int 400] [] dX7_addShip_11 (k_X7_isIn l (xdc X) h1 l1 20 400 _ hw) gX7_addShip_X7_isIn rfl pd_X7_isIn ⟨Nat.le_of_ble_eq_true rfl, Nat.le_of_ble_eq_true rfl⟩ rfl (Nat.le_of_ble_eq_true rfl) ⟨Nat.le_of_ble_eq_true rfl, Nat.le_of_ble_eq_true rfl⟩ (fun v9 h4 hv => ?_)
  obtain ⟨r2, rfl, rfl, hw⟩ := hv
  refine xw_if_eq S 29 dX7_addShip_14 (by decide) hw (fun c hw => ?_) (fun c hw => ?_)
  · refine xr_sub S [(0, .ref l0)] [0] rfl ?_
    exact k_X7_addShip_29 S h1 l0 Po E hw
  · refine xr_iload_n S 2 dX7_addShip_17 rfl ?_
    refine xr_bipush S (100) dX7_addShip_18 (by decide) ?_
    refine xr_sipush S (2000) dX7_addShip_20 (by decide) ?_
    refine xr_callS S [.int l2, .int 100, .int 2000] [] dX7_addShip_23 (k_X7_isIn l (xdc X) h1 l2 100 2000 _ hw) gX7_addShip_X7_isIn rfl pd_X7_isIn ⟨Nat.le_of_ble_eq_true rfl, Nat.le_of_ble_eq_true rfl⟩ rfl (Nat.le_of_ble_eq_true rfl) ⟨Nat.le_of_ble_eq_true rfl, Nat.le_of_ble_eq_true rfl⟩ (fun v9 h12 hv => ?_)
    obtain ⟨r10, rfl, rfl, hw⟩ := hv
    refine xw_if_ne S 35 dX7_addShip_26 (by decide) hw (fun c hw => ?_) (fun c hw => ?_)
    · refine xr_aload_n S 0 dX7_addShip_35 rfl ?_
      refine xw_getI S 8 9 dX7_addShip_36 in_X7_addShip_X7 rfl (by decide) (Or.inl m_X7_addShip_2) (Or.inl rfl) hw (fun v13 hw => ?_)
      refine xr_bipush S (16) dX7_addShip_39 (by decide) ?_
      refine xw_icmp_ne S 50 dX7_addShip_41 (by decide) hw (fun c hw => ?_) (fun c hw => ?_)
      · refine xr_aload_n S 0 dX7_addShip_50 rfl ?_
        refine xw_getR S 8 10 dX7_addShip_51 in_X7_addShip_X7 rfl (by decide) (Or.inl m_X7_addShip_3) (Or.inl rfl) hw (fun a14 hw => ?_)
        refine xr_aload_n S 0 dX7_addShip_54 rfl ?_
        refine xw_getI S 8 9 dX7_addShip_55 in_X7_addShip_X7 rfl (by decide) (Or.inl m_X7_addShip_2) (Or.inl rfl) hw (fun v15 hw => ?_)
        refine xr_iload_n S 1 dX7_addShip_58 rfl ?_
        refine xw_iast S 2 dX7_addShip_59 (Or.inr rfl) hw (fun h16 hw => ?_)
        refine xr_aload_n S 0 dX7_addShip_60 rfl ?_
        refine xw_getR S 8 11 dX7_addShip_61 in_X7_addShip_X7 rfl (by decide) (Or.inl m_X7_addShip_4) (Or.inl rfl) hw (fun a17 hw => ?_)
        refine xr_aload_n S 0 dX7_addShip_64 rfl ?_
        refine xw_getI S 8 9 dX7_addShip_65 in_X7_addShip_X7 rfl (by decide) (Or.inl m_X7_addShip_2) (Or.inl rfl) hw (fun v18 hw => ?_)
        refine xr_iload_n S 2 dX7_addShip_68 rfl ?_
        refine xw_iast S 2 dX7_addShip_69 (Or.inr rfl) hw (fun h19 hw => ?_)
        refine xr_aload_n S 0 dX7_addShip_70 rfl ?_
        refine xr_dup S dX7_addShip_71 rfl ?_
        refine xw_getI S 8 9 dX7_addShip_72 in_X7_addShip_X7 rfl (by decide) (Or.inl m_X7_addShip_2) (Or.inl rfl) hw (fun v20 hw => ?_)
        refine xr_iconst S (1) dX7_addShip_75 (by decide) ?_
        refine xr_iadd S dX7_addShip_76 ?_
        refine xw_put S 8 9 tyX7 dX7_addShip_77 in_X7_addShip_X7 rfl (by decide) (Or.inl m_X7_addShip_2) (Or.inl rfl) tyX7_ok nmX7 rfl rfl ⟨rfl, rfl⟩ hw (fun h21 hw => ?_)
        refine xr_aload_n S 0 dX7_addShip_80 rfl ?_
        refine xw_getI S 8 9 dX7_addShip_81 in_X7_addShip_X7 rfl (by decide) (Or.inl m_X7_addShip_2) (Or.inl rfl) hw (fun v22 hw => ?_)
        refine xr_iconst S (1) dX7_addShip_84 (by decide) ?_
        refine xr_isub S dX7_addShip_85 ?_
        exact E.1 _ _ _ _ _ _ rfl dX7_addShip_86 ⟨_, rfl, hw⟩ (Nat.le_of_ble_eq_true rfl) (Nat.le_of_ble_eq_true rfl)
      · refine xr_aload_n S 0 dX7_addShip_44 rfl ?_
        refine xr_iconst S (2) dX7_addShip_45 (by decide) ?_
        obtain ⟨e23, hw⟩ := hw
        obtain ⟨f24, f24x⟩ := id e23
        refine xr_callV S 8 [.int 2] [] dX7_addShip_46 (k_X7_fail l (xdc X) h1 l0 2 _ hw) gX7_addShip_X7_fail rfl pd_X7_fail ⟨Nat.le_of_ble_eq_true rfl, Nat.le_of_ble_eq_true rfl⟩ rfl (Nat.le_of_ble_eq_true rfl) ⟨Nat.le_of_ble_eq_true rfl, Nat.le_of_ble_eq_true rfl⟩ f24x rfl (fun v9 h26 hv => ?_)
        obtain ⟨r25, rfl, hw⟩ := hv
        exact E.1 _ _ _ _ _ _ rfl dX7_addShip_49 ⟨_, rfl, hw⟩ (Nat.le_of_ble_eq_true rfl) (Nat.le_of_ble_eq_true rfl)
    · refine xr_sub S [(0, .ref l0)] [0] rfl ?_
      exact k_X7_addShip_29 S h1 l0 Po E hw
theorem in_X7_load_X7 : ∀ w ∈ wsX70, w ∈ wsX7_load := by decide +kernel
theorem m_X7_load_1 : Cond.fieldLink RX7 48 "PilotBookModel" "thrown" "I" ∈ wsX7_load := by decide +kernel
theorem m_X7_load_2 : Cond.fieldLink RX7 32 "PilotBookModel" "drafts" "[I" ∈ wsX7_load := by decide +kernel
def w_X7_load (dc : Nat × Nat) (h : XH) (l0 : Nat) (l1 : Int32) (l2 : Int32) (Po : Int32 → XH → Prop) : Prop :=
  wP h l0 8 0 (.int 0) (fun h1 => wO h1 l0 8 ( w_X7_isShip dc h1 l0 l1 (fun r4 => wIf (r4 = 0) (w_X7_fail dc h1 l0 1 (fun r19 h20 => Po r19 h20)) (w_X7_isIn dc h1 l2 100 2000 (fun r7 => wIf (r7 = 0) (w_X7_fail dc h1 l0 2 (fun r15 h16 => Po r15 h16)) (wR h1 l0 8 11 (fun a10 => wAI h1 2 a10 l1 (fun v11 => wR h1 l0 8 11 (fun a12 => wSI h1 2 a12 l1 l2 (fun h13 => Po v11 h13))))))))))
set_option maxRecDepth 100000 in
set_option maxHeartbeats 4000000 in
theorem k_X7_load (l : Launch) (dc : Nat × Nat) (h : XH) (l0 : Nat) (l1 : Int32) (l2 : Int32) (Po : Int32 → XH → Prop) (hw : w_X7_load dc h l0 l1 l2 Po) : xM l dc yX7_load wsX7_load 2 43 0 0 [.ref l0, .int l1, .int l2] h (xPi Po) := by
  refine xM_of [(0, .ref l0), (1, .int l1), (2, .int l2)] (own := RX7) (cc := cX7_load) (nL := 4) (ret := (some .int)) (by decide +kernel) rfl rfl (Nat.le_of_ble_eq_true rfl) rfl ?_
  intro X V hX S E
  subst hX
  refine xr_aload_n S 0 dX7_load_0 rfl ?_
  refine xr_iconst S (0) dX7_load_1 (by decide) ?_
  refine xw_put S 8 0 tyX7 dX7_load_2 in_X7_load_X7 rfl (by decide) (Or.inl m_X7_load_1) (Or.inl rfl) tyX7_ok nmX7 rfl rfl ⟨rfl, rfl⟩ hw (fun h1 hw => ?_)
  refine xr_aload_n S 0 dX7_load_5 rfl ?_
  refine xr_iload_n S 1 dX7_load_6 rfl ?_
  obtain ⟨e2, hw⟩ := hw
  obtain ⟨f3, f3x⟩ := id e2
  refine xr_callV S 8 [.int l1] [] dX7_load_7 (k_X7_isShip l (xdc X) h1 l0 l1 _ hw) gX7_load_X7_isShip rfl pd_X7_isShip ⟨Nat.le_of_ble_eq_true rfl, Nat.le_of_ble_eq_true rfl⟩ rfl (Nat.le_of_ble_eq_true rfl) ⟨Nat.le_of_ble_eq_true rfl, Nat.le_of_ble_eq_true rfl⟩ f3x rfl (fun v9 h6 hv => ?_)
  obtain ⟨r4, rfl, rfl, hw⟩ := hv
  refine xw_if_ne S 19 dX7_load_10 (by decide) hw (fun c hw => ?_) (fun c hw => ?_)
  · refine xr_iload_n S 2 dX7_load_19 rfl ?_
    refine xr_bipush S (100) dX7_load_20 (by decide) ?_
    refine xr_sipush S (2000) dX7_load_22 (by decide) ?_
    refine xr_callS S [.int l2, .int 100, .int 2000] [] dX7_load_25 (k_X7_isIn l (xdc X) h1 l2 100 2000 _ hw) gX7_load_X7_isIn rfl pd_X7_isIn ⟨Nat.le_of_ble_eq_true rfl, Nat.le_of_ble_eq_true rfl⟩ rfl (Nat.le_of_ble_eq_true rfl) ⟨Nat.le_of_ble_eq_true rfl, Nat.le_of_ble_eq_true rfl⟩ (fun v9 h9 hv => ?_)
    obtain ⟨r7, rfl, rfl, hw⟩ := hv
    refine xw_if_ne S 37 dX7_load_28 (by decide) hw (fun c hw => ?_) (fun c hw => ?_)
    · refine xr_aload_n S 0 dX7_load_37 rfl ?_
      refine xw_getR S 8 11 dX7_load_38 in_X7_load_X7 rfl (by decide) (Or.inl m_X7_load_2) (Or.inl rfl) hw (fun a10 hw => ?_)
      refine xr_iload_n S 1 dX7_load_41 rfl ?_
      refine xw_iald S 2 dX7_load_42 (Or.inr rfl) hw (fun v11 hw => ?_)
      refine xr_istore_n S [(3, .int v11), (0, .ref l0), (1, .int l1), (2, .int l2)] dX7_load_43 (by decide) rfl ?_
      refine xr_aload_n S 1 dX7_load_44 rfl ?_
      refine xw_getR S 8 11 dX7_load_45 in_X7_load_X7 rfl (by decide) (Or.inl m_X7_load_2) (Or.inl rfl) hw (fun a12 hw => ?_)
      refine xr_iload_n S 2 dX7_load_48 rfl ?_
      refine xr_iload_n S 3 dX7_load_49 rfl ?_
      refine xw_iast S 2 dX7_load_50 (Or.inr rfl) hw (fun h13 hw => ?_)
      refine xr_iload_n S 0 dX7_load_51 rfl ?_
      exact E.1 _ _ _ _ _ _ rfl dX7_load_52 ⟨_, rfl, hw⟩ (Nat.le_of_ble_eq_true rfl) (Nat.le_of_ble_eq_true rfl)
    · refine xr_aload_n S 0 dX7_load_31 rfl ?_
      refine xr_iconst S (2) dX7_load_32 (by decide) ?_
      obtain ⟨f14, f14x⟩ := id e2
      refine xr_callV S 8 [.int 2] [] dX7_load_33 (k_X7_fail l (xdc X) h1 l0 2 _ hw) gX7_load_X7_fail rfl pd_X7_fail ⟨Nat.le_of_ble_eq_true rfl, Nat.le_of_ble_eq_true rfl⟩ rfl (Nat.le_of_ble_eq_true rfl) ⟨Nat.le_of_ble_eq_true rfl, Nat.le_of_ble_eq_true rfl⟩ f14x rfl (fun v9 h16 hv => ?_)
      obtain ⟨r15, rfl, hw⟩ := hv
      exact E.1 _ _ _ _ _ _ rfl dX7_load_36 ⟨_, rfl, hw⟩ (Nat.le_of_ble_eq_true rfl) (Nat.le_of_ble_eq_true rfl)
  · refine xr_aload_n S 0 dX7_load_13 rfl ?_
    refine xr_iconst S (1) dX7_load_14 (by decide) ?_
    obtain ⟨f18, f18x⟩ := id e2
    refine xr_callV S 8 [.int 1] [] dX7_load_15 (k_X7_fail l (xdc X) h1 l0 1 _ hw) gX7_load_X7_fail rfl pd_X7_fail ⟨Nat.le_of_ble_eq_true rfl, Nat.le_of_ble_eq_true rfl⟩ rfl (Nat.le_of_ble_eq_true rfl) ⟨Nat.le_of_ble_eq_true rfl, Nat.le_of_ble_eq_true rfl⟩ f18x rfl (fun v9 h20 hv => ?_)
    obtain ⟨r19, rfl, hw⟩ := hv
    exact E.1 _ _ _ _ _ _ rfl dX7_load_18 ⟨_, rfl, hw⟩ (Nat.le_of_ble_eq_true rfl) (Nat.le_of_ble_eq_true rfl)
theorem in_X7_addPilot_X7 : ∀ w ∈ wsX70, w ∈ wsX7_addPilot := by decide +kernel
theorem m_X7_addPilot_1 : Cond.fieldLink RX7 48 "PilotBookModel" "thrown" "I" ∈ wsX7_addPilot := by decide +kernel
theorem m_X7_addPilot_2 : Cond.fieldLink RX7 81 "PilotBookModel" "pilots" "I" ∈ wsX7_addPilot := by decide +kernel
theorem m_X7_addPilot_3 : Cond.fieldLink RX7 35 "PilotBookModel" "limits" "[I" ∈ wsX7_addPilot := by decide +kernel
theorem m_X7_addPilot_4 : Cond.fieldLink RX7 38 "PilotBookModel" "areInPort" "[Z" ∈ wsX7_addPilot := by decide +kernel
def w_X7_addPilot (dc : Nat × Nat) (h : XH) (l0 : Nat) (l1 : Int32) (l2 : Int32) (Po : Int32 → XH → Prop) : Prop :=
  wP h l0 8 0 (.int 0) (fun h1 => w_X7_isIn dc h1 l1 20 400 (fun r2 => wIf (r2 = 0) (wO h1 l0 8 ( w_X7_fail dc h1 l0 1 (fun r22 h23 => Po r22 h23))) (wI h1 l0 8 12 (fun v5 => wIf (v5 = 6) (wO h1 l0 8 ( w_X7_fail dc h1 l0 2 (fun r17 h18 => Po r17 h18))) (wR h1 l0 8 13 (fun a6 => wI h1 l0 8 12 (fun v7 => wSI h1 2 a6 v7 l1 (fun h8 => wR h8 l0 8 14 (fun a9 => wI h8 l0 8 12 (fun v10 => wSZ h8 a9 v10 l2 (fun h11 => wI h11 l0 8 12 (fun v12 => wP h11 l0 8 12 (.int (v12 + 1)) (fun h13 => wI h13 l0 8 12 (fun v14 => Po (v14 - 1) h13))))))))))))))
set_option maxRecDepth 100000 in
set_option maxHeartbeats 4000000 in
theorem k_X7_addPilot (l : Launch) (dc : Nat × Nat) (h : XH) (l0 : Nat) (l1 : Int32) (l2 : Int32) (Po : Int32 → XH → Prop) (hw : w_X7_addPilot dc h l0 l1 l2 Po) : xM l dc yX7_addPilot wsX7_addPilot 1 22 0 0 [.ref l0, .int l1, .int l2] h (xPi Po) := by
  refine xM_of [(0, .ref l0), (1, .int l1), (2, .int l2)] (own := RX7) (cc := cX7_addPilot) (nL := 3) (ret := (some .int)) (by decide +kernel) rfl rfl (Nat.le_of_ble_eq_true rfl) rfl ?_
  intro X V hX S E
  subst hX
  refine xr_aload_n S 0 dX7_addPilot_0 rfl ?_
  refine xr_iconst S (0) dX7_addPilot_1 (by decide) ?_
  refine xw_put S 8 0 tyX7 dX7_addPilot_2 in_X7_addPilot_X7 rfl (by decide) (Or.inl m_X7_addPilot_1) (Or.inl rfl) tyX7_ok nmX7 rfl rfl ⟨rfl, rfl⟩ hw (fun h1 hw => ?_)
  refine xr_iload_n S 1 dX7_addPilot_5 rfl ?_
  refine xr_bipush S (20) dX7_addPilot_6 (by decide) ?_
  refine xr_sipush S (400) dX7_addPilot_8 (by decide) ?_
  refine xr_callS S [.int l1, .int 20, .int 400] [] dX7_addPilot_11 (k_X7_isIn l (xdc X) h1 l1 20 400 _ hw) gX7_addPilot_X7_isIn rfl pd_X7_isIn ⟨Nat.le_of_ble_eq_true rfl, Nat.le_of_ble_eq_true rfl⟩ rfl (Nat.le_of_ble_eq_true rfl) ⟨Nat.le_of_ble_eq_true rfl, Nat.le_of_ble_eq_true rfl⟩ (fun v9 h4 hv => ?_)
  obtain ⟨r2, rfl, rfl, hw⟩ := hv
  refine xw_if_ne S 23 dX7_addPilot_14 (by decide) hw (fun c hw => ?_) (fun c hw => ?_)
  · refine xr_aload_n S 0 dX7_addPilot_23 rfl ?_
    refine xw_getI S 8 12 dX7_addPilot_24 in_X7_addPilot_X7 rfl (by decide) (Or.inl m_X7_addPilot_2) (Or.inl rfl) hw (fun v5 hw => ?_)
    refine xr_bipush S (6) dX7_addPilot_27 (by decide) ?_
    refine xw_icmp_ne S 38 dX7_addPilot_29 (by decide) hw (fun c hw => ?_) (fun c hw => ?_)
    · refine xr_aload_n S 0 dX7_addPilot_38 rfl ?_
      refine xw_getR S 8 13 dX7_addPilot_39 in_X7_addPilot_X7 rfl (by decide) (Or.inl m_X7_addPilot_3) (Or.inl rfl) hw (fun a6 hw => ?_)
      refine xr_aload_n S 0 dX7_addPilot_42 rfl ?_
      refine xw_getI S 8 12 dX7_addPilot_43 in_X7_addPilot_X7 rfl (by decide) (Or.inl m_X7_addPilot_2) (Or.inl rfl) hw (fun v7 hw => ?_)
      refine xr_iload_n S 1 dX7_addPilot_46 rfl ?_
      refine xw_iast S 2 dX7_addPilot_47 (Or.inr rfl) hw (fun h8 hw => ?_)
      refine xr_aload_n S 0 dX7_addPilot_48 rfl ?_
      refine xw_getR S 8 14 dX7_addPilot_49 in_X7_addPilot_X7 rfl (by decide) (Or.inl m_X7_addPilot_4) (Or.inl rfl) hw (fun a9 hw => ?_)
      refine xr_aload_n S 0 dX7_addPilot_52 rfl ?_
      refine xw_getI S 8 12 dX7_addPilot_53 in_X7_addPilot_X7 rfl (by decide) (Or.inl m_X7_addPilot_2) (Or.inl rfl) hw (fun v10 hw => ?_)
      refine xr_iload_n S 2 dX7_addPilot_56 rfl ?_
      refine xw_zast S dX7_addPilot_57 hw (fun h11 hw => ?_)
      refine xr_aload_n S 0 dX7_addPilot_58 rfl ?_
      refine xr_dup S dX7_addPilot_59 rfl ?_
      refine xw_getI S 8 12 dX7_addPilot_60 in_X7_addPilot_X7 rfl (by decide) (Or.inl m_X7_addPilot_2) (Or.inl rfl) hw (fun v12 hw => ?_)
      refine xr_iconst S (1) dX7_addPilot_63 (by decide) ?_
      refine xr_iadd S dX7_addPilot_64 ?_
      refine xw_put S 8 12 tyX7 dX7_addPilot_65 in_X7_addPilot_X7 rfl (by decide) (Or.inl m_X7_addPilot_2) (Or.inl rfl) tyX7_ok nmX7 rfl rfl ⟨rfl, rfl⟩ hw (fun h13 hw => ?_)
      refine xr_aload_n S 0 dX7_addPilot_68 rfl ?_
      refine xw_getI S 8 12 dX7_addPilot_69 in_X7_addPilot_X7 rfl (by decide) (Or.inl m_X7_addPilot_2) (Or.inl rfl) hw (fun v14 hw => ?_)
      refine xr_iconst S (1) dX7_addPilot_72 (by decide) ?_
      refine xr_isub S dX7_addPilot_73 ?_
      exact E.1 _ _ _ _ _ _ rfl dX7_addPilot_74 ⟨_, rfl, hw⟩ (Nat.le_of_ble_eq_true rfl) (Nat.le_of_ble_eq_true rfl)
    · refine xr_aload_n S 0 dX7_addPilot_32 rfl ?_
      refine xr_iconst S (2) dX7_addPilot_33 (by decide) ?_
      obtain ⟨e15, hw⟩ := hw
      obtain ⟨f16, f16x⟩ := id e15
      refine xr_callV S 8 [.int 2] [] dX7_addPilot_34 (k_X7_fail l (xdc X) h1 l0 2 _ hw) gX7_addPilot_X7_fail rfl pd_X7_fail ⟨Nat.le_of_ble_eq_true rfl, Nat.le_of_ble_eq_true rfl⟩ rfl (Nat.le_of_ble_eq_true rfl) ⟨Nat.le_of_ble_eq_true rfl, Nat.le_of_ble_eq_true rfl⟩ f16x rfl (fun v9 h18 hv => ?_)
      obtain ⟨r17, rfl, hw⟩ := hv
      exact E.1 _ _ _ _ _ _ rfl dX7_addPilot_37 ⟨_, rfl, hw⟩ (Nat.le_of_ble_eq_true rfl) (Nat.le_of_ble_eq_true rfl)
  · refine xr_aload_n S 0 dX7_addPilot_17 rfl ?_
    refine xr_iconst S (1) dX7_addPilot_18 (by decide) ?_
    obtain ⟨e20, hw⟩ := hw
    obtain ⟨f21, f21x⟩ := id e20
    refine xr_callV S 8 [.int 1] [] dX7_addPilot_19 (k_X7_fail l (xdc X) h1 l0 1 _ hw) gX7_addPilot_X7_fail rfl pd_X7_fail ⟨Nat.le_of_ble_eq_true rfl, Nat.le_of_ble_eq_true rfl⟩ rfl (Nat.le_of_ble_eq_true rfl) ⟨Nat.le_of_ble_eq_true rfl, Nat.le_of_ble_eq_true rfl⟩ f21x rfl (fun v9 h23 hv => ?_)
    obtain ⟨r22, rfl, hw⟩ := hv
    exact E.1 _ _ _ _ _ _ rfl dX7_addPilot_22 ⟨_, rfl, hw⟩ (Nat.le_of_ble_eq_true rfl) (Nat.le_of_ble_eq_true rfl)
theorem in_X7_setTugs_X7 : ∀ w ∈ wsX70, w ∈ wsX7_setTugs := by decide +kernel
theorem m_X7_setTugs_1 : Cond.fieldLink RX7 48 "PilotBookModel" "thrown" "I" ∈ wsX7_setTugs := by decide +kernel
theorem m_X7_setTugs_2 : Cond.fieldLink RX7 72 "PilotBookModel" "passages" "I" ∈ wsX7_setTugs := by decide +kernel
theorem m_X7_setTugs_3 : Cond.fieldLink RX7 42 "PilotBookModel" "tugs" "I" ∈ wsX7_setTugs := by decide +kernel
def w_X7_setTugs (dc : Nat × Nat) (h : XH) (l0 : Nat) (l1 : Int32) (Po : Int32 → XH → Prop) : Prop :=
  wP h l0 8 0 (.int 0) (fun h1 => w_X7_isIn dc h1 l1 0 8 (fun r2 => wIf (r2 = 0) (wO h1 l0 8 ( w_X7_fail dc h1 l0 1 (fun r15 h16 => Po r15 h16))) (wI h1 l0 8 16 (fun v5 => wIf (v5 ≤ 0) (wI h1 l0 8 15 (fun v6 => wP h1 l0 8 15 (.int l1) (fun h7 => Po v6 h7))) (wO h1 l0 8 ( w_X7_fail dc h1 l0 2 (fun r10 h11 => Po r10 h11)))))))
set_option maxRecDepth 100000 in
set_option maxHeartbeats 4000000 in
theorem k_X7_setTugs (l : Launch) (dc : Nat × Nat) (h : XH) (l0 : Nat) (l1 : Int32) (Po : Int32 → XH → Prop) (hw : w_X7_setTugs dc h l0 l1 Po) : xM l dc yX7_setTugs wsX7_setTugs 1 22 0 0 [.ref l0, .int l1] h (xPi Po) := by
  refine xM_of [(0, .ref l0), (1, .int l1)] (own := RX7) (cc := cX7_setTugs) (nL := 3) (ret := (some .int)) (by decide +kernel) rfl rfl (Nat.le_of_ble_eq_true rfl) rfl ?_
  intro X V hX S E
  subst hX
  refine xr_aload_n S 0 dX7_setTugs_0 rfl ?_
  refine xr_iconst S (0) dX7_setTugs_1 (by decide) ?_
  refine xw_put S 8 0 tyX7 dX7_setTugs_2 in_X7_setTugs_X7 rfl (by decide) (Or.inl m_X7_setTugs_1) (Or.inl rfl) tyX7_ok nmX7 rfl rfl ⟨rfl, rfl⟩ hw (fun h1 hw => ?_)
  refine xr_iload_n S 1 dX7_setTugs_5 rfl ?_
  refine xr_iconst S (0) dX7_setTugs_6 (by decide) ?_
  refine xr_bipush S (8) dX7_setTugs_7 (by decide) ?_
  refine xr_callS S [.int l1, .int 0, .int 8] [] dX7_setTugs_9 (k_X7_isIn l (xdc X) h1 l1 0 8 _ hw) gX7_setTugs_X7_isIn rfl pd_X7_isIn ⟨Nat.le_of_ble_eq_true rfl, Nat.le_of_ble_eq_true rfl⟩ rfl (Nat.le_of_ble_eq_true rfl) ⟨Nat.le_of_ble_eq_true rfl, Nat.le_of_ble_eq_true rfl⟩ (fun v9 h4 hv => ?_)
  obtain ⟨r2, rfl, rfl, hw⟩ := hv
  refine xw_if_ne S 21 dX7_setTugs_12 (by decide) hw (fun c hw => ?_) (fun c hw => ?_)
  · refine xr_aload_n S 0 dX7_setTugs_21 rfl ?_
    refine xw_getI S 8 16 dX7_setTugs_22 in_X7_setTugs_X7 rfl (by decide) (Or.inl m_X7_setTugs_2) (Or.inl rfl) hw (fun v5 hw => ?_)
    refine xw_if_le S 34 dX7_setTugs_25 (by decide) hw (fun c hw => ?_) (fun c hw => ?_)
    · refine xr_aload_n S 0 dX7_setTugs_34 rfl ?_
      refine xw_getI S 8 15 dX7_setTugs_35 in_X7_setTugs_X7 rfl (by decide) (Or.inl m_X7_setTugs_3) (Or.inl rfl) hw (fun v6 hw => ?_)
      refine xr_istore_n S [(2, .int v6), (0, .ref l0), (1, .int l1)] dX7_setTugs_38 (by decide) rfl ?_
      refine xr_aload_n S 1 dX7_setTugs_39 rfl ?_
      refine xr_iload_n S 2 dX7_setTugs_40 rfl ?_
      refine xw_put S 8 15 tyX7 dX7_setTugs_41 in_X7_setTugs_X7 rfl (by decide) (Or.inl m_X7_setTugs_3) (Or.inl rfl) tyX7_ok nmX7 rfl rfl ⟨rfl, rfl⟩ hw (fun h7 hw => ?_)
      refine xr_iload_n S 0 dX7_setTugs_44 rfl ?_
      exact E.1 _ _ _ _ _ _ rfl dX7_setTugs_45 ⟨_, rfl, hw⟩ (Nat.le_of_ble_eq_true rfl) (Nat.le_of_ble_eq_true rfl)
    · refine xr_aload_n S 0 dX7_setTugs_28 rfl ?_
      refine xr_iconst S (2) dX7_setTugs_29 (by decide) ?_
      obtain ⟨e8, hw⟩ := hw
      obtain ⟨f9, f9x⟩ := id e8
      refine xr_callV S 8 [.int 2] [] dX7_setTugs_30 (k_X7_fail l (xdc X) h1 l0 2 _ hw) gX7_setTugs_X7_fail rfl pd_X7_fail ⟨Nat.le_of_ble_eq_true rfl, Nat.le_of_ble_eq_true rfl⟩ rfl (Nat.le_of_ble_eq_true rfl) ⟨Nat.le_of_ble_eq_true rfl, Nat.le_of_ble_eq_true rfl⟩ f9x rfl (fun v9 h11 hv => ?_)
      obtain ⟨r10, rfl, hw⟩ := hv
      exact E.1 _ _ _ _ _ _ rfl dX7_setTugs_33 ⟨_, rfl, hw⟩ (Nat.le_of_ble_eq_true rfl) (Nat.le_of_ble_eq_true rfl)
  · refine xr_aload_n S 0 dX7_setTugs_15 rfl ?_
    refine xr_iconst S (1) dX7_setTugs_16 (by decide) ?_
    obtain ⟨e13, hw⟩ := hw
    obtain ⟨f14, f14x⟩ := id e13
    refine xr_callV S 8 [.int 1] [] dX7_setTugs_17 (k_X7_fail l (xdc X) h1 l0 1 _ hw) gX7_setTugs_X7_fail rfl pd_X7_fail ⟨Nat.le_of_ble_eq_true rfl, Nat.le_of_ble_eq_true rfl⟩ rfl (Nat.le_of_ble_eq_true rfl) ⟨Nat.le_of_ble_eq_true rfl, Nat.le_of_ble_eq_true rfl⟩ f14x rfl (fun v9 h16 hv => ?_)
    obtain ⟨r15, rfl, hw⟩ := hv
    exact E.1 _ _ _ _ _ _ rfl dX7_setTugs_20 ⟨_, rfl, hw⟩ (Nat.le_of_ble_eq_true rfl) (Nat.le_of_ble_eq_true rfl)
theorem in_X7_counted_X7 : ∀ w ∈ wsX70, w ∈ wsX7_counted := by decide +kernel
theorem m_X7_counted_1 : Cond.fieldLink RX7 69 "PilotBookModel" "points" "I" ∈ wsX7_counted := by decide +kernel
theorem m_X7_counted_2 : Cond.fieldLink RX7 58 "PilotBookModel" "berths" "I" ∈ wsX7_counted := by decide +kernel
theorem m_X7_counted_3 : Cond.fieldLink RX7 55 "PilotBookModel" "ships" "I" ∈ wsX7_counted := by decide +kernel
theorem m_X7_counted_4 : Cond.fieldLink RX7 81 "PilotBookModel" "pilots" "I" ∈ wsX7_counted := by decide +kernel
theorem m_X7_counted_5 : Cond.fieldLink RX7 72 "PilotBookModel" "passages" "I" ∈ wsX7_counted := by decide +kernel
def w_X7_counted (dc : Nat × Nat) (h : XH) (l0 : Nat) (l1 : Int32) (Po : Int32 → Prop) : Prop :=
  ((l1 = 0 → wI h l0 8 1 (fun v1 => Po v1)) ∧ (l1 = 1 → wI h l0 8 6 (fun v2 => Po v2)) ∧ (l1 = 2 → wI h l0 8 9 (fun v3 => Po v3)) ∧ (l1 = 3 → wI h l0 8 12 (fun v4 => Po v4)) ∧ ((l1).toInt < 0 ∨ 3 < (l1).toInt → wI h l0 8 16 (fun v5 => Po v5)))
set_option maxRecDepth 100000 in
set_option maxHeartbeats 4000000 in
theorem k_X7_counted (l : Launch) (dc : Nat × Nat) (h : XH) (l0 : Nat) (l1 : Int32) (Po : Int32 → Prop) (hw : w_X7_counted dc h l0 l1 Po) : xM l dc yX7_counted wsX7_counted 0 0 0 0 [.ref l0, .int l1] h (xRi h Po) := by
  refine xM_of [(0, .ref l0), (1, .int l1)] (own := RX7) (cc := cX7_counted) (nL := 2) (ret := (some .int)) (by decide +kernel) rfl rfl (Nat.le_of_ble_eq_true rfl) rfl ?_
  intro X V hX S E
  subst hX
  refine xr_iload_n S 1 dX7_counted_0 rfl ?_
  by_cases c0 : l1 = 0
  · have hw := hw.1 c0
    refine xr_swIn S 0 dX7_counted_1 (by rw [c0]; rfl) (by decide) (by decide) rfl (tgt := 32) (by decide) ?_
    refine xr_aload_n S 0 dX7_counted_32 rfl ?_
    refine xw_getI S 8 1 dX7_counted_33 in_X7_counted_X7 rfl (by decide) (Or.inl m_X7_counted_1) (Or.inl rfl) hw (fun v1 hw => ?_)
    exact E.1 _ _ _ _ _ _ rfl dX7_counted_36 ⟨_, rfl, rfl, hw⟩ (Nat.le_of_ble_eq_true rfl) (Nat.le_of_ble_eq_true rfl)
  by_cases c1 : l1 = 1
  · have hw := hw.2.1 c1
    refine xr_swIn S 1 dX7_counted_1 (by rw [c1]; rfl) (by decide) (by decide) rfl (tgt := 37) (by decide) ?_
    refine xr_aload_n S 0 dX7_counted_37 rfl ?_
    refine xw_getI S 8 6 dX7_counted_38 in_X7_counted_X7 rfl (by decide) (Or.inl m_X7_counted_2) (Or.inl rfl) hw (fun v2 hw => ?_)
    exact E.1 _ _ _ _ _ _ rfl dX7_counted_41 ⟨_, rfl, rfl, hw⟩ (Nat.le_of_ble_eq_true rfl) (Nat.le_of_ble_eq_true rfl)
  by_cases c2 : l1 = 2
  · have hw := hw.2.2.1 c2
    refine xr_swIn S 2 dX7_counted_1 (by rw [c2]; rfl) (by decide) (by decide) rfl (tgt := 42) (by decide) ?_
    refine xr_aload_n S 0 dX7_counted_42 rfl ?_
    refine xw_getI S 8 9 dX7_counted_43 in_X7_counted_X7 rfl (by decide) (Or.inl m_X7_counted_3) (Or.inl rfl) hw (fun v3 hw => ?_)
    exact E.1 _ _ _ _ _ _ rfl dX7_counted_46 ⟨_, rfl, rfl, hw⟩ (Nat.le_of_ble_eq_true rfl) (Nat.le_of_ble_eq_true rfl)
  by_cases c3 : l1 = 3
  · have hw := hw.2.2.2.1 c3
    refine xr_swIn S 3 dX7_counted_1 (by rw [c3]; rfl) (by decide) (by decide) rfl (tgt := 47) (by decide) ?_
    refine xr_aload_n S 0 dX7_counted_47 rfl ?_
    refine xw_getI S 8 12 dX7_counted_48 in_X7_counted_X7 rfl (by decide) (Or.inl m_X7_counted_4) (Or.inl rfl) hw (fun v4 hw => ?_)
    exact E.1 _ _ _ _ _ _ rfl dX7_counted_51 ⟨_, rfl, rfl, hw⟩ (Nat.le_of_ble_eq_true rfl) (Nat.le_of_ble_eq_true rfl)
  have hx : (l1).toInt < 0 ∨ 3 < (l1).toInt := by
    have h0 := lv_neT c0 (a := 0) rfl
    have h1 := lv_neT c1 (a := 1) rfl
    have h2 := lv_neT c2 (a := 2) rfl
    have h3 := lv_neT c3 (a := 3) rfl
    omega
  have hw := hw.2.2.2.2 hx
  refine xr_swOut S (tgt := 52) dX7_counted_1 hx (by decide) ?_
  refine xr_aload_n S 0 dX7_counted_52 rfl ?_
  refine xw_getI S 8 16 dX7_counted_53 in_X7_counted_X7 rfl (by decide) (Or.inl m_X7_counted_5) (Or.inl rfl) hw (fun v5 hw => ?_)
  exact E.1 _ _ _ _ _ _ rfl dX7_counted_56 ⟨_, rfl, rfl, hw⟩ (Nat.le_of_ble_eq_true rfl) (Nat.le_of_ble_eq_true rfl)
theorem in_X7_count_X7 : ∀ w ∈ wsX70, w ∈ wsX7_count := by decide +kernel
theorem m_X7_count_1 : Cond.fieldLink RX7 48 "PilotBookModel" "thrown" "I" ∈ wsX7_count := by decide +kernel
def w_X7_count (dc : Nat × Nat) (h : XH) (l0 : Nat) (l1 : Int32) (Po : Int32 → XH → Prop) : Prop :=
  wP h l0 8 0 (.int 0) (fun h1 => w_X7_isIn dc h1 l1 0 4 (fun r2 => wIf (r2 = 0) (wO h1 l0 8 ( w_X7_fail dc h1 l0 1 (fun r7 h8 => Po r7 h8))) (wO h1 l0 8 ( w_X7_counted dc h1 l0 l1 (fun r12 => Po r12 h1)))))
set_option maxRecDepth 100000 in
set_option maxHeartbeats 4000000 in
theorem k_X7_count (l : Launch) (dc : Nat × Nat) (h : XH) (l0 : Nat) (l1 : Int32) (Po : Int32 → XH → Prop) (hw : w_X7_count dc h l0 l1 Po) : xM l dc yX7_count wsX7_count 1 22 0 0 [.ref l0, .int l1] h (xPi Po) := by
  refine xM_of [(0, .ref l0), (1, .int l1)] (own := RX7) (cc := cX7_count) (nL := 2) (ret := (some .int)) (by decide +kernel) rfl rfl (Nat.le_of_ble_eq_true rfl) rfl ?_
  intro X V hX S E
  subst hX
  refine xr_aload_n S 0 dX7_count_0 rfl ?_
  refine xr_iconst S (0) dX7_count_1 (by decide) ?_
  refine xw_put S 8 0 tyX7 dX7_count_2 in_X7_count_X7 rfl (by decide) (Or.inl m_X7_count_1) (Or.inl rfl) tyX7_ok nmX7 rfl rfl ⟨rfl, rfl⟩ hw (fun h1 hw => ?_)
  refine xr_iload_n S 1 dX7_count_5 rfl ?_
  refine xr_iconst S (0) dX7_count_6 (by decide) ?_
  refine xr_iconst S (4) dX7_count_7 (by decide) ?_
  refine xr_callS S [.int l1, .int 0, .int 4] [] dX7_count_8 (k_X7_isIn l (xdc X) h1 l1 0 4 _ hw) gX7_count_X7_isIn rfl pd_X7_isIn ⟨Nat.le_of_ble_eq_true rfl, Nat.le_of_ble_eq_true rfl⟩ rfl (Nat.le_of_ble_eq_true rfl) ⟨Nat.le_of_ble_eq_true rfl, Nat.le_of_ble_eq_true rfl⟩ (fun v9 h4 hv => ?_)
  obtain ⟨r2, rfl, rfl, hw⟩ := hv
  refine xw_if_eq S 22 dX7_count_11 (by decide) hw (fun c hw => ?_) (fun c hw => ?_)
  · refine xr_aload_n S 0 dX7_count_22 rfl ?_
    refine xr_iconst S (1) dX7_count_23 (by decide) ?_
    obtain ⟨e5, hw⟩ := hw
    obtain ⟨f6, f6x⟩ := id e5
    refine xr_callV S 8 [.int 1] [] dX7_count_24 (k_X7_fail l (xdc X) h1 l0 1 _ hw) gX7_count_X7_fail rfl pd_X7_fail ⟨Nat.le_of_ble_eq_true rfl, Nat.le_of_ble_eq_true rfl⟩ rfl (Nat.le_of_ble_eq_true rfl) ⟨Nat.le_of_ble_eq_true rfl, Nat.le_of_ble_eq_true rfl⟩ f6x rfl (fun v9 h8 hv => ?_)
    obtain ⟨r7, rfl, hw⟩ := hv
    exact E.1 _ _ _ _ _ _ rfl dX7_count_27 ⟨_, rfl, hw⟩ (Nat.le_of_ble_eq_true rfl) (Nat.le_of_ble_eq_true rfl)
  · refine xr_aload_n S 0 dX7_count_14 rfl ?_
    refine xr_iload_n S 1 dX7_count_15 rfl ?_
    obtain ⟨e10, hw⟩ := hw
    obtain ⟨f11, f11x⟩ := id e10
    refine xr_callV S 8 [.int l1] [] dX7_count_16 (k_X7_counted l (xdc X) h1 l0 l1 _ hw) gX7_count_X7_counted rfl pd_X7_counted ⟨Nat.le_of_ble_eq_true rfl, Nat.le_of_ble_eq_true rfl⟩ rfl (Nat.le_of_ble_eq_true rfl) ⟨Nat.le_of_ble_eq_true rfl, Nat.le_of_ble_eq_true rfl⟩ f11x rfl (fun v9 h14 hv => ?_)
    obtain ⟨r12, rfl, rfl, hw⟩ := hv
    refine xr_goto S (tgt := 27) dX7_count_19 (by decide) ?_
    exact E.1 _ _ _ _ _ _ rfl dX7_count_27 ⟨_, rfl, hw⟩ (Nat.le_of_ble_eq_true rfl) (Nat.le_of_ble_eq_true rfl)
theorem in_X7_needOf_X7 : ∀ w ∈ wsX70, w ∈ wsX7_needOf := by decide +kernel
theorem m_X7_needOf_1 : Cond.fieldLink RX7 32 "PilotBookModel" "drafts" "[I" ∈ wsX7_needOf := by decide +kernel
theorem m_X7_needOf_2 : Cond.fieldLink RX7 20 "PilotBookModel" "margin" "I" ∈ wsX7_needOf := by decide +kernel
def w_X7_needOf (dc : Nat × Nat) (h : XH) (l0 : Nat) (l1 : Int32) (Po : Int32 → Prop) : Prop :=
  wR h l0 8 11 (fun a1 => wAI h 2 a1 l1 (fun v2 => wR h l0 8 11 (fun a3 => wAI h 2 a3 l1 (fun v4 => wDiv 10 ( wI h l0 8 5 (fun v6 => Po ((v2 + (v4 / 10)) + v6)))))))
set_option maxRecDepth 100000 in
set_option maxHeartbeats 4000000 in
theorem k_X7_needOf (l : Launch) (dc : Nat × Nat) (h : XH) (l0 : Nat) (l1 : Int32) (Po : Int32 → Prop) (hw : w_X7_needOf dc h l0 l1 Po) : xM l dc yX7_needOf wsX7_needOf 0 0 0 0 [.ref l0, .int l1] h (xRi h Po) := by
  refine xM_of [(0, .ref l0), (1, .int l1)] (own := RX7) (cc := cX7_needOf) (nL := 2) (ret := (some .int)) (by decide +kernel) rfl rfl (Nat.le_of_ble_eq_true rfl) rfl ?_
  intro X V hX S E
  subst hX
  refine xr_aload_n S 0 dX7_needOf_0 rfl ?_
  refine xw_getR S 8 11 dX7_needOf_1 in_X7_needOf_X7 rfl (by decide) (Or.inl m_X7_needOf_1) (Or.inl rfl) hw (fun a1 hw => ?_)
  refine xr_iload_n S 1 dX7_needOf_4 rfl ?_
  refine xw_iald S 2 dX7_needOf_5 (Or.inr rfl) hw (fun v2 hw => ?_)
  refine xr_aload_n S 0 dX7_needOf_6 rfl ?_
  refine xw_getR S 8 11 dX7_needOf_7 in_X7_needOf_X7 rfl (by decide) (Or.inl m_X7_needOf_1) (Or.inl rfl) hw (fun a3 hw => ?_)
  refine xr_iload_n S 1 dX7_needOf_10 rfl ?_
  refine xw_iald S 2 dX7_needOf_11 (Or.inr rfl) hw (fun v4 hw => ?_)
  refine xr_bipush S (10) dX7_needOf_12 (by decide) ?_
  obtain ⟨hn5, hw⟩ := hw
  refine xr_idiv S dX7_needOf_14 hn5 ?_
  refine xr_iadd S dX7_needOf_15 ?_
  refine xr_aload_n S 0 dX7_needOf_16 rfl ?_
  refine xw_getI S 8 5 dX7_needOf_17 in_X7_needOf_X7 rfl (by decide) (Or.inl m_X7_needOf_2) (Or.inl rfl) hw (fun v6 hw => ?_)
  refine xr_iadd S dX7_needOf_20 ?_
  exact E.1 _ _ _ _ _ _ rfl dX7_needOf_21 ⟨_, rfl, rfl, hw⟩ (Nat.le_of_ble_eq_true rfl) (Nat.le_of_ble_eq_true rfl)
theorem in_X7_need_X7 : ∀ w ∈ wsX70, w ∈ wsX7_need := by decide +kernel
theorem m_X7_need_1 : Cond.fieldLink RX7 48 "PilotBookModel" "thrown" "I" ∈ wsX7_need := by decide +kernel
def w_X7_need (dc : Nat × Nat) (h : XH) (l0 : Nat) (l1 : Int32) (Po : Int32 → XH → Prop) : Prop :=
  wP h l0 8 0 (.int 0) (fun h1 => wO h1 l0 8 ( w_X7_isShip dc h1 l0 l1 (fun r4 => wIf (r4 = 0) (w_X7_fail dc h1 l0 1 (fun r8 h9 => Po r8 h9)) (w_X7_needOf dc h1 l0 l1 (fun r12 => Po r12 h1)))))
set_option maxRecDepth 100000 in
set_option maxHeartbeats 4000000 in
theorem k_X7_need (l : Launch) (dc : Nat × Nat) (h : XH) (l0 : Nat) (l1 : Int32) (Po : Int32 → XH → Prop) (hw : w_X7_need dc h l0 l1 Po) : xM l dc yX7_need wsX7_need 2 43 0 0 [.ref l0, .int l1] h (xPi Po) := by
  refine xM_of [(0, .ref l0), (1, .int l1)] (own := RX7) (cc := cX7_need) (nL := 2) (ret := (some .int)) (by decide +kernel) rfl rfl (Nat.le_of_ble_eq_true rfl) rfl ?_
  intro X V hX S E
  subst hX
  refine xr_aload_n S 0 dX7_need_0 rfl ?_
  refine xr_iconst S (0) dX7_need_1 (by decide) ?_
  refine xw_put S 8 0 tyX7 dX7_need_2 in_X7_need_X7 rfl (by decide) (Or.inl m_X7_need_1) (Or.inl rfl) tyX7_ok nmX7 rfl rfl ⟨rfl, rfl⟩ hw (fun h1 hw => ?_)
  refine xr_aload_n S 0 dX7_need_5 rfl ?_
  refine xr_iload_n S 1 dX7_need_6 rfl ?_
  obtain ⟨e2, hw⟩ := hw
  obtain ⟨f3, f3x⟩ := id e2
  refine xr_callV S 8 [.int l1] [] dX7_need_7 (k_X7_isShip l (xdc X) h1 l0 l1 _ hw) gX7_need_X7_isShip rfl pd_X7_isShip ⟨Nat.le_of_ble_eq_true rfl, Nat.le_of_ble_eq_true rfl⟩ rfl (Nat.le_of_ble_eq_true rfl) ⟨Nat.le_of_ble_eq_true rfl, Nat.le_of_ble_eq_true rfl⟩ f3x rfl (fun v9 h6 hv => ?_)
  obtain ⟨r4, rfl, rfl, hw⟩ := hv
  refine xw_if_eq S 21 dX7_need_10 (by decide) hw (fun c hw => ?_) (fun c hw => ?_)
  · refine xr_aload_n S 0 dX7_need_21 rfl ?_
    refine xr_iconst S (1) dX7_need_22 (by decide) ?_
    obtain ⟨f7, f7x⟩ := id e2
    refine xr_callV S 8 [.int 1] [] dX7_need_23 (k_X7_fail l (xdc X) h1 l0 1 _ hw) gX7_need_X7_fail rfl pd_X7_fail ⟨Nat.le_of_ble_eq_true rfl, Nat.le_of_ble_eq_true rfl⟩ rfl (Nat.le_of_ble_eq_true rfl) ⟨Nat.le_of_ble_eq_true rfl, Nat.le_of_ble_eq_true rfl⟩ f7x rfl (fun v9 h9 hv => ?_)
    obtain ⟨r8, rfl, hw⟩ := hv
    exact E.1 _ _ _ _ _ _ rfl dX7_need_26 ⟨_, rfl, hw⟩ (Nat.le_of_ble_eq_true rfl) (Nat.le_of_ble_eq_true rfl)
  · refine xr_aload_n S 0 dX7_need_13 rfl ?_
    refine xr_iload_n S 1 dX7_need_14 rfl ?_
    obtain ⟨f11, f11x⟩ := id e2
    refine xr_callV S 8 [.int l1] [] dX7_need_15 (k_X7_needOf l (xdc X) h1 l0 l1 _ hw) gX7_need_X7_needOf rfl pd_X7_needOf ⟨Nat.le_of_ble_eq_true rfl, Nat.le_of_ble_eq_true rfl⟩ rfl (Nat.le_of_ble_eq_true rfl) ⟨Nat.le_of_ble_eq_true rfl, Nat.le_of_ble_eq_true rfl⟩ f11x rfl (fun v9 h14 hv => ?_)
    obtain ⟨r12, rfl, rfl, hw⟩ := hv
    refine xr_goto S (tgt := 26) dX7_need_18 (by decide) ?_
    exact E.1 _ _ _ _ _ _ rfl dX7_need_26 ⟨_, rfl, hw⟩ (Nat.le_of_ble_eq_true rfl) (Nat.le_of_ble_eq_true rfl)
theorem in_X7_hasWater_X7 : ∀ w ∈ wsX70, w ∈ wsX7_hasWater := by decide +kernel
theorem m_X7_hasWater_1 : Cond.fieldLink RX7 26 "PilotBookModel" "berthDepths" "[I" ∈ wsX7_hasWater := by decide +kernel
theorem m_X7_hasWater_2 : Cond.fieldLink RX7 16 "PilotBookModel" "barDepth" "I" ∈ wsX7_hasWater := by decide +kernel
def w_X7_hasWater_18 (dc : Nat × Nat) (h : XH) (l0 : Nat) (l1 : Int32) (l3 : Int32) (t0 : Int32) (Po : Int32 → Prop) : Prop :=
  w_X7_heightAt dc h l0 l3 (fun r4 => w_X7_needOf dc h l0 l1 (fun r8 => wIf ((t0 + r4) < r8) (wZ 0 (Po 0)) (wZ 1 (Po 1))))
set_option maxRecDepth 100000 in
set_option maxHeartbeats 4000000 in
theorem k_X7_hasWater_18 {V : XVT} {X : XC} {l : Launch} (S : xS V X l RX7 yX7_hasWater.name cX7_hasWater 4 wsX7_hasWater (xRm 1 23 0 0)) (h : XH) (l0 : Nat) (l1 : Int32) (l3 : Int32) (t0 : Int32) (Po : Int32 → Prop) (E : xEnd V cX7_hasWater (some .boolean) 0 0 (xRi h Po)) (hO : ∃ fs, h l0 = some (.inr (8, fs))) (hw : w_X7_hasWater_18 (xdc X) h l0 l1 l3 t0 Po) : V 0 0 h 18 [(0, .ref l0), (1, .int l1), (3, .int l3)] [.int t0] := by
  refine xr_aload_n S 0 dX7_hasWater_18 rfl ?_
  refine xr_iload_n S 2 dX7_hasWater_19 rfl ?_
  obtain ⟨f3, f3x⟩ := id hO
  refine xr_callV S 8 [.int l3] [.int t0] dX7_hasWater_20 (k_X7_heightAt l (xdc X) h l0 l3 _ hw) gX7_hasWater_X7_heightAt rfl pd_X7_heightAt ⟨Nat.le_of_ble_eq_true rfl, Nat.le_of_ble_eq_true rfl⟩ rfl (Nat.le_of_ble_eq_true rfl) ⟨Nat.le_of_ble_eq_true rfl, Nat.le_of_ble_eq_true rfl⟩ f3x rfl (fun v9 h6 hv => ?_)
  obtain ⟨r4, rfl, rfl, hw⟩ := hv
  refine xr_iadd S dX7_hasWater_23 ?_
  refine xr_aload_n S 0 dX7_hasWater_24 rfl ?_
  refine xr_iload_n S 1 dX7_hasWater_25 rfl ?_
  obtain ⟨f7, f7x⟩ := id hO
  refine xr_callV S 8 [.int l1] [.int (t0 + r4)] dX7_hasWater_26 (k_X7_needOf l (xdc X) h l0 l1 _ hw) gX7_hasWater_X7_needOf rfl pd_X7_needOf ⟨Nat.le_of_ble_eq_true rfl, Nat.le_of_ble_eq_true rfl⟩ rfl (Nat.le_of_ble_eq_true rfl) ⟨Nat.le_of_ble_eq_true rfl, Nat.le_of_ble_eq_true rfl⟩ f7x rfl (fun v9 h10 hv => ?_)
  obtain ⟨r8, rfl, rfl, hw⟩ := hv
  refine xw_icmp_lt S 36 dX7_hasWater_29 (by decide) hw (fun c hw => ?_) (fun c hw => ?_)
  · refine xr_iconst S (0) dX7_hasWater_36 (by decide) ?_
    obtain ⟨hz, hw⟩ := hw
    exact E.2.1 _ _ _ _ _ _ rfl hz dX7_hasWater_37 ⟨_, rfl, rfl, hw⟩ (Nat.le_of_ble_eq_true rfl) (Nat.le_of_ble_eq_true rfl)
  · refine xr_iconst S (1) dX7_hasWater_32 (by decide) ?_
    refine xr_goto S (tgt := 37) dX7_hasWater_33 (by decide) ?_
    obtain ⟨hz, hw⟩ := hw
    exact E.2.1 _ _ _ _ _ _ rfl hz dX7_hasWater_37 ⟨_, rfl, rfl, hw⟩ (Nat.le_of_ble_eq_true rfl) (Nat.le_of_ble_eq_true rfl)
def w_X7_hasWater (dc : Nat × Nat) (h : XH) (l0 : Nat) (l1 : Int32) (l2 : Int32) (l3 : Int32) (Po : Int32 → Prop) : Prop :=
  wO h l0 8 (wIf (l2 = (-1)) (wI h l0 8 4 (fun v11 => (w_X7_hasWater_18 dc h l0 l1 l3 v11 Po))) (wR h l0 8 8 (fun a1 => wAI h 2 a1 l2 (fun v2 => (w_X7_hasWater_18 dc h l0 l1 l3 v2 Po)))))
set_option maxRecDepth 100000 in
set_option maxHeartbeats 4000000 in
theorem k_X7_hasWater (l : Launch) (dc : Nat × Nat) (h : XH) (l0 : Nat) (l1 : Int32) (l2 : Int32) (l3 : Int32) (Po : Int32 → Prop) (hw : w_X7_hasWater dc h l0 l1 l2 l3 Po) : xM l dc yX7_hasWater wsX7_hasWater 1 23 0 0 [.ref l0, .int l1, .int l2, .int l3] h (xRi h Po) := by
  refine xM_of [(0, .ref l0), (1, .int l1), (2, .int l2), (3, .int l3)] (own := RX7) (cc := cX7_hasWater) (nL := 4) (ret := (some .boolean)) (by decide +kernel) rfl rfl (Nat.le_of_ble_eq_true rfl) rfl ?_
  intro X V hX S E
  subst hX
  obtain ⟨hO, hw⟩ := hw
  refine xr_iload_n S 2 dX7_hasWater_0 rfl ?_
  refine xr_iconst S (-1) dX7_hasWater_1 (by decide) ?_
  refine xw_icmp_ne S 12 dX7_hasWater_2 (by decide) hw (fun c hw => ?_) (fun c hw => ?_)
  · refine xr_aload_n S 0 dX7_hasWater_12 rfl ?_
    refine xw_getR S 8 8 dX7_hasWater_13 in_X7_hasWater_X7 rfl (by decide) (Or.inl m_X7_hasWater_1) (Or.inl rfl) hw (fun a1 hw => ?_)
    refine xr_iload_n S 2 dX7_hasWater_16 rfl ?_
    refine xw_iald S 2 dX7_hasWater_17 (Or.inr rfl) hw (fun v2 hw => ?_)
    refine xr_sub S [(0, .ref l0), (1, .int l1), (3, .int l3)] [0, 1, 3] rfl ?_
    exact k_X7_hasWater_18 S h l0 l1 l3 v2 Po E hO hw
  · refine xr_aload_n S 0 dX7_hasWater_5 rfl ?_
    refine xw_getI S 8 4 dX7_hasWater_6 in_X7_hasWater_X7 rfl (by decide) (Or.inl m_X7_hasWater_2) (Or.inl rfl) hw (fun v11 hw => ?_)
    refine xr_goto S (tgt := 18) dX7_hasWater_9 (by decide) ?_
    refine xr_sub S [(0, .ref l0), (1, .int l1), (3, .int l3)] [0, 1, 3] rfl ?_
    exact k_X7_hasWater_18 S h l0 l1 l3 v11 Po E hO hw
theorem in_X7_window_X7 : ∀ w ∈ wsX70, w ∈ wsX7_window := by decide +kernel
theorem m_X7_window_1 : Cond.fieldLink RX7 48 "PilotBookModel" "thrown" "I" ∈ wsX7_window := by decide +kernel
def w_X7_window_26 (dc : Nat × Nat) (h : XH) (l0 : Nat) (Po : Int32 → XH → Prop) : Prop :=
  wO h l0 8 ( w_X7_fail dc h l0 1 (fun r9 h10 => Po r9 h10))
set_option maxRecDepth 100000 in
set_option maxHeartbeats 4000000 in
theorem k_X7_window_26 {V : XVT} {X : XC} {l : Launch} (S : xS V X l RX7 yX7_window.name cX7_window 5 wsX7_window (xRm 2 46 0 0)) (h : XH) (l0 : Nat) (Po : Int32 → XH → Prop) (E : xEnd V cX7_window (some .int) 0 0 (xPi Po)) (hw : w_X7_window_26 (xdc X) h l0 Po) : V 0 0 h 26 [(0, .ref l0)] [] := by
  refine xr_aload_n S 0 dX7_window_26 rfl ?_
  refine xr_iconst S (1) dX7_window_27 (by decide) ?_
  obtain ⟨e7, hw⟩ := hw
  obtain ⟨f8, f8x⟩ := id e7
  refine xr_callV S 8 [.int 1] [] dX7_window_28 (k_X7_fail l (xdc X) h l0 1 _ hw) gX7_window_X7_fail rfl pd_X7_fail ⟨Nat.le_of_ble_eq_true rfl, Nat.le_of_ble_eq_true rfl⟩ rfl (Nat.le_of_ble_eq_true rfl) ⟨Nat.le_of_ble_eq_true rfl, Nat.le_of_ble_eq_true rfl⟩ f8x rfl (fun v9 h10 hv => ?_)
  obtain ⟨r9, rfl, hw⟩ := hv
  exact E.1 _ _ _ _ _ _ rfl dX7_window_31 ⟨_, rfl, hw⟩ (Nat.le_of_ble_eq_true rfl) (Nat.le_of_ble_eq_true rfl)
def w_X7_window_48_F (dc : Nat × Nat) (h : XH) (l0 : Nat) (l1 : Int32) (l2 : Int32) (Po : Int32 → XH → Prop) (rec48 : Int32 → Prop) : Int32 → Prop := fun l4 =>
  wIf (2879 < l4) (Po (-1) h) (wO h l0 8 ( w_X7_hasWater dc h l0 l1 l2 l4 (fun r17 => wIf (r17 = 0) (rec48 (l4 + 1)) (Po l4 h))))
def w_X7_window_48 (dc : Nat × Nat) (h : XH) (l0 : Nat) (l1 : Int32) (l2 : Int32) (Po : Int32 → XH → Prop) : Int32 → Prop := xloop (w_X7_window_48_F dc h l0 l1 l2 Po)
set_option maxRecDepth 100000 in
set_option maxHeartbeats 4000000 in
theorem k_X7_window_48 {V : XVT} {X : XC} {l : Launch} (S : xS V X l RX7 yX7_window.name cX7_window 5 wsX7_window (xRm 2 46 0 0)) (h : XH) (l0 : Nat) (l1 : Int32) (l2 : Int32) (Po : Int32 → XH → Prop) (E : xEnd V cX7_window (some .int) 0 0 (xPi Po)) (s0 : Int32) (hw : w_X7_window_48 (xdc X) h l0 l1 l2 Po s0) : V 0 0 h 48 [(0, .ref l0), (1, .int l1), (2, .int l2), (4, .int s0)] [] := by
  refine xloop_use (P := fun s : Int32 => V 0 0 h 48 [(0, .ref l0), (1, .int l1), (2, .int l2), (4, .int s)] []) (fun rec48 hr48 s hw => ?_) hw
  obtain ⟨l4, rfl⟩ : ∃ z, z = s := ⟨s, rfl⟩
  refine xr_iload S 3 dX7_window_48 rfl ?_
  refine xr_sipush S (2879) dX7_window_50 (by decide) ?_
  refine xw_icmp_gt S 76 dX7_window_53 (by decide) hw (fun c hw => ?_) (fun c hw => ?_)
  · refine xr_iconst S (-1) dX7_window_76 (by decide) ?_
    exact E.1 _ _ _ _ _ _ rfl dX7_window_77 ⟨_, rfl, hw⟩ (Nat.le_of_ble_eq_true rfl) (Nat.le_of_ble_eq_true rfl)
  · refine xr_aload_n S 0 dX7_window_56 rfl ?_
    refine xr_iload_n S 1 dX7_window_57 rfl ?_
    refine xr_iload_n S 2 dX7_window_58 rfl ?_
    refine xr_iload S 3 dX7_window_59 rfl ?_
    obtain ⟨e15, hw⟩ := hw
    obtain ⟨f16, f16x⟩ := id e15
    refine xr_callV S 8 [.int l1, .int l2, .int l4] [] dX7_window_61 (k_X7_hasWater l (xdc X) h l0 l1 l2 l4 _ hw) gX7_window_X7_hasWater rfl pd_X7_hasWater ⟨Nat.le_of_ble_eq_true rfl, Nat.le_of_ble_eq_true rfl⟩ rfl (Nat.le_of_ble_eq_true rfl) ⟨Nat.le_of_ble_eq_true rfl, Nat.le_of_ble_eq_true rfl⟩ f16x rfl (fun v9 h19 hv => ?_)
    obtain ⟨r17, rfl, rfl, hw⟩ := hv
    refine xw_if_eq S 70 dX7_window_64 (by decide) hw (fun c hw => ?_) (fun c hw => ?_)
    · refine xr_iinc S 3 ((l4 + 1)) [(4, .int (l4 + 1)), (0, .ref l0), (1, .int l1), (2, .int l2)] dX7_window_70 rfl rfl (by decide) rfl ?_
      refine xr_goto S (tgt := 48) dX7_window_73 (by decide) ?_
      refine xr_sub S [(0, .ref l0), (1, .int l1), (2, .int l2), (4, .int (l4 + 1))] [1, 2, 3, 0] rfl ?_
      exact hr48 (l4 + 1) hw
    · refine xr_iload S 3 dX7_window_67 rfl ?_
      exact E.1 _ _ _ _ _ _ rfl dX7_window_69 ⟨_, rfl, hw⟩ (Nat.le_of_ble_eq_true rfl) (Nat.le_of_ble_eq_true rfl)
def w_X7_window_32 (dc : Nat × Nat) (h : XH) (l0 : Nat) (l1 : Int32) (l2 : Int32) (l3 : Int32) (Po : Int32 → XH → Prop) : Prop :=
  w_X7_isTime dc h l3 (fun r12 => wIf (r12 = 0) (wO h l0 8 ( w_X7_fail dc h l0 2 (fun r22 h23 => Po r22 h23))) (w_X7_window_48 dc h l0 l1 l2 Po l3))
set_option maxRecDepth 100000 in
set_option maxHeartbeats 4000000 in
theorem k_X7_window_32 {V : XVT} {X : XC} {l : Launch} (S : xS V X l RX7 yX7_window.name cX7_window 5 wsX7_window (xRm 2 46 0 0)) (h : XH) (l0 : Nat) (l1 : Int32) (l2 : Int32) (l3 : Int32) (Po : Int32 → XH → Prop) (E : xEnd V cX7_window (some .int) 0 0 (xPi Po)) (hw : w_X7_window_32 (xdc X) h l0 l1 l2 l3 Po) : V 0 0 h 32 [(0, .ref l0), (1, .int l1), (2, .int l2), (3, .int l3)] [] := by
  refine xr_iload_n S 3 dX7_window_32 rfl ?_
  refine xr_callS S [.int l3] [] dX7_window_33 (k_X7_isTime l (xdc X) h l3 _ hw) gX7_window_X7_isTime rfl pd_X7_isTime ⟨Nat.le_of_ble_eq_true rfl, Nat.le_of_ble_eq_true rfl⟩ rfl (Nat.le_of_ble_eq_true rfl) ⟨Nat.le_of_ble_eq_true rfl, Nat.le_of_ble_eq_true rfl⟩ (fun v9 h14 hv => ?_)
  obtain ⟨r12, rfl, rfl, hw⟩ := hv
  refine xw_if_ne S 45 dX7_window_36 (by decide) hw (fun c hw => ?_) (fun c hw => ?_)
  · refine xr_iload_n S 3 dX7_window_45 rfl ?_
    refine xr_istore S [(4, .int l3), (0, .ref l0), (1, .int l1), (2, .int l2), (3, .int l3)] dX7_window_46 (by decide) rfl ?_
    refine xr_sub S [(0, .ref l0), (1, .int l1), (2, .int l2), (4, .int l3)] [1, 2, 3, 0] rfl ?_
    exact k_X7_window_48 S h l0 l1 l2 Po E l3 hw
  · refine xr_aload_n S 0 dX7_window_39 rfl ?_
    refine xr_iconst S (2) dX7_window_40 (by decide) ?_
    obtain ⟨e20, hw⟩ := hw
    obtain ⟨f21, f21x⟩ := id e20
    refine xr_callV S 8 [.int 2] [] dX7_window_41 (k_X7_fail l (xdc X) h l0 2 _ hw) gX7_window_X7_fail rfl pd_X7_fail ⟨Nat.le_of_ble_eq_true rfl, Nat.le_of_ble_eq_true rfl⟩ rfl (Nat.le_of_ble_eq_true rfl) ⟨Nat.le_of_ble_eq_true rfl, Nat.le_of_ble_eq_true rfl⟩ f21x rfl (fun v9 h23 hv => ?_)
    obtain ⟨r22, rfl, hw⟩ := hv
    exact E.1 _ _ _ _ _ _ rfl dX7_window_44 ⟨_, rfl, hw⟩ (Nat.le_of_ble_eq_true rfl) (Nat.le_of_ble_eq_true rfl)
def w_X7_window (dc : Nat × Nat) (h : XH) (l0 : Nat) (l1 : Int32) (l2 : Int32) (l3 : Int32) (Po : Int32 → XH → Prop) : Prop :=
  wP h l0 8 0 (.int 0) (fun h1 => wO h1 l0 8 ( w_X7_isShip dc h1 l0 l1 (fun r4 => wIf (r4 = 0) (w_X7_window_26 dc h1 l0 Po) (wIf (l2 = (-1)) (w_X7_window_32 dc h1 l0 l1 l2 l3 Po) (w_X7_isBerth dc h1 l0 l2 (fun r26 => wIf (r26 = 0) (w_X7_window_26 dc h1 l0 Po) (w_X7_window_32 dc h1 l0 l1 l2 l3 Po)))))))
set_option maxRecDepth 100000 in
set_option maxHeartbeats 4000000 in
theorem k_X7_window (l : Launch) (dc : Nat × Nat) (h : XH) (l0 : Nat) (l1 : Int32) (l2 : Int32) (l3 : Int32) (Po : Int32 → XH → Prop) (hw : w_X7_window dc h l0 l1 l2 l3 Po) : xM l dc yX7_window wsX7_window 2 46 0 0 [.ref l0, .int l1, .int l2, .int l3] h (xPi Po) := by
  refine xM_of [(0, .ref l0), (1, .int l1), (2, .int l2), (3, .int l3)] (own := RX7) (cc := cX7_window) (nL := 5) (ret := (some .int)) (by decide +kernel) rfl rfl (Nat.le_of_ble_eq_true rfl) rfl ?_
  intro X V hX S E
  subst hX
  refine xr_aload_n S 0 dX7_window_0 rfl ?_
  refine xr_iconst S (0) dX7_window_1 (by decide) ?_
  refine xw_put S 8 0 tyX7 dX7_window_2 in_X7_window_X7 rfl (by decide) (Or.inl m_X7_window_1) (Or.inl rfl) tyX7_ok nmX7 rfl rfl ⟨rfl, rfl⟩ hw (fun h1 hw => ?_)
  refine xr_aload_n S 0 dX7_window_5 rfl ?_
  refine xr_iload_n S 1 dX7_window_6 rfl ?_
  obtain ⟨e2, hw⟩ := hw
  obtain ⟨f3, f3x⟩ := id e2
  refine xr_callV S 8 [.int l1] [] dX7_window_7 (k_X7_isShip l (xdc X) h1 l0 l1 _ hw) gX7_window_X7_isShip rfl pd_X7_isShip ⟨Nat.le_of_ble_eq_true rfl, Nat.le_of_ble_eq_true rfl⟩ rfl (Nat.le_of_ble_eq_true rfl) ⟨Nat.le_of_ble_eq_true rfl, Nat.le_of_ble_eq_true rfl⟩ f3x rfl (fun v9 h6 hv => ?_)
  obtain ⟨r4, rfl, rfl, hw⟩ := hv
  refine xw_if_eq S 26 dX7_window_10 (by decide) hw (fun c hw => ?_) (fun c hw => ?_)
  · refine xr_sub S [(0, .ref l0)] [0] rfl ?_
    exact k_X7_window_26 S h1 l0 Po E hw
  · refine xr_iload_n S 2 dX7_window_13 rfl ?_
    refine xr_iconst S (-1) dX7_window_14 (by decide) ?_
    refine xw_icmp_eq S 32 dX7_window_15 (by decide) hw (fun c hw => ?_) (fun c hw => ?_)
    · exact k_X7_window_32 S h1 l0 l1 l2 l3 Po E hw
    · refine xr_aload_n S 0 dX7_window_18 rfl ?_
      refine xr_iload_n S 2 dX7_window_19 rfl ?_
      obtain ⟨f25, f25x⟩ := id e2
      refine xr_callV S 8 [.int l2] [] dX7_window_20 (k_X7_isBerth l (xdc X) h1 l0 l2 _ hw) gX7_window_X7_isBerth rfl pd_X7_isBerth ⟨Nat.le_of_ble_eq_true rfl, Nat.le_of_ble_eq_true rfl⟩ rfl (Nat.le_of_ble_eq_true rfl) ⟨Nat.le_of_ble_eq_true rfl, Nat.le_of_ble_eq_true rfl⟩ f25x rfl (fun v9 h28 hv => ?_)
      obtain ⟨r26, rfl, rfl, hw⟩ := hv
      refine xw_if_ne S 32 dX7_window_23 (by decide) hw (fun c hw => ?_) (fun c hw => ?_)
      · exact k_X7_window_32 S h1 l0 l1 l2 l3 Po E hw
      · refine xr_sub S [(0, .ref l0)] [0] rfl ?_
        exact k_X7_window_26 S h1 l0 Po E hw
