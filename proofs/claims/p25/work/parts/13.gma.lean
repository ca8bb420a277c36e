theorem m_X6_init_0 : Cond.methodLink RX6 3 objectInit ∈ wsX6_init := by decide +kernel
theorem m_X6_init_1 : Cond.instanceMethod objectInit ∈ wsX6_init := by decide +kernel
theorem m_X6_init_2 : Cond.code objectInit ⟨#[0xb1]⟩ 1 none ∈ wsX6_init := by decide +kernel
theorem in_X6_init_X5 : ∀ w ∈ wsX50, w ∈ wsX6_init := by decide +kernel
theorem m_X6_init_4 : Cond.classLink RX6 9 RX5 ∈ wsX6_init := by decide +kernel
theorem m_X6_init_5 : Cond.instantiable RX5 3 ∈ wsX6_init := by decide +kernel
theorem m_X6_init_6 : Cond.initialized RX5 ∈ wsX6_init := by decide +kernel
theorem m_X6_init_7 : Cond.methodLink RX6 11 yX5_init ∈ wsX6_init := by decide +kernel
theorem m_X6_init_8 : Cond.instanceMethod yX5_init ∈ wsX6_init := by decide +kernel
theorem in_X6_init_X6 : ∀ w ∈ wsX60, w ∈ wsX6_init := by decide +kernel
theorem m_X6_init_10 : Cond.fieldLink RX6 12 "PilotBook" "tide" "LPilotBook$Tide;" ∈ wsX6_init := by decide +kernel
theorem in_X6_init_Jx4a65c : ∀ w ∈ wsJx4a65c0, w ∈ wsX6_init := by decide +kernel
theorem m_X6_init_12 : Cond.classLink RX6 16 RJx4a65c ∈ wsX6_init := by decide +kernel
theorem m_X6_init_13 : Cond.instantiable RJx4a65c 3 ∈ wsX6_init := by decide +kernel
theorem m_X6_init_14 : Cond.initialized RJx4a65c ∈ wsX6_init := by decide +kernel
theorem m_X6_init_15 : Cond.methodLink RX6 18 yJx4a65c_init_da8c8 ∈ wsX6_init := by decide +kernel
theorem m_X6_init_16 : Cond.instanceMethod yJx4a65c_init_da8c8 ∈ wsX6_init := by decide +kernel
theorem m_X6_init_17 : Cond.fieldLink RX6 19 "PilotBook" "berths" "Ljava/util/ArrayList;" ∈ wsX6_init := by decide +kernel
theorem m_X6_init_18 : Cond.fieldLink RX6 23 "PilotBook" "ships" "Ljava/util/ArrayList;" ∈ wsX6_init := by decide +kernel
theorem m_X6_init_19 : Cond.fieldLink RX6 26 "PilotBook" "pilots" "Ljava/util/ArrayList;" ∈ wsX6_init := by decide +kernel
theorem m_X6_init_20 : Cond.fieldLink RX6 29 "PilotBook" "passages" "Ljava/util/ArrayList;" ∈ wsX6_init := by decide +kernel
theorem m_X6_init_21 : Cond.fieldLink RX6 32 "PilotBook" "barDepth" "I" ∈ wsX6_init := by decide +kernel
theorem m_X6_init_22 : Cond.fieldLink RX6 36 "PilotBook" "margin" "I" ∈ wsX6_init := by decide +kernel
theorem m_X6_init_23 : Cond.fieldLink RX6 39 "PilotBook" "tugs" "I" ∈ wsX6_init := by decide +kernel
def w_X6_init (dc : Nat × Nat) (h : XH) (l0 : Nat) (Po : XH → Prop) : Prop :=
  wNew h 6 [.null, .null, .int 0] (fun q1 h2 => w_X5_init dc h2 q1 (fun h4 => wP h4 l0 7 0 (.ref q1) (fun h6 => wNew h6 0 [.int 0, .null, .int 0] (fun q7 h8 => w_Jx4a65c_init_da8c8 dc h8 q7 (fun h10 => wP h10 l0 7 1 (.ref q7) (fun h12 => wNew h12 0 [.int 0, .null, .int 0] (fun q13 h14 => w_Jx4a65c_init_da8c8 dc h14 q13 (fun h16 => wP h16 l0 7 2 (.ref q13) (fun h18 => wNew h18 0 [.int 0, .null, .int 0] (fun q19 h20 => w_Jx4a65c_init_da8c8 dc h20 q19 (fun h22 => wP h22 l0 7 3 (.ref q19) (fun h24 => wNew h24 0 [.int 0, .null, .int 0] (fun q25 h26 => w_Jx4a65c_init_da8c8 dc h26 q25 (fun h28 => wP h28 l0 7 4 (.ref q25) (fun h30 => wP h30 l0 7 5 (.int 1000) (fun h31 => wP h31 l0 7 6 (.int 50) (fun h32 => wP h32 l0 7 7 (.int 4) (fun h33 => Po h33))))))))))))))))))
set_option maxRecDepth 100000 in
set_option maxHeartbeats 4000000 in
theorem k_X6_init (l : Launch) (dc : Nat × Nat) (h : XH) (l0 : Nat) (Po : XH → Prop) (hw : w_X6_init dc h l0 Po) : xM l dc yX6_init wsX6_init 4 80 7 75 [.ref l0] h (xPv Po) := by
  refine xM_of [(0, .ref l0)] (own := RX6) (cc := cX6_init) (nL := 1) (ret := none) (by decide +kernel) rfl rfl (Nat.le_of_ble_eq_true rfl) rfl ?_
  intro X V hX S E
  subst hX
  refine xr_aload_n S 0 dX6_init_0 rfl ?_
  refine xr_objInit S dX6_init_1 m_X6_init_0 m_X6_init_1 m_X6_init_2 (Nat.le_of_ble_eq_true rfl) (Nat.le_of_ble_eq_true rfl) ?_
  refine xr_aload_n S 0 dX6_init_4 rfl ?_
  refine xr_new S 6 tyX5 [.null, .null, .int 0] dX6_init_5 in_X6_init_X5 tyX5_ok m_X6_init_4 m_X6_init_5 m_X6_init_6 rfl dfX5 (Nat.le_of_ble_eq_true rfl) (Nat.le_of_ble_eq_true rfl) (fun q1 hq => ?_)
  have hw := hw q1 hq
  generalize xup h q1 (.inr (6, [.null, .null, .int 0])) = h2 at hw ⊢
  refine xr_dup S dX6_init_8 rfl ?_
  refine xr_callI S [] [.ref q1, .ref l0] dX6_init_9 (k_X5_init l (xdc X) h2 q1 _ hw) gX6_init_X5_init rfl m_X6_init_6 m_X6_init_7 m_X6_init_8 rfl pd_X5_init ⟨Nat.le_of_ble_eq_true rfl, Nat.le_of_ble_eq_true rfl⟩ rfl (Nat.le_of_ble_eq_true rfl) ⟨Nat.le_of_ble_eq_true rfl, Nat.le_of_ble_eq_true rfl⟩ (fun v9 h4 hv => ?_)
  obtain ⟨rfl, hw⟩ := hv
  refine xw_putF S 7 0 tyX6 dX6_init_12 in_X6_init_X6 rfl (by decide) m_X6_init_10 (Or.inl rfl) tyX6_ok nmX6 rfl rfl rfl rfl (xfit_q _ (some q1)) hw (fun h6 hw => ?_)
  refine xr_aload_n S 0 dX6_init_15 rfl ?_
  refine xr_new S 0 tyJx4a65c [.int 0, .null, .int 0] dX6_init_16 in_X6_init_Jx4a65c tyJx4a65c_ok m_X6_init_12 m_X6_init_13 m_X6_init_14 rfl dfJx4a65c (Nat.le_of_ble_eq_true rfl) (Nat.le_of_ble_eq_true rfl) (fun q7 hq => ?_)
  have hw := hw q7 hq
  generalize xup h6 q7 (.inr (0, [.int 0, .null, .int 0])) = h8 at hw ⊢
  refine xr_dup S dX6_init_19 rfl ?_
  refine xr_callI S [] [.ref q7, .ref l0] dX6_init_20 (k_Jx4a65c_init_da8c8 l (xdc X) h8 q7 _ hw) gX6_init_Jx4a65c_init_da8c8 rfl m_X6_init_14 m_X6_init_15 m_X6_init_16 rfl pd_Jx4a65c_init_da8c8 ⟨Nat.le_of_ble_eq_true rfl, Nat.le_of_ble_eq_true rfl⟩ rfl (Nat.le_of_ble_eq_true rfl) ⟨Nat.le_of_ble_eq_true rfl, Nat.le_of_ble_eq_true rfl⟩ (fun v9 h10 hv => ?_)
  obtain ⟨rfl, hw⟩ := hv
  refine xw_putF S 7 1 tyX6 dX6_init_23 in_X6_init_X6 rfl (by decide) m_X6_init_17 (Or.inl rfl) tyX6_ok nmX6 rfl rfl rfl rfl (xfit_q _ (some q7)) hw (fun h12 hw => ?_)
  refine xr_aload_n S 0 dX6_init_26 rfl ?_
  refine xr_new S 0 tyJx4a65c [.int 0, .null, .int 0] dX6_init_27 in_X6_init_Jx4a65c tyJx4a65c_ok m_X6_init_12 m_X6_init_13 m_X6_init_14 rfl dfJx4a65c (Nat.le_of_ble_eq_true rfl) (Nat.le_of_ble_eq_true rfl) (fun q13 hq => ?_)
  have hw := hw q13 hq
  generalize xup h12 q13 (.inr (0, [.int 0, .null, .int 0])) = h14 at hw ⊢
  refine xr_dup S dX6_init_30 rfl ?_
  refine xr_callI S [] [.ref q13, .ref l0] dX6_init_31 (k_Jx4a65c_init_da8c8 l (xdc X) h14 q13 _ hw) gX6_init_Jx4a65c_init_da8c8 rfl m_X6_init_14 m_X6_init_15 m_X6_init_16 rfl pd_Jx4a65c_init_da8c8 ⟨Nat.le_of_ble_eq_true rfl, Nat.le_of_ble_eq_true rfl⟩ rfl (Nat.le_of_ble_eq_true rfl) ⟨Nat.le_of_ble_eq_true rfl, Nat.le_of_ble_eq_true rfl⟩ (fun v9 h16 hv => ?_)
  obtain ⟨rfl, hw⟩ := hv
  refine xw_putF S 7 2 tyX6 dX6_init_34 in_X6_init_X6 rfl (by decide) m_X6_init_18 (Or.inl rfl) tyX6_ok nmX6 rfl rfl rfl rfl (xfit_q _ (some q13)) hw (fun h18 hw => ?_)
  refine xr_aload_n S 0 dX6_init_37 rfl ?_
  refine xr_new S 0 tyJx4a65c [.int 0, .null, .int 0] dX6_init_38 in_X6_init_Jx4a65c tyJx4a65c_ok m_X6_init_12 m_X6_init_13 m_X6_init_14 rfl dfJx4a65c (Nat.le_of_ble_eq_true rfl) (Nat.le_of_ble_eq_true rfl) (fun q19 hq => ?_)
  have hw := hw q19 hq
  generalize xup h18 q19 (.inr (0, [.int 0, .null, .int 0])) = h20 at hw ⊢
  refine xr_dup S dX6_init_41 rfl ?_
  refine xr_callI S [] [.ref q19, .ref l0] dX6_init_42 (k_Jx4a65c_init_da8c8 l (xdc X) h20 q19 _ hw) gX6_init_Jx4a65c_init_da8c8 rfl m_X6_init_14 m_X6_init_15 m_X6_init_16 rfl pd_Jx4a65c_init_da8c8 ⟨Nat.le_of_ble_eq_true rfl, Nat.le_of_ble_eq_true rfl⟩ rfl (Nat.le_of_ble_eq_true rfl) ⟨Nat.le_of_ble_eq_true rfl, Nat.le_of_ble_eq_true rfl⟩ (fun v9 h22 hv => ?_)
  obtain ⟨rfl, hw⟩ := hv
  refine xw_putF S 7 3 tyX6 dX6_init_45 in_X6_init_X6 rfl (by decide) m_X6_init_19 (Or.inl rfl) tyX6_ok nmX6 rfl rfl rfl rfl (xfit_q _ (some q19)) hw (fun h24 hw => ?_)
  refine xr_aload_n S 0 dX6_init_48 rfl ?_
  refine xr_new S 0 tyJx4a65c [.int 0, .null, .int 0] dX6_init_49 in_X6_init_Jx4a65c tyJx4a65c_ok m_X6_init_12 m_X6_init_13 m_X6_init_14 rfl dfJx4a65c (Nat.le_of_ble_eq_true rfl) (Nat.le_of_ble_eq_true rfl) (fun q25 hq => ?_)
  have hw := hw q25 hq
  generalize xup h24 q25 (.inr (0, [.int 0, .null, .int 0])) = h26 at hw ⊢
  refine xr_dup S dX6_init_52 rfl ?_
  refine xr_callI S [] [.ref q25, .ref l0] dX6_init_53 (k_Jx4a65c_init_da8c8 l (xdc X) h26 q25 _ hw) gX6_init_Jx4a65c_init_da8c8 rfl m_X6_init_14 m_X6_init_15 m_X6_init_16 rfl pd_Jx4a65c_init_da8c8 ⟨Nat.le_of_ble_eq_true rfl, Nat.le_of_ble_eq_true rfl⟩ rfl (Nat.le_of_ble_eq_true rfl) ⟨Nat.le_of_ble_eq_true rfl, Nat.le_of_ble_eq_true rfl⟩ (fun v9 h28 hv => ?_)
  obtain ⟨rfl, hw⟩ := hv
  refine xw_putF S 7 4 tyX6 dX6_init_56 in_X6_init_X6 rfl (by decide) m_X6_init_20 (Or.inl rfl) tyX6_ok nmX6 rfl rfl rfl rfl (xfit_q _ (some q25)) hw (fun h30 hw => ?_)
  refine xr_aload_n S 0 dX6_init_59 rfl ?_
  refine xr_sipush S (1000) dX6_init_60 (by decide) ?_
  refine xw_put S 7 5 tyX6 dX6_init_63 in_X6_init_X6 rfl (by decide) (Or.inl m_X6_init_21) (Or.inl rfl) tyX6_ok nmX6 rfl rfl ⟨rfl, rfl⟩ hw (fun h31 hw => ?_)
  refine xr_aload_n S 0 dX6_init_66 rfl ?_
  refine xr_bipush S (50) dX6_init_67 (by decide) ?_
  refine xw_put S 7 6 tyX6 dX6_init_69 in_X6_init_X6 rfl (by decide) (Or.inl m_X6_init_22) (Or.inl rfl) tyX6_ok nmX6 rfl rfl ⟨rfl, rfl⟩ hw (fun h32 hw => ?_)
  refine xr_aload_n S 0 dX6_init_72 rfl ?_
  refine xr_iconst S (4) dX6_init_73 (by decide) ?_
  refine xw_put S 7 7 tyX6 dX6_init_74 in_X6_init_X6 rfl (by decide) (Or.inl m_X6_init_23) (Or.inl rfl) tyX6_ok nmX6 rfl rfl ⟨rfl, rfl⟩ hw (fun h33 hw => ?_)
  exact E.2.2.1 _ _ _ _ _ rfl dX6_init_77 ⟨rfl, hw⟩ (Nat.le_of_ble_eq_true rfl) (Nat.le_of_ble_eq_true rfl)
theorem gd_X6_checkRange_242 : ∀ w ∈ (vx_atS RX6 242 "java/lang/IllegalArgumentException" xNms).filter goodWord, w ∈ wsX6_checkRange := by decide +kernel
theorem m_X6_checkRange_1 : Cond.classLink RX6 238 "java/lang/IllegalArgumentException" ∈ wsX6_checkRange := by decide +kernel
theorem m_X6_checkRange_2 : Cond.initialized "java/lang/IllegalArgumentException" ∈ wsX6_checkRange := by decide +kernel
def w_X6_checkRange_10 (dc : Nat × Nat) (h : XH) (Po : Prop) (PX : String → Prop) : Prop :=
  PX "java/lang/IllegalArgumentException"
set_option maxRecDepth 100000 in
set_option maxHeartbeats 4000000 in
theorem k_X6_checkRange_10 {V : XVT} {VX : XWT} {X : XC} {l : Launch} (hfl : l.stackTraces = false) (S2 : xSX V VX X l RX6 yX6_checkRange.name cX6_checkRange 3 wsX6_checkRange (xRm 6 90 1 6)) (h : XH) (Po : Prop) (PX : String → Prop) (E : xEnd V cX6_checkRange none 1 6 (xRv h Po)) (EX : xEndX VX 1 6 (xXr h PX)) (TT : xThr V RX6 cX6_checkRange wsX6_checkRange (xRm 6 90 1 6) 1 6 (xXr h PX)) (hw : w_X6_checkRange_10 (xdc X) h Po PX) : V 0 0 h 10 [] [] := by
  have S := S2.S
  exact TT _ _ h _ _ _ "java/lang/IllegalArgumentException" "a value is out of its range" 238 240 242 dX6_checkRange_10 dX6_checkRange_13 dX6_checkRange_14 dX6_checkRange_16 dX6_checkRange_19 rfl (by decide) (by decide +kernel) (by decide) m_X6_checkRange_1 m_X6_checkRange_2 gd_X6_checkRange_242 xbad_242 xot_238_242 (Nat.le_of_ble_eq_true rfl) (Nat.le_of_ble_eq_true rfl) (Nat.le_of_ble_eq_true rfl) (Nat.le_of_ble_eq_true rfl) ⟨rfl, hw⟩ (Nat.le_of_ble_eq_true rfl) (Nat.le_of_ble_eq_true rfl)
def w_X6_checkRange (dc : Nat × Nat) (h : XH) (l0 : Int32) (l1 : Int32) (l2 : Int32) (Po : Prop) (PX : String → Prop) : Prop :=
  wIf (l0 < l1) (w_X6_checkRange_10 dc h Po PX) (wIf (l0 ≤ l2) (Po) (w_X6_checkRange_10 dc h Po PX))
set_option maxRecDepth 100000 in
set_option maxHeartbeats 4000000 in
theorem k_X6_checkRange (l : Launch) (hfl : l.stackTraces = false) (dc : Nat × Nat) (h : XH) (l0 : Int32) (l1 : Int32) (l2 : Int32) (Po : Prop) (PX : String → Prop) (hw : w_X6_checkRange dc h l0 l1 l2 Po PX) : xMX l dc yX6_checkRange wsX6_checkRange 6 90 1 6 [.int l0, .int l1, .int l2] h (xRv h Po) (xXr h PX) := by
  refine xMX_of hfl [(0, .int l0), (1, .int l1), (2, .int l2)] (own := RX6) (cc := cX6_checkRange) (nL := 3) (ret := none) (by decide +kernel) rfl rfl (Nat.le_of_ble_eq_true rfl) rfl ?_
  intro X V VX hX S2 E EX TT
  subst hX
  have S := S2.S
  refine xr_iload_n S 0 dX6_checkRange_0 rfl ?_
  refine xr_iload_n S 1 dX6_checkRange_1 rfl ?_
  refine xw_icmp_lt S 10 dX6_checkRange_2 (by decide) hw (fun c hw => ?_) (fun c hw => ?_)
  · refine xr_sub S [] [] rfl ?_
    exact k_X6_checkRange_10 hfl S2 h Po PX E EX TT hw
  · refine xr_iload_n S 0 dX6_checkRange_5 rfl ?_
    refine xr_iload_n S 2 dX6_checkRange_6 rfl ?_
    refine xw_icmp_le S 20 dX6_checkRange_7 (by decide) hw (fun c hw => ?_) (fun c hw => ?_)
    · exact E.2.2.1 _ _ _ _ _ rfl dX6_checkRange_20 ⟨rfl, rfl, hw⟩ (Nat.le_of_ble_eq_true rfl) (Nat.le_of_ble_eq_true rfl)
    · refine xr_sub S [] [] rfl ?_
      exact k_X6_checkRange_10 hfl S2 h Po PX E EX TT hw
def w_p_X6_checkRange_10 (dc : Nat × Nat) (h : XH) (Po : Prop) : Prop :=
  False
set_option maxRecDepth 100000 in
set_option maxHeartbeats 4000000 in
theorem k_p_X6_checkRange_10 {V : XVT} {X : XC} {l : Launch} (S : xS V X l RX6 yX6_checkRange.name cX6_checkRange 3 wsX6_checkRange (xRm 0 0 0 0)) (h : XH) (Po : Prop) (E : xEnd V cX6_checkRange none 0 0 (xRv h Po)) (hw : w_p_X6_checkRange_10 (xdc X) h Po) : V 0 0 h 10 [] [] := by
  exact hw.elim
def w_p_X6_checkRange (dc : Nat × Nat) (h : XH) (l0 : Int32) (l1 : Int32) (l2 : Int32) (Po : Prop) : Prop :=
  wIf (l0 < l1) (w_p_X6_checkRange_10 dc h Po) (wIf (l0 ≤ l2) (Po) (w_p_X6_checkRange_10 dc h Po))
set_option maxRecDepth 100000 in
set_option maxHeartbeats 4000000 in
theorem k_p_X6_checkRange (l : Launch) (dc : Nat × Nat) (h : XH) (l0 : Int32) (l1 : Int32) (l2 : Int32) (Po : Prop) (hw : w_p_X6_checkRange dc h l0 l1 l2 Po) : xM l dc yX6_checkRange wsX6_checkRange 0 0 0 0 [.int l0, .int l1, .int l2] h (xRv h Po) := by
  refine xM_of [(0, .int l0), (1, .int l1), (2, .int l2)] (own := RX6) (cc := cX6_checkRange) (nL := 3) (ret := none) (by decide +kernel) rfl rfl (Nat.le_of_ble_eq_true rfl) rfl ?_
  intro X V hX S E
  subst hX
  refine xr_iload_n S 0 dX6_checkRange_0 rfl ?_
  refine xr_iload_n S 1 dX6_checkRange_1 rfl ?_
  refine xw_icmp_lt S 10 dX6_checkRange_2 (by decide) hw (fun c hw => ?_) (fun c hw => ?_)
  · refine xr_sub S [] [] rfl ?_
    exact k_p_X6_checkRange_10 S h Po E hw
  · refine xr_iload_n S 0 dX6_checkRange_5 rfl ?_
    refine xr_iload_n S 2 dX6_checkRange_6 rfl ?_
    refine xw_icmp_le S 20 dX6_checkRange_7 (by decide) hw (fun c hw => ?_) (fun c hw => ?_)
    · exact E.2.2.1 _ _ _ _ _ rfl dX6_checkRange_20 ⟨rfl, rfl, hw⟩ (Nat.le_of_ble_eq_true rfl) (Nat.le_of_ble_eq_true rfl)
    · refine xr_sub S [] [] rfl ?_
      exact k_p_X6_checkRange_10 S h Po E hw
def w_X6_checkTime (dc : Nat × Nat) (h : XH) (l0 : Int32) (Po : Prop) (PX : String → Prop) : Prop :=
  w_X6_checkRange dc h l0 0 2879 ( Po) (fun E => PX E)
set_option maxRecDepth 100000 in
set_option maxHeartbeats 4000000 in
theorem k_X6_checkTime (l : Launch) (hfl : l.stackTraces = false) (dc : Nat × Nat) (h : XH) (l0 : Int32) (Po : Prop) (PX : String → Prop) (hw : w_X6_checkTime dc h l0 Po PX) : xMX l dc yX6_checkTime wsX6_checkTime 7 112 1 6 [.int l0] h (xRv h Po) (xXr h PX) := by
  refine xMX_of hfl [(0, .int l0)] (own := RX6) (cc := cX6_checkTime) (nL := 1) (ret := none) (by decide +kernel) rfl rfl (Nat.le_of_ble_eq_true rfl) rfl ?_
  intro X V VX hX S2 E EX TT
  subst hX
  have S := S2.S
  refine xr_iload_n S 0 dX6_checkTime_0 rfl ?_
  refine xr_iconst S (0) dX6_checkTime_1 (by decide) ?_
  refine xr_sipush S (2879) dX6_checkTime_2 (by decide) ?_
  refine xr_callSX S2 [.int l0, .int 0, .int 2879] [] dX6_checkTime_5 (k_X6_checkRange l hfl (xdc X) h l0 0 2879 _ _ hw) gX6_checkTime_X6_checkRange rfl pd_X6_checkRange ⟨Nat.le_of_ble_eq_true rfl, Nat.le_of_ble_eq_true rfl⟩ rfl (Nat.le_of_ble_eq_true rfl) ⟨Nat.le_of_ble_eq_true rfl, Nat.le_of_ble_eq_true rfl⟩ (fun E1 h9 hx => by obtain ⟨rfl, hx⟩ := hx; exact EX _ _ _ _ _ _ ⟨rfl, hx⟩ (Nat.le_of_ble_eq_true rfl) (Nat.le_of_ble_eq_true rfl)) (fun v9 h3 hv => ?_)
  obtain ⟨rfl, rfl, hw⟩ := hv
  exact E.2.2.1 _ _ _ _ _ rfl dX6_checkTime_8 ⟨rfl, rfl, hw⟩ (Nat.le_of_ble_eq_true rfl) (Nat.le_of_ble_eq_true rfl)
def w_p_X6_checkTime (dc : Nat × Nat) (h : XH) (l0 : Int32) (Po : Prop) : Prop :=
  w_p_X6_checkRange dc h l0 0 2879 ( Po)
set_option maxRecDepth 100000 in
set_option maxHeartbeats 4000000 in
theorem k_p_X6_checkTime (l : Launch) (dc : Nat × Nat) (h : XH) (l0 : Int32) (Po : Prop) (hw : w_p_X6_checkTime dc h l0 Po) : xM l dc yX6_checkTime wsX6_checkTime 1 22 0 0 [.int l0] h (xRv h Po) := by
  refine xM_of [(0, .int l0)] (own := RX6) (cc := cX6_checkTime) (nL := 1) (ret := none) (by decide +kernel) rfl rfl (Nat.le_of_ble_eq_true rfl) rfl ?_
  intro X V hX S E
  subst hX
  refine xr_iload_n S 0 dX6_checkTime_0 rfl ?_
  refine xr_iconst S (0) dX6_checkTime_1 (by decide) ?_
  refine xr_sipush S (2879) dX6_checkTime_2 (by decide) ?_
  refine xr_callS S [.int l0, .int 0, .int 2879] [] dX6_checkTime_5 (k_p_X6_checkRange l (xdc X) h l0 0 2879 _ hw) gX6_checkTime_X6_checkRange rfl pd_X6_checkRange ⟨Nat.le_of_ble_eq_true rfl, Nat.le_of_ble_eq_true rfl⟩ rfl (Nat.le_of_ble_eq_true rfl) ⟨Nat.le_of_ble_eq_true rfl, Nat.le_of_ble_eq_true rfl⟩ (fun v9 h3 hv => ?_)
  obtain ⟨rfl, rfl, hw⟩ := hv
  exact E.2.2.1 _ _ _ _ _ rfl dX6_checkTime_8 ⟨rfl, rfl, hw⟩ (Nat.le_of_ble_eq_true rfl) (Nat.le_of_ble_eq_true rfl)
theorem in_X6_addTide_X6 : ∀ w ∈ wsX60, w ∈ wsX6_addTide := by decide +kernel
theorem m_X6_addTide_1 : Cond.fieldLink RX6 29 "PilotBook" "passages" "Ljava/util/ArrayList;" ∈ wsX6_addTide := by decide +kernel
theorem gd_X6_addTide_65 : ∀ w ∈ (vx_atS RX6 65 "java/lang/IllegalStateException" xNms).filter goodWord, w ∈ wsX6_addTide := by decide +kernel
theorem m_X6_addTide_3 : Cond.classLink RX6 61 "java/lang/IllegalStateException" ∈ wsX6_addTide := by decide +kernel
theorem m_X6_addTide_4 : Cond.initialized "java/lang/IllegalStateException" ∈ wsX6_addTide := by decide +kernel
theorem m_X6_addTide_5 : Cond.fieldLink RX6 12 "PilotBook" "tide" "LPilotBook$Tide;" ∈ wsX6_addTide := by decide +kernel
theorem in_X6_addTide_X5 : ∀ w ∈ wsX50, w ∈ wsX6_addTide := by decide +kernel
def w_X6_addTide_47 (dc : Nat × Nat) (h : XH) (Po : Int32 → XH → Prop) (PX : String → XH → Prop) : Prop :=
  PX "java/lang/IllegalStateException" h
set_option maxRecDepth 100000 in
set_option maxHeartbeats 4000000 in
theorem k_X6_addTide_47 {V : XVT} {VX : XWT} {X : XC} {l : Launch} (hfl : l.stackTraces = false) (S2 : xSX V VX X l RX6 yX6_addTide.name cX6_addTide 3 wsX6_addTide (xRm 8 132 3 18)) (h : XH) (Po : Int32 → XH → Prop) (PX : String → XH → Prop) (E : xEnd V cX6_addTide (some .int) 3 18 (xPi Po)) (EX : xEndX VX 3 18 PX) (TT : xThr V RX6 cX6_addTide wsX6_addTide (xRm 8 132 3 18) 3 18 PX) (hw : w_X6_addTide_47 (xdc X) h Po PX) : V 2 12 h 47 [] [] := by
  have S := S2.S
  exact TT _ _ h _ _ _ "java/lang/IllegalStateException" "the point can't be added now" 61 63 65 dX6_addTide_47 dX6_addTide_50 dX6_addTide_51 dX6_addTide_53 dX6_addTide_56 rfl (by decide) (by decide +kernel) (by decide) m_X6_addTide_3 m_X6_addTide_4 gd_X6_addTide_65 xbad_65 xot_61_65 (Nat.le_of_ble_eq_true rfl) (Nat.le_of_ble_eq_true rfl) (Nat.le_of_ble_eq_true rfl) (Nat.le_of_ble_eq_true rfl) hw (Nat.le_of_ble_eq_true rfl) (Nat.le_of_ble_eq_true rfl)
def w_X6_addTide (dc : Nat × Nat) (h : XH) (l0 : Nat) (l1 : Int32) (l2 : Int32) (Po : Int32 → XH → Prop) (PX : String → XH → Prop) : Prop :=
  w_X6_checkTime dc h l1 ( w_X6_checkRange dc h l2 (-300) 900 ( wR h l0 7 4 (fun a7 => wO h a7 0 ( w_Jx4a65c_isEmpty_aae02 dc h a7 (fun r10 => wIf (r10 = 0) (w_X6_addTide_47 dc h Po PX) (wR h l0 7 0 (fun a13 => wI h a13 6 2 (fun v14 => wIf (30 ≤ v14) (w_X6_addTide_47 dc h Po PX) (wR h l0 7 0 (fun a15 => wO h a15 6 ( w_X5_hasPointAt dc h a15 l1 (fun r18 => wIf (r18 = 0) (wR h l0 7 0 (fun a21 => wO h a21 6 ( w_X5_insert dc h a21 l1 l2 (fun h25 => wR h25 l0 7 0 (fun a27 => wI h25 a27 6 2 (fun v28 => Po v28 h25)))))) (w_X6_addTide_47 dc h Po PX)))))))))))) (fun E => PX E h)) (fun E => PX E h)
set_option maxRecDepth 100000 in
set_option maxHeartbeats 4000000 in
theorem k_X6_addTide (l : Launch) (hfl : l.stackTraces = false) (dc : Nat × Nat) (h : XH) (l0 : Nat) (l1 : Int32) (l2 : Int32) (Po : Int32 → XH → Prop) (PX : String → XH → Prop) (hw : w_X6_addTide dc h l0 l1 l2 Po PX) : xMX l dc yX6_addTide wsX6_addTide 8 132 3 18 [.ref l0, .int l1, .int l2] h (xPi Po) PX := by
  refine xMX_of hfl [(0, .ref l0), (1, .int l1), (2, .int l2)] (own := RX6) (cc := cX6_addTide) (nL := 3) (ret := (some .int)) (by decide +kernel) rfl rfl (Nat.le_of_ble_eq_true rfl) rfl ?_
  intro X V VX hX S2 E EX TT
  subst hX
  have S := S2.S
  refine xr_iload_n S 1 dX6_addTide_0 rfl ?_
  refine xr_callSX S2 [.int l1] [] dX6_addTide_1 (k_X6_checkTime l hfl (xdc X) h l1 _ _ hw) gX6_addTide_X6_checkTime rfl pd_X6_checkTime ⟨Nat.le_of_ble_eq_true rfl, Nat.le_of_ble_eq_true rfl⟩ rfl (Nat.le_of_ble_eq_true rfl) ⟨Nat.le_of_ble_eq_true rfl, Nat.le_of_ble_eq_true rfl⟩ (fun E1 h9 hx => by obtain ⟨rfl, hx⟩ := hx; exact EX _ _ _ _ _ _ hx (Nat.le_of_ble_eq_true rfl) (Nat.le_of_ble_eq_true rfl)) (fun v9 h3 hv => ?_)
  obtain ⟨rfl, rfl, hw⟩ := hv
  refine xr_iload_n S 2 dX6_addTide_4 rfl ?_
  refine xr_sipush S (-300) dX6_addTide_5 (by decide) ?_
  refine xr_sipush S (900) dX6_addTide_8 (by decide) ?_
  refine xr_callSX S2 [.int l2, .int (-300), .int 900] [] dX6_addTide_11 (k_X6_checkRange l hfl (xdc X) h l2 (-300) 900 _ _ hw) gX6_addTide_X6_checkRange rfl pd_X6_checkRange ⟨Nat.le_of_ble_eq_true rfl, Nat.le_of_ble_eq_true rfl⟩ rfl (Nat.le_of_ble_eq_true rfl) ⟨Nat.le_of_ble_eq_true rfl, Nat.le_of_ble_eq_true rfl⟩ (fun E1 h9 hx => by obtain ⟨rfl, hx⟩ := hx; exact EX _ _ _ _ _ _ hx (Nat.le_of_ble_eq_true rfl) (Nat.le_of_ble_eq_true rfl)) (fun v9 h6 hv => ?_)
  obtain ⟨rfl, rfl, hw⟩ := hv
  refine xr_aload_n S 0 dX6_addTide_14 rfl ?_
  refine xw_getR S 7 4 dX6_addTide_15 in_X6_addTide_X6 rfl (by decide) (Or.inl m_X6_addTide_1) (Or.inl rfl) hw (fun a7 hw => ?_)
  obtain ⟨e8, hw⟩ := hw
  obtain ⟨f9, f9x⟩ := id e8
  refine xr_callV S 0 [] [] dX6_addTide_18 (k_Jx4a65c_isEmpty_aae02 l (xdc X) h a7 _ hw) gX6_addTide_Jx4a65c_isEmpty_aae02 rfl pd_Jx4a65c_isEmpty_aae02 ⟨Nat.le_of_ble_eq_true rfl, Nat.le_of_ble_eq_true rfl⟩ rfl (Nat.le_of_ble_eq_true rfl) ⟨Nat.le_of_ble_eq_true rfl, Nat.le_of_ble_eq_true rfl⟩ f9x rfl (fun v9 h12 hv => ?_)
  obtain ⟨r10, rfl, rfl, hw⟩ := hv
  refine xw_if_eq S 47 dX6_addTide_21 (by decide) hw (fun c hw => ?_) (fun c hw => ?_)
  · refine xr_sub S [] [] rfl ?_
    exact k_X6_addTide_47 hfl S2 h Po PX E EX TT hw
  · refine xr_aload_n S 0 dX6_addTide_24 rfl ?_
    refine xw_getR S 7 0 dX6_addTide_25 in_X6_addTide_X6 rfl (by decide) (Or.inl m_X6_addTide_5) (Or.inl rfl) hw (fun a13 hw => ?_)
    refine xw_getI S 6 2 dX6_addTide_28 in_X6_addTide_X5 rfl (by decide) (Or.inr xn_X6_54) (Or.inl rfl) hw (fun v14 hw => ?_)
    refine xr_bipush S (30) dX6_addTide_31 (by decide) ?_
    refine xw_icmp_ge S 47 dX6_addTide_33 (by decide) hw (fun c hw => ?_) (fun c hw => ?_)
    · refine xr_sub S [] [] rfl ?_
      exact k_X6_addTide_47 hfl S2 h Po PX E EX TT hw
    · refine xr_aload_n S 0 dX6_addTide_36 rfl ?_
      refine xw_getR S 7 0 dX6_addTide_37 in_X6_addTide_X6 rfl (by decide) (Or.inl m_X6_addTide_5) (Or.inl rfl) hw (fun a15 hw => ?_)
      refine xr_iload_n S 1 dX6_addTide_40 rfl ?_
      obtain ⟨e16, hw⟩ := hw
      obtain ⟨f17, f17x⟩ := id e16
      refine xr_callV S 6 [.int l1] [] dX6_addTide_41 (k_X5_hasPointAt l (xdc X) h a15 l1 _ hw) gX6_addTide_X5_hasPointAt rfl pd_X5_hasPointAt ⟨Nat.le_of_ble_eq_true rfl, Nat.le_of_ble_eq_true rfl⟩ rfl (Nat.le_of_ble_eq_true rfl) ⟨Nat.le_of_ble_eq_true rfl, Nat.le_of_ble_eq_true rfl⟩ f17x rfl (fun v9 h20 hv => ?_)
      obtain ⟨r18, rfl, rfl, hw⟩ := hv
      refine xw_if_eq S 57 dX6_addTide_44 (by decide) hw (fun c hw => ?_) (fun c hw => ?_)
      · refine xr_aload_n S 0 dX6_addTide_57 rfl ?_
        refine xw_getR S 7 0 dX6_addTide_58 in_X6_addTide_X6 rfl (by decide) (Or.inl m_X6_addTide_5) (Or.inl rfl) hw (fun a21 hw => ?_)
        refine xr_iload_n S 1 dX6_addTide_61 rfl ?_
        refine xr_iload_n S 2 dX6_addTide_62 rfl ?_
        obtain ⟨e22, hw⟩ := hw
        obtain ⟨f23, f23x⟩ := id e22
        refine xr_callV S 6 [.int l1, .int l2] [] dX6_addTide_63 (k_X5_insert l (xdc X) h a21 l1 l2 _ hw) gX6_addTide_X5_insert rfl pd_X5_insert ⟨Nat.le_of_ble_eq_true rfl, Nat.le_of_ble_eq_true rfl⟩ rfl (Nat.le_of_ble_eq_true rfl) ⟨Nat.le_of_ble_eq_true rfl, Nat.le_of_ble_eq_true rfl⟩ f23x rfl (fun v9 h25 hv => ?_)
        obtain ⟨rfl, hw⟩ := hv
        refine xr_aload_n S 0 dX6_addTide_66 rfl ?_
        refine xw_getR S 7 0 dX6_addTide_67 in_X6_addTide_X6 rfl (by decide) (Or.inl m_X6_addTide_5) (Or.inl rfl) hw (fun a27 hw => ?_)
        refine xw_getI S 6 2 dX6_addTide_70 in_X6_addTide_X5 rfl (by decide) (Or.inr xn_X6_54) (Or.inl rfl) hw (fun v28 hw => ?_)
        exact E.1 _ _ _ _ _ _ rfl dX6_addTide_73 ⟨_, rfl, hw⟩ (Nat.le_of_ble_eq_true rfl) (Nat.le_of_ble_eq_true rfl)
      · refine xr_sub S [] [] rfl ?_
        exact k_X6_addTide_47 hfl S2 h Po PX E EX TT hw
theorem in_X6_setWater_X6 : ∀ w ∈ wsX60, w ∈ wsX6_setWater := by decide +kernel
theorem m_X6_setWater_1 : Cond.fieldLink RX6 32 "PilotBook" "barDepth" "I" ∈ wsX6_setWater := by decide +kernel
theorem m_X6_setWater_2 : Cond.fieldLink RX6 36 "PilotBook" "margin" "I" ∈ wsX6_setWater := by decide +kernel
def w_X6_setWater (dc : Nat × Nat) (h : XH) (l0 : Nat) (l1 : Int32) (l2 : Int32) (Po : Int32 → XH → Prop) (PX : String → XH → Prop) : Prop :=
  w_X6_checkRange dc h l1 300 2500 ( w_X6_checkRange dc h l2 0 500 ( wI h l0 7 5 (fun v7 => wP h l0 7 5 (.int l1) (fun h8 => wP h8 l0 7 6 (.int l2) (fun h9 => Po v7 h9)))) (fun E => PX E h)) (fun E => PX E h)
set_option maxRecDepth 100000 in
set_option maxHeartbeats 4000000 in
theorem k_X6_setWater (l : Launch) (hfl : l.stackTraces = false) (dc : Nat × Nat) (h : XH) (l0 : Nat) (l1 : Int32) (l2 : Int32) (Po : Int32 → XH → Prop) (PX : String → XH → Prop) (hw : w_X6_setWater dc h l0 l1 l2 Po PX) : xMX l dc yX6_setWater wsX6_setWater 7 112 2 12 [.ref l0, .int l1, .int l2] h (xPi Po) PX := by
  refine xMX_of hfl [(0, .ref l0), (1, .int l1), (2, .int l2)] (own := RX6) (cc := cX6_setWater) (nL := 4) (ret := (some .int)) (by decide +kernel) rfl rfl (Nat.le_of_ble_eq_true rfl) rfl ?_
  intro X V VX hX S2 E EX TT
  subst hX
  have S := S2.S
  refine xr_iload_n S 1 dX6_setWater_0 rfl ?_
  refine xr_sipush S (300) dX6_setWater_1 (by decide) ?_
  refine xr_sipush S (2500) dX6_setWater_4 (by decide) ?_
  refine xr_callSX S2 [.int l1, .int 300, .int 2500] [] dX6_setWater_7 (k_X6_checkRange l hfl (xdc X) h l1 300 2500 _ _ hw) gX6_setWater_X6_checkRange rfl pd_X6_checkRange ⟨Nat.le_of_ble_eq_true rfl, Nat.le_of_ble_eq_true rfl⟩ rfl (Nat.le_of_ble_eq_true rfl) ⟨Nat.le_of_ble_eq_true rfl, Nat.le_of_ble_eq_true rfl⟩ (fun E1 h9 hx => by obtain ⟨rfl, hx⟩ := hx; exact EX _ _ _ _ _ _ hx (Nat.le_of_ble_eq_true rfl) (Nat.le_of_ble_eq_true rfl)) (fun v9 h3 hv => ?_)
  obtain ⟨rfl, rfl, hw⟩ := hv
  refine xr_iload_n S 2 dX6_setWater_10 rfl ?_
  refine xr_iconst S (0) dX6_setWater_11 (by decide) ?_
  refine xr_sipush S (500) dX6_setWater_12 (by decide) ?_
  refine xr_callSX S2 [.int l2, .int 0, .int 500] [] dX6_setWater_15 (k_X6_checkRange l hfl (xdc X) h l2 0 500 _ _ hw) gX6_setWater_X6_checkRange rfl pd_X6_checkRange ⟨Nat.le_of_ble_eq_true rfl, Nat.le_of_ble_eq_true rfl⟩ rfl (Nat.le_of_ble_eq_true rfl) ⟨Nat.le_of_ble_eq_true rfl, Nat.le_of_ble_eq_true rfl⟩ (fun E1 h9 hx => by obtain ⟨rfl, hx⟩ := hx; exact EX _ _ _ _ _ _ hx (Nat.le_of_ble_eq_true rfl) (Nat.le_of_ble_eq_true rfl)) (fun v9 h6 hv => ?_)
  obtain ⟨rfl, rfl, hw⟩ := hv
  refine xr_aload_n S 0 dX6_setWater_18 rfl ?_
  refine xw_getI S 7 5 dX6_setWater_19 in_X6_setWater_X6 rfl (by decide) (Or.inl m_X6_setWater_1) (Or.inl rfl) hw (fun v7 hw => ?_)
  refine xr_istore_n S [(3, .int v7), (0, .ref l0), (1, .int l1), (2, .int l2)] dX6_setWater_22 (by decide) rfl ?_
  refine xr_aload_n S 1 dX6_setWater_23 rfl ?_
  refine xr_iload_n S 2 dX6_setWater_24 rfl ?_
  refine xw_put S 7 5 tyX6 dX6_setWater_25 in_X6_setWater_X6 rfl (by decide) (Or.inl m_X6_setWater_1) (Or.inl rfl) tyX6_ok nmX6 rfl rfl ⟨rfl, rfl⟩ hw (fun h8 hw => ?_)
  refine xr_aload_n S 1 dX6_setWater_28 rfl ?_
  refine xr_iload_n S 3 dX6_setWater_29 rfl ?_
  refine xw_put S 7 6 tyX6 dX6_setWater_30 in_X6_setWater_X6 rfl (by decide) (Or.inl m_X6_setWater_2) (Or.inl rfl) tyX6_ok nmX6 rfl rfl ⟨rfl, rfl⟩ hw (fun h9 hw => ?_)
  refine xr_iload_n S 0 dX6_setWater_33 rfl ?_
  exact E.1 _ _ _ _ _ _ rfl dX6_setWater_34 ⟨_, rfl, hw⟩ (Nat.le_of_ble_eq_true rfl) (Nat.le_of_ble_eq_true rfl)
theorem gd_X6_checkRoom_65 : ∀ w ∈ (vx_atS RX6 65 "java/lang/IllegalStateException" xNms).filter goodWord, w ∈ wsX6_checkRoom := by decide +kernel
theorem m_X6_checkRoom_1 : Cond.classLink RX6 61 "java/lang/IllegalStateException" ∈ wsX6_checkRoom := by decide +kernel
theorem m_X6_checkRoom_2 : Cond.initialized "java/lang/IllegalStateException" ∈ wsX6_checkRoom := by decide +kernel
def w_X6_checkRoom (dc : Nat × Nat) (h : XH) (l0 : Int32) (l1 : Int32) (Po : Prop) (PX : String → Prop) : Prop :=
  wIf (l0 < l1) (Po) (PX "java/lang/IllegalStateException")
set_option maxRecDepth 100000 in
set_option maxHeartbeats 4000000 in
theorem k_X6_checkRoom (l : Launch) (hfl : l.stackTraces = false) (dc : Nat × Nat) (h : XH) (l0 : Int32) (l1 : Int32) (Po : Prop) (PX : String → Prop) (hw : w_X6_checkRoom dc h l0 l1 Po PX) : xMX l dc yX6_checkRoom wsX6_checkRoom 6 90 1 6 [.int l0, .int l1] h (xRv h Po) (xXr h PX) := by
  refine xMX_of hfl [(0, .int l0), (1, .int l1)] (own := RX6) (cc := cX6_checkRoom) (nL := 2) (ret := none) (by decide +kernel) rfl rfl (Nat.le_of_ble_eq_true rfl) rfl ?_
  intro X V VX hX S2 E EX TT
  subst hX
  have S := S2.S
  refine xr_iload_n S 0 dX6_checkRoom_0 rfl ?_
  refine xr_iload_n S 1 dX6_checkRoom_1 rfl ?_
  refine xw_icmp_lt S 15 dX6_checkRoom_2 (by decide) hw (fun c hw => ?_) (fun c hw => ?_)
  · exact E.2.2.1 _ _ _ _ _ rfl dX6_checkRoom_15 ⟨rfl, rfl, hw⟩ (Nat.le_of_ble_eq_true rfl) (Nat.le_of_ble_eq_true rfl)
  · exact TT _ _ h _ _ _ "java/lang/IllegalStateException" "there is no room for one more" 61 245 65 dX6_checkRoom_5 dX6_checkRoom_8 dX6_checkRoom_9 dX6_checkRoom_11 dX6_checkRoom_14 rfl (by decide) (by decide +kernel) (by decide) m_X6_checkRoom_1 m_X6_checkRoom_2 gd_X6_checkRoom_65 xbad_65 xot_61_65 (Nat.le_of_ble_eq_true rfl) (Nat.le_of_ble_eq_true rfl) (Nat.le_of_ble_eq_true rfl) (Nat.le_of_ble_eq_true rfl) ⟨rfl, hw⟩ (Nat.le_of_ble_eq_true rfl) (Nat.le_of_ble_eq_true rfl)
theorem in_X6_addBerth_X6 : ∀ w ∈ wsX60, w ∈ wsX6_addBerth := by decide +kernel
theorem m_X6_addBerth_1 : Cond.fieldLink RX6 19 "PilotBook" "berths" "Ljava/util/ArrayList;" ∈ wsX6_addBerth := by decide +kernel
theorem in_X6_addBerth_X0 : ∀ w ∈ wsX00, w ∈ wsX6_addBerth := by decide +kernel
theorem m_X6_addBerth_3 : Cond.classLink RX6 82 RX0 ∈ wsX6_addBerth := by decide +kernel
theorem m_X6_addBerth_4 : Cond.instantiable RX0 3 ∈ wsX6_addBerth := by decide +kernel
theorem m_X6_addBerth_5 : Cond.initialized RX0 ∈ wsX6_addBerth := by decide +kernel
theorem m_X6_addBerth_6 : Cond.methodLink RX6 84 yX0_init ∈ wsX6_addBerth := by decide +kernel
theorem m_X6_addBerth_7 : Cond.instanceMethod yX0_init ∈ wsX6_addBerth := by decide +kernel
def w_X6_addBerth (dc : Nat × Nat) (h : XH) (l0 : Nat) (l1 : Int32) (l2 : Int32) (Po : Int32 → XH → Prop) (PX : String → XH → Prop) : Prop :=
  w_X6_checkRange dc h l1 20 400 ( w_X6_checkRange dc h l2 300 2500 ( wR h l0 7 1 (fun a7 => wO h a7 0 ( w_Jx4a65c_size_8abf5 dc h a7 (fun r10 => w_X6_checkRoom dc h r10 6 ( wR h l0 7 1 (fun a16 => wNew h 1 [.int 0, .int 0, .int 0] (fun q17 h18 => w_X0_init dc h18 q17 r10 l1 l2 (fun h20 => wO h20 a16 0 ( w_Jx4a65c_add_9ea2d dc h20 a16 q17 (fun r24 h25 => Po r10 h25)))))) (fun E => PX E h))))) (fun E => PX E h)) (fun E => PX E h)
set_option maxRecDepth 100000 in
set_option maxHeartbeats 4000000 in
theorem k_X6_addBerth (l : Launch) (hfl : l.stackTraces = false) (dc : Nat × Nat) (h : XH) (l0 : Nat) (l1 : Int32) (l2 : Int32) (Po : Int32 → XH → Prop) (PX : String → XH → Prop) (hw : w_X6_addBerth dc h l0 l1 l2 Po PX) : xMX l dc yX6_addBerth wsX6_addBerth 7 171 5 85 [.ref l0, .int l1, .int l2] h (xPi Po) PX := by
  refine xMX_of hfl [(0, .ref l0), (1, .int l1), (2, .int l2)] (own := RX6) (cc := cX6_addBerth) (nL := 4) (ret := (some .int)) (by decide +kernel) rfl rfl (Nat.le_of_ble_eq_true rfl) rfl ?_
  intro X V VX hX S2 E EX TT
  subst hX
  have S := S2.S
  refine xr_iload_n S 1 dX6_addBerth_0 rfl ?_
  refine xr_bipush S (20) dX6_addBerth_1 (by decide) ?_
  refine xr_sipush S (400) dX6_addBerth_3 (by decide) ?_
  refine xr_callSX S2 [.int l1, .int 20, .int 400] [] dX6_addBerth_6 (k_X6_checkRange l hfl (xdc X) h l1 20 400 _ _ hw) gX6_addBerth_X6_checkRange rfl pd_X6_checkRange ⟨Nat.le_of_ble_eq_true rfl, Nat.le_of_ble_eq_true rfl⟩ rfl (Nat.le_of_ble_eq_true rfl) ⟨Nat.le_of_ble_eq_true rfl, Nat.le_of_ble_eq_true rfl⟩ (fun E1 h9 hx => by obtain ⟨rfl, hx⟩ := hx; exact EX _ _ _ _ _ _ hx (Nat.le_of_ble_eq_true rfl) (Nat.le_of_ble_eq_true rfl)) (fun v9 h3 hv => ?_)
  obtain ⟨rfl, rfl, hw⟩ := hv
  refine xr_iload_n S 2 dX6_addBerth_9 rfl ?_
  refine xr_sipush S (300) dX6_addBerth_10 (by decide) ?_
  refine xr_sipush S (2500) dX6_addBerth_13 (by decide) ?_
  refine xr_callSX S2 [.int l2, .int 300, .int 2500] [] dX6_addBerth_16 (k_X6_checkRange l hfl (xdc X) h l2 300 2500 _ _ hw) gX6_addBerth_X6_checkRange rfl pd_X6_checkRange ⟨Nat.le_of_ble_eq_true rfl, Nat.le_of_ble_eq_true rfl⟩ rfl (Nat.le_of_ble_eq_true rfl) ⟨Nat.le_of_ble_eq_true rfl, Nat.le_of_ble_eq_true rfl⟩ (fun E1 h9 hx => by obtain ⟨rfl, hx⟩ := hx; exact EX _ _ _ _ _ _ hx (Nat.le_of_ble_eq_true rfl) (Nat.le_of_ble_eq_true rfl)) (fun v9 h6 hv => ?_)
  obtain ⟨rfl, rfl, hw⟩ := hv
  refine xr_aload_n S 0 dX6_addBerth_19 rfl ?_
  refine xw_getR S 7 1 dX6_addBerth_20 in_X6_addBerth_X6 rfl (by decide) (Or.inl m_X6_addBerth_1) (Or.inl rfl) hw (fun a7 hw => ?_)
  obtain ⟨e8, hw⟩ := hw
  obtain ⟨f9, f9x⟩ := id e8
  refine xr_callV S 0 [] [] dX6_addBerth_23 (k_Jx4a65c_size_8abf5 l (xdc X) h a7 _ hw) gX6_addBerth_Jx4a65c_size_8abf5 rfl pd_Jx4a65c_size_8abf5 ⟨Nat.le_of_ble_eq_true rfl, Nat.le_of_ble_eq_true rfl⟩ rfl (Nat.le_of_ble_eq_true rfl) ⟨Nat.le_of_ble_eq_true rfl, Nat.le_of_ble_eq_true rfl⟩ f9x rfl (fun v9 h12 hv => ?_)
  obtain ⟨r10, rfl, rfl, hw⟩ := hv
  refine xr_istore_n S [(3, .int r10), (0, .ref l0), (1, .int l1), (2, .int l2)] dX6_addBerth_26 (by decide) rfl ?_
  refine xr_iload_n S 0 dX6_addBerth_27 rfl ?_
  refine xr_bipush S (6) dX6_addBerth_28 (by decide) ?_
  refine xr_callSX S2 [.int r10, .int 6] [] dX6_addBerth_30 (k_X6_checkRoom l hfl (xdc X) h r10 6 _ _ hw) gX6_addBerth_X6_checkRoom rfl pd_X6_checkRoom ⟨Nat.le_of_ble_eq_true rfl, Nat.le_of_ble_eq_true rfl⟩ rfl (Nat.le_of_ble_eq_true rfl) ⟨Nat.le_of_ble_eq_true rfl, Nat.le_of_ble_eq_true rfl⟩ (fun E1 h9 hx => by obtain ⟨rfl, hx⟩ := hx; exact EX _ _ _ _ _ _ hx (Nat.le_of_ble_eq_true rfl) (Nat.le_of_ble_eq_true rfl)) (fun v9 h15 hv => ?_)
  obtain ⟨rfl, rfl, hw⟩ := hv
  refine xr_aload_n S 1 dX6_addBerth_33 rfl ?_
  refine xw_getR S 7 1 dX6_addBerth_34 in_X6_addBerth_X6 rfl (by decide) (Or.inl m_X6_addBerth_1) (Or.inl rfl) hw (fun a16 hw => ?_)
  refine xr_new S 1 tyX0 [.int 0, .int 0, .int 0] dX6_addBerth_37 in_X6_addBerth_X0 tyX0_ok m_X6_addBerth_3 m_X6_addBerth_4 m_X6_addBerth_5 rfl dfX0 (Nat.le_of_ble_eq_true rfl) (Nat.le_of_ble_eq_true rfl) (fun q17 hq => ?_)
  have hw := hw q17 hq
  generalize xup h q17 (.inr (1, [.int 0, .int 0, .int 0])) = h18 at hw ⊢
  refine xr_dup S dX6_addBerth_40 rfl ?_
  refine xr_iload_n S 0 dX6_addBerth_41 rfl ?_
  refine xr_iload_n S 2 dX6_addBerth_42 rfl ?_
  refine xr_iload_n S 3 dX6_addBerth_43 rfl ?_
  refine xr_callI S [.int r10, .int l1, .int l2] [.ref q17, .ref a16] dX6_addBerth_44 (k_X0_init l (xdc X) h18 q17 r10 l1 l2 _ hw) gX6_addBerth_X0_init rfl m_X6_addBerth_5 m_X6_addBerth_6 m_X6_addBerth_7 rfl pd_X0_init ⟨Nat.le_of_ble_eq_true rfl, Nat.le_of_ble_eq_true rfl⟩ rfl (Nat.le_of_ble_eq_true rfl) ⟨Nat.le_of_ble_eq_true rfl, Nat.le_of_ble_eq_true rfl⟩ (fun v9 h20 hv => ?_)
  obtain ⟨rfl, hw⟩ := hv
  obtain ⟨e22, hw⟩ := hw
  obtain ⟨f23, f23x⟩ := id e22
  refine xr_callV S 0 [.ref q17] [] dX6_addBerth_47 (k_Jx4a65c_add_9ea2d l (xdc X) h20 a16 q17 _ hw) gX6_addBerth_Jx4a65c_add_9ea2d rfl pd_Jx4a65c_add_9ea2d ⟨Nat.le_of_ble_eq_true rfl, Nat.le_of_ble_eq_true rfl⟩ rfl (Nat.le_of_ble_eq_true rfl) ⟨Nat.le_of_ble_eq_true rfl, Nat.le_of_ble_eq_true rfl⟩ f23x rfl (fun v9 h25 hv => ?_)
  obtain ⟨r24, rfl, hw⟩ := hv
  refine xr_pop S dX6_addBerth_50 rfl ?_
  refine xr_iload_n S 0 dX6_addBerth_51 rfl ?_
  exact E.1 _ _ _ _ _ _ rfl dX6_addBerth_52 ⟨_, rfl, hw⟩ (Nat.le_of_ble_eq_true rfl) (Nat.le_of_ble_eq_true rfl)
theorem in_X6_addShip_X6 : ∀ w ∈ wsX60, w ∈ wsX6_addShip := by decide +kernel
theorem m_X6_addShip_1 : Cond.fieldLink RX6 23 "PilotBook" "ships" "Ljava/util/ArrayList;" ∈ wsX6_addShip := by decide +kernel
theorem in_X6_addShip_X4 : ∀ w ∈ wsX40, w ∈ wsX6_addShip := by decide +kernel
theorem m_X6_addShip_3 : Cond.classLink RX6 90 RX4 ∈ wsX6_addShip := by decide +kernel
theorem m_X6_addShip_4 : Cond.instantiable RX4 4 ∈ wsX6_addShip := by decide +kernel
theorem m_X6_addShip_5 : Cond.initialized RX4 ∈ wsX6_addShip := by decide +kernel
theorem m_X6_addShip_6 : Cond.methodLink RX6 92 yX4_init ∈ wsX6_addShip := by decide +kernel
theorem m_X6_addShip_7 : Cond.instanceMethod yX4_init ∈ wsX6_addShip := by decide +kernel
def w_X6_addShip (dc : Nat × Nat) (h : XH) (l0 : Nat) (l1 : Int32) (l2 : Int32) (Po : Int32 → XH → Prop) (PX : String → XH → Prop) : Prop :=
  w_X6_checkRange dc h l1 20 400 ( w_X6_checkRange dc h l2 100 2000 ( wR h l0 7 2 (fun a7 => wO h a7 0 ( w_Jx4a65c_size_8abf5 dc h a7 (fun r10 => w_X6_checkRoom dc h r10 16 ( wR h l0 7 2 (fun a16 => wNew h 5 [.int 0, .int 0, .int 0, .null] (fun q17 h18 => w_X4_init dc h18 q17 r10 l1 l2 (fun h20 => wO h20 a16 0 ( w_Jx4a65c_add_9ea2d dc h20 a16 q17 (fun r24 h25 => Po r10 h25)))))) (fun E => PX E h))))) (fun E => PX E h)) (fun E => PX E h)
set_option maxRecDepth 100000 in
set_option maxHeartbeats 4000000 in
theorem k_X6_addShip (l : Launch) (hfl : l.stackTraces = false) (dc : Nat × Nat) (h : XH) (l0 : Nat) (l1 : Int32) (l2 : Int32) (Po : Int32 → XH → Prop) (PX : String → XH → Prop) (hw : w_X6_addShip dc h l0 l1 l2 Po PX) : xMX l dc yX6_addShip wsX6_addShip 7 171 5 86 [.ref l0, .int l1, .int l2] h (xPi Po) PX := by
  refine xMX_of hfl [(0, .ref l0), (1, .int l1), (2, .int l2)] (own := RX6) (cc := cX6_addShip) (nL := 4) (ret := (some .int)) (by decide +kernel) rfl rfl (Nat.le_of_ble_eq_true rfl) rfl ?_
  intro X V VX hX S2 E EX TT
  subst hX
  have S := S2.S
  refine xr_iload_n S 1 dX6_addShip_0 rfl ?_
  refine xr_bipush S (20) dX6_addShip_1 (by decide) ?_
  refine xr_sipush S (400) dX6_addShip_3 (by decide) ?_
  refine xr_callSX S2 [.int l1, .int 20, .int 400] [] dX6_addShip_6 (k_X6_checkRange l hfl (xdc X) h l1 20 400 _ _ hw) gX6_addShip_X6_checkRange rfl pd_X6_checkRange ⟨Nat.le_of_ble_eq_true rfl, Nat.le_of_ble_eq_true rfl⟩ rfl (Nat.le_of_ble_eq_true rfl) ⟨Nat.le_of_ble_eq_true rfl, Nat.le_of_ble_eq_true rfl⟩ (fun E1 h9 hx => by obtain ⟨rfl, hx⟩ := hx; exact EX _ _ _ _ _ _ hx (Nat.le_of_ble_eq_true rfl) (Nat.le_of_ble_eq_true rfl)) (fun v9 h3 hv => ?_)
  obtain ⟨rfl, rfl, hw⟩ := hv
  refine xr_iload_n S 2 dX6_addShip_9 rfl ?_
  refine xr_bipush S (100) dX6_addShip_10 (by decide) ?_
  refine xr_sipush S (2000) dX6_addShip_12 (by decide) ?_
  refine xr_callSX S2 [.int l2, .int 100, .int 2000] [] dX6_addShip_15 (k_X6_checkRange l hfl (xdc X) h l2 100 2000 _ _ hw) gX6_addShip_X6_checkRange rfl pd_X6_checkRange ⟨Nat.le_of_ble_eq_true rfl, Nat.le_of_ble_eq_true rfl⟩ rfl (Nat.le_of_ble_eq_true rfl) ⟨Nat.le_of_ble_eq_true rfl, Nat.le_of_ble_eq_true rfl⟩ (fun E1 h9 hx => by obtain ⟨rfl, hx⟩ := hx; exact EX _ _ _ _ _ _ hx (Nat.le_of_ble_eq_true rfl) (Nat.le_of_ble_eq_true rfl)) (fun v9 h6 hv => ?_)
  obtain ⟨rfl, rfl, hw⟩ := hv
  refine xr_aload_n S 0 dX6_addShip_18 rfl ?_
  refine xw_getR S 7 2 dX6_addShip_19 in_X6_addShip_X6 rfl (by decide) (Or.inl m_X6_addShip_1) (Or.inl rfl) hw (fun a7 hw => ?_)
  obtain ⟨e8, hw⟩ := hw
  obtain ⟨f9, f9x⟩ := id e8
  refine xr_callV S 0 [] [] dX6_addShip_22 (k_Jx4a65c_size_8abf5 l (xdc X) h a7 _ hw) gX6_addShip_Jx4a65c_size_8abf5 rfl pd_Jx4a65c_size_8abf5 ⟨Nat.le_of_ble_eq_true rfl, Nat.le_of_ble_eq_true rfl⟩ rfl (Nat.le_of_ble_eq_true rfl) ⟨Nat.le_of_ble_eq_true rfl, Nat.le_of_ble_eq_true rfl⟩ f9x rfl (fun v9 h12 hv => ?_)
  obtain ⟨r10, rfl, rfl, hw⟩ := hv
  refine xr_istore_n S [(3, .int r10), (0, .ref l0), (1, .int l1), (2, .int l2)] dX6_addShip_25 (by decide) rfl ?_
  refine xr_iload_n S 0 dX6_addShip_26 rfl ?_
  refine xr_bipush S (16) dX6_addShip_27 (by decide) ?_
  refine xr_callSX S2 [.int r10, .int 16] [] dX6_addShip_29 (k_X6_checkRoom l hfl (xdc X) h r10 16 _ _ hw) gX6_addShip_X6_checkRoom rfl pd_X6_checkRoom ⟨Nat.le_of_ble_eq_true rfl, Nat.le_of_ble_eq_true rfl⟩ rfl (Nat.le_of_ble_eq_true rfl) ⟨Nat.le_of_ble_eq_true rfl, Nat.le_of_ble_eq_true rfl⟩ (fun E1 h9 hx => by obtain ⟨rfl, hx⟩ := hx; exact EX _ _ _ _ _ _ hx (Nat.le_of_ble_eq_true rfl) (Nat.le_of_ble_eq_true rfl)) (fun v9 h15 hv => ?_)
  obtain ⟨rfl, rfl, hw⟩ := hv
  refine xr_aload_n S 1 dX6_addShip_32 rfl ?_
  refine xw_getR S 7 2 dX6_addShip_33 in_X6_addShip_X6 rfl (by decide) (Or.inl m_X6_addShip_1) (Or.inl rfl) hw (fun a16 hw => ?_)
  refine xr_new S 5 tyX4 [.int 0, .int 0, .int 0, .null] dX6_addShip_36 in_X6_addShip_X4 tyX4_ok m_X6_addShip_3 m_X6_addShip_4 m_X6_addShip_5 rfl dfX4 (Nat.le_of_ble_eq_true rfl) (Nat.le_of_ble_eq_true rfl) (fun q17 hq => ?_)
  have hw := hw q17 hq
  generalize xup h q17 (.inr (5, [.int 0, .int 0, .int 0, .null])) = h18 at hw ⊢
  refine xr_dup S dX6_addShip_39 rfl ?_
  refine xr_iload_n S 0 dX6_addShip_40 rfl ?_
  refine xr_iload_n S 2 dX6_addShip_41 rfl ?_
  refine xr_iload_n S 3 dX6_addShip_42 rfl ?_
  refine xr_callI S [.int r10, .int l1, .int l2] [.ref q17, .ref a16] dX6_addShip_43 (k_X4_init l (xdc X) h18 q17 r10 l1 l2 _ hw) gX6_addShip_X4_init rfl m_X6_addShip_5 m_X6_addShip_6 m_X6_addShip_7 rfl pd_X4_init ⟨Nat.le_of_ble_eq_true rfl, Nat.le_of_ble_eq_true rfl⟩ rfl (Nat.le_of_ble_eq_true rfl) ⟨Nat.le_of_ble_eq_true rfl, Nat.le_of_ble_eq_true rfl⟩ (fun v9 h20 hv => ?_)
  obtain ⟨rfl, hw⟩ := hv
  obtain ⟨e22, hw⟩ := hw
  obtain ⟨f23, f23x⟩ := id e22
  refine xr_callV S 0 [.ref q17] [] dX6_addShip_46 (k_Jx4a65c_add_9ea2d l (xdc X) h20 a16 q17 _ hw) gX6_addShip_Jx4a65c_add_9ea2d rfl pd_Jx4a65c_add_9ea2d ⟨Nat.le_of_ble_eq_true rfl, Nat.le_of_ble_eq_true rfl⟩ rfl (Nat.le_of_ble_eq_true rfl) ⟨Nat.le_of_ble_eq_true rfl, Nat.le_of_ble_eq_true rfl⟩ f23x rfl (fun v9 h25 hv => ?_)
  obtain ⟨r24, rfl, hw⟩ := hv
  refine xr_pop S dX6_addShip_49 rfl ?_
  refine xr_iload_n S 0 dX6_addShip_50 rfl ?_
  exact E.1 _ _ _ _ _ _ rfl dX6_addShip_51 ⟨_, rfl, hw⟩ (Nat.le_of_ble_eq_true rfl) (Nat.le_of_ble_eq_true rfl)
theorem in_X6_addPilot_X6 : ∀ w ∈ wsX60, w ∈ wsX6_addPilot := by decide +kernel
theorem m_X6_addPilot_1 : Cond.fieldLink RX6 26 "PilotBook" "pilots" "Ljava/util/ArrayList;" ∈ wsX6_addPilot := by decide +kernel
theorem in_X6_addPilot_X2 : ∀ w ∈ wsX20, w ∈ wsX6_addPilot := by decide +kernel
theorem m_X6_addPilot_3 : Cond.classLink RX6 103 RX2 ∈ wsX6_addPilot := by decide +kernel
theorem m_X6_addPilot_4 : Cond.instantiable RX2 4 ∈ wsX6_addPilot := by decide +kernel
theorem m_X6_addPilot_5 : Cond.initialized RX2 ∈ wsX6_addPilot := by decide +kernel
theorem m_X6_addPilot_6 : Cond.methodLink RX6 105 yX2_init ∈ wsX6_addPilot := by decide +kernel
theorem m_X6_addPilot_7 : Cond.instanceMethod yX2_init ∈ wsX6_addPilot := by decide +kernel
def w_X6_addPilot (dc : Nat × Nat) (h : XH) (l0 : Nat) (l1 : Int32) (l2 : Int32) (Po : Int32 → XH → Prop) (PX : String → XH → Prop) : Prop :=
  w_X6_checkRange dc h l1 20 400 ( wR h l0 7 3 (fun a4 => wO h a4 0 ( w_Jx4a65c_size_8abf5 dc h a4 (fun r7 => w_X6_checkRoom dc h r7 6 ( wR h l0 7 3 (fun a13 => wNew h 3 [.int 0, .int 0, .int 0, .null] (fun q14 h15 => w_X2_init dc h15 q14 r7 l1 l2 (fun h17 => wO h17 a13 0 ( w_Jx4a65c_add_9ea2d dc h17 a13 q14 (fun r21 h22 => Po r7 h22)))))) (fun E => PX E h))))) (fun E => PX E h)
set_option maxRecDepth 100000 in
set_option maxHeartbeats 4000000 in
theorem k_X6_addPilot (l : Launch) (hfl : l.stackTraces = false) (dc : Nat × Nat) (h : XH) (l0 : Nat) (l1 : Int32) (l2 : Int32) (Po : Int32 → XH → Prop) (PX : String → XH → Prop) (hw : w_X6_addPilot dc h l0 l1 l2 Po PX) : xMX l dc yX6_addPilot wsX6_addPilot 7 171 4 80 [.ref l0, .int l1, .int l2] h (xPi Po) PX := by
  refine xMX_of hfl [(0, .ref l0), (1, .int l1), (2, .int l2)] (own := RX6) (cc := cX6_addPilot) (nL := 4) (ret := (some .int)) (by decide +kernel) rfl rfl (Nat.le_of_ble_eq_true rfl) rfl ?_
  intro X V VX hX S2 E EX TT
  subst hX
  have S := S2.S
  refine xr_iload_n S 1 dX6_addPilot_0 rfl ?_
  refine xr_bipush S (20) dX6_addPilot_1 (by decide) ?_
  refine xr_sipush S (400) dX6_addPilot_3 (by decide) ?_
  refine xr_callSX S2 [.int l1, .int 20, .int 400] [] dX6_addPilot_6 (k_X6_checkRange l hfl (xdc X) h l1 20 400 _ _ hw) gX6_addPilot_X6_checkRange rfl pd_X6_checkRange ⟨Nat.le_of_ble_eq_true rfl, Nat.le_of_ble_eq_true rfl⟩ rfl (Nat.le_of_ble_eq_true rfl) ⟨Nat.le_of_ble_eq_true rfl, Nat.le_of_ble_eq_true rfl⟩ (fun E1 h9 hx => by obtain ⟨rfl, hx⟩ := hx; exact EX _ _ _ _ _ _ hx (Nat.le_of_ble_eq_true rfl) (Nat.le_of_ble_eq_true rfl)) (fun v9 h3 hv => ?_)
  obtain ⟨rfl, rfl, hw⟩ := hv
  refine xr_aload_n S 0 dX6_addPilot_9 rfl ?_
  refine xw_getR S 7 3 dX6_addPilot_10 in_X6_addPilot_X6 rfl (by decide) (Or.inl m_X6_addPilot_1) (Or.inl rfl) hw (fun a4 hw => ?_)
  obtain ⟨e5, hw⟩ := hw
  obtain ⟨f6, f6x⟩ := id e5
  refine xr_callV S 0 [] [] dX6_addPilot_13 (k_Jx4a65c_size_8abf5 l (xdc X) h a4 _ hw) gX6_addPilot_Jx4a65c_size_8abf5 rfl pd_Jx4a65c_size_8abf5 ⟨Nat.le_of_ble_eq_true rfl, Nat.le_of_ble_eq_true rfl⟩ rfl (Nat.le_of_ble_eq_true rfl) ⟨Nat.le_of_ble_eq_true rfl, Nat.le_of_ble_eq_true rfl⟩ f6x rfl (fun v9 h9 hv => ?_)
  obtain ⟨r7, rfl, rfl, hw⟩ := hv
  refine xr_istore_n S [(3, .int r7), (0, .ref l0), (1, .int l1), (2, .int l2)] dX6_addPilot_16 (by decide) rfl ?_
  refine xr_iload_n S 0 dX6_addPilot_17 rfl ?_
  refine xr_bipush S (6) dX6_addPilot_18 (by decide) ?_
  refine xr_callSX S2 [.int r7, .int 6] [] dX6_addPilot_20 (k_X6_checkRoom l hfl (xdc X) h r7 6 _ _ hw) gX6_addPilot_X6_checkRoom rfl pd_X6_checkRoom ⟨Nat.le_of_ble_eq_true rfl, Nat.le_of_ble_eq_true rfl⟩ rfl (Nat.le_of_ble_eq_true rfl) ⟨Nat.le_of_ble_eq_true rfl, Nat.le_of_ble_eq_true rfl⟩ (fun E1 h9 hx => by obtain ⟨rfl, hx⟩ := hx; exact EX _ _ _ _ _ _ hx (Nat.le_of_ble_eq_true rfl) (Nat.le_of_ble_eq_true rfl)) (fun v9 h12 hv => ?_)
  obtain ⟨rfl, rfl, hw⟩ := hv
  refine xr_aload_n S 1 dX6_addPilot_23 rfl ?_
  refine xw_getR S 7 3 dX6_addPilot_24 in_X6_addPilot_X6 rfl (by decide) (Or.inl m_X6_addPilot_1) (Or.inl rfl) hw (fun a13 hw => ?_)
  refine xr_new S 3 tyX2 [.int 0, .int 0, .int 0, .null] dX6_addPilot_27 in_X6_addPilot_X2 tyX2_ok m_X6_addPilot_3 m_X6_addPilot_4 m_X6_addPilot_5 rfl dfX2 (Nat.le_of_ble_eq_true rfl) (Nat.le_of_ble_eq_true rfl) (fun q14 hq => ?_)
  have hw := hw q14 hq
  generalize xup h q14 (.inr (3, [.int 0, .int 0, .int 0, .null])) = h15 at hw ⊢
  refine xr_dup S dX6_addPilot_30 rfl ?_
  refine xr_iload_n S 0 dX6_addPilot_31 rfl ?_
  refine xr_iload_n S 2 dX6_addPilot_32 rfl ?_
  refine xr_iload_n S 3 dX6_addPilot_33 rfl ?_
  refine xr_callI S [.int r7, .int l1, .int l2] [.ref q14, .ref a13] dX6_addPilot_34 (k_X2_init l (xdc X) h15 q14 r7 l1 l2 _ hw) gX6_addPilot_X2_init rfl m_X6_addPilot_5 m_X6_addPilot_6 m_X6_addPilot_7 rfl pd_X2_init ⟨Nat.le_of_ble_eq_true rfl, Nat.le_of_ble_eq_true rfl⟩ rfl (Nat.le_of_ble_eq_true rfl) ⟨Nat.le_of_ble_eq_true rfl, Nat.le_of_ble_eq_true rfl⟩ (fun v9 h17 hv => ?_)
  obtain ⟨rfl, hw⟩ := hv
  obtain ⟨e19, hw⟩ := hw
  obtain ⟨f20, f20x⟩ := id e19
  refine xr_callV S 0 [.ref q14] [] dX6_addPilot_37 (k_Jx4a65c_add_9ea2d l (xdc X) h17 a13 q14 _ hw) gX6_addPilot_Jx4a65c_add_9ea2d rfl pd_Jx4a65c_add_9ea2d ⟨Nat.le_of_ble_eq_true rfl, Nat.le_of_ble_eq_true rfl⟩ rfl (Nat.le_of_ble_eq_true rfl) ⟨Nat.le_of_ble_eq_true rfl, Nat.le_of_ble_eq_true rfl⟩ f20x rfl (fun v9 h22 hv => ?_)
  obtain ⟨r21, rfl, hw⟩ := hv
  refine xr_pop S dX6_addPilot_40 rfl ?_
  refine xr_iload_n S 0 dX6_addPilot_41 rfl ?_
  exact E.1 _ _ _ _ _ _ rfl dX6_addPilot_42 ⟨_, rfl, hw⟩ (Nat.le_of_ble_eq_true rfl) (Nat.le_of_ble_eq_true rfl)
theorem in_X6_setTugs_X6 : ∀ w ∈ wsX60, w ∈ wsX6_setTugs := by decide +kernel
theorem m_X6_setTugs_1 : Cond.fieldLink RX6 29 "PilotBook" "passages" "Ljava/util/ArrayList;" ∈ wsX6_setTugs := by decide +kernel
theorem m_X6_setTugs_2 : Cond.fieldLink RX6 39 "PilotBook" "tugs" "I" ∈ wsX6_setTugs := by decide +kernel
theorem gd_X6_setTugs_65 : ∀ w ∈ (vx_atS RX6 65 "java/lang/IllegalStateException" xNms).filter goodWord, w ∈ wsX6_setTugs := by decide +kernel
theorem m_X6_setTugs_4 : Cond.classLink RX6 61 "java/lang/IllegalStateException" ∈ wsX6_setTugs := by decide +kernel
theorem m_X6_setTugs_5 : Cond.initialized "java/lang/IllegalStateException" ∈ wsX6_setTugs := by decide +kernel
def w_X6_setTugs (dc : Nat × Nat) (h : XH) (l0 : Nat) (l1 : Int32) (Po : Int32 → XH → Prop) (PX : String → XH → Prop) : Prop :=
  w_X6_checkRange dc h l1 0 8 ( wR h l0 7 4 (fun a4 => wO h a4 0 ( w_Jx4a65c_isEmpty_aae02 dc h a4 (fun r7 => wIf (r7 = 0) (PX "java/lang/IllegalStateException" h) (wI h l0 7 7 (fun v10 => wP h l0 7 7 (.int l1) (fun h11 => Po v10 h11))))))) (fun E => PX E h)
set_option maxRecDepth 100000 in
set_option maxHeartbeats 4000000 in
theorem k_X6_setTugs (l : Launch) (hfl : l.stackTraces = false) (dc : Nat × Nat) (h : XH) (l0 : Nat) (l1 : Int32) (Po : Int32 → XH → Prop) (PX : String → XH → Prop) (hw : w_X6_setTugs dc h l0 l1 Po PX) : xMX l dc yX6_setTugs wsX6_setTugs 7 112 2 12 [.ref l0, .int l1] h (xPi Po) PX := by
  refine xMX_of hfl [(0, .ref l0), (1, .int l1)] (own := RX6) (cc := cX6_setTugs) (nL := 3) (ret := (some .int)) (by decide +kernel) rfl rfl (Nat.le_of_ble_eq_true rfl) rfl ?_
  intro X V VX hX S2 E EX TT
  subst hX
  have S := S2.S
  refine xr_iload_n S 1 dX6_setTugs_0 rfl ?_
  refine xr_iconst S (0) dX6_setTugs_1 (by decide) ?_
  refine xr_bipush S (8) dX6_setTugs_2 (by decide) ?_
  refine xr_callSX S2 [.int l1, .int 0, .int 8] [] dX6_setTugs_4 (k_X6_checkRange l hfl (xdc X) h l1 0 8 _ _ hw) gX6_setTugs_X6_checkRange rfl pd_X6_checkRange ⟨Nat.le_of_ble_eq_true rfl, Nat.le_of_ble_eq_true rfl⟩ rfl (Nat.le_of_ble_eq_true rfl) ⟨Nat.le_of_ble_eq_true rfl, Nat.le_of_ble_eq_true rfl⟩ (fun E1 h9 hx => by obtain ⟨rfl, hx⟩ := hx; exact EX _ _ _ _ _ _ hx (Nat.le_of_ble_eq_true rfl) (Nat.le_of_ble_eq_true rfl)) (fun v9 h3 hv => ?_)
  obtain ⟨rfl, rfl, hw⟩ := hv
  refine xr_aload_n S 0 dX6_setTugs_7 rfl ?_
  refine xw_getR S 7 4 dX6_setTugs_8 in_X6_setTugs_X6 rfl (by decide) (Or.inl m_X6_setTugs_1) (Or.inl rfl) hw (fun a4 hw => ?_)
  obtain ⟨e5, hw⟩ := hw
  obtain ⟨f6, f6x⟩ := id e5
  refine xr_callV S 0 [] [] dX6_setTugs_11 (k_Jx4a65c_isEmpty_aae02 l (xdc X) h a4 _ hw) gX6_setTugs_Jx4a65c_isEmpty_aae02 rfl pd_Jx4a65c_isEmpty_aae02 ⟨Nat.le_of_ble_eq_true rfl, Nat.le_of_ble_eq_true rfl⟩ rfl (Nat.le_of_ble_eq_true rfl) ⟨Nat.le_of_ble_eq_true rfl, Nat.le_of_ble_eq_true rfl⟩ f6x rfl (fun v9 h9 hv => ?_)
  obtain ⟨r7, rfl, rfl, hw⟩ := hv
  refine xw_if_ne S 27 dX6_setTugs_14 (by decide) hw (fun c hw => ?_) (fun c hw => ?_)
  · refine xr_aload_n S 0 dX6_setTugs_27 rfl ?_
    refine xw_getI S 7 7 dX6_setTugs_28 in_X6_setTugs_X6 rfl (by decide) (Or.inl m_X6_setTugs_2) (Or.inl rfl) hw (fun v10 hw => ?_)
    refine xr_istore_n S [(2, .int v10), (0, .ref l0), (1, .int l1)] dX6_setTugs_31 (by decide) rfl ?_
    refine xr_aload_n S 1 dX6_setTugs_32 rfl ?_
    refine xr_iload_n S 2 dX6_setTugs_33 rfl ?_
    refine xw_put S 7 7 tyX6 dX6_setTugs_34 in_X6_setTugs_X6 rfl (by decide) (Or.inl m_X6_setTugs_2) (Or.inl rfl) tyX6_ok nmX6 rfl rfl ⟨rfl, rfl⟩ hw (fun h11 hw => ?_)
    refine xr_iload_n S 0 dX6_setTugs_37 rfl ?_
    exact E.1 _ _ _ _ _ _ rfl dX6_setTugs_38 ⟨_, rfl, hw⟩ (Nat.le_of_ble_eq_true rfl) (Nat.le_of_ble_eq_true rfl)
  · exact TT _ _ h _ _ _ "java/lang/IllegalStateException" "a passage is booked" 61 108 65 dX6_setTugs_17 dX6_setTugs_20 dX6_setTugs_21 dX6_setTugs_23 dX6_setTugs_26 rfl (by decide) (by decide +kernel) (by decide) m_X6_setTugs_4 m_X6_setTugs_5 gd_X6_setTugs_65 xbad_65 xot_61_65 (Nat.le_of_ble_eq_true rfl) (Nat.le_of_ble_eq_true rfl) (Nat.le_of_ble_eq_true rfl) (Nat.le_of_ble_eq_true rfl) hw (Nat.le_of_ble_eq_true rfl) (Nat.le_of_ble_eq_true rfl)
theorem in_X6_count_X6 : ∀ w ∈ wsX60, w ∈ wsX6_count := by decide +kernel
theorem m_X6_count_1 : Cond.fieldLink RX6 12 "PilotBook" "tide" "LPilotBook$Tide;" ∈ wsX6_count := by decide +kernel
theorem in_X6_count_X5 : ∀ w ∈ wsX50, w ∈ wsX6_count := by decide +kernel
theorem m_X6_count_3 : Cond.fieldLink RX6 19 "PilotBook" "berths" "Ljava/util/ArrayList;" ∈ wsX6_count := by decide +kernel
theorem m_X6_count_4 : Cond.fieldLink RX6 23 "PilotBook" "ships" "Ljava/util/ArrayList;" ∈ wsX6_count := by decide +kernel
theorem m_X6_count_5 : Cond.fieldLink RX6 26 "PilotBook" "pilots" "Ljava/util/ArrayList;" ∈ wsX6_count := by decide +kernel
theorem m_X6_count_6 : Cond.fieldLink RX6 29 "PilotBook" "passages" "Ljava/util/ArrayList;" ∈ wsX6_count := by decide +kernel
theorem gd_X6_count_114 : ∀ w ∈ (vx_atS RX6 114 "java/lang/IndexOutOfBoundsException" xNms).filter goodWord, w ∈ wsX6_count := by decide +kernel
theorem m_X6_count_8 : Cond.classLink RX6 110 "java/lang/IndexOutOfBoundsException" ∈ wsX6_count := by decide +kernel
theorem m_X6_count_9 : Cond.initialized "java/lang/IndexOutOfBoundsException" ∈ wsX6_count := by decide +kernel
def w_X6_count (dc : Nat × Nat) (h : XH) (l0 : Nat) (l1 : Int32) (Po : Int32 → Prop) (PX : String → Prop) : Prop :=
  ((l1 = 0 → wR h l0 7 0 (fun a1 => wI h a1 6 2 (fun v2 => Po v2))) ∧ (l1 = 1 → wR h l0 7 1 (fun a3 => wO h a3 0 ( w_Jx4a65c_size_8abf5 dc h a3 (fun r6 => Po r6)))) ∧ (l1 = 2 → wR h l0 7 2 (fun a9 => wO h a9 0 ( w_Jx4a65c_size_8abf5 dc h a9 (fun r12 => Po r12)))) ∧ (l1 = 3 → wR h l0 7 3 (fun a15 => wO h a15 0 ( w_Jx4a65c_size_8abf5 dc h a15 (fun r18 => Po r18)))) ∧ (l1 = 4 → wR h l0 7 4 (fun a21 => wO h a21 0 ( w_Jx4a65c_size_8abf5 dc h a21 (fun r24 => Po r24)))) ∧ ((l1).toInt < 0 ∨ 4 < (l1).toInt → PX "java/lang/IndexOutOfBoundsException"))
set_option maxRecDepth 100000 in
set_option maxHeartbeats 4000000 in
theorem k_X6_count (l : Launch) (hfl : l.stackTraces = false) (dc : Nat × Nat) (h : XH) (l0 : Nat) (l1 : Int32) (Po : Int32 → Prop) (PX : String → Prop) (hw : w_X6_count dc h l0 l1 Po PX) : xMX l dc yX6_count wsX6_count 6 90 1 6 [.ref l0, .int l1] h (xRi h Po) (xXr h PX) := by
  refine xMX_of hfl [(0, .ref l0), (1, .int l1)] (own := RX6) (cc := cX6_count) (nL := 2) (ret := (some .int)) (by decide +kernel) rfl rfl (Nat.le_of_ble_eq_true rfl) rfl ?_
  intro X V VX hX S2 E EX TT
  subst hX
  have S := S2.S
  refine xr_iload_n S 1 dX6_count_0 rfl ?_
  by_cases c0 : l1 = 0
  · have hw := hw.1 c0
    refine xr_swIn S 0 dX6_count_1 (by rw [c0]; rfl) (by decide) (by decide) rfl (tgt := 36) (by decide) ?_
    refine xr_aload_n S 0 dX6_count_36 rfl ?_
    refine xw_getR S 7 0 dX6_count_37 in_X6_count_X6 rfl (by decide) (Or.inl m_X6_count_1) (Or.inl rfl) hw (fun a1 hw => ?_)
    refine xw_getI S 6 2 dX6_count_40 in_X6_count_X5 rfl (by decide) (Or.inr xn_X6_54) (Or.inl rfl) hw (fun v2 hw => ?_)
    exact E.1 _ _ _ _ _ _ rfl dX6_count_43 ⟨_, rfl, rfl, hw⟩ (Nat.le_of_ble_eq_true rfl) (Nat.le_of_ble_eq_true rfl)
  by_cases c1 : l1 = 1
  · have hw := hw.2.1 c1
    refine xr_swIn S 1 dX6_count_1 (by rw [c1]; rfl) (by decide) (by decide) rfl (tgt := 44) (by decide) ?_
    refine xr_aload_n S 0 dX6_count_44 rfl ?_
    refine xw_getR S 7 1 dX6_count_45 in_X6_count_X6 rfl (by decide) (Or.inl m_X6_count_3) (Or.inl rfl) hw (fun a3 hw => ?_)
    obtain ⟨e4, hw⟩ := hw
    obtain ⟨f5, f5x⟩ := id e4
    refine xr_callV S 0 [] [] dX6_count_48 (k_Jx4a65c_size_8abf5 l (xdc X) h a3 _ hw) gX6_count_Jx4a65c_size_8abf5 rfl pd_Jx4a65c_size_8abf5 ⟨Nat.le_of_ble_eq_true rfl, Nat.le_of_ble_eq_true rfl⟩ rfl (Nat.le_of_ble_eq_true rfl) ⟨Nat.le_of_ble_eq_true rfl, Nat.le_of_ble_eq_true rfl⟩ f5x rfl (fun v9 h8 hv => ?_)
    obtain ⟨r6, rfl, rfl, hw⟩ := hv
    exact E.1 _ _ _ _ _ _ rfl dX6_count_51 ⟨_, rfl, rfl, hw⟩ (Nat.le_of_ble_eq_true rfl) (Nat.le_of_ble_eq_true rfl)
  by_cases c2 : l1 = 2
  · have hw := hw.2.2.1 c2
    refine xr_swIn S 2 dX6_count_1 (by rw [c2]; rfl) (by decide) (by decide) rfl (tgt := 52) (by decide) ?_
    refine xr_aload_n S 0 dX6_count_52 rfl ?_
    refine xw_getR S 7 2 dX6_count_53 in_X6_count_X6 rfl (by decide) (Or.inl m_X6_count_4) (Or.inl rfl) hw (fun a9 hw => ?_)
    obtain ⟨e10, hw⟩ := hw
    obtain ⟨f11, f11x⟩ := id e10
    refine xr_callV S 0 [] [] dX6_count_56 (k_Jx4a65c_size_8abf5 l (xdc X) h a9 _ hw) gX6_count_Jx4a65c_size_8abf5 rfl pd_Jx4a65c_size_8abf5 ⟨Nat.le_of_ble_eq_true rfl, Nat.le_of_ble_eq_true rfl⟩ rfl (Nat.le_of_ble_eq_true rfl) ⟨Nat.le_of_ble_eq_true rfl, Nat.le_of_ble_eq_true rfl⟩ f11x rfl (fun v9 h14 hv => ?_)
    obtain ⟨r12, rfl, rfl, hw⟩ := hv
    exact E.1 _ _ _ _ _ _ rfl dX6_count_59 ⟨_, rfl, rfl, hw⟩ (Nat.le_of_ble_eq_true rfl) (Nat.le_of_ble_eq_true rfl)
  by_cases c3 : l1 = 3
  · have hw := hw.2.2.2.1 c3
    refine xr_swIn S 3 dX6_count_1 (by rw [c3]; rfl) (by decide) (by decide) rfl (tgt := 60) (by decide) ?_
    refine xr_aload_n S 0 dX6_count_60 rfl ?_
    refine xw_getR S 7 3 dX6_count_61 in_X6_count_X6 rfl (by decide) (Or.inl m_X6_count_5) (Or.inl rfl) hw (fun a15 hw => ?_)
    obtain ⟨e16, hw⟩ := hw
    obtain ⟨f17, f17x⟩ := id e16
    refine xr_callV S 0 [] [] dX6_count_64 (k_Jx4a65c_size_8abf5 l (xdc X) h a15 _ hw) gX6_count_Jx4a65c_size_8abf5 rfl pd_Jx4a65c_size_8abf5 ⟨Nat.le_of_ble_eq_true rfl, Nat.le_of_ble_eq_true rfl⟩ rfl (Nat.le_of_ble_eq_true rfl) ⟨Nat.le_of_ble_eq_true rfl, Nat.le_of_ble_eq_true rfl⟩ f17x rfl (fun v9 h20 hv => ?_)
    obtain ⟨r18, rfl, rfl, hw⟩ := hv
    exact E.1 _ _ _ _ _ _ rfl dX6_count_67 ⟨_, rfl, rfl, hw⟩ (Nat.le_of_ble_eq_true rfl) (Nat.le_of_ble_eq_true rfl)
  by_cases c4 : l1 = 4
  · have hw := hw.2.2.2.2.1 c4
    refine xr_swIn S 4 dX6_count_1 (by rw [c4]; rfl) (by decide) (by decide) rfl (tgt := 68) (by decide) ?_
    refine xr_aload_n S 0 dX6_count_68 rfl ?_
    refine xw_getR S 7 4 dX6_count_69 in_X6_count_X6 rfl (by decide) (Or.inl m_X6_count_6) (Or.inl rfl) hw (fun a21 hw => ?_)
    obtain ⟨e22, hw⟩ := hw
    obtain ⟨f23, f23x⟩ := id e22
    refine xr_callV S 0 [] [] dX6_count_72 (k_Jx4a65c_size_8abf5 l (xdc X) h a21 _ hw) gX6_count_Jx4a65c_size_8abf5 rfl pd_Jx4a65c_size_8abf5 ⟨Nat.le_of_ble_eq_true rfl, Nat.le_of_ble_eq_true rfl⟩ rfl (Nat.le_of_ble_eq_true rfl) ⟨Nat.le_of_ble_eq_true rfl, Nat.le_of_ble_eq_true rfl⟩ f23x rfl (fun v9 h26 hv => ?_)
    obtain ⟨r24, rfl, rfl, hw⟩ := hv
    exact E.1 _ _ _ _ _ _ rfl dX6_count_75 ⟨_, rfl, rfl, hw⟩ (Nat.le_of_ble_eq_true rfl) (Nat.le_of_ble_eq_true rfl)
  have hx : (l1).toInt < 0 ∨ 4 < (l1).toInt := by
    have h0 := lv_neT c0 (a := 0) rfl
    have h1 := lv_neT c1 (a := 1) rfl
    have h2 := lv_neT c2 (a := 2) rfl
    have h3 := lv_neT c3 (a := 3) rfl
    have h4 := lv_neT c4 (a := 4) rfl
    omega
  have hw := hw.2.2.2.2.2 hx
  refine xr_swOut S (tgt := 76) dX6_count_1 hx (by decide) ?_
  exact TT _ _ h _ _ _ "java/lang/IndexOutOfBoundsException" "what is not 0 to 4" 110 112 114 dX6_count_76 dX6_count_79 dX6_count_80 dX6_count_82 dX6_count_85 rfl (by decide) (by decide +kernel) (by decide) m_X6_count_8 m_X6_count_9 gd_X6_count_114 xbad_114 xot_110_114 (Nat.le_of_ble_eq_true rfl) (Nat.le_of_ble_eq_true rfl) (Nat.le_of_ble_eq_true rfl) (Nat.le_of_ble_eq_true rfl) ⟨rfl, hw⟩ (Nat.le_of_ble_eq_true rfl) (Nat.le_of_ble_eq_true rfl)
theorem gd_X6_checkNumber_114 : ∀ w ∈ (vx_atS RX6 114 "java/lang/IndexOutOfBoundsException" xNms).filter goodWord, w ∈ wsX6_checkNumber := by decide +kernel
theorem m_X6_checkNumber_1 : Cond.classLink RX6 110 "java/lang/IndexOutOfBoundsException" ∈ wsX6_checkNumber := by decide +kernel
theorem m_X6_checkNumber_2 : Cond.initialized "java/lang/IndexOutOfBoundsException" ∈ wsX6_checkNumber := by decide +kernel
def w_X6_checkNumber_9 (dc : Nat × Nat) (h : XH) (Po : Prop) (PX : String → Prop) : Prop :=
  PX "java/lang/IndexOutOfBoundsException"
set_option maxRecDepth 100000 in
set_option maxHeartbeats 4000000 in
theorem k_X6_checkNumber_9 {V : XVT} {VX : XWT} {X : XC} {l : Launch} (hfl : l.stackTraces = false) (S2 : xSX V VX X l RX6 yX6_checkNumber.name cX6_checkNumber 2 wsX6_checkNumber (xRm 6 90 1 6)) (h : XH) (Po : Prop) (PX : String → Prop) (E : xEnd V cX6_checkNumber none 1 6 (xRv h Po)) (EX : xEndX VX 1 6 (xXr h PX)) (TT : xThr V RX6 cX6_checkNumber wsX6_checkNumber (xRm 6 90 1 6) 1 6 (xXr h PX)) (hw : w_X6_checkNumber_9 (xdc X) h Po PX) : V 0 0 h 9 [] [] := by
  have S := S2.S
  exact TT _ _ h _ _ _ "java/lang/IndexOutOfBoundsException" "there is nothing with this number" 110 243 114 dX6_checkNumber_9 dX6_checkNumber_12 dX6_checkNumber_13 dX6_checkNumber_15 dX6_checkNumber_18 rfl (by decide) (by decide +kernel) (by decide) m_X6_checkNumber_1 m_X6_checkNumber_2 gd_X6_checkNumber_114 xbad_114 xot_110_114 (Nat.le_of_ble_eq_true rfl) (Nat.le_of_ble_eq_true rfl) (Nat.le_of_ble_eq_true rfl) (Nat.le_of_ble_eq_true rfl) ⟨rfl, hw⟩ (Nat.le_of_ble_eq_true rfl) (Nat.le_of_ble_eq_true rfl)
def w_X6_checkNumber (dc : Nat × Nat) (h : XH) (l0 : Int32) (l1 : Int32) (Po : Prop) (PX : String → Prop) : Prop :=
  wIf (l0 < 0) (w_X6_checkNumber_9 dc h Po PX) (wIf (l0 < l1) (Po) (w_X6_checkNumber_9 dc h Po PX))
set_option maxRecDepth 100000 in
set_option maxHeartbeats 4000000 in
theorem k_X6_checkNumber (l : Launch) (hfl : l.stackTraces = false) (dc : Nat × Nat) (h : XH) (l0 : Int32) (l1 : Int32) (Po : Prop) (PX : String → Prop) (hw : w_X6_checkNumber dc h l0 l1 Po PX) : xMX l dc yX6_checkNumber wsX6_checkNumber 6 90 1 6 [.int l0, .int l1] h (xRv h Po) (xXr h PX) := by
  refine xMX_of hfl [(0, .int l0), (1, .int l1)] (own := RX6) (cc := cX6_checkNumber) (nL := 2) (ret := none) (by decide +kernel) rfl rfl (Nat.le_of_ble_eq_true rfl) rfl ?_
  intro X V VX hX S2 E EX TT
  subst hX
  have S := S2.S
  refine xr_iload_n S 0 dX6_checkNumber_0 rfl ?_
  refine xw_if_lt S 9 dX6_checkNumber_1 (by decide) hw (fun c hw => ?_) (fun c hw => ?_)
  · refine xr_sub S [] [] rfl ?_
    exact k_X6_checkNumber_9 hfl S2 h Po PX E EX TT hw
  · refine xr_iload_n S 0 dX6_checkNumber_4 rfl ?_
    refine xr_iload_n S 1 dX6_checkNumber_5 rfl ?_
    refine xw_icmp_lt S 19 dX6_checkNumber_6 (by decide) hw (fun c hw => ?_) (fun c hw => ?_)
    · exact E.2.2.1 _ _ _ _ _ rfl dX6_checkNumber_19 ⟨rfl, rfl, hw⟩ (Nat.le_of_ble_eq_true rfl) (Nat.le_of_ble_eq_true rfl)
    · refine xr_sub S [] [] rfl ?_
      exact k_X6_checkNumber_9 hfl S2 h Po PX E EX TT hw
def w_p_X6_checkNumber_9 (dc : Nat × Nat) (h : XH) (Po : Prop) : Prop :=
  False
set_option maxRecDepth 100000 in
set_option maxHeartbeats 4000000 in
theorem k_p_X6_checkNumber_9 {V : XVT} {X : XC} {l : Launch} (S : xS V X l RX6 yX6_checkNumber.name cX6_checkNumber 2 wsX6_checkNumber (xRm 0 0 0 0)) (h : XH) (Po : Prop) (E : xEnd V cX6_checkNumber none 0 0 (xRv h Po)) (hw : w_p_X6_checkNumber_9 (xdc X) h Po) : V 0 0 h 9 [] [] := by
  exact hw.elim
def w_p_X6_checkNumber (dc : Nat × Nat) (h : XH) (l0 : Int32) (l1 : Int32) (Po : Prop) : Prop :=
  wIf (l0 < 0) (w_p_X6_checkNumber_9 dc h Po) (wIf (l0 < l1) (Po) (w_p_X6_checkNumber_9 dc h Po))
set_option maxRecDepth 100000 in
set_option maxHeartbeats 4000000 in
theorem k_p_X6_checkNumber (l : Launch) (dc : Nat × Nat) (h : XH) (l0 : Int32) (l1 : Int32) (Po : Prop) (hw : w_p_X6_checkNumber dc h l0 l1 Po) : xM l dc yX6_checkNumber wsX6_checkNumber 0 0 0 0 [.int l0, .int l1] h (xRv h Po) := by
  refine xM_of [(0, .int l0), (1, .int l1)] (own := RX6) (cc := cX6_checkNumber) (nL := 2) (ret := none) (by decide +kernel) rfl rfl (Nat.le_of_ble_eq_true rfl) rfl ?_
  intro X V hX S E
  subst hX
  refine xr_iload_n S 0 dX6_checkNumber_0 rfl ?_
  refine xw_if_lt S 9 dX6_checkNumber_1 (by decide) hw (fun c hw => ?_) (fun c hw => ?_)
  · refine xr_sub S [] [] rfl ?_
    exact k_p_X6_checkNumber_9 S h Po E hw
  · refine xr_iload_n S 0 dX6_checkNumber_4 rfl ?_
    refine xr_iload_n S 1 dX6_checkNumber_5 rfl ?_
    refine xw_icmp_lt S 19 dX6_checkNumber_6 (by decide) hw (fun c hw => ?_) (fun c hw => ?_)
    · exact E.2.2.1 _ _ _ _ _ rfl dX6_checkNumber_19 ⟨rfl, rfl, hw⟩ (Nat.le_of_ble_eq_true rfl) (Nat.le_of_ble_eq_true rfl)
    · refine xr_sub S [] [] rfl ?_
      exact k_p_X6_checkNumber_9 S h Po E hw
theorem in_X6_checkCall_X6 : ∀ w ∈ wsX60, w ∈ wsX6_checkCall := by decide +kernel
theorem m_X6_checkCall_1 : Cond.fieldLink RX6 23 "PilotBook" "ships" "Ljava/util/ArrayList;" ∈ wsX6_checkCall := by decide +kernel
theorem m_X6_checkCall_2 : Cond.fieldLink RX6 19 "PilotBook" "berths" "Ljava/util/ArrayList;" ∈ wsX6_checkCall := by decide +kernel
def w_X6_checkCall_27 (dc : Nat × Nat) (h : XH) (l0 : Nat) (l3 : Int32) (Po : Prop) (PX : String → Prop) : Prop :=
  w_X6_checkTime dc h l3 ( Po) (fun E => PX E)
set_option maxRecDepth 100000 in
set_option maxHeartbeats 4000000 in
theorem k_X6_checkCall_27 {V : XVT} {VX : XWT} {X : XC} {l : Launch} (hfl : l.stackTraces = false) (S2 : xSX V VX X l RX6 yX6_checkCall.name cX6_checkCall 4 wsX6_checkCall (xRm 8 132 3 18)) (h : XH) (l0 : Nat) (l3 : Int32) (Po : Prop) (PX : String → Prop) (E : xEnd V cX6_checkCall none 3 18 (xRv h Po)) (EX : xEndX VX 3 18 (xXr h PX)) (TT : xThr V RX6 cX6_checkCall wsX6_checkCall (xRm 8 132 3 18) 3 18 (xXr h PX)) (hw : w_X6_checkCall_27 (xdc X) h l0 l3 Po PX) : V 2 12 h 27 [(0, .ref l0), (3, .int l3)] [] := by
  have S := S2.S
  refine xr_iload_n S 1 dX6_checkCall_27 rfl ?_
  refine xr_callSX S2 [.int l3] [] dX6_checkCall_28 (k_X6_checkTime l hfl (xdc X) h l3 _ _ hw) gX6_checkCall_X6_checkTime rfl pd_X6_checkTime ⟨Nat.le_of_ble_eq_true rfl, Nat.le_of_ble_eq_true rfl⟩ rfl (Nat.le_of_ble_eq_true rfl) ⟨Nat.le_of_ble_eq_true rfl, Nat.le_of_ble_eq_true rfl⟩ (fun E1 h9 hx => by obtain ⟨rfl, hx⟩ := hx; exact EX _ _ _ _ _ _ ⟨rfl, hx⟩ (Nat.le_of_ble_eq_true rfl) (Nat.le_of_ble_eq_true rfl)) (fun v9 h12 hv => ?_)
  obtain ⟨rfl, rfl, hw⟩ := hv
  exact E.2.2.1 _ _ _ _ _ rfl dX6_checkCall_31 ⟨rfl, rfl, hw⟩ (Nat.le_of_ble_eq_true rfl) (Nat.le_of_ble_eq_true rfl)
def w_X6_checkCall (dc : Nat × Nat) (h : XH) (l0 : Nat) (l1 : Int32) (l2 : Int32) (l3 : Int32) (Po : Prop) (PX : String → Prop) : Prop :=
  wR h l0 7 2 (fun a1 => wO h a1 0 ( w_Jx4a65c_size_8abf5 dc h a1 (fun r4 => w_X6_checkNumber dc h l1 r4 ( wIf (l2 = (-1)) (w_X6_checkCall_27 dc h l0 l3 Po PX) (wR h l0 7 1 (fun a13 => wO h a13 0 ( w_Jx4a65c_size_8abf5 dc h a13 (fun r16 => w_X6_checkNumber dc h l2 r16 ( w_X6_checkCall_27 dc h l0 l3 Po PX) (fun E => PX E)))))) (fun E => PX E))))
set_option maxRecDepth 100000 in
set_option maxHeartbeats 4000000 in
theorem k_X6_checkCall (l : Launch) (hfl : l.stackTraces = false) (dc : Nat × Nat) (h : XH) (l0 : Nat) (l1 : Int32) (l2 : Int32) (l3 : Int32) (Po : Prop) (PX : String → Prop) (hw : w_X6_checkCall dc h l0 l1 l2 l3 Po PX) : xMX l dc yX6_checkCall wsX6_checkCall 8 132 3 18 [.ref l0, .int l1, .int l2, .int l3] h (xRv h Po) (xXr h PX) := by
  refine xMX_of hfl [(0, .ref l0), (1, .int l1), (2, .int l2), (3, .int l3)] (own := RX6) (cc := cX6_checkCall) (nL := 4) (ret := none) (by decide +kernel) rfl rfl (Nat.le_of_ble_eq_true rfl) rfl ?_
  intro X V VX hX S2 E EX TT
  subst hX
  have S := S2.S
  refine xr_iload_n S 1 dX6_checkCall_0 rfl ?_
  refine xr_aload_n S 0 dX6_checkCall_1 rfl ?_
  refine xw_getR S 7 2 dX6_checkCall_2 in_X6_checkCall_X6 rfl (by decide) (Or.inl m_X6_checkCall_1) (Or.inl rfl) hw (fun a1 hw => ?_)
  obtain ⟨e2, hw⟩ := hw
  obtain ⟨f3, f3x⟩ := id e2
  refine xr_callV S 0 [] [.int l1] dX6_checkCall_5 (k_Jx4a65c_size_8abf5 l (xdc X) h a1 _ hw) gX6_checkCall_Jx4a65c_size_8abf5 rfl pd_Jx4a65c_size_8abf5 ⟨Nat.le_of_ble_eq_true rfl, Nat.le_of_ble_eq_true rfl⟩ rfl (Nat.le_of_ble_eq_true rfl) ⟨Nat.le_of_ble_eq_true rfl, Nat.le_of_ble_eq_true rfl⟩ f3x rfl (fun v9 h6 hv => ?_)
  obtain ⟨r4, rfl, rfl, hw⟩ := hv
  refine xr_callSX S2 [.int l1, .int r4] [] dX6_checkCall_8 (k_X6_checkNumber l hfl (xdc X) h l1 r4 _ _ hw) gX6_checkCall_X6_checkNumber rfl pd_X6_checkNumber ⟨Nat.le_of_ble_eq_true rfl, Nat.le_of_ble_eq_true rfl⟩ rfl (Nat.le_of_ble_eq_true rfl) ⟨Nat.le_of_ble_eq_true rfl, Nat.le_of_ble_eq_true rfl⟩ (fun E1 h9 hx => by obtain ⟨rfl, hx⟩ := hx; exact EX _ _ _ _ _ _ ⟨rfl, hx⟩ (Nat.le_of_ble_eq_true rfl) (Nat.le_of_ble_eq_true rfl)) (fun v9 h9 hv => ?_)
  obtain ⟨rfl, rfl, hw⟩ := hv
  refine xr_iload_n S 2 dX6_checkCall_11 rfl ?_
  refine xr_iconst S (-1) dX6_checkCall_12 (by decide) ?_
  refine xw_icmp_eq S 27 dX6_checkCall_13 (by decide) hw (fun c hw => ?_) (fun c hw => ?_)
  · refine xr_widen S (k := 2) (n := 12) (Nat.le_of_ble_eq_true rfl) (Nat.le_of_ble_eq_true rfl) ?_
    refine xr_sub S [(0, .ref l0), (3, .int l3)] [0, 3] rfl ?_
    exact k_X6_checkCall_27 hfl S2 h l0 l3 Po PX E EX TT hw
  · refine xr_iload_n S 2 dX6_checkCall_16 rfl ?_
    refine xr_aload_n S 0 dX6_checkCall_17 rfl ?_
    refine xw_getR S 7 1 dX6_checkCall_18 in_X6_checkCall_X6 rfl (by decide) (Or.inl m_X6_checkCall_2) (Or.inl rfl) hw (fun a13 hw => ?_)
    obtain ⟨e14, hw⟩ := hw
    obtain ⟨f15, f15x⟩ := id e14
    refine xr_callV S 0 [] [.int l2] dX6_checkCall_21 (k_Jx4a65c_size_8abf5 l (xdc X) h a13 _ hw) gX6_checkCall_Jx4a65c_size_8abf5 rfl pd_Jx4a65c_size_8abf5 ⟨Nat.le_of_ble_eq_true rfl, Nat.le_of_ble_eq_true rfl⟩ rfl (Nat.le_of_ble_eq_true rfl) ⟨Nat.le_of_ble_eq_true rfl, Nat.le_of_ble_eq_true rfl⟩ f15x rfl (fun v9 h18 hv => ?_)
    obtain ⟨r16, rfl, rfl, hw⟩ := hv
    refine xr_callSX S2 [.int l2, .int r16] [] dX6_checkCall_24 (k_X6_checkNumber l hfl (xdc X) h l2 r16 _ _ hw) gX6_checkCall_X6_checkNumber rfl pd_X6_checkNumber ⟨Nat.le_of_ble_eq_true rfl, Nat.le_of_ble_eq_true rfl⟩ rfl (Nat.le_of_ble_eq_true rfl) ⟨Nat.le_of_ble_eq_true rfl, Nat.le_of_ble_eq_true rfl⟩ (fun E1 h9 hx => by obtain ⟨rfl, hx⟩ := hx; exact EX _ _ _ _ _ _ ⟨rfl, hx⟩ (Nat.le_of_ble_eq_true rfl) (Nat.le_of_ble_eq_true rfl)) (fun v9 h21 hv => ?_)
    obtain ⟨rfl, rfl, hw⟩ := hv
    refine xr_sub S [(0, .ref l0), (3, .int l3)] [0, 3] rfl ?_
    exact k_X6_checkCall_27 hfl S2 h l0 l3 Po PX E EX TT hw
theorem in_X6_routeOf_X6 : ∀ w ∈ wsX60, w ∈ wsX6_routeOf := by decide +kernel
theorem m_X6_routeOf_1 : Cond.fieldLink RX6 23 "PilotBook" "ships" "Ljava/util/ArrayList;" ∈ wsX6_routeOf := by decide +kernel
theorem m_X6_routeOf_2 : Cond.classLink RX6 90 "PilotBook$Ship" ∈ wsX6_routeOf := by decide +kernel
theorem in_X6_routeOf_X4 : ∀ w ∈ wsX40, w ∈ wsX6_routeOf := by decide +kernel
theorem in_X6_routeOf_X3 : ∀ w ∈ wsX30, w ∈ wsX6_routeOf := by decide +kernel
theorem m_X6_routeOf_5 : Cond.classLink RX6 140 RX3 ∈ wsX6_routeOf := by decide +kernel
theorem m_X6_routeOf_6 : Cond.instantiable RX3 4 ∈ wsX6_routeOf := by decide +kernel
theorem m_X6_routeOf_7 : Cond.initialized RX3 ∈ wsX6_routeOf := by decide +kernel
theorem in_X6_routeOf_X1 : ∀ w ∈ wsX10, w ∈ wsX6_routeOf := by decide +kernel
theorem m_X6_routeOf_9 : Cond.methodLink RX6 252 yX3_init ∈ wsX6_routeOf := by decide +kernel
theorem m_X6_routeOf_10 : Cond.instanceMethod yX3_init ∈ wsX6_routeOf := by decide +kernel
theorem m_X6_routeOf_11 : Cond.fieldLink RX6 19 "PilotBook" "berths" "Ljava/util/ArrayList;" ∈ wsX6_routeOf := by decide +kernel
theorem m_X6_routeOf_12 : Cond.classLink RX6 82 "PilotBook$Berth" ∈ wsX6_routeOf := by decide +kernel
def w_X6_routeOf_39 (dc : Nat × Nat) (h : XH) (l0 : Nat) (l2 : Int32) (l3 : Nat) (l4 : Option Nat) (t0 : Int32) (Po : Option Nat → XH → Prop) : Prop :=
  wIf (l2 = (-1)) (wIf (t0 = 0) (wNew h 4 [.null, .null, .int 0, .int 0] (fun q12 h13 => wDer l4 (fun q14 => wR h13 q14 2 0 (fun a15 => wR h13 a15 4 1 (fun a16 => w_X3_init dc h13 q12 l3 a16 1 (fun h18 => Po (some q12) h18)))))) (Po none h)) (wIf (t0 = 0) (Po none h) (wNew h 4 [.null, .null, .int 0, .int 0] (fun q20 h21 => wR h21 l0 7 1 (fun a22 => wO h21 a22 0 ( w_Jx4a65c_get_915e3 dc h21 a22 l2 (fun r25 => wDer r25 (fun q28 => wO h21 q28 1 ( w_X3_init dc h21 q20 l3 q28 0 (fun h32 => Po (some q20) h32)))))))))
set_option maxRecDepth 100000 in
set_option maxHeartbeats 4000000 in
theorem k_X6_routeOf_39 {V : XVT} {X : XC} {l : Launch} (S : xS V X l RX6 yX6_routeOf.name cX6_routeOf 6 wsX6_routeOf (xRm 3 64 1 4)) (h : XH) (l0 : Nat) (l2 : Int32) (l3 : Nat) (l4 : Option Nat) (t0 : Int32) (Po : Option Nat → XH → Prop) (E : xEnd V cX6_routeOf (some (.object "PilotBook$Route")) 1 4 (xPq Po)) (hw : w_X6_routeOf_39 (xdc X) h l0 l2 l3 l4 t0 Po) : V 0 0 h 39 [(0, .ref l0), (2, .int l2), (3, .ref l3), (4, va_rf l4)] [.int t0] := by
  refine xr_istore S [(5, .int t0), (0, .ref l0), (2, .int l2), (3, .ref l3), (4, va_rf l4)] dX6_routeOf_39 (by decide) (by cases l4 <;> rfl) ?_
  refine xr_iload_n S 2 dX6_routeOf_41 rfl ?_
  refine xr_iconst S (-1) dX6_routeOf_42 (by decide) ?_
  refine xw_icmp_eq S 76 dX6_routeOf_43 (by decide) hw (fun c hw => ?_) (fun c hw => ?_)
  · refine xr_iload S 0 dX6_routeOf_76 rfl ?_
    refine xw_if_eq S 85 dX6_routeOf_78 (by decide) hw (fun c hw => ?_) (fun c hw => ?_)
    · refine xr_new S 4 tyX3 [.null, .null, .int 0, .int 0] dX6_routeOf_85 in_X6_routeOf_X3 tyX3_ok m_X6_routeOf_5 m_X6_routeOf_6 m_X6_routeOf_7 rfl dfX3 (Nat.le_of_ble_eq_true rfl) (Nat.le_of_ble_eq_true rfl) (fun q12 hq => ?_)
      have hw := hw q12 hq
      generalize xup h q12 (.inr (4, [.null, .null, .int 0, .int 0])) = h13 at hw ⊢
      refine xr_dup S dX6_routeOf_88 rfl ?_
      refine xr_aload_n S 3 dX6_routeOf_89 rfl ?_
      refine xr_aloadq S 4 dX6_routeOf_90 rfl ?_
      obtain ⟨q14, hrq14, hwq14⟩ := hw
      subst hrq14
      have hw := hwq14
      refine xw_getR S 2 0 dX6_routeOf_92 in_X6_routeOf_X1 rfl (by decide) (Or.inr xn_X6_133) (Or.inl rfl) hw (fun a15 hw => ?_)
      refine xw_getR S 4 1 dX6_routeOf_95 in_X6_routeOf_X3 rfl (by decide) (Or.inr xn_X6_208) (Or.inl rfl) hw (fun a16 hw => ?_)
      refine xr_iconst S (1) dX6_routeOf_98 (by decide) ?_
      refine xr_callI S [.ref l3, .ref a16, .int 1] [.ref q12] dX6_routeOf_99 (k_X3_init l (xdc X) h13 q12 l3 a16 1 _ hw) gX6_routeOf_X3_init rfl m_X6_routeOf_7 m_X6_routeOf_9 m_X6_routeOf_10 rfl pd_X3_init ⟨Nat.le_of_ble_eq_true rfl, Nat.le_of_ble_eq_true rfl⟩ rfl (Nat.le_of_ble_eq_true rfl) ⟨Nat.le_of_ble_eq_true rfl, Nat.le_of_ble_eq_true rfl⟩ (fun v9 h18 hv => ?_)
      obtain ⟨rfl, hw⟩ := hv
      exact E.2.2.2.1 _ _ _ _ _ _ (some q12) rfl (Or.inl ⟨_, rfl⟩) dX6_routeOf_102 ⟨(some q12), rfl, hw⟩ (Nat.le_of_ble_eq_true rfl) (Nat.le_of_ble_eq_true rfl)
    · refine xr_null S dX6_routeOf_81 ?_
      refine xr_goto S (tgt := 102) dX6_routeOf_82 (by decide) ?_
      exact E.2.2.2.1 _ _ _ _ _ _ none rfl (Or.inl ⟨_, rfl⟩) dX6_routeOf_102 ⟨none, rfl, hw⟩ (Nat.le_of_ble_eq_true rfl) (Nat.le_of_ble_eq_true rfl)
  · refine xr_iload S 0 dX6_routeOf_46 rfl ?_
    refine xw_if_eq S 74 dX6_routeOf_48 (by decide) hw (fun c hw => ?_) (fun c hw => ?_)
    · refine xr_null S dX6_routeOf_74 ?_
      exact E.2.2.2.1 _ _ _ _ _ _ none rfl (Or.inl ⟨_, rfl⟩) dX6_routeOf_75 ⟨none, rfl, hw⟩ (Nat.le_of_ble_eq_true rfl) (Nat.le_of_ble_eq_true rfl)
    · refine xr_new S 4 tyX3 [.null, .null, .int 0, .int 0] dX6_routeOf_51 in_X6_routeOf_X3 tyX3_ok m_X6_routeOf_5 m_X6_routeOf_6 m_X6_routeOf_7 rfl dfX3 (Nat.le_of_ble_eq_true rfl) (Nat.le_of_ble_eq_true rfl) (fun q20 hq => ?_)
      have hw := hw q20 hq
      generalize xup h q20 (.inr (4, [.null, .null, .int 0, .int 0])) = h21 at hw ⊢
      refine xr_dup S dX6_routeOf_54 rfl ?_
      refine xr_aload_n S 3 dX6_routeOf_55 rfl ?_
      refine xr_aload_n S 1 dX6_routeOf_56 rfl ?_
      refine xw_getR S 7 1 dX6_routeOf_57 in_X6_routeOf_X6 rfl (by decide) (Or.inl m_X6_routeOf_11) (Or.inl rfl) hw (fun a22 hw => ?_)
      refine xr_iload_n S 2 dX6_routeOf_60 rfl ?_
      obtain ⟨e23, hw⟩ := hw
      obtain ⟨f24, f24x⟩ := id e23
      refine xr_callV S 0 [.int l2] [.ref l3, .ref q20, .ref q20] dX6_routeOf_61 (k_Jx4a65c_get_915e3 l (xdc X) h21 a22 l2 _ hw) gX6_routeOf_Jx4a65c_get_915e3 rfl pd_Jx4a65c_get_915e3 ⟨Nat.le_of_ble_eq_true rfl, Nat.le_of_ble_eq_true rfl⟩ rfl (Nat.le_of_ble_eq_true rfl) ⟨Nat.le_of_ble_eq_true rfl, Nat.le_of_ble_eq_true rfl⟩ f24x rfl (fun v9 h27 hv => ?_)
      obtain ⟨r25, rfl, rfl, hw⟩ := hv
      obtain ⟨q28, hrq28, hwq28⟩ := hw
      subst hrq28
      have hw := hwq28
      obtain ⟨e29, hw⟩ := hw
      obtain ⟨f30, f30x⟩ := id e29
      refine xr_cast S 1 dX6_routeOf_64 m_X6_routeOf_12 f30x rfl ?_
      refine xr_iconst S (0) dX6_routeOf_67 (by decide) ?_
      refine xr_callI S [.ref l3, .ref q28, .int 0] [.ref q20] dX6_routeOf_68 (k_X3_init l (xdc X) h21 q20 l3 q28 0 _ hw) gX6_routeOf_X3_init rfl m_X6_routeOf_7 m_X6_routeOf_9 m_X6_routeOf_10 rfl pd_X3_init ⟨Nat.le_of_ble_eq_true rfl, Nat.le_of_ble_eq_true rfl⟩ rfl (Nat.le_of_ble_eq_true rfl) ⟨Nat.le_of_ble_eq_true rfl, Nat.le_of_ble_eq_true rfl⟩ (fun v9 h32 hv => ?_)
      obtain ⟨rfl, hw⟩ := hv
      refine xr_goto S (tgt := 75) dX6_routeOf_71 (by decide) ?_
      exact E.2.2.2.1 _ _ _ _ _ _ (some q20) rfl (Or.inl ⟨_, rfl⟩) dX6_routeOf_75 ⟨(some q20), rfl, hw⟩ (Nat.le_of_ble_eq_true rfl) (Nat.le_of_ble_eq_true rfl)
def w_X6_routeOf_34 (dc : Nat × Nat) (h : XH) (l0 : Nat) (l2 : Int32) (l3 : Nat) (l4 : Option Nat) (Po : Option Nat → XH → Prop) : Prop :=
  w_X6_routeOf_39 dc h l0 l2 l3 l4 1 Po
set_option maxRecDepth 100000 in
set_option maxHeartbeats 4000000 in
theorem k_X6_routeOf_34 {V : XVT} {X : XC} {l : Launch} (S : xS V X l RX6 yX6_routeOf.name cX6_routeOf 6 wsX6_routeOf (xRm 3 64 1 4)) (h : XH) (l0 : Nat) (l2 : Int32) (l3 : Nat) (l4 : Option Nat) (Po : Option Nat → XH → Prop) (E : xEnd V cX6_routeOf (some (.object "PilotBook$Route")) 1 4 (xPq Po)) (hw : w_X6_routeOf_34 (xdc X) h l0 l2 l3 l4 Po) : V 0 0 h 34 [(0, .ref l0), (2, .int l2), (3, .ref l3), (4, va_rf l4)] [] := by
  refine xr_iconst S (1) dX6_routeOf_34 (by decide) ?_
  refine xr_goto S (tgt := 39) dX6_routeOf_35 (by decide) ?_
  exact k_X6_routeOf_39 S h l0 l2 l3 l4 1 Po E hw
def w_X6_routeOf (dc : Nat × Nat) (h : XH) (l0 : Nat) (l1 : Int32) (l2 : Int32) (Po : Option Nat → XH → Prop) : Prop :=
  wR h l0 7 2 (fun a1 => wO h a1 0 ( w_Jx4a65c_get_915e3 dc h a1 l1 (fun r4 => wDer r4 (fun q7 => wO h q7 5 ( wQ h q7 5 3 (fun r10 => wOpt r10 (w_X6_routeOf_34 dc h l0 l2 q7 none Po) (fun q11 => wR h q11 2 0 (fun a34 => wI h a34 4 2 (fun v35 => wIf (v35 = 0) (w_X6_routeOf_39 dc h l0 l2 q7 (some q11) 0 Po) (w_X6_routeOf_34 dc h l0 l2 q7 (some q11) Po))))))))))
set_option maxRecDepth 100000 in
set_option maxHeartbeats 4000000 in
theorem k_X6_routeOf (l : Launch) (dc : Nat × Nat) (h : XH) (l0 : Nat) (l1 : Int32) (l2 : Int32) (Po : Option Nat → XH → Prop) (hw : w_X6_routeOf dc h l0 l1 l2 Po) : xM l dc yX6_routeOf wsX6_routeOf 3 64 1 4 [.ref l0, .int l1, .int l2] h (xPq Po) := by
  refine xM_of [(0, .ref l0), (1, .int l1), (2, .int l2)] (own := RX6) (cc := cX6_routeOf) (nL := 6) (ret := (some (.object "PilotBook$Route"))) (by decide +kernel) rfl rfl (Nat.le_of_ble_eq_true rfl) rfl ?_
  intro X V hX S E
  subst hX
  refine xr_aload_n S 0 dX6_routeOf_0 rfl ?_
  refine xw_getR S 7 2 dX6_routeOf_1 in_X6_routeOf_X6 rfl (by decide) (Or.inl m_X6_routeOf_1) (Or.inl rfl) hw (fun a1 hw => ?_)
  refine xr_iload_n S 1 dX6_routeOf_4 rfl ?_
  obtain ⟨e2, hw⟩ := hw
  obtain ⟨f3, f3x⟩ := id e2
  refine xr_callV S 0 [.int l1] [] dX6_routeOf_5 (k_Jx4a65c_get_915e3 l (xdc X) h a1 l1 _ hw) gX6_routeOf_Jx4a65c_get_915e3 rfl pd_Jx4a65c_get_915e3 ⟨Nat.le_of_ble_eq_true rfl, Nat.le_of_ble_eq_true rfl⟩ rfl (Nat.le_of_ble_eq_true rfl) ⟨Nat.le_of_ble_eq_true rfl, Nat.le_of_ble_eq_true rfl⟩ f3x rfl (fun v9 h6 hv => ?_)
  obtain ⟨r4, rfl, rfl, hw⟩ := hv
  obtain ⟨q7, hrq7, hwq7⟩ := hw
  subst hrq7
  have hw := hwq7
  obtain ⟨e8, hw⟩ := hw
  obtain ⟨f9, f9x⟩ := id e8
  refine xr_cast S 5 dX6_routeOf_8 m_X6_routeOf_2 f9x rfl ?_
  refine xr_astore_n S [(3, .ref q7), (0, .ref l0), (1, .int l1), (2, .int l2)] dX6_routeOf_11 (by decide) rfl ?_
  refine xr_aload_n S 0 dX6_routeOf_12 rfl ?_
  refine xw_getQ S 5 3 dX6_routeOf_13 in_X6_routeOf_X4 rfl (by decide) (Or.inr xn_X6_129) (Or.inl rfl) hw (fun r10 hw => ?_)
  refine xr_astoreq S [(4, va_rf r10), (3, .ref q7), (0, .ref l0), (1, .int l1), (2, .int l2)] dX6_routeOf_16 (by decide) rfl ?_
  refine xr_aloadq S 0 dX6_routeOf_18 rfl ?_
  refine xw_ifnull S 34 dX6_routeOf_20 (by decide) hw (fun hr hwq11 => ?_) (fun q11 hr hwq11 => ?_)
  · subst hr
    have hw := hwq11
    refine xr_sub S [(0, .ref l0), (2, .int l2), (3, .ref q7), (4, va_rf none)] [2, 4, 1, 0] rfl ?_
    exact k_X6_routeOf_34 S h l0 l2 q7 none Po E hw
  · subst hr
    have hw := hwq11
    refine xr_aload S 0 dX6_routeOf_23 rfl ?_
    refine xw_getR S 2 0 dX6_routeOf_25 in_X6_routeOf_X1 rfl (by decide) (Or.inr xn_X6_133) (Or.inl rfl) hw (fun a34 hw => ?_)
    refine xw_getI S 4 2 dX6_routeOf_28 in_X6_routeOf_X3 rfl (by decide) (Or.inr xn_X6_139) (Or.inl rfl) hw (fun v35 hw => ?_)
    refine xw_if_eq S 38 dX6_routeOf_31 (by decide) hw (fun c hw => ?_) (fun c hw => ?_)
    · refine xr_iconst S (0) dX6_routeOf_38 (by decide) ?_
      refine xr_sub S [(0, .ref l0), (2, .int l2), (3, .ref q7), (4, va_rf (some q11))] [2, 4, 1, 0] rfl ?_
      exact k_X6_routeOf_39 S h l0 l2 q7 (some q11) 0 Po E hw
    · refine xr_sub S [(0, .ref l0), (2, .int l2), (3, .ref q7), (4, va_rf (some q11))] [2, 4, 1, 0] rfl ?_
      exact k_X6_routeOf_34 S h l0 l2 q7 (some q11) Po E hw
theorem in_X6_freeFrom_X3 : ∀ w ∈ wsX30, w ∈ wsX6_freeFrom := by decide +kernel
theorem in_X6_freeFrom_X4 : ∀ w ∈ wsX40, w ∈ wsX6_freeFrom := by decide +kernel
theorem in_X6_freeFrom_X6 : ∀ w ∈ wsX60, w ∈ wsX6_freeFrom := by decide +kernel
theorem m_X6_freeFrom_3 : Cond.fieldLink RX6 29 "PilotBook" "passages" "Ljava/util/ArrayList;" ∈ wsX6_freeFrom := by decide +kernel
theorem m_X6_freeFrom_4 : Cond.classLink RX6 134 "PilotBook$Passage" ∈ wsX6_freeFrom := by decide +kernel
theorem in_X6_freeFrom_X1 : ∀ w ∈ wsX10, w ∈ wsX6_freeFrom := by decide +kernel
theorem in_X6_freeFrom_X0 : ∀ w ∈ wsX00, w ∈ wsX6_freeFrom := by decide +kernel
theorem m_X6_freeFrom_7 : Cond.methodLink RX6 263 Lib.Math.max.name ∈ wsX6_freeFrom := by decide +kernel
theorem m_X6_freeFrom_8 : Cond.static Lib.Math.max.name ∈ wsX6_freeFrom := by decide +kernel
theorem m_X6_freeFrom_9 : Cond.initialized "java/lang/Math" ∈ wsX6_freeFrom := by decide +kernel
theorem m_X6_freeFrom_10 : Cond.code Lib.Math.max.name Lib.Math.max.code 2 (some .int) ∈ wsX6_freeFrom := by decide +kernel
def w_X6_freeFrom_90 (dc : Nat × Nat) (h : XH) (l0 : Nat) (l1 : Nat) (l3 : Int32) (l4 : Int32) (Po : Int32 → Prop) (rec33 : Int32 × Int32 → Prop) : Prop :=
  rec33 (l3, (l4 + 1))
set_option maxRecDepth 100000 in
set_option maxHeartbeats 4000000 in
theorem k_X6_freeFrom_90 {V : XVT} {X : XC} {l : Launch} (S : xS V X l RX6 yX6_freeFrom.name cX6_freeFrom 6 wsX6_freeFrom (xRm 3 64 0 0)) (h : XH) (l0 : Nat) (l1 : Nat) (l3 : Int32) (l4 : Int32) (Po : Int32 → Prop) (E : xEnd V cX6_freeFrom (some .int) 0 0 (xRi h Po)) (rec33 : Int32 × Int32 → Prop) (hr33 : ∀ s : Int32 × Int32, rec33 s → V 0 0 h 33 [(0, .ref l0), (1, .ref l1), (3, .int s.1), (4, .int s.2)] []) (hw : w_X6_freeFrom_90 (xdc X) h l0 l1 l3 l4 Po rec33) : V 0 0 h 90 [(0, .ref l0), (1, .ref l1), (3, .int l3), (4, .int l4)] [] := by
  refine xr_iinc S 3 ((l4 + 1)) [(4, .int (l4 + 1)), (0, .ref l0), (1, .ref l1), (3, .int l3)] dX6_freeFrom_90 rfl rfl (by decide) rfl ?_
  refine xr_goto S (tgt := 33) dX6_freeFrom_93 (by decide) ?_
  refine xr_sub S [(0, .ref l0), (1, .ref l1), (3, .int l3), (4, .int (l4 + 1))] [1, 2, 3, 0] rfl ?_
  exact hr33 (l3, (l4 + 1)) hw
def w_X6_freeFrom_33_F (dc : Nat × Nat) (h : XH) (l0 : Nat) (l1 : Nat) (Po : Int32 → Prop) (rec33 : Int32 × Int32 → Prop) : Int32 × Int32 → Prop := fun s => match s with
  | (l3, l4) =>
  wR h l0 7 4 (fun a5 => wO h a5 0 ( w_Jx4a65c_size_8abf5 dc h a5 (fun r8 => wIf (r8 ≤ l4) (Po l3) (wR h l0 7 4 (fun a11 => wO h a11 0 ( w_Jx4a65c_get_915e3 dc h a11 l4 (fun r14 => wDer r14 (fun q17 => wO h q17 2 ( wR h q17 2 0 (fun a20 => wR h a20 4 1 (fun a21 => wI h a21 1 0 (fun v22 => wR h l1 4 1 (fun a23 => wI h a23 1 0 (fun v24 => wIf (v22 = v24) (wI h q17 2 6 (fun v25 => (w_X6_freeFrom_90 dc h l0 l1 (if l3 < v25 then v25 else l3) l4 Po rec33))) (w_X6_freeFrom_90 dc h l0 l1 l3 l4 Po rec33)))))))))))))))
def w_X6_freeFrom_33 (dc : Nat × Nat) (h : XH) (l0 : Nat) (l1 : Nat) (Po : Int32 → Prop) : Int32 × Int32 → Prop := xloop (w_X6_freeFrom_33_F dc h l0 l1 Po)
set_option maxRecDepth 100000 in
set_option maxHeartbeats 4000000 in
theorem k_X6_freeFrom_33 {V : XVT} {X : XC} {l : Launch} (S : xS V X l RX6 yX6_freeFrom.name cX6_freeFrom 6 wsX6_freeFrom (xRm 3 64 0 0)) (h : XH) (l0 : Nat) (l1 : Nat) (Po : Int32 → Prop) (E : xEnd V cX6_freeFrom (some .int) 0 0 (xRi h Po)) (s0 : Int32 × Int32) (hw : w_X6_freeFrom_33 (xdc X) h l0 l1 Po s0) : V 0 0 h 33 [(0, .ref l0), (1, .ref l1), (3, .int s0.1), (4, .int s0.2)] [] := by
  refine xloop_use (P := fun s : Int32 × Int32 => V 0 0 h 33 [(0, .ref l0), (1, .ref l1), (3, .int s.1), (4, .int s.2)] []) (fun rec33 hr33 s hw => ?_) hw
  obtain ⟨l3, l4⟩ := s
  try dsimp only
  refine xr_iload S 3 dX6_freeFrom_33 rfl ?_
  refine xr_aload_n S 0 dX6_freeFrom_35 rfl ?_
  refine xw_getR S 7 4 dX6_freeFrom_36 in_X6_freeFrom_X6 rfl (by decide) (Or.inl m_X6_freeFrom_3) (Or.inl rfl) hw (fun a5 hw => ?_)
  obtain ⟨e6, hw⟩ := hw
  obtain ⟨f7, f7x⟩ := id e6
  refine xr_callV S 0 [] [.int l4] dX6_freeFrom_39 (k_Jx4a65c_size_8abf5 l (xdc X) h a5 _ hw) gX6_freeFrom_Jx4a65c_size_8abf5 rfl pd_Jx4a65c_size_8abf5 ⟨Nat.le_of_ble_eq_true rfl, Nat.le_of_ble_eq_true rfl⟩ rfl (Nat.le_of_ble_eq_true rfl) ⟨Nat.le_of_ble_eq_true rfl, Nat.le_of_ble_eq_true rfl⟩ f7x rfl (fun v9 h10 hv => ?_)
  obtain ⟨r8, rfl, rfl, hw⟩ := hv
  refine xw_icmp_ge S 96 dX6_freeFrom_42 (by decide) hw (fun c hw => ?_) (fun c hw => ?_)
  · refine xr_iload_n S 2 dX6_freeFrom_96 rfl ?_
    exact E.1 _ _ _ _ _ _ rfl dX6_freeFrom_97 ⟨_, rfl, rfl, hw⟩ (Nat.le_of_ble_eq_true rfl) (Nat.le_of_ble_eq_true rfl)
  · refine xr_aload_n S 0 dX6_freeFrom_45 rfl ?_
    refine xw_getR S 7 4 dX6_freeFrom_46 in_X6_freeFrom_X6 rfl (by decide) (Or.inl m_X6_freeFrom_3) (Or.inl rfl) hw (fun a11 hw => ?_)
    refine xr_iload S 3 dX6_freeFrom_49 rfl ?_
    obtain ⟨e12, hw⟩ := hw
    obtain ⟨f13, f13x⟩ := id e12
    refine xr_callV S 0 [.int l4] [] dX6_freeFrom_51 (k_Jx4a65c_get_915e3 l (xdc X) h a11 l4 _ hw) gX6_freeFrom_Jx4a65c_get_915e3 rfl pd_Jx4a65c_get_915e3 ⟨Nat.le_of_ble_eq_true rfl, Nat.le_of_ble_eq_true rfl⟩ rfl (Nat.le_of_ble_eq_true rfl) ⟨Nat.le_of_ble_eq_true rfl, Nat.le_of_ble_eq_true rfl⟩ f13x rfl (fun v9 h16 hv => ?_)
    obtain ⟨r14, rfl, rfl, hw⟩ := hv
    obtain ⟨q17, hrq17, hwq17⟩ := hw
    subst hrq17
    have hw := hwq17
    obtain ⟨e18, hw⟩ := hw
    obtain ⟨f19, f19x⟩ := id e18
    refine xr_cast S 2 dX6_freeFrom_54 m_X6_freeFrom_4 f19x rfl ?_
    refine xr_astore S [(5, .ref q17), (0, .ref l0), (1, .ref l1), (3, .int l3), (4, .int l4)] dX6_freeFrom_57 (by decide) rfl ?_
    refine xr_aload S 0 dX6_freeFrom_59 rfl ?_
    refine xw_getR S 2 0 dX6_freeFrom_61 in_X6_freeFrom_X1 rfl (by decide) (Or.inr xn_X6_133) (Or.inl rfl) hw (fun a20 hw => ?_)
    refine xw_getR S 4 1 dX6_freeFrom_64 in_X6_freeFrom_X3 rfl (by decide) (Or.inr xn_X6_208) (Or.inl rfl) hw (fun a21 hw => ?_)
    refine xw_getI S 1 0 dX6_freeFrom_67 in_X6_freeFrom_X0 rfl (by decide) (Or.inr xn_X6_212) (Or.inl rfl) hw (fun v22 hw => ?_)
    refine xr_aload_n S 2 dX6_freeFrom_70 rfl ?_
    refine xw_getR S 4 1 dX6_freeFrom_71 in_X6_freeFrom_X3 rfl (by decide) (Or.inr xn_X6_208) (Or.inl rfl) hw (fun a23 hw => ?_)
    refine xw_getI S 1 0 dX6_freeFrom_74 in_X6_freeFrom_X0 rfl (by decide) (Or.inr xn_X6_212) (Or.inl rfl) hw (fun v24 hw => ?_)
    refine xw_icmp_ne S 90 dX6_freeFrom_77 (by decide) hw (fun c hw => ?_) (fun c hw => ?_)
    · refine xr_sub S [(0, .ref l0), (1, .ref l1), (3, .int l3), (4, .int l4)] [1, 2, 3, 4] rfl ?_
      exact k_X6_freeFrom_90 S h l0 l1 l3 l4 Po E rec33 hr33 hw
    · refine xr_iload_n S 3 dX6_freeFrom_80 rfl ?_
      refine xr_aload S 0 dX6_freeFrom_81 rfl ?_
      refine xw_getI S 2 6 dX6_freeFrom_83 in_X6_freeFrom_X1 rfl (by decide) (Or.inr xn_X6_200) (Or.inl rfl) hw (fun v25 hw => ?_)
      refine xr_mmax S dX6_freeFrom_86 m_X6_freeFrom_7 m_X6_freeFrom_8 m_X6_freeFrom_9 m_X6_freeFrom_10 (Nat.le_of_ble_eq_true rfl) (Nat.le_of_ble_eq_true rfl) ⟨Nat.le_of_ble_eq_true rfl, Nat.le_of_ble_eq_true rfl⟩ ?_
      refine xr_istore_n S [(3, .int (if l3 < v25 then v25 else l3)), (5, .ref q17), (0, .ref l0), (1, .ref l1), (4, .int l4)] dX6_freeFrom_89 (by decide) rfl ?_
      refine xr_sub S [(0, .ref l0), (1, .ref l1), (3, .int (if l3 < v25 then v25 else l3)), (4, .int l4)] [2, 3, 0, 4] rfl ?_
      exact k_X6_freeFrom_90 S h l0 l1 (if l3 < v25 then v25 else l3) l4 Po E rec33 hr33 hw
def w_X6_freeFrom_20 (dc : Nat × Nat) (h : XH) (l0 : Nat) (l1 : Nat) (t0 : Int32) (Po : Int32 → Prop) : Prop :=
  wI h l1 4 2 (fun v4 => wIf (v4 = 0) (w_X6_freeFrom_33 dc h l0 l1 Po (t0, 0)) (Po t0))
set_option maxRecDepth 100000 in
set_option maxHeartbeats 4000000 in
theorem k_X6_freeFrom_20 {V : XVT} {X : XC} {l : Launch} (S : xS V X l RX6 yX6_freeFrom.name cX6_freeFrom 6 wsX6_freeFrom (xRm 3 64 0 0)) (h : XH) (l0 : Nat) (l1 : Nat) (t0 : Int32) (Po : Int32 → Prop) (E : xEnd V cX6_freeFrom (some .int) 0 0 (xRi h Po)) (hw : w_X6_freeFrom_20 (xdc X) h l0 l1 t0 Po) : V 0 0 h 20 [(0, .ref l0), (1, .ref l1)] [.int t0] := by
  refine xr_istore_n S [(3, .int t0), (0, .ref l0), (1, .ref l1)] dX6_freeFrom_20 (by decide) rfl ?_
  refine xr_aload_n S 2 dX6_freeFrom_21 rfl ?_
  refine xw_getI S 4 2 dX6_freeFrom_22 in_X6_freeFrom_X3 rfl (by decide) (Or.inr xn_X6_139) (Or.inl rfl) hw (fun v4 hw => ?_)
  refine xw_if_eq S 30 dX6_freeFrom_25 (by decide) hw (fun c hw => ?_) (fun c hw => ?_)
  · refine xr_iconst S (0) dX6_freeFrom_30 (by decide) ?_
    refine xr_istore S [(4, .int 0), (3, .int t0), (0, .ref l0), (1, .ref l1)] dX6_freeFrom_31 (by decide) rfl ?_
    refine xr_sub S [(0, .ref l0), (1, .ref l1), (3, .int t0), (4, .int 0)] [2, 3, 1, 0] rfl ?_
    exact k_X6_freeFrom_33 S h l0 l1 Po E (t0, 0) hw
  · refine xr_iload_n S 0 dX6_freeFrom_28 rfl ?_
    exact E.1 _ _ _ _ _ _ rfl dX6_freeFrom_29 ⟨_, rfl, rfl, hw⟩ (Nat.le_of_ble_eq_true rfl) (Nat.le_of_ble_eq_true rfl)
def w_X6_freeFrom (dc : Nat × Nat) (h : XH) (l0 : Nat) (l1 : Nat) (Po : Int32 → Prop) : Prop :=
  wR h l1 4 0 (fun a1 => wQ h a1 5 3 (fun r2 => wOpt r2 (w_X6_freeFrom_20 dc h l0 l1 0 Po) (fun q3 => wO h q3 2 ( w_X1_end dc h q3 (fun r28 => w_X6_freeFrom_20 dc h l0 l1 r28 Po)))))
set_option maxRecDepth 100000 in
set_option maxHeartbeats 4000000 in
theorem k_X6_freeFrom (l : Launch) (dc : Nat × Nat) (h : XH) (l0 : Nat) (l1 : Nat) (Po : Int32 → Prop) (hw : w_X6_freeFrom dc h l0 l1 Po) : xM l dc yX6_freeFrom wsX6_freeFrom 3 64 0 0 [.ref l0, .ref l1] h (xRi h Po) := by
  refine xM_of [(0, .ref l0), (1, .ref l1)] (own := RX6) (cc := cX6_freeFrom) (nL := 6) (ret := (some .int)) (by decide +kernel) rfl rfl (Nat.le_of_ble_eq_true rfl) rfl ?_
  intro X V hX S E
  subst hX
  refine xr_aload_n S 1 dX6_freeFrom_0 rfl ?_
  refine xw_getR S 4 0 dX6_freeFrom_1 in_X6_freeFrom_X3 rfl (by decide) (Or.inr xn_X6_188) (Or.inl rfl) hw (fun a1 hw => ?_)
  refine xw_getQ S 5 3 dX6_freeFrom_4 in_X6_freeFrom_X4 rfl (by decide) (Or.inr xn_X6_129) (Or.inl rfl) hw (fun r2 hw => ?_)
  refine xr_astoreq_n S [(2, va_rf r2), (0, .ref l0), (1, .ref l1)] dX6_freeFrom_7 (by decide) rfl ?_
  refine xr_aloadq_n S 0 dX6_freeFrom_8 rfl ?_
  refine xw_ifnonnull S 16 dX6_freeFrom_9 (by decide) hw (fun q3 hr hwq3 => ?_) (fun hr hwq3 => ?_)
  · subst hr
    have hw := hwq3
    refine xr_aload_n S 0 dX6_freeFrom_16 rfl ?_
    obtain ⟨e26, hw⟩ := hw
    obtain ⟨f27, f27x⟩ := id e26
    refine xr_callV S 2 [] [] dX6_freeFrom_17 (k_X1_end l (xdc X) h q3 _ hw) gX6_freeFrom_X1_end rfl pd_X1_end ⟨Nat.le_of_ble_eq_true rfl, Nat.le_of_ble_eq_true rfl⟩ rfl (Nat.le_of_ble_eq_true rfl) ⟨Nat.le_of_ble_eq_true rfl, Nat.le_of_ble_eq_true rfl⟩ f27x rfl (fun v9 h30 hv => ?_)
    obtain ⟨r28, rfl, rfl, hw⟩ := hv
    refine xr_sub S [(0, .ref l0), (1, .ref l1)] [1, 2] rfl ?_
    exact k_X6_freeFrom_20 S h l0 l1 r28 Po E hw
  · subst hr
    have hw := hwq3
    refine xr_iconst S (0) dX6_freeFrom_12 (by decide) ?_
    refine xr_goto S (tgt := 20) dX6_freeFrom_13 (by decide) ?_
    refine xr_sub S [(0, .ref l0), (1, .ref l1)] [1, 2] rfl ?_
    exact k_X6_freeFrom_20 S h l0 l1 0 Po E hw
theorem in_X6_hasClearWay_X6 : ∀ w ∈ wsX60, w ∈ wsX6_hasClearWay := by decide +kernel
theorem m_X6_hasClearWay_1 : Cond.fieldLink RX6 29 "PilotBook" "passages" "Ljava/util/ArrayList;" ∈ wsX6_hasClearWay := by decide +kernel
theorem m_X6_hasClearWay_2 : Cond.classLink RX6 134 "PilotBook$Passage" ∈ wsX6_hasClearWay := by decide +kernel
theorem in_X6_hasClearWay_X1 : ∀ w ∈ wsX10, w ∈ wsX6_hasClearWay := by decide +kernel
theorem in_X6_hasClearWay_X3 : ∀ w ∈ wsX30, w ∈ wsX6_hasClearWay := by decide +kernel
theorem m_X6_hasClearWay_5 : Cond.methodLink RX6 282 Lib.Math.abs.name ∈ wsX6_hasClearWay := by decide +kernel
theorem m_X6_hasClearWay_6 : Cond.static Lib.Math.abs.name ∈ wsX6_hasClearWay := by decide +kernel
theorem m_X6_hasClearWay_7 : Cond.initialized "java/lang/Math" ∈ wsX6_hasClearWay := by decide +kernel
theorem m_X6_hasClearWay_8 : Cond.code Lib.Math.abs.name Lib.Math.abs.code 1 (some .int) ∈ wsX6_hasClearWay := by decide +kernel
def w_X6_hasClearWay_48 (dc : Nat × Nat) (h : XH) (l0 : Nat) (l1 : Nat) (l2 : Int32) (l3 : Int32) (l4 : Nat) (t0 : Int32) (Po : Int32 → Prop) (rec2 : Int32 → Prop) : Prop :=
  wI h l4 2 2 (fun v19 => wIf (t0 ≤ (if 0 ≤ (v19 - l2) then (v19 - l2) else 0 - (v19 - l2))) (rec2 (l3 + 1)) (wZ 0 (Po 0)))
set_option maxRecDepth 100000 in
set_option maxHeartbeats 4000000 in
theorem k_X6_hasClearWay_48 {V : XVT} {X : XC} {l : Launch} (S : xS V X l RX6 yX6_hasClearWay.name cX6_hasClearWay 6 wsX6_hasClearWay (xRm 3 64 0 0)) (h : XH) (l0 : Nat) (l1 : Nat) (l2 : Int32) (l3 : Int32) (l4 : Nat) (t0 : Int32) (Po : Int32 → Prop) (E : xEnd V cX6_hasClearWay (some .boolean) 0 0 (xRi h Po)) (rec2 : Int32 → Prop) (hr2 : ∀ s : Int32, rec2 s → V 0 0 h 2 [(0, .ref l0), (1, .ref l1), (2, .int l2), (3, .int s)] []) (hw : w_X6_hasClearWay_48 (xdc X) h l0 l1 l2 l3 l4 t0 Po rec2) : V 0 0 h 48 [(0, .ref l0), (1, .ref l1), (2, .int l2), (3, .int l3), (4, .ref l4)] [.int t0] := by
  refine xr_istore S [(5, .int t0), (0, .ref l0), (1, .ref l1), (2, .int l2), (3, .int l3), (4, .ref l4)] dX6_hasClearWay_48 (by decide) rfl ?_
  refine xr_aload S 5 dX6_hasClearWay_50 rfl ?_
  refine xw_getI S 2 2 dX6_hasClearWay_52 in_X6_hasClearWay_X1 rfl (by decide) (Or.inr xn_X6_153) (Or.inl rfl) hw (fun v19 hw => ?_)
  refine xr_iload_n S 3 dX6_hasClearWay_55 rfl ?_
  refine xr_isub S dX6_hasClearWay_56 ?_
  refine xr_mabs S dX6_hasClearWay_57 m_X6_hasClearWay_5 m_X6_hasClearWay_6 m_X6_hasClearWay_7 m_X6_hasClearWay_8 (Nat.le_of_ble_eq_true rfl) (Nat.le_of_ble_eq_true rfl) ⟨Nat.le_of_ble_eq_true rfl, Nat.le_of_ble_eq_true rfl⟩ ?_
  refine xr_iload S 0 dX6_hasClearWay_60 rfl ?_
  refine xw_icmp_ge S 67 dX6_hasClearWay_62 (by decide) hw (fun c hw => ?_) (fun c hw => ?_)
  · refine xr_iinc S 4 ((l3 + 1)) [(3, .int (l3 + 1)), (5, .int t0), (0, .ref l0), (1, .ref l1), (2, .int l2), (4, .ref l4)] dX6_hasClearWay_67 rfl rfl (by decide) rfl ?_
    refine xr_goto S (tgt := 2) dX6_hasClearWay_70 (by decide) ?_
    refine xr_sub S [(0, .ref l0), (1, .ref l1), (2, .int l2), (3, .int (l3 + 1))] [2, 3, 4, 0] rfl ?_
    exact hr2 (l3 + 1) hw
  · refine xr_iconst S (0) dX6_hasClearWay_65 (by decide) ?_
    obtain ⟨hz, hw⟩ := hw
    exact E.2.1 _ _ _ _ _ _ rfl hz dX6_hasClearWay_66 ⟨_, rfl, rfl, hw⟩ (Nat.le_of_ble_eq_true rfl) (Nat.le_of_ble_eq_true rfl)
def w_X6_hasClearWay_2_F (dc : Nat × Nat) (h : XH) (l0 : Nat) (l1 : Nat) (l2 : Int32) (Po : Int32 → Prop) (rec2 : Int32 → Prop) : Int32 → Prop := fun l3 =>
  wR h l0 7 4 (fun a1 => wO h a1 0 ( w_Jx4a65c_size_8abf5 dc h a1 (fun r4 => wIf (r4 ≤ l3) (wZ 1 (Po 1)) (wR h l0 7 4 (fun a7 => wO h a7 0 ( w_Jx4a65c_get_915e3 dc h a7 l3 (fun r10 => wDer r10 (fun q13 => wO h q13 2 ( wR h q13 2 0 (fun a16 => wI h a16 4 2 (fun v17 => wI h l1 4 2 (fun v18 => wIf (v17 = v18) (w_X6_hasClearWay_48 dc h l0 l1 l2 l3 q13 20 Po rec2) (w_X6_hasClearWay_48 dc h l0 l1 l2 l3 q13 60 Po rec2)))))))))))))
def w_X6_hasClearWay_2 (dc : Nat × Nat) (h : XH) (l0 : Nat) (l1 : Nat) (l2 : Int32) (Po : Int32 → Prop) : Int32 → Prop := xloop (w_X6_hasClearWay_2_F dc h l0 l1 l2 Po)
set_option maxRecDepth 100000 in
set_option maxHeartbeats 4000000 in
theorem k_X6_hasClearWay_2 {V : XVT} {X : XC} {l : Launch} (S : xS V X l RX6 yX6_hasClearWay.name cX6_hasClearWay 6 wsX6_hasClearWay (xRm 3 64 0 0)) (h : XH) (l0 : Nat) (l1 : Nat) (l2 : Int32) (Po : Int32 → Prop) (E : xEnd V cX6_hasClearWay (some .boolean) 0 0 (xRi h Po)) (s0 : Int32) (hw : w_X6_hasClearWay_2 (xdc X) h l0 l1 l2 Po s0) : V 0 0 h 2 [(0, .ref l0), (1, .ref l1), (2, .int l2), (3, .int s0)] [] := by
  refine xloop_use (P := fun s : Int32 => V 0 0 h 2 [(0, .ref l0), (1, .ref l1), (2, .int l2), (3, .int s)] []) (fun rec2 hr2 s hw => ?_) hw
  obtain ⟨l3, rfl⟩ : ∃ z, z = s := ⟨s, rfl⟩
  refine xr_iload_n S 3 dX6_hasClearWay_2 rfl ?_
  refine xr_aload_n S 0 dX6_hasClearWay_3 rfl ?_
  refine xw_getR S 7 4 dX6_hasClearWay_4 in_X6_hasClearWay_X6 rfl (by decide) (Or.inl m_X6_hasClearWay_1) (Or.inl rfl) hw (fun a1 hw => ?_)
  obtain ⟨e2, hw⟩ := hw
  obtain ⟨f3, f3x⟩ := id e2
  refine xr_callV S 0 [] [.int l3] dX6_hasClearWay_7 (k_Jx4a65c_size_8abf5 l (xdc X) h a1 _ hw) gX6_hasClearWay_Jx4a65c_size_8abf5 rfl pd_Jx4a65c_size_8abf5 ⟨Nat.le_of_ble_eq_true rfl, Nat.le_of_ble_eq_true rfl⟩ rfl (Nat.le_of_ble_eq_true rfl) ⟨Nat.le_of_ble_eq_true rfl, Nat.le_of_ble_eq_true rfl⟩ f3x rfl (fun v9 h6 hv => ?_)
  obtain ⟨r4, rfl, rfl, hw⟩ := hv
  refine xw_icmp_ge S 73 dX6_hasClearWay_10 (by decide) hw (fun c hw => ?_) (fun c hw => ?_)
  · refine xr_iconst S (1) dX6_hasClearWay_73 (by decide) ?_
    obtain ⟨hz, hw⟩ := hw
    exact E.2.1 _ _ _ _ _ _ rfl hz dX6_hasClearWay_74 ⟨_, rfl, rfl, hw⟩ (Nat.le_of_ble_eq_true rfl) (Nat.le_of_ble_eq_true rfl)
  · refine xr_aload_n S 0 dX6_hasClearWay_13 rfl ?_
    refine xw_getR S 7 4 dX6_hasClearWay_14 in_X6_hasClearWay_X6 rfl (by decide) (Or.inl m_X6_hasClearWay_1) (Or.inl rfl) hw (fun a7 hw => ?_)
    refine xr_iload_n S 3 dX6_hasClearWay_17 rfl ?_
    obtain ⟨e8, hw⟩ := hw
    obtain ⟨f9, f9x⟩ := id e8
    refine xr_callV S 0 [.int l3] [] dX6_hasClearWay_18 (k_Jx4a65c_get_915e3 l (xdc X) h a7 l3 _ hw) gX6_hasClearWay_Jx4a65c_get_915e3 rfl pd_Jx4a65c_get_915e3 ⟨Nat.le_of_ble_eq_true rfl, Nat.le_of_ble_eq_true rfl⟩ rfl (Nat.le_of_ble_eq_true rfl) ⟨Nat.le_of_ble_eq_true rfl, Nat.le_of_ble_eq_true rfl⟩ f9x rfl (fun v9 h12 hv => ?_)
    obtain ⟨r10, rfl, rfl, hw⟩ := hv
    obtain ⟨q13, hrq13, hwq13⟩ := hw
    subst hrq13
    have hw := hwq13
    obtain ⟨e14, hw⟩ := hw
    obtain ⟨f15, f15x⟩ := id e14
    refine xr_cast S 2 dX6_hasClearWay_21 m_X6_hasClearWay_2 f15x rfl ?_
    refine xr_astore S [(4, .ref q13), (0, .ref l0), (1, .ref l1), (2, .int l2), (3, .int l3)] dX6_hasClearWay_24 (by decide) rfl ?_
    refine xr_aload S 0 dX6_hasClearWay_26 rfl ?_
    refine xw_getR S 2 0 dX6_hasClearWay_28 in_X6_hasClearWay_X1 rfl (by decide) (Or.inr xn_X6_133) (Or.inl rfl) hw (fun a16 hw => ?_)
    refine xw_getI S 4 2 dX6_hasClearWay_31 in_X6_hasClearWay_X3 rfl (by decide) (Or.inr xn_X6_139) (Or.inl rfl) hw (fun v17 hw => ?_)
    refine xr_aload_n S 2 dX6_hasClearWay_34 rfl ?_
    refine xw_getI S 4 2 dX6_hasClearWay_35 in_X6_hasClearWay_X3 rfl (by decide) (Or.inr xn_X6_139) (Or.inl rfl) hw (fun v18 hw => ?_)
    refine xw_icmp_ne S 46 dX6_hasClearWay_38 (by decide) hw (fun c hw => ?_) (fun c hw => ?_)
    · refine xr_bipush S (60) dX6_hasClearWay_46 (by decide) ?_
      refine xr_sub S [(0, .ref l0), (1, .ref l1), (2, .int l2), (3, .int l3), (4, .ref q13)] [1, 2, 3, 4, 0] rfl ?_
      exact k_X6_hasClearWay_48 S h l0 l1 l2 l3 q13 60 Po E rec2 hr2 hw
    · refine xr_bipush S (20) dX6_hasClearWay_41 (by decide) ?_
      refine xr_goto S (tgt := 48) dX6_hasClearWay_43 (by decide) ?_
      refine xr_sub S [(0, .ref l0), (1, .ref l1), (2, .int l2), (3, .int l3), (4, .ref q13)] [1, 2, 3, 4, 0] rfl ?_
      exact k_X6_hasClearWay_48 S h l0 l1 l2 l3 q13 20 Po E rec2 hr2 hw
def w_X6_hasClearWay (dc : Nat × Nat) (h : XH) (l0 : Nat) (l1 : Nat) (l2 : Int32) (Po : Int32 → Prop) : Prop :=
  w_X6_hasClearWay_2 dc h l0 l1 l2 Po 0
set_option maxRecDepth 100000 in
set_option maxHeartbeats 4000000 in
theorem k_X6_hasClearWay (l : Launch) (dc : Nat × Nat) (h : XH) (l0 : Nat) (l1 : Nat) (l2 : Int32) (Po : Int32 → Prop) (hw : w_X6_hasClearWay dc h l0 l1 l2 Po) : xM l dc yX6_hasClearWay wsX6_hasClearWay 3 64 0 0 [.ref l0, .ref l1, .int l2] h (xRi h Po) := by
  refine xM_of [(0, .ref l0), (1, .ref l1), (2, .int l2)] (own := RX6) (cc := cX6_hasClearWay) (nL := 6) (ret := (some .boolean)) (by decide +kernel) rfl rfl (Nat.le_of_ble_eq_true rfl) rfl ?_
  intro X V hX S E
  subst hX
  refine xr_iconst S (0) dX6_hasClearWay_0 (by decide) ?_
  refine xr_istore_n S [(3, .int 0), (0, .ref l0), (1, .ref l1), (2, .int l2)] dX6_hasClearWay_1 (by decide) rfl ?_
  refine xr_sub S [(0, .ref l0), (1, .ref l1), (2, .int l2), (3, .int 0)] [1, 2, 3, 0] rfl ?_
  exact k_X6_hasClearWay_2 S h l0 l1 l2 Po E 0 hw
theorem in_X6_waterNeed_X4 : ∀ w ∈ wsX40, w ∈ wsX6_waterNeed := by decide +kernel
theorem in_X6_waterNeed_X6 : ∀ w ∈ wsX60, w ∈ wsX6_waterNeed := by decide +kernel
theorem m_X6_waterNeed_2 : Cond.fieldLink RX6 36 "PilotBook" "margin" "I" ∈ wsX6_waterNeed := by decide +kernel
def w_X6_waterNeed (dc : Nat × Nat) (h : XH) (l0 : Nat) (l1 : Nat) (Po : Int32 → Prop) : Prop :=
  wI h l1 5 2 (fun v1 => wI h l1 5 2 (fun v2 => wDiv 10 ( wI h l0 7 6 (fun v4 => Po ((v1 + (v2 / 10)) + v4)))))
set_option maxRecDepth 100000 in
set_option maxHeartbeats 4000000 in
theorem k_X6_waterNeed (l : Launch) (dc : Nat × Nat) (h : XH) (l0 : Nat) (l1 : Nat) (Po : Int32 → Prop) (hw : w_X6_waterNeed dc h l0 l1 Po) : xM l dc yX6_waterNeed wsX6_waterNeed 0 0 0 0 [.ref l0, .ref l1] h (xRi h Po) := by
  refine xM_of [(0, .ref l0), (1, .ref l1)] (own := RX6) (cc := cX6_waterNeed) (nL := 2) (ret := (some .int)) (by decide +kernel) rfl rfl (Nat.le_of_ble_eq_true rfl) rfl ?_
  intro X V hX S E
  subst hX
  refine xr_aload_n S 1 dX6_waterNeed_0 rfl ?_
  refine xw_getI S 5 2 dX6_waterNeed_1 in_X6_waterNeed_X4 rfl (by decide) (Or.inr xn_X6_100) (Or.inl rfl) hw (fun v1 hw => ?_)
  refine xr_aload_n S 1 dX6_waterNeed_4 rfl ?_
  refine xw_getI S 5 2 dX6_waterNeed_5 in_X6_waterNeed_X4 rfl (by decide) (Or.inr xn_X6_100) (Or.inl rfl) hw (fun v2 hw => ?_)
  refine xr_bipush S (10) dX6_waterNeed_8 (by decide) ?_
  obtain ⟨hn3, hw⟩ := hw
  refine xr_idiv S dX6_waterNeed_10 hn3 ?_
  refine xr_iadd S dX6_waterNeed_11 ?_
  refine xr_aload_n S 0 dX6_waterNeed_12 rfl ?_
  refine xw_getI S 7 6 dX6_waterNeed_13 in_X6_waterNeed_X6 rfl (by decide) (Or.inl m_X6_waterNeed_2) (Or.inl rfl) hw (fun v4 hw => ?_)
  refine xr_iadd S dX6_waterNeed_16 ?_
  exact E.1 _ _ _ _ _ _ rfl dX6_waterNeed_17 ⟨_, rfl, rfl, hw⟩ (Nat.le_of_ble_eq_true rfl) (Nat.le_of_ble_eq_true rfl)
theorem in_X6_hasWater_X6 : ∀ w ∈ wsX60, w ∈ wsX6_hasWater := by decide +kernel
theorem m_X6_hasWater_1 : Cond.fieldLink RX6 12 "PilotBook" "tide" "LPilotBook$Tide;" ∈ wsX6_hasWater := by decide +kernel
def w_X6_hasWater (dc : Nat × Nat) (h : XH) (l0 : Nat) (l1 : Nat) (l2 : Int32) (l3 : Int32) (Po : Int32 → Prop) : Prop :=
  wO h l0 7 (wR h l0 7 0 (fun a1 => wO h a1 6 ( w_X5_heightAt dc h a1 l3 (fun r4 => w_X6_waterNeed dc h l0 l1 (fun r8 => wIf ((l2 + r4) < r8) (wZ 0 (Po 0)) (wZ 1 (Po 1)))))))
set_option maxRecDepth 100000 in
set_option maxHeartbeats 4000000 in
theorem k_X6_hasWater (l : Launch) (dc : Nat × Nat) (h : XH) (l0 : Nat) (l1 : Nat) (l2 : Int32) (l3 : Int32) (Po : Int32 → Prop) (hw : w_X6_hasWater dc h l0 l1 l2 l3 Po) : xM l dc yX6_hasWater wsX6_hasWater 2 47 0 0 [.ref l0, .ref l1, .int l2, .int l3] h (xRi h Po) := by
  refine xM_of [(0, .ref l0), (1, .ref l1), (2, .int l2), (3, .int l3)] (own := RX6) (cc := cX6_hasWater) (nL := 4) (ret := (some .boolean)) (by decide +kernel) rfl rfl (Nat.le_of_ble_eq_true rfl) rfl ?_
  intro X V hX S E
  subst hX
  obtain ⟨hO, hw⟩ := hw
  refine xr_iload_n S 2 dX6_hasWater_0 rfl ?_
  refine xr_aload_n S 0 dX6_hasWater_1 rfl ?_
  refine xw_getR S 7 0 dX6_hasWater_2 in_X6_hasWater_X6 rfl (by decide) (Or.inl m_X6_hasWater_1) (Or.inl rfl) hw (fun a1 hw => ?_)
  refine xr_iload_n S 3 dX6_hasWater_5 rfl ?_
  obtain ⟨e2, hw⟩ := hw
  obtain ⟨f3, f3x⟩ := id e2
  refine xr_callV S 6 [.int l3] [.int l2] dX6_hasWater_6 (k_X5_heightAt l (xdc X) h a1 l3 _ hw) gX6_hasWater_X5_heightAt rfl pd_X5_heightAt ⟨Nat.le_of_ble_eq_true rfl, Nat.le_of_ble_eq_true rfl⟩ rfl (Nat.le_of_ble_eq_true rfl) ⟨Nat.le_of_ble_eq_true rfl, Nat.le_of_ble_eq_true rfl⟩ f3x rfl (fun v9 h6 hv => ?_)
  obtain ⟨r4, rfl, rfl, hw⟩ := hv
  refine xr_iadd S dX6_hasWater_9 ?_
  refine xr_aload_n S 0 dX6_hasWater_10 rfl ?_
  refine xr_aload_n S 1 dX6_hasWater_11 rfl ?_
  obtain ⟨f7, f7x⟩ := id hO
  refine xr_callV S 7 [.ref l1] [.int (l2 + r4)] dX6_hasWater_12 (k_X6_waterNeed l (xdc X) h l0 l1 _ hw) gX6_hasWater_X6_waterNeed rfl pd_X6_waterNeed ⟨Nat.le_of_ble_eq_true rfl, Nat.le_of_ble_eq_true rfl⟩ rfl (Nat.le_of_ble_eq_true rfl) ⟨Nat.le_of_ble_eq_true rfl, Nat.le_of_ble_eq_true rfl⟩ f7x rfl (fun v9 h10 hv => ?_)
  obtain ⟨r8, rfl, rfl, hw⟩ := hv
  refine xw_icmp_lt S 22 dX6_hasWater_15 (by decide) hw (fun c hw => ?_) (fun c hw => ?_)
  · refine xr_iconst S (0) dX6_hasWater_22 (by decide) ?_
    obtain ⟨hz, hw⟩ := hw
    exact E.2.1 _ _ _ _ _ _ rfl hz dX6_hasWater_23 ⟨_, rfl, rfl, hw⟩ (Nat.le_of_ble_eq_true rfl) (Nat.le_of_ble_eq_true rfl)
  · refine xr_iconst S (1) dX6_hasWater_18 (by decide) ?_
    refine xr_goto S (tgt := 23) dX6_hasWater_19 (by decide) ?_
    obtain ⟨hz, hw⟩ := hw
    exact E.2.1 _ _ _ _ _ _ rfl hz dX6_hasWater_23 ⟨_, rfl, rfl, hw⟩ (Nat.le_of_ble_eq_true rfl) (Nat.le_of_ble_eq_true rfl)
theorem in_X6_tugsInUse_X6 : ∀ w ∈ wsX60, w ∈ wsX6_tugsInUse := by decide +kernel
theorem m_X6_tugsInUse_1 : Cond.fieldLink RX6 29 "PilotBook" "passages" "Ljava/util/ArrayList;" ∈ wsX6_tugsInUse := by decide +kernel
theorem m_X6_tugsInUse_2 : Cond.classLink RX6 134 "PilotBook$Passage" ∈ wsX6_tugsInUse := by decide +kernel
theorem in_X6_tugsInUse_X1 : ∀ w ∈ wsX10, w ∈ wsX6_tugsInUse := by decide +kernel
theorem in_X6_tugsInUse_X3 : ∀ w ∈ wsX30, w ∈ wsX6_tugsInUse := by decide +kernel
def w_X6_tugsInUse_61 (dc : Nat × Nat) (h : XH) (l0 : Nat) (l1 : Int32) (l2 : Int32) (l3 : Int32) (Po : Int32 → Prop) (rec4 : Int32 × Int32 → Prop) : Prop :=
  rec4 (l2, (l3 + 1))
set_option maxRecDepth 100000 in
set_option maxHeartbeats 4000000 in
theorem k_X6_tugsInUse_61 {V : XVT} {X : XC} {l : Launch} (S : xS V X l RX6 yX6_tugsInUse.name cX6_tugsInUse 6 wsX6_tugsInUse (xRm 3 64 0 0)) (h : XH) (l0 : Nat) (l1 : Int32) (l2 : Int32) (l3 : Int32) (Po : Int32 → Prop) (E : xEnd V cX6_tugsInUse (some .int) 0 0 (xRi h Po)) (rec4 : Int32 × Int32 → Prop) (hr4 : ∀ s : Int32 × Int32, rec4 s → V 0 0 h 4 [(0, .ref l0), (1, .int l1), (2, .int s.1), (3, .int s.2)] []) (hw : w_X6_tugsInUse_61 (xdc X) h l0 l1 l2 l3 Po rec4) : V 0 0 h 61 [(0, .ref l0), (1, .int l1), (2, .int l2), (3, .int l3)] [] := by
  refine xr_iinc S 3 ((l3 + 1)) [(3, .int (l3 + 1)), (0, .ref l0), (1, .int l1), (2, .int l2)] dX6_tugsInUse_61 rfl rfl (by decide) rfl ?_
  refine xr_goto S (tgt := 4) dX6_tugsInUse_64 (by decide) ?_
  refine xr_sub S [(0, .ref l0), (1, .int l1), (2, .int l2), (3, .int (l3 + 1))] [1, 2, 3, 0] rfl ?_
  exact hr4 (l2, (l3 + 1)) hw
def w_X6_tugsInUse_4_F (dc : Nat × Nat) (h : XH) (l0 : Nat) (l1 : Int32) (Po : Int32 → Prop) (rec4 : Int32 × Int32 → Prop) : Int32 × Int32 → Prop := fun s => match s with
  | (l2, l3) =>
  wR h l0 7 4 (fun a1 => wO h a1 0 ( w_Jx4a65c_size_8abf5 dc h a1 (fun r4 => wIf (r4 ≤ l3) (Po l2) (wR h l0 7 4 (fun a7 => wO h a7 0 ( w_Jx4a65c_get_915e3 dc h a7 l3 (fun r10 => wDer r10 (fun q13 => wO h q13 2 ( w_X1_tugsFrom dc h q13 (fun r17 => wIf (l1 < r17) (w_X6_tugsInUse_61 dc h l0 l1 l2 l3 Po rec4) (wIf ((r17 + 40) ≤ l1) (w_X6_tugsInUse_61 dc h l0 l1 l2 l3 Po rec4) (wR h q13 2 0 (fun a20 => wI h a20 4 3 (fun v21 => (w_X6_tugsInUse_61 dc h l0 l1 (l2 + v21) l3 Po rec4)))))))))))))))
def w_X6_tugsInUse_4 (dc : Nat × Nat) (h : XH) (l0 : Nat) (l1 : Int32) (Po : Int32 → Prop) : Int32 × Int32 → Prop := xloop (w_X6_tugsInUse_4_F dc h l0 l1 Po)
set_option maxRecDepth 100000 in
set_option maxHeartbeats 4000000 in
theorem k_X6_tugsInUse_4 {V : XVT} {X : XC} {l : Launch} (S : xS V X l RX6 yX6_tugsInUse.name cX6_tugsInUse 6 wsX6_tugsInUse (xRm 3 64 0 0)) (h : XH) (l0 : Nat) (l1 : Int32) (Po : Int32 → Prop) (E : xEnd V cX6_tugsInUse (some .int) 0 0 (xRi h Po)) (s0 : Int32 × Int32) (hw : w_X6_tugsInUse_4 (xdc X) h l0 l1 Po s0) : V 0 0 h 4 [(0, .ref l0), (1, .int l1), (2, .int s0.1), (3, .int s0.2)] [] := by
  refine xloop_use (P := fun s : Int32 × Int32 => V 0 0 h 4 [(0, .ref l0), (1, .int l1), (2, .int s.1), (3, .int s.2)] []) (fun rec4 hr4 s hw => ?_) hw
  obtain ⟨l2, l3⟩ := s
  try dsimp only
  refine xr_iload_n S 3 dX6_tugsInUse_4 rfl ?_
  refine xr_aload_n S 0 dX6_tugsInUse_5 rfl ?_
  refine xw_getR S 7 4 dX6_tugsInUse_6 in_X6_tugsInUse_X6 rfl (by decide) (Or.inl m_X6_tugsInUse_1) (Or.inl rfl) hw (fun a1 hw => ?_)
  obtain ⟨e2, hw⟩ := hw
  obtain ⟨f3, f3x⟩ := id e2
  refine xr_callV S 0 [] [.int l3] dX6_tugsInUse_9 (k_Jx4a65c_size_8abf5 l (xdc X) h a1 _ hw) gX6_tugsInUse_Jx4a65c_size_8abf5 rfl pd_Jx4a65c_size_8abf5 ⟨Nat.le_of_ble_eq_true rfl, Nat.le_of_ble_eq_true rfl⟩ rfl (Nat.le_of_ble_eq_true rfl) ⟨Nat.le_of_ble_eq_true rfl, Nat.le_of_ble_eq_true rfl⟩ f3x rfl (fun v9 h6 hv => ?_)
  obtain ⟨r4, rfl, rfl, hw⟩ := hv
  refine xw_icmp_ge S 67 dX6_tugsInUse_12 (by decide) hw (fun c hw => ?_) (fun c hw => ?_)
  · refine xr_iload_n S 2 dX6_tugsInUse_67 rfl ?_
    exact E.1 _ _ _ _ _ _ rfl dX6_tugsInUse_68 ⟨_, rfl, rfl, hw⟩ (Nat.le_of_ble_eq_true rfl) (Nat.le_of_ble_eq_true rfl)
  · refine xr_aload_n S 0 dX6_tugsInUse_15 rfl ?_
    refine xw_getR S 7 4 dX6_tugsInUse_16 in_X6_tugsInUse_X6 rfl (by decide) (Or.inl m_X6_tugsInUse_1) (Or.inl rfl) hw (fun a7 hw => ?_)
    refine xr_iload_n S 3 dX6_tugsInUse_19 rfl ?_
    obtain ⟨e8, hw⟩ := hw
    obtain ⟨f9, f9x⟩ := id e8
    refine xr_callV S 0 [.int l3] [] dX6_tugsInUse_20 (k_Jx4a65c_get_915e3 l (xdc X) h a7 l3 _ hw) gX6_tugsInUse_Jx4a65c_get_915e3 rfl pd_Jx4a65c_get_915e3 ⟨Nat.le_of_ble_eq_true rfl, Nat.le_of_ble_eq_true rfl⟩ rfl (Nat.le_of_ble_eq_true rfl) ⟨Nat.le_of_ble_eq_true rfl, Nat.le_of_ble_eq_true rfl⟩ f9x rfl (fun v9 h12 hv => ?_)
    obtain ⟨r10, rfl, rfl, hw⟩ := hv
    obtain ⟨q13, hrq13, hwq13⟩ := hw
    subst hrq13
    have hw := hwq13
    obtain ⟨e14, hw⟩ := hw
    obtain ⟨f15, f15x⟩ := id e14
    refine xr_cast S 2 dX6_tugsInUse_23 m_X6_tugsInUse_2 f15x rfl ?_
    refine xr_astore S [(4, .ref q13), (0, .ref l0), (1, .int l1), (2, .int l2), (3, .int l3)] dX6_tugsInUse_26 (by decide) rfl ?_
    refine xr_aload S 0 dX6_tugsInUse_28 rfl ?_
    obtain ⟨f16, f16x⟩ := id e14
    refine xr_callV S 2 [] [] dX6_tugsInUse_30 (k_X1_tugsFrom l (xdc X) h q13 _ hw) gX6_tugsInUse_X1_tugsFrom rfl pd_X1_tugsFrom ⟨Nat.le_of_ble_eq_true rfl, Nat.le_of_ble_eq_true rfl⟩ rfl (Nat.le_of_ble_eq_true rfl) ⟨Nat.le_of_ble_eq_true rfl, Nat.le_of_ble_eq_true rfl⟩ f16x rfl (fun v9 h19 hv => ?_)
    obtain ⟨r17, rfl, rfl, hw⟩ := hv
    refine xr_istore S [(5, .int r17), (4, .ref q13), (0, .ref l0), (1, .int l1), (2, .int l2), (3, .int l3)] dX6_tugsInUse_33 (by decide) rfl ?_
    refine xr_iload_n S 3 dX6_tugsInUse_35 rfl ?_
    refine xr_iload S 0 dX6_tugsInUse_36 rfl ?_
    refine xw_icmp_lt S 61 dX6_tugsInUse_38 (by decide) hw (fun c hw => ?_) (fun c hw => ?_)
    · refine xr_sub S [(0, .ref l0), (1, .int l1), (2, .int l2), (3, .int l3)] [2, 3, 4, 5] rfl ?_
      exact k_X6_tugsInUse_61 S h l0 l1 l2 l3 Po E rec4 hr4 hw
    · refine xr_iload_n S 3 dX6_tugsInUse_41 rfl ?_
      refine xr_iload S 0 dX6_tugsInUse_42 rfl ?_
      refine xr_bipush S (40) dX6_tugsInUse_44 (by decide) ?_
      refine xr_iadd S dX6_tugsInUse_46 ?_
      refine xw_icmp_ge S 61 dX6_tugsInUse_47 (by decide) hw (fun c hw => ?_) (fun c hw => ?_)
      · refine xr_sub S [(0, .ref l0), (1, .int l1), (2, .int l2), (3, .int l3)] [2, 3, 4, 5] rfl ?_
        exact k_X6_tugsInUse_61 S h l0 l1 l2 l3 Po E rec4 hr4 hw
      · refine xr_iload_n S 4 dX6_tugsInUse_50 rfl ?_
        refine xr_aload S 1 dX6_tugsInUse_51 rfl ?_
        refine xw_getR S 2 0 dX6_tugsInUse_53 in_X6_tugsInUse_X1 rfl (by decide) (Or.inr xn_X6_133) (Or.inl rfl) hw (fun a20 hw => ?_)
        refine xw_getI S 4 3 dX6_tugsInUse_56 in_X6_tugsInUse_X3 rfl (by decide) (Or.inr xn_X6_207) (Or.inl rfl) hw (fun v21 hw => ?_)
        refine xr_iadd S dX6_tugsInUse_59 ?_
        refine xr_istore_n S [(2, .int (l2 + v21)), (5, .int r17), (4, .ref q13), (0, .ref l0), (1, .int l1), (3, .int l3)] dX6_tugsInUse_60 (by decide) rfl ?_
        refine xr_sub S [(0, .ref l0), (1, .int l1), (2, .int (l2 + v21)), (3, .int l3)] [3, 4, 0, 5] rfl ?_
        exact k_X6_tugsInUse_61 S h l0 l1 (l2 + v21) l3 Po E rec4 hr4 hw
def w_X6_tugsInUse (dc : Nat × Nat) (h : XH) (l0 : Nat) (l1 : Int32) (Po : Int32 → Prop) : Prop :=
  w_X6_tugsInUse_4 dc h l0 l1 Po (0, 0)
set_option maxRecDepth 100000 in
set_option maxHeartbeats 4000000 in
theorem k_X6_tugsInUse (l : Launch) (dc : Nat × Nat) (h : XH) (l0 : Nat) (l1 : Int32) (Po : Int32 → Prop) (hw : w_X6_tugsInUse dc h l0 l1 Po) : xM l dc yX6_tugsInUse wsX6_tugsInUse 3 64 0 0 [.ref l0, .int l1] h (xRi h Po) := by
  refine xM_of [(0, .ref l0), (1, .int l1)] (own := RX6) (cc := cX6_tugsInUse) (nL := 6) (ret := (some .int)) (by decide +kernel) rfl rfl (Nat.le_of_ble_eq_true rfl) rfl ?_
  intro X V hX S E
  subst hX
  refine xr_iconst S (0) dX6_tugsInUse_0 (by decide) ?_
  refine xr_istore_n S [(2, .int 0), (0, .ref l0), (1, .int l1)] dX6_tugsInUse_1 (by decide) rfl ?_
  refine xr_iconst S (0) dX6_tugsInUse_2 (by decide) ?_
  refine xr_istore_n S [(3, .int 0), (2, .int 0), (0, .ref l0), (1, .int l1)] dX6_tugsInUse_3 (by decide) rfl ?_
  refine xr_sub S [(0, .ref l0), (1, .int l1), (2, .int 0), (3, .int 0)] [2, 3, 1, 0] rfl ?_
  exact k_X6_tugsInUse_4 S h l0 l1 Po E (0, 0) hw
