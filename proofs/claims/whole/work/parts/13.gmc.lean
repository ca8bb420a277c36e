def w_X7_earliestFor_3_F (dc : Nat × Nat) (h : XH) (l0 : Nat) (l1 : Int32) (l2 : Int32) (Po : Int32 → Prop) (rec3 : Int32 → Prop) : Int32 → Prop := fun l4 =>
  wIf (2879 < (l4 + 60)) (Po (-1)) (w_X7_canBegin dc h l0 l1 l2 l4 (fun r2 => wIf (r2 = 0) (rec3 (l4 + 1)) (Po l4)))
def w_X7_earliestFor_3 (dc : Nat × Nat) (h : XH) (l0 : Nat) (l1 : Int32) (l2 : Int32) (Po : Int32 → Prop) : Int32 → Prop := xloop (w_X7_earliestFor_3_F dc h l0 l1 l2 Po)
set_option maxRecDepth 100000 in
set_option maxHeartbeats 4000000 in
theorem k_X7_earliestFor_3 {V : XVT} {X : XC} {l : Launch} (S : xS V X l RX7 yX7_earliestFor.name cX7_earliestFor 5 wsX7_earliestFor (xRm 7 167 0 0)) (h : XH) (l0 : Nat) (l1 : Int32) (l2 : Int32) (Po : Int32 → Prop) (E : xEnd V cX7_earliestFor (some .int) 0 0 (xRi h Po)) (hO : ∃ fs, h l0 = some (.inr (8, fs))) (s0 : Int32) (hw : w_X7_earliestFor_3 (xdc X) h l0 l1 l2 Po s0) : V 0 0 h 3 [(0, .ref l0), (1, .int l1), (2, .int l2), (4, .int s0)] [] := by
  refine xloop_use (P := fun s : Int32 => V 0 0 h 3 [(0, .ref l0), (1, .int l1), (2, .int l2), (4, .int s)] []) (fun rec3 hr3 s hw => ?_) hw
  obtain ⟨l4, rfl⟩ : ∃ z, z = s := ⟨s, rfl⟩
  refine xr_iload S 3 dX7_earliestFor_3 rfl ?_
  refine xr_bipush S (60) dX7_earliestFor_5 (by decide) ?_
  refine xr_iadd S dX7_earliestFor_7 ?_
  refine xr_sipush S (2879) dX7_earliestFor_8 (by decide) ?_
  refine xw_icmp_gt S 34 dX7_earliestFor_11 (by decide) hw (fun c hw => ?_) (fun c hw => ?_)
  · refine xr_iconst S (-1) dX7_earliestFor_34 (by decide) ?_
    exact E.1 _ _ _ _ _ _ rfl dX7_earliestFor_35 ⟨_, rfl, rfl, hw⟩ (Nat.le_of_ble_eq_true rfl) (Nat.le_of_ble_eq_true rfl)
  · refine xr_aload_n S 0 dX7_earliestFor_14 rfl ?_
    refine xr_iload_n S 1 dX7_earliestFor_15 rfl ?_
    refine xr_iload_n S 2 dX7_earliestFor_16 rfl ?_
    refine xr_iload S 3 dX7_earliestFor_17 rfl ?_
    obtain ⟨f1, f1x⟩ := id hO
    refine xr_callV S 8 [.int l1, .int l2, .int l4] [] dX7_earliestFor_19 (k_X7_canBegin l (xdc X) h l0 l1 l2 l4 _ hw) gX7_earliestFor_X7_canBegin rfl pd_X7_canBegin ⟨Nat.le_of_ble_eq_true rfl, Nat.le_of_ble_eq_true rfl⟩ rfl (Nat.le_of_ble_eq_true rfl) ⟨Nat.le_of_ble_eq_true rfl, Nat.le_of_ble_eq_true rfl⟩ f1x rfl (fun v9 h4 hv => ?_)
    obtain ⟨r2, rfl, rfl, hw⟩ := hv
    refine xw_if_eq S 28 dX7_earliestFor_22 (by decide) hw (fun c hw => ?_) (fun c hw => ?_)
    · refine xr_iinc S 3 ((l4 + 1)) [(4, .int (l4 + 1)), (0, .ref l0), (1, .int l1), (2, .int l2)] dX7_earliestFor_28 rfl rfl (by decide) rfl ?_
      refine xr_goto S (tgt := 3) dX7_earliestFor_31 (by decide) ?_
      refine xr_sub S [(0, .ref l0), (1, .int l1), (2, .int l2), (4, .int (l4 + 1))] [1, 2, 3, 0] rfl ?_
      exact hr3 (l4 + 1) hw
    · refine xr_iload S 3 dX7_earliestFor_25 rfl ?_
      exact E.1 _ _ _ _ _ _ rfl dX7_earliestFor_27 ⟨_, rfl, rfl, hw⟩ (Nat.le_of_ble_eq_true rfl) (Nat.le_of_ble_eq_true rfl)
def w_X7_earliestFor (dc : Nat × Nat) (h : XH) (l0 : Nat) (l1 : Int32) (l2 : Int32) (l3 : Int32) (Po : Int32 → Prop) : Prop :=
  wO h l0 8 (w_X7_earliestFor_3 dc h l0 l1 l2 Po l3)
set_option maxRecDepth 100000 in
set_option maxHeartbeats 4000000 in
theorem k_X7_earliestFor (l : Launch) (dc : Nat × Nat) (h : XH) (l0 : Nat) (l1 : Int32) (l2 : Int32) (l3 : Int32) (Po : Int32 → Prop) (hw : w_X7_earliestFor dc h l0 l1 l2 l3 Po) : xM l dc yX7_earliestFor wsX7_earliestFor 7 167 0 0 [.ref l0, .int l1, .int l2, .int l3] h (xRi h Po) := by
  refine xM_of [(0, .ref l0), (1, .int l1), (2, .int l2), (3, .int l3)] (own := RX7) (cc := cX7_earliestFor) (nL := 5) (ret := (some .int)) (by decide +kernel) rfl rfl (Nat.le_of_ble_eq_true rfl) rfl ?_
  intro X V hX S E
  subst hX
  obtain ⟨hO, hw⟩ := hw
  refine xr_iload_n S 3 dX7_earliestFor_0 rfl ?_
  refine xr_istore S [(4, .int l3), (0, .ref l0), (1, .int l1), (2, .int l2), (3, .int l3)] dX7_earliestFor_1 (by decide) rfl ?_
  refine xr_sub S [(0, .ref l0), (1, .int l1), (2, .int l2), (4, .int l3)] [1, 2, 3, 0] rfl ?_
  exact k_X7_earliestFor_3 S h l0 l1 l2 Po E hO l3 hw
def w_X7_why_25 (dc : Nat × Nat) (h : XH) (l0 : Nat) (l3 : Int32) (Po : Int32 → Prop) : Prop :=
  w_X7_isTime dc h l3 (fun r5 => wIf (r5 = 0) (Po 2) (Po 0))
set_option maxRecDepth 100000 in
set_option maxHeartbeats 4000000 in
theorem k_X7_why_25 {V : XVT} {X : XC} {l : Launch} (S : xS V X l RX7 yX7_why.name cX7_why 4 wsX7_why (xRm 2 43 0 0)) (h : XH) (l0 : Nat) (l3 : Int32) (Po : Int32 → Prop) (E : xEnd V cX7_why (some .int) 0 0 (xRi h Po)) (hO : ∃ fs, h l0 = some (.inr (8, fs))) (hw : w_X7_why_25 (xdc X) h l0 l3 Po) : V 0 0 h 25 [(0, .ref l0), (3, .int l3)] [] := by
  refine xr_iload_n S 1 dX7_why_25 rfl ?_
  refine xr_callS S [.int l3] [] dX7_why_26 (k_X7_isTime l (xdc X) h l3 _ hw) gX7_why_X7_isTime rfl pd_X7_isTime ⟨Nat.le_of_ble_eq_true rfl, Nat.le_of_ble_eq_true rfl⟩ rfl (Nat.le_of_ble_eq_true rfl) ⟨Nat.le_of_ble_eq_true rfl, Nat.le_of_ble_eq_true rfl⟩ (fun v9 h7 hv => ?_)
  obtain ⟨r5, rfl, rfl, hw⟩ := hv
  refine xw_if_ne S 36 dX7_why_29 (by decide) hw (fun c hw => ?_) (fun c hw => ?_)
  · refine xr_iconst S (0) dX7_why_36 (by decide) ?_
    exact E.1 _ _ _ _ _ _ rfl dX7_why_37 ⟨_, rfl, rfl, hw⟩ (Nat.le_of_ble_eq_true rfl) (Nat.le_of_ble_eq_true rfl)
  · refine xr_iconst S (2) dX7_why_32 (by decide) ?_
    refine xr_goto S (tgt := 37) dX7_why_33 (by decide) ?_
    exact E.1 _ _ _ _ _ _ rfl dX7_why_37 ⟨_, rfl, rfl, hw⟩ (Nat.le_of_ble_eq_true rfl) (Nat.le_of_ble_eq_true rfl)
def w_X7_why (dc : Nat × Nat) (h : XH) (l0 : Nat) (l1 : Int32) (l2 : Int32) (l3 : Int32) (Po : Int32 → Prop) : Prop :=
  wO h l0 8 (w_X7_isShip dc h l0 l1 (fun r2 => wIf (r2 = 0) (Po 1) (wIf (l2 = (-1)) (w_X7_why_25 dc h l0 l3 Po) (w_X7_isBerth dc h l0 l2 (fun r9 => wIf (r9 = 0) (Po 1) (w_X7_why_25 dc h l0 l3 Po))))))
set_option maxRecDepth 100000 in
set_option maxHeartbeats 4000000 in
theorem k_X7_why (l : Launch) (dc : Nat × Nat) (h : XH) (l0 : Nat) (l1 : Int32) (l2 : Int32) (l3 : Int32) (Po : Int32 → Prop) (hw : w_X7_why dc h l0 l1 l2 l3 Po) : xM l dc yX7_why wsX7_why 2 43 0 0 [.ref l0, .int l1, .int l2, .int l3] h (xRi h Po) := by
  refine xM_of [(0, .ref l0), (1, .int l1), (2, .int l2), (3, .int l3)] (own := RX7) (cc := cX7_why) (nL := 4) (ret := (some .int)) (by decide +kernel) rfl rfl (Nat.le_of_ble_eq_true rfl) rfl ?_
  intro X V hX S E
  subst hX
  obtain ⟨hO, hw⟩ := hw
  refine xr_aload_n S 0 dX7_why_0 rfl ?_
  refine xr_iload_n S 1 dX7_why_1 rfl ?_
  obtain ⟨f1, f1x⟩ := id hO
  refine xr_callV S 8 [.int l1] [] dX7_why_2 (k_X7_isShip l (xdc X) h l0 l1 _ hw) gX7_why_X7_isShip rfl pd_X7_isShip ⟨Nat.le_of_ble_eq_true rfl, Nat.le_of_ble_eq_true rfl⟩ rfl (Nat.le_of_ble_eq_true rfl) ⟨Nat.le_of_ble_eq_true rfl, Nat.le_of_ble_eq_true rfl⟩ f1x rfl (fun v9 h4 hv => ?_)
  obtain ⟨r2, rfl, rfl, hw⟩ := hv
  refine xw_if_eq S 21 dX7_why_5 (by decide) hw (fun c hw => ?_) (fun c hw => ?_)
  · refine xr_iconst S (1) dX7_why_21 (by decide) ?_
    refine xr_goto S (tgt := 37) dX7_why_22 (by decide) ?_
    exact E.1 _ _ _ _ _ _ rfl dX7_why_37 ⟨_, rfl, rfl, hw⟩ (Nat.le_of_ble_eq_true rfl) (Nat.le_of_ble_eq_true rfl)
  · refine xr_iload_n S 2 dX7_why_8 rfl ?_
    refine xr_iconst S (-1) dX7_why_9 (by decide) ?_
    refine xw_icmp_eq S 25 dX7_why_10 (by decide) hw (fun c hw => ?_) (fun c hw => ?_)
    · refine xr_sub S [(0, .ref l0), (3, .int l3)] [0, 3] rfl ?_
      exact k_X7_why_25 S h l0 l3 Po E hO hw
    · refine xr_aload_n S 0 dX7_why_13 rfl ?_
      refine xr_iload_n S 2 dX7_why_14 rfl ?_
      obtain ⟨f8, f8x⟩ := id hO
      refine xr_callV S 8 [.int l2] [] dX7_why_15 (k_X7_isBerth l (xdc X) h l0 l2 _ hw) gX7_why_X7_isBerth rfl pd_X7_isBerth ⟨Nat.le_of_ble_eq_true rfl, Nat.le_of_ble_eq_true rfl⟩ rfl (Nat.le_of_ble_eq_true rfl) ⟨Nat.le_of_ble_eq_true rfl, Nat.le_of_ble_eq_true rfl⟩ f8x rfl (fun v9 h11 hv => ?_)
      obtain ⟨r9, rfl, rfl, hw⟩ := hv
      refine xw_if_ne S 25 dX7_why_18 (by decide) hw (fun c hw => ?_) (fun c hw => ?_)
      · refine xr_sub S [(0, .ref l0), (3, .int l3)] [0, 3] rfl ?_
        exact k_X7_why_25 S h l0 l3 Po E hO hw
      · refine xr_iconst S (1) dX7_why_21 (by decide) ?_
        refine xr_goto S (tgt := 37) dX7_why_22 (by decide) ?_
        exact E.1 _ _ _ _ _ _ rfl dX7_why_37 ⟨_, rfl, rfl, hw⟩ (Nat.le_of_ble_eq_true rfl) (Nat.le_of_ble_eq_true rfl)
theorem in_X7_earliest_X7 : ∀ w ∈ wsX70, w ∈ wsX7_earliest := by decide +kernel
theorem m_X7_earliest_1 : Cond.fieldLink RX7 48 "PilotBookModel" "thrown" "I" ∈ wsX7_earliest := by decide +kernel
def w_X7_earliest (dc : Nat × Nat) (h : XH) (l0 : Nat) (l1 : Int32) (l2 : Int32) (l3 : Int32) (Po : Int32 → XH → Prop) : Prop :=
  wO h l0 8 ( w_X7_why dc h l0 l1 l2 l3 (fun r3 => wP h l0 8 0 (.int r3) (fun h6 => wI h6 l0 8 0 (fun v7 => wIf (v7 = 0) (wO h6 l0 8 ( w_X7_earliestFor dc h6 l0 l1 l2 l3 (fun r10 => Po r10 h6))) (Po 0 h6)))))
set_option maxRecDepth 100000 in
set_option maxHeartbeats 4000000 in
theorem k_X7_earliest (l : Launch) (dc : Nat × Nat) (h : XH) (l0 : Nat) (l1 : Int32) (l2 : Int32) (l3 : Int32) (Po : Int32 → XH → Prop) (hw : w_X7_earliest dc h l0 l1 l2 l3 Po) : xM l dc yX7_earliest wsX7_earliest 8 191 0 0 [.ref l0, .int l1, .int l2, .int l3] h (xPi Po) := by
  refine xM_of [(0, .ref l0), (1, .int l1), (2, .int l2), (3, .int l3)] (own := RX7) (cc := cX7_earliest) (nL := 4) (ret := (some .int)) (by decide +kernel) rfl rfl (Nat.le_of_ble_eq_true rfl) rfl ?_
  intro X V hX S E
  subst hX
  refine xr_aload_n S 0 dX7_earliest_0 rfl ?_
  refine xr_aload_n S 0 dX7_earliest_1 rfl ?_
  refine xr_iload_n S 1 dX7_earliest_2 rfl ?_
  refine xr_iload_n S 2 dX7_earliest_3 rfl ?_
  refine xr_iload_n S 3 dX7_earliest_4 rfl ?_
  obtain ⟨e1, hw⟩ := hw
  obtain ⟨f2, f2x⟩ := id e1
  refine xr_callV S 8 [.int l1, .int l2, .int l3] [.ref l0] dX7_earliest_5 (k_X7_why l (xdc X) h l0 l1 l2 l3 _ hw) gX7_earliest_X7_why rfl pd_X7_why ⟨Nat.le_of_ble_eq_true rfl, Nat.le_of_ble_eq_true rfl⟩ rfl (Nat.le_of_ble_eq_true rfl) ⟨Nat.le_of_ble_eq_true rfl, Nat.le_of_ble_eq_true rfl⟩ f2x rfl (fun v9 h5 hv => ?_)
  obtain ⟨r3, rfl, rfl, hw⟩ := hv
  refine xw_put S 8 0 tyX7 dX7_earliest_8 in_X7_earliest_X7 rfl (by decide) (Or.inl m_X7_earliest_1) (Or.inl rfl) tyX7_ok nmX7 rfl rfl ⟨rfl, rfl⟩ hw (fun h6 hw => ?_)
  refine xr_aload_n S 0 dX7_earliest_11 rfl ?_
  refine xw_getI S 8 0 dX7_earliest_12 in_X7_earliest_X7 rfl (by decide) (Or.inl m_X7_earliest_1) (Or.inl rfl) hw (fun v7 hw => ?_)
  refine xw_if_ne S 28 dX7_earliest_15 (by decide) hw (fun c hw => ?_) (fun c hw => ?_)
  · refine xr_iconst S (0) dX7_earliest_28 (by decide) ?_
    exact E.1 _ _ _ _ _ _ rfl dX7_earliest_29 ⟨_, rfl, hw⟩ (Nat.le_of_ble_eq_true rfl) (Nat.le_of_ble_eq_true rfl)
  · refine xr_aload_n S 0 dX7_earliest_18 rfl ?_
    refine xr_iload_n S 1 dX7_earliest_19 rfl ?_
    refine xr_iload_n S 2 dX7_earliest_20 rfl ?_
    refine xr_iload_n S 3 dX7_earliest_21 rfl ?_
    obtain ⟨e8, hw⟩ := hw
    obtain ⟨f9, f9x⟩ := id e8
    refine xr_callV S 8 [.int l1, .int l2, .int l3] [] dX7_earliest_22 (k_X7_earliestFor l (xdc X) h6 l0 l1 l2 l3 _ hw) gX7_earliest_X7_earliestFor rfl pd_X7_earliestFor ⟨Nat.le_of_ble_eq_true rfl, Nat.le_of_ble_eq_true rfl⟩ rfl (Nat.le_of_ble_eq_true rfl) ⟨Nat.le_of_ble_eq_true rfl, Nat.le_of_ble_eq_true rfl⟩ f9x rfl (fun v9 h12 hv => ?_)
    obtain ⟨r10, rfl, rfl, hw⟩ := hv
    refine xr_goto S (tgt := 29) dX7_earliest_25 (by decide) ?_
    exact E.1 _ _ _ _ _ _ rfl dX7_earliest_29 ⟨_, rfl, hw⟩ (Nat.le_of_ble_eq_true rfl) (Nat.le_of_ble_eq_true rfl)
theorem in_X7_book_X7 : ∀ w ∈ wsX70, w ∈ wsX7_book := by decide +kernel
theorem m_X7_book_1 : Cond.fieldLink RX7 48 "PilotBookModel" "thrown" "I" ∈ wsX7_book := by decide +kernel
theorem m_X7_book_2 : Cond.fieldLink RX7 72 "PilotBookModel" "passages" "I" ∈ wsX7_book := by decide +kernel
theorem m_X7_book_3 : Cond.arrayClass .int ∈ wsX7_book := by decide +kernel
theorem m_X7_book_4 : Cond.fieldLink RX7 29 "PilotBookModel" "lengths" "[I" ∈ wsX7_book := by decide +kernel
theorem m_X7_book_5 : Cond.fieldLink RX7 45 "PilotBookModel" "table" "[I" ∈ wsX7_book := by decide +kernel
theorem m_X7_book_6 : Cond.methodLink RX7 167 arraycopyName ∈ wsX7_book := by decide +kernel
theorem m_X7_book_7 : Cond.native arraycopyName ∈ wsX7_book := by decide +kernel
theorem m_X7_book_8 : Cond.static arraycopyName ∈ wsX7_book := by decide +kernel
theorem m_X7_book_9 : Cond.initialized "java/lang/System" ∈ wsX7_book := by decide +kernel
def w_X7_book_44 (dc : Nat × Nat) (h : XH) (l0 : Nat) (Po : Int32 → XH → Prop) : Prop :=
  wO h l0 8 ( w_X7_fail dc h l0 3 (fun r15 h16 => Po r15 h16))
set_option maxRecDepth 100000 in
set_option maxHeartbeats 4000000 in
theorem k_X7_book_44 {V : XVT} {X : XC} {l : Launch} (S : xS V X l RX7 yX7_book.name cX7_book 7 wsX7_book (xRm 8 191 1 7)) (h : XH) (l0 : Nat) (Po : Int32 → XH → Prop) (E : xEnd V cX7_book (some .int) 1 7 (xPi Po)) (hw : w_X7_book_44 (xdc X) h l0 Po) : V 0 0 h 44 [(0, .ref l0)] [] := by
  refine xr_aload_n S 0 dX7_book_44 rfl ?_
  refine xr_iconst S (3) dX7_book_45 (by decide) ?_
  obtain ⟨e13, hw⟩ := hw
  obtain ⟨f14, f14x⟩ := id e13
  refine xr_callV S 8 [.int 3] [] dX7_book_46 (k_X7_fail l (xdc X) h l0 3 _ hw) gX7_book_X7_fail rfl pd_X7_fail ⟨Nat.le_of_ble_eq_true rfl, Nat.le_of_ble_eq_true rfl⟩ rfl (Nat.le_of_ble_eq_true rfl) ⟨Nat.le_of_ble_eq_true rfl, Nat.le_of_ble_eq_true rfl⟩ f14x rfl (fun v9 h16 hv => ?_)
  obtain ⟨r15, rfl, hw⟩ := hv
  exact E.1 _ _ _ _ _ _ rfl dX7_book_49 ⟨_, rfl, hw⟩ (Nat.le_of_ble_eq_true rfl) (Nat.le_of_ble_eq_true rfl)
def w_X7_book_139 (dc : Nat × Nat) (h : XH) (l0 : Nat) (l3 : Int32) (t0 : Nat) (t1 : Nat) (t2 : Int32) (t3 : Int32) (Po : Int32 → XH → Prop) : Prop :=
  wSI h 2 t1 t2 t3 (fun h38 => wSI h38 2 t0 6 l3 (fun h39 => wR h39 l0 8 17 (fun a40 => wI h39 l0 8 16 (fun v41 => wCpyI h39 2 t0 0 a40 (7 * v41) 7 (fun h42 => wI h42 l0 8 16 (fun v43 => wP h42 l0 8 16 (.int (v43 + 1)) (fun h44 => wI h44 l0 8 16 (fun v45 => Po (v45 - 1) h44))))))))
set_option maxRecDepth 100000 in
set_option maxHeartbeats 4000000 in
theorem k_X7_book_139 {V : XVT} {X : XC} {l : Launch} (S : xS V X l RX7 yX7_book.name cX7_book 7 wsX7_book (xRm 8 191 1 7)) (h : XH) (l0 : Nat) (l3 : Int32) (t0 : Nat) (t1 : Nat) (t2 : Int32) (t3 : Int32) (Po : Int32 → XH → Prop) (E : xEnd V cX7_book (some .int) 1 7 (xPi Po)) (hw : w_X7_book_139 (xdc X) h l0 l3 t0 t1 t2 t3 Po) : V 1 7 h 139 [(0, .ref l0), (3, .int l3)] [.int t3, .int t2, .ref t1, .ref t0] := by
  refine xw_iast S 2 dX7_book_139 (Or.inr rfl) hw (fun h38 hw => ?_)
  refine xr_dup S dX7_book_140 rfl ?_
  refine xr_bipush S (6) dX7_book_141 (by decide) ?_
  refine xr_iload_n S 1 dX7_book_143 rfl ?_
  refine xw_iast S 2 dX7_book_144 (Or.inr rfl) hw (fun h39 hw => ?_)
  refine xr_astore S [(6, .ref t0), (0, .ref l0), (3, .int l3)] dX7_book_145 (by decide) rfl ?_
  refine xr_aload S 0 dX7_book_147 rfl ?_
  refine xr_iconst S (0) dX7_book_149 (by decide) ?_
  refine xr_aload_n S 1 dX7_book_150 rfl ?_
  refine xw_getR S 8 17 dX7_book_151 in_X7_book_X7 rfl (by decide) (Or.inl m_X7_book_5) (Or.inl rfl) hw (fun a40 hw => ?_)
  refine xr_bipush S (7) dX7_book_154 (by decide) ?_
  refine xr_aload_n S 1 dX7_book_156 rfl ?_
  refine xw_getI S 8 16 dX7_book_157 in_X7_book_X7 rfl (by decide) (Or.inl m_X7_book_2) (Or.inl rfl) hw (fun v41 hw => ?_)
  refine xr_imul S dX7_book_160 ?_
  refine xr_bipush S (7) dX7_book_161 (by decide) ?_
  refine xw_copyi S 2 dX7_book_163 m_X7_book_6 m_X7_book_7 m_X7_book_8 m_X7_book_9 (Or.inr rfl) (Nat.le_of_ble_eq_true rfl) (Nat.le_of_ble_eq_true rfl) hw (fun h42 hw => ?_)
  refine xr_aload_n S 1 dX7_book_166 rfl ?_
  refine xr_dup S dX7_book_167 rfl ?_
  refine xw_getI S 8 16 dX7_book_168 in_X7_book_X7 rfl (by decide) (Or.inl m_X7_book_2) (Or.inl rfl) hw (fun v43 hw => ?_)
  refine xr_iconst S (1) dX7_book_171 (by decide) ?_
  refine xr_iadd S dX7_book_172 ?_
  refine xw_put S 8 16 tyX7 dX7_book_173 in_X7_book_X7 rfl (by decide) (Or.inl m_X7_book_2) (Or.inl rfl) tyX7_ok nmX7 rfl rfl ⟨rfl, rfl⟩ hw (fun h44 hw => ?_)
  refine xr_aload_n S 1 dX7_book_176 rfl ?_
  refine xw_getI S 8 16 dX7_book_177 in_X7_book_X7 rfl (by decide) (Or.inl m_X7_book_2) (Or.inl rfl) hw (fun v45 hw => ?_)
  refine xr_iconst S (1) dX7_book_180 (by decide) ?_
  refine xr_isub S dX7_book_181 ?_
  exact E.1 _ _ _ _ _ _ rfl dX7_book_182 ⟨_, rfl, hw⟩ (Nat.le_of_ble_eq_true rfl) (Nat.le_of_ble_eq_true rfl)
def w_X7_book_126 (dc : Nat × Nat) (h : XH) (l0 : Nat) (l3 : Int32) (l5 : Int32) (t0 : Nat) (t1 : Nat) (t2 : Int32) (t3 : Int32) (Po : Int32 → XH → Prop) : Prop :=
  wSI h 2 t1 t2 t3 (fun h37 => wIf (l5 = 0) (w_X7_book_139 dc h37 l0 l3 t0 t0 5 0 Po) (w_X7_book_139 dc h37 l0 l3 t0 t0 5 1 Po))
set_option maxRecDepth 100000 in
set_option maxHeartbeats 4000000 in
theorem k_X7_book_126 {V : XVT} {X : XC} {l : Launch} (S : xS V X l RX7 yX7_book.name cX7_book 7 wsX7_book (xRm 8 191 1 7)) (h : XH) (l0 : Nat) (l3 : Int32) (l5 : Int32) (t0 : Nat) (t1 : Nat) (t2 : Int32) (t3 : Int32) (Po : Int32 → XH → Prop) (E : xEnd V cX7_book (some .int) 1 7 (xPi Po)) (hw : w_X7_book_126 (xdc X) h l0 l3 l5 t0 t1 t2 t3 Po) : V 1 7 h 126 [(0, .ref l0), (3, .int l3), (5, .int l5)] [.int t3, .int t2, .ref t1, .ref t0] := by
  refine xw_iast S 2 dX7_book_126 (Or.inr rfl) hw (fun h37 hw => ?_)
  refine xr_dup S dX7_book_127 rfl ?_
  refine xr_iconst S (5) dX7_book_128 (by decide) ?_
  refine xr_iload S 2 dX7_book_129 rfl ?_
  refine xw_if_eq S 138 dX7_book_131 (by decide) hw (fun c hw => ?_) (fun c hw => ?_)
  · refine xr_iconst S (0) dX7_book_138 (by decide) ?_
    refine xr_sub S [(0, .ref l0), (3, .int l3)] [0, 1] rfl ?_
    exact k_X7_book_139 S h37 l0 l3 t0 t0 5 0 Po E hw
  · refine xr_iconst S (1) dX7_book_134 (by decide) ?_
    refine xr_goto S (tgt := 139) dX7_book_135 (by decide) ?_
    refine xr_sub S [(0, .ref l0), (3, .int l3)] [0, 1] rfl ?_
    exact k_X7_book_139 S h37 l0 l3 t0 t0 5 1 Po E hw
def w_X7_book_60 (dc : Nat × Nat) (h : XH) (l0 : Nat) (l1 : Int32) (l2 : Int32) (l3 : Int32) (l4 : Int32) (t0 : Int32) (Po : Int32 → XH → Prop) : Prop :=
  wNewI h 2 7 (fun q19 h20 => wSI h20 2 q19 0 l1 (fun h21 => wSI h21 2 q19 1 l4 (fun h22 => wR h22 l0 8 10 (fun a23 => wAI h22 2 a23 l1 (fun v24 => wO h22 l0 8 ( w_X7_pilotFor dc h22 l0 v24 t0 l4 (fun r27 => wSI h22 2 q19 2 r27 (fun h30 => wR h30 l0 8 10 (fun a31 => wAI h30 2 a31 l1 (fun v32 => w_X7_tugsFor dc h30 v32 (fun r33 => wSI h30 2 q19 3 r33 (fun h36 => wIf (t0 = 0) (w_X7_book_126 dc h36 l0 l3 t0 q19 q19 4 l2 Po) (wO h36 l0 8 ( w_X7_latest dc h36 l0 l1 (-1) (fun r48 => w_X7_get dc h36 l0 r48 4 (fun r52 => w_X7_book_126 dc h36 l0 l3 t0 q19 q19 4 r52 Po))))))))))))))))
set_option maxRecDepth 100000 in
set_option maxHeartbeats 4000000 in
theorem k_X7_book_60 {V : XVT} {X : XC} {l : Launch} (S : xS V X l RX7 yX7_book.name cX7_book 7 wsX7_book (xRm 8 191 1 7)) (h : XH) (l0 : Nat) (l1 : Int32) (l2 : Int32) (l3 : Int32) (l4 : Int32) (t0 : Int32) (Po : Int32 → XH → Prop) (E : xEnd V cX7_book (some .int) 1 7 (xPi Po)) (hw : w_X7_book_60 (xdc X) h l0 l1 l2 l3 l4 t0 Po) : V 0 0 h 60 [(0, .ref l0), (1, .int l1), (2, .int l2), (3, .int l3), (4, .int l4)] [.int t0] := by
  refine xr_istore S [(5, .int t0), (0, .ref l0), (1, .int l1), (2, .int l2), (3, .int l3), (4, .int l4)] dX7_book_60 (by decide) rfl ?_
  refine xr_bipush S (7) dX7_book_62 (by decide) ?_
  refine xr_newi S 2 dX7_book_64 (Or.inr rfl) m_X7_book_3 (by decide) (N := 7) (by decide) (by decide) (Nat.le_of_ble_eq_true rfl) (Nat.le_of_ble_eq_true rfl) (fun q19 hq => ?_)
  have hw := hw q19 hq
  generalize xup h q19 (.inl (2, 7, .inl (fun _ => 0))) = h20 at hw ⊢
  refine xr_dup S dX7_book_66 rfl ?_
  refine xr_iconst S (0) dX7_book_67 (by decide) ?_
  refine xr_iload_n S 2 dX7_book_68 rfl ?_
  refine xw_iast S 2 dX7_book_69 (Or.inr rfl) hw (fun h21 hw => ?_)
  refine xr_dup S dX7_book_70 rfl ?_
  refine xr_iconst S (1) dX7_book_71 (by decide) ?_
  refine xr_iload S 5 dX7_book_72 rfl ?_
  refine xw_iast S 2 dX7_book_74 (Or.inr rfl) hw (fun h22 hw => ?_)
  refine xr_dup S dX7_book_75 rfl ?_
  refine xr_iconst S (2) dX7_book_76 (by decide) ?_
  refine xr_aload_n S 1 dX7_book_77 rfl ?_
  refine xr_aload_n S 1 dX7_book_78 rfl ?_
  refine xw_getR S 8 10 dX7_book_79 in_X7_book_X7 rfl (by decide) (Or.inl m_X7_book_4) (Or.inl rfl) hw (fun a23 hw => ?_)
  refine xr_iload_n S 2 dX7_book_82 rfl ?_
  refine xw_iald S 2 dX7_book_83 (Or.inr rfl) hw (fun v24 hw => ?_)
  refine xr_iload S 0 dX7_book_84 rfl ?_
  refine xr_iload S 5 dX7_book_86 rfl ?_
  obtain ⟨e25, hw⟩ := hw
  obtain ⟨f26, f26x⟩ := id e25
  refine xr_callV S 8 [.int v24, .int t0, .int l4] [.int 2, .ref q19, .ref q19] dX7_book_88 (k_X7_pilotFor l (xdc X) h22 l0 v24 t0 l4 _ hw) gX7_book_X7_pilotFor rfl pd_X7_pilotFor ⟨Nat.le_of_ble_eq_true rfl, Nat.le_of_ble_eq_true rfl⟩ rfl (Nat.le_of_ble_eq_true rfl) ⟨Nat.le_of_ble_eq_true rfl, Nat.le_of_ble_eq_true rfl⟩ f26x rfl (fun v9 h29 hv => ?_)
  obtain ⟨r27, rfl, rfl, hw⟩ := hv
  refine xw_iast S 2 dX7_book_91 (Or.inr rfl) hw (fun h30 hw => ?_)
  refine xr_dup S dX7_book_92 rfl ?_
  refine xr_iconst S (3) dX7_book_93 (by decide) ?_
  refine xr_aload_n S 1 dX7_book_94 rfl ?_
  refine xw_getR S 8 10 dX7_book_95 in_X7_book_X7 rfl (by decide) (Or.inl m_X7_book_4) (Or.inl rfl) hw (fun a31 hw => ?_)
  refine xr_iload_n S 2 dX7_book_98 rfl ?_
  refine xw_iald S 2 dX7_book_99 (Or.inr rfl) hw (fun v32 hw => ?_)
  refine xr_callS S [.int v32] [.int 3, .ref q19, .ref q19] dX7_book_100 (k_X7_tugsFor l (xdc X) h30 v32 _ hw) gX7_book_X7_tugsFor rfl pd_X7_tugsFor ⟨Nat.le_of_ble_eq_true rfl, Nat.le_of_ble_eq_true rfl⟩ rfl (Nat.le_of_ble_eq_true rfl) ⟨Nat.le_of_ble_eq_true rfl, Nat.le_of_ble_eq_true rfl⟩ (fun v9 h35 hv => ?_)
  obtain ⟨r33, rfl, rfl, hw⟩ := hv
  refine xw_iast S 2 dX7_book_103 (Or.inr rfl) hw (fun h36 hw => ?_)
  refine xr_dup S dX7_book_104 rfl ?_
  refine xr_iconst S (4) dX7_book_105 (by decide) ?_
  refine xr_iload S 0 dX7_book_106 rfl ?_
  refine xw_if_eq S 125 dX7_book_108 (by decide) hw (fun c hw => ?_) (fun c hw => ?_)
  · refine xr_iload_n S 3 dX7_book_125 rfl ?_
    refine xr_sub S [(0, .ref l0), (3, .int l3), (5, .int t0)] [1, 4, 0] rfl ?_
    exact k_X7_book_126 S h36 l0 l3 t0 q19 q19 4 l2 Po E hw
  · refine xr_aload_n S 1 dX7_book_111 rfl ?_
    refine xr_aload_n S 1 dX7_book_112 rfl ?_
    refine xr_iload_n S 2 dX7_book_113 rfl ?_
    refine xr_iconst S (-1) dX7_book_114 (by decide) ?_
    obtain ⟨e46, hw⟩ := hw
    obtain ⟨f47, f47x⟩ := id e46
    refine xr_callV S 8 [.int l1, .int (-1)] [.ref l0, .int 4, .ref q19, .ref q19] dX7_book_115 (k_X7_latest l (xdc X) h36 l0 l1 (-1) _ hw) gX7_book_X7_latest rfl pd_X7_latest ⟨Nat.le_of_ble_eq_true rfl, Nat.le_of_ble_eq_true rfl⟩ rfl (Nat.le_of_ble_eq_true rfl) ⟨Nat.le_of_ble_eq_true rfl, Nat.le_of_ble_eq_true rfl⟩ f47x rfl (fun v9 h50 hv => ?_)
    obtain ⟨r48, rfl, rfl, hw⟩ := hv
    refine xr_iconst S (4) dX7_book_118 (by decide) ?_
    obtain ⟨f51, f51x⟩ := id e46
    refine xr_callV S 8 [.int r48, .int 4] [.int 4, .ref q19, .ref q19] dX7_book_119 (k_X7_get l (xdc X) h36 l0 r48 4 _ hw) gX7_book_X7_get rfl pd_X7_get ⟨Nat.le_of_ble_eq_true rfl, Nat.le_of_ble_eq_true rfl⟩ rfl (Nat.le_of_ble_eq_true rfl) ⟨Nat.le_of_ble_eq_true rfl, Nat.le_of_ble_eq_true rfl⟩ f51x rfl (fun v9 h54 hv => ?_)
    obtain ⟨r52, rfl, rfl, hw⟩ := hv
    refine xr_goto S (tgt := 126) dX7_book_122 (by decide) ?_
    refine xr_sub S [(0, .ref l0), (3, .int l3), (5, .int t0)] [1, 4, 0] rfl ?_
    exact k_X7_book_126 S h36 l0 l3 t0 q19 q19 4 r52 Po E hw
def w_X7_book (dc : Nat × Nat) (h : XH) (l0 : Nat) (l1 : Int32) (l2 : Int32) (l3 : Int32) (Po : Int32 → XH → Prop) : Prop :=
  wO h l0 8 ( w_X7_why dc h l0 l1 l2 l3 (fun r3 => wP h l0 8 0 (.int r3) (fun h6 => wI h6 l0 8 0 (fun v7 => wIf (v7 = 0) (wO h6 l0 8 ( w_X7_earliestFor dc h6 l0 l1 l2 l3 (fun r10 => wIf (r10 = (-1)) (w_X7_book_44 dc h6 l0 Po) (wI h6 l0 8 16 (fun v18 => wIf (v18 = 40) (w_X7_book_44 dc h6 l0 Po) (wIf (l2 = (-1)) (w_X7_book_60 dc h6 l0 l1 l2 l3 r10 1 Po) (w_X7_book_60 dc h6 l0 l1 l2 l3 r10 0 Po))))))) (Po 0 h6)))))
set_option maxRecDepth 100000 in
set_option maxHeartbeats 4000000 in
theorem k_X7_book (l : Launch) (dc : Nat × Nat) (h : XH) (l0 : Nat) (l1 : Int32) (l2 : Int32) (l3 : Int32) (Po : Int32 → XH → Prop) (hw : w_X7_book dc h l0 l1 l2 l3 Po) : xM l dc yX7_book wsX7_book 8 191 1 7 [.ref l0, .int l1, .int l2, .int l3] h (xPi Po) := by
  refine xM_of [(0, .ref l0), (1, .int l1), (2, .int l2), (3, .int l3)] (own := RX7) (cc := cX7_book) (nL := 7) (ret := (some .int)) (by decide +kernel) rfl rfl (Nat.le_of_ble_eq_true rfl) rfl ?_
  intro X V hX S E
  subst hX
  refine xr_aload_n S 0 dX7_book_0 rfl ?_
  refine xr_aload_n S 0 dX7_book_1 rfl ?_
  refine xr_iload_n S 1 dX7_book_2 rfl ?_
  refine xr_iload_n S 2 dX7_book_3 rfl ?_
  refine xr_iload_n S 3 dX7_book_4 rfl ?_
  obtain ⟨e1, hw⟩ := hw
  obtain ⟨f2, f2x⟩ := id e1
  refine xr_callV S 8 [.int l1, .int l2, .int l3] [.ref l0] dX7_book_5 (k_X7_why l (xdc X) h l0 l1 l2 l3 _ hw) gX7_book_X7_why rfl pd_X7_why ⟨Nat.le_of_ble_eq_true rfl, Nat.le_of_ble_eq_true rfl⟩ rfl (Nat.le_of_ble_eq_true rfl) ⟨Nat.le_of_ble_eq_true rfl, Nat.le_of_ble_eq_true rfl⟩ f2x rfl (fun v9 h5 hv => ?_)
  obtain ⟨r3, rfl, rfl, hw⟩ := hv
  refine xw_put S 8 0 tyX7 dX7_book_8 in_X7_book_X7 rfl (by decide) (Or.inl m_X7_book_1) (Or.inl rfl) tyX7_ok nmX7 rfl rfl ⟨rfl, rfl⟩ hw (fun h6 hw => ?_)
  refine xr_aload_n S 0 dX7_book_11 rfl ?_
  refine xw_getI S 8 0 dX7_book_12 in_X7_book_X7 rfl (by decide) (Or.inl m_X7_book_1) (Or.inl rfl) hw (fun v7 hw => ?_)
  refine xw_if_eq S 20 dX7_book_15 (by decide) hw (fun c hw => ?_) (fun c hw => ?_)
  · refine xr_aload_n S 0 dX7_book_20 rfl ?_
    refine xr_iload_n S 1 dX7_book_21 rfl ?_
    refine xr_iload_n S 2 dX7_book_22 rfl ?_
    refine xr_iload_n S 3 dX7_book_23 rfl ?_
    obtain ⟨e8, hw⟩ := hw
    obtain ⟨f9, f9x⟩ := id e8
    refine xr_callV S 8 [.int l1, .int l2, .int l3] [] dX7_book_24 (k_X7_earliestFor l (xdc X) h6 l0 l1 l2 l3 _ hw) gX7_book_X7_earliestFor rfl pd_X7_earliestFor ⟨Nat.le_of_ble_eq_true rfl, Nat.le_of_ble_eq_true rfl⟩ rfl (Nat.le_of_ble_eq_true rfl) ⟨Nat.le_of_ble_eq_true rfl, Nat.le_of_ble_eq_true rfl⟩ f9x rfl (fun v9 h12 hv => ?_)
    obtain ⟨r10, rfl, rfl, hw⟩ := hv
    refine xr_istore S [(4, .int r10), (0, .ref l0), (1, .int l1), (2, .int l2), (3, .int l3)] dX7_book_27 (by decide) rfl ?_
    refine xr_iload S 0 dX7_book_29 rfl ?_
    refine xr_iconst S (-1) dX7_book_31 (by decide) ?_
    refine xw_icmp_eq S 44 dX7_book_32 (by decide) hw (fun c hw => ?_) (fun c hw => ?_)
    · refine xr_sub S [(0, .ref l0)] [1] rfl ?_
      exact k_X7_book_44 S h6 l0 Po E hw
    · refine xr_aload_n S 1 dX7_book_35 rfl ?_
      refine xw_getI S 8 16 dX7_book_36 in_X7_book_X7 rfl (by decide) (Or.inl m_X7_book_2) (Or.inl rfl) hw (fun v18 hw => ?_)
      refine xr_bipush S (40) dX7_book_39 (by decide) ?_
      refine xw_icmp_ne S 50 dX7_book_41 (by decide) hw (fun c hw => ?_) (fun c hw => ?_)
      · refine xr_iload_n S 3 dX7_book_50 rfl ?_
        refine xr_iconst S (-1) dX7_book_51 (by decide) ?_
        refine xw_icmp_ne S 59 dX7_book_52 (by decide) hw (fun c hw => ?_) (fun c hw => ?_)
        · refine xr_iconst S (0) dX7_book_59 (by decide) ?_
          refine xr_sub S [(0, .ref l0), (1, .int l1), (2, .int l2), (3, .int l3), (4, .int r10)] [1, 2, 3, 4, 0] rfl ?_
          exact k_X7_book_60 S h6 l0 l1 l2 l3 r10 0 Po E hw
        · refine xr_iconst S (1) dX7_book_55 (by decide) ?_
          refine xr_goto S (tgt := 60) dX7_book_56 (by decide) ?_
          refine xr_sub S [(0, .ref l0), (1, .int l1), (2, .int l2), (3, .int l3), (4, .int r10)] [1, 2, 3, 4, 0] rfl ?_
          exact k_X7_book_60 S h6 l0 l1 l2 l3 r10 1 Po E hw
      · refine xr_sub S [(0, .ref l0)] [1] rfl ?_
        exact k_X7_book_44 S h6 l0 Po E hw
  · refine xr_iconst S (0) dX7_book_18 (by decide) ?_
    exact E.1 _ _ _ _ _ _ rfl dX7_book_19 ⟨_, rfl, hw⟩ (Nat.le_of_ble_eq_true rfl) (Nat.le_of_ble_eq_true rfl)
theorem in_X7_cancel_X7 : ∀ w ∈ wsX70, w ∈ wsX7_cancel := by decide +kernel
theorem m_X7_cancel_1 : Cond.fieldLink RX7 48 "PilotBookModel" "thrown" "I" ∈ wsX7_cancel := by decide +kernel
theorem m_X7_cancel_2 : Cond.fieldLink RX7 72 "PilotBookModel" "passages" "I" ∈ wsX7_cancel := by decide +kernel
def w_X7_cancel (dc : Nat × Nat) (h : XH) (l0 : Nat) (Po : Int32 → XH → Prop) : Prop :=
  wP h l0 8 0 (.int 0) (fun h1 => wI h1 l0 8 16 (fun v2 => wIf (v2 = 0) (wO h1 l0 8 ( w_X7_fail dc h1 l0 1 (fun r13 h14 => Po r13 h14))) (wI h1 l0 8 16 (fun v3 => wP h1 l0 8 16 (.int (v3 - 1)) (fun h4 => wI h4 l0 8 16 (fun v5 => wO h4 l0 8 ( w_X7_get dc h4 l0 v5 0 (fun r8 => Po r8 h4))))))))
set_option maxRecDepth 100000 in
set_option maxHeartbeats 4000000 in
theorem k_X7_cancel (l : Launch) (dc : Nat × Nat) (h : XH) (l0 : Nat) (Po : Int32 → XH → Prop) (hw : w_X7_cancel dc h l0 Po) : xM l dc yX7_cancel wsX7_cancel 1 22 0 0 [.ref l0] h (xPi Po) := by
  refine xM_of [(0, .ref l0)] (own := RX7) (cc := cX7_cancel) (nL := 1) (ret := (some .int)) (by decide +kernel) rfl rfl (Nat.le_of_ble_eq_true rfl) rfl ?_
  intro X V hX S E
  subst hX
  refine xr_aload_n S 0 dX7_cancel_0 rfl ?_
  refine xr_iconst S (0) dX7_cancel_1 (by decide) ?_
  refine xw_put S 8 0 tyX7 dX7_cancel_2 in_X7_cancel_X7 rfl (by decide) (Or.inl m_X7_cancel_1) (Or.inl rfl) tyX7_ok nmX7 rfl rfl ⟨rfl, rfl⟩ hw (fun h1 hw => ?_)
  refine xr_aload_n S 0 dX7_cancel_5 rfl ?_
  refine xw_getI S 8 16 dX7_cancel_6 in_X7_cancel_X7 rfl (by decide) (Or.inl m_X7_cancel_2) (Or.inl rfl) hw (fun v2 hw => ?_)
  refine xw_if_ne S 18 dX7_cancel_9 (by decide) hw (fun c hw => ?_) (fun c hw => ?_)
  · refine xr_aload_n S 0 dX7_cancel_18 rfl ?_
    refine xr_dup S dX7_cancel_19 rfl ?_
    refine xw_getI S 8 16 dX7_cancel_20 in_X7_cancel_X7 rfl (by decide) (Or.inl m_X7_cancel_2) (Or.inl rfl) hw (fun v3 hw => ?_)
    refine xr_iconst S (1) dX7_cancel_23 (by decide) ?_
    refine xr_isub S dX7_cancel_24 ?_
    refine xw_put S 8 16 tyX7 dX7_cancel_25 in_X7_cancel_X7 rfl (by decide) (Or.inl m_X7_cancel_2) (Or.inl rfl) tyX7_ok nmX7 rfl rfl ⟨rfl, rfl⟩ hw (fun h4 hw => ?_)
    refine xr_aload_n S 0 dX7_cancel_28 rfl ?_
    refine xr_aload_n S 0 dX7_cancel_29 rfl ?_
    refine xw_getI S 8 16 dX7_cancel_30 in_X7_cancel_X7 rfl (by decide) (Or.inl m_X7_cancel_2) (Or.inl rfl) hw (fun v5 hw => ?_)
    refine xr_iconst S (0) dX7_cancel_33 (by decide) ?_
    obtain ⟨e6, hw⟩ := hw
    obtain ⟨f7, f7x⟩ := id e6
    refine xr_callV S 8 [.int v5, .int 0] [] dX7_cancel_34 (k_X7_get l (xdc X) h4 l0 v5 0 _ hw) gX7_cancel_X7_get rfl pd_X7_get ⟨Nat.le_of_ble_eq_true rfl, Nat.le_of_ble_eq_true rfl⟩ rfl (Nat.le_of_ble_eq_true rfl) ⟨Nat.le_of_ble_eq_true rfl, Nat.le_of_ble_eq_true rfl⟩ f7x rfl (fun v9 h10 hv => ?_)
    obtain ⟨r8, rfl, rfl, hw⟩ := hv
    exact E.1 _ _ _ _ _ _ rfl dX7_cancel_37 ⟨_, rfl, hw⟩ (Nat.le_of_ble_eq_true rfl) (Nat.le_of_ble_eq_true rfl)
  · refine xr_aload_n S 0 dX7_cancel_12 rfl ?_
    refine xr_iconst S (1) dX7_cancel_13 (by decide) ?_
    obtain ⟨e11, hw⟩ := hw
    obtain ⟨f12, f12x⟩ := id e11
    refine xr_callV S 8 [.int 1] [] dX7_cancel_14 (k_X7_fail l (xdc X) h1 l0 1 _ hw) gX7_cancel_X7_fail rfl pd_X7_fail ⟨Nat.le_of_ble_eq_true rfl, Nat.le_of_ble_eq_true rfl⟩ rfl (Nat.le_of_ble_eq_true rfl) ⟨Nat.le_of_ble_eq_true rfl, Nat.le_of_ble_eq_true rfl⟩ f12x rfl (fun v9 h14 hv => ?_)
    obtain ⟨r13, rfl, hw⟩ := hv
    exact E.1 _ _ _ _ _ _ rfl dX7_cancel_17 ⟨_, rfl, hw⟩ (Nat.le_of_ble_eq_true rfl) (Nat.le_of_ble_eq_true rfl)
theorem in_X7_passage_X7 : ∀ w ∈ wsX70, w ∈ wsX7_passage := by decide +kernel
theorem m_X7_passage_1 : Cond.fieldLink RX7 48 "PilotBookModel" "thrown" "I" ∈ wsX7_passage := by decide +kernel
theorem m_X7_passage_2 : Cond.fieldLink RX7 72 "PilotBookModel" "passages" "I" ∈ wsX7_passage := by decide +kernel
def w_X7_passage_37 (dc : Nat × Nat) (h : XH) (l0 : Nat) (Po : Int32 → XH → Prop) : Prop :=
  wO h l0 8 ( w_X7_fail dc h l0 1 (fun r8 h9 => Po r8 h9))
set_option maxRecDepth 100000 in
set_option maxHeartbeats 4000000 in
theorem k_X7_passage_37 {V : XVT} {X : XC} {l : Launch} (S : xS V X l RX7 yX7_passage.name cX7_passage 3 wsX7_passage (xRm 1 22 0 0)) (h : XH) (l0 : Nat) (Po : Int32 → XH → Prop) (E : xEnd V cX7_passage (some .int) 0 0 (xPi Po)) (hw : w_X7_passage_37 (xdc X) h l0 Po) : V 0 0 h 37 [(0, .ref l0)] [] := by
  refine xr_aload_n S 0 dX7_passage_37 rfl ?_
  refine xr_iconst S (1) dX7_passage_38 (by decide) ?_
  obtain ⟨e6, hw⟩ := hw
  obtain ⟨f7, f7x⟩ := id e6
  refine xr_callV S 8 [.int 1] [] dX7_passage_39 (k_X7_fail l (xdc X) h l0 1 _ hw) gX7_passage_X7_fail rfl pd_X7_fail ⟨Nat.le_of_ble_eq_true rfl, Nat.le_of_ble_eq_true rfl⟩ rfl (Nat.le_of_ble_eq_true rfl) ⟨Nat.le_of_ble_eq_true rfl, Nat.le_of_ble_eq_true rfl⟩ f7x rfl (fun v9 h9 hv => ?_)
  obtain ⟨r8, rfl, hw⟩ := hv
  exact E.1 _ _ _ _ _ _ rfl dX7_passage_42 ⟨_, rfl, hw⟩ (Nat.le_of_ble_eq_true rfl) (Nat.le_of_ble_eq_true rfl)
def w_X7_passage (dc : Nat × Nat) (h : XH) (l0 : Nat) (l1 : Int32) (l2 : Int32) (Po : Int32 → XH → Prop) : Prop :=
  wP h l0 8 0 (.int 0) (fun h1 => wI h1 l0 8 16 (fun v2 => w_X7_isIn dc h1 l1 0 (v2 - 1) (fun r3 => wIf (r3 = 0) (w_X7_passage_37 dc h1 l0 Po) (w_X7_isIn dc h1 l2 0 5 (fun r11 => wIf (r11 = 0) (w_X7_passage_37 dc h1 l0 Po) (wO h1 l0 8 ( w_X7_get dc h1 l0 l1 l2 (fun r16 => Po r16 h1))))))))
set_option maxRecDepth 100000 in
set_option maxHeartbeats 4000000 in
theorem k_X7_passage (l : Launch) (dc : Nat × Nat) (h : XH) (l0 : Nat) (l1 : Int32) (l2 : Int32) (Po : Int32 → XH → Prop) (hw : w_X7_passage dc h l0 l1 l2 Po) : xM l dc yX7_passage wsX7_passage 1 22 0 0 [.ref l0, .int l1, .int l2] h (xPi Po) := by
  refine xM_of [(0, .ref l0), (1, .int l1), (2, .int l2)] (own := RX7) (cc := cX7_passage) (nL := 3) (ret := (some .int)) (by decide +kernel) rfl rfl (Nat.le_of_ble_eq_true rfl) rfl ?_
  intro X V hX S E
  subst hX
  refine xr_aload_n S 0 dX7_passage_0 rfl ?_
  refine xr_iconst S (0) dX7_passage_1 (by decide) ?_
  refine xw_put S 8 0 tyX7 dX7_passage_2 in_X7_passage_X7 rfl (by decide) (Or.inl m_X7_passage_1) (Or.inl rfl) tyX7_ok nmX7 rfl rfl ⟨rfl, rfl⟩ hw (fun h1 hw => ?_)
  refine xr_iload_n S 1 dX7_passage_5 rfl ?_
  refine xr_iconst S (0) dX7_passage_6 (by decide) ?_
  refine xr_aload_n S 0 dX7_passage_7 rfl ?_
  refine xw_getI S 8 16 dX7_passage_8 in_X7_passage_X7 rfl (by decide) (Or.inl m_X7_passage_2) (Or.inl rfl) hw (fun v2 hw => ?_)
  refine xr_iconst S (1) dX7_passage_11 (by decide) ?_
  refine xr_isub S dX7_passage_12 ?_
  refine xr_callS S [.int l1, .int 0, .int (v2 - 1)] [] dX7_passage_13 (k_X7_isIn l (xdc X) h1 l1 0 (v2 - 1) _ hw) gX7_passage_X7_isIn rfl pd_X7_isIn ⟨Nat.le_of_ble_eq_true rfl, Nat.le_of_ble_eq_true rfl⟩ rfl (Nat.le_of_ble_eq_true rfl) ⟨Nat.le_of_ble_eq_true rfl, Nat.le_of_ble_eq_true rfl⟩ (fun v9 h5 hv => ?_)
  obtain ⟨r3, rfl, rfl, hw⟩ := hv
  refine xw_if_eq S 37 dX7_passage_16 (by decide) hw (fun c hw => ?_) (fun c hw => ?_)
  · refine xr_sub S [(0, .ref l0)] [0] rfl ?_
    exact k_X7_passage_37 S h1 l0 Po E hw
  · refine xr_iload_n S 2 dX7_passage_19 rfl ?_
    refine xr_iconst S (0) dX7_passage_20 (by decide) ?_
    refine xr_iconst S (5) dX7_passage_21 (by decide) ?_
    refine xr_callS S [.int l2, .int 0, .int 5] [] dX7_passage_22 (k_X7_isIn l (xdc X) h1 l2 0 5 _ hw) gX7_passage_X7_isIn rfl pd_X7_isIn ⟨Nat.le_of_ble_eq_true rfl, Nat.le_of_ble_eq_true rfl⟩ rfl (Nat.le_of_ble_eq_true rfl) ⟨Nat.le_of_ble_eq_true rfl, Nat.le_of_ble_eq_true rfl⟩ (fun v9 h13 hv => ?_)
    obtain ⟨r11, rfl, rfl, hw⟩ := hv
    refine xw_if_eq S 37 dX7_passage_25 (by decide) hw (fun c hw => ?_) (fun c hw => ?_)
    · refine xr_sub S [(0, .ref l0)] [0] rfl ?_
      exact k_X7_passage_37 S h1 l0 Po E hw
    · refine xr_aload_n S 0 dX7_passage_28 rfl ?_
      refine xr_iload_n S 1 dX7_passage_29 rfl ?_
      refine xr_iload_n S 2 dX7_passage_30 rfl ?_
      obtain ⟨e14, hw⟩ := hw
      obtain ⟨f15, f15x⟩ := id e14
      refine xr_callV S 8 [.int l1, .int l2] [] dX7_passage_31 (k_X7_get l (xdc X) h1 l0 l1 l2 _ hw) gX7_passage_X7_get rfl pd_X7_get ⟨Nat.le_of_ble_eq_true rfl, Nat.le_of_ble_eq_true rfl⟩ rfl (Nat.le_of_ble_eq_true rfl) ⟨Nat.le_of_ble_eq_true rfl, Nat.le_of_ble_eq_true rfl⟩ f15x rfl (fun v9 h18 hv => ?_)
      obtain ⟨r16, rfl, rfl, hw⟩ := hv
      refine xr_goto S (tgt := 42) dX7_passage_34 (by decide) ?_
      exact E.1 _ _ _ _ _ _ rfl dX7_passage_42 ⟨_, rfl, hw⟩ (Nat.le_of_ble_eq_true rfl) (Nat.le_of_ble_eq_true rfl)
theorem in_X7_occupant_X7 : ∀ w ∈ wsX70, w ∈ wsX7_occupant := by decide +kernel
theorem m_X7_occupant_1 : Cond.fieldLink RX7 48 "PilotBookModel" "thrown" "I" ∈ wsX7_occupant := by decide +kernel
theorem m_X7_occupant_2 : Cond.fieldLink RX7 72 "PilotBookModel" "passages" "I" ∈ wsX7_occupant := by decide +kernel
def w_X7_occupant_85 (dc : Nat × Nat) (h : XH) (l0 : Nat) (l1 : Int32) (l2 : Int32) (l3 : Int32) (Po : Int32 → XH → Prop) (rec34 : Int32 → Prop) : Prop :=
  rec34 (l3 + 1)
set_option maxRecDepth 100000 in
set_option maxHeartbeats 4000000 in
theorem k_X7_occupant_85 {V : XVT} {X : XC} {l : Launch} (S : xS V X l RX7 yX7_occupant.name cX7_occupant 4 wsX7_occupant (xRm 3 66 0 0)) (h : XH) (l0 : Nat) (l1 : Int32) (l2 : Int32) (l3 : Int32) (Po : Int32 → XH → Prop) (E : xEnd V cX7_occupant (some .int) 0 0 (xPi Po)) (rec34 : Int32 → Prop) (hr34 : ∀ s : Int32, rec34 s → V 0 0 h 34 [(0, .ref l0), (1, .int l1), (2, .int l2), (3, .int s)] []) (hw : w_X7_occupant_85 (xdc X) h l0 l1 l2 l3 Po rec34) : V 0 0 h 85 [(0, .ref l0), (1, .int l1), (2, .int l2), (3, .int l3)] [] := by
  refine xr_iinc S 3 ((l3 + 1)) [(3, .int (l3 + 1)), (0, .ref l0), (1, .int l1), (2, .int l2)] dX7_occupant_85 rfl rfl (by decide) rfl ?_
  refine xr_goto S (tgt := 34) dX7_occupant_88 (by decide) ?_
  refine xr_sub S [(0, .ref l0), (1, .int l1), (2, .int l2), (3, .int (l3 + 1))] [1, 2, 3, 0] rfl ?_
  exact hr34 (l3 + 1) hw
def w_X7_occupant_34_F (dc : Nat × Nat) (h : XH) (l0 : Nat) (l1 : Int32) (l2 : Int32) (Po : Int32 → XH → Prop) (rec34 : Int32 → Prop) : Int32 → Prop := fun l3 =>
  wI h l0 8 16 (fun v10 => wIf (v10 ≤ l3) (Po (-1) h) (wO h l0 8 ( w_X7_isOut dc h l0 l3 (fun r13 => wIf (r13 = 0) (w_X7_get dc h l0 l3 4 (fun r17 => wIf (r17 = l1) (w_X7_begin dc h l0 l3 (fun r21 => wIf (l2 < r21) (w_X7_occupant_85 dc h l0 l1 l2 l3 Po rec34) (w_X7_leaves dc h l0 l3 (fun r25 => wIf (r25 ≤ l2) (w_X7_occupant_85 dc h l0 l1 l2 l3 Po rec34) (w_X7_get dc h l0 l3 0 (fun r29 => Po r29 h)))))) (w_X7_occupant_85 dc h l0 l1 l2 l3 Po rec34))) (w_X7_occupant_85 dc h l0 l1 l2 l3 Po rec34)))))
def w_X7_occupant_34 (dc : Nat × Nat) (h : XH) (l0 : Nat) (l1 : Int32) (l2 : Int32) (Po : Int32 → XH → Prop) : Int32 → Prop := xloop (w_X7_occupant_34_F dc h l0 l1 l2 Po)
set_option maxRecDepth 100000 in
set_option maxHeartbeats 4000000 in
theorem k_X7_occupant_34 {V : XVT} {X : XC} {l : Launch} (S : xS V X l RX7 yX7_occupant.name cX7_occupant 4 wsX7_occupant (xRm 3 66 0 0)) (h : XH) (l0 : Nat) (l1 : Int32) (l2 : Int32) (Po : Int32 → XH → Prop) (E : xEnd V cX7_occupant (some .int) 0 0 (xPi Po)) (s0 : Int32) (hw : w_X7_occupant_34 (xdc X) h l0 l1 l2 Po s0) : V 0 0 h 34 [(0, .ref l0), (1, .int l1), (2, .int l2), (3, .int s0)] [] := by
  refine xloop_use (P := fun s : Int32 => V 0 0 h 34 [(0, .ref l0), (1, .int l1), (2, .int l2), (3, .int s)] []) (fun rec34 hr34 s hw => ?_) hw
  obtain ⟨l3, rfl⟩ : ∃ z, z = s := ⟨s, rfl⟩
  refine xr_iload_n S 3 dX7_occupant_34 rfl ?_
  refine xr_aload_n S 0 dX7_occupant_35 rfl ?_
  refine xw_getI S 8 16 dX7_occupant_36 in_X7_occupant_X7 rfl (by decide) (Or.inl m_X7_occupant_2) (Or.inl rfl) hw (fun v10 hw => ?_)
  refine xw_icmp_ge S 91 dX7_occupant_39 (by decide) hw (fun c hw => ?_) (fun c hw => ?_)
  · refine xr_iconst S (-1) dX7_occupant_91 (by decide) ?_
    exact E.1 _ _ _ _ _ _ rfl dX7_occupant_92 ⟨_, rfl, hw⟩ (Nat.le_of_ble_eq_true rfl) (Nat.le_of_ble_eq_true rfl)
  · refine xr_aload_n S 0 dX7_occupant_42 rfl ?_
    refine xr_iload_n S 3 dX7_occupant_43 rfl ?_
    obtain ⟨e11, hw⟩ := hw
    obtain ⟨f12, f12x⟩ := id e11
    refine xr_callV S 8 [.int l3] [] dX7_occupant_44 (k_X7_isOut l (xdc X) h l0 l3 _ hw) gX7_occupant_X7_isOut rfl pd_X7_isOut ⟨Nat.le_of_ble_eq_true rfl, Nat.le_of_ble_eq_true rfl⟩ rfl (Nat.le_of_ble_eq_true rfl) ⟨Nat.le_of_ble_eq_true rfl, Nat.le_of_ble_eq_true rfl⟩ f12x rfl (fun v9 h15 hv => ?_)
    obtain ⟨r13, rfl, rfl, hw⟩ := hv
    refine xw_if_ne S 85 dX7_occupant_47 (by decide) hw (fun c hw => ?_) (fun c hw => ?_)
    · exact k_X7_occupant_85 S h l0 l1 l2 l3 Po E rec34 hr34 hw
    · refine xr_aload_n S 0 dX7_occupant_50 rfl ?_
      refine xr_iload_n S 3 dX7_occupant_51 rfl ?_
      refine xr_iconst S (4) dX7_occupant_52 (by decide) ?_
      obtain ⟨f16, f16x⟩ := id e11
      refine xr_callV S 8 [.int l3, .int 4] [] dX7_occupant_53 (k_X7_get l (xdc X) h l0 l3 4 _ hw) gX7_occupant_X7_get rfl pd_X7_get ⟨Nat.le_of_ble_eq_true rfl, Nat.le_of_ble_eq_true rfl⟩ rfl (Nat.le_of_ble_eq_true rfl) ⟨Nat.le_of_ble_eq_true rfl, Nat.le_of_ble_eq_true rfl⟩ f16x rfl (fun v9 h19 hv => ?_)
      obtain ⟨r17, rfl, rfl, hw⟩ := hv
      refine xr_iload_n S 1 dX7_occupant_56 rfl ?_
      refine xw_icmp_ne S 85 dX7_occupant_57 (by decide) hw (fun c hw => ?_) (fun c hw => ?_)
      · exact k_X7_occupant_85 S h l0 l1 l2 l3 Po E rec34 hr34 hw
      · refine xr_aload_n S 0 dX7_occupant_60 rfl ?_
        refine xr_iload_n S 3 dX7_occupant_61 rfl ?_
        obtain ⟨f20, f20x⟩ := id e11
        refine xr_callV S 8 [.int l3] [] dX7_occupant_62 (k_X7_begin l (xdc X) h l0 l3 _ hw) gX7_occupant_X7_begin rfl pd_X7_begin ⟨Nat.le_of_ble_eq_true rfl, Nat.le_of_ble_eq_true rfl⟩ rfl (Nat.le_of_ble_eq_true rfl) ⟨Nat.le_of_ble_eq_true rfl, Nat.le_of_ble_eq_true rfl⟩ f20x rfl (fun v9 h23 hv => ?_)
        obtain ⟨r21, rfl, rfl, hw⟩ := hv
        refine xr_iload_n S 2 dX7_occupant_65 rfl ?_
        refine xw_icmp_gt S 85 dX7_occupant_66 (by decide) hw (fun c hw => ?_) (fun c hw => ?_)
        · exact k_X7_occupant_85 S h l0 l1 l2 l3 Po E rec34 hr34 hw
        · refine xr_iload_n S 2 dX7_occupant_69 rfl ?_
          refine xr_aload_n S 0 dX7_occupant_70 rfl ?_
          refine xr_iload_n S 3 dX7_occupant_71 rfl ?_
          obtain ⟨f24, f24x⟩ := id e11
          refine xr_callV S 8 [.int l3] [.int l2] dX7_occupant_72 (k_X7_leaves l (xdc X) h l0 l3 _ hw) gX7_occupant_X7_leaves rfl pd_X7_leaves ⟨Nat.le_of_ble_eq_true rfl, Nat.le_of_ble_eq_true rfl⟩ rfl (Nat.le_of_ble_eq_true rfl) ⟨Nat.le_of_ble_eq_true rfl, Nat.le_of_ble_eq_true rfl⟩ f24x rfl (fun v9 h27 hv => ?_)
          obtain ⟨r25, rfl, rfl, hw⟩ := hv
          refine xw_icmp_ge S 85 dX7_occupant_75 (by decide) hw (fun c hw => ?_) (fun c hw => ?_)
          · exact k_X7_occupant_85 S h l0 l1 l2 l3 Po E rec34 hr34 hw
          · refine xr_aload_n S 0 dX7_occupant_78 rfl ?_
            refine xr_iload_n S 3 dX7_occupant_79 rfl ?_
            refine xr_iconst S (0) dX7_occupant_80 (by decide) ?_
            obtain ⟨f28, f28x⟩ := id e11
            refine xr_callV S 8 [.int l3, .int 0] [] dX7_occupant_81 (k_X7_get l (xdc X) h l0 l3 0 _ hw) gX7_occupant_X7_get rfl pd_X7_get ⟨Nat.le_of_ble_eq_true rfl, Nat.le_of_ble_eq_true rfl⟩ rfl (Nat.le_of_ble_eq_true rfl) ⟨Nat.le_of_ble_eq_true rfl, Nat.le_of_ble_eq_true rfl⟩ f28x rfl (fun v9 h31 hv => ?_)
            obtain ⟨r29, rfl, rfl, hw⟩ := hv
            exact E.1 _ _ _ _ _ _ rfl dX7_occupant_84 ⟨_, rfl, hw⟩ (Nat.le_of_ble_eq_true rfl) (Nat.le_of_ble_eq_true rfl)
def w_X7_occupant (dc : Nat × Nat) (h : XH) (l0 : Nat) (l1 : Int32) (l2 : Int32) (Po : Int32 → XH → Prop) : Prop :=
  wP h l0 8 0 (.int 0) (fun h1 => wO h1 l0 8 ( w_X7_isBerth dc h1 l0 l1 (fun r4 => wIf (r4 = 0) (w_X7_fail dc h1 l0 1 (fun r37 h38 => Po r37 h38)) (w_X7_isTime dc h1 l2 (fun r7 => wIf (r7 = 0) (w_X7_fail dc h1 l0 2 (fun r33 h34 => Po r33 h34)) (w_X7_occupant_34 dc h1 l0 l1 l2 Po 0))))))
set_option maxRecDepth 100000 in
set_option maxHeartbeats 4000000 in
theorem k_X7_occupant (l : Launch) (dc : Nat × Nat) (h : XH) (l0 : Nat) (l1 : Int32) (l2 : Int32) (Po : Int32 → XH → Prop) (hw : w_X7_occupant dc h l0 l1 l2 Po) : xM l dc yX7_occupant wsX7_occupant 3 66 0 0 [.ref l0, .int l1, .int l2] h (xPi Po) := by
  refine xM_of [(0, .ref l0), (1, .int l1), (2, .int l2)] (own := RX7) (cc := cX7_occupant) (nL := 4) (ret := (some .int)) (by decide +kernel) rfl rfl (Nat.le_of_ble_eq_true rfl) rfl ?_
  intro X V hX S E
  subst hX
  refine xr_aload_n S 0 dX7_occupant_0 rfl ?_
  refine xr_iconst S (0) dX7_occupant_1 (by decide) ?_
  refine xw_put S 8 0 tyX7 dX7_occupant_2 in_X7_occupant_X7 rfl (by decide) (Or.inl m_X7_occupant_1) (Or.inl rfl) tyX7_ok nmX7 rfl rfl ⟨rfl, rfl⟩ hw (fun h1 hw => ?_)
  refine xr_aload_n S 0 dX7_occupant_5 rfl ?_
  refine xr_iload_n S 1 dX7_occupant_6 rfl ?_
  obtain ⟨e2, hw⟩ := hw
  obtain ⟨f3, f3x⟩ := id e2
  refine xr_callV S 8 [.int l1] [] dX7_occupant_7 (k_X7_isBerth l (xdc X) h1 l0 l1 _ hw) gX7_occupant_X7_isBerth rfl pd_X7_isBerth ⟨Nat.le_of_ble_eq_true rfl, Nat.le_of_ble_eq_true rfl⟩ rfl (Nat.le_of_ble_eq_true rfl) ⟨Nat.le_of_ble_eq_true rfl, Nat.le_of_ble_eq_true rfl⟩ f3x rfl (fun v9 h6 hv => ?_)
  obtain ⟨r4, rfl, rfl, hw⟩ := hv
  refine xw_if_ne S 19 dX7_occupant_10 (by decide) hw (fun c hw => ?_) (fun c hw => ?_)
  · refine xr_iload_n S 2 dX7_occupant_19 rfl ?_
    refine xr_callS S [.int l2] [] dX7_occupant_20 (k_X7_isTime l (xdc X) h1 l2 _ hw) gX7_occupant_X7_isTime rfl pd_X7_isTime ⟨Nat.le_of_ble_eq_true rfl, Nat.le_of_ble_eq_true rfl⟩ rfl (Nat.le_of_ble_eq_true rfl) ⟨Nat.le_of_ble_eq_true rfl, Nat.le_of_ble_eq_true rfl⟩ (fun v9 h9 hv => ?_)
    obtain ⟨r7, rfl, rfl, hw⟩ := hv
    refine xw_if_ne S 32 dX7_occupant_23 (by decide) hw (fun c hw => ?_) (fun c hw => ?_)
    · refine xr_iconst S (0) dX7_occupant_32 (by decide) ?_
      refine xr_istore_n S [(3, .int 0), (0, .ref l0), (1, .int l1), (2, .int l2)] dX7_occupant_33 (by decide) rfl ?_
      refine xr_sub S [(0, .ref l0), (1, .int l1), (2, .int l2), (3, .int 0)] [1, 2, 3, 0] rfl ?_
      exact k_X7_occupant_34 S h1 l0 l1 l2 Po E 0 hw
    · refine xr_aload_n S 0 dX7_occupant_26 rfl ?_
      refine xr_iconst S (2) dX7_occupant_27 (by decide) ?_
      obtain ⟨f32, f32x⟩ := id e2
      refine xr_callV S 8 [.int 2] [] dX7_occupant_28 (k_X7_fail l (xdc X) h1 l0 2 _ hw) gX7_occupant_X7_fail rfl pd_X7_fail ⟨Nat.le_of_ble_eq_true rfl, Nat.le_of_ble_eq_true rfl⟩ rfl (Nat.le_of_ble_eq_true rfl) ⟨Nat.le_of_ble_eq_true rfl, Nat.le_of_ble_eq_true rfl⟩ f32x rfl (fun v9 h34 hv => ?_)
      obtain ⟨r33, rfl, hw⟩ := hv
      exact E.1 _ _ _ _ _ _ rfl dX7_occupant_31 ⟨_, rfl, hw⟩ (Nat.le_of_ble_eq_true rfl) (Nat.le_of_ble_eq_true rfl)
  · refine xr_aload_n S 0 dX7_occupant_13 rfl ?_
    refine xr_iconst S (1) dX7_occupant_14 (by decide) ?_
    obtain ⟨f36, f36x⟩ := id e2
    refine xr_callV S 8 [.int 1] [] dX7_occupant_15 (k_X7_fail l (xdc X) h1 l0 1 _ hw) gX7_occupant_X7_fail rfl pd_X7_fail ⟨Nat.le_of_ble_eq_true rfl, Nat.le_of_ble_eq_true rfl⟩ rfl (Nat.le_of_ble_eq_true rfl) ⟨Nat.le_of_ble_eq_true rfl, Nat.le_of_ble_eq_true rfl⟩ f36x rfl (fun v9 h38 hv => ?_)
    obtain ⟨r37, rfl, hw⟩ := hv
    exact E.1 _ _ _ _ _ _ rfl dX7_occupant_18 ⟨_, rfl, hw⟩ (Nat.le_of_ble_eq_true rfl) (Nat.le_of_ble_eq_true rfl)
theorem in_X7_freeTugs_X7 : ∀ w ∈ wsX70, w ∈ wsX7_freeTugs := by decide +kernel
theorem m_X7_freeTugs_1 : Cond.fieldLink RX7 48 "PilotBookModel" "thrown" "I" ∈ wsX7_freeTugs := by decide +kernel
theorem m_X7_freeTugs_2 : Cond.fieldLink RX7 42 "PilotBookModel" "tugs" "I" ∈ wsX7_freeTugs := by decide +kernel
def w_X7_freeTugs (dc : Nat × Nat) (h : XH) (l0 : Nat) (l1 : Int32) (Po : Int32 → XH → Prop) : Prop :=
  wP h l0 8 0 (.int 0) (fun h1 => w_X7_isTime dc h1 l1 (fun r2 => wIf (r2 = 0) (wO h1 l0 8 ( w_X7_fail dc h1 l0 1 (fun r7 h8 => Po r7 h8))) (wI h1 l0 8 15 (fun v10 => wO h1 l0 8 ( w_X7_tugsAt dc h1 l0 l1 (fun r13 => Po (v10 - r13) h1))))))
set_option maxRecDepth 100000 in
set_option maxHeartbeats 4000000 in
theorem k_X7_freeTugs (l : Launch) (dc : Nat × Nat) (h : XH) (l0 : Nat) (l1 : Int32) (Po : Int32 → XH → Prop) (hw : w_X7_freeTugs dc h l0 l1 Po) : xM l dc yX7_freeTugs wsX7_freeTugs 3 67 0 0 [.ref l0, .int l1] h (xPi Po) := by
  refine xM_of [(0, .ref l0), (1, .int l1)] (own := RX7) (cc := cX7_freeTugs) (nL := 2) (ret := (some .int)) (by decide +kernel) rfl rfl (Nat.le_of_ble_eq_true rfl) rfl ?_
  intro X V hX S E
  subst hX
  refine xr_aload_n S 0 dX7_freeTugs_0 rfl ?_
  refine xr_iconst S (0) dX7_freeTugs_1 (by decide) ?_
  refine xw_put S 8 0 tyX7 dX7_freeTugs_2 in_X7_freeTugs_X7 rfl (by decide) (Or.inl m_X7_freeTugs_1) (Or.inl rfl) tyX7_ok nmX7 rfl rfl ⟨rfl, rfl⟩ hw (fun h1 hw => ?_)
  refine xr_iload_n S 1 dX7_freeTugs_5 rfl ?_
  refine xr_callS S [.int l1] [] dX7_freeTugs_6 (k_X7_isTime l (xdc X) h1 l1 _ hw) gX7_freeTugs_X7_isTime rfl pd_X7_isTime ⟨Nat.le_of_ble_eq_true rfl, Nat.le_of_ble_eq_true rfl⟩ rfl (Nat.le_of_ble_eq_true rfl) ⟨Nat.le_of_ble_eq_true rfl, Nat.le_of_ble_eq_true rfl⟩ (fun v9 h4 hv => ?_)
  obtain ⟨r2, rfl, rfl, hw⟩ := hv
  refine xw_if_eq S 25 dX7_freeTugs_9 (by decide) hw (fun c hw => ?_) (fun c hw => ?_)
  · refine xr_aload_n S 0 dX7_freeTugs_25 rfl ?_
    refine xr_iconst S (1) dX7_freeTugs_26 (by decide) ?_
    obtain ⟨e5, hw⟩ := hw
    obtain ⟨f6, f6x⟩ := id e5
    refine xr_callV S 8 [.int 1] [] dX7_freeTugs_27 (k_X7_fail l (xdc X) h1 l0 1 _ hw) gX7_freeTugs_X7_fail rfl pd_X7_fail ⟨Nat.le_of_ble_eq_true rfl, Nat.le_of_ble_eq_true rfl⟩ rfl (Nat.le_of_ble_eq_true rfl) ⟨Nat.le_of_ble_eq_true rfl, Nat.le_of_ble_eq_true rfl⟩ f6x rfl (fun v9 h8 hv => ?_)
    obtain ⟨r7, rfl, hw⟩ := hv
    exact E.1 _ _ _ _ _ _ rfl dX7_freeTugs_30 ⟨_, rfl, hw⟩ (Nat.le_of_ble_eq_true rfl) (Nat.le_of_ble_eq_true rfl)
  · refine xr_aload_n S 0 dX7_freeTugs_12 rfl ?_
    refine xw_getI S 8 15 dX7_freeTugs_13 in_X7_freeTugs_X7 rfl (by decide) (Or.inl m_X7_freeTugs_2) (Or.inl rfl) hw (fun v10 hw => ?_)
    refine xr_aload_n S 0 dX7_freeTugs_16 rfl ?_
    refine xr_iload_n S 1 dX7_freeTugs_17 rfl ?_
    obtain ⟨e11, hw⟩ := hw
    obtain ⟨f12, f12x⟩ := id e11
    refine xr_callV S 8 [.int l1] [.int v10] dX7_freeTugs_18 (k_X7_tugsAt l (xdc X) h1 l0 l1 _ hw) gX7_freeTugs_X7_tugsAt rfl pd_X7_tugsAt ⟨Nat.le_of_ble_eq_true rfl, Nat.le_of_ble_eq_true rfl⟩ rfl (Nat.le_of_ble_eq_true rfl) ⟨Nat.le_of_ble_eq_true rfl, Nat.le_of_ble_eq_true rfl⟩ f12x rfl (fun v9 h15 hv => ?_)
    obtain ⟨r13, rfl, rfl, hw⟩ := hv
    refine xr_isub S dX7_freeTugs_21 ?_
    refine xr_goto S (tgt := 30) dX7_freeTugs_22 (by decide) ?_
    exact E.1 _ _ _ _ _ _ rfl dX7_freeTugs_30 ⟨_, rfl, hw⟩ (Nat.le_of_ble_eq_true rfl) (Nat.le_of_ble_eq_true rfl)
theorem in_X7_trips_X7 : ∀ w ∈ wsX70, w ∈ wsX7_trips := by decide +kernel
theorem m_X7_trips_1 : Cond.fieldLink RX7 48 "PilotBookModel" "thrown" "I" ∈ wsX7_trips := by decide +kernel
theorem m_X7_trips_2 : Cond.fieldLink RX7 81 "PilotBookModel" "pilots" "I" ∈ wsX7_trips := by decide +kernel
theorem m_X7_trips_3 : Cond.fieldLink RX7 72 "PilotBookModel" "passages" "I" ∈ wsX7_trips := by decide +kernel
def w_X7_trips_53 (dc : Nat × Nat) (h : XH) (l0 : Nat) (l1 : Int32) (l3 : Int32) (t0 : Int32) (t1 : Int32) (Po : Int32 → XH → Prop) (rec29 : Int32 × Int32 → Prop) : Prop :=
  rec29 ((t0 + t1), (l3 + 1))
set_option maxRecDepth 100000 in
set_option maxHeartbeats 4000000 in
theorem k_X7_trips_53 {V : XVT} {X : XC} {l : Launch} (S : xS V X l RX7 yX7_trips.name cX7_trips 4 wsX7_trips (xRm 1 22 0 0)) (h : XH) (l0 : Nat) (l1 : Int32) (l3 : Int32) (t0 : Int32) (t1 : Int32) (Po : Int32 → XH → Prop) (E : xEnd V cX7_trips (some .int) 0 0 (xPi Po)) (rec29 : Int32 × Int32 → Prop) (hr29 : ∀ s : Int32 × Int32, rec29 s → V 0 0 h 29 [(0, .ref l0), (1, .int l1), (2, .int s.1), (3, .int s.2)] []) (hw : w_X7_trips_53 (xdc X) h l0 l1 l3 t0 t1 Po rec29) : V 0 0 h 53 [(0, .ref l0), (1, .int l1), (3, .int l3)] [.int t1, .int t0] := by
  refine xr_iadd S dX7_trips_53 ?_
  refine xr_istore_n S [(2, .int (t0 + t1)), (0, .ref l0), (1, .int l1), (3, .int l3)] dX7_trips_54 (by decide) rfl ?_
  refine xr_iinc S 3 ((l3 + 1)) [(3, .int (l3 + 1)), (2, .int (t0 + t1)), (0, .ref l0), (1, .int l1)] dX7_trips_55 rfl rfl (by decide) rfl ?_
  refine xr_goto S (tgt := 29) dX7_trips_58 (by decide) ?_
  refine xr_sub S [(0, .ref l0), (1, .int l1), (2, .int (t0 + t1)), (3, .int (l3 + 1))] [2, 3, 1, 0] rfl ?_
  exact hr29 ((t0 + t1), (l3 + 1)) hw
def w_X7_trips_29_F (dc : Nat × Nat) (h : XH) (l0 : Nat) (l1 : Int32) (Po : Int32 → XH → Prop) (rec29 : Int32 × Int32 → Prop) : Int32 × Int32 → Prop := fun s => match s with
  | (l2, l3) =>
  wI h l0 8 16 (fun v6 => wIf (v6 ≤ l3) (Po l2 h) (wO h l0 8 ( w_X7_get dc h l0 l3 2 (fun r9 => wIf (r9 = l1) (w_X7_trips_53 dc h l0 l1 l3 l2 1 Po rec29) (w_X7_trips_53 dc h l0 l1 l3 l2 0 Po rec29)))))
def w_X7_trips_29 (dc : Nat × Nat) (h : XH) (l0 : Nat) (l1 : Int32) (Po : Int32 → XH → Prop) : Int32 × Int32 → Prop := xloop (w_X7_trips_29_F dc h l0 l1 Po)
set_option maxRecDepth 100000 in
set_option maxHeartbeats 4000000 in
theorem k_X7_trips_29 {V : XVT} {X : XC} {l : Launch} (S : xS V X l RX7 yX7_trips.name cX7_trips 4 wsX7_trips (xRm 1 22 0 0)) (h : XH) (l0 : Nat) (l1 : Int32) (Po : Int32 → XH → Prop) (E : xEnd V cX7_trips (some .int) 0 0 (xPi Po)) (s0 : Int32 × Int32) (hw : w_X7_trips_29 (xdc X) h l0 l1 Po s0) : V 0 0 h 29 [(0, .ref l0), (1, .int l1), (2, .int s0.1), (3, .int s0.2)] [] := by
  refine xloop_use (P := fun s : Int32 × Int32 => V 0 0 h 29 [(0, .ref l0), (1, .int l1), (2, .int s.1), (3, .int s.2)] []) (fun rec29 hr29 s hw => ?_) hw
  obtain ⟨l2, l3⟩ := s
  try dsimp only
  refine xr_iload_n S 3 dX7_trips_29 rfl ?_
  refine xr_aload_n S 0 dX7_trips_30 rfl ?_
  refine xw_getI S 8 16 dX7_trips_31 in_X7_trips_X7 rfl (by decide) (Or.inl m_X7_trips_3) (Or.inl rfl) hw (fun v6 hw => ?_)
  refine xw_icmp_ge S 61 dX7_trips_34 (by decide) hw (fun c hw => ?_) (fun c hw => ?_)
  · refine xr_iload_n S 2 dX7_trips_61 rfl ?_
    exact E.1 _ _ _ _ _ _ rfl dX7_trips_62 ⟨_, rfl, hw⟩ (Nat.le_of_ble_eq_true rfl) (Nat.le_of_ble_eq_true rfl)
  · refine xr_iload_n S 2 dX7_trips_37 rfl ?_
    refine xr_aload_n S 0 dX7_trips_38 rfl ?_
    refine xr_iload_n S 3 dX7_trips_39 rfl ?_
    refine xr_iconst S (2) dX7_trips_40 (by decide) ?_
    obtain ⟨e7, hw⟩ := hw
    obtain ⟨f8, f8x⟩ := id e7
    refine xr_callV S 8 [.int l3, .int 2] [.int l2] dX7_trips_41 (k_X7_get l (xdc X) h l0 l3 2 _ hw) gX7_trips_X7_get rfl pd_X7_get ⟨Nat.le_of_ble_eq_true rfl, Nat.le_of_ble_eq_true rfl⟩ rfl (Nat.le_of_ble_eq_true rfl) ⟨Nat.le_of_ble_eq_true rfl, Nat.le_of_ble_eq_true rfl⟩ f8x rfl (fun v9 h11 hv => ?_)
    obtain ⟨r9, rfl, rfl, hw⟩ := hv
    refine xr_iload_n S 1 dX7_trips_44 rfl ?_
    refine xw_icmp_ne S 52 dX7_trips_45 (by decide) hw (fun c hw => ?_) (fun c hw => ?_)
    · refine xr_iconst S (0) dX7_trips_52 (by decide) ?_
      refine xr_sub S [(0, .ref l0), (1, .int l1), (3, .int l3)] [0, 1, 3] rfl ?_
      exact k_X7_trips_53 S h l0 l1 l3 l2 0 Po E rec29 hr29 hw
    · refine xr_iconst S (1) dX7_trips_48 (by decide) ?_
      refine xr_goto S (tgt := 53) dX7_trips_49 (by decide) ?_
      refine xr_sub S [(0, .ref l0), (1, .int l1), (3, .int l3)] [0, 1, 3] rfl ?_
      exact k_X7_trips_53 S h l0 l1 l3 l2 1 Po E rec29 hr29 hw
def w_X7_trips (dc : Nat × Nat) (h : XH) (l0 : Nat) (l1 : Int32) (Po : Int32 → XH → Prop) : Prop :=
  wP h l0 8 0 (.int 0) (fun h1 => wI h1 l0 8 12 (fun v2 => w_X7_isIn dc h1 l1 0 (v2 - 1) (fun r3 => wIf (r3 = 0) (wO h1 l0 8 ( w_X7_fail dc h1 l0 1 (fun r14 h15 => Po r14 h15))) (w_X7_trips_29 dc h1 l0 l1 Po (0, 0)))))
set_option maxRecDepth 100000 in
set_option maxHeartbeats 4000000 in
theorem k_X7_trips (l : Launch) (dc : Nat × Nat) (h : XH) (l0 : Nat) (l1 : Int32) (Po : Int32 → XH → Prop) (hw : w_X7_trips dc h l0 l1 Po) : xM l dc yX7_trips wsX7_trips 1 22 0 0 [.ref l0, .int l1] h (xPi Po) := by
  refine xM_of [(0, .ref l0), (1, .int l1)] (own := RX7) (cc := cX7_trips) (nL := 4) (ret := (some .int)) (by decide +kernel) rfl rfl (Nat.le_of_ble_eq_true rfl) rfl ?_
  intro X V hX S E
  subst hX
  refine xr_aload_n S 0 dX7_trips_0 rfl ?_
  refine xr_iconst S (0) dX7_trips_1 (by decide) ?_
  refine xw_put S 8 0 tyX7 dX7_trips_2 in_X7_trips_X7 rfl (by decide) (Or.inl m_X7_trips_1) (Or.inl rfl) tyX7_ok nmX7 rfl rfl ⟨rfl, rfl⟩ hw (fun h1 hw => ?_)
  refine xr_iload_n S 1 dX7_trips_5 rfl ?_
  refine xr_iconst S (0) dX7_trips_6 (by decide) ?_
  refine xr_aload_n S 0 dX7_trips_7 rfl ?_
  refine xw_getI S 8 12 dX7_trips_8 in_X7_trips_X7 rfl (by decide) (Or.inl m_X7_trips_2) (Or.inl rfl) hw (fun v2 hw => ?_)
  refine xr_iconst S (1) dX7_trips_11 (by decide) ?_
  refine xr_isub S dX7_trips_12 ?_
  refine xr_callS S [.int l1, .int 0, .int (v2 - 1)] [] dX7_trips_13 (k_X7_isIn l (xdc X) h1 l1 0 (v2 - 1) _ hw) gX7_trips_X7_isIn rfl pd_X7_isIn ⟨Nat.le_of_ble_eq_true rfl, Nat.le_of_ble_eq_true rfl⟩ rfl (Nat.le_of_ble_eq_true rfl) ⟨Nat.le_of_ble_eq_true rfl, Nat.le_of_ble_eq_true rfl⟩ (fun v9 h5 hv => ?_)
  obtain ⟨r3, rfl, rfl, hw⟩ := hv
  refine xw_if_ne S 25 dX7_trips_16 (by decide) hw (fun c hw => ?_) (fun c hw => ?_)
  · refine xr_iconst S (0) dX7_trips_25 (by decide) ?_
    refine xr_istore_n S [(2, .int 0), (0, .ref l0), (1, .int l1)] dX7_trips_26 (by decide) rfl ?_
    refine xr_iconst S (0) dX7_trips_27 (by decide) ?_
    refine xr_istore_n S [(3, .int 0), (2, .int 0), (0, .ref l0), (1, .int l1)] dX7_trips_28 (by decide) rfl ?_
    refine xr_sub S [(0, .ref l0), (1, .int l1), (2, .int 0), (3, .int 0)] [2, 3, 1, 0] rfl ?_
    exact k_X7_trips_29 S h1 l0 l1 Po E (0, 0) hw
  · refine xr_aload_n S 0 dX7_trips_19 rfl ?_
    refine xr_iconst S (1) dX7_trips_20 (by decide) ?_
    obtain ⟨e12, hw⟩ := hw
    obtain ⟨f13, f13x⟩ := id e12
    refine xr_callV S 8 [.int 1] [] dX7_trips_21 (k_X7_fail l (xdc X) h1 l0 1 _ hw) gX7_trips_X7_fail rfl pd_X7_fail ⟨Nat.le_of_ble_eq_true rfl, Nat.le_of_ble_eq_true rfl⟩ rfl (Nat.le_of_ble_eq_true rfl) ⟨Nat.le_of_ble_eq_true rfl, Nat.le_of_ble_eq_true rfl⟩ f13x rfl (fun v9 h15 hv => ?_)
    obtain ⟨r14, rfl, hw⟩ := hv
    exact E.1 _ _ _ _ _ _ rfl dX7_trips_24 ⟨_, rfl, hw⟩ (Nat.le_of_ble_eq_true rfl) (Nat.le_of_ble_eq_true rfl)
theorem in_X7_isInPort_X7 : ∀ w ∈ wsX70, w ∈ wsX7_isInPort := by decide +kernel
theorem m_X7_isInPort_1 : Cond.fieldLink RX7 81 "PilotBookModel" "pilots" "I" ∈ wsX7_isInPort := by decide +kernel
theorem m_X7_isInPort_2 : Cond.fieldLink RX7 48 "PilotBookModel" "thrown" "I" ∈ wsX7_isInPort := by decide +kernel
def w_X7_isInPort_20 (dc : Nat × Nat) (h : XH) (l0 : Nat) (l1 : Int32) (t0 : Nat) (t1 : Int32) (Po : Int32 → XH → Prop) : Prop :=
  wP h t0 8 0 (.int t1) (fun h5 => wI h5 l0 8 0 (fun v6 => wIf (v6 = 0) (wO h5 l0 8 ( w_X7_isPortSide dc h5 l0 l1 (fun r9 => wIf (r9 = 0) (wZ 0 (Po 0 h5)) (wZ 1 (Po 1 h5))))) (wZ 0 (Po 0 h5))))
set_option maxRecDepth 100000 in
set_option maxHeartbeats 4000000 in
theorem k_X7_isInPort_20 {V : XVT} {X : XC} {l : Launch} (S : xS V X l RX7 yX7_isInPort.name cX7_isInPort 2 wsX7_isInPort (xRm 4 88 0 0)) (h : XH) (l0 : Nat) (l1 : Int32) (t0 : Nat) (t1 : Int32) (Po : Int32 → XH → Prop) (E : xEnd V cX7_isInPort (some .boolean) 0 0 (xPi Po)) (hw : w_X7_isInPort_20 (xdc X) h l0 l1 t0 t1 Po) : V 0 0 h 20 [(0, .ref l0), (1, .int l1)] [.int t1, .ref t0] := by
  refine xw_put S 8 0 tyX7 dX7_isInPort_20 in_X7_isInPort_X7 rfl (by decide) (Or.inl m_X7_isInPort_2) (Or.inl rfl) tyX7_ok nmX7 rfl rfl ⟨rfl, rfl⟩ hw (fun h5 hw => ?_)
  refine xr_aload_n S 0 dX7_isInPort_23 rfl ?_
  refine xw_getI S 8 0 dX7_isInPort_24 in_X7_isInPort_X7 rfl (by decide) (Or.inl m_X7_isInPort_2) (Or.inl rfl) hw (fun v6 hw => ?_)
  refine xw_if_ne S 42 dX7_isInPort_27 (by decide) hw (fun c hw => ?_) (fun c hw => ?_)
  · refine xr_iconst S (0) dX7_isInPort_42 (by decide) ?_
    obtain ⟨hz, hw⟩ := hw
    exact E.2.1 _ _ _ _ _ _ rfl hz dX7_isInPort_43 ⟨_, rfl, hw⟩ (Nat.le_of_ble_eq_true rfl) (Nat.le_of_ble_eq_true rfl)
  · refine xr_aload_n S 0 dX7_isInPort_30 rfl ?_
    refine xr_iload_n S 1 dX7_isInPort_31 rfl ?_
    obtain ⟨e7, hw⟩ := hw
    obtain ⟨f8, f8x⟩ := id e7
    refine xr_callV S 8 [.int l1] [] dX7_isInPort_32 (k_X7_isPortSide l (xdc X) h5 l0 l1 _ hw) gX7_isInPort_X7_isPortSide rfl pd_X7_isPortSide ⟨Nat.le_of_ble_eq_true rfl, Nat.le_of_ble_eq_true rfl⟩ rfl (Nat.le_of_ble_eq_true rfl) ⟨Nat.le_of_ble_eq_true rfl, Nat.le_of_ble_eq_true rfl⟩ f8x rfl (fun v9 h11 hv => ?_)
    obtain ⟨r9, rfl, rfl, hw⟩ := hv
    refine xw_if_eq S 42 dX7_isInPort_35 (by decide) hw (fun c hw => ?_) (fun c hw => ?_)
    · refine xr_iconst S (0) dX7_isInPort_42 (by decide) ?_
      obtain ⟨hz, hw⟩ := hw
      exact E.2.1 _ _ _ _ _ _ rfl hz dX7_isInPort_43 ⟨_, rfl, hw⟩ (Nat.le_of_ble_eq_true rfl) (Nat.le_of_ble_eq_true rfl)
    · refine xr_iconst S (1) dX7_isInPort_38 (by decide) ?_
      refine xr_goto S (tgt := 43) dX7_isInPort_39 (by decide) ?_
      obtain ⟨hz, hw⟩ := hw
      exact E.2.1 _ _ _ _ _ _ rfl hz dX7_isInPort_43 ⟨_, rfl, hw⟩ (Nat.le_of_ble_eq_true rfl) (Nat.le_of_ble_eq_true rfl)
def w_X7_isInPort (dc : Nat × Nat) (h : XH) (l0 : Nat) (l1 : Int32) (Po : Int32 → XH → Prop) : Prop :=
  wI h l0 8 12 (fun v1 => w_X7_isIn dc h l1 0 (v1 - 1) (fun r2 => wIf (r2 = 0) (w_X7_isInPort_20 dc h l0 l1 l0 1 Po) (w_X7_isInPort_20 dc h l0 l1 l0 0 Po)))
set_option maxRecDepth 100000 in
set_option maxHeartbeats 4000000 in
theorem k_X7_isInPort (l : Launch) (dc : Nat × Nat) (h : XH) (l0 : Nat) (l1 : Int32) (Po : Int32 → XH → Prop) (hw : w_X7_isInPort dc h l0 l1 Po) : xM l dc yX7_isInPort wsX7_isInPort 4 88 0 0 [.ref l0, .int l1] h (xPi Po) := by
  refine xM_of [(0, .ref l0), (1, .int l1)] (own := RX7) (cc := cX7_isInPort) (nL := 2) (ret := (some .boolean)) (by decide +kernel) rfl rfl (Nat.le_of_ble_eq_true rfl) rfl ?_
  intro X V hX S E
  subst hX
  refine xr_aload_n S 0 dX7_isInPort_0 rfl ?_
  refine xr_iload_n S 1 dX7_isInPort_1 rfl ?_
  refine xr_iconst S (0) dX7_isInPort_2 (by decide) ?_
  refine xr_aload_n S 0 dX7_isInPort_3 rfl ?_
  refine xw_getI S 8 12 dX7_isInPort_4 in_X7_isInPort_X7 rfl (by decide) (Or.inl m_X7_isInPort_1) (Or.inl rfl) hw (fun v1 hw => ?_)
  refine xr_iconst S (1) dX7_isInPort_7 (by decide) ?_
  refine xr_isub S dX7_isInPort_8 ?_
  refine xr_callS S [.int l1, .int 0, .int (v1 - 1)] [.ref l0] dX7_isInPort_9 (k_X7_isIn l (xdc X) h l1 0 (v1 - 1) _ hw) gX7_isInPort_X7_isIn rfl pd_X7_isIn ⟨Nat.le_of_ble_eq_true rfl, Nat.le_of_ble_eq_true rfl⟩ rfl (Nat.le_of_ble_eq_true rfl) ⟨Nat.le_of_ble_eq_true rfl, Nat.le_of_ble_eq_true rfl⟩ (fun v9 h4 hv => ?_)
  obtain ⟨r2, rfl, rfl, hw⟩ := hv
  refine xw_if_eq S 19 dX7_isInPort_12 (by decide) hw (fun c hw => ?_) (fun c hw => ?_)
  · refine xr_iconst S (1) dX7_isInPort_19 (by decide) ?_
    exact k_X7_isInPort_20 S h l0 l1 l0 1 Po E hw
  · refine xr_iconst S (0) dX7_isInPort_15 (by decide) ?_
    refine xr_goto S (tgt := 20) dX7_isInPort_16 (by decide) ?_
    exact k_X7_isInPort_20 S h l0 l1 l0 0 Po E hw
theorem in_X7_delay_X7 : ∀ w ∈ wsX70, w ∈ wsX7_delay := by decide +kernel
theorem m_X7_delay_1 : Cond.fieldLink RX7 48 "PilotBookModel" "thrown" "I" ∈ wsX7_delay := by decide +kernel
theorem m_X7_delay_2 : Cond.fieldLink RX7 72 "PilotBookModel" "passages" "I" ∈ wsX7_delay := by decide +kernel
def w_X7_delay_9_F (dc : Nat × Nat) (h : XH) (l0 : Nat) (Po : UInt64 → XH → Prop) (rec9 : Int32 × Int32 → Prop) : Int32 × Int32 → Prop := fun s => match s with
  | (l1, l2) =>
  wI h l0 8 16 (fun v2 => wIf (v2 ≤ l2) (wI h l0 8 16 (fun v3 => wIf (v3 = 0) (Po FP.dconst0 h) (wI h l0 8 16 (fun v4 => wDD (FP.i2d l1) (FP.i2d v4) (fun r5 => Po r5 h))))) (wO h l0 8 ( w_X7_begin dc h l0 l2 (fun r8 => w_X7_get dc h l0 l2 6 (fun r12 => rec9 ((l1 + (r8 - r12)), (l2 + 1)))))))
def w_X7_delay_9 (dc : Nat × Nat) (h : XH) (l0 : Nat) (Po : UInt64 → XH → Prop) : Int32 × Int32 → Prop := xloop (w_X7_delay_9_F dc h l0 Po)
set_option maxRecDepth 100000 in
set_option maxHeartbeats 4000000 in
theorem k_X7_delay_9 {V : XVT} {X : XC} {l : Launch} (S : xS V X l RX7 yX7_delay.name cX7_delay 3 wsX7_delay (xRm 2 43 0 0)) (DD : ∀ (cells slots : Nat) (h : XH) (pc : Nat) (lv : List (Nat × Value)) (st : List Value) (x z : UInt64), decode cX7_delay pc = .ok (.ddiv, 1) → (∀ r : UInt64, alike64 r (FP.ddiv x z) = true → V cells slots h (pc + 1) lv (.double r :: st)) → V cells slots h pc lv (.double z :: .double x :: st)) (h : XH) (l0 : Nat) (Po : UInt64 → XH → Prop) (E : xEnd V cX7_delay (some .double) 0 0 (xPd Po)) (s0 : Int32 × Int32) (hw : w_X7_delay_9 (xdc X) h l0 Po s0) : V 0 0 h 9 [(0, .ref l0), (1, .int s0.1), (2, .int s0.2)] [] := by
  refine xloop_use (P := fun s : Int32 × Int32 => V 0 0 h 9 [(0, .ref l0), (1, .int s.1), (2, .int s.2)] []) (fun rec9 hr9 s hw => ?_) hw
  obtain ⟨l1, l2⟩ := s
  try dsimp only
  refine xr_iload_n S 2 dX7_delay_9 rfl ?_
  refine xr_aload_n S 0 dX7_delay_10 rfl ?_
  refine xw_getI S 8 16 dX7_delay_11 in_X7_delay_X7 rfl (by decide) (Or.inl m_X7_delay_2) (Or.inl rfl) hw (fun v2 hw => ?_)
  refine xw_icmp_ge S 39 dX7_delay_14 (by decide) hw (fun c hw => ?_) (fun c hw => ?_)
  · refine xr_aload_n S 0 dX7_delay_39 rfl ?_
    refine xw_getI S 8 16 dX7_delay_40 in_X7_delay_X7 rfl (by decide) (Or.inl m_X7_delay_2) (Or.inl rfl) hw (fun v3 hw => ?_)
    refine xw_if_ne S 50 dX7_delay_43 (by decide) hw (fun c hw => ?_) (fun c hw => ?_)
    · refine xr_iload_n S 1 dX7_delay_50 rfl ?_
      refine xr_i2d S dX7_delay_51 ?_
      refine xr_aload_n S 0 dX7_delay_52 rfl ?_
      refine xw_getI S 8 16 dX7_delay_53 in_X7_delay_X7 rfl (by decide) (Or.inl m_X7_delay_2) (Or.inl rfl) hw (fun v4 hw => ?_)
      refine xr_i2d S dX7_delay_56 ?_
      refine DD _ _ _ _ _ _ _ _ dX7_delay_57 (fun r5 hal => ?_)
      have hw := hw r5 hal
      exact E.2.2.2.2.2 _ _ _ _ _ _ rfl dX7_delay_58 ⟨_, rfl, hw⟩ (Nat.le_of_ble_eq_true rfl) (Nat.le_of_ble_eq_true rfl)
    · refine xr_dconst0 S dX7_delay_46 ?_
      refine xr_goto S (tgt := 58) dX7_delay_47 (by decide) ?_
      exact E.2.2.2.2.2 _ _ _ _ _ _ rfl dX7_delay_58 ⟨_, rfl, hw⟩ (Nat.le_of_ble_eq_true rfl) (Nat.le_of_ble_eq_true rfl)
  · refine xr_iload_n S 1 dX7_delay_17 rfl ?_
    refine xr_aload_n S 0 dX7_delay_18 rfl ?_
    refine xr_iload_n S 2 dX7_delay_19 rfl ?_
    obtain ⟨e6, hw⟩ := hw
    obtain ⟨f7, f7x⟩ := id e6
    refine xr_callV S 8 [.int l2] [.int l1] dX7_delay_20 (k_X7_begin l (xdc X) h l0 l2 _ hw) gX7_delay_X7_begin rfl pd_X7_begin ⟨Nat.le_of_ble_eq_true rfl, Nat.le_of_ble_eq_true rfl⟩ rfl (Nat.le_of_ble_eq_true rfl) ⟨Nat.le_of_ble_eq_true rfl, Nat.le_of_ble_eq_true rfl⟩ f7x rfl (fun v9 h10 hv => ?_)
    obtain ⟨r8, rfl, rfl, hw⟩ := hv
    refine xr_aload_n S 0 dX7_delay_23 rfl ?_
    refine xr_iload_n S 2 dX7_delay_24 rfl ?_
    refine xr_bipush S (6) dX7_delay_25 (by decide) ?_
    obtain ⟨f11, f11x⟩ := id e6
    refine xr_callV S 8 [.int l2, .int 6] [.int r8, .int l1] dX7_delay_27 (k_X7_get l (xdc X) h l0 l2 6 _ hw) gX7_delay_X7_get rfl pd_X7_get ⟨Nat.le_of_ble_eq_true rfl, Nat.le_of_ble_eq_true rfl⟩ rfl (Nat.le_of_ble_eq_true rfl) ⟨Nat.le_of_ble_eq_true rfl, Nat.le_of_ble_eq_true rfl⟩ f11x rfl (fun v9 h14 hv => ?_)
    obtain ⟨r12, rfl, rfl, hw⟩ := hv
    refine xr_isub S dX7_delay_30 ?_
    refine xr_iadd S dX7_delay_31 ?_
    refine xr_istore_n S [(1, .int (l1 + (r8 - r12))), (0, .ref l0), (2, .int l2)] dX7_delay_32 (by decide) rfl ?_
    refine xr_iinc S 2 ((l2 + 1)) [(2, .int (l2 + 1)), (1, .int (l1 + (r8 - r12))), (0, .ref l0)] dX7_delay_33 rfl rfl (by decide) rfl ?_
    refine xr_goto S (tgt := 9) dX7_delay_36 (by decide) ?_
    refine xr_sub S [(0, .ref l0), (1, .int (l1 + (r8 - r12))), (2, .int (l2 + 1))] [2, 1, 0] rfl ?_
    exact hr9 ((l1 + (r8 - r12)), (l2 + 1)) hw
def w_X7_delay (dc : Nat × Nat) (h : XH) (l0 : Nat) (Po : UInt64 → XH → Prop) : Prop :=
  wP h l0 8 0 (.int 0) (fun h1 => (w_X7_delay_9 dc h1 l0 Po (0, 0)))
set_option maxRecDepth 100000 in
set_option maxHeartbeats 4000000 in
theorem k_X7_delay (l : Launch) (dc : Nat × Nat) (h : XH) (l0 : Nat) (Po : UInt64 → XH → Prop) (hw : w_X7_delay dc h l0 Po) : xMD l dc yX7_delay wsX7_delay 2 43 0 0 [.ref l0] h (xPd Po) := by
  refine xMD_of [(0, .ref l0)] (own := RX7) (cc := cX7_delay) (nL := 3) (ret := (some .double)) (by decide +kernel) rfl rfl (Nat.le_of_ble_eq_true rfl) rfl ?_
  intro X V hX S E DD
  subst hX
  refine xr_aload_n S 0 dX7_delay_0 rfl ?_
  refine xr_iconst S (0) dX7_delay_1 (by decide) ?_
  refine xw_put S 8 0 tyX7 dX7_delay_2 in_X7_delay_X7 rfl (by decide) (Or.inl m_X7_delay_1) (Or.inl rfl) tyX7_ok nmX7 rfl rfl ⟨rfl, rfl⟩ hw (fun h1 hw => ?_)
  refine xr_iconst S (0) dX7_delay_5 (by decide) ?_
  refine xr_istore_n S [(1, .int 0), (0, .ref l0)] dX7_delay_6 (by decide) rfl ?_
  refine xr_iconst S (0) dX7_delay_7 (by decide) ?_
  refine xr_istore_n S [(2, .int 0), (1, .int 0), (0, .ref l0)] dX7_delay_8 (by decide) rfl ?_
  refine xr_sub S [(0, .ref l0), (1, .int 0), (2, .int 0)] [2, 1, 0] rfl ?_
  exact k_X7_delay_9 S DD h1 l0 Po E (0, 0) hw
theorem in_X7_digest_X7 : ∀ w ∈ wsX70, w ∈ wsX7_digest := by decide +kernel
theorem m_X7_digest_1 : Cond.fieldLink RX7 48 "PilotBookModel" "thrown" "I" ∈ wsX7_digest := by decide +kernel
theorem m_X7_digest_2 : Cond.constantLong RX7 173 307 ∈ wsX7_digest := by decide +kernel
theorem m_X7_digest_3 : Cond.constantLong RX7 175 31 ∈ wsX7_digest := by decide +kernel
theorem m_X7_digest_4 : Cond.fieldLink RX7 16 "PilotBookModel" "barDepth" "I" ∈ wsX7_digest := by decide +kernel
theorem m_X7_digest_5 : Cond.fieldLink RX7 20 "PilotBookModel" "margin" "I" ∈ wsX7_digest := by decide +kernel
theorem m_X7_digest_6 : Cond.fieldLink RX7 42 "PilotBookModel" "tugs" "I" ∈ wsX7_digest := by decide +kernel
theorem m_X7_digest_7 : Cond.fieldLink RX7 55 "PilotBookModel" "ships" "I" ∈ wsX7_digest := by decide +kernel
theorem m_X7_digest_8 : Cond.fieldLink RX7 72 "PilotBookModel" "passages" "I" ∈ wsX7_digest := by decide +kernel
theorem m_X7_digest_9 : Cond.fieldLink RX7 32 "PilotBookModel" "drafts" "[I" ∈ wsX7_digest := by decide +kernel
def w_X7_digest_121_F (dc : Nat × Nat) (h : XH) (l0 : Nat) (l3 : Int32) (Po : Int64 → XH → Prop) (rec110 : Int64 × Int32 → Prop) (rec121 : Int64 × Int32 → Prop) : Int64 × Int32 → Prop := fun s => match s with
  | (l1, l4) =>
  wIf (6 ≤ l4) (rec110 (l1, (l3 + 1))) (wO h l0 8 ( w_X7_get dc h l0 l3 l4 (fun r9 => rec121 (((l1 * 31) + r9.toInt64), (l4 + 1)))))
def w_X7_digest_121 (dc : Nat × Nat) (h : XH) (l0 : Nat) (l3 : Int32) (Po : Int64 → XH → Prop) (rec110 : Int64 × Int32 → Prop) : Int64 × Int32 → Prop := xloop (w_X7_digest_121_F dc h l0 l3 Po rec110)
set_option maxRecDepth 100000 in
set_option maxHeartbeats 4000000 in
theorem k_X7_digest_121 {V : XVT} {X : XC} {l : Launch} (S : xS V X l RX7 yX7_digest.name cX7_digest 5 wsX7_digest (xRm 1 22 0 0)) (h : XH) (l0 : Nat) (l3 : Int32) (Po : Int64 → XH → Prop) (E : xEnd V cX7_digest (some .long) 0 0 (xPl Po)) (rec110 : Int64 × Int32 → Prop) (hr110 : ∀ s : Int64 × Int32, rec110 s → V 0 0 h 110 [(0, .ref l0), (1, .long s.1), (3, .int s.2)] []) (s0 : Int64 × Int32) (hw : w_X7_digest_121 (xdc X) h l0 l3 Po rec110 s0) : V 0 0 h 121 [(0, .ref l0), (1, .long s0.1), (3, .int l3), (4, .int s0.2)] [] := by
  refine xloop_use (P := fun s : Int64 × Int32 => V 0 0 h 121 [(0, .ref l0), (1, .long s.1), (3, .int l3), (4, .int s.2)] []) (fun rec121 hr121 s hw => ?_) hw
  obtain ⟨l1, l4⟩ := s
  try dsimp only
  refine xr_iload S 3 dX7_digest_121 rfl ?_
  refine xr_bipush S (6) dX7_digest_123 (by decide) ?_
  refine xw_icmp_ge S 149 dX7_digest_125 (by decide) hw (fun c hw => ?_) (fun c hw => ?_)
  · refine xr_iinc S 2 ((l3 + 1)) [(3, .int (l3 + 1)), (0, .ref l0), (1, .long l1), (4, .int l4)] dX7_digest_149 rfl rfl (by decide) rfl ?_
    refine xr_goto S (tgt := 110) dX7_digest_152 (by decide) ?_
    refine xr_sub S [(0, .ref l0), (1, .long l1), (3, .int (l3 + 1))] [1, 2, 0] rfl ?_
    exact hr110 (l1, (l3 + 1)) hw
  · refine xr_lload_n S 1 dX7_digest_128 rfl ?_
    refine xr_ldc2 S 31 dX7_digest_129 m_X7_digest_3 ?_
    refine xr_lmul S dX7_digest_132 ?_
    refine xr_aload_n S 0 dX7_digest_133 rfl ?_
    refine xr_iload_n S 2 dX7_digest_134 rfl ?_
    refine xr_iload S 3 dX7_digest_135 rfl ?_
    obtain ⟨e7, hw⟩ := hw
    obtain ⟨f8, f8x⟩ := id e7
    refine xr_callV S 8 [.int l3, .int l4] [.long (l1 * 31)] dX7_digest_137 (k_X7_get l (xdc X) h l0 l3 l4 _ hw) gX7_digest_X7_get rfl pd_X7_get ⟨Nat.le_of_ble_eq_true rfl, Nat.le_of_ble_eq_true rfl⟩ rfl (Nat.le_of_ble_eq_true rfl) ⟨Nat.le_of_ble_eq_true rfl, Nat.le_of_ble_eq_true rfl⟩ f8x rfl (fun v9 h11 hv => ?_)
    obtain ⟨r9, rfl, rfl, hw⟩ := hv
    refine xr_i2l S dX7_digest_140 ?_
    refine xr_ladd S dX7_digest_141 ?_
    refine xr_lstore_n S [(1, .long ((l1 * 31) + r9.toInt64)), (0, .ref l0), (3, .int l3), (4, .int l4)] dX7_digest_142 (by decide) rfl ?_
    refine xr_iinc S 3 ((l4 + 1)) [(4, .int (l4 + 1)), (1, .long ((l1 * 31) + r9.toInt64)), (0, .ref l0), (3, .int l3)] dX7_digest_143 rfl rfl (by decide) rfl ?_
    refine xr_goto S (tgt := 121) dX7_digest_146 (by decide) ?_
    refine xr_sub S [(0, .ref l0), (1, .long ((l1 * 31) + r9.toInt64)), (3, .int l3), (4, .int (l4 + 1))] [2, 1, 3, 0] rfl ?_
    exact hr121 (((l1 * 31) + r9.toInt64), (l4 + 1)) hw
def w_X7_digest_110_F (dc : Nat × Nat) (h : XH) (l0 : Nat) (Po : Int64 → XH → Prop) (rec110 : Int64 × Int32 → Prop) : Int64 × Int32 → Prop := fun s => match s with
  | (l1, l3) =>
  wI h l0 8 16 (fun v6 => wIf (v6 ≤ l3) (Po l1 h) (w_X7_digest_121 dc h l0 l3 Po rec110 (l1, 0)))
def w_X7_digest_110 (dc : Nat × Nat) (h : XH) (l0 : Nat) (Po : Int64 → XH → Prop) : Int64 × Int32 → Prop := xloop (w_X7_digest_110_F dc h l0 Po)
set_option maxRecDepth 100000 in
set_option maxHeartbeats 4000000 in
theorem k_X7_digest_110 {V : XVT} {X : XC} {l : Launch} (S : xS V X l RX7 yX7_digest.name cX7_digest 5 wsX7_digest (xRm 1 22 0 0)) (h : XH) (l0 : Nat) (Po : Int64 → XH → Prop) (E : xEnd V cX7_digest (some .long) 0 0 (xPl Po)) (s0 : Int64 × Int32) (hw : w_X7_digest_110 (xdc X) h l0 Po s0) : V 0 0 h 110 [(0, .ref l0), (1, .long s0.1), (3, .int s0.2)] [] := by
  refine xloop_use (P := fun s : Int64 × Int32 => V 0 0 h 110 [(0, .ref l0), (1, .long s.1), (3, .int s.2)] []) (fun rec110 hr110 s hw => ?_) hw
  obtain ⟨l1, l3⟩ := s
  try dsimp only
  refine xr_iload_n S 2 dX7_digest_110 rfl ?_
  refine xr_aload_n S 0 dX7_digest_111 rfl ?_
  refine xw_getI S 8 16 dX7_digest_112 in_X7_digest_X7 rfl (by decide) (Or.inl m_X7_digest_8) (Or.inl rfl) hw (fun v6 hw => ?_)
  refine xw_icmp_ge S 155 dX7_digest_115 (by decide) hw (fun c hw => ?_) (fun c hw => ?_)
  · refine xr_lload_n S 1 dX7_digest_155 rfl ?_
    exact E.2.2.2.2.1 _ _ _ _ _ _ rfl dX7_digest_156 ⟨_, rfl, hw⟩ (Nat.le_of_ble_eq_true rfl) (Nat.le_of_ble_eq_true rfl)
  · refine xr_iconst S (0) dX7_digest_118 (by decide) ?_
    refine xr_istore S [(4, .int 0), (0, .ref l0), (1, .long l1), (3, .int l3)] dX7_digest_119 (by decide) rfl ?_
    refine xr_sub S [(0, .ref l0), (1, .long l1), (3, .int l3), (4, .int 0)] [1, 2, 3, 0] rfl ?_
    exact k_X7_digest_121 S h l0 l3 Po E rec110 hr110 (l1, 0) hw
def w_X7_digest_69_F (dc : Nat × Nat) (h : XH) (l0 : Nat) (Po : Int64 → XH → Prop) (rec69 : Int64 × Int32 → Prop) : Int64 × Int32 → Prop := fun s => match s with
  | (l1, l3) =>
  wI h l0 8 9 (fun v5 => wIf (v5 ≤ l3) (w_X7_digest_110 dc h l0 Po (l1, 0)) (wR h l0 8 11 (fun a12 => wAI h 2 a12 l3 (fun v13 => wO h l0 8 ( w_X7_needOf dc h l0 l3 (fun r16 => rec69 (((((l1 * 31) + v13.toInt64) * 31) + r16.toInt64), (l3 + 1))))))))
def w_X7_digest_69 (dc : Nat × Nat) (h : XH) (l0 : Nat) (Po : Int64 → XH → Prop) : Int64 × Int32 → Prop := xloop (w_X7_digest_69_F dc h l0 Po)
set_option maxRecDepth 100000 in
set_option maxHeartbeats 4000000 in
theorem k_X7_digest_69 {V : XVT} {X : XC} {l : Launch} (S : xS V X l RX7 yX7_digest.name cX7_digest 5 wsX7_digest (xRm 1 22 0 0)) (h : XH) (l0 : Nat) (Po : Int64 → XH → Prop) (E : xEnd V cX7_digest (some .long) 0 0 (xPl Po)) (s0 : Int64 × Int32) (hw : w_X7_digest_69 (xdc X) h l0 Po s0) : V 0 0 h 69 [(0, .ref l0), (1, .long s0.1), (3, .int s0.2)] [] := by
  refine xloop_use (P := fun s : Int64 × Int32 => V 0 0 h 69 [(0, .ref l0), (1, .long s.1), (3, .int s.2)] []) (fun rec69 hr69 s hw => ?_) hw
  obtain ⟨l1, l3⟩ := s
  try dsimp only
  refine xr_iload_n S 2 dX7_digest_69 rfl ?_
  refine xr_aload_n S 0 dX7_digest_70 rfl ?_
  refine xw_getI S 8 9 dX7_digest_71 in_X7_digest_X7 rfl (by decide) (Or.inl m_X7_digest_7) (Or.inl rfl) hw (fun v5 hw => ?_)
  refine xw_icmp_ge S 108 dX7_digest_74 (by decide) hw (fun c hw => ?_) (fun c hw => ?_)
  · refine xr_iconst S (0) dX7_digest_108 (by decide) ?_
    refine xr_istore_n S [(3, .int 0), (0, .ref l0), (1, .long l1)] dX7_digest_109 (by decide) rfl ?_
    refine xr_sub S [(0, .ref l0), (1, .long l1), (3, .int 0)] [1, 2, 0] rfl ?_
    exact k_X7_digest_110 S h l0 Po E (l1, 0) hw
  · refine xr_lload_n S 1 dX7_digest_77 rfl ?_
    refine xr_ldc2 S 31 dX7_digest_78 m_X7_digest_3 ?_
    refine xr_lmul S dX7_digest_81 ?_
    refine xr_aload_n S 0 dX7_digest_82 rfl ?_
    refine xw_getR S 8 11 dX7_digest_83 in_X7_digest_X7 rfl (by decide) (Or.inl m_X7_digest_9) (Or.inl rfl) hw (fun a12 hw => ?_)
    refine xr_iload_n S 2 dX7_digest_86 rfl ?_
    refine xw_iald S 2 dX7_digest_87 (Or.inr rfl) hw (fun v13 hw => ?_)
    refine xr_i2l S dX7_digest_88 ?_
    refine xr_ladd S dX7_digest_89 ?_
    refine xr_ldc2 S 31 dX7_digest_90 m_X7_digest_3 ?_
    refine xr_lmul S dX7_digest_93 ?_
    refine xr_aload_n S 0 dX7_digest_94 rfl ?_
    refine xr_iload_n S 2 dX7_digest_95 rfl ?_
    obtain ⟨e14, hw⟩ := hw
    obtain ⟨f15, f15x⟩ := id e14
    refine xr_callV S 8 [.int l3] [.long (((l1 * 31) + v13.toInt64) * 31)] dX7_digest_96 (k_X7_needOf l (xdc X) h l0 l3 _ hw) gX7_digest_X7_needOf rfl pd_X7_needOf ⟨Nat.le_of_ble_eq_true rfl, Nat.le_of_ble_eq_true rfl⟩ rfl (Nat.le_of_ble_eq_true rfl) ⟨Nat.le_of_ble_eq_true rfl, Nat.le_of_ble_eq_true rfl⟩ f15x rfl (fun v9 h18 hv => ?_)
    obtain ⟨r16, rfl, rfl, hw⟩ := hv
    refine xr_i2l S dX7_digest_99 ?_
    refine xr_ladd S dX7_digest_100 ?_
    refine xr_lstore_n S [(1, .long ((((l1 * 31) + v13.toInt64) * 31) + r16.toInt64)), (0, .ref l0), (3, .int l3)] dX7_digest_101 (by decide) rfl ?_
    refine xr_iinc S 2 ((l3 + 1)) [(3, .int (l3 + 1)), (1, .long ((((l1 * 31) + v13.toInt64) * 31) + r16.toInt64)), (0, .ref l0)] dX7_digest_102 rfl rfl (by decide) rfl ?_
    refine xr_goto S (tgt := 69) dX7_digest_105 (by decide) ?_
    refine xr_sub S [(0, .ref l0), (1, .long ((((l1 * 31) + v13.toInt64) * 31) + r16.toInt64)), (3, .int (l3 + 1))] [2, 1, 0] rfl ?_
    exact hr69 (((((l1 * 31) + v13.toInt64) * 31) + r16.toInt64), (l3 + 1)) hw
def w_X7_digest_11_F (dc : Nat × Nat) (h : XH) (l0 : Nat) (Po : Int64 → XH → Prop) (rec11 : Int64 × Int32 → Prop) : Int64 × Int32 → Prop := fun s => match s with
  | (l1, l3) =>
  wIf (5 ≤ l3) (wI h l0 8 4 (fun v2 => wI h l0 8 5 (fun v3 => wI h l0 8 15 (fun v4 => (w_X7_digest_69 dc h l0 Po (((((((l1 * 31) + v2.toInt64) * 31) + v3.toInt64) * 31) + v4.toInt64), 0)))))) (wO h l0 8 ( w_X7_counted dc h l0 l3 (fun r21 => rec11 (((l1 * 31) + r21.toInt64), (l3 + 1)))))
def w_X7_digest_11 (dc : Nat × Nat) (h : XH) (l0 : Nat) (Po : Int64 → XH → Prop) : Int64 × Int32 → Prop := xloop (w_X7_digest_11_F dc h l0 Po)
set_option maxRecDepth 100000 in
set_option maxHeartbeats 4000000 in
theorem k_X7_digest_11 {V : XVT} {X : XC} {l : Launch} (S : xS V X l RX7 yX7_digest.name cX7_digest 5 wsX7_digest (xRm 1 22 0 0)) (h : XH) (l0 : Nat) (Po : Int64 → XH → Prop) (E : xEnd V cX7_digest (some .long) 0 0 (xPl Po)) (s0 : Int64 × Int32) (hw : w_X7_digest_11 (xdc X) h l0 Po s0) : V 0 0 h 11 [(0, .ref l0), (1, .long s0.1), (3, .int s0.2)] [] := by
  refine xloop_use (P := fun s : Int64 × Int32 => V 0 0 h 11 [(0, .ref l0), (1, .long s.1), (3, .int s.2)] []) (fun rec11 hr11 s hw => ?_) hw
  obtain ⟨l1, l3⟩ := s
  try dsimp only
  refine xr_iload_n S 2 dX7_digest_11 rfl ?_
  refine xr_iconst S (5) dX7_digest_12 (by decide) ?_
  refine xw_icmp_ge S 35 dX7_digest_13 (by decide) hw (fun c hw => ?_) (fun c hw => ?_)
  · refine xr_lload_n S 1 dX7_digest_35 rfl ?_
    refine xr_ldc2 S 31 dX7_digest_36 m_X7_digest_3 ?_
    refine xr_lmul S dX7_digest_39 ?_
    refine xr_aload_n S 0 dX7_digest_40 rfl ?_
    refine xw_getI S 8 4 dX7_digest_41 in_X7_digest_X7 rfl (by decide) (Or.inl m_X7_digest_4) (Or.inl rfl) hw (fun v2 hw => ?_)
    refine xr_i2l S dX7_digest_44 ?_
    refine xr_ladd S dX7_digest_45 ?_
    refine xr_ldc2 S 31 dX7_digest_46 m_X7_digest_3 ?_
    refine xr_lmul S dX7_digest_49 ?_
    refine xr_aload_n S 0 dX7_digest_50 rfl ?_
    refine xw_getI S 8 5 dX7_digest_51 in_X7_digest_X7 rfl (by decide) (Or.inl m_X7_digest_5) (Or.inl rfl) hw (fun v3 hw => ?_)
    refine xr_i2l S dX7_digest_54 ?_
    refine xr_ladd S dX7_digest_55 ?_
    refine xr_ldc2 S 31 dX7_digest_56 m_X7_digest_3 ?_
    refine xr_lmul S dX7_digest_59 ?_
    refine xr_aload_n S 0 dX7_digest_60 rfl ?_
    refine xw_getI S 8 15 dX7_digest_61 in_X7_digest_X7 rfl (by decide) (Or.inl m_X7_digest_6) (Or.inl rfl) hw (fun v4 hw => ?_)
    refine xr_i2l S dX7_digest_64 ?_
    refine xr_ladd S dX7_digest_65 ?_
    refine xr_lstore_n S [(1, .long ((((((l1 * 31) + v2.toInt64) * 31) + v3.toInt64) * 31) + v4.toInt64)), (0, .ref l0), (3, .int l3)] dX7_digest_66 (by decide) rfl ?_
    refine xr_iconst S (0) dX7_digest_67 (by decide) ?_
    refine xr_istore_n S [(3, .int 0), (1, .long ((((((l1 * 31) + v2.toInt64) * 31) + v3.toInt64) * 31) + v4.toInt64)), (0, .ref l0)] dX7_digest_68 (by decide) rfl ?_
    refine xr_sub S [(0, .ref l0), (1, .long ((((((l1 * 31) + v2.toInt64) * 31) + v3.toInt64) * 31) + v4.toInt64)), (3, .int 0)] [2, 1, 0] rfl ?_
    exact k_X7_digest_69 S h l0 Po E (((((((l1 * 31) + v2.toInt64) * 31) + v3.toInt64) * 31) + v4.toInt64), 0) hw
  · refine xr_lload_n S 1 dX7_digest_16 rfl ?_
    refine xr_ldc2 S 31 dX7_digest_17 m_X7_digest_3 ?_
    refine xr_lmul S dX7_digest_20 ?_
    refine xr_aload_n S 0 dX7_digest_21 rfl ?_
    refine xr_iload_n S 2 dX7_digest_22 rfl ?_
    obtain ⟨e19, hw⟩ := hw
    obtain ⟨f20, f20x⟩ := id e19
    refine xr_callV S 8 [.int l3] [.long (l1 * 31)] dX7_digest_23 (k_X7_counted l (xdc X) h l0 l3 _ hw) gX7_digest_X7_counted rfl pd_X7_counted ⟨Nat.le_of_ble_eq_true rfl, Nat.le_of_ble_eq_true rfl⟩ rfl (Nat.le_of_ble_eq_true rfl) ⟨Nat.le_of_ble_eq_true rfl, Nat.le_of_ble_eq_true rfl⟩ f20x rfl (fun v9 h23 hv => ?_)
    obtain ⟨r21, rfl, rfl, hw⟩ := hv
    refine xr_i2l S dX7_digest_26 ?_
    refine xr_ladd S dX7_digest_27 ?_
    refine xr_lstore_n S [(1, .long ((l1 * 31) + r21.toInt64)), (0, .ref l0), (3, .int l3)] dX7_digest_28 (by decide) rfl ?_
    refine xr_iinc S 2 ((l3 + 1)) [(3, .int (l3 + 1)), (1, .long ((l1 * 31) + r21.toInt64)), (0, .ref l0)] dX7_digest_29 rfl rfl (by decide) rfl ?_
    refine xr_goto S (tgt := 11) dX7_digest_32 (by decide) ?_
    refine xr_sub S [(0, .ref l0), (1, .long ((l1 * 31) + r21.toInt64)), (3, .int (l3 + 1))] [2, 1, 0] rfl ?_
    exact hr11 (((l1 * 31) + r21.toInt64), (l3 + 1)) hw
def w_X7_digest (dc : Nat × Nat) (h : XH) (l0 : Nat) (Po : Int64 → XH → Prop) : Prop :=
  wP h l0 8 0 (.int 0) (fun h1 => (w_X7_digest_11 dc h1 l0 Po (307, 0)))
set_option maxRecDepth 100000 in
set_option maxHeartbeats 4000000 in
theorem k_X7_digest (l : Launch) (dc : Nat × Nat) (h : XH) (l0 : Nat) (Po : Int64 → XH → Prop) (hw : w_X7_digest dc h l0 Po) : xM l dc yX7_digest wsX7_digest 1 22 0 0 [.ref l0] h (xPl Po) := by
  refine xM_of [(0, .ref l0)] (own := RX7) (cc := cX7_digest) (nL := 5) (ret := (some .long)) (by decide +kernel) rfl rfl (Nat.le_of_ble_eq_true rfl) rfl ?_
  intro X V hX S E
  subst hX
  refine xr_aload_n S 0 dX7_digest_0 rfl ?_
  refine xr_iconst S (0) dX7_digest_1 (by decide) ?_
  refine xw_put S 8 0 tyX7 dX7_digest_2 in_X7_digest_X7 rfl (by decide) (Or.inl m_X7_digest_1) (Or.inl rfl) tyX7_ok nmX7 rfl rfl ⟨rfl, rfl⟩ hw (fun h1 hw => ?_)
  refine xr_ldc2 S 307 dX7_digest_5 m_X7_digest_2 ?_
  refine xr_lstore_n S [(1, .long 307), (0, .ref l0)] dX7_digest_8 (by decide) rfl ?_
  refine xr_iconst S (0) dX7_digest_9 (by decide) ?_
  refine xr_istore_n S [(3, .int 0), (1, .long 307), (0, .ref l0)] dX7_digest_10 (by decide) rfl ?_
  refine xr_sub S [(0, .ref l0), (1, .long 307), (3, .int 0)] [2, 1, 0] rfl ?_
  exact k_X7_digest_11 S h1 l0 Po E (307, 0) hw
