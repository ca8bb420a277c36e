theorem in_X6_routeOf_X6 : ∀ w ∈ wsX60, w ∈ wsX6_routeOf := by decide +kernel
theorem m_X6_routeOf_1 : Cond.fieldLink RX6 23 "PilotBook" "ships" "Ljava/util/ArrayList;" ∈ wsX6_routeOf := by decide +kernel
theorem m_X6_routeOf_2 : Cond.classLink RX6 90 "PilotBook$Ship" ∈ wsX6_routeOf := by decide +kernel
theorem in_X6_routeOf_X4 : ∀ w ∈ wsX40, w ∈ wsX6_routeOf := by decide +kernel
theorem in_X6_routeOf_X3 : ∀ w ∈ wsX30, w ∈ wsX6_routeOf := by decide +kernel
theorem m_X6_routeOf_5 : Cond.classLink RX6 140 RX3 ∈ wsX6_routeOf := by decide +kernel
theorem m_X6_routeOf_6 : Cond.instantiable RX3 4 ∈ wsX6_routeOf := by decide +kernel
theorem m_X6_routeOf_7 : Cond.initialized RX3 ∈ wsX6_routeOf := by decide +kernel
theorem in_X6_routeOf_X1 : ∀ w ∈ wsX10, w ∈ wsX6_routeOf := by decide +kernel
theorem m_X6_routeOf_9 : Cond.methodLink RX6 252 yX3_init ∈ wsX6_routeOf := by decide +kernel
theorem m_X6_routeOf_10 : Cond.instanceMethod yX3_init ∈ wsX6_routeOf := by decide +kernel
theorem m_X6_routeOf_11 : Cond.fieldLink RX6 19 "PilotBook" "berths" "Ljava/util/ArrayList;" ∈ wsX6_routeOf := by decide +kernel
theorem m_X6_routeOf_12 : Cond.classLink RX6 82 "PilotBook$Berth" ∈ wsX6_routeOf := by decide +kernel
def w_X6_routeOf_39 (dc : Nat × Nat) (h : XH) (l0 : Nat) (l2 : Int32) (l3 : Nat) (l4 : Option Nat) (t0 : Int32) (Po : Option Nat → XH → Prop) : Prop :=
  wIf (l2 = (-1)) (wIf (t0 = 0) (wNew h 4 [.null, .null, .int 0, .int 0] (fun q12 h13 => wDer l4 (fun q14 => wR h13 q14 2 0 (fun a15 => wR h13 a15 4 1 (fun a16 => w_X3_init dc h13 q12 l3 a16 1 (fun h18 => Po (some q12) h18)))))) (Po none h)) (wIf (t0 = 0) (Po none h) (wNew h 4 [.null, .null, .int 0, .int 0] (fun q20 h21 => wR h21 l0 7 1 (fun a22 => wO h21 a22 0 ( w_Jx4a65c_get_915e3 dc h21 a22 l2 (fun r25 => wDer r25 (fun q28 => wO h21 q28 1 ( w_X3_init dc h21 q20 l3 q28 0 (fun h32 => Po (some q20) h32)))))))))
set_option maxRecDepth 100000 in
set_option maxHeartbeats 4000000 in
theorem k_X6_routeOf_39 {V : XVT} {X : XC} {l : Launch} (S : xS V X l RX6 yX6_routeOf.name cX6_routeOf 6 wsX6_routeOf (xRm 3 64 1 4)) (h : XH) (l0 : Nat) (l2 : Int32) (l3 : Nat) (l4 : Option Nat) (t0 : Int32) (Po : Option Nat → XH → Prop) (E : xEnd V cX6_routeOf (some (.object "PilotBook$Route")) 1 4 (xPq Po)) (hw : w_X6_routeOf_39 (xdc X) h l0 l2 l3 l4 t0 Po) : V 0 0 h 39 [(0, .ref l0), (2, .int l2), (3, .ref l3), (4, va_rf l4)] [.int t0] := by
  refine xr_istore S [(5, .int t0), (0, .ref l0), (2, .int l2), (3, .ref l3), (4, va_rf l4)] dX6_routeOf_39 (by decide) (by cases l4 <;> rfl) ?_
  refine xr_iload_n S 2 dX6_routeOf_41 rfl ?_
  refine xr_iconst S (-1) dX6_routeOf_42 (by decide) ?_
  refine xw_icmp_eq S 76 dX6_routeOf_43 (by decide) hw (fun c hw => ?_) (fun c hw => ?_)
  · refine xr_iload S 0 dX6_routeOf_76 rfl ?_
    refine xw_if_eq S 85 dX6_routeOf_78 (by decide) hw (fun c hw => ?_) (fun c hw => ?_)
    · refine xr_new S 4 tyX3 [.null, .null, .int 0, .int 0] dX6_routeOf_85 in_X6_routeOf_X3 tyX3_ok m_X6_routeOf_5 m_X6_routeOf_6 m_X6_routeOf_7 rfl dfX3 (Nat.le_of_ble_eq_true rfl) (Nat.le_of_ble_eq_true rfl) (fun q12 hq => ?_)
      have hw := hw q12 hq
      generalize xup h q12 (.inr (4, [.null, .null, .int 0, .int 0])) = h13 at hw ⊢
      refine xr_dup S dX6_routeOf_88 rfl ?_
      refine xr_aload_n S 3 dX6_routeOf_89 rfl ?_
      refine xr_aloadq S 4 dX6_routeOf_90 rfl ?_
      obtain ⟨q14, hrq14, hwq14⟩ := hw
      subst hrq14
      have hw := hwq14
      refine xw_getR S 2 0 dX6_routeOf_92 in_X6_routeOf_X1 rfl (by decide) (Or.inr xn_X6_133) (Or.inl rfl) hw (fun a15 hw => ?_)
      refine xw_getR S 4 1 dX6_routeOf_95 in_X6_routeOf_X3 rfl (by decide) (Or.inr xn_X6_208) (Or.inl rfl) hw (fun a16 hw => ?_)
      refine xr_iconst S (1) dX6_routeOf_98 (by decide) ?_
      refine xr_callI S [.ref l3, .ref a16, .int 1] [.ref q12] dX6_routeOf_99 (k_X3_init l (xdc X) h13 q12 l3 a16 1 _ hw) gX6_routeOf_X3_init rfl m_X6_routeOf_7 m_X6_routeOf_9 m_X6_routeOf_10 rfl pd_X3_init ⟨Nat.le_of_ble_eq_true rfl, Nat.le_of_ble_eq_true rfl⟩ rfl (Nat.le_of_ble_eq_true rfl) ⟨Nat.le_of_ble_eq_true rfl, Nat.le_of_ble_eq_true rfl⟩ (fun v9 h18 hv => ?_)
      obtain ⟨rfl, hw⟩ := hv
      exact E.2.2.2.1 _ _ _ _ _ _ (some q12) rfl (Or.inl ⟨_, rfl⟩) dX6_routeOf_102 ⟨(some q12), rfl, hw⟩ (Nat.le_of_ble_eq_true rfl) (Nat.le_of_ble_eq_true rfl)
    · refine xr_null S dX6_routeOf_81 ?_
      refine xr_goto S (tgt := 102) dX6_routeOf_82 (by decide) ?_
      exact E.2.2.2.1 _ _ _ _ _ _ none rfl (Or.inl ⟨_, rfl⟩) dX6_routeOf_102 ⟨none, rfl, hw⟩ (Nat.le_of_ble_eq_true rfl) (Nat.le_of_ble_eq_true rfl)
  · refine xr_iload S 0 dX6_routeOf_46 rfl ?_
    refine xw_if_eq S 74 dX6_routeOf_48 (by decide) hw (fun c hw => ?_) (fun c hw => ?_)
    · refine xr_null S dX6_routeOf_74 ?_
      exact E.2.2.2.1 _ _ _ _ _ _ none rfl (Or.inl ⟨_, rfl⟩) dX6_routeOf_75 ⟨none, rfl, hw⟩ (Nat.le_of_ble_eq_true rfl) (Nat.le_of_ble_eq_true rfl)
    · refine xr_new S 4 tyX3 [.null, .null, .int 0, .int 0] dX6_routeOf_51 in_X6_routeOf_X3 tyX3_ok m_X6_routeOf_5 m_X6_routeOf_6 m_X6_routeOf_7 rfl dfX3 (Nat.le_of_ble_eq_true rfl) (Nat.le_of_ble_eq_true rfl) (fun q20 hq => ?_)
      have hw := hw q20 hq
      generalize xup h q20 (.inr (4, [.null, .null, .int 0, .int 0])) = h21 at hw ⊢
      refine xr_dup S dX6_routeOf_54 rfl ?_
      refine xr_aload_n S 3 dX6_routeOf_55 rfl ?_
      refine xr_aload_n S 1 dX6_routeOf_56 rfl ?_
      refine xw_getR S 7 1 dX6_routeOf_57 in_X6_routeOf_X6 rfl (by decide) (Or.inl m_X6_routeOf_11) (Or.inl rfl) hw (fun a22 hw => ?_)
      refine xr_iload_n S 2 dX6_routeOf_60 rfl ?_
      obtain ⟨e23, hw⟩ := hw
      obtain ⟨f24, f24x⟩ := id e23
      refine xr_callV S 0 [.int l2] [.ref l3, .ref q20, .ref q20] dX6_routeOf_61 (k_Jx4a65c_get_915e3 l (xdc X) h21 a22 l2 _ hw) gX6_routeOf_Jx4a65c_get_915e3 rfl pd_Jx4a65c_get_915e3 ⟨Nat.le_of_ble_eq_true rfl, Nat.le_of_ble_eq_true rfl⟩ rfl (Nat.le_of_ble_eq_true rfl) ⟨Nat.le_of_ble_eq_true rfl, Nat.le_of_ble_eq_true rfl⟩ f24x rfl (fun v9 h27 hv => ?_)
      obtain ⟨r25, rfl, rfl, hw⟩ := hv
      obtain ⟨q28, hrq28, hwq28⟩ := hw
      subst hrq28
      have hw := hwq28
      obtain ⟨e29, hw⟩ := hw
      obtain ⟨f30, f30x⟩ := id e29
      refine xr_cast S 1 dX6_routeOf_64 m_X6_routeOf_12 f30x rfl ?_
      refine xr_iconst S (0) dX6_routeOf_67 (by decide) ?_
      refine xr_callI S [.ref l3, .ref q28, .int 0] [.ref q20] dX6_routeOf_68 (k_X3_init l (xdc X) h21 q20 l3 q28 0 _ hw) gX6_routeOf_X3_init rfl m_X6_routeOf_7 m_X6_routeOf_9 m_X6_routeOf_10 rfl pd_X3_init ⟨Nat.le_of_ble_eq_true rfl, Nat.le_of_ble_eq_true rfl⟩ rfl (Nat.le_of_ble_eq_true rfl) ⟨Nat.le_of_ble_eq_true rfl, Nat.le_of_ble_eq_true rfl⟩ (fun v9 h32 hv => ?_)
      obtain ⟨rfl, hw⟩ := hv
      refine xr_goto S (tgt := 75) dX6_routeOf_71 (by decide) ?_
      exact E.2.2.2.1 _ _ _ _ _ _ (some q20) rfl (Or.inl ⟨_, rfl⟩) dX6_routeOf_75 ⟨(some q20), rfl, hw⟩ (Nat.le_of_ble_eq_true rfl) (Nat.le_of_ble_eq_true rfl)
def w_X6_routeOf_34 (dc : Nat × Nat) (h : XH) (l0 : Nat) (l2 : Int32) (l3 : Nat) (l4 : Option Nat) (Po : Option Nat → XH → Prop) : Prop :=
  w_X6_routeOf_39 dc h l0 l2 l3 l4 1 Po
set_option maxRecDepth 100000 in
set_option maxHeartbeats 4000000 in
theorem k_X6_routeOf_34 {V : XVT} {X : XC} {l : Launch} (S : xS V X l RX6 yX6_routeOf.name cX6_routeOf 6 wsX6_routeOf (xRm 3 64 1 4)) (h : XH) (l0 : Nat) (l2 : Int32) (l3 : Nat) (l4 : Option Nat) (Po : Option Nat → XH → Prop) (E : xEnd V cX6_routeOf (some (.object "PilotBook$Route")) 1 4 (xPq Po)) (hw : w_X6_routeOf_34 (xdc X) h l0 l2 l3 l4 Po) : V 0 0 h 34 [(0, .ref l0), (2, .int l2), (3, .ref l3), (4, va_rf l4)] [] := by
  refine xr_iconst S (1) dX6_routeOf_34 (by decide) ?_
  refine xr_goto S (tgt := 39) dX6_routeOf_35 (by decide) ?_
  exact k_X6_routeOf_39 S h l0 l2 l3 l4 1 Po E hw
def w_X6_routeOf (dc : Nat × Nat) (h : XH) (l0 : Nat) (l1 : Int32) (l2 : Int32) (Po : Option Nat → XH → Prop) : Prop :=
  wR h l0 7 2 (fun a1 => wO h a1 0 ( w_Jx4a65c_get_915e3 dc h a1 l1 (fun r4 => wDer r4 (fun q7 => wO h q7 5 ( wQ h q7 5 3 (fun r10 => wOpt r10 (w_X6_routeOf_34 dc h l0 l2 q7 none Po) (fun q11 => wR h q11 2 0 (fun a34 => wI h a34 4 2 (fun v35 => wIf (v35 = 0) (w_X6_routeOf_39 dc h l0 l2 q7 (some q11) 0 Po) (w_X6_routeOf_34 dc h l0 l2 q7 (some q11) Po))))))))))
set_option maxRecDepth 100000 in
set_option maxHeartbeats 4000000 in
theorem k_X6_routeOf (l : Launch) (dc : Nat × Nat) (h : XH) (l0 : Nat) (l1 : Int32) (l2 : Int32) (Po : Option Nat → XH → Prop) (hw : w_X6_routeOf dc h l0 l1 l2 Po) : xM l dc yX6_routeOf wsX6_routeOf 3 64 1 4 [.ref l0, .int l1, .int l2] h (xPq Po) := by
  refine xM_of [(0, .ref l0), (1, .int l1), (2, .int l2)] (own := RX6) (cc := cX6_routeOf) (nL := 6) (ret := (some (.object "PilotBook$Route"))) (by decide +kernel) rfl rfl (Nat.le_of_ble_eq_true rfl) rfl ?_
  intro X V hX S E
  subst hX
  refine xr_aload_n S 0 dX6_routeOf_0 rfl ?_
  refine xw_getR S 7 2 dX6_routeOf_1 in_X6_routeOf_X6 rfl (by decide) (Or.inl m_X6_routeOf_1) (Or.inl rfl) hw (fun a1 hw => ?_)
  refine xr_iload_n S 1 dX6_routeOf_4 rfl ?_
  obtain ⟨e2, hw⟩ := hw
  obtain ⟨f3, f3x⟩ := id e2
  refine xr_callV S 0 [.int l1] [] dX6_routeOf_5 (k_Jx4a65c_get_915e3 l (xdc X) h a1 l1 _ hw) gX6_routeOf_Jx4a65c_get_915e3 rfl pd_Jx4a65c_get_915e3 ⟨Nat.le_of_ble_eq_true rfl, Nat.le_of_ble_eq_true rfl⟩ rfl (Nat.le_of_ble_eq_true rfl) ⟨Nat.le_of_ble_eq_true rfl, Nat.le_of_ble_eq_true rfl⟩ f3x rfl (fun v9 h6 hv => ?_)
  obtain ⟨r4, rfl, rfl, hw⟩ := hv
  obtain ⟨q7, hrq7, hwq7⟩ := hw
  subst hrq7
  have hw := hwq7
  obtain ⟨e8, hw⟩ := hw
  obtain ⟨f9, f9x⟩ := id e8
  refine xr_cast S 5 dX6_routeOf_8 m_X6_routeOf_2 f9x rfl ?_
  refine xr_astore_n S [(3, .ref q7), (0, .ref l0), (1, .int l1), (2, .int l2)] dX6_routeOf_11 (by decide) rfl ?_
  refine xr_aload_n S 0 dX6_routeOf_12 rfl ?_
  refine xw_getQ S 5 3 dX6_routeOf_13 in_X6_routeOf_X4 rfl (by decide) (Or.inr xn_X6_129) (Or.inl rfl) hw (fun r10 hw => ?_)
  refine xr_astoreq S [(4, va_rf r10), (3, .ref q7), (0, .ref l0), (1, .int l1), (2, .int l2)] dX6_routeOf_16 (by decide) rfl ?_
  refine xr_aloadq S 0 dX6_routeOf_18 rfl ?_
  refine xw_ifnull S 34 dX6_routeOf_20 (by decide) hw (fun hr hwq11 => ?_) (fun q11 hr hwq11 => ?_)
  · subst hr
    have hw := hwq11
    refine xr_sub S [(0, .ref l0), (2, .int l2), (3, .ref q7), (4, va_rf none)] [2, 4, 1, 0] rfl ?_
    exact k_X6_routeOf_34 S h l0 l2 q7 none Po E hw
  · subst hr
    have hw := hwq11
    refine xr_aload S 0 dX6_routeOf_23 rfl ?_
    refine xw_getR S 2 0 dX6_routeOf_25 in_X6_routeOf_X1 rfl (by decide) (Or.inr xn_X6_133) (Or.inl rfl) hw (fun a34 hw => ?_)
    refine xw_getI S 4 2 dX6_routeOf_28 in_X6_routeOf_X3 rfl (by decide) (Or.inr xn_X6_139) (Or.inl rfl) hw (fun v35 hw => ?_)
    refine xw_if_eq S 38 dX6_routeOf_31 (by decide) hw (fun c hw => ?_) (fun c hw => ?_)
    · refine xr_iconst S (0) dX6_routeOf_38 (by decide) ?_
      refine xr_sub S [(0, .ref l0), (2, .int l2), (3, .ref q7), (4, va_rf (some q11))] [2, 4, 1, 0] rfl ?_
      exact k_X6_routeOf_39 S h l0 l2 q7 (some q11) 0 Po E hw
    · refine xr_sub S [(0, .ref l0), (2, .int l2), (3, .ref q7), (4, va_rf (some q11))] [2, 4, 1, 0] rfl ?_
      exact k_X6_routeOf_34 S h l0 l2 q7 (some q11) Po E hw
theorem in_X6_freeFrom_X3 : ∀ w ∈ wsX30, w ∈ wsX6_freeFrom := by decide +kernel
theorem in_X6_freeFrom_X4 : ∀ w ∈ wsX40, w ∈ wsX6_freeFrom := by decide +kernel
theorem in_X6_freeFrom_X6 : ∀ w ∈ wsX60, w ∈ wsX6_freeFrom := by decide +kernel
theorem m_X6_freeFrom_3 : Cond.fieldLink RX6 29 "PilotBook" "passages" "Ljava/util/ArrayList;" ∈ wsX6_freeFrom := by decide +kernel
theorem m_X6_freeFrom_4 : Cond.classLink RX6 134 "PilotBook$Passage" ∈ wsX6_freeFrom := by decide +kernel
theorem in_X6_freeFrom_X1 : ∀ w ∈ wsX10, w ∈ wsX6_freeFrom := by decide +kernel
theorem in_X6_freeFrom_X0 : ∀ w ∈ wsX00, w ∈ wsX6_freeFrom := by decide +kernel
theorem m_X6_freeFrom_7 : Cond.methodLink RX6 263 Lib.Math.max.name ∈ wsX6_freeFrom := by decide +kernel
theorem m_X6_freeFrom_8 : Cond.static Lib.Math.max.name ∈ wsX6_freeFrom := by decide +kernel
theorem m_X6_freeFrom_9 : Cond.initialized "java/lang/Math" ∈ wsX6_freeFrom := by decide +kernel
theorem m_X6_freeFrom_10 : Cond.code Lib.Math.max.name Lib.Math.max.code 2 (some .int) ∈ wsX6_freeFrom := by decide +kernel
def w_X6_freeFrom_90 (dc : Nat × Nat) (h : XH) (l0 : Nat) (l1 : Nat) (l3 : Int32) (l4 : Int32) (Po : Int32 → Prop) (rec33 : Int32 × Int32 → Prop) : Prop :=
  rec33 (l3, (l4 + 1))
set_option maxRecDepth 100000 in
set_option maxHeartbeats 4000000 in
theorem k_X6_freeFrom_90 {V : XVT} {X : XC} {l : Launch} (S : xS V X l RX6 yX6_freeFrom.name cX6_freeFrom 6 wsX6_freeFrom (xRm 3 64 0 0)) (h : XH) (l0 : Nat) (l1 : Nat) (l3 : Int32) (l4 : Int32) (Po : Int32 → Prop) (E : xEnd V cX6_freeFrom (some .int) 0 0 (xRi h Po)) (rec33 : Int32 × Int32 → Prop) (hr33 : ∀ s : Int32 × Int32, rec33 s → V 0 0 h 33 [(0, .ref l0), (1, .ref l1), (3, .int s.1), (4, .int s.2)] []) (hw : w_X6_freeFrom_90 (xdc X) h l0 l1 l3 l4 Po rec33) : V 0 0 h 90 [(0, .ref l0), (1, .ref l1), (3, .int l3), (4, .int l4)] [] := by
  refine xr_iinc S 3 ((l4 + 1)) [(4, .int (l4 + 1)), (0, .ref l0), (1, .ref l1), (3, .int l3)] dX6_freeFrom_90 rfl rfl (by decide) rfl ?_
  refine xr_goto S (tgt := 33) dX6_freeFrom_93 (by decide) ?_
  refine xr_sub S [(0, .ref l0), (1, .ref l1), (3, .int l3), (4, .int (l4 + 1))] [1, 2, 3, 0] rfl ?_
  exact hr33 (l3, (l4 + 1)) hw
def w_X6_freeFrom_33_F (dc : Nat × Nat) (h : XH) (l0 : Nat) (l1 : Nat) (Po : Int32 → Prop) (rec33 : Int32 × Int32 → Prop) : Int32 × Int32 → Prop := fun s => match s with
  | (l3, l4) =>
  wR h l0 7 4 (fun a5 => wO h a5 0 ( w_Jx4a65c_size_8abf5 dc h a5 (fun r8 => wIf (r8 ≤ l4) (Po l3) (wR h l0 7 4 (fun a11 => wO h a11 0 ( w_Jx4a65c_get_915e3 dc h a11 l4 (fun r14 => wDer r14 (fun q17 => wO h q17 2 ( wR h q17 2 0 (fun a20 => wR h a20 4 1 (fun a21 => wI h a21 1 0 (fun v22 => wR h l1 4 1 (fun a23 => wI h a23 1 0 (fun v24 => wIf (v22 = v24) (wI h q17 2 6 (fun v25 => (w_X6_freeFrom_90 dc h l0 l1 (if l3 < v25 then v25 else l3) l4 Po rec33))) (w_X6_freeFrom_90 dc h l0 l1 l3 l4 Po rec33)))))))))))))))
def w_X6_freeFrom_33 (dc : Nat × Nat) (h : XH) (l0 : Nat) (l1 : Nat) (Po : Int32 → Prop) : Int32 × Int32 → Prop := xloop (w_X6_freeFrom_33_F dc h l0 l1 Po)
set_option maxRecDepth 100000 in
set_option maxHeartbeats 4000000 in
theorem k_X6_freeFrom_33 {V : XVT} {X : XC} {l : Launch} (S : xS V X l RX6 yX6_freeFrom.name cX6_freeFrom 6 wsX6_freeFrom (xRm 3 64 0 0)) (h : XH) (l0 : Nat) (l1 : Nat) (Po : Int32 → Prop) (E : xEnd V cX6_freeFrom (some .int) 0 0 (xRi h Po)) (s0 : Int32 × Int32) (hw : w_X6_freeFrom_33 (xdc X) h l0 l1 Po s0) : V 0 0 h 33 [(0, .ref l0), (1, .ref l1), (3, .int s0.1), (4, .int s0.2)] [] := by
  refine xloop_use (P := fun s : Int32 × Int32 => V 0 0 h 33 [(0, .ref l0), (1, .ref l1), (3, .int s.1), (4, .int s.2)] []) (fun rec33 hr33 s hw => ?_) hw
  obtain ⟨l3, l4⟩ := s
  try dsimp only
  refine xr_iload S 3 dX6_freeFrom_33 rfl ?_
  refine xr_aload_n S 0 dX6_freeFrom_35 rfl ?_
  refine xw_getR S 7 4 dX6_freeFrom_36 in_X6_freeFrom_X6 rfl (by decide) (Or.inl m_X6_freeFrom_3) (Or.inl rfl) hw (fun a5 hw => ?_)
  obtain ⟨e6, hw⟩ := hw
  obtain ⟨f7, f7x⟩ := id e6
  refine xr_callV S 0 [] [.int l4] dX6_freeFrom_39 (k_Jx4a65c_size_8abf5 l (xdc X) h a5 _ hw) gX6_freeFrom_Jx4a65c_size_8abf5 rfl pd_Jx4a65c_size_8abf5 ⟨Nat.le_of_ble_eq_true rfl, Nat.le_of_ble_eq_true rfl⟩ rfl (Nat.le_of_ble_eq_true rfl) ⟨Nat.le_of_ble_eq_true rfl, Nat.le_of_ble_eq_true rfl⟩ f7x rfl (fun v9 h10 hv => ?_)
  obtain ⟨r8, rfl, rfl, hw⟩ := hv
  refine xw_icmp_ge S 96 dX6_freeFrom_42 (by decide) hw (fun c hw => ?_) (fun c hw => ?_)
  · refine xr_iload_n S 2 dX6_freeFrom_96 rfl ?_
    exact E.1 _ _ _ _ _ _ rfl dX6_freeFrom_97 ⟨_, rfl, rfl, hw⟩ (Nat.le_of_ble_eq_true rfl) (Nat.le_of_ble_eq_true rfl)
  · refine xr_aload_n S 0 dX6_freeFrom_45 rfl ?_
    refine xw_getR S 7 4 dX6_freeFrom_46 in_X6_freeFrom_X6 rfl (by decide) (Or.inl m_X6_freeFrom_3) (Or.inl rfl) hw (fun a11 hw => ?_)
    refine xr_iload S 3 dX6_freeFrom_49 rfl ?_
    obtain ⟨e12, hw⟩ := hw
    obtain ⟨f13, f13x⟩ := id e12
    refine xr_callV S 0 [.int l4] [] dX6_freeFrom_51 (k_Jx4a65c_get_915e3 l (xdc X) h a11 l4 _ hw) gX6_freeFrom_Jx4a65c_get_915e3 rfl pd_Jx4a65c_get_915e3 ⟨Nat.le_of_ble_eq_true rfl, Nat.le_of_ble_eq_true rfl⟩ rfl (Nat.le_of_ble_eq_true rfl) ⟨Nat.le_of_ble_eq_true rfl, Nat.le_of_ble_eq_true rfl⟩ f13x rfl (fun v9 h16 hv => ?_)
    obtain ⟨r14, rfl, rfl, hw⟩ := hv
    obtain ⟨q17, hrq17, hwq17⟩ := hw
    subst hrq17
    have hw := hwq17
    obtain ⟨e18, hw⟩ := hw
    obtain ⟨f19, f19x⟩ := id e18
    refine xr_cast S 2 dX6_freeFrom_54 m_X6_freeFrom_4 f19x rfl ?_
    refine xr_astore S [(5, .ref q17), (0, .ref l0), (1, .ref l1), (3, .int l3), (4, .int l4)] dX6_freeFrom_57 (by decide) rfl ?_
    refine xr_aload S 0 dX6_freeFrom_59 rfl ?_
    refine xw_getR S 2 0 dX6_freeFrom_61 in_X6_freeFrom_X1 rfl (by decide) (Or.inr xn_X6_133) (Or.inl rfl) hw (fun a20 hw => ?_)
    refine xw_getR S 4 1 dX6_freeFrom_64 in_X6_freeFrom_X3 rfl (by decide) (Or.inr xn_X6_208) (Or.inl rfl) hw (fun a21 hw => ?_)
    refine xw_getI S 1 0 dX6_freeFrom_67 in_X6_freeFrom_X0 rfl (by decide) (Or.inr xn_X6_212) (Or.inl rfl) hw (fun v22 hw => ?_)
    refine xr_aload_n S 2 dX6_freeFrom_70 rfl ?_
    refine xw_getR S 4 1 dX6_freeFrom_71 in_X6_freeFrom_X3 rfl (by decide) (Or.inr xn_X6_208) (Or.inl rfl) hw (fun a23 hw => ?_)
    refine xw_getI S 1 0 dX6_freeFrom_74 in_X6_freeFrom_X0 rfl (by decide) (Or.inr xn_X6_212) (Or.inl rfl) hw (fun v24 hw => ?_)
    refine xw_icmp_ne S 90 dX6_freeFrom_77 (by decide) hw (fun c hw => ?_) (fun c hw => ?_)
    · refine xr_sub S [(0, .ref l0), (1, .ref l1), (3, .int l3), (4, .int l4)] [1, 2, 3, 4] rfl ?_
      exact k_X6_freeFrom_90 S h l0 l1 l3 l4 Po E rec33 hr33 hw
    · refine xr_iload_n S 3 dX6_freeFrom_80 rfl ?_
      refine xr_aload S 0 dX6_freeFrom_81 rfl ?_
      refine xw_getI S 2 6 dX6_freeFrom_83 in_X6_freeFrom_X1 rfl (by decide) (Or.inr xn_X6_200) (Or.inl rfl) hw (fun v25 hw => ?_)
      refine xr_mmax S dX6_freeFrom_86 m_X6_freeFrom_7 m_X6_freeFrom_8 m_X6_freeFrom_9 m_X6_freeFrom_10 (Nat.le_of_ble_eq_true rfl) (Nat.le_of_ble_eq_true rfl) ⟨Nat.le_of_ble_eq_true rfl, Nat.le_of_ble_eq_true rfl⟩ ?_
      refine xr_istore_n S [(3, .int (if l3 < v25 then v25 else l3)), (5, .ref q17), (0, .ref l0), (1, .ref l1), (4, .int l4)] dX6_freeFrom_89 (by decide) rfl ?_
      refine xr_sub S [(0, .ref l0), (1, .ref l1), (3, .int (if l3 < v25 then v25 else l3)), (4, .int l4)] [2, 3, 0, 4] rfl ?_
      exact k_X6_freeFrom_90 S h l0 l1 (if l3 < v25 then v25 else l3) l4 Po E rec33 hr33 hw
def w_X6_freeFrom_20 (dc : Nat × Nat) (h : XH) (l0 : Nat) (l1 : Nat) (t0 : Int32) (Po : Int32 → Prop) : Prop :=
  wI h l1 4 2 (fun v4 => wIf (v4 = 0) (w_X6_freeFrom_33 dc h l0 l1 Po (t0, 0)) (Po t0))
set_option maxRecDepth 100000 in
set_option maxHeartbeats 4000000 in
theorem k_X6_freeFrom_20 {V : XVT} {X : XC} {l : Launch} (S : xS V X l RX6 yX6_freeFrom.name cX6_freeFrom 6 wsX6_freeFrom (xRm 3 64 0 0)) (h : XH) (l0 : Nat) (l1 : Nat) (t0 : Int32) (Po : Int32 → Prop) (E : xEnd V cX6_freeFrom (some .int) 0 0 (xRi h Po)) (hw : w_X6_freeFrom_20 (xdc X) h l0 l1 t0 Po) : V 0 0 h 20 [(0, .ref l0), (1, .ref l1)] [.int t0] := by
  refine xr_istore_n S [(3, .int t0), (0, .ref l0), (1, .ref l1)] dX6_freeFrom_20 (by decide) rfl ?_
  refine xr_aload_n S 2 dX6_freeFrom_21 rfl ?_
  refine xw_getI S 4 2 dX6_freeFrom_22 in_X6_freeFrom_X3 rfl (by decide) (Or.inr xn_X6_139) (Or.inl rfl) hw (fun v4 hw => ?_)
  refine xw_if_eq S 30 dX6_freeFrom_25 (by decide) hw (fun c hw => ?_) (fun c hw => ?_)
  · refine xr_iconst S (0) dX6_freeFrom_30 (by decide) ?_
    refine xr_istore S [(4, .int 0), (3, .int t0), (0, .ref l0), (1, .ref l1)] dX6_freeFrom_31 (by decide) rfl ?_
    refine xr_sub S [(0, .ref l0), (1, .ref l1), (3, .int t0), (4, .int 0)] [2, 3, 1, 0] rfl ?_
    exact k_X6_freeFrom_33 S h l0 l1 Po E (t0, 0) hw
  · refine xr_iload_n S 0 dX6_freeFrom_28 rfl ?_
    exact E.1 _ _ _ _ _ _ rfl dX6_freeFrom_29 ⟨_, rfl, rfl, hw⟩ (Nat.le_of_ble_eq_true rfl) (Nat.le_of_ble_eq_true rfl)
def w_X6_freeFrom (dc : Nat × Nat) (h : XH) (l0 : Nat) (l1 : Nat) (Po : Int32 → Prop) : Prop :=
  wR h l1 4 0 (fun a1 => wQ h a1 5 3 (fun r2 => wOpt r2 (w_X6_freeFrom_20 dc h l0 l1 0 Po) (fun q3 => wO h q3 2 ( w_X1_end dc h q3 (fun r28 => w_X6_freeFrom_20 dc h l0 l1 r28 Po)))))
set_option maxRecDepth 100000 in
set_option maxHeartbeats 4000000 in
theorem k_X6_freeFrom (l : Launch) (dc : Nat × Nat) (h : XH) (l0 : Nat) (l1 : Nat) (Po : Int32 → Prop) (hw : w_X6_freeFrom dc h l0 l1 Po) : xM l dc yX6_freeFrom wsX6_freeFrom 3 64 0 0 [.ref l0, .ref l1] h (xRi h Po) := by
  refine xM_of [(0, .ref l0), (1, .ref l1)] (own := RX6) (cc := cX6_freeFrom) (nL := 6) (ret := (some .int)) (by decide +kernel) rfl rfl (Nat.le_of_ble_eq_true rfl) rfl ?_
  intro X V hX S E
  subst hX
  refine xr_aload_n S 1 dX6_freeFrom_0 rfl ?_
  refine xw_getR S 4 0 dX6_freeFrom_1 in_X6_freeFrom_X3 rfl (by decide) (Or.inr xn_X6_188) (Or.inl rfl) hw (fun a1 hw => ?_)
  refine xw_getQ S 5 3 dX6_freeFrom_4 in_X6_freeFrom_X4 rfl (by decide) (Or.inr xn_X6_129) (Or.inl rfl) hw (fun r2 hw => ?_)
  refine xr_astoreq_n S [(2, va_rf r2), (0, .ref l0), (1, .ref l1)] dX6_freeFrom_7 (by decide) rfl ?_
  refine xr_aloadq_n S 0 dX6_freeFrom_8 rfl ?_
  refine xw_ifnonnull S 16 dX6_freeFrom_9 (by decide) hw (fun q3 hr hwq3 => ?_) (fun hr hwq3 => ?_)
  · subst hr
    have hw := hwq3
    refine xr_aload_n S 0 dX6_freeFrom_16 rfl ?_
    obtain ⟨e26, hw⟩ := hw
    obtain ⟨f27, f27x⟩ := id e26
    refine xr_callV S 2 [] [] dX6_freeFrom_17 (k_X1_end l (xdc X) h q3 _ hw) gX6_freeFrom_X1_end rfl pd_X1_end ⟨Nat.le_of_ble_eq_true rfl, Nat.le_of_ble_eq_true rfl⟩ rfl (Nat.le_of_ble_eq_true rfl) ⟨Nat.le_of_ble_eq_true rfl, Nat.le_of_ble_eq_true rfl⟩ f27x rfl (fun v9 h30 hv => ?_)
    obtain ⟨r28, rfl, rfl, hw⟩ := hv
    refine xr_sub S [(0, .ref l0), (1, .ref l1)] [1, 2] rfl ?_
    exact k_X6_freeFrom_20 S h l0 l1 r28 Po E hw
  · subst hr
    have hw := hwq3
    refine xr_iconst S (0) dX6_freeFrom_12 (by decide) ?_
    refine xr_goto S (tgt := 20) dX6_freeFrom_13 (by decide) ?_
    refine xr_sub S [(0, .ref l0), (1, .ref l1)] [1, 2] rfl ?_
    exact k_X6_freeFrom_20 S h l0 l1 0 Po E hw
theorem in_X6_hasClearWay_X6 : ∀ w ∈ wsX60, w ∈ wsX6_hasClearWay := by decide +kernel
theorem m_X6_hasClearWay_1 : Cond.fieldLink RX6 29 "PilotBook" "passages" "Ljava/util/ArrayList;" ∈ wsX6_hasClearWay := by decide +kernel
theorem m_X6_hasClearWay_2 : Cond.classLink RX6 134 "PilotBook$Passage" ∈ wsX6_hasClearWay := by decide +kernel
theorem in_X6_hasClearWay_X1 : ∀ w ∈ wsX10, w ∈ wsX6_hasClearWay := by decide +kernel
theorem in_X6_hasClearWay_X3 : ∀ w ∈ wsX30, w ∈ wsX6_hasClearWay := by decide +kernel
theorem m_X6_hasClearWay_5 : Cond.methodLink RX6 282 Lib.Math.abs.name ∈ wsX6_hasClearWay := by decide +kernel
theorem m_X6_hasClearWay_6 : Cond.static Lib.Math.abs.name ∈ wsX6_hasClearWay := by decide +kernel
theorem m_X6_hasClearWay_7 : Cond.initialized "java/lang/Math" ∈ wsX6_hasClearWay := by decide +kernel
theorem m_X6_hasClearWay_8 : Cond.code Lib.Math.abs.name Lib.Math.abs.code 1 (some .int) ∈ wsX6_hasClearWay := by decide +kernel
def w_X6_hasClearWay_48 (dc : Nat × Nat) (h : XH) (l0 : Nat) (l1 : Nat) (l2 : Int32) (l3 : Int32) (l4 : Nat) (t0 : Int32) (Po : Int32 → Prop) (rec2 : Int32 → Prop) : Prop :=
  wI h l4 2 2 (fun v19 => wIf (t0 ≤ (if 0 ≤ (v19 - l2) then (v19 - l2) else 0 - (v19 - l2))) (rec2 (l3 + 1)) (wZ 0 (Po 0)))
set_option maxRecDepth 100000 in
set_option maxHeartbeats 4000000 in
theorem k_X6_hasClearWay_48 {V : XVT} {X : XC} {l : Launch} (S : xS V X l RX6 yX6_hasClearWay.name cX6_hasClearWay 6 wsX6_hasClearWay (xRm 3 64 0 0)) (h : XH) (l0 : Nat) (l1 : Nat) (l2 : Int32) (l3 : Int32) (l4 : Nat) (t0 : Int32) (Po : Int32 → Prop) (E : xEnd V cX6_hasClearWay (some .boolean) 0 0 (xRi h Po)) (rec2 : Int32 → Prop) (hr2 : ∀ s : Int32, rec2 s → V 0 0 h 2 [(0, .ref l0), (1, .ref l1), (2, .int l2), (3, .int s)] []) (hw : w_X6_hasClearWay_48 (xdc X) h l0 l1 l2 l3 l4 t0 Po rec2) : V 0 0 h 48 [(0, .ref l0), (1, .ref l1), (2, .int l2), (3, .int l3), (4, .ref l4)] [.int t0] := by
  refine xr_istore S [(5, .int t0), (0, .ref l0), (1, .ref l1), (2, .int l2), (3, .int l3), (4, .ref l4)] dX6_hasClearWay_48 (by decide) rfl ?_
  refine xr_aload S 5 dX6_hasClearWay_50 rfl ?_
  refine xw_getI S 2 2 dX6_hasClearWay_52 in_X6_hasClearWay_X1 rfl (by decide) (Or.inr xn_X6_153) (Or.inl rfl) hw (fun v19 hw => ?_)
  refine xr_iload_n S 3 dX6_hasClearWay_55 rfl ?_
  refine xr_isub S dX6_hasClearWay_56 ?_
  refine xr_mabs S dX6_hasClearWay_57 m_X6_hasClearWay_5 m_X6_hasClearWay_6 m_X6_hasClearWay_7 m_X6_hasClearWay_8 (Nat.le_of_ble_eq_true rfl) (Nat.le_of_ble_eq_true rfl) ⟨Nat.le_of_ble_eq_true rfl, Nat.le_of_ble_eq_true rfl⟩ ?_
  refine xr_iload S 0 dX6_hasClearWay_60 rfl ?_
  refine xw_icmp_ge S 67 dX6_hasClearWay_62 (by decide) hw (fun c hw => ?_) (fun c hw => ?_)
  · refine xr_iinc S 4 ((l3 + 1)) [(3, .int (l3 + 1)), (5, .int t0), (0, .ref l0), (1, .ref l1), (2, .int l2), (4, .ref l4)] dX6_hasClearWay_67 rfl rfl (by decide) rfl ?_
    refine xr_goto S (tgt := 2) dX6_hasClearWay_70 (by decide) ?_
    refine xr_sub S [(0, .ref l0), (1, .ref l1), (2, .int l2), (3, .int (l3 + 1))] [2, 3, 4, 0] rfl ?_
    exact hr2 (l3 + 1) hw
  · refine xr_iconst S (0) dX6_hasClearWay_65 (by decide) ?_
    obtain ⟨hz, hw⟩ := hw
    exact E.2.1 _ _ _ _ _ _ rfl hz dX6_hasClearWay_66 ⟨_, rfl, rfl, hw⟩ (Nat.le_of_ble_eq_true rfl) (Nat.le_of_ble_eq_true rfl)
def w_X6_hasClearWay_2_F (dc : Nat × Nat) (h : XH) (l0 : Nat) (l1 : Nat) (l2 : Int32) (Po : Int32 → Prop) (rec2 : Int32 → Prop) : Int32 → Prop := fun l3 =>
  wR h l0 7 4 (fun a1 => wO h a1 0 ( w_Jx4a65c_size_8abf5 dc h a1 (fun r4 => wIf (r4 ≤ l3) (wZ 1 (Po 1)) (wR h l0 7 4 (fun a7 => wO h a7 0 ( w_Jx4a65c_get_915e3 dc h a7 l3 (fun r10 => wDer r10 (fun q13 => wO h q13 2 ( wR h q13 2 0 (fun a16 => wI h a16 4 2 (fun v17 => wI h l1 4 2 (fun v18 => wIf (v17 = v18) (w_X6_hasClearWay_48 dc h l0 l1 l2 l3 q13 20 Po rec2) (w_X6_hasClearWay_48 dc h l0 l1 l2 l3 q13 60 Po rec2)))))))))))))
def w_X6_hasClearWay_2 (dc : Nat × Nat) (h : XH) (l0 : Nat) (l1 : Nat) (l2 : Int32) (Po : Int32 → Prop) : Int32 → Prop := xloop (w_X6_hasClearWay_2_F dc h l0 l1 l2 Po)
set_option maxRecDepth 100000 in
set_option maxHeartbeats 4000000 in
theorem k_X6_hasClearWay_2 {V : XVT} {X : XC} {l : Launch} (S : xS V X l RX6 yX6_hasClearWay.name cX6_hasClearWay 6 wsX6_hasClearWay (xRm 3 64 0 0)) (h : XH) (l0 : Nat) (l1 : Nat) (l2 : Int32) (Po : Int32 → Prop) (E : xEnd V cX6_hasClearWay (some .boolean) 0 0 (xRi h Po)) (s0 : Int32) (hw : w_X6_hasClearWay_2 (xdc X) h l0 l1 l2 Po s0) : V 0 0 h 2 [(0, .ref l0), (1, .ref l1), (2, .int l2), (3, .int s0)] [] := by
  refine xloop_use (P := fun s : Int32 => V 0 0 h 2 [(0, .ref l0), (1, .ref l1), (2, .int l2), (3, .int s)] []) (fun rec2 hr2 s hw => ?_) hw
  obtain ⟨l3, rfl⟩ : ∃ z, z = s := ⟨s, rfl⟩
  refine xr_iload_n S 3 dX6_hasClearWay_2 rfl ?_
  refine xr_aload_n S 0 dX6_hasClearWay_3 rfl ?_
  refine xw_getR S 7 4 dX6_hasClearWay_4 in_X6_hasClearWay_X6 rfl (by decide) (Or.inl m_X6_hasClearWay_1) (Or.inl rfl) hw (fun a1 hw => ?_)
  obtain ⟨e2, hw⟩ := hw
  obtain ⟨f3, f3x⟩ := id e2
  refine xr_callV S 0 [] [.int l3] dX6_hasClearWay_7 (k_Jx4a65c_size_8abf5 l (xdc X) h a1 _ hw) gX6_hasClearWay_Jx4a65c_size_8abf5 rfl pd_Jx4a65c_size_8abf5 ⟨Nat.le_of_ble_eq_true rfl, Nat.le_of_ble_eq_true rfl⟩ rfl (Nat.le_of_ble_eq_true rfl) ⟨Nat.le_of_ble_eq_true rfl, Nat.le_of_ble_eq_true rfl⟩ f3x rfl (fun v9 h6 hv => ?_)
  obtain ⟨r4, rfl, rfl, hw⟩ := hv
  refine xw_icmp_ge S 73 dX6_hasClearWay_10 (by decide) hw (fun c hw => ?_) (fun c hw => ?_)
  · refine xr_iconst S (1) dX6_hasClearWay_73 (by decide) ?_
    obtain ⟨hz, hw⟩ := hw
    exact E.2.1 _ _ _ _ _ _ rfl hz dX6_hasClearWay_74 ⟨_, rfl, rfl, hw⟩ (Nat.le_of_ble_eq_true rfl) (Nat.le_of_ble_eq_true rfl)
  · refine xr_aload_n S 0 dX6_hasClearWay_13 rfl ?_
    refine xw_getR S 7 4 dX6_hasClearWay_14 in_X6_hasClearWay_X6 rfl (by decide) (Or.inl m_X6_hasClearWay_1) (Or.inl rfl) hw (fun a7 hw => ?_)
    refine xr_iload_n S 3 dX6_hasClearWay_17 rfl ?_
    obtain ⟨e8, hw⟩ := hw
    obtain ⟨f9, f9x⟩ := id e8
    refine xr_callV S 0 [.int l3] [] dX6_hasClearWay_18 (k_Jx4a65c_get_915e3 l (xdc X) h a7 l3 _ hw) gX6_hasClearWay_Jx4a65c_get_915e3 rfl pd_Jx4a65c_get_915e3 ⟨Nat.le_of_ble_eq_true rfl, Nat.le_of_ble_eq_true rfl⟩ rfl (Nat.le_of_ble_eq_true rfl) ⟨Nat.le_of_ble_eq_true rfl, Nat.le_of_ble_eq_true rfl⟩ f9x rfl (fun v9 h12 hv => ?_)
    obtain ⟨r10, rfl, rfl, hw⟩ := hv
    obtain ⟨q13, hrq13, hwq13⟩ := hw
    subst hrq13
    have hw := hwq13
    obtain ⟨e14, hw⟩ := hw
    obtain ⟨f15, f15x⟩ := id e14
    refine xr_cast S 2 dX6_hasClearWay_21 m_X6_hasClearWay_2 f15x rfl ?_
    refine xr_astore S [(4, .ref q13), (0, .ref l0), (1, .ref l1), (2, .int l2), (3, .int l3)] dX6_hasClearWay_24 (by decide) rfl ?_
    refine xr_aload S 0 dX6_hasClearWay_26 rfl ?_
    refine xw_getR S 2 0 dX6_hasClearWay_28 in_X6_hasClearWay_X1 rfl (by decide) (Or.inr xn_X6_133) (Or.inl rfl) hw (fun a16 hw => ?_)
    refine xw_getI S 4 2 dX6_hasClearWay_31 in_X6_hasClearWay_X3 rfl (by decide) (Or.inr xn_X6_139) (Or.inl rfl) hw (fun v17 hw => ?_)
    refine xr_aload_n S 2 dX6_hasClearWay_34 rfl ?_
    refine xw_getI S 4 2 dX6_hasClearWay_35 in_X6_hasClearWay_X3 rfl (by decide) (Or.inr xn_X6_139) (Or.inl rfl) hw (fun v18 hw => ?_)
    refine xw_icmp_ne S 46 dX6_hasClearWay_38 (by decide) hw (fun c hw => ?_) (fun c hw => ?_)
    · refine xr_bipush S (60) dX6_hasClearWay_46 (by decide) ?_
      refine xr_sub S [(0, .ref l0), (1, .ref l1), (2, .int l2), (3, .int l3), (4, .ref q13)] [1, 2, 3, 4, 0] rfl ?_
      exact k_X6_hasClearWay_48 S h l0 l1 l2 l3 q13 60 Po E rec2 hr2 hw
    · refine xr_bipush S (20) dX6_hasClearWay_41 (by decide) ?_
      refine xr_goto S (tgt := 48) dX6_hasClearWay_43 (by decide) ?_
      refine xr_sub S [(0, .ref l0), (1, .ref l1), (2, .int l2), (3, .int l3), (4, .ref q13)] [1, 2, 3, 4, 0] rfl ?_
      exact k_X6_hasClearWay_48 S h l0 l1 l2 l3 q13 20 Po E rec2 hr2 hw
def w_X6_hasClearWay (dc : Nat × Nat) (h : XH) (l0 : Nat) (l1 : Nat) (l2 : Int32) (Po : Int32 → Prop) : Prop :=
  w_X6_hasClearWay_2 dc h l0 l1 l2 Po 0
set_option maxRecDepth 100000 in
set_option maxHeartbeats 4000000 in
theorem k_X6_hasClearWay (l : Launch) (dc : Nat × Nat) (h : XH) (l0 : Nat) (l1 : Nat) (l2 : Int32) (Po : Int32 → Prop) (hw : w_X6_hasClearWay dc h l0 l1 l2 Po) : xM l dc yX6_hasClearWay wsX6_hasClearWay 3 64 0 0 [.ref l0, .ref l1, .int l2] h (xRi h Po) := by
  refine xM_of [(0, .ref l0), (1, .ref l1), (2, .int l2)] (own := RX6) (cc := cX6_hasClearWay) (nL := 6) (ret := (some .boolean)) (by decide +kernel) rfl rfl (Nat.le_of_ble_eq_true rfl) rfl ?_
  intro X V hX S E
  subst hX
  refine xr_iconst S (0) dX6_hasClearWay_0 (by decide) ?_
  refine xr_istore_n S [(3, .int 0), (0, .ref l0), (1, .ref l1), (2, .int l2)] dX6_hasClearWay_1 (by decide) rfl ?_
  refine xr_sub S [(0, .ref l0), (1, .ref l1), (2, .int l2), (3, .int 0)] [1, 2, 3, 0] rfl ?_
  exact k_X6_hasClearWay_2 S h l0 l1 l2 Po E 0 hw
theorem in_X6_tugsInUse_X6 : ∀ w ∈ wsX60, w ∈ wsX6_tugsInUse := by decide +kernel
theorem m_X6_tugsInUse_1 : Cond.fieldLink RX6 29 "PilotBook" "passages" "Ljava/util/ArrayList;" ∈ wsX6_tugsInUse := by decide +kernel
theorem m_X6_tugsInUse_2 : Cond.classLink RX6 134 "PilotBook$Passage" ∈ wsX6_tugsInUse := by decide +kernel
theorem in_X6_tugsInUse_X1 : ∀ w ∈ wsX10, w ∈ wsX6_tugsInUse := by decide +kernel
theorem in_X6_tugsInUse_X3 : ∀ w ∈ wsX30, w ∈ wsX6_tugsInUse := by decide +kernel
def w_X6_tugsInUse_61 (dc : Nat × Nat) (h : XH) (l0 : Nat) (l1 : Int32) (l2 : Int32) (l3 : Int32) (Po : Int32 → Prop) (rec4 : Int32 × Int32 → Prop) : Prop :=
  rec4 (l2, (l3 + 1))
set_option maxRecDepth 100000 in
set_option maxHeartbeats 4000000 in
theorem k_X6_tugsInUse_61 {V : XVT} {X : XC} {l : Launch} (S : xS V X l RX6 yX6_tugsInUse.name cX6_tugsInUse 6 wsX6_tugsInUse (xRm 3 64 0 0)) (h : XH) (l0 : Nat) (l1 : Int32) (l2 : Int32) (l3 : Int32) (Po : Int32 → Prop) (E : xEnd V cX6_tugsInUse (some .int) 0 0 (xRi h Po)) (rec4 : Int32 × Int32 → Prop) (hr4 : ∀ s : Int32 × Int32, rec4 s → V 0 0 h 4 [(0, .ref l0), (1, .int l1), (2, .int s.1), (3, .int s.2)] []) (hw : w_X6_tugsInUse_61 (xdc X) h l0 l1 l2 l3 Po rec4) : V 0 0 h 61 [(0, .ref l0), (1, .int l1), (2, .int l2), (3, .int l3)] [] := by
  refine xr_iinc S 3 ((l3 + 1)) [(3, .int (l3 + 1)), (0, .ref l0), (1, .int l1), (2, .int l2)] dX6_tugsInUse_61 rfl rfl (by decide) rfl ?_
  refine xr_goto S (tgt := 4) dX6_tugsInUse_64 (by decide) ?_
  refine xr_sub S [(0, .ref l0), (1, .int l1), (2, .int l2), (3, .int (l3 + 1))] [1, 2, 3, 0] rfl ?_
  exact hr4 (l2, (l3 + 1)) hw
def w_X6_tugsInUse_4_F (dc : Nat × Nat) (h : XH) (l0 : Nat) (l1 : Int32) (Po : Int32 → Prop) (rec4 : Int32 × Int32 → Prop) : Int32 × Int32 → Prop := fun s => match s with
  | (l2, l3) =>
  wR h l0 7 4 (fun a1 => wO h a1 0 ( w_Jx4a65c_size_8abf5 dc h a1 (fun r4 => wIf (r4 ≤ l3) (Po l2) (wR h l0 7 4 (fun a7 => wO h a7 0 ( w_Jx4a65c_get_915e3 dc h a7 l3 (fun r10 => wDer r10 (fun q13 => wO h q13 2 ( w_X1_tugsFrom dc h q13 (fun r17 => wIf (l1 < r17) (w_X6_tugsInUse_61 dc h l0 l1 l2 l3 Po rec4) (wIf ((r17 + 40) ≤ l1) (w_X6_tugsInUse_61 dc h l0 l1 l2 l3 Po rec4) (wR h q13 2 0 (fun a20 => wI h a20 4 3 (fun v21 => (w_X6_tugsInUse_61 dc h l0 l1 (l2 + v21) l3 Po rec4)))))))))))))))
def w_X6_tugsInUse_4 (dc : Nat × Nat) (h : XH) (l0 : Nat) (l1 : Int32) (Po : Int32 → Prop) : Int32 × Int32 → Prop := xloop (w_X6_tugsInUse_4_F dc h l0 l1 Po)
set_option maxRecDepth 100000 in
set_option maxHeartbeats 4000000 in
theorem k_X6_tugsInUse_4 {V : XVT} {X : XC} {l : Launch} (S : xS V X l RX6 yX6_tugsInUse.name cX6_tugsInUse 6 wsX6_tugsInUse (xRm 3 64 0 0)) (h : XH) (l0 : Nat) (l1 : Int32) (Po : Int32 → Prop) (E : xEnd V cX6_tugsInUse (some .int) 0 0 (xRi h Po)) (s0 : Int32 × Int32) (hw : w_X6_tugsInUse_4 (xdc X) h l0 l1 Po s0) : V 0 0 h 4 [(0, .ref l0), (1, .int l1), (2, .int s0.1), (3, .int s0.2)] [] := by
  refine xloop_use (P := fun s : Int32 × Int32 => V 0 0 h 4 [(0, .ref l0), (1, .int l1), (2, .int s.1), (3, .int s.2)] []) (fun rec4 hr4 s hw => ?_) hw
  obtain ⟨l2, l3⟩ := s
  try dsimp only
  refine xr_iload_n S 3 dX6_tugsInUse_4 rfl ?_
  refine xr_aload_n S 0 dX6_tugsInUse_5 rfl ?_
  refine xw_getR S 7 4 dX6_tugsInUse_6 in_X6_tugsInUse_X6 rfl (by decide) (Or.inl m_X6_tugsInUse_1) (Or.inl rfl) hw (fun a1 hw => ?_)
  obtain ⟨e2, hw⟩ := hw
  obtain ⟨f3, f3x⟩ := id e2
  refine xr_callV S 0 [] [.int l3] dX6_tugsInUse_9 (k_Jx4a65c_size_8abf5 l (xdc X) h a1 _ hw) gX6_tugsInUse_Jx4a65c_size_8abf5 rfl pd_Jx4a65c_size_8abf5 ⟨Nat.le_of_ble_eq_true rfl, Nat.le_of_ble_eq_true rfl⟩ rfl (Nat.le_of_ble_eq_true rfl) ⟨Nat.le_of_ble_eq_true rfl, Nat.le_of_ble_eq_true rfl⟩ f3x rfl (fun v9 h6 hv => ?_)
  obtain ⟨r4, rfl, rfl, hw⟩ := hv
  refine xw_icmp_ge S 67 dX6_tugsInUse_12 (by decide) hw (fun c hw => ?_) (fun c hw => ?_)
  · refine xr_iload_n S 2 dX6_tugsInUse_67 rfl ?_
    exact E.1 _ _ _ _ _ _ rfl dX6_tugsInUse_68 ⟨_, rfl, rfl, hw⟩ (Nat.le_of_ble_eq_true rfl) (Nat.le_of_ble_eq_true rfl)
  · refine xr_aload_n S 0 dX6_tugsInUse_15 rfl ?_
    refine xw_getR S 7 4 dX6_tugsInUse_16 in_X6_tugsInUse_X6 rfl (by decide) (Or.inl m_X6_tugsInUse_1) (Or.inl rfl) hw (fun a7 hw => ?_)
    refine xr_iload_n S 3 dX6_tugsInUse_19 rfl ?_
    obtain ⟨e8, hw⟩ := hw
    obtain ⟨f9, f9x⟩ := id e8
    refine xr_callV S 0 [.int l3] [] dX6_tugsInUse_20 (k_Jx4a65c_get_915e3 l (xdc X) h a7 l3 _ hw) gX6_tugsInUse_Jx4a65c_get_915e3 rfl pd_Jx4a65c_get_915e3 ⟨Nat.le_of_ble_eq_true rfl, Nat.le_of_ble_eq_true rfl⟩ rfl (Nat.le_of_ble_eq_true rfl) ⟨Nat.le_of_ble_eq_true rfl, Nat.le_of_ble_eq_true rfl⟩ f9x rfl (fun v9 h12 hv => ?_)
    obtain ⟨r10, rfl, rfl, hw⟩ := hv
    obtain ⟨q13, hrq13, hwq13⟩ := hw
    subst hrq13
    have hw := hwq13
    obtain ⟨e14, hw⟩ := hw
    obtain ⟨f15, f15x⟩ := id e14
    refine xr_cast S 2 dX6_tugsInUse_23 m_X6_tugsInUse_2 f15x rfl ?_
    refine xr_astore S [(4, .ref q13), (0, .ref l0), (1, .int l1), (2, .int l2), (3, .int l3)] dX6_tugsInUse_26 (by decide) rfl ?_
    refine xr_aload S 0 dX6_tugsInUse_28 rfl ?_
    obtain ⟨f16, f16x⟩ := id e14
    refine xr_callV S 2 [] [] dX6_tugsInUse_30 (k_X1_tugsFrom l (xdc X) h q13 _ hw) gX6_tugsInUse_X1_tugsFrom rfl pd_X1_tugsFrom ⟨Nat.le_of_ble_eq_true rfl, Nat.le_of_ble_eq_true rfl⟩ rfl (Nat.le_of_ble_eq_true rfl) ⟨Nat.le_of_ble_eq_true rfl, Nat.le_of_ble_eq_true rfl⟩ f16x rfl (fun v9 h19 hv => ?_)
    obtain ⟨r17, rfl, rfl, hw⟩ := hv
    refine xr_istore S [(5, .int r17), (4, .ref q13), (0, .ref l0), (1, .int l1), (2, .int l2), (3, .int l3)] dX6_tugsInUse_33 (by decide) rfl ?_
    refine xr_iload_n S 3 dX6_tugsInUse_35 rfl ?_
    refine xr_iload S 0 dX6_tugsInUse_36 rfl ?_
    refine xw_icmp_lt S 61 dX6_tugsInUse_38 (by decide) hw (fun c hw => ?_) (fun c hw => ?_)
    · refine xr_sub S [(0, .ref l0), (1, .int l1), (2, .int l2), (3, .int l3)] [2, 3, 4, 5] rfl ?_
      exact k_X6_tugsInUse_61 S h l0 l1 l2 l3 Po E rec4 hr4 hw
    · refine xr_iload_n S 3 dX6_tugsInUse_41 rfl ?_
      refine xr_iload S 0 dX6_tugsInUse_42 rfl ?_
      refine xr_bipush S (40) dX6_tugsInUse_44 (by decide) ?_
      refine xr_iadd S dX6_tugsInUse_46 ?_
      refine xw_icmp_ge S 61 dX6_tugsInUse_47 (by decide) hw (fun c hw => ?_) (fun c hw => ?_)
      · refine xr_sub S [(0, .ref l0), (1, .int l1), (2, .int l2), (3, .int l3)] [2, 3, 4, 5] rfl ?_
        exact k_X6_tugsInUse_61 S h l0 l1 l2 l3 Po E rec4 hr4 hw
      · refine xr_iload_n S 4 dX6_tugsInUse_50 rfl ?_
        refine xr_aload S 1 dX6_tugsInUse_51 rfl ?_
        refine xw_getR S 2 0 dX6_tugsInUse_53 in_X6_tugsInUse_X1 rfl (by decide) (Or.inr xn_X6_133) (Or.inl rfl) hw (fun a20 hw => ?_)
        refine xw_getI S 4 3 dX6_tugsInUse_56 in_X6_tugsInUse_X3 rfl (by decide) (Or.inr xn_X6_207) (Or.inl rfl) hw (fun v21 hw => ?_)
        refine xr_iadd S dX6_tugsInUse_59 ?_
        refine xr_istore_n S [(2, .int (l2 + v21)), (5, .int r17), (4, .ref q13), (0, .ref l0), (1, .int l1), (3, .int l3)] dX6_tugsInUse_60 (by decide) rfl ?_
        refine xr_sub S [(0, .ref l0), (1, .int l1), (2, .int (l2 + v21)), (3, .int l3)] [3, 4, 0, 5] rfl ?_
        exact k_X6_tugsInUse_61 S h l0 l1 (l2 + v21) l3 Po E rec4 hr4 hw
def w_X6_tugsInUse (dc : Nat × Nat) (h : XH) (l0 : Nat) (l1 : Int32) (Po : Int32 → Prop) : Prop :=
  w_X6_tugsInUse_4 dc h l0 l1 Po (0, 0)
set_option maxRecDepth 100000 in
set_option maxHeartbeats 4000000 in
theorem k_X6_tugsInUse (l : Launch) (dc : Nat × Nat) (h : XH) (l0 : Nat) (l1 : Int32) (Po : Int32 → Prop) (hw : w_X6_tugsInUse dc h l0 l1 Po) : xM l dc yX6_tugsInUse wsX6_tugsInUse 3 64 0 0 [.ref l0, .int l1] h (xRi h Po) := by
  refine xM_of [(0, .ref l0), (1, .int l1)] (own := RX6) (cc := cX6_tugsInUse) (nL := 6) (ret := (some .int)) (by decide +kernel) rfl rfl (Nat.le_of_ble_eq_true rfl) rfl ?_
  intro X V hX S E
  subst hX
  refine xr_iconst S (0) dX6_tugsInUse_0 (by decide) ?_
  refine xr_istore_n S [(2, .int 0), (0, .ref l0), (1, .int l1)] dX6_tugsInUse_1 (by decide) rfl ?_
  refine xr_iconst S (0) dX6_tugsInUse_2 (by decide) ?_
  refine xr_istore_n S [(3, .int 0), (2, .int 0), (0, .ref l0), (1, .int l1)] dX6_tugsInUse_3 (by decide) rfl ?_
  refine xr_sub S [(0, .ref l0), (1, .int l1), (2, .int 0), (3, .int 0)] [2, 3, 1, 0] rfl ?_
  exact k_X6_tugsInUse_4 S h l0 l1 Po E (0, 0) hw
theorem in_X6_hasTugs_X6 : ∀ w ∈ wsX60, w ∈ wsX6_hasTugs := by decide +kernel
theorem m_X6_hasTugs_1 : Cond.fieldLink RX6 39 "PilotBook" "tugs" "I" ∈ wsX6_hasTugs := by decide +kernel
theorem in_X6_hasTugs_X3 : ∀ w ∈ wsX30, w ∈ wsX6_hasTugs := by decide +kernel
theorem m_X6_hasTugs_3 : Cond.fieldLink RX6 29 "PilotBook" "passages" "Ljava/util/ArrayList;" ∈ wsX6_hasTugs := by decide +kernel
theorem m_X6_hasTugs_4 : Cond.classLink RX6 134 "PilotBook$Passage" ∈ wsX6_hasTugs := by decide +kernel
def w_X6_hasTugs_89 (dc : Nat × Nat) (h : XH) (l0 : Nat) (l3 : Int32) (l4 : Int32) (l5 : Int32) (Po : Int32 → Prop) (rec32 : Int32 → Prop) : Prop :=
  rec32 (l5 + 1)
set_option maxRecDepth 100000 in
set_option maxHeartbeats 4000000 in
theorem k_X6_hasTugs_89 {V : XVT} {X : XC} {l : Launch} (S : xS V X l RX6 yX6_hasTugs.name cX6_hasTugs 7 wsX6_hasTugs (xRm 4 89 0 0)) (h : XH) (l0 : Nat) (l3 : Int32) (l4 : Int32) (l5 : Int32) (Po : Int32 → Prop) (E : xEnd V cX6_hasTugs (some .boolean) 0 0 (xRi h Po)) (hO : ∃ fs, h l0 = some (.inr (7, fs))) (rec32 : Int32 → Prop) (hr32 : ∀ s : Int32, rec32 s → V 0 0 h 32 [(0, .ref l0), (3, .int l3), (4, .int l4), (5, .int s)] []) (hw : w_X6_hasTugs_89 (xdc X) h l0 l3 l4 l5 Po rec32) : V 0 0 h 89 [(0, .ref l0), (3, .int l3), (4, .int l4), (5, .int l5)] [] := by
  refine xr_iinc S 3 ((l5 + 1)) [(5, .int (l5 + 1)), (0, .ref l0), (3, .int l3), (4, .int l4)] dX6_hasTugs_89 rfl rfl (by decide) rfl ?_
  refine xr_goto S (tgt := 32) dX6_hasTugs_92 (by decide) ?_
  refine xr_sub S [(0, .ref l0), (3, .int l3), (4, .int l4), (5, .int (l5 + 1))] [1, 2, 3, 0] rfl ?_
  exact hr32 (l5 + 1) hw
def w_X6_hasTugs_32_F (dc : Nat × Nat) (h : XH) (l0 : Nat) (l3 : Int32) (l4 : Int32) (Po : Int32 → Prop) (rec32 : Int32 → Prop) : Int32 → Prop := fun l5 =>
  wR h l0 7 4 (fun a12 => wO h a12 0 ( w_Jx4a65c_size_8abf5 dc h a12 (fun r15 => wIf (r15 ≤ l5) (wZ 1 (Po 1)) (wR h l0 7 4 (fun a18 => wO h a18 0 ( w_Jx4a65c_get_915e3 dc h a18 l5 (fun r21 => wDer r21 (fun q24 => wO h q24 2 ( w_X1_tugsFrom dc h q24 (fun r28 => wIf (r28 ≤ l3) (w_X6_hasTugs_89 dc h l0 l3 l4 l5 Po rec32) (wIf ((l3 + 40) ≤ r28) (w_X6_hasTugs_89 dc h l0 l3 l4 l5 Po rec32) (w_X6_tugsInUse dc h l0 r28 (fun r32 => wIf (r32 ≤ l4) (w_X6_hasTugs_89 dc h l0 l3 l4 l5 Po rec32) (wZ 0 (Po 0)))))))))))))))
def w_X6_hasTugs_32 (dc : Nat × Nat) (h : XH) (l0 : Nat) (l3 : Int32) (l4 : Int32) (Po : Int32 → Prop) : Int32 → Prop := xloop (w_X6_hasTugs_32_F dc h l0 l3 l4 Po)
set_option maxRecDepth 100000 in
set_option maxHeartbeats 4000000 in
theorem k_X6_hasTugs_32 {V : XVT} {X : XC} {l : Launch} (S : xS V X l RX6 yX6_hasTugs.name cX6_hasTugs 7 wsX6_hasTugs (xRm 4 89 0 0)) (h : XH) (l0 : Nat) (l3 : Int32) (l4 : Int32) (Po : Int32 → Prop) (E : xEnd V cX6_hasTugs (some .boolean) 0 0 (xRi h Po)) (hO : ∃ fs, h l0 = some (.inr (7, fs))) (s0 : Int32) (hw : w_X6_hasTugs_32 (xdc X) h l0 l3 l4 Po s0) : V 0 0 h 32 [(0, .ref l0), (3, .int l3), (4, .int l4), (5, .int s0)] [] := by
  refine xloop_use (P := fun s : Int32 => V 0 0 h 32 [(0, .ref l0), (3, .int l3), (4, .int l4), (5, .int s)] []) (fun rec32 hr32 s hw => ?_) hw
  obtain ⟨l5, rfl⟩ : ∃ z, z = s := ⟨s, rfl⟩
  refine xr_iload S 3 dX6_hasTugs_32 rfl ?_
  refine xr_aload_n S 0 dX6_hasTugs_34 rfl ?_
  refine xw_getR S 7 4 dX6_hasTugs_35 in_X6_hasTugs_X6 rfl (by decide) (Or.inl m_X6_hasTugs_3) (Or.inl rfl) hw (fun a12 hw => ?_)
  obtain ⟨e13, hw⟩ := hw
  obtain ⟨f14, f14x⟩ := id e13
  refine xr_callV S 0 [] [.int l5] dX6_hasTugs_38 (k_Jx4a65c_size_8abf5 l (xdc X) h a12 _ hw) gX6_hasTugs_Jx4a65c_size_8abf5 rfl pd_Jx4a65c_size_8abf5 ⟨Nat.le_of_ble_eq_true rfl, Nat.le_of_ble_eq_true rfl⟩ rfl (Nat.le_of_ble_eq_true rfl) ⟨Nat.le_of_ble_eq_true rfl, Nat.le_of_ble_eq_true rfl⟩ f14x rfl (fun v9 h17 hv => ?_)
  obtain ⟨r15, rfl, rfl, hw⟩ := hv
  refine xw_icmp_ge S 95 dX6_hasTugs_41 (by decide) hw (fun c hw => ?_) (fun c hw => ?_)
  · refine xr_iconst S (1) dX6_hasTugs_95 (by decide) ?_
    obtain ⟨hz, hw⟩ := hw
    exact E.2.1 _ _ _ _ _ _ rfl hz dX6_hasTugs_96 ⟨_, rfl, rfl, hw⟩ (Nat.le_of_ble_eq_true rfl) (Nat.le_of_ble_eq_true rfl)
  · refine xr_aload_n S 0 dX6_hasTugs_44 rfl ?_
    refine xw_getR S 7 4 dX6_hasTugs_45 in_X6_hasTugs_X6 rfl (by decide) (Or.inl m_X6_hasTugs_3) (Or.inl rfl) hw (fun a18 hw => ?_)
    refine xr_iload S 3 dX6_hasTugs_48 rfl ?_
    obtain ⟨e19, hw⟩ := hw
    obtain ⟨f20, f20x⟩ := id e19
    refine xr_callV S 0 [.int l5] [] dX6_hasTugs_50 (k_Jx4a65c_get_915e3 l (xdc X) h a18 l5 _ hw) gX6_hasTugs_Jx4a65c_get_915e3 rfl pd_Jx4a65c_get_915e3 ⟨Nat.le_of_ble_eq_true rfl, Nat.le_of_ble_eq_true rfl⟩ rfl (Nat.le_of_ble_eq_true rfl) ⟨Nat.le_of_ble_eq_true rfl, Nat.le_of_ble_eq_true rfl⟩ f20x rfl (fun v9 h23 hv => ?_)
    obtain ⟨r21, rfl, rfl, hw⟩ := hv
    obtain ⟨q24, hrq24, hwq24⟩ := hw
    subst hrq24
    have hw := hwq24
    obtain ⟨e25, hw⟩ := hw
    obtain ⟨f26, f26x⟩ := id e25
    refine xr_cast S 2 dX6_hasTugs_53 m_X6_hasTugs_4 f26x rfl ?_
    obtain ⟨f27, f27x⟩ := id e25
    refine xr_callV S 2 [] [] dX6_hasTugs_56 (k_X1_tugsFrom l (xdc X) h q24 _ hw) gX6_hasTugs_X1_tugsFrom rfl pd_X1_tugsFrom ⟨Nat.le_of_ble_eq_true rfl, Nat.le_of_ble_eq_true rfl⟩ rfl (Nat.le_of_ble_eq_true rfl) ⟨Nat.le_of_ble_eq_true rfl, Nat.le_of_ble_eq_true rfl⟩ f27x rfl (fun v9 h30 hv => ?_)
    obtain ⟨r28, rfl, rfl, hw⟩ := hv
    refine xr_istore S [(6, .int r28), (0, .ref l0), (3, .int l3), (4, .int l4), (5, .int l5)] dX6_hasTugs_59 (by decide) rfl ?_
    refine xr_iload S 0 dX6_hasTugs_61 rfl ?_
    refine xr_iload_n S 2 dX6_hasTugs_63 rfl ?_
    refine xw_icmp_le S 89 dX6_hasTugs_64 (by decide) hw (fun c hw => ?_) (fun c hw => ?_)
    · refine xr_sub S [(0, .ref l0), (3, .int l3), (4, .int l4), (5, .int l5)] [1, 2, 3, 4] rfl ?_
      exact k_X6_hasTugs_89 S h l0 l3 l4 l5 Po E hO rec32 hr32 hw
    · refine xr_iload S 0 dX6_hasTugs_67 rfl ?_
      refine xr_iload_n S 2 dX6_hasTugs_69 rfl ?_
      refine xr_bipush S (40) dX6_hasTugs_70 (by decide) ?_
      refine xr_iadd S dX6_hasTugs_72 ?_
      refine xw_icmp_ge S 89 dX6_hasTugs_73 (by decide) hw (fun c hw => ?_) (fun c hw => ?_)
      · refine xr_sub S [(0, .ref l0), (3, .int l3), (4, .int l4), (5, .int l5)] [1, 2, 3, 4] rfl ?_
        exact k_X6_hasTugs_89 S h l0 l3 l4 l5 Po E hO rec32 hr32 hw
      · refine xr_aload_n S 1 dX6_hasTugs_76 rfl ?_
        refine xr_iload S 0 dX6_hasTugs_77 rfl ?_
        obtain ⟨f31, f31x⟩ := id hO
        refine xr_callV S 7 [.int r28] [] dX6_hasTugs_79 (k_X6_tugsInUse l (xdc X) h l0 r28 _ hw) gX6_hasTugs_X6_tugsInUse rfl pd_X6_tugsInUse ⟨Nat.le_of_ble_eq_true rfl, Nat.le_of_ble_eq_true rfl⟩ rfl (Nat.le_of_ble_eq_true rfl) ⟨Nat.le_of_ble_eq_true rfl, Nat.le_of_ble_eq_true rfl⟩ f31x rfl (fun v9 h34 hv => ?_)
        obtain ⟨r32, rfl, rfl, hw⟩ := hv
        refine xr_iload S 3 dX6_hasTugs_82 rfl ?_
        refine xw_icmp_le S 89 dX6_hasTugs_84 (by decide) hw (fun c hw => ?_) (fun c hw => ?_)
        · refine xr_sub S [(0, .ref l0), (3, .int l3), (4, .int l4), (5, .int l5)] [1, 2, 3, 4] rfl ?_
          exact k_X6_hasTugs_89 S h l0 l3 l4 l5 Po E hO rec32 hr32 hw
        · refine xr_iconst S (0) dX6_hasTugs_87 (by decide) ?_
          obtain ⟨hz, hw⟩ := hw
          exact E.2.1 _ _ _ _ _ _ rfl hz dX6_hasTugs_88 ⟨_, rfl, rfl, hw⟩ (Nat.le_of_ble_eq_true rfl) (Nat.le_of_ble_eq_true rfl)
def w_X6_hasTugs (dc : Nat × Nat) (h : XH) (l0 : Nat) (l1 : Nat) (l2 : Int32) (Po : Int32 → Prop) : Prop :=
  wO h l0 7 (wO h l1 4 ( w_X3_tugsFrom dc h l1 l2 (fun r3 => wI h l0 7 7 (fun v6 => wI h l1 4 3 (fun v7 => w_X6_tugsInUse dc h l0 r3 (fun r9 => wIf (r9 ≤ (v6 - v7)) (w_X6_hasTugs_32 dc h l0 r3 (v6 - v7) Po 0) (wZ 0 (Po 0))))))))
set_option maxRecDepth 100000 in
set_option maxHeartbeats 4000000 in
theorem k_X6_hasTugs (l : Launch) (dc : Nat × Nat) (h : XH) (l0 : Nat) (l1 : Nat) (l2 : Int32) (Po : Int32 → Prop) (hw : w_X6_hasTugs dc h l0 l1 l2 Po) : xM l dc yX6_hasTugs wsX6_hasTugs 4 89 0 0 [.ref l0, .ref l1, .int l2] h (xRi h Po) := by
  refine xM_of [(0, .ref l0), (1, .ref l1), (2, .int l2)] (own := RX6) (cc := cX6_hasTugs) (nL := 7) (ret := (some .boolean)) (by decide +kernel) rfl rfl (Nat.le_of_ble_eq_true rfl) rfl ?_
  intro X V hX S E
  subst hX
  obtain ⟨hO, hw⟩ := hw
  refine xr_aload_n S 1 dX6_hasTugs_0 rfl ?_
  refine xr_iload_n S 2 dX6_hasTugs_1 rfl ?_
  obtain ⟨e1, hw⟩ := hw
  obtain ⟨f2, f2x⟩ := id e1
  refine xr_callV S 4 [.int l2] [] dX6_hasTugs_2 (k_X3_tugsFrom l (xdc X) h l1 l2 _ hw) gX6_hasTugs_X3_tugsFrom rfl pd_X3_tugsFrom ⟨Nat.le_of_ble_eq_true rfl, Nat.le_of_ble_eq_true rfl⟩ rfl (Nat.le_of_ble_eq_true rfl) ⟨Nat.le_of_ble_eq_true rfl, Nat.le_of_ble_eq_true rfl⟩ f2x rfl (fun v9 h5 hv => ?_)
  obtain ⟨r3, rfl, rfl, hw⟩ := hv
  refine xr_istore_n S [(3, .int r3), (0, .ref l0), (1, .ref l1), (2, .int l2)] dX6_hasTugs_5 (by decide) rfl ?_
  refine xr_aload_n S 1 dX6_hasTugs_6 rfl ?_
  refine xw_getI S 7 7 dX6_hasTugs_7 in_X6_hasTugs_X6 rfl (by decide) (Or.inl m_X6_hasTugs_1) (Or.inl rfl) hw (fun v6 hw => ?_)
  refine xr_aload_n S 2 dX6_hasTugs_10 rfl ?_
  refine xw_getI S 4 3 dX6_hasTugs_11 in_X6_hasTugs_X3 rfl (by decide) (Or.inr xn_X6_207) (Or.inl rfl) hw (fun v7 hw => ?_)
  refine xr_isub S dX6_hasTugs_14 ?_
  refine xr_istore S [(4, .int (v6 - v7)), (3, .int r3), (0, .ref l0), (1, .ref l1), (2, .int l2)] dX6_hasTugs_15 (by decide) rfl ?_
  refine xr_aload_n S 2 dX6_hasTugs_17 rfl ?_
  refine xr_iload_n S 1 dX6_hasTugs_18 rfl ?_
  obtain ⟨f8, f8x⟩ := id hO
  refine xr_callV S 7 [.int r3] [] dX6_hasTugs_19 (k_X6_tugsInUse l (xdc X) h l0 r3 _ hw) gX6_hasTugs_X6_tugsInUse rfl pd_X6_tugsInUse ⟨Nat.le_of_ble_eq_true rfl, Nat.le_of_ble_eq_true rfl⟩ rfl (Nat.le_of_ble_eq_true rfl) ⟨Nat.le_of_ble_eq_true rfl, Nat.le_of_ble_eq_true rfl⟩ f8x rfl (fun v9 h11 hv => ?_)
  obtain ⟨r9, rfl, rfl, hw⟩ := hv
  refine xr_iload S 0 dX6_hasTugs_22 rfl ?_
  refine xw_icmp_le S 29 dX6_hasTugs_24 (by decide) hw (fun c hw => ?_) (fun c hw => ?_)
  · refine xr_iconst S (0) dX6_hasTugs_29 (by decide) ?_
    refine xr_istore S [(5, .int 0), (4, .int (v6 - v7)), (3, .int r3), (0, .ref l0), (1, .ref l1), (2, .int l2)] dX6_hasTugs_30 (by decide) rfl ?_
    refine xr_sub S [(0, .ref l0), (3, .int r3), (4, .int (v6 - v7)), (5, .int 0)] [3, 2, 1, 0] rfl ?_
    exact k_X6_hasTugs_32 S h l0 r3 (v6 - v7) Po E hO 0 hw
  · refine xr_iconst S (0) dX6_hasTugs_27 (by decide) ?_
    obtain ⟨hz, hw⟩ := hw
    exact E.2.1 _ _ _ _ _ _ rfl hz dX6_hasTugs_28 ⟨_, rfl, rfl, hw⟩ (Nat.le_of_ble_eq_true rfl) (Nat.le_of_ble_eq_true rfl)
theorem in_X6_pilotFor_X6 : ∀ w ∈ wsX60, w ∈ wsX6_pilotFor := by decide +kernel
theorem m_X6_pilotFor_1 : Cond.fieldLink RX6 26 "PilotBook" "pilots" "Ljava/util/ArrayList;" ∈ wsX6_pilotFor := by decide +kernel
theorem m_X6_pilotFor_2 : Cond.classLink RX6 103 "PilotBook$Pilot" ∈ wsX6_pilotFor := by decide +kernel
def w_X6_pilotFor_60 (dc : Nat × Nat) (h : XH) (l0 : Nat) (l1 : Nat) (l2 : Int32) (l3 : Option Nat) (l4 : Int32) (Po : Option Nat → Prop) (rec5 : (Option Nat) × Int32 → Prop) : Prop :=
  rec5 (l3, (l4 + 1))
set_option maxRecDepth 100000 in
set_option maxHeartbeats 4000000 in
theorem k_X6_pilotFor_60 {V : XVT} {X : XC} {l : Launch} (S : xS V X l RX6 yX6_pilotFor.name cX6_pilotFor 6 wsX6_pilotFor (xRm 3 64 0 0)) (h : XH) (l0 : Nat) (l1 : Nat) (l2 : Int32) (l3 : Option Nat) (l4 : Int32) (Po : Option Nat → Prop) (E : xEnd V cX6_pilotFor (some (.object "PilotBook$Pilot")) 0 0 (xRq h Po)) (rec5 : (Option Nat) × Int32 → Prop) (hr5 : ∀ s : (Option Nat) × Int32, rec5 s → V 0 0 h 5 [(0, .ref l0), (1, .ref l1), (2, .int l2), (3, va_rf s.1), (4, .int s.2)] []) (hw : w_X6_pilotFor_60 (xdc X) h l0 l1 l2 l3 l4 Po rec5) : V 0 0 h 60 [(0, .ref l0), (1, .ref l1), (2, .int l2), (3, va_rf l3), (4, .int l4)] [] := by
  refine xr_iinc S 4 ((l4 + 1)) [(4, .int (l4 + 1)), (0, .ref l0), (1, .ref l1), (2, .int l2), (3, va_rf l3)] dX6_pilotFor_60 rfl rfl (by decide) (by cases l3 <;> rfl) ?_
  refine xr_goto S (tgt := 5) dX6_pilotFor_63 (by decide) ?_
  refine xr_sub S [(0, .ref l0), (1, .ref l1), (2, .int l2), (3, va_rf l3), (4, .int (l4 + 1))] [1, 2, 3, 4, 0] rfl ?_
  exact hr5 (l3, (l4 + 1)) hw
def w_X6_pilotFor_57 (dc : Nat × Nat) (h : XH) (l0 : Nat) (l1 : Nat) (l2 : Int32) (l4 : Int32) (l5 : Nat) (Po : Option Nat → Prop) (rec5 : (Option Nat) × Int32 → Prop) : Prop :=
  w_X6_pilotFor_60 dc h l0 l1 l2 (some l5) l4 Po rec5
set_option maxRecDepth 100000 in
set_option maxHeartbeats 4000000 in
theorem k_X6_pilotFor_57 {V : XVT} {X : XC} {l : Launch} (S : xS V X l RX6 yX6_pilotFor.name cX6_pilotFor 6 wsX6_pilotFor (xRm 3 64 0 0)) (h : XH) (l0 : Nat) (l1 : Nat) (l2 : Int32) (l4 : Int32) (l5 : Nat) (Po : Option Nat → Prop) (E : xEnd V cX6_pilotFor (some (.object "PilotBook$Pilot")) 0 0 (xRq h Po)) (rec5 : (Option Nat) × Int32 → Prop) (hr5 : ∀ s : (Option Nat) × Int32, rec5 s → V 0 0 h 5 [(0, .ref l0), (1, .ref l1), (2, .int l2), (3, va_rf s.1), (4, .int s.2)] []) (hw : w_X6_pilotFor_57 (xdc X) h l0 l1 l2 l4 l5 Po rec5) : V 0 0 h 57 [(0, .ref l0), (1, .ref l1), (2, .int l2), (4, .int l4), (5, .ref l5)] [] := by
  refine xr_aload S 4 dX6_pilotFor_57 rfl ?_
  refine xr_astore_n S [(3, .ref l5), (0, .ref l0), (1, .ref l1), (2, .int l2), (4, .int l4), (5, .ref l5)] dX6_pilotFor_59 (by decide) rfl ?_
  refine xr_sub S [(0, .ref l0), (1, .ref l1), (2, .int l2), (3, va_rf (some l5)), (4, .int l4)] [1, 2, 3, 0, 4] rfl ?_
  exact k_X6_pilotFor_60 S h l0 l1 l2 (some l5) l4 Po E rec5 hr5 hw
def w_X6_pilotFor_5_F (dc : Nat × Nat) (h : XH) (l0 : Nat) (l1 : Nat) (l2 : Int32) (Po : Option Nat → Prop) (rec5 : (Option Nat) × Int32 → Prop) : (Option Nat) × Int32 → Prop := fun s => match s with
  | (l3, l4) =>
  wR h l0 7 3 (fun a1 => wO h a1 0 ( w_Jx4a65c_size_8abf5 dc h a1 (fun r4 => wIf (r4 ≤ l4) (Po l3) (wR h l0 7 3 (fun a7 => wO h a7 0 ( w_Jx4a65c_get_915e3 dc h a7 l4 (fun r10 => wDer r10 (fun q13 => wO h q13 3 ( w_X2_canTake dc h q13 l1 l2 (fun r17 => wIf (r17 = 0) (w_X6_pilotFor_60 dc h l0 l1 l2 l3 l4 Po rec5) (wOpt l3 (w_X6_pilotFor_57 dc h l0 l1 l2 l4 q13 Po rec5) (fun q20 => w_X2_latestEnd dc h q13 (fun r22 => wO h q20 3 ( w_X2_latestEnd dc h q20 (fun r27 => wIf (r27 ≤ r22) (w_X6_pilotFor_60 dc h l0 l1 l2 (some q20) l4 Po rec5) (w_X6_pilotFor_57 dc h l0 l1 l2 l4 q13 Po rec5))))))))))))))))
def w_X6_pilotFor_5 (dc : Nat × Nat) (h : XH) (l0 : Nat) (l1 : Nat) (l2 : Int32) (Po : Option Nat → Prop) : (Option Nat) × Int32 → Prop := xloop (w_X6_pilotFor_5_F dc h l0 l1 l2 Po)
set_option maxRecDepth 100000 in
set_option maxHeartbeats 4000000 in
theorem k_X6_pilotFor_5 {V : XVT} {X : XC} {l : Launch} (S : xS V X l RX6 yX6_pilotFor.name cX6_pilotFor 6 wsX6_pilotFor (xRm 3 64 0 0)) (h : XH) (l0 : Nat) (l1 : Nat) (l2 : Int32) (Po : Option Nat → Prop) (E : xEnd V cX6_pilotFor (some (.object "PilotBook$Pilot")) 0 0 (xRq h Po)) (s0 : (Option Nat) × Int32) (hw : w_X6_pilotFor_5 (xdc X) h l0 l1 l2 Po s0) : V 0 0 h 5 [(0, .ref l0), (1, .ref l1), (2, .int l2), (3, va_rf s0.1), (4, .int s0.2)] [] := by
  refine xloop_use (P := fun s : (Option Nat) × Int32 => V 0 0 h 5 [(0, .ref l0), (1, .ref l1), (2, .int l2), (3, va_rf s.1), (4, .int s.2)] []) (fun rec5 hr5 s hw => ?_) hw
  obtain ⟨l3, l4⟩ := s
  try dsimp only
  refine xr_iload S 4 dX6_pilotFor_5 rfl ?_
  refine xr_aload_n S 0 dX6_pilotFor_7 rfl ?_
  refine xw_getR S 7 3 dX6_pilotFor_8 in_X6_pilotFor_X6 rfl (by decide) (Or.inl m_X6_pilotFor_1) (Or.inl rfl) hw (fun a1 hw => ?_)
  obtain ⟨e2, hw⟩ := hw
  obtain ⟨f3, f3x⟩ := id e2
  refine xr_callV S 0 [] [.int l4] dX6_pilotFor_11 (k_Jx4a65c_size_8abf5 l (xdc X) h a1 _ hw) gX6_pilotFor_Jx4a65c_size_8abf5 rfl pd_Jx4a65c_size_8abf5 ⟨Nat.le_of_ble_eq_true rfl, Nat.le_of_ble_eq_true rfl⟩ rfl (Nat.le_of_ble_eq_true rfl) ⟨Nat.le_of_ble_eq_true rfl, Nat.le_of_ble_eq_true rfl⟩ f3x rfl (fun v9 h6 hv => ?_)
  obtain ⟨r4, rfl, rfl, hw⟩ := hv
  refine xw_icmp_ge S 66 dX6_pilotFor_14 (by decide) hw (fun c hw => ?_) (fun c hw => ?_)
  · refine xr_aloadq_n S 3 dX6_pilotFor_66 rfl ?_
    exact E.2.2.2.1 _ _ _ _ _ _ l3 rfl (Or.inl ⟨_, rfl⟩) dX6_pilotFor_67 ⟨l3, rfl, rfl, hw⟩ (Nat.le_of_ble_eq_true rfl) (Nat.le_of_ble_eq_true rfl)
  · refine xr_aload_n S 0 dX6_pilotFor_17 rfl ?_
    refine xw_getR S 7 3 dX6_pilotFor_18 in_X6_pilotFor_X6 rfl (by decide) (Or.inl m_X6_pilotFor_1) (Or.inl rfl) hw (fun a7 hw => ?_)
    refine xr_iload S 4 dX6_pilotFor_21 rfl ?_
    obtain ⟨e8, hw⟩ := hw
    obtain ⟨f9, f9x⟩ := id e8
    refine xr_callV S 0 [.int l4] [] dX6_pilotFor_23 (k_Jx4a65c_get_915e3 l (xdc X) h a7 l4 _ hw) gX6_pilotFor_Jx4a65c_get_915e3 rfl pd_Jx4a65c_get_915e3 ⟨Nat.le_of_ble_eq_true rfl, Nat.le_of_ble_eq_true rfl⟩ rfl (Nat.le_of_ble_eq_true rfl) ⟨Nat.le_of_ble_eq_true rfl, Nat.le_of_ble_eq_true rfl⟩ f9x rfl (fun v9 h12 hv => ?_)
    obtain ⟨r10, rfl, rfl, hw⟩ := hv
    obtain ⟨q13, hrq13, hwq13⟩ := hw
    subst hrq13
    have hw := hwq13
    obtain ⟨e14, hw⟩ := hw
    obtain ⟨f15, f15x⟩ := id e14
    refine xr_cast S 3 dX6_pilotFor_26 m_X6_pilotFor_2 f15x rfl ?_
    refine xr_astore S [(5, .ref q13), (0, .ref l0), (1, .ref l1), (2, .int l2), (3, va_rf l3), (4, .int l4)] dX6_pilotFor_29 (by decide) rfl ?_
    refine xr_aload S 0 dX6_pilotFor_31 rfl ?_
    refine xr_aload_n S 2 dX6_pilotFor_33 rfl ?_
    refine xr_iload_n S 3 dX6_pilotFor_34 rfl ?_
    obtain ⟨f16, f16x⟩ := id e14
    refine xr_callV S 3 [.ref l1, .int l2] [] dX6_pilotFor_35 (k_X2_canTake l (xdc X) h q13 l1 l2 _ hw) gX6_pilotFor_X2_canTake rfl pd_X2_canTake ⟨Nat.le_of_ble_eq_true rfl, Nat.le_of_ble_eq_true rfl⟩ rfl (Nat.le_of_ble_eq_true rfl) ⟨Nat.le_of_ble_eq_true rfl, Nat.le_of_ble_eq_true rfl⟩ f16x rfl (fun v9 h19 hv => ?_)
    obtain ⟨r17, rfl, rfl, hw⟩ := hv
    refine xw_if_eq S 60 dX6_pilotFor_38 (by decide) hw (fun c hw => ?_) (fun c hw => ?_)
    · refine xr_sub S [(0, .ref l0), (1, .ref l1), (2, .int l2), (3, va_rf l3), (4, .int l4)] [1, 2, 3, 4, 5] rfl ?_
      exact k_X6_pilotFor_60 S h l0 l1 l2 l3 l4 Po E rec5 hr5 hw
    · refine xr_aloadq_n S 4 dX6_pilotFor_41 rfl ?_
      refine xw_ifnull S 57 dX6_pilotFor_42 (by decide) hw (fun hr hwq20 => ?_) (fun q20 hr hwq20 => ?_)
      · subst hr
        have hw := hwq20
        refine xr_sub S [(0, .ref l0), (1, .ref l1), (2, .int l2), (4, .int l4), (5, .ref q13)] [1, 2, 3, 5, 0] rfl ?_
        exact k_X6_pilotFor_57 S h l0 l1 l2 l4 q13 Po E rec5 hr5 hw
      · subst hr
        have hw := hwq20
        refine xr_aload S 0 dX6_pilotFor_45 rfl ?_
        obtain ⟨f21, f21x⟩ := id e14
        refine xr_callV S 3 [] [] dX6_pilotFor_47 (k_X2_latestEnd l (xdc X) h q13 _ hw) gX6_pilotFor_X2_latestEnd rfl pd_X2_latestEnd ⟨Nat.le_of_ble_eq_true rfl, Nat.le_of_ble_eq_true rfl⟩ rfl (Nat.le_of_ble_eq_true rfl) ⟨Nat.le_of_ble_eq_true rfl, Nat.le_of_ble_eq_true rfl⟩ f21x rfl (fun v9 h24 hv => ?_)
        obtain ⟨r22, rfl, rfl, hw⟩ := hv
        refine xr_aload_n S 4 dX6_pilotFor_50 rfl ?_
        obtain ⟨e25, hw⟩ := hw
        obtain ⟨f26, f26x⟩ := id e25
        refine xr_callV S 3 [] [.int r22] dX6_pilotFor_51 (k_X2_latestEnd l (xdc X) h q20 _ hw) gX6_pilotFor_X2_latestEnd rfl pd_X2_latestEnd ⟨Nat.le_of_ble_eq_true rfl, Nat.le_of_ble_eq_true rfl⟩ rfl (Nat.le_of_ble_eq_true rfl) ⟨Nat.le_of_ble_eq_true rfl, Nat.le_of_ble_eq_true rfl⟩ f26x rfl (fun v9 h29 hv => ?_)
        obtain ⟨r27, rfl, rfl, hw⟩ := hv
        refine xw_icmp_ge S 60 dX6_pilotFor_54 (by decide) hw (fun c hw => ?_) (fun c hw => ?_)
        · refine xr_sub S [(0, .ref l0), (1, .ref l1), (2, .int l2), (3, va_rf (some q20)), (4, .int l4)] [1, 2, 3, 4, 5] rfl ?_
          exact k_X6_pilotFor_60 S h l0 l1 l2 (some q20) l4 Po E rec5 hr5 hw
        · refine xr_sub S [(0, .ref l0), (1, .ref l1), (2, .int l2), (4, .int l4), (5, .ref q13)] [1, 2, 3, 5, 0] rfl ?_
          exact k_X6_pilotFor_57 S h l0 l1 l2 l4 q13 Po E rec5 hr5 hw
def w_X6_pilotFor (dc : Nat × Nat) (h : XH) (l0 : Nat) (l1 : Nat) (l2 : Int32) (Po : Option Nat → Prop) : Prop :=
  w_X6_pilotFor_5 dc h l0 l1 l2 Po (none, 0)
set_option maxRecDepth 100000 in
set_option maxHeartbeats 4000000 in
theorem k_X6_pilotFor (l : Launch) (dc : Nat × Nat) (h : XH) (l0 : Nat) (l1 : Nat) (l2 : Int32) (Po : Option Nat → Prop) (hw : w_X6_pilotFor dc h l0 l1 l2 Po) : xM l dc yX6_pilotFor wsX6_pilotFor 3 64 0 0 [.ref l0, .ref l1, .int l2] h (xRq h Po) := by
  refine xM_of [(0, .ref l0), (1, .ref l1), (2, .int l2)] (own := RX6) (cc := cX6_pilotFor) (nL := 6) (ret := (some (.object "PilotBook$Pilot"))) (by decide +kernel) rfl rfl (Nat.le_of_ble_eq_true rfl) rfl ?_
  intro X V hX S E
  subst hX
  refine xr_null S dX6_pilotFor_0 ?_
  refine xr_astoreq_n S [(3, va_rf none), (0, .ref l0), (1, .ref l1), (2, .int l2)] dX6_pilotFor_1 (by decide) rfl ?_
  refine xr_iconst S (0) dX6_pilotFor_2 (by decide) ?_
  refine xr_istore S [(4, .int 0), (3, va_rf none), (0, .ref l0), (1, .ref l1), (2, .int l2)] dX6_pilotFor_3 (by decide) rfl ?_
  refine xr_sub S [(0, .ref l0), (1, .ref l1), (2, .int l2), (3, va_rf none), (4, .int 0)] [2, 3, 4, 1, 0] rfl ?_
  exact k_X6_pilotFor_5 S h l0 l1 l2 Po E (none, 0) hw
theorem in_X6_canBegin_X3 : ∀ w ∈ wsX30, w ∈ wsX6_canBegin := by decide +kernel
theorem in_X6_canBegin_X6 : ∀ w ∈ wsX60, w ∈ wsX6_canBegin := by decide +kernel
theorem m_X6_canBegin_2 : Cond.fieldLink RX6 32 "PilotBook" "barDepth" "I" ∈ wsX6_canBegin := by decide +kernel
theorem in_X6_canBegin_X0 : ∀ w ∈ wsX00, w ∈ wsX6_canBegin := by decide +kernel
def w_X6_canBegin (dc : Nat × Nat) (h : XH) (l0 : Nat) (l1 : Nat) (l2 : Int32) (Po : Int32 → Prop) : Prop :=
  wO h l0 7 (w_X6_hasClearWay dc h l0 l1 l2 (fun r2 => wIf (r2 = 0) (wZ 0 (Po 0)) (wR h l1 4 0 (fun a5 => wI h l0 7 5 (fun v6 => wO h l1 4 ( w_X3_barMinute dc h l1 l2 (fun r9 => w_X6_hasWater dc h l0 a5 v6 r9 (fun r13 => wIf (r13 = 0) (wZ 0 (Po 0)) (wR h l1 4 0 (fun a16 => wR h l1 4 1 (fun a17 => wI h a17 1 2 (fun v18 => w_X3_berthMinute dc h l1 l2 (fun r20 => w_X6_hasWater dc h l0 a16 v18 r20 (fun r24 => wIf (r24 = 0) (wZ 0 (Po 0)) (w_X6_hasTugs dc h l0 l1 l2 (fun r28 => wIf (r28 = 0) (wZ 0 (Po 0)) (w_X6_pilotFor dc h l0 l1 l2 (fun r32 => wOpt r32 (wZ 0 (Po 0)) (fun q35 => wZ 1 (Po 1))))))))))))))))))))
set_option maxRecDepth 100000 in
set_option maxHeartbeats 4000000 in
theorem k_X6_canBegin (l : Launch) (dc : Nat × Nat) (h : XH) (l0 : Nat) (l1 : Nat) (l2 : Int32) (Po : Int32 → Prop) (hw : w_X6_canBegin dc h l0 l1 l2 Po) : xM l dc yX6_canBegin wsX6_canBegin 5 115 0 0 [.ref l0, .ref l1, .int l2] h (xRi h Po) := by
  refine xM_of [(0, .ref l0), (1, .ref l1), (2, .int l2)] (own := RX6) (cc := cX6_canBegin) (nL := 3) (ret := (some .boolean)) (by decide +kernel) rfl rfl (Nat.le_of_ble_eq_true rfl) rfl ?_
  intro X V hX S E
  subst hX
  obtain ⟨hO, hw⟩ := hw
  refine xr_aload_n S 0 dX6_canBegin_0 rfl ?_
  refine xr_aload_n S 1 dX6_canBegin_1 rfl ?_
  refine xr_iload_n S 2 dX6_canBegin_2 rfl ?_
  obtain ⟨f1, f1x⟩ := id hO
  refine xr_callV S 7 [.ref l1, .int l2] [] dX6_canBegin_3 (k_X6_hasClearWay l (xdc X) h l0 l1 l2 _ hw) gX6_canBegin_X6_hasClearWay rfl pd_X6_hasClearWay ⟨Nat.le_of_ble_eq_true rfl, Nat.le_of_ble_eq_true rfl⟩ rfl (Nat.le_of_ble_eq_true rfl) ⟨Nat.le_of_ble_eq_true rfl, Nat.le_of_ble_eq_true rfl⟩ f1x rfl (fun v9 h4 hv => ?_)
  obtain ⟨r2, rfl, rfl, hw⟩ := hv
  refine xw_if_eq S 74 dX6_canBegin_6 (by decide) hw (fun c hw => ?_) (fun c hw => ?_)
  · refine xr_iconst S (0) dX6_canBegin_74 (by decide) ?_
    obtain ⟨hz, hw⟩ := hw
    exact E.2.1 _ _ _ _ _ _ rfl hz dX6_canBegin_75 ⟨_, rfl, rfl, hw⟩ (Nat.le_of_ble_eq_true rfl) (Nat.le_of_ble_eq_true rfl)
  · refine xr_aload_n S 0 dX6_canBegin_9 rfl ?_
    refine xr_aload_n S 1 dX6_canBegin_10 rfl ?_
    refine xw_getR S 4 0 dX6_canBegin_11 in_X6_canBegin_X3 rfl (by decide) (Or.inr xn_X6_188) (Or.inl rfl) hw (fun a5 hw => ?_)
    refine xr_aload_n S 0 dX6_canBegin_14 rfl ?_
    refine xw_getI S 7 5 dX6_canBegin_15 in_X6_canBegin_X6 rfl (by decide) (Or.inl m_X6_canBegin_2) (Or.inl rfl) hw (fun v6 hw => ?_)
    refine xr_aload_n S 1 dX6_canBegin_18 rfl ?_
    refine xr_iload_n S 2 dX6_canBegin_19 rfl ?_
    obtain ⟨e7, hw⟩ := hw
    obtain ⟨f8, f8x⟩ := id e7
    refine xr_callV S 4 [.int l2] [.int v6, .ref a5, .ref l0] dX6_canBegin_20 (k_X3_barMinute l (xdc X) h l1 l2 _ hw) gX6_canBegin_X3_barMinute rfl pd_X3_barMinute ⟨Nat.le_of_ble_eq_true rfl, Nat.le_of_ble_eq_true rfl⟩ rfl (Nat.le_of_ble_eq_true rfl) ⟨Nat.le_of_ble_eq_true rfl, Nat.le_of_ble_eq_true rfl⟩ f8x rfl (fun v9 h11 hv => ?_)
    obtain ⟨r9, rfl, rfl, hw⟩ := hv
    obtain ⟨f12, f12x⟩ := id hO
    refine xr_callV S 7 [.ref a5, .int v6, .int r9] [] dX6_canBegin_23 (k_X6_hasWater l (xdc X) h l0 a5 v6 r9 _ hw) gX6_canBegin_X6_hasWater rfl pd_X6_hasWater ⟨Nat.le_of_ble_eq_true rfl, Nat.le_of_ble_eq_true rfl⟩ rfl (Nat.le_of_ble_eq_true rfl) ⟨Nat.le_of_ble_eq_true rfl, Nat.le_of_ble_eq_true rfl⟩ f12x rfl (fun v9 h15 hv => ?_)
    obtain ⟨r13, rfl, rfl, hw⟩ := hv
    refine xw_if_eq S 74 dX6_canBegin_26 (by decide) hw (fun c hw => ?_) (fun c hw => ?_)
    · refine xr_iconst S (0) dX6_canBegin_74 (by decide) ?_
      obtain ⟨hz, hw⟩ := hw
      exact E.2.1 _ _ _ _ _ _ rfl hz dX6_canBegin_75 ⟨_, rfl, rfl, hw⟩ (Nat.le_of_ble_eq_true rfl) (Nat.le_of_ble_eq_true rfl)
    · refine xr_aload_n S 0 dX6_canBegin_29 rfl ?_
      refine xr_aload_n S 1 dX6_canBegin_30 rfl ?_
      refine xw_getR S 4 0 dX6_canBegin_31 in_X6_canBegin_X3 rfl (by decide) (Or.inr xn_X6_188) (Or.inl rfl) hw (fun a16 hw => ?_)
      refine xr_aload_n S 1 dX6_canBegin_34 rfl ?_
      refine xw_getR S 4 1 dX6_canBegin_35 in_X6_canBegin_X3 rfl (by decide) (Or.inr xn_X6_208) (Or.inl rfl) hw (fun a17 hw => ?_)
      refine xw_getI S 1 2 dX6_canBegin_38 in_X6_canBegin_X0 rfl (by decide) (Or.inr xn_X6_122) (Or.inl rfl) hw (fun v18 hw => ?_)
      refine xr_aload_n S 1 dX6_canBegin_41 rfl ?_
      refine xr_iload_n S 2 dX6_canBegin_42 rfl ?_
      obtain ⟨f19, f19x⟩ := id e7
      refine xr_callV S 4 [.int l2] [.int v18, .ref a16, .ref l0] dX6_canBegin_43 (k_X3_berthMinute l (xdc X) h l1 l2 _ hw) gX6_canBegin_X3_berthMinute rfl pd_X3_berthMinute ⟨Nat.le_of_ble_eq_true rfl, Nat.le_of_ble_eq_true rfl⟩ rfl (Nat.le_of_ble_eq_true rfl) ⟨Nat.le_of_ble_eq_true rfl, Nat.le_of_ble_eq_true rfl⟩ f19x rfl (fun v9 h22 hv => ?_)
      obtain ⟨r20, rfl, rfl, hw⟩ := hv
      obtain ⟨f23, f23x⟩ := id hO
      refine xr_callV S 7 [.ref a16, .int v18, .int r20] [] dX6_canBegin_46 (k_X6_hasWater l (xdc X) h l0 a16 v18 r20 _ hw) gX6_canBegin_X6_hasWater rfl pd_X6_hasWater ⟨Nat.le_of_ble_eq_true rfl, Nat.le_of_ble_eq_true rfl⟩ rfl (Nat.le_of_ble_eq_true rfl) ⟨Nat.le_of_ble_eq_true rfl, Nat.le_of_ble_eq_true rfl⟩ f23x rfl (fun v9 h26 hv => ?_)
      obtain ⟨r24, rfl, rfl, hw⟩ := hv
      refine xw_if_eq S 74 dX6_canBegin_49 (by decide) hw (fun c hw => ?_) (fun c hw => ?_)
      · refine xr_iconst S (0) dX6_canBegin_74 (by decide) ?_
        obtain ⟨hz, hw⟩ := hw
        exact E.2.1 _ _ _ _ _ _ rfl hz dX6_canBegin_75 ⟨_, rfl, rfl, hw⟩ (Nat.le_of_ble_eq_true rfl) (Nat.le_of_ble_eq_true rfl)
      · refine xr_aload_n S 0 dX6_canBegin_52 rfl ?_
        refine xr_aload_n S 1 dX6_canBegin_53 rfl ?_
        refine xr_iload_n S 2 dX6_canBegin_54 rfl ?_
        obtain ⟨f27, f27x⟩ := id hO
        refine xr_callV S 7 [.ref l1, .int l2] [] dX6_canBegin_55 (k_X6_hasTugs l (xdc X) h l0 l1 l2 _ hw) gX6_canBegin_X6_hasTugs rfl pd_X6_hasTugs ⟨Nat.le_of_ble_eq_true rfl, Nat.le_of_ble_eq_true rfl⟩ rfl (Nat.le_of_ble_eq_true rfl) ⟨Nat.le_of_ble_eq_true rfl, Nat.le_of_ble_eq_true rfl⟩ f27x rfl (fun v9 h30 hv => ?_)
        obtain ⟨r28, rfl, rfl, hw⟩ := hv
        refine xw_if_eq S 74 dX6_canBegin_58 (by decide) hw (fun c hw => ?_) (fun c hw => ?_)
        · refine xr_iconst S (0) dX6_canBegin_74 (by decide) ?_
          obtain ⟨hz, hw⟩ := hw
          exact E.2.1 _ _ _ _ _ _ rfl hz dX6_canBegin_75 ⟨_, rfl, rfl, hw⟩ (Nat.le_of_ble_eq_true rfl) (Nat.le_of_ble_eq_true rfl)
        · refine xr_aload_n S 0 dX6_canBegin_61 rfl ?_
          refine xr_aload_n S 1 dX6_canBegin_62 rfl ?_
          refine xr_iload_n S 2 dX6_canBegin_63 rfl ?_
          obtain ⟨f31, f31x⟩ := id hO
          refine xr_callV S 7 [.ref l1, .int l2] [] dX6_canBegin_64 (k_X6_pilotFor l (xdc X) h l0 l1 l2 _ hw) gX6_canBegin_X6_pilotFor rfl pd_X6_pilotFor ⟨Nat.le_of_ble_eq_true rfl, Nat.le_of_ble_eq_true rfl⟩ rfl (Nat.le_of_ble_eq_true rfl) ⟨Nat.le_of_ble_eq_true rfl, Nat.le_of_ble_eq_true rfl⟩ f31x rfl (fun v9 h34 hv => ?_)
          obtain ⟨r32, rfl, rfl, hw⟩ := hv
          refine xw_ifnull S 74 dX6_canBegin_67 (by decide) hw (fun hr hwq35 => ?_) (fun q35 hr hwq35 => ?_)
          · subst hr
            have hw := hwq35
            refine xr_iconst S (0) dX6_canBegin_74 (by decide) ?_
            obtain ⟨hz, hw⟩ := hw
            exact E.2.1 _ _ _ _ _ _ rfl hz dX6_canBegin_75 ⟨_, rfl, rfl, hw⟩ (Nat.le_of_ble_eq_true rfl) (Nat.le_of_ble_eq_true rfl)
          · subst hr
            have hw := hwq35
            refine xr_iconst S (1) dX6_canBegin_70 (by decide) ?_
            refine xr_goto S (tgt := 75) dX6_canBegin_71 (by decide) ?_
            obtain ⟨hz, hw⟩ := hw
            exact E.2.1 _ _ _ _ _ _ rfl hz dX6_canBegin_75 ⟨_, rfl, rfl, hw⟩ (Nat.le_of_ble_eq_true rfl) (Nat.le_of_ble_eq_true rfl)
theorem in_X6_firstBegin_X3 : ∀ w ∈ wsX30, w ∈ wsX6_firstBegin := by decide +kernel
theorem in_X6_firstBegin_X4 : ∀ w ∈ wsX40, w ∈ wsX6_firstBegin := by decide +kernel
theorem in_X6_firstBegin_X0 : ∀ w ∈ wsX00, w ∈ wsX6_firstBegin := by decide +kernel
theorem m_X6_firstBegin_3 : Cond.methodLink RX6 263 Lib.Math.max.name ∈ wsX6_firstBegin := by decide +kernel
theorem m_X6_firstBegin_4 : Cond.static Lib.Math.max.name ∈ wsX6_firstBegin := by decide +kernel
theorem m_X6_firstBegin_5 : Cond.initialized "java/lang/Math" ∈ wsX6_firstBegin := by decide +kernel
theorem m_X6_firstBegin_6 : Cond.code Lib.Math.max.name Lib.Math.max.code 2 (some .int) ∈ wsX6_firstBegin := by decide +kernel
def w_X6_firstBegin_32_F (dc : Nat × Nat) (h : XH) (l0 : Nat) (l1 : Nat) (Po : Int32 → Prop) (rec32 : Int32 → Prop) : Int32 → Prop := fun l4 =>
  wIf (2879 < (l4 + 60)) (Po (-1)) (w_X6_canBegin dc h l0 l1 l4 (fun r10 => wIf (r10 = 0) (rec32 (l4 + 1)) (Po l4)))
def w_X6_firstBegin_32 (dc : Nat × Nat) (h : XH) (l0 : Nat) (l1 : Nat) (Po : Int32 → Prop) : Int32 → Prop := xloop (w_X6_firstBegin_32_F dc h l0 l1 Po)
set_option maxRecDepth 100000 in
set_option maxHeartbeats 4000000 in
theorem k_X6_firstBegin_32 {V : XVT} {X : XC} {l : Launch} (S : xS V X l RX6 yX6_firstBegin.name cX6_firstBegin 5 wsX6_firstBegin (xRm 6 137 0 0)) (h : XH) (l0 : Nat) (l1 : Nat) (Po : Int32 → Prop) (E : xEnd V cX6_firstBegin (some .int) 0 0 (xRi h Po)) (hO : ∃ fs, h l0 = some (.inr (7, fs))) (s0 : Int32) (hw : w_X6_firstBegin_32 (xdc X) h l0 l1 Po s0) : V 0 0 h 32 [(0, .ref l0), (1, .ref l1), (4, .int s0)] [] := by
  refine xloop_use (P := fun s : Int32 => V 0 0 h 32 [(0, .ref l0), (1, .ref l1), (4, .int s)] []) (fun rec32 hr32 s hw => ?_) hw
  obtain ⟨l4, rfl⟩ : ∃ z, z = s := ⟨s, rfl⟩
  refine xr_iload S 2 dX6_firstBegin_32 rfl ?_
  refine xr_bipush S (60) dX6_firstBegin_34 (by decide) ?_
  refine xr_iadd S dX6_firstBegin_36 ?_
  refine xr_sipush S (2879) dX6_firstBegin_37 (by decide) ?_
  refine xw_icmp_gt S 62 dX6_firstBegin_40 (by decide) hw (fun c hw => ?_) (fun c hw => ?_)
  · refine xr_iconst S (-1) dX6_firstBegin_62 (by decide) ?_
    exact E.1 _ _ _ _ _ _ rfl dX6_firstBegin_63 ⟨_, rfl, rfl, hw⟩ (Nat.le_of_ble_eq_true rfl) (Nat.le_of_ble_eq_true rfl)
  · refine xr_aload_n S 0 dX6_firstBegin_43 rfl ?_
    refine xr_aload_n S 1 dX6_firstBegin_44 rfl ?_
    refine xr_iload S 2 dX6_firstBegin_45 rfl ?_
    obtain ⟨f9, f9x⟩ := id hO
    refine xr_callV S 7 [.ref l1, .int l4] [] dX6_firstBegin_47 (k_X6_canBegin l (xdc X) h l0 l1 l4 _ hw) gX6_firstBegin_X6_canBegin rfl pd_X6_canBegin ⟨Nat.le_of_ble_eq_true rfl, Nat.le_of_ble_eq_true rfl⟩ rfl (Nat.le_of_ble_eq_true rfl) ⟨Nat.le_of_ble_eq_true rfl, Nat.le_of_ble_eq_true rfl⟩ f9x rfl (fun v9 h12 hv => ?_)
    obtain ⟨r10, rfl, rfl, hw⟩ := hv
    refine xw_if_eq S 56 dX6_firstBegin_50 (by decide) hw (fun c hw => ?_) (fun c hw => ?_)
    · refine xr_iinc S 2 ((l4 + 1)) [(4, .int (l4 + 1)), (0, .ref l0), (1, .ref l1)] dX6_firstBegin_56 rfl rfl (by decide) rfl ?_
      refine xr_goto S (tgt := 32) dX6_firstBegin_59 (by decide) ?_
      refine xr_sub S [(0, .ref l0), (1, .ref l1), (4, .int (l4 + 1))] [1, 2, 0] rfl ?_
      exact hr32 (l4 + 1) hw
    · refine xr_iload S 2 dX6_firstBegin_53 rfl ?_
      exact E.1 _ _ _ _ _ _ rfl dX6_firstBegin_55 ⟨_, rfl, rfl, hw⟩ (Nat.le_of_ble_eq_true rfl) (Nat.le_of_ble_eq_true rfl)
def w_X6_firstBegin (dc : Nat × Nat) (h : XH) (l0 : Nat) (l1 : Nat) (l2 : Int32) (Po : Int32 → Prop) : Prop :=
  wO h l0 7 (wR h l1 4 0 (fun a1 => wI h a1 5 1 (fun v2 => wR h l1 4 1 (fun a3 => wI h a3 1 1 (fun v4 => wIf (v2 ≤ v4) (w_X6_freeFrom dc h l0 l1 (fun r6 => w_X6_firstBegin_32 dc h l0 l1 Po (if l2 < r6 then r6 else l2))) (Po (-1)))))))
set_option maxRecDepth 100000 in
set_option maxHeartbeats 4000000 in
theorem k_X6_firstBegin (l : Launch) (dc : Nat × Nat) (h : XH) (l0 : Nat) (l1 : Nat) (l2 : Int32) (Po : Int32 → Prop) (hw : w_X6_firstBegin dc h l0 l1 l2 Po) : xM l dc yX6_firstBegin wsX6_firstBegin 6 137 0 0 [.ref l0, .ref l1, .int l2] h (xRi h Po) := by
  refine xM_of [(0, .ref l0), (1, .ref l1), (2, .int l2)] (own := RX6) (cc := cX6_firstBegin) (nL := 5) (ret := (some .int)) (by decide +kernel) rfl rfl (Nat.le_of_ble_eq_true rfl) rfl ?_
  intro X V hX S E
  subst hX
  obtain ⟨hO, hw⟩ := hw
  refine xr_aload_n S 1 dX6_firstBegin_0 rfl ?_
  refine xw_getR S 4 0 dX6_firstBegin_1 in_X6_firstBegin_X3 rfl (by decide) (Or.inr xn_X6_188) (Or.inl rfl) hw (fun a1 hw => ?_)
  refine xw_getI S 5 1 dX6_firstBegin_4 in_X6_firstBegin_X4 rfl (by decide) (Or.inr xn_X6_255) (Or.inl rfl) hw (fun v2 hw => ?_)
  refine xr_aload_n S 1 dX6_firstBegin_7 rfl ?_
  refine xw_getR S 4 1 dX6_firstBegin_8 in_X6_firstBegin_X3 rfl (by decide) (Or.inr xn_X6_208) (Or.inl rfl) hw (fun a3 hw => ?_)
  refine xw_getI S 1 1 dX6_firstBegin_11 in_X6_firstBegin_X0 rfl (by decide) (Or.inr xn_X6_258) (Or.inl rfl) hw (fun v4 hw => ?_)
  refine xw_icmp_le S 19 dX6_firstBegin_14 (by decide) hw (fun c hw => ?_) (fun c hw => ?_)
  · refine xr_iload_n S 2 dX6_firstBegin_19 rfl ?_
    refine xr_aload_n S 0 dX6_firstBegin_20 rfl ?_
    refine xr_aload_n S 1 dX6_firstBegin_21 rfl ?_
    obtain ⟨f5, f5x⟩ := id hO
    refine xr_callV S 7 [.ref l1] [.int l2] dX6_firstBegin_22 (k_X6_freeFrom l (xdc X) h l0 l1 _ hw) gX6_firstBegin_X6_freeFrom rfl pd_X6_freeFrom ⟨Nat.le_of_ble_eq_true rfl, Nat.le_of_ble_eq_true rfl⟩ rfl (Nat.le_of_ble_eq_true rfl) ⟨Nat.le_of_ble_eq_true rfl, Nat.le_of_ble_eq_true rfl⟩ f5x rfl (fun v9 h8 hv => ?_)
    obtain ⟨r6, rfl, rfl, hw⟩ := hv
    refine xr_mmax S dX6_firstBegin_25 m_X6_firstBegin_3 m_X6_firstBegin_4 m_X6_firstBegin_5 m_X6_firstBegin_6 (Nat.le_of_ble_eq_true rfl) (Nat.le_of_ble_eq_true rfl) ⟨Nat.le_of_ble_eq_true rfl, Nat.le_of_ble_eq_true rfl⟩ ?_
    refine xr_istore_n S [(3, .int (if l2 < r6 then r6 else l2)), (0, .ref l0), (1, .ref l1), (2, .int l2)] dX6_firstBegin_28 (by decide) rfl ?_
    refine xr_iload_n S 0 dX6_firstBegin_29 rfl ?_
    refine xr_istore S [(4, .int (if l2 < r6 then r6 else l2)), (3, .int (if l2 < r6 then r6 else l2)), (0, .ref l0), (1, .ref l1), (2, .int l2)] dX6_firstBegin_30 (by decide) rfl ?_
    refine xr_sub S [(0, .ref l0), (1, .ref l1), (4, .int (if l2 < r6 then r6 else l2))] [2, 3, 0] rfl ?_
    exact k_X6_firstBegin_32 S h l0 l1 Po E hO (if l2 < r6 then r6 else l2) hw
  · refine xr_iconst S (-1) dX6_firstBegin_17 (by decide) ?_
    exact E.1 _ _ _ _ _ _ rfl dX6_firstBegin_18 ⟨_, rfl, rfl, hw⟩ (Nat.le_of_ble_eq_true rfl) (Nat.le_of_ble_eq_true rfl)
def w_X6_earliest (dc : Nat × Nat) (h : XH) (l0 : Nat) (l1 : Int32) (l2 : Int32) (l3 : Int32) (Po : Int32 → XH → Prop) (PX : String → XH → Prop) : Prop :=
  wO h l0 7 ( w_X6_checkCall dc h l0 l1 l2 l3 ( w_X6_routeOf dc h l0 l1 l2 (fun r7 h8 => wOpt r7 (Po (-1) h8) (fun q10 => wO h8 l0 7 ( w_X6_firstBegin dc h8 l0 q10 l3 (fun r13 => Po r13 h8))))) (fun E => PX E h))
set_option maxRecDepth 100000 in
set_option maxHeartbeats 4000000 in
theorem k_X6_earliest (l : Launch) (hfl : l.stackTraces = false) (dc : Nat × Nat) (h : XH) (l0 : Nat) (l1 : Int32) (l2 : Int32) (l3 : Int32) (Po : Int32 → XH → Prop) (PX : String → XH → Prop) (hw : w_X6_earliest dc h l0 l1 l2 l3 Po PX) : xMX l dc yX6_earliest wsX6_earliest 9 161 4 22 [.ref l0, .int l1, .int l2, .int l3] h (xPi Po) PX := by
  refine xMX_of hfl [(0, .ref l0), (1, .int l1), (2, .int l2), (3, .int l3)] (own := RX6) (cc := cX6_earliest) (nL := 5) (ret := (some .int)) (by decide +kernel) rfl rfl (Nat.le_of_ble_eq_true rfl) rfl ?_
  intro X V VX hX S2 E EX TT
  subst hX
  have S := S2.S
  refine xr_aload_n S 0 dX6_earliest_0 rfl ?_
  refine xr_iload_n S 1 dX6_earliest_1 rfl ?_
  refine xr_iload_n S 2 dX6_earliest_2 rfl ?_
  refine xr_iload_n S 3 dX6_earliest_3 rfl ?_
  obtain ⟨e1, hw⟩ := hw
  obtain ⟨f2, f2x⟩ := id e1
  refine xr_callVX S2 7 [.int l1, .int l2, .int l3] [] dX6_earliest_4 (k_X6_checkCall l hfl (xdc X) h l0 l1 l2 l3 _ _ hw) gX6_earliest_X6_checkCall rfl pd_X6_checkCall ⟨Nat.le_of_ble_eq_true rfl, Nat.le_of_ble_eq_true rfl⟩ rfl (Nat.le_of_ble_eq_true rfl) ⟨Nat.le_of_ble_eq_true rfl, Nat.le_of_ble_eq_true rfl⟩ f2x rfl (fun E1 h9 hx => by obtain ⟨rfl, hx⟩ := hx; exact EX _ _ _ _ _ _ hx (Nat.le_of_ble_eq_true rfl) (Nat.le_of_ble_eq_true rfl)) (fun v9 h5 hv => ?_)
  obtain ⟨rfl, rfl, hw⟩ := hv
  refine xr_aload_n S 0 dX6_earliest_7 rfl ?_
  refine xr_iload_n S 1 dX6_earliest_8 rfl ?_
  refine xr_iload_n S 2 dX6_earliest_9 rfl ?_
  obtain ⟨f6, f6x⟩ := id e1
  refine xr_callV S 7 [.int l1, .int l2] [] dX6_earliest_10 (k_X6_routeOf l (xdc X) h l0 l1 l2 _ hw) gX6_earliest_X6_routeOf rfl pd_X6_routeOf ⟨Nat.le_of_ble_eq_true rfl, Nat.le_of_ble_eq_true rfl⟩ rfl (Nat.le_of_ble_eq_true rfl) ⟨Nat.le_of_ble_eq_true rfl, Nat.le_of_ble_eq_true rfl⟩ f6x rfl (fun v9 h8 hv => ?_)
  obtain ⟨r7, rfl, hw⟩ := hv
  refine xr_astoreq S [(4, va_rf r7), (0, .ref l0), (1, .int l1), (2, .int l2), (3, .int l3)] dX6_earliest_13 (by decide) rfl ?_
  refine xr_aloadq S 0 dX6_earliest_15 rfl ?_
  refine xw_ifnonnull S 24 dX6_earliest_17 (by decide) hw (fun q10 hr hwq10 => ?_) (fun hr hwq10 => ?_)
  · subst hr
    have hw := hwq10
    refine xr_aload_n S 1 dX6_earliest_24 rfl ?_
    refine xr_aload S 0 dX6_earliest_25 rfl ?_
    refine xr_iload_n S 4 dX6_earliest_27 rfl ?_
    obtain ⟨e11, hw⟩ := hw
    obtain ⟨f12, f12x⟩ := id e11
    refine xr_callV S 7 [.ref q10, .int l3] [] dX6_earliest_28 (k_X6_firstBegin l (xdc X) h8 l0 q10 l3 _ hw) gX6_earliest_X6_firstBegin rfl pd_X6_firstBegin ⟨Nat.le_of_ble_eq_true rfl, Nat.le_of_ble_eq_true rfl⟩ rfl (Nat.le_of_ble_eq_true rfl) ⟨Nat.le_of_ble_eq_true rfl, Nat.le_of_ble_eq_true rfl⟩ f12x rfl (fun v9 h15 hv => ?_)
    obtain ⟨r13, rfl, rfl, hw⟩ := hv
    exact E.1 _ _ _ _ _ _ rfl dX6_earliest_31 ⟨_, rfl, hw⟩ (Nat.le_of_ble_eq_true rfl) (Nat.le_of_ble_eq_true rfl)
  · subst hr
    have hw := hwq10
    refine xr_iconst S (-1) dX6_earliest_20 (by decide) ?_
    refine xr_goto S (tgt := 31) dX6_earliest_21 (by decide) ?_
    exact E.1 _ _ _ _ _ _ rfl dX6_earliest_31 ⟨_, rfl, hw⟩ (Nat.le_of_ble_eq_true rfl) (Nat.le_of_ble_eq_true rfl)
theorem in_X6_enter_X6 : ∀ w ∈ wsX60, w ∈ wsX6_enter := by decide +kernel
theorem m_X6_enter_1 : Cond.fieldLink RX6 29 "PilotBook" "passages" "Ljava/util/ArrayList;" ∈ wsX6_enter := by decide +kernel
theorem in_X6_enter_X1 : ∀ w ∈ wsX10, w ∈ wsX6_enter := by decide +kernel
theorem in_X6_enter_X3 : ∀ w ∈ wsX30, w ∈ wsX6_enter := by decide +kernel
theorem in_X6_enter_X4 : ∀ w ∈ wsX40, w ∈ wsX6_enter := by decide +kernel
theorem in_X6_enter_X2 : ∀ w ∈ wsX20, w ∈ wsX6_enter := by decide +kernel
def w_X6_enter_37 (dc : Nat × Nat) (h : XH) (l1 : Nat) (Po : XH → Prop) : Prop :=
  wR h l1 2 0 (fun a9 => wR h a9 4 0 (fun a10 => wP h a10 5 3 (.ref l1) (fun h11 => wR h11 l1 2 3 (fun a12 => wP h11 a12 3 3 (.ref l1) (fun h13 => Po h13)))))
set_option maxRecDepth 100000 in
set_option maxHeartbeats 4000000 in
theorem k_X6_enter_37 {V : XVT} {X : XC} {l : Launch} (S : xS V X l RX6 yX6_enter.name cX6_enter 2 wsX6_enter (xRm 7 171 1 64)) (h : XH) (l1 : Nat) (Po : XH → Prop) (E : xEnd V cX6_enter none 1 64 (xPv Po)) (hw : w_X6_enter_37 (xdc X) h l1 Po) : V 1 64 h 37 [(1, .ref l1)] [] := by
  refine xr_aload_n S 0 dX6_enter_37 rfl ?_
  refine xw_getR S 2 0 dX6_enter_38 in_X6_enter_X1 rfl (by decide) (Or.inr xn_X6_133) (Or.inl rfl) hw (fun a9 hw => ?_)
  refine xw_getR S 4 0 dX6_enter_41 in_X6_enter_X3 rfl (by decide) (Or.inr xn_X6_188) (Or.inl rfl) hw (fun a10 hw => ?_)
  refine xr_aload_n S 0 dX6_enter_44 rfl ?_
  refine xw_put S 5 3 tyX4 dX6_enter_45 in_X6_enter_X4 rfl (by decide) (Or.inr xn_X6_129) (Or.inl rfl) tyX4_ok nmX4 rfl rfl (xfit_q _ (some l1)) hw (fun h11 hw => ?_)
  refine xr_aload_n S 0 dX6_enter_48 rfl ?_
  refine xw_getR S 2 3 dX6_enter_49 in_X6_enter_X1 rfl (by decide) (Or.inr xn_X6_192) (Or.inl rfl) hw (fun a12 hw => ?_)
  refine xr_aload_n S 0 dX6_enter_52 rfl ?_
  refine xw_put S 3 3 tyX2 dX6_enter_53 in_X6_enter_X2 rfl (by decide) (Or.inr xn_X6_199) (Or.inl rfl) tyX2_ok nmX2 rfl rfl (xfit_q _ (some l1)) hw (fun h13 hw => ?_)
  exact E.2.2.1 _ _ _ _ _ rfl dX6_enter_56 ⟨rfl, hw⟩ (Nat.le_of_ble_eq_true rfl) (Nat.le_of_ble_eq_true rfl)
def w_X6_enter (dc : Nat × Nat) (h : XH) (l0 : Nat) (l1 : Nat) (Po : XH → Prop) : Prop :=
  wR h l0 7 4 (fun a1 => wO h a1 0 ( w_Jx4a65c_add_9ea2d dc h a1 l1 (fun r4 h5 => wR h5 l1 2 0 (fun a7 => wI h5 a7 4 2 (fun v8 => wIf (v8 = 0) (w_X6_enter_37 dc h5 l1 Po) (wQ h5 l1 2 4 (fun r14 => wOpt r14 (w_X6_enter_37 dc h5 l1 Po) (fun q15 => wQ h5 l1 2 4 (fun r16 => wO h5 l1 2 ( w_X1_end dc h5 l1 (fun r19 => wDer r16 (fun q22 => wP h5 q22 2 6 (.int r19) (fun h23 => (w_X6_enter_37 dc h23 l1 Po))))))))))))))
set_option maxRecDepth 100000 in
set_option maxHeartbeats 4000000 in
theorem k_X6_enter (l : Launch) (dc : Nat × Nat) (h : XH) (l0 : Nat) (l1 : Nat) (Po : XH → Prop) (hw : w_X6_enter dc h l0 l1 Po) : xM l dc yX6_enter wsX6_enter 7 171 1 64 [.ref l0, .ref l1] h (xPv Po) := by
  refine xM_of [(0, .ref l0), (1, .ref l1)] (own := RX6) (cc := cX6_enter) (nL := 2) (ret := none) (by decide +kernel) rfl rfl (Nat.le_of_ble_eq_true rfl) rfl ?_
  intro X V hX S E
  subst hX
  refine xr_aload_n S 0 dX6_enter_0 rfl ?_
  refine xw_getR S 7 4 dX6_enter_1 in_X6_enter_X6 rfl (by decide) (Or.inl m_X6_enter_1) (Or.inl rfl) hw (fun a1 hw => ?_)
  refine xr_aload_n S 1 dX6_enter_4 rfl ?_
  obtain ⟨e2, hw⟩ := hw
  obtain ⟨f3, f3x⟩ := id e2
  refine xr_callV S 0 [.ref l1] [] dX6_enter_5 (k_Jx4a65c_add_9ea2d l (xdc X) h a1 l1 _ hw) gX6_enter_Jx4a65c_add_9ea2d rfl pd_Jx4a65c_add_9ea2d ⟨Nat.le_of_ble_eq_true rfl, Nat.le_of_ble_eq_true rfl⟩ rfl (Nat.le_of_ble_eq_true rfl) ⟨Nat.le_of_ble_eq_true rfl, Nat.le_of_ble_eq_true rfl⟩ f3x rfl (fun v9 h5 hv => ?_)
  obtain ⟨r4, rfl, hw⟩ := hv
  refine xr_pop S dX6_enter_8 rfl ?_
  refine xr_aload_n S 1 dX6_enter_9 rfl ?_
  refine xw_getR S 2 0 dX6_enter_10 in_X6_enter_X1 rfl (by decide) (Or.inr xn_X6_133) (Or.inl rfl) hw (fun a7 hw => ?_)
  refine xw_getI S 4 2 dX6_enter_13 in_X6_enter_X3 rfl (by decide) (Or.inr xn_X6_139) (Or.inl rfl) hw (fun v8 hw => ?_)
  refine xw_if_eq S 37 dX6_enter_16 (by decide) hw (fun c hw => ?_) (fun c hw => ?_)
  · refine xr_sub S [(1, .ref l1)] [1] rfl ?_
    exact k_X6_enter_37 S h5 l1 Po E hw
  · refine xr_aload_n S 1 dX6_enter_19 rfl ?_
    refine xw_getQ S 2 4 dX6_enter_20 in_X6_enter_X1 rfl (by decide) (Or.inr xn_X6_145) (Or.inl rfl) hw (fun r14 hw => ?_)
    refine xw_ifnull S 37 dX6_enter_23 (by decide) hw (fun hr hwq15 => ?_) (fun q15 hr hwq15 => ?_)
    · subst hr
      have hw := hwq15
      refine xr_sub S [(1, .ref l1)] [1] rfl ?_
      exact k_X6_enter_37 S h5 l1 Po E hw
    · subst hr
      have hw := hwq15
      refine xr_aload_n S 1 dX6_enter_26 rfl ?_
      refine xw_getQ S 2 4 dX6_enter_27 in_X6_enter_X1 rfl (by decide) (Or.inr xn_X6_145) (Or.inl rfl) hw (fun r16 hw => ?_)
      refine xr_aload_n S 1 dX6_enter_30 rfl ?_
      obtain ⟨e17, hw⟩ := hw
      obtain ⟨f18, f18x⟩ := id e17
      refine xr_callV S 2 [] [va_rf r16] dX6_enter_31 (k_X1_end l (xdc X) h5 l1 _ hw) gX6_enter_X1_end rfl pd_X1_end ⟨Nat.le_of_ble_eq_true rfl, Nat.le_of_ble_eq_true rfl⟩ rfl (by cases r16 <;> exact Nat.le_of_ble_eq_true rfl) ⟨Nat.le_of_ble_eq_true rfl, Nat.le_of_ble_eq_true rfl⟩ f18x rfl (fun v9 h21 hv => ?_)
      obtain ⟨r19, rfl, rfl, hw⟩ := hv
      obtain ⟨q22, hrq22, hwq22⟩ := hw
      subst hrq22
      have hw := hwq22
      refine xw_put S 2 6 tyX1 dX6_enter_34 in_X6_enter_X1 rfl (by decide) (Or.inr xn_X6_200) (Or.inl rfl) tyX1_ok nmX1 rfl rfl ⟨rfl, rfl⟩ hw (fun h23 hw => ?_)
      refine xr_sub S [(1, .ref l1)] [1] rfl ?_
      exact k_X6_enter_37 S h23 l1 Po E hw
theorem in_X6_book_X6 : ∀ w ∈ wsX60, w ∈ wsX6_book := by decide +kernel
theorem m_X6_book_1 : Cond.fieldLink RX6 29 "PilotBook" "passages" "Ljava/util/ArrayList;" ∈ wsX6_book := by decide +kernel
theorem gd_X6_book_65 : ∀ w ∈ (vx_atS RX6 65 "java/lang/IllegalStateException" xNms).filter goodWord, w ∈ wsX6_book := by decide +kernel
theorem m_X6_book_3 : Cond.classLink RX6 61 "java/lang/IllegalStateException" ∈ wsX6_book := by decide +kernel
theorem m_X6_book_4 : Cond.initialized "java/lang/IllegalStateException" ∈ wsX6_book := by decide +kernel
theorem in_X6_book_X1 : ∀ w ∈ wsX10, w ∈ wsX6_book := by decide +kernel
theorem m_X6_book_6 : Cond.classLink RX6 134 RX1 ∈ wsX6_book := by decide +kernel
theorem m_X6_book_7 : Cond.instantiable RX1 7 ∈ wsX6_book := by decide +kernel
theorem m_X6_book_8 : Cond.initialized RX1 ∈ wsX6_book := by decide +kernel
theorem m_X6_book_9 : Cond.methodLink RX6 176 yX1_init ∈ wsX6_book := by decide +kernel
theorem m_X6_book_10 : Cond.instanceMethod yX1_init ∈ wsX6_book := by decide +kernel
def w_X6_book_73 (dc : Nat × Nat) (h : XH) (l0 : Nat) (l3 : Int32) (l4 : Int32) (l5 : Nat) (l6 : Int32) (t0 : Option Nat) (Po : Int32 → XH → Prop) (PX : String → XH → Prop) : Prop :=
  wOpt t0 (PX "java/lang/IllegalStateException" h) (fun q29 => wNew h 2 [.null, .int 0, .int 0, .null, .null, .null, .int 0] (fun q30 h31 => w_X1_init dc h31 q30 l5 l3 l6 q29 (fun h33 => wO h33 l0 7 ( w_X6_enter dc h33 l0 q30 (fun h38 => Po l4 h38)))))
set_option maxRecDepth 100000 in
set_option maxHeartbeats 4000000 in
theorem k_X6_book_73 {V : XVT} {VX : XWT} {X : XC} {l : Launch} (hfl : l.stackTraces = false) (S2 : xSX V VX X l RX6 yX6_book.name cX6_book 8 wsX6_book (xRm 9 192 7 99)) (h : XH) (l0 : Nat) (l3 : Int32) (l4 : Int32) (l5 : Nat) (l6 : Int32) (t0 : Option Nat) (Po : Int32 → XH → Prop) (PX : String → XH → Prop) (E : xEnd V cX6_book (some .int) 7 99 (xPi Po)) (EX : xEndX VX 7 99 PX) (TT : xThr V RX6 cX6_book wsX6_book (xRm 9 192 7 99) 7 99 PX) (hw : w_X6_book_73 (xdc X) h l0 l3 l4 l5 l6 t0 Po PX) : V 5 28 h 73 [(0, .ref l0), (3, .int l3), (4, .int l4), (5, .ref l5), (6, .int l6)] [va_rf t0] := by
  have S := S2.S
  refine xr_astoreq S [(7, va_rf t0), (0, .ref l0), (3, .int l3), (4, .int l4), (5, .ref l5), (6, .int l6)] dX6_book_73 (by decide) rfl ?_
  refine xr_aloadq S 0 dX6_book_75 rfl ?_
  refine xw_ifnonnull S 90 dX6_book_77 (by decide) hw (fun q29 hr hwq29 => ?_) (fun hr hwq29 => ?_)
  · subst hr
    have hw := hwq29
    refine xr_aload_n S 1 dX6_book_90 rfl ?_
    refine xr_new S 2 tyX1 [.null, .int 0, .int 0, .null, .null, .null, .int 0] dX6_book_91 in_X6_book_X1 tyX1_ok m_X6_book_6 m_X6_book_7 m_X6_book_8 rfl dfX1 (Nat.le_of_ble_eq_true rfl) (Nat.le_of_ble_eq_true rfl) (fun q30 hq => ?_)
    have hw := hw q30 hq
    generalize xup h q30 (.inr (2, [.null, .int 0, .int 0, .null, .null, .null, .int 0])) = h31 at hw ⊢
    refine xr_dup S dX6_book_94 rfl ?_
    refine xr_aload S 4 dX6_book_95 rfl ?_
    refine xr_iload_n S 2 dX6_book_97 rfl ?_
    refine xr_iload S 5 dX6_book_98 rfl ?_
    refine xr_aload S 0 dX6_book_100 rfl ?_
    refine xr_callI S [.ref l5, .int l3, .int l6, .ref q29] [.ref q30, .ref l0] dX6_book_102 (k_X1_init l (xdc X) h31 q30 l5 l3 l6 q29 _ hw) gX6_book_X1_init rfl m_X6_book_8 m_X6_book_9 m_X6_book_10 rfl pd_X1_init ⟨Nat.le_of_ble_eq_true rfl, Nat.le_of_ble_eq_true rfl⟩ rfl (Nat.le_of_ble_eq_true rfl) ⟨Nat.le_of_ble_eq_true rfl, Nat.le_of_ble_eq_true rfl⟩ (fun v9 h33 hv => ?_)
    obtain ⟨rfl, hw⟩ := hv
    obtain ⟨e35, hw⟩ := hw
    obtain ⟨f36, f36x⟩ := id e35
    refine xr_callV S 7 [.ref q30] [] dX6_book_105 (k_X6_enter l (xdc X) h33 l0 q30 _ hw) gX6_book_X6_enter rfl pd_X6_enter ⟨Nat.le_of_ble_eq_true rfl, Nat.le_of_ble_eq_true rfl⟩ rfl (Nat.le_of_ble_eq_true rfl) ⟨Nat.le_of_ble_eq_true rfl, Nat.le_of_ble_eq_true rfl⟩ f36x rfl (fun v9 h38 hv => ?_)
    obtain ⟨rfl, hw⟩ := hv
    refine xr_iload S 3 dX6_book_108 rfl ?_
    exact E.1 _ _ _ _ _ _ rfl dX6_book_110 ⟨_, rfl, hw⟩ (Nat.le_of_ble_eq_true rfl) (Nat.le_of_ble_eq_true rfl)
  · subst hr
    have hw := hwq29
    exact TT _ _ h _ _ _ "java/lang/IllegalStateException" "there is no minute for the passage" 61 174 65 dX6_book_80 dX6_book_83 dX6_book_84 dX6_book_86 dX6_book_89 rfl (by decide) (by decide +kernel) (by decide) m_X6_book_3 m_X6_book_4 gd_X6_book_65 xbad_65 xot_61_65 (Nat.le_of_ble_eq_true rfl) (Nat.le_of_ble_eq_true rfl) (Nat.le_of_ble_eq_true rfl) (Nat.le_of_ble_eq_true rfl) hw (Nat.le_of_ble_eq_true rfl) (Nat.le_of_ble_eq_true rfl)
def w_X6_book (dc : Nat × Nat) (h : XH) (l0 : Nat) (l1 : Int32) (l2 : Int32) (l3 : Int32) (Po : Int32 → XH → Prop) (PX : String → XH → Prop) : Prop :=
  wO h l0 7 ( w_X6_checkCall dc h l0 l1 l2 l3 ( wR h l0 7 4 (fun a6 => wO h a6 0 ( w_Jx4a65c_size_8abf5 dc h a6 (fun r9 => w_X6_checkRoom dc h r9 40 ( w_X6_routeOf dc h l0 l1 l2 (fun r16 h17 => wOpt r16 (PX "java/lang/IllegalStateException" h17) (fun q19 => wO h17 l0 7 ( w_X6_firstBegin dc h17 l0 q19 l3 (fun r22 => wIf (r22 = (-1)) (w_X6_book_73 dc h17 l0 l3 r9 q19 r22 none Po PX) (w_X6_pilotFor dc h17 l0 q19 r22 (fun r26 => w_X6_book_73 dc h17 l0 l3 r9 q19 r22 r26 Po PX))))))) (fun E => PX E h))))) (fun E => PX E h))
set_option maxRecDepth 100000 in
set_option maxHeartbeats 4000000 in
theorem k_X6_book (l : Launch) (hfl : l.stackTraces = false) (dc : Nat × Nat) (h : XH) (l0 : Nat) (l1 : Int32) (l2 : Int32) (l3 : Int32) (Po : Int32 → XH → Prop) (PX : String → XH → Prop) (hw : w_X6_book dc h l0 l1 l2 l3 Po PX) : xMX l dc yX6_book wsX6_book 9 192 7 99 [.ref l0, .int l1, .int l2, .int l3] h (xPi Po) PX := by
  refine xMX_of hfl [(0, .ref l0), (1, .int l1), (2, .int l2), (3, .int l3)] (own := RX6) (cc := cX6_book) (nL := 8) (ret := (some .int)) (by decide +kernel) rfl rfl (Nat.le_of_ble_eq_true rfl) rfl ?_
  intro X V VX hX S2 E EX TT
  subst hX
  have S := S2.S
  refine xr_aload_n S 0 dX6_book_0 rfl ?_
  refine xr_iload_n S 1 dX6_book_1 rfl ?_
  refine xr_iload_n S 2 dX6_book_2 rfl ?_
  refine xr_iload_n S 3 dX6_book_3 rfl ?_
  obtain ⟨e1, hw⟩ := hw
  obtain ⟨f2, f2x⟩ := id e1
  refine xr_callVX S2 7 [.int l1, .int l2, .int l3] [] dX6_book_4 (k_X6_checkCall l hfl (xdc X) h l0 l1 l2 l3 _ _ hw) gX6_book_X6_checkCall rfl pd_X6_checkCall ⟨Nat.le_of_ble_eq_true rfl, Nat.le_of_ble_eq_true rfl⟩ rfl (Nat.le_of_ble_eq_true rfl) ⟨Nat.le_of_ble_eq_true rfl, Nat.le_of_ble_eq_true rfl⟩ f2x rfl (fun E1 h9 hx => by obtain ⟨rfl, hx⟩ := hx; exact EX _ _ _ _ _ _ hx (Nat.le_of_ble_eq_true rfl) (Nat.le_of_ble_eq_true rfl)) (fun v9 h5 hv => ?_)
  obtain ⟨rfl, rfl, hw⟩ := hv
  refine xr_aload_n S 0 dX6_book_7 rfl ?_
  refine xw_getR S 7 4 dX6_book_8 in_X6_book_X6 rfl (by decide) (Or.inl m_X6_book_1) (Or.inl rfl) hw (fun a6 hw => ?_)
  obtain ⟨e7, hw⟩ := hw
  obtain ⟨f8, f8x⟩ := id e7
  refine xr_callV S 0 [] [] dX6_book_11 (k_Jx4a65c_size_8abf5 l (xdc X) h a6 _ hw) gX6_book_Jx4a65c_size_8abf5 rfl pd_Jx4a65c_size_8abf5 ⟨Nat.le_of_ble_eq_true rfl, Nat.le_of_ble_eq_true rfl⟩ rfl (Nat.le_of_ble_eq_true rfl) ⟨Nat.le_of_ble_eq_true rfl, Nat.le_of_ble_eq_true rfl⟩ f8x rfl (fun v9 h11 hv => ?_)
  obtain ⟨r9, rfl, rfl, hw⟩ := hv
  refine xr_istore S [(4, .int r9), (0, .ref l0), (1, .int l1), (2, .int l2), (3, .int l3)] dX6_book_14 (by decide) rfl ?_
  refine xr_iload S 0 dX6_book_16 rfl ?_
  refine xr_bipush S (40) dX6_book_18 (by decide) ?_
  refine xr_callSX S2 [.int r9, .int 40] [] dX6_book_20 (k_X6_checkRoom l hfl (xdc X) h r9 40 _ _ hw) gX6_book_X6_checkRoom rfl pd_X6_checkRoom ⟨Nat.le_of_ble_eq_true rfl, Nat.le_of_ble_eq_true rfl⟩ rfl (Nat.le_of_ble_eq_true rfl) ⟨Nat.le_of_ble_eq_true rfl, Nat.le_of_ble_eq_true rfl⟩ (fun E1 h9 hx => by obtain ⟨rfl, hx⟩ := hx; exact EX _ _ _ _ _ _ hx (Nat.le_of_ble_eq_true rfl) (Nat.le_of_ble_eq_true rfl)) (fun v9 h14 hv => ?_)
  obtain ⟨rfl, rfl, hw⟩ := hv
  refine xr_aload_n S 1 dX6_book_23 rfl ?_
  refine xr_iload_n S 2 dX6_book_24 rfl ?_
  refine xr_iload_n S 3 dX6_book_25 rfl ?_
  obtain ⟨f15, f15x⟩ := id e1
  refine xr_callV S 7 [.int l1, .int l2] [] dX6_book_26 (k_X6_routeOf l (xdc X) h l0 l1 l2 _ hw) gX6_book_X6_routeOf rfl pd_X6_routeOf ⟨Nat.le_of_ble_eq_true rfl, Nat.le_of_ble_eq_true rfl⟩ rfl (Nat.le_of_ble_eq_true rfl) ⟨Nat.le_of_ble_eq_true rfl, Nat.le_of_ble_eq_true rfl⟩ f15x rfl (fun v9 h17 hv => ?_)
  obtain ⟨r16, rfl, hw⟩ := hv
  refine xr_astoreq S [(5, va_rf r16), (4, .int r9), (0, .ref l0), (1, .int l1), (2, .int l2), (3, .int l3)] dX6_book_29 (by decide) rfl ?_
  refine xr_aloadq S 0 dX6_book_31 rfl ?_
  refine xw_ifnonnull S 46 dX6_book_33 (by decide) hw (fun q19 hr hwq19 => ?_) (fun hr hwq19 => ?_)
  · subst hr
    have hw := hwq19
    refine xr_aload_n S 2 dX6_book_46 rfl ?_
    refine xr_aload S 0 dX6_book_47 rfl ?_
    refine xr_iload_n S 5 dX6_book_49 rfl ?_
    obtain ⟨e20, hw⟩ := hw
    obtain ⟨f21, f21x⟩ := id e20
    refine xr_callV S 7 [.ref q19, .int l3] [] dX6_book_50 (k_X6_firstBegin l (xdc X) h17 l0 q19 l3 _ hw) gX6_book_X6_firstBegin rfl pd_X6_firstBegin ⟨Nat.le_of_ble_eq_true rfl, Nat.le_of_ble_eq_true rfl⟩ rfl (Nat.le_of_ble_eq_true rfl) ⟨Nat.le_of_ble_eq_true rfl, Nat.le_of_ble_eq_true rfl⟩ f21x rfl (fun v9 h24 hv => ?_)
    obtain ⟨r22, rfl, rfl, hw⟩ := hv
    refine xr_istore S [(6, .int r22), (5, .ref q19), (4, .int r9), (0, .ref l0), (1, .int l1), (2, .int l2), (3, .int l3)] dX6_book_53 (by decide) rfl ?_
    refine xr_iload S 0 dX6_book_55 rfl ?_
    refine xr_iconst S (-1) dX6_book_57 (by decide) ?_
    refine xw_icmp_ne S 65 dX6_book_58 (by decide) hw (fun c hw => ?_) (fun c hw => ?_)
    · refine xr_aload_n S 3 dX6_book_65 rfl ?_
      refine xr_aload S 1 dX6_book_66 rfl ?_
      refine xr_iload S 0 dX6_book_68 rfl ?_
      obtain ⟨f25, f25x⟩ := id e20
      refine xr_callV S 7 [.ref q19, .int r22] [] dX6_book_70 (k_X6_pilotFor l (xdc X) h17 l0 q19 r22 _ hw) gX6_book_X6_pilotFor rfl pd_X6_pilotFor ⟨Nat.le_of_ble_eq_true rfl, Nat.le_of_ble_eq_true rfl⟩ rfl (Nat.le_of_ble_eq_true rfl) ⟨Nat.le_of_ble_eq_true rfl, Nat.le_of_ble_eq_true rfl⟩ f25x rfl (fun v9 h28 hv => ?_)
      obtain ⟨r26, rfl, rfl, hw⟩ := hv
      refine xr_sub S [(0, .ref l0), (3, .int l3), (4, .int r9), (5, .ref q19), (6, .int r22)] [3, 6, 2, 1, 0] rfl ?_
      exact k_X6_book_73 hfl S2 h17 l0 l3 r9 q19 r22 r26 Po PX E EX TT hw
    · refine xr_null S dX6_book_61 ?_
      refine xr_goto S (tgt := 73) dX6_book_62 (by decide) ?_
      refine xr_sub S [(0, .ref l0), (3, .int l3), (4, .int r9), (5, .ref q19), (6, .int r22)] [3, 6, 2, 1, 0] rfl ?_
      exact k_X6_book_73 hfl S2 h17 l0 l3 r9 q19 r22 none Po PX E EX TT hw
  · subst hr
    have hw := hwq19
    exact TT _ _ h17 _ _ _ "java/lang/IllegalStateException" "the ship can't go that way now" 61 168 65 dX6_book_36 dX6_book_39 dX6_book_40 dX6_book_42 dX6_book_45 rfl (by decide) (by decide +kernel) (by decide) m_X6_book_3 m_X6_book_4 gd_X6_book_65 xbad_65 xot_61_65 (Nat.le_of_ble_eq_true rfl) (Nat.le_of_ble_eq_true rfl) (Nat.le_of_ble_eq_true rfl) (Nat.le_of_ble_eq_true rfl) hw (Nat.le_of_ble_eq_true rfl) (Nat.le_of_ble_eq_true rfl)
theorem in_X6_cancel_X6 : ∀ w ∈ wsX60, w ∈ wsX6_cancel := by decide +kernel
theorem m_X6_cancel_1 : Cond.fieldLink RX6 29 "PilotBook" "passages" "Ljava/util/ArrayList;" ∈ wsX6_cancel := by decide +kernel
theorem m_X6_cancel_2 : Cond.classLink RX6 134 "PilotBook$Passage" ∈ wsX6_cancel := by decide +kernel
theorem in_X6_cancel_X1 : ∀ w ∈ wsX10, w ∈ wsX6_cancel := by decide +kernel
theorem in_X6_cancel_X3 : ∀ w ∈ wsX30, w ∈ wsX6_cancel := by decide +kernel
theorem in_X6_cancel_X4 : ∀ w ∈ wsX40, w ∈ wsX6_cancel := by decide +kernel
theorem in_X6_cancel_X2 : ∀ w ∈ wsX20, w ∈ wsX6_cancel := by decide +kernel
theorem gd_X6_cancel_65 : ∀ w ∈ (vx_atS RX6 65 "java/lang/IllegalStateException" xNms).filter goodWord, w ∈ wsX6_cancel := by decide +kernel
theorem m_X6_cancel_8 : Cond.classLink RX6 61 "java/lang/IllegalStateException" ∈ wsX6_cancel := by decide +kernel
theorem m_X6_cancel_9 : Cond.initialized "java/lang/IllegalStateException" ∈ wsX6_cancel := by decide +kernel
def w_X6_cancel_90 (dc : Nat × Nat) (h : XH) (l3 : Nat) (Po : Int32 → XH → Prop) (PX : String → XH → Prop) : Prop :=
  wI h l3 5 0 (fun v25 => Po v25 h)
set_option maxRecDepth 100000 in
set_option maxHeartbeats 4000000 in
theorem k_X6_cancel_90 {V : XVT} {VX : XWT} {X : XC} {l : Launch} (hfl : l.stackTraces = false) (S2 : xSX V VX X l RX6 yX6_cancel.name cX6_cancel 4 wsX6_cancel (xRm 6 90 1 6)) (h : XH) (l3 : Nat) (Po : Int32 → XH → Prop) (PX : String → XH → Prop) (E : xEnd V cX6_cancel (some .int) 1 6 (xPi Po)) (EX : xEndX VX 1 6 PX) (TT : xThr V RX6 cX6_cancel wsX6_cancel (xRm 6 90 1 6) 1 6 PX) (hw : w_X6_cancel_90 (xdc X) h l3 Po PX) : V 0 0 h 90 [(3, .ref l3)] [] := by
  have S := S2.S
  refine xr_aload_n S 0 dX6_cancel_90 rfl ?_
  refine xw_getI S 5 0 dX6_cancel_91 in_X6_cancel_X4 rfl (by decide) (Or.inr xn_X6_203) (Or.inl rfl) hw (fun v25 hw => ?_)
  exact E.1 _ _ _ _ _ _ rfl dX6_cancel_94 ⟨_, rfl, hw⟩ (Nat.le_of_ble_eq_true rfl) (Nat.le_of_ble_eq_true rfl)
def w_X6_cancel (dc : Nat × Nat) (h : XH) (l0 : Nat) (Po : Int32 → XH → Prop) (PX : String → XH → Prop) : Prop :=
  wR h l0 7 4 (fun a1 => wO h a1 0 ( w_Jx4a65c_size_8abf5 dc h a1 (fun r4 => wIf (0 ≤ (r4 - 1)) (wR h l0 7 4 (fun a7 => wO h a7 0 ( w_Jx4a65c_remove_915e3 dc h a7 (r4 - 1) (fun r10 h11 => wDer r10 (fun q13 => wO h11 q13 2 ( wR h11 q13 2 0 (fun a16 => wR h11 a16 4 0 (fun a17 => wQ h11 q13 2 4 (fun r18 => wP h11 a17 5 3 (va_rf r18) (fun h19 => wR h19 q13 2 3 (fun a20 => wQ h19 q13 2 5 (fun r21 => wP h19 a20 3 3 (va_rf r21) (fun h22 => wR h22 q13 2 0 (fun a23 => wI h22 a23 4 2 (fun v24 => wIf (v24 = 0) (w_X6_cancel_90 dc h22 a17 Po PX) (wQ h22 q13 2 4 (fun r26 => wOpt r26 (w_X6_cancel_90 dc h22 a17 Po PX) (fun q27 => wQ h22 q13 2 4 (fun r28 => wDer r28 (fun q29 => wP h22 q29 2 6 (.int 2880) (fun h30 => (w_X6_cancel_90 dc h30 a17 Po PX)))))))))))))))))))))) (PX "java/lang/IllegalStateException" h))))
set_option maxRecDepth 100000 in
set_option maxHeartbeats 4000000 in
theorem k_X6_cancel (l : Launch) (hfl : l.stackTraces = false) (dc : Nat × Nat) (h : XH) (l0 : Nat) (Po : Int32 → XH → Prop) (PX : String → XH → Prop) (hw : w_X6_cancel dc h l0 Po PX) : xMX l dc yX6_cancel wsX6_cancel 6 90 1 6 [.ref l0] h (xPi Po) PX := by
  refine xMX_of hfl [(0, .ref l0)] (own := RX6) (cc := cX6_cancel) (nL := 4) (ret := (some .int)) (by decide +kernel) rfl rfl (Nat.le_of_ble_eq_true rfl) rfl ?_
  intro X V VX hX S2 E EX TT
  subst hX
  have S := S2.S
  refine xr_aload_n S 0 dX6_cancel_0 rfl ?_
  refine xw_getR S 7 4 dX6_cancel_1 in_X6_cancel_X6 rfl (by decide) (Or.inl m_X6_cancel_1) (Or.inl rfl) hw (fun a1 hw => ?_)
  obtain ⟨e2, hw⟩ := hw
  obtain ⟨f3, f3x⟩ := id e2
  refine xr_callV S 0 [] [] dX6_cancel_4 (k_Jx4a65c_size_8abf5 l (xdc X) h a1 _ hw) gX6_cancel_Jx4a65c_size_8abf5 rfl pd_Jx4a65c_size_8abf5 ⟨Nat.le_of_ble_eq_true rfl, Nat.le_of_ble_eq_true rfl⟩ rfl (Nat.le_of_ble_eq_true rfl) ⟨Nat.le_of_ble_eq_true rfl, Nat.le_of_ble_eq_true rfl⟩ f3x rfl (fun v9 h6 hv => ?_)
  obtain ⟨r4, rfl, rfl, hw⟩ := hv
  refine xr_iconst S (1) dX6_cancel_7 (by decide) ?_
  refine xr_isub S dX6_cancel_8 ?_
  refine xr_istore_n S [(1, .int (r4 - 1)), (0, .ref l0)] dX6_cancel_9 (by decide) rfl ?_
  refine xr_iload_n S 0 dX6_cancel_10 rfl ?_
  refine xw_if_ge S 24 dX6_cancel_11 (by decide) hw (fun c hw => ?_) (fun c hw => ?_)
  · refine xr_aload_n S 1 dX6_cancel_24 rfl ?_
    refine xw_getR S 7 4 dX6_cancel_25 in_X6_cancel_X6 rfl (by decide) (Or.inl m_X6_cancel_1) (Or.inl rfl) hw (fun a7 hw => ?_)
    refine xr_iload_n S 0 dX6_cancel_28 rfl ?_
    obtain ⟨e8, hw⟩ := hw
    obtain ⟨f9, f9x⟩ := id e8
    refine xr_callV S 0 [.int (r4 - 1)] [] dX6_cancel_29 (k_Jx4a65c_remove_915e3 l (xdc X) h a7 (r4 - 1) _ hw) gX6_cancel_Jx4a65c_remove_915e3 rfl pd_Jx4a65c_remove_915e3 ⟨Nat.le_of_ble_eq_true rfl, Nat.le_of_ble_eq_true rfl⟩ rfl (Nat.le_of_ble_eq_true rfl) ⟨Nat.le_of_ble_eq_true rfl, Nat.le_of_ble_eq_true rfl⟩ f9x rfl (fun v9 h11 hv => ?_)
    obtain ⟨r10, rfl, hw⟩ := hv
    obtain ⟨q13, hrq13, hwq13⟩ := hw
    subst hrq13
    have hw := hwq13
    obtain ⟨e14, hw⟩ := hw
    obtain ⟨f15, f15x⟩ := id e14
    refine xr_cast S 2 dX6_cancel_32 m_X6_cancel_2 f15x rfl ?_
    refine xr_astore_n S [(2, .ref q13), (1, .int (r4 - 1)), (0, .ref l0)] dX6_cancel_35 (by decide) rfl ?_
    refine xr_aload_n S 0 dX6_cancel_36 rfl ?_
    refine xw_getR S 2 0 dX6_cancel_37 in_X6_cancel_X1 rfl (by decide) (Or.inr xn_X6_133) (Or.inl rfl) hw (fun a16 hw => ?_)
    refine xw_getR S 4 0 dX6_cancel_40 in_X6_cancel_X3 rfl (by decide) (Or.inr xn_X6_188) (Or.inl rfl) hw (fun a17 hw => ?_)
    refine xr_astore_n S [(3, .ref a17), (2, .ref q13), (1, .int (r4 - 1)), (0, .ref l0)] dX6_cancel_43 (by decide) rfl ?_
    refine xr_aload_n S 0 dX6_cancel_44 rfl ?_
    refine xr_aload_n S 1 dX6_cancel_45 rfl ?_
    refine xw_getQ S 2 4 dX6_cancel_46 in_X6_cancel_X1 rfl (by decide) (Or.inr xn_X6_145) (Or.inl rfl) hw (fun r18 hw => ?_)
    refine xw_put S 5 3 tyX4 dX6_cancel_49 in_X6_cancel_X4 rfl (by decide) (Or.inr xn_X6_129) (Or.inl rfl) tyX4_ok nmX4 rfl rfl (xfit_q _ r18) hw (fun h19 hw => ?_)
    refine xr_aload_n S 1 dX6_cancel_52 rfl ?_
    refine xw_getR S 2 3 dX6_cancel_53 in_X6_cancel_X1 rfl (by decide) (Or.inr xn_X6_192) (Or.inl rfl) hw (fun a20 hw => ?_)
    refine xr_aload_n S 1 dX6_cancel_56 rfl ?_
    refine xw_getQ S 2 5 dX6_cancel_57 in_X6_cancel_X1 rfl (by decide) (Or.inr xn_X6_196) (Or.inl rfl) hw (fun r21 hw => ?_)
    refine xw_put S 3 3 tyX2 dX6_cancel_60 in_X6_cancel_X2 rfl (by decide) (Or.inr xn_X6_199) (Or.inl rfl) tyX2_ok nmX2 rfl rfl (xfit_q _ r21) hw (fun h22 hw => ?_)
    refine xr_aload_n S 1 dX6_cancel_63 rfl ?_
    refine xw_getR S 2 0 dX6_cancel_64 in_X6_cancel_X1 rfl (by decide) (Or.inr xn_X6_133) (Or.inl rfl) hw (fun a23 hw => ?_)
    refine xw_getI S 4 2 dX6_cancel_67 in_X6_cancel_X3 rfl (by decide) (Or.inr xn_X6_139) (Or.inl rfl) hw (fun v24 hw => ?_)
    refine xw_if_eq S 90 dX6_cancel_70 (by decide) hw (fun c hw => ?_) (fun c hw => ?_)
    · refine xr_sub S [(3, .ref a17)] [0] rfl ?_
      exact k_X6_cancel_90 hfl S2 h22 a17 Po PX E EX TT hw
    · refine xr_aload_n S 1 dX6_cancel_73 rfl ?_
      refine xw_getQ S 2 4 dX6_cancel_74 in_X6_cancel_X1 rfl (by decide) (Or.inr xn_X6_145) (Or.inl rfl) hw (fun r26 hw => ?_)
      refine xw_ifnull S 90 dX6_cancel_77 (by decide) hw (fun hr hwq27 => ?_) (fun q27 hr hwq27 => ?_)
      · subst hr
        have hw := hwq27
        refine xr_sub S [(3, .ref a17)] [0] rfl ?_
        exact k_X6_cancel_90 hfl S2 h22 a17 Po PX E EX TT hw
      · subst hr
        have hw := hwq27
        refine xr_aload_n S 1 dX6_cancel_80 rfl ?_
        refine xw_getQ S 2 4 dX6_cancel_81 in_X6_cancel_X1 rfl (by decide) (Or.inr xn_X6_145) (Or.inl rfl) hw (fun r28 hw => ?_)
        refine xr_sipush S (2880) dX6_cancel_84 (by decide) ?_
        obtain ⟨q29, hrq29, hwq29⟩ := hw
        subst hrq29
        have hw := hwq29
        refine xw_put S 2 6 tyX1 dX6_cancel_87 in_X6_cancel_X1 rfl (by decide) (Or.inr xn_X6_200) (Or.inl rfl) tyX1_ok nmX1 rfl rfl ⟨rfl, rfl⟩ hw (fun h30 hw => ?_)
        refine xr_sub S [(3, .ref a17)] [0] rfl ?_
        exact k_X6_cancel_90 hfl S2 h30 a17 Po PX E EX TT hw
  · exact TT _ _ h _ _ _ "java/lang/IllegalStateException" "no passage is booked" 61 183 65 dX6_cancel_14 dX6_cancel_17 dX6_cancel_18 dX6_cancel_20 dX6_cancel_23 rfl (by decide) (by decide +kernel) (by decide) m_X6_cancel_8 m_X6_cancel_9 gd_X6_cancel_65 xbad_65 xot_61_65 (Nat.le_of_ble_eq_true rfl) (Nat.le_of_ble_eq_true rfl) (Nat.le_of_ble_eq_true rfl) (Nat.le_of_ble_eq_true rfl) hw (Nat.le_of_ble_eq_true rfl) (Nat.le_of_ble_eq_true rfl)
theorem in_X6_passage_X6 : ∀ w ∈ wsX60, w ∈ wsX6_passage := by decide +kernel
theorem m_X6_passage_1 : Cond.fieldLink RX6 29 "PilotBook" "passages" "Ljava/util/ArrayList;" ∈ wsX6_passage := by decide +kernel
theorem m_X6_passage_2 : Cond.classLink RX6 134 "PilotBook$Passage" ∈ wsX6_passage := by decide +kernel
theorem in_X6_passage_X1 : ∀ w ∈ wsX10, w ∈ wsX6_passage := by decide +kernel
theorem in_X6_passage_X3 : ∀ w ∈ wsX30, w ∈ wsX6_passage := by decide +kernel
theorem in_X6_passage_X4 : ∀ w ∈ wsX40, w ∈ wsX6_passage := by decide +kernel
theorem in_X6_passage_X2 : ∀ w ∈ wsX20, w ∈ wsX6_passage := by decide +kernel
theorem in_X6_passage_X0 : ∀ w ∈ wsX00, w ∈ wsX6_passage := by decide +kernel
theorem gd_X6_passage_114 : ∀ w ∈ (vx_atS RX6 114 "java/lang/IndexOutOfBoundsException" xNms).filter goodWord, w ∈ wsX6_passage := by decide +kernel
theorem m_X6_passage_9 : Cond.classLink RX6 110 "java/lang/IndexOutOfBoundsException" ∈ wsX6_passage := by decide +kernel
theorem m_X6_passage_10 : Cond.initialized "java/lang/IndexOutOfBoundsException" ∈ wsX6_passage := by decide +kernel
def w_X6_passage (dc : Nat × Nat) (h : XH) (l0 : Nat) (l1 : Int32) (l2 : Int32) (Po : Int32 → Prop) (PX : String → Prop) : Prop :=
  wR h l0 7 4 (fun a1 => wO h a1 0 ( w_Jx4a65c_size_8abf5 dc h a1 (fun r4 => w_X6_checkNumber dc h l1 r4 ( wR h l0 7 4 (fun a10 => wO h a10 0 ( w_Jx4a65c_get_915e3 dc h a10 l1 (fun r13 => wDer r13 (fun q16 => wO h q16 2 ( ((l2 = 0 → wR h q16 2 0 (fun a19 => wR h a19 4 0 (fun a20 => wI h a20 5 0 (fun v21 => Po v21)))) ∧ (l2 = 1 → wI h q16 2 2 (fun v22 => Po v22)) ∧ (l2 = 2 → wR h q16 2 3 (fun a23 => wI h a23 3 0 (fun v24 => Po v24))) ∧ (l2 = 3 → wR h q16 2 0 (fun a25 => wI h a25 4 3 (fun v26 => Po v26))) ∧ (l2 = 4 → wR h q16 2 0 (fun a27 => wR h a27 4 1 (fun a28 => wI h a28 1 0 (fun v29 => Po v29)))) ∧ (l2 = 5 → wR h q16 2 0 (fun a30 => wI h a30 4 2 (fun v31 => wIf (v31 = 0) (Po 0) (Po 1)))) ∧ ((l2).toInt < 0 ∨ 5 < (l2).toInt → PX "java/lang/IndexOutOfBoundsException")))))))) (fun E => PX E))))
set_option maxRecDepth 100000 in
set_option maxHeartbeats 4000000 in
theorem k_X6_passage (l : Launch) (hfl : l.stackTraces = false) (dc : Nat × Nat) (h : XH) (l0 : Nat) (l1 : Int32) (l2 : Int32) (Po : Int32 → Prop) (PX : String → Prop) (hw : w_X6_passage dc h l0 l1 l2 Po PX) : xMX l dc yX6_passage wsX6_passage 7 111 2 12 [.ref l0, .int l1, .int l2] h (xRi h Po) (xXr h PX) := by
  refine xMX_of hfl [(0, .ref l0), (1, .int l1), (2, .int l2)] (own := RX6) (cc := cX6_passage) (nL := 4) (ret := (some .int)) (by decide +kernel) rfl rfl (Nat.le_of_ble_eq_true rfl) rfl ?_
  intro X V VX hX S2 E EX TT
  subst hX
  have S := S2.S
  refine xr_iload_n S 1 dX6_passage_0 rfl ?_
  refine xr_aload_n S 0 dX6_passage_1 rfl ?_
  refine xw_getR S 7 4 dX6_passage_2 in_X6_passage_X6 rfl (by decide) (Or.inl m_X6_passage_1) (Or.inl rfl) hw (fun a1 hw => ?_)
  obtain ⟨e2, hw⟩ := hw
  obtain ⟨f3, f3x⟩ := id e2
  refine xr_callV S 0 [] [.int l1] dX6_passage_5 (k_Jx4a65c_size_8abf5 l (xdc X) h a1 _ hw) gX6_passage_Jx4a65c_size_8abf5 rfl pd_Jx4a65c_size_8abf5 ⟨Nat.le_of_ble_eq_true rfl, Nat.le_of_ble_eq_true rfl⟩ rfl (Nat.le_of_ble_eq_true rfl) ⟨Nat.le_of_ble_eq_true rfl, Nat.le_of_ble_eq_true rfl⟩ f3x rfl (fun v9 h6 hv => ?_)
  obtain ⟨r4, rfl, rfl, hw⟩ := hv
  refine xr_callSX S2 [.int l1, .int r4] [] dX6_passage_8 (k_X6_checkNumber l hfl (xdc X) h l1 r4 _ _ hw) gX6_passage_X6_checkNumber rfl pd_X6_checkNumber ⟨Nat.le_of_ble_eq_true rfl, Nat.le_of_ble_eq_true rfl⟩ rfl (Nat.le_of_ble_eq_true rfl) ⟨Nat.le_of_ble_eq_true rfl, Nat.le_of_ble_eq_true rfl⟩ (fun E1 h9 hx => by obtain ⟨rfl, hx⟩ := hx; exact EX _ _ _ _ _ _ ⟨rfl, hx⟩ (Nat.le_of_ble_eq_true rfl) (Nat.le_of_ble_eq_true rfl)) (fun v9 h9 hv => ?_)
  obtain ⟨rfl, rfl, hw⟩ := hv
  refine xr_aload_n S 0 dX6_passage_11 rfl ?_
  refine xw_getR S 7 4 dX6_passage_12 in_X6_passage_X6 rfl (by decide) (Or.inl m_X6_passage_1) (Or.inl rfl) hw (fun a10 hw => ?_)
  refine xr_iload_n S 1 dX6_passage_15 rfl ?_
  obtain ⟨e11, hw⟩ := hw
  obtain ⟨f12, f12x⟩ := id e11
  refine xr_callV S 0 [.int l1] [] dX6_passage_16 (k_Jx4a65c_get_915e3 l (xdc X) h a10 l1 _ hw) gX6_passage_Jx4a65c_get_915e3 rfl pd_Jx4a65c_get_915e3 ⟨Nat.le_of_ble_eq_true rfl, Nat.le_of_ble_eq_true rfl⟩ rfl (Nat.le_of_ble_eq_true rfl) ⟨Nat.le_of_ble_eq_true rfl, Nat.le_of_ble_eq_true rfl⟩ f12x rfl (fun v9 h15 hv => ?_)
  obtain ⟨r13, rfl, rfl, hw⟩ := hv
  obtain ⟨q16, hrq16, hwq16⟩ := hw
  subst hrq16
  have hw := hwq16
  obtain ⟨e17, hw⟩ := hw
  obtain ⟨f18, f18x⟩ := id e17
  refine xr_cast S 2 dX6_passage_19 m_X6_passage_2 f18x rfl ?_
  refine xr_astore_n S [(3, .ref q16), (0, .ref l0), (1, .int l1), (2, .int l2)] dX6_passage_22 (by decide) rfl ?_
  refine xr_iload_n S 3 dX6_passage_23 rfl ?_
  by_cases c0 : l2 = 0
  · have hw := hw.1 c0
    refine xr_swIn S 0 dX6_passage_24 (by rw [c0]; rfl) (by decide) (by decide) rfl (tgt := 64) (by decide) ?_
    refine xr_aload_n S 0 dX6_passage_64 rfl ?_
    refine xw_getR S 2 0 dX6_passage_65 in_X6_passage_X1 rfl (by decide) (Or.inr xn_X6_133) (Or.inl rfl) hw (fun a19 hw => ?_)
    refine xw_getR S 4 0 dX6_passage_68 in_X6_passage_X3 rfl (by decide) (Or.inr xn_X6_188) (Or.inl rfl) hw (fun a20 hw => ?_)
    refine xw_getI S 5 0 dX6_passage_71 in_X6_passage_X4 rfl (by decide) (Or.inr xn_X6_203) (Or.inl rfl) hw (fun v21 hw => ?_)
    exact E.1 _ _ _ _ _ _ rfl dX6_passage_74 ⟨_, rfl, rfl, hw⟩ (Nat.le_of_ble_eq_true rfl) (Nat.le_of_ble_eq_true rfl)
  by_cases c1 : l2 = 1
  · have hw := hw.2.1 c1
    refine xr_swIn S 1 dX6_passage_24 (by rw [c1]; rfl) (by decide) (by decide) rfl (tgt := 75) (by decide) ?_
    refine xr_aload_n S 0 dX6_passage_75 rfl ?_
    refine xw_getI S 2 2 dX6_passage_76 in_X6_passage_X1 rfl (by decide) (Or.inr xn_X6_153) (Or.inl rfl) hw (fun v22 hw => ?_)
    exact E.1 _ _ _ _ _ _ rfl dX6_passage_79 ⟨_, rfl, rfl, hw⟩ (Nat.le_of_ble_eq_true rfl) (Nat.le_of_ble_eq_true rfl)
  by_cases c2 : l2 = 2
  · have hw := hw.2.2.1 c2
    refine xr_swIn S 2 dX6_passage_24 (by rw [c2]; rfl) (by decide) (by decide) rfl (tgt := 80) (by decide) ?_
    refine xr_aload_n S 0 dX6_passage_80 rfl ?_
    refine xw_getR S 2 3 dX6_passage_81 in_X6_passage_X1 rfl (by decide) (Or.inr xn_X6_192) (Or.inl rfl) hw (fun a23 hw => ?_)
    refine xw_getI S 3 0 dX6_passage_84 in_X6_passage_X2 rfl (by decide) (Or.inr xn_X6_206) (Or.inl rfl) hw (fun v24 hw => ?_)
    exact E.1 _ _ _ _ _ _ rfl dX6_passage_87 ⟨_, rfl, rfl, hw⟩ (Nat.le_of_ble_eq_true rfl) (Nat.le_of_ble_eq_true rfl)
  by_cases c3 : l2 = 3
  · have hw := hw.2.2.2.1 c3
    refine xr_swIn S 3 dX6_passage_24 (by rw [c3]; rfl) (by decide) (by decide) rfl (tgt := 88) (by decide) ?_
    refine xr_aload_n S 0 dX6_passage_88 rfl ?_
    refine xw_getR S 2 0 dX6_passage_89 in_X6_passage_X1 rfl (by decide) (Or.inr xn_X6_133) (Or.inl rfl) hw (fun a25 hw => ?_)
    refine xw_getI S 4 3 dX6_passage_92 in_X6_passage_X3 rfl (by decide) (Or.inr xn_X6_207) (Or.inl rfl) hw (fun v26 hw => ?_)
    exact E.1 _ _ _ _ _ _ rfl dX6_passage_95 ⟨_, rfl, rfl, hw⟩ (Nat.le_of_ble_eq_true rfl) (Nat.le_of_ble_eq_true rfl)
  by_cases c4 : l2 = 4
  · have hw := hw.2.2.2.2.1 c4
    refine xr_swIn S 4 dX6_passage_24 (by rw [c4]; rfl) (by decide) (by decide) rfl (tgt := 96) (by decide) ?_
    refine xr_aload_n S 0 dX6_passage_96 rfl ?_
    refine xw_getR S 2 0 dX6_passage_97 in_X6_passage_X1 rfl (by decide) (Or.inr xn_X6_133) (Or.inl rfl) hw (fun a27 hw => ?_)
    refine xw_getR S 4 1 dX6_passage_100 in_X6_passage_X3 rfl (by decide) (Or.inr xn_X6_208) (Or.inl rfl) hw (fun a28 hw => ?_)
    refine xw_getI S 1 0 dX6_passage_103 in_X6_passage_X0 rfl (by decide) (Or.inr xn_X6_212) (Or.inl rfl) hw (fun v29 hw => ?_)
    exact E.1 _ _ _ _ _ _ rfl dX6_passage_106 ⟨_, rfl, rfl, hw⟩ (Nat.le_of_ble_eq_true rfl) (Nat.le_of_ble_eq_true rfl)
  by_cases c5 : l2 = 5
  · have hw := hw.2.2.2.2.2.1 c5
    refine xr_swIn S 5 dX6_passage_24 (by rw [c5]; rfl) (by decide) (by decide) rfl (tgt := 107) (by decide) ?_
    refine xr_aload_n S 0 dX6_passage_107 rfl ?_
    refine xw_getR S 2 0 dX6_passage_108 in_X6_passage_X1 rfl (by decide) (Or.inr xn_X6_133) (Or.inl rfl) hw (fun a30 hw => ?_)
    refine xw_getI S 4 2 dX6_passage_111 in_X6_passage_X3 rfl (by decide) (Or.inr xn_X6_139) (Or.inl rfl) hw (fun v31 hw => ?_)
    refine xw_if_eq S 121 dX6_passage_114 (by decide) hw (fun c hw => ?_) (fun c hw => ?_)
    · refine xr_iconst S (0) dX6_passage_121 (by decide) ?_
      exact E.1 _ _ _ _ _ _ rfl dX6_passage_122 ⟨_, rfl, rfl, hw⟩ (Nat.le_of_ble_eq_true rfl) (Nat.le_of_ble_eq_true rfl)
    · refine xr_iconst S (1) dX6_passage_117 (by decide) ?_
      refine xr_goto S (tgt := 122) dX6_passage_118 (by decide) ?_
      exact E.1 _ _ _ _ _ _ rfl dX6_passage_122 ⟨_, rfl, rfl, hw⟩ (Nat.le_of_ble_eq_true rfl) (Nat.le_of_ble_eq_true rfl)
  have hx : (l2).toInt < 0 ∨ 5 < (l2).toInt := by
    have h0 := lv_neT c0 (a := 0) rfl
    have h1 := lv_neT c1 (a := 1) rfl
    have h2 := lv_neT c2 (a := 2) rfl
    have h3 := lv_neT c3 (a := 3) rfl
    have h4 := lv_neT c4 (a := 4) rfl
    have h5 := lv_neT c5 (a := 5) rfl
    omega
  have hw := hw.2.2.2.2.2.2 hx
  refine xr_swOut S (tgt := 123) dX6_passage_24 hx (by decide) ?_
  exact TT _ _ h _ _ _ "java/lang/IndexOutOfBoundsException" "what is not 0 to 5" 110 213 114 dX6_passage_123 dX6_passage_126 dX6_passage_127 dX6_passage_129 dX6_passage_132 rfl (by decide) (by decide +kernel) (by decide) m_X6_passage_9 m_X6_passage_10 gd_X6_passage_114 xbad_114 xot_110_114 (Nat.le_of_ble_eq_true rfl) (Nat.le_of_ble_eq_true rfl) (Nat.le_of_ble_eq_true rfl) (Nat.le_of_ble_eq_true rfl) ⟨rfl, hw⟩ (Nat.le_of_ble_eq_true rfl) (Nat.le_of_ble_eq_true rfl)
