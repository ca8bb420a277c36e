theorem in_X6_hasTugs_X6 : ∀ w ∈ wsX60, w ∈ wsX6_hasTugs := by decide +kernel
theorem m_X6_hasTugs_1 : Cond.fieldLink RX6 39 "PilotBook" "tugs" "I" ∈ wsX6_hasTugs := by decide +kernel
theorem in_X6_hasTugs_X3 : ∀ w ∈ wsX30, w ∈ wsX6_hasTugs := by decide +kernel
theorem m_X6_hasTugs_3 : Cond.fieldLink RX6 29 "PilotBook" "passages" "Ljava/util/ArrayList;" ∈ wsX6_hasTugs := by decide +kernel
theorem m_X6_hasTugs_4 : Cond.classLink RX6 134 "PilotBook$Passage" ∈ wsX6_hasTugs := by decide +kernel
def w_X6_hasTugs_89 (dc : Nat × Nat) (h : XH) (l0 : Nat) (l3 : Int32) (l4 : Int32) (l5 : Int32) (Po : Int32 → Prop) (rec32 : Int32 → Prop) : Prop :=
  rec32 (l5 + 1)
set_option maxRecDepth 100000 in
set_option maxHeartbeats 4000000 in
theorem k_X6_hasTugs_89 {V : XVT} {X : XC} {l : Launch} (S : xS V X l RX6 yX6_hasTugs.name cX6_hasTugs 7 wsX6_hasTugs (xRm 4 89 0 0)) (h : XH) (l0 : Nat) (l3 : Int32) (l4 : Int32) (l5 : Int32) (Po : Int32 → Prop) (E : xEnd V cX6_hasTugs (some .boolean) 0 0 (xRi h Po)) (hO : ∃ fs, h l0 = some (.inr (7, fs))) (rec32 : Int32 → Prop) (hr32 : ∀ s : Int32, rec32 s → V 0 0 h 32 [(0, .ref l0), (3, .int l3), (4, .int l4), (5, .int s)] []) (hw : w_X6_hasTugs_89 (xdc X) h l0 l3 l4 l5 Po rec32) : V 0 0 h 89 [(0, .ref l0), (3, .int l3), (4, .int l4), (5, .int l5)] [] := by
  refine xr_iinc S 3 ((l5 + 1)) [(5, .int (l5 + 1)), (0, .ref l0), (3, .int l3), (4, .int l4)] dX6_hasTugs_89 rfl rfl (by decide) rfl ?_
  refine xr_goto S (tgt := 32) dX6_hasTugs_92 (by decide) ?_
  refine xr_sub S [(0, .ref l0), (3, .int l3), (4, .int l4), (5, .int (l5 + 1))] [1, 2, 3, 0] rfl ?_
  exact hr32 (l5 + 1) hw
def w_X6_hasTugs_32_F (dc : Nat × Nat) (h : XH) (l0 : Nat) (l3 : Int32) (l4 : Int32) (Po : Int32 → Prop) (rec32 : Int32 → Prop) : Int32 → Prop := fun l5 =>
  wR h l0 7 4 (fun a12 => wO h a12 0 ( w_Jx4a65c_size_8abf5 dc h a12 (fun r15 => wIf (r15 ≤ l5) (wZ 1 (Po 1)) (wR h l0 7 4 (fun a18 => wO h a18 0 ( w_Jx4a65c_get_915e3 dc h a18 l5 (fun r21 => wDer r21 (fun q24 => wO h q24 2 ( w_X1_tugsFrom dc h q24 (fun r28 => wIf (r28 ≤ l3) (w_X6_hasTugs_89 dc h l0 l3 l4 l5 Po rec32) (wIf ((l3 + 40) ≤ r28) (w_X6_hasTugs_89 dc h l0 l3 l4 l5 Po rec32) (w_X6_tugsInUse dc h l0 r28 (fun r32 => wIf (r32 ≤ l4) (w_X6_hasTugs_89 dc h l0 l3 l4 l5 Po rec32) (wZ 0 (Po 0)))))))))))))))
def w_X6_hasTugs_32 (dc : Nat × Nat) (h : XH) (l0 : Nat) (l3 : Int32) (l4 : Int32) (Po : Int32 → Prop) : Int32 → Prop := xloop (w_X6_hasTugs_32_F dc h l0 l3 l4 Po)
set_option maxRecDepth 100000 in
set_option maxHeartbeats 4000000 in
theorem k_X6_hasTugs_32 {V : XVT} {X : XC} {l : Launch} (S : xS V X l RX6 yX6_hasTugs.name cX6_hasTugs 7 wsX6_hasTugs (xRm 4 89 0 0)) (h : XH) (l0 : Nat) (l3 : Int32) (l4 : Int32) (Po : Int32 → Prop) (E : xEnd V cX6_hasTugs (some .boolean) 0 0 (xRi h Po)) (hO : ∃ fs, h l0 = some (.inr (7, fs))) (s0 : Int32) (hw : w_X6_hasTugs_32 (xdc X) h l0 l3 l4 Po s0) : V 0 0 h 32 [(0, .ref l0), (3, .int l3), (4, .int l4), (5, .int s0)] [] := by
  refine xloop_use (P := fun s : Int32 => V 0 0 h 32 [(0, .ref l0), (3, .int l3), (4, .int l4), (5, .int s)] []) (fun rec32 hr32 s hw => ?_) hw
  obtain ⟨l5, rfl⟩ : ∃ z, z = s := ⟨s, rfl⟩
  refine xr_iload S 3 dX6_hasTugs_32 rfl ?_
  refine xr_aload_n S 0 dX6_hasTugs_34 rfl ?_
  refine xw_getR S 7 4 dX6_hasTugs_35 in_X6_hasTugs_X6 rfl (by decide) (Or.inl m_X6_hasTugs_3) (Or.inl rfl) hw (fun a12 hw => ?_)
  obtain ⟨e13, hw⟩ := hw
  obtain ⟨f14, f14x⟩ := id e13
  refine xr_callV S 0 [] [.int l5] dX6_hasTugs_38 (k_Jx4a65c_size_8abf5 l (xdc X) h a12 _ hw) gX6_hasTugs_Jx4a65c_size_8abf5 rfl pd_Jx4a65c_size_8abf5 ⟨Nat.le_of_ble_eq_true rfl, Nat.le_of_ble_eq_true rfl⟩ rfl (Nat.le_of_ble_eq_true rfl) ⟨Nat.le_of_ble_eq_true rfl, Nat.le_of_ble_eq_true rfl⟩ f14x rfl (fun v9 h17 hv => ?_)
  obtain ⟨r15, rfl, rfl, hw⟩ := hv
  refine xw_icmp_ge S 95 dX6_hasTugs_41 (by decide) hw (fun c hw => ?_) (fun c hw => ?_)
  · refine xr_iconst S (1) dX6_hasTugs_95 (by decide) ?_
    obtain ⟨hz, hw⟩ := hw
    exact E.2.1 _ _ _ _ _ _ rfl hz dX6_hasTugs_96 ⟨_, rfl, rfl, hw⟩ (Nat.le_of_ble_eq_true rfl) (Nat.le_of_ble_eq_true rfl)
  · refine xr_aload_n S 0 dX6_hasTugs_44 rfl ?_
    refine xw_getR S 7 4 dX6_hasTugs_45 in_X6_hasTugs_X6 rfl (by decide) (Or.inl m_X6_hasTugs_3) (Or.inl rfl) hw (fun a18 hw => ?_)
    refine xr_iload S 3 dX6_hasTugs_48 rfl ?_
    obtain ⟨e19, hw⟩ := hw
    obtain ⟨f20, f20x⟩ := id e19
    refine xr_callV S 0 [.int l5] [] dX6_hasTugs_50 (k_Jx4a65c_get_915e3 l (xdc X) h a18 l5 _ hw) gX6_hasTugs_Jx4a65c_get_915e3 rfl pd_Jx4a65c_get_915e3 ⟨Nat.le_of_ble_eq_true rfl, Nat.le_of_ble_eq_true rfl⟩ rfl (Nat.le_of_ble_eq_true rfl) ⟨Nat.le_of_ble_eq_true rfl, Nat.le_of_ble_eq_true rfl⟩ f20x rfl (fun v9 h23 hv => ?_)
    obtain ⟨r21, rfl, rfl, hw⟩ := hv
    obtain ⟨q24, hrq24, hwq24⟩ := hw
    subst hrq24
    have hw := hwq24
    obtain ⟨e25, hw⟩ := hw
    obtain ⟨f26, f26x⟩ := id e25
    refine xr_cast S 2 dX6_hasTugs_53 m_X6_hasTugs_4 f26x rfl ?_
    obtain ⟨f27, f27x⟩ := id e25
    refine xr_callV S 2 [] [] dX6_hasTugs_56 (k_X1_tugsFrom l (xdc X) h q24 _ hw) gX6_hasTugs_X1_tugsFrom rfl pd_X1_tugsFrom ⟨Nat.le_of_ble_eq_true rfl, Nat.le_of_ble_eq_true rfl⟩ rfl (Nat.le_of_ble_eq_true rfl) ⟨Nat.le_of_ble_eq_true rfl, Nat.le_of_ble_eq_true rfl⟩ f27x rfl (fun v9 h30 hv => ?_)
    obtain ⟨r28, rfl, rfl, hw⟩ := hv
    refine xr_istore S [(6, .int r28), (0, .ref l0), (3, .int l3), (4, .int l4), (5, .int l5)] dX6_hasTugs_59 (by decide) rfl ?_
    refine xr_iload S 0 dX6_hasTugs_61 rfl ?_
    refine xr_iload_n S 2 dX6_hasTugs_63 rfl ?_
    refine xw_icmp_le S 89 dX6_hasTugs_64 (by decide) hw (fun c hw => ?_) (fun c hw => ?_)
    · refine xr_sub S [(0, .ref l0), (3, .int l3), (4, .int l4), (5, .int l5)] [1, 2, 3, 4] rfl ?_
      exact k_X6_hasTugs_89 S h l0 l3 l4 l5 Po E hO rec32 hr32 hw
    · refine xr_iload S 0 dX6_hasTugs_67 rfl ?_
      refine xr_iload_n S 2 dX6_hasTugs_69 rfl ?_
      refine xr_bipush S (40) dX6_hasTugs_70 (by decide) ?_
      refine xr_iadd S dX6_hasTugs_72 ?_
      refine xw_icmp_ge S 89 dX6_hasTugs_73 (by decide) hw (fun c hw => ?_) (fun c hw => ?_)
      · refine xr_sub S [(0, .ref l0), (3, .int l3), (4, .int l4), (5, .int l5)] [1, 2, 3, 4] rfl ?_
        exact k_X6_hasTugs_89 S h l0 l3 l4 l5 Po E hO rec32 hr32 hw
      · refine xr_aload_n S 1 dX6_hasTugs_76 rfl ?_
        refine xr_iload S 0 dX6_hasTugs_77 rfl ?_
        obtain ⟨f31, f31x⟩ := id hO
        refine xr_callV S 7 [.int r28] [] dX6_hasTugs_79 (k_X6_tugsInUse l (xdc X) h l0 r28 _ hw) gX6_hasTugs_X6_tugsInUse rfl pd_X6_tugsInUse ⟨Nat.le_of_ble_eq_true rfl, Nat.le_of_ble_eq_true rfl⟩ rfl (Nat.le_of_ble_eq_true rfl) ⟨Nat.le_of_ble_eq_true rfl, Nat.le_of_ble_eq_true rfl⟩ f31x rfl (fun v9 h34 hv => ?_)
        obtain ⟨r32, rfl, rfl, hw⟩ := hv
        refine xr_iload S 3 dX6_hasTugs_82 rfl ?_
        refine xw_icmp_le S 89 dX6_hasTugs_84 (by decide) hw (fun c hw => ?_) (fun c hw => ?_)
        · refine xr_sub S [(0, .ref l0), (3, .int l3), (4, .int l4), (5, .int l5)] [1, 2, 3, 4] rfl ?_
          exact k_X6_hasTugs_89 S h l0 l3 l4 l5 Po E hO rec32 hr32 hw
        · refine xr_iconst S (0) dX6_hasTugs_87 (by decide) ?_
          obtain ⟨hz, hw⟩ := hw
          exact E.2.1 _ _ _ _ _ _ rfl hz dX6_hasTugs_88 ⟨_, rfl, rfl, hw⟩ (Nat.le_of_ble_eq_true rfl) (Nat.le_of_ble_eq_true rfl)
def w_X6_hasTugs (dc : Nat × Nat) (h : XH) (l0 : Nat) (l1 : Nat) (l2 : Int32) (Po : Int32 → Prop) : Prop :=
  wO h l0 7 (wO h l1 4 ( w_X3_tugsFrom dc h l1 l2 (fun r3 => wI h l0 7 7 (fun v6 => wI h l1 4 3 (fun v7 => w_X6_tugsInUse dc h l0 r3 (fun r9 => wIf (r9 ≤ (v6 - v7)) (w_X6_hasTugs_32 dc h l0 r3 (v6 - v7) Po 0) (wZ 0 (Po 0))))))))
set_option maxRecDepth 100000 in
set_option maxHeartbeats 4000000 in
theorem k_X6_hasTugs (l : Launch) (dc : Nat × Nat) (h : XH) (l0 : Nat) (l1 : Nat) (l2 : Int32) (Po : Int32 → Prop) (hw : w_X6_hasTugs dc h l0 l1 l2 Po) : xM l dc yX6_hasTugs wsX6_hasTugs 4 89 0 0 [.ref l0, .ref l1, .int l2] h (xRi h Po) := by
  refine xM_of [(0, .ref l0), (1, .ref l1), (2, .int l2)] (own := RX6) (cc := cX6_hasTugs) (nL := 7) (ret := (some .boolean)) (by decide +kernel) rfl rfl (Nat.le_of_ble_eq_true rfl) rfl ?_
  intro X V hX S E
  subst hX
  obtain ⟨hO, hw⟩ := hw
  refine xr_aload_n S 1 dX6_hasTugs_0 rfl ?_
  refine xr_iload_n S 2 dX6_hasTugs_1 rfl ?_
  obtain ⟨e1, hw⟩ := hw
  obtain ⟨f2, f2x⟩ := id e1
  refine xr_callV S 4 [.int l2] [] dX6_hasTugs_2 (k_X3_tugsFrom l (xdc X) h l1 l2 _ hw) gX6_hasTugs_X3_tugsFrom rfl pd_X3_tugsFrom ⟨Nat.le_of_ble_eq_true rfl, Nat.le_of_ble_eq_true rfl⟩ rfl (Nat.le_of_ble_eq_true rfl) ⟨Nat.le_of_ble_eq_true rfl, Nat.le_of_ble_eq_true rfl⟩ f2x rfl (fun v9 h5 hv => ?_)
  obtain ⟨r3, rfl, rfl, hw⟩ := hv
  refine xr_istore_n S [(3, .int r3), (0, .ref l0), (1, .ref l1), (2, .int l2)] dX6_hasTugs_5 (by decide) rfl ?_
  refine xr_aload_n S 1 dX6_hasTugs_6 rfl ?_
  refine xw_getI S 7 7 dX6_hasTugs_7 in_X6_hasTugs_X6 rfl (by decide) (Or.inl m_X6_hasTugs_1) (Or.inl rfl) hw (fun v6 hw => ?_)
  refine xr_aload_n S 2 dX6_hasTugs_10 rfl ?_
  refine xw_getI S 4 3 dX6_hasTugs_11 in_X6_hasTugs_X3 rfl (by decide) (Or.inr xn_X6_207) (Or.inl rfl) hw (fun v7 hw => ?_)
  refine xr_isub S dX6_hasTugs_14 ?_
  refine xr_istore S [(4, .int (v6 - v7)), (3, .int r3), (0, .ref l0), (1, .ref l1), (2, .int l2)] dX6_hasTugs_15 (by decide) rfl ?_
  refine xr_aload_n S 2 dX6_hasTugs_17 rfl ?_
  refine xr_iload_n S 1 dX6_hasTugs_18 rfl ?_
  obtain ⟨f8, f8x⟩ := id hO
  refine xr_callV S 7 [.int r3] [] dX6_hasTugs_19 (k_X6_tugsInUse l (xdc X) h l0 r3 _ hw) gX6_hasTugs_X6_tugsInUse rfl pd_X6_tugsInUse ⟨Nat.le_of_ble_eq_true rfl, Nat.le_of_ble_eq_true rfl⟩ rfl (Nat.le_of_ble_eq_true rfl) ⟨Nat.le_of_ble_eq_true rfl, Nat.le_of_ble_eq_true rfl⟩ f8x rfl (fun v9 h11 hv => ?_)
  obtain ⟨r9, rfl, rfl, hw⟩ := hv
  refine xr_iload S 0 dX6_hasTugs_22 rfl ?_
  refine xw_icmp_le S 29 dX6_hasTugs_24 (by decide) hw (fun c hw => ?_) (fun c hw => ?_)
  · refine xr_iconst S (0) dX6_hasTugs_29 (by decide) ?_
    refine xr_istore S [(5, .int 0), (4, .int (v6 - v7)), (3, .int r3), (0, .ref l0), (1, .ref l1), (2, .int l2)] dX6_hasTugs_30 (by decide) rfl ?_
    refine xr_sub S [(0, .ref l0), (3, .int r3), (4, .int (v6 - v7)), (5, .int 0)] [3, 2, 1, 0] rfl ?_
    exact k_X6_hasTugs_32 S h l0 r3 (v6 - v7) Po E hO 0 hw
  · refine xr_iconst S (0) dX6_hasTugs_27 (by decide) ?_
    obtain ⟨hz, hw⟩ := hw
    exact E.2.1 _ _ _ _ _ _ rfl hz dX6_hasTugs_28 ⟨_, rfl, rfl, hw⟩ (Nat.le_of_ble_eq_true rfl) (Nat.le_of_ble_eq_true rfl)
theorem in_X6_pilotFor_X6 : ∀ w ∈ wsX60, w ∈ wsX6_pilotFor := by decide +kernel
theorem m_X6_pilotFor_1 : Cond.fieldLink RX6 26 "PilotBook" "pilots" "Ljava/util/ArrayList;" ∈ wsX6_pilotFor := by decide +kernel
theorem m_X6_pilotFor_2 : Cond.classLink RX6 103 "PilotBook$Pilot" ∈ wsX6_pilotFor := by decide +kernel
def w_X6_pilotFor_60 (dc : Nat × Nat) (h : XH) (l0 : Nat) (l1 : Nat) (l2 : Int32) (l3 : Option Nat) (l4 : Int32) (Po : Option Nat → Prop) (rec5 : (Option Nat) × Int32 → Prop) : Prop :=
  rec5 (l3, (l4 + 1))
set_option maxRecDepth 100000 in
set_option maxHeartbeats 4000000 in
theorem k_X6_pilotFor_60 {V : XVT} {X : XC} {l : Launch} (S : xS V X l RX6 yX6_pilotFor.name cX6_pilotFor 6 wsX6_pilotFor (xRm 3 64 0 0)) (h : XH) (l0 : Nat) (l1 : Nat) (l2 : Int32) (l3 : Option Nat) (l4 : Int32) (Po : Option Nat → Prop) (E : xEnd V cX6_pilotFor (some (.object "PilotBook$Pilot")) 0 0 (xRq h Po)) (rec5 : (Option Nat) × Int32 → Prop) (hr5 : ∀ s : (Option Nat) × Int32, rec5 s → V 0 0 h 5 [(0, .ref l0), (1, .ref l1), (2, .int l2), (3, va_rf s.1), (4, .int s.2)] []) (hw : w_X6_pilotFor_60 (xdc X) h l0 l1 l2 l3 l4 Po rec5) : V 0 0 h 60 [(0, .ref l0), (1, .ref l1), (2, .int l2), (3, va_rf l3), (4, .int l4)] [] := by
  refine xr_iinc S 4 ((l4 + 1)) [(4, .int (l4 + 1)), (0, .ref l0), (1, .ref l1), (2, .int l2), (3, va_rf l3)] dX6_pilotFor_60 rfl rfl (by decide) (by cases l3 <;> rfl) ?_
  refine xr_goto S (tgt := 5) dX6_pilotFor_63 (by decide) ?_
  refine xr_sub S [(0, .ref l0), (1, .ref l1), (2, .int l2), (3, va_rf l3), (4, .int (l4 + 1))] [1, 2, 3, 4, 0] rfl ?_
  exact hr5 (l3, (l4 + 1)) hw
def w_X6_pilotFor_57 (dc : Nat × Nat) (h : XH) (l0 : Nat) (l1 : Nat) (l2 : Int32) (l4 : Int32) (l5 : Nat) (Po : Option Nat → Prop) (rec5 : (Option Nat) × Int32 → Prop) : Prop :=
  w_X6_pilotFor_60 dc h l0 l1 l2 (some l5) l4 Po rec5
set_option maxRecDepth 100000 in
set_option maxHeartbeats 4000000 in
theorem k_X6_pilotFor_57 {V : XVT} {X : XC} {l : Launch} (S : xS V X l RX6 yX6_pilotFor.name cX6_pilotFor 6 wsX6_pilotFor (xRm 3 64 0 0)) (h : XH) (l0 : Nat) (l1 : Nat) (l2 : Int32) (l4 : Int32) (l5 : Nat) (Po : Option Nat → Prop) (E : xEnd V cX6_pilotFor (some (.object "PilotBook$Pilot")) 0 0 (xRq h Po)) (rec5 : (Option Nat) × Int32 → Prop) (hr5 : ∀ s : (Option Nat) × Int32, rec5 s → V 0 0 h 5 [(0, .ref l0), (1, .ref l1), (2, .int l2), (3, va_rf s.1), (4, .int s.2)] []) (hw : w_X6_pilotFor_57 (xdc X) h l0 l1 l2 l4 l5 Po rec5) : V 0 0 h 57 [(0, .ref l0), (1, .ref l1), (2, .int l2), (4, .int l4), (5, .ref l5)] [] := by
  refine xr_aload S 4 dX6_pilotFor_57 rfl ?_
  refine xr_astore_n S [(3, .ref l5), (0, .ref l0), (1, .ref l1), (2, .int l2), (4, .int l4), (5, .ref l5)] dX6_pilotFor_59 (by decide) rfl ?_
  refine xr_sub S [(0, .ref l0), (1, .ref l1), (2, .int l2), (3, va_rf (some l5)), (4, .int l4)] [1, 2, 3, 0, 4] rfl ?_
  exact k_X6_pilotFor_60 S h l0 l1 l2 (some l5) l4 Po E rec5 hr5 hw
def w_X6_pilotFor_5_F (dc : Nat × Nat) (h : XH) (l0 : Nat) (l1 : Nat) (l2 : Int32) (Po : Option Nat → Prop) (rec5 : (Option Nat) × Int32 → Prop) : (Option Nat) × Int32 → Prop := fun s => match s with
  | (l3, l4) =>
  wR h l0 7 3 (fun a1 => wO h a1 0 ( w_Jx4a65c_size_8abf5 dc h a1 (fun r4 => wIf (r4 ≤ l4) (Po l3) (wR h l0 7 3 (fun a7 => wO h a7 0 ( w_Jx4a65c_get_915e3 dc h a7 l4 (fun r10 => wDer r10 (fun q13 => wO h q13 3 ( w_X2_canTake dc h q13 l1 l2 (fun r17 => wIf (r17 = 0) (w_X6_pilotFor_60 dc h l0 l1 l2 l3 l4 Po rec5) (wOpt l3 (w_X6_pilotFor_57 dc h l0 l1 l2 l4 q13 Po rec5) (fun q20 => w_X2_latestEnd dc h q13 (fun r22 => wO h q20 3 ( w_X2_latestEnd dc h q20 (fun r27 => wIf (r27 ≤ r22) (w_X6_pilotFor_60 dc h l0 l1 l2 (some q20) l4 Po rec5) (w_X6_pilotFor_57 dc h l0 l1 l2 l4 q13 Po rec5))))))))))))))))
def w_X6_pilotFor_5 (dc : Nat × Nat) (h : XH) (l0 : Nat) (l1 : Nat) (l2 : Int32) (Po : Option Nat → Prop) : (Option Nat) × Int32 → Prop := xloop (w_X6_pilotFor_5_F dc h l0 l1 l2 Po)
set_option maxRecDepth 100000 in
set_option maxHeartbeats 4000000 in
theorem k_X6_pilotFor_5 {V : XVT} {X : XC} {l : Launch} (S : xS V X l RX6 yX6_pilotFor.name cX6_pilotFor 6 wsX6_pilotFor (xRm 3 64 0 0)) (h : XH) (l0 : Nat) (l1 : Nat) (l2 : Int32) (Po : Option Nat → Prop) (E : xEnd V cX6_pilotFor (some (.object "PilotBook$Pilot")) 0 0 (xRq h Po)) (s0 : (Option Nat) × Int32) (hw : w_X6_pilotFor_5 (xdc X) h l0 l1 l2 Po s0) : V 0 0 h 5 [(0, .ref l0), (1, .ref l1), (2, .int l2), (3, va_rf s0.1), (4, .int s0.2)] [] := by
  refine xloop_use (P := fun s : (Option Nat) × Int32 => V 0 0 h 5 [(0, .ref l0), (1, .ref l1), (2, .int l2), (3, va_rf s.1), (4, .int s.2)] []) (fun rec5 hr5 s hw => ?_) hw
  obtain ⟨l3, l4⟩ := s
  try dsimp only
  refine xr_iload S 4 dX6_pilotFor_5 rfl ?_
  refine xr_aload_n S 0 dX6_pilotFor_7 rfl ?_
  refine xw_getR S 7 3 dX6_pilotFor_8 in_X6_pilotFor_X6 rfl (by decide) (Or.inl m_X6_pilotFor_1) (Or.inl rfl) hw (fun a1 hw => ?_)
  obtain ⟨e2, hw⟩ := hw
  obtain ⟨f3, f3x⟩ := id e2
  refine xr_callV S 0 [] [.int l4] dX6_pilotFor_11 (k_Jx4a65c_size_8abf5 l (xdc X) h a1 _ hw) gX6_pilotFor_Jx4a65c_size_8abf5 rfl pd_Jx4a65c_size_8abf5 ⟨Nat.le_of_ble_eq_true rfl, Nat.le_of_ble_eq_true rfl⟩ rfl (Nat.le_of_ble_eq_true rfl) ⟨Nat.le_of_ble_eq_true rfl, Nat.le_of_ble_eq_true rfl⟩ f3x rfl (fun v9 h6 hv => ?_)
  obtain ⟨r4, rfl, rfl, hw⟩ := hv
  refine xw_icmp_ge S 66 dX6_pilotFor_14 (by decide) hw (fun c hw => ?_) (fun c hw => ?_)
  · refine xr_aloadq_n S 3 dX6_pilotFor_66 rfl ?_
    exact E.2.2.2.1 _ _ _ _ _ _ l3 rfl (Or.inl ⟨_, rfl⟩) dX6_pilotFor_67 ⟨l3, rfl, rfl, hw⟩ (Nat.le_of_ble_eq_true rfl) (Nat.le_of_ble_eq_true rfl)
  · refine xr_aload_n S 0 dX6_pilotFor_17 rfl ?_
    refine xw_getR S 7 3 dX6_pilotFor_18 in_X6_pilotFor_X6 rfl (by decide) (Or.inl m_X6_pilotFor_1) (Or.inl rfl) hw (fun a7 hw => ?_)
    refine xr_iload S 4 dX6_pilotFor_21 rfl ?_
    obtain ⟨e8, hw⟩ := hw
    obtain ⟨f9, f9x⟩ := id e8
    refine xr_callV S 0 [.int l4] [] dX6_pilotFor_23 (k_Jx4a65c_get_915e3 l (xdc X) h a7 l4 _ hw) gX6_pilotFor_Jx4a65c_get_915e3 rfl pd_Jx4a65c_get_915e3 ⟨Nat.le_of_ble_eq_true rfl, Nat.le_of_ble_eq_true rfl⟩ rfl (Nat.le_of_ble_eq_true rfl) ⟨Nat.le_of_ble_eq_true rfl, Nat.le_of_ble_eq_true rfl⟩ f9x rfl (fun v9 h12 hv => ?_)
    obtain ⟨r10, rfl, rfl, hw⟩ := hv
    obtain ⟨q13, hrq13, hwq13⟩ := hw
    subst hrq13
    have hw := hwq13
    obtain ⟨e14, hw⟩ := hw
    obtain ⟨f15, f15x⟩ := id e14
    refine xr_cast S 3 dX6_pilotFor_26 m_X6_pilotFor_2 f15x rfl ?_
    refine xr_astore S [(5, .ref q13), (0, .ref l0), (1, .ref l1), (2, .int l2), (3, va_rf l3), (4, .int l4)] dX6_pilotFor_29 (by decide) rfl ?_
    refine xr_aload S 0 dX6_pilotFor_31 rfl ?_
    refine xr_aload_n S 2 dX6_pilotFor_33 rfl ?_
    refine xr_iload_n S 3 dX6_pilotFor_34 rfl ?_
    obtain ⟨f16, f16x⟩ := id e14
    refine xr_callV S 3 [.ref l1, .int l2] [] dX6_pilotFor_35 (k_X2_canTake l (xdc X) h q13 l1 l2 _ hw) gX6_pilotFor_X2_canTake rfl pd_X2_canTake ⟨Nat.le_of_ble_eq_true rfl, Nat.le_of_ble_eq_true rfl⟩ rfl (Nat.le_of_ble_eq_true rfl) ⟨Nat.le_of_ble_eq_true rfl, Nat.le_of_ble_eq_true rfl⟩ f16x rfl (fun v9 h19 hv => ?_)
    obtain ⟨r17, rfl, rfl, hw⟩ := hv
    refine xw_if_eq S 60 dX6_pilotFor_38 (by decide) hw (fun c hw => ?_) (fun c hw => ?_)
    · refine xr_sub S [(0, .ref l0), (1, .ref l1), (2, .int l2), (3, va_rf l3), (4, .int l4)] [1, 2, 3, 4, 5] rfl ?_
      exact k_X6_pilotFor_60 S h l0 l1 l2 l3 l4 Po E rec5 hr5 hw
    · refine xr_aloadq_n S 4 dX6_pilotFor_41 rfl ?_
      refine xw_ifnull S 57 dX6_pilotFor_42 (by decide) hw (fun hr hwq20 => ?_) (fun q20 hr hwq20 => ?_)
      · subst hr
        have hw := hwq20
        refine xr_sub S [(0, .ref l0), (1, .ref l1), (2, .int l2), (4, .int l4), (5, .ref q13)] [1, 2, 3, 5, 0] rfl ?_
        exact k_X6_pilotFor_57 S h l0 l1 l2 l4 q13 Po E rec5 hr5 hw
      · subst hr
        have hw := hwq20
        refine xr_aload S 0 dX6_pilotFor_45 rfl ?_
        obtain ⟨f21, f21x⟩ := id e14
        refine xr_callV S 3 [] [] dX6_pilotFor_47 (k_X2_latestEnd l (xdc X) h q13 _ hw) gX6_pilotFor_X2_latestEnd rfl pd_X2_latestEnd ⟨Nat.le_of_ble_eq_true rfl, Nat.le_of_ble_eq_true rfl⟩ rfl (Nat.le_of_ble_eq_true rfl) ⟨Nat.le_of_ble_eq_true rfl, Nat.le_of_ble_eq_true rfl⟩ f21x rfl (fun v9 h24 hv => ?_)
        obtain ⟨r22, rfl, rfl, hw⟩ := hv
        refine xr_aload_n S 4 dX6_pilotFor_50 rfl ?_
        obtain ⟨e25, hw⟩ := hw
        obtain ⟨f26, f26x⟩ := id e25
        refine xr_callV S 3 [] [.int r22] dX6_pilotFor_51 (k_X2_latestEnd l (xdc X) h q20 _ hw) gX6_pilotFor_X2_latestEnd rfl pd_X2_latestEnd ⟨Nat.le_of_ble_eq_true rfl, Nat.le_of_ble_eq_true rfl⟩ rfl (Nat.le_of_ble_eq_true rfl) ⟨Nat.le_of_ble_eq_true rfl, Nat.le_of_ble_eq_true rfl⟩ f26x rfl (fun v9 h29 hv => ?_)
        obtain ⟨r27, rfl, rfl, hw⟩ := hv
        refine xw_icmp_ge S 60 dX6_pilotFor_54 (by decide) hw (fun c hw => ?_) (fun c hw => ?_)
        · refine xr_sub S [(0, .ref l0), (1, .ref l1), (2, .int l2), (3, va_rf (some q20)), (4, .int l4)] [1, 2, 3, 4, 5] rfl ?_
          exact k_X6_pilotFor_60 S h l0 l1 l2 (some q20) l4 Po E rec5 hr5 hw
        · refine xr_sub S [(0, .ref l0), (1, .ref l1), (2, .int l2), (4, .int l4), (5, .ref q13)] [1, 2, 3, 5, 0] rfl ?_
          exact k_X6_pilotFor_57 S h l0 l1 l2 l4 q13 Po E rec5 hr5 hw
def w_X6_pilotFor (dc : Nat × Nat) (h : XH) (l0 : Nat) (l1 : Nat) (l2 : Int32) (Po : Option Nat → Prop) : Prop :=
  w_X6_pilotFor_5 dc h l0 l1 l2 Po (none, 0)
set_option maxRecDepth 100000 in
set_option maxHeartbeats 4000000 in
theorem k_X6_pilotFor (l : Launch) (dc : Nat × Nat) (h : XH) (l0 : Nat) (l1 : Nat) (l2 : Int32) (Po : Option Nat → Prop) (hw : w_X6_pilotFor dc h l0 l1 l2 Po) : xM l dc yX6_pilotFor wsX6_pilotFor 3 64 0 0 [.ref l0, .ref l1, .int l2] h (xRq h Po) := by
  refine xM_of [(0, .ref l0), (1, .ref l1), (2, .int l2)] (own := RX6) (cc := cX6_pilotFor) (nL := 6) (ret := (some (.object "PilotBook$Pilot"))) (by decide +kernel) rfl rfl (Nat.le_of_ble_eq_true rfl) rfl ?_
  intro X V hX S E
  subst hX
  refine xr_null S dX6_pilotFor_0 ?_
  refine xr_astoreq_n S [(3, va_rf none), (0, .ref l0), (1, .ref l1), (2, .int l2)] dX6_pilotFor_1 (by decide) rfl ?_
  refine xr_iconst S (0) dX6_pilotFor_2 (by decide) ?_
  refine xr_istore S [(4, .int 0), (3, va_rf none), (0, .ref l0), (1, .ref l1), (2, .int l2)] dX6_pilotFor_3 (by decide) rfl ?_
  refine xr_sub S [(0, .ref l0), (1, .ref l1), (2, .int l2), (3, va_rf none), (4, .int 0)] [2, 3, 4, 1, 0] rfl ?_
  exact k_X6_pilotFor_5 S h l0 l1 l2 Po E (none, 0) hw
theorem in_X6_canBegin_X3 : ∀ w ∈ wsX30, w ∈ wsX6_canBegin := by decide +kernel
theorem in_X6_canBegin_X6 : ∀ w ∈ wsX60, w ∈ wsX6_canBegin := by decide +kernel
theorem m_X6_canBegin_2 : Cond.fieldLink RX6 32 "PilotBook" "barDepth" "I" ∈ wsX6_canBegin := by decide +kernel
theorem in_X6_canBegin_X0 : ∀ w ∈ wsX00, w ∈ wsX6_canBegin := by decide +kernel
def w_X6_canBegin (dc : Nat × Nat) (h : XH) (l0 : Nat) (l1 : Nat) (l2 : Int32) (Po : Int32 → Prop) : Prop :=
  wO h l0 7 (w_X6_hasClearWay dc h l0 l1 l2 (fun r2 => wIf (r2 = 0) (wZ 0 (Po 0)) (wR h l1 4 0 (fun a5 => wI h l0 7 5 (fun v6 => wO h l1 4 ( w_X3_barMinute dc h l1 l2 (fun r9 => w_X6_hasWater dc h l0 a5 v6 r9 (fun r13 => wIf (r13 = 0) (wZ 0 (Po 0)) (wR h l1 4 0 (fun a16 => wR h l1 4 1 (fun a17 => wI h a17 1 2 (fun v18 => w_X3_berthMinute dc h l1 l2 (fun r20 => w_X6_hasWater dc h l0 a16 v18 r20 (fun r24 => wIf (r24 = 0) (wZ 0 (Po 0)) (w_X6_hasTugs dc h l0 l1 l2 (fun r28 => wIf (r28 = 0) (wZ 0 (Po 0)) (w_X6_pilotFor dc h l0 l1 l2 (fun r32 => wOpt r32 (wZ 0 (Po 0)) (fun q35 => wZ 1 (Po 1))))))))))))))))))))
set_option maxRecDepth 100000 in
set_option maxHeartbeats 4000000 in
theorem k_X6_canBegin (l : Launch) (dc : Nat × Nat) (h : XH) (l0 : Nat) (l1 : Nat) (l2 : Int32) (Po : Int32 → Prop) (hw : w_X6_canBegin dc h l0 l1 l2 Po) : xM l dc yX6_canBegin wsX6_canBegin 5 115 0 0 [.ref l0, .ref l1, .int l2] h (xRi h Po) := by
  refine xM_of [(0, .ref l0), (1, .ref l1), (2, .int l2)] (own := RX6) (cc := cX6_canBegin) (nL := 3) (ret := (some .boolean)) (by decide +kernel) rfl rfl (Nat.le_of_ble_eq_true rfl) rfl ?_
  intro X V hX S E
  subst hX
  obtain ⟨hO, hw⟩ := hw
  refine xr_aload_n S 0 dX6_canBegin_0 rfl ?_
  refine xr_aload_n S 1 dX6_canBegin_1 rfl ?_
  refine xr_iload_n S 2 dX6_canBegin_2 rfl ?_
  obtain ⟨f1, f1x⟩ := id hO
  refine xr_callV S 7 [.ref l1, .int l2] [] dX6_canBegin_3 (k_X6_hasClearWay l (xdc X) h l0 l1 l2 _ hw) gX6_canBegin_X6_hasClearWay rfl pd_X6_hasClearWay ⟨Nat.le_of_ble_eq_true rfl, Nat.le_of_ble_eq_true rfl⟩ rfl (Nat.le_of_ble_eq_true rfl) ⟨Nat.le_of_ble_eq_true rfl, Nat.le_of_ble_eq_true rfl⟩ f1x rfl (fun v9 h4 hv => ?_)
  obtain ⟨r2, rfl, rfl, hw⟩ := hv
  refine xw_if_eq S 74 dX6_canBegin_6 (by decide) hw (fun c hw => ?_) (fun c hw => ?_)
  · refine xr_iconst S (0) dX6_canBegin_74 (by decide) ?_
    obtain ⟨hz, hw⟩ := hw
    exact E.2.1 _ _ _ _ _ _ rfl hz dX6_canBegin_75 ⟨_, rfl, rfl, hw⟩ (Nat.le_of_ble_eq_true rfl) (Nat.le_of_ble_eq_true rfl)
  · refine xr_aload_n S 0 dX6_canBegin_9 rfl ?_
    refine xr_aload_n S 1 dX6_canBegin_10 rfl ?_
    refine xw_getR S 4 0 dX6_canBegin_11 in_X6_canBegin_X3 rfl (by decide) (Or.inr xn_X6_188) (Or.inl rfl) hw (fun a5 hw => ?_)
    refine xr_aload_n S 0 dX6_canBegin_14 rfl ?_
    refine xw_getI S 7 5 dX6_canBegin_15 in_X6_canBegin_X6 rfl (by decide) (Or.inl m_X6_canBegin_2) (Or.inl rfl) hw (fun v6 hw => ?_)
    refine xr_aload_n S 1 dX6_canBegin_18 rfl ?_
    refine xr_iload_n S 2 dX6_canBegin_19 rfl ?_
    obtain ⟨e7, hw⟩ := hw
    obtain ⟨f8, f8x⟩ := id e7
    refine xr_callV S 4 [.int l2] [.int v6, .ref a5, .ref l0] dX6_canBegin_20 (k_X3_barMinute l (xdc X) h l1 l2 _ hw) gX6_canBegin_X3_barMinute rfl pd_X3_barMinute ⟨Nat.le_of_ble_eq_true rfl, Nat.le_of_ble_eq_true rfl⟩ rfl (Nat.le_of_ble_eq_true rfl) ⟨Nat.le_of_ble_eq_true rfl, Nat.le_of_ble_eq_true rfl⟩ f8x rfl (fun v9 h11 hv => ?_)
    obtain ⟨r9, rfl, rfl, hw⟩ := hv
    obtain ⟨f12, f12x⟩ := id hO
    refine xr_callV S 7 [.ref a5, .int v6, .int r9] [] dX6_canBegin_23 (k_X6_hasWater l (xdc X) h l0 a5 v6 r9 _ hw) gX6_canBegin_X6_hasWater rfl pd_X6_hasWater ⟨Nat.le_of_ble_eq_true rfl, Nat.le_of_ble_eq_true rfl⟩ rfl (Nat.le_of_ble_eq_true rfl) ⟨Nat.le_of_ble_eq_true rfl, Nat.le_of_ble_eq_true rfl⟩ f12x rfl (fun v9 h15 hv => ?_)
    obtain ⟨r13, rfl, rfl, hw⟩ := hv
    refine xw_if_eq S 74 dX6_canBegin_26 (by decide) hw (fun c hw => ?_) (fun c hw => ?_)
    · refine xr_iconst S (0) dX6_canBegin_74 (by decide) ?_
      obtain ⟨hz, hw⟩ := hw
      exact E.2.1 _ _ _ _ _ _ rfl hz dX6_canBegin_75 ⟨_, rfl, rfl, hw⟩ (Nat.le_of_ble_eq_true rfl) (Nat.le_of_ble_eq_true rfl)
    · refine xr_aload_n S 0 dX6_canBegin_29 rfl ?_
      refine xr_aload_n S 1 dX6_canBegin_30 rfl ?_
      refine xw_getR S 4 0 dX6_canBegin_31 in_X6_canBegin_X3 rfl (by decide) (Or.inr xn_X6_188) (Or.inl rfl) hw (fun a16 hw => ?_)
      refine xr_aload_n S 1 dX6_canBegin_34 rfl ?_
      refine xw_getR S 4 1 dX6_canBegin_35 in_X6_canBegin_X3 rfl (by decide) (Or.inr xn_X6_208) (Or.inl rfl) hw (fun a17 hw => ?_)
      refine xw_getI S 1 2 dX6_canBegin_38 in_X6_canBegin_X0 rfl (by decide) (Or.inr xn_X6_122) (Or.inl rfl) hw (fun v18 hw => ?_)
      refine xr_aload_n S 1 dX6_canBegin_41 rfl ?_
      refine xr_iload_n S 2 dX6_canBegin_42 rfl ?_
      obtain ⟨f19, f19x⟩ := id e7
      refine xr_callV S 4 [.int l2] [.int v18, .ref a16, .ref l0] dX6_canBegin_43 (k_X3_berthMinute l (xdc X) h l1 l2 _ hw) gX6_canBegin_X3_berthMinute rfl pd_X3_berthMinute ⟨Nat.le_of_ble_eq_true rfl, Nat.le_of_ble_eq_true rfl⟩ rfl (Nat.le_of_ble_eq_true rfl) ⟨Nat.le_of_ble_eq_true rfl, Nat.le_of_ble_eq_true rfl⟩ f19x rfl (fun v9 h22 hv => ?_)
      obtain ⟨r20, rfl, rfl, hw⟩ := hv
      obtain ⟨f23, f23x⟩ := id hO
      refine xr_callV S 7 [.ref a16, .int v18, .int r20] [] dX6_canBegin_46 (k_X6_hasWater l (xdc X) h l0 a16 v18 r20 _ hw) gX6_canBegin_X6_hasWater rfl pd_X6_hasWater ⟨Nat.le_of_ble_eq_true rfl, Nat.le_of_ble_eq_true rfl⟩ rfl (Nat.le_of_ble_eq_true rfl) ⟨Nat.le_of_ble_eq_true rfl, Nat.le_of_ble_eq_true rfl⟩ f23x rfl (fun v9 h26 hv => ?_)
      obtain ⟨r24, rfl, rfl, hw⟩ := hv
      refine xw_if_eq S 74 dX6_canBegin_49 (by decide) hw (fun c hw => ?_) (fun c hw => ?_)
      · refine xr_iconst S (0) dX6_canBegin_74 (by decide) ?_
        obtain ⟨hz, hw⟩ := hw
        exact E.2.1 _ _ _ _ _ _ rfl hz dX6_canBegin_75 ⟨_, rfl, rfl, hw⟩ (Nat.le_of_ble_eq_true rfl) (Nat.le_of_ble_eq_true rfl)
      · refine xr_aload_n S 0 dX6_canBegin_52 rfl ?_
        refine xr_aload_n S 1 dX6_canBegin_53 rfl ?_
        refine xr_iload_n S 2 dX6_canBegin_54 rfl ?_
        obtain ⟨f27, f27x⟩ := id hO
        refine xr_callV S 7 [.ref l1, .int l2] [] dX6_canBegin_55 (k_X6_hasTugs l (xdc X) h l0 l1 l2 _ hw) gX6_canBegin_X6_hasTugs rfl pd_X6_hasTugs ⟨Nat.le_of_ble_eq_true rfl, Nat.le_of_ble_eq_true rfl⟩ rfl (Nat.le_of_ble_eq_true rfl) ⟨Nat.le_of_ble_eq_true rfl, Nat.le_of_ble_eq_true rfl⟩ f27x rfl (fun v9 h30 hv => ?_)
        obtain ⟨r28, rfl, rfl, hw⟩ := hv
        refine xw_if_eq S 74 dX6_canBegin_58 (by decide) hw (fun c hw => ?_) (fun c hw => ?_)
        · refine xr_iconst S (0) dX6_canBegin_74 (by decide) ?_
          obtain ⟨hz, hw⟩ := hw
          exact E.2.1 _ _ _ _ _ _ rfl hz dX6_canBegin_75 ⟨_, rfl, rfl, hw⟩ (Nat.le_of_ble_eq_true rfl) (Nat.le_of_ble_eq_true rfl)
        · refine xr_aload_n S 0 dX6_canBegin_61 rfl ?_
          refine xr_aload_n S 1 dX6_canBegin_62 rfl ?_
          refine xr_iload_n S 2 dX6_canBegin_63 rfl ?_
          obtain ⟨f31, f31x⟩ := id hO
          refine xr_callV S 7 [.ref l1, .int l2] [] dX6_canBegin_64 (k_X6_pilotFor l (xdc X) h l0 l1 l2 _ hw) gX6_canBegin_X6_pilotFor rfl pd_X6_pilotFor ⟨Nat.le_of_ble_eq_true rfl, Nat.le_of_ble_eq_true rfl⟩ rfl (Nat.le_of_ble_eq_true rfl) ⟨Nat.le_of_ble_eq_true rfl, Nat.le_of_ble_eq_true rfl⟩ f31x rfl (fun v9 h34 hv => ?_)
          obtain ⟨r32, rfl, rfl, hw⟩ := hv
          refine xw_ifnull S 74 dX6_canBegin_67 (by decide) hw (fun hr hwq35 => ?_) (fun q35 hr hwq35 => ?_)
          · subst hr
            have hw := hwq35
            refine xr_iconst S (0) dX6_canBegin_74 (by decide) ?_
            obtain ⟨hz, hw⟩ := hw
            exact E.2.1 _ _ _ _ _ _ rfl hz dX6_canBegin_75 ⟨_, rfl, rfl, hw⟩ (Nat.le_of_ble_eq_true rfl) (Nat.le_of_ble_eq_true rfl)
          · subst hr
            have hw := hwq35
            refine xr_iconst S (1) dX6_canBegin_70 (by decide) ?_
            refine xr_goto S (tgt := 75) dX6_canBegin_71 (by decide) ?_
            obtain ⟨hz, hw⟩ := hw
            exact E.2.1 _ _ _ _ _ _ rfl hz dX6_canBegin_75 ⟨_, rfl, rfl, hw⟩ (Nat.le_of_ble_eq_true rfl) (Nat.le_of_ble_eq_true rfl)
theorem in_X6_firstBegin_X3 : ∀ w ∈ wsX30, w ∈ wsX6_firstBegin := by decide +kernel
theorem in_X6_firstBegin_X4 : ∀ w ∈ wsX40, w ∈ wsX6_firstBegin := by decide +kernel
theorem in_X6_firstBegin_X0 : ∀ w ∈ wsX00, w ∈ wsX6_firstBegin := by decide +kernel
theorem m_X6_firstBegin_3 : Cond.methodLink RX6 263 Lib.Math.max.name ∈ wsX6_firstBegin := by decide +kernel
theorem m_X6_firstBegin_4 : Cond.static Lib.Math.max.name ∈ wsX6_firstBegin := by decide +kernel
theorem m_X6_firstBegin_5 : Cond.initialized "java/lang/Math" ∈ wsX6_firstBegin := by decide +kernel
theorem m_X6_firstBegin_6 : Cond.code Lib.Math.max.name Lib.Math.max.code 2 (some .int) ∈ wsX6_firstBegin := by decide +kernel
def w_X6_firstBegin_32_F (dc : Nat × Nat) (h : XH) (l0 : Nat) (l1 : Nat) (Po : Int32 → Prop) (rec32 : Int32 → Prop) : Int32 → Prop := fun l4 =>
  wIf (2879 < (l4 + 60)) (Po (-1)) (w_X6_canBegin dc h l0 l1 l4 (fun r10 => wIf (r10 = 0) (rec32 (l4 + 1)) (Po l4)))
def w_X6_firstBegin_32 (dc : Nat × Nat) (h : XH) (l0 : Nat) (l1 : Nat) (Po : Int32 → Prop) : Int32 → Prop := xloop (w_X6_firstBegin_32_F dc h l0 l1 Po)
set_option maxRecDepth 100000 in
set_option maxHeartbeats 4000000 in
theorem k_X6_firstBegin_32 {V : XVT} {X : XC} {l : Launch} (S : xS V X l RX6 yX6_firstBegin.name cX6_firstBegin 5 wsX6_firstBegin (xRm 6 137 0 0)) (h : XH) (l0 : Nat) (l1 : Nat) (Po : Int32 → Prop) (E : xEnd V cX6_firstBegin (some .int) 0 0 (xRi h Po)) (hO : ∃ fs, h l0 = some (.inr (7, fs))) (s0 : Int32) (hw : w_X6_firstBegin_32 (xdc X) h l0 l1 Po s0) : V 0 0 h 32 [(0, .ref l0), (1, .ref l1), (4, .int s0)] [] := by
  refine xloop_use (P := fun s : Int32 => V 0 0 h 32 [(0, .ref l0), (1, .ref l1), (4, .int s)] []) (fun rec32 hr32 s hw => ?_) hw
  obtain ⟨l4, rfl⟩ : ∃ z, z = s := ⟨s, rfl⟩
  refine xr_iload S 2 dX6_firstBegin_32 rfl ?_
  refine xr_bipush S (60) dX6_firstBegin_34 (by decide) ?_
  refine xr_iadd S dX6_firstBegin_36 ?_
  refine xr_sipush S (2879) dX6_firstBegin_37 (by decide) ?_
  refine xw_icmp_gt S 62 dX6_firstBegin_40 (by decide) hw (fun c hw => ?_) (fun c hw => ?_)
  · refine xr_iconst S (-1) dX6_firstBegin_62 (by decide) ?_
    exact E.1 _ _ _ _ _ _ rfl dX6_firstBegin_63 ⟨_, rfl, rfl, hw⟩ (Nat.le_of_ble_eq_true rfl) (Nat.le_of_ble_eq_true rfl)
  · refine xr_aload_n S 0 dX6_firstBegin_43 rfl ?_
    refine xr_aload_n S 1 dX6_firstBegin_44 rfl ?_
    refine xr_iload S 2 dX6_firstBegin_45 rfl ?_
    obtain ⟨f9, f9x⟩ := id hO
    refine xr_callV S 7 [.ref l1, .int l4] [] dX6_firstBegin_47 (k_X6_canBegin l (xdc X) h l0 l1 l4 _ hw) gX6_firstBegin_X6_canBegin rfl pd_X6_canBegin ⟨Nat.le_of_ble_eq_true rfl, Nat.le_of_ble_eq_true rfl⟩ rfl (Nat.le_of_ble_eq_true rfl) ⟨Nat.le_of_ble_eq_true rfl, Nat.le_of_ble_eq_true rfl⟩ f9x rfl (fun v9 h12 hv => ?_)
    obtain ⟨r10, rfl, rfl, hw⟩ := hv
    refine xw_if_eq S 56 dX6_firstBegin_50 (by decide) hw (fun c hw => ?_) (fun c hw => ?_)
    · refine xr_iinc S 2 ((l4 + 1)) [(4, .int (l4 + 1)), (0, .ref l0), (1, .ref l1)] dX6_firstBegin_56 rfl rfl (by decide) rfl ?_
      refine xr_goto S (tgt := 32) dX6_firstBegin_59 (by decide) ?_
      refine xr_sub S [(0, .ref l0), (1, .ref l1), (4, .int (l4 + 1))] [1, 2, 0] rfl ?_
      exact hr32 (l4 + 1) hw
    · refine xr_iload S 2 dX6_firstBegin_53 rfl ?_
      exact E.1 _ _ _ _ _ _ rfl dX6_firstBegin_55 ⟨_, rfl, rfl, hw⟩ (Nat.le_of_ble_eq_true rfl) (Nat.le_of_ble_eq_true rfl)
def w_X6_firstBegin (dc : Nat × Nat) (h : XH) (l0 : Nat) (l1 : Nat) (l2 : Int32) (Po : Int32 → Prop) : Prop :=
  wO h l0 7 (wR h l1 4 0 (fun a1 => wI h a1 5 1 (fun v2 => wR h l1 4 1 (fun a3 => wI h a3 1 1 (fun v4 => wIf (v2 ≤ v4) (w_X6_freeFrom dc h l0 l1 (fun r6 => w_X6_firstBegin_32 dc h l0 l1 Po (if l2 < r6 then r6 else l2))) (Po (-1)))))))
set_option maxRecDepth 100000 in
set_option maxHeartbeats 4000000 in
theorem k_X6_firstBegin (l : Launch) (dc : Nat × Nat) (h : XH) (l0 : Nat) (l1 : Nat) (l2 : Int32) (Po : Int32 → Prop) (hw : w_X6_firstBegin dc h l0 l1 l2 Po) : xM l dc yX6_firstBegin wsX6_firstBegin 6 137 0 0 [.ref l0, .ref l1, .int l2] h (xRi h Po) := by
  refine xM_of [(0, .ref l0), (1, .ref l1), (2, .int l2)] (own := RX6) (cc := cX6_firstBegin) (nL := 5) (ret := (some .int)) (by decide +kernel) rfl rfl (Nat.le_of_ble_eq_true rfl) rfl ?_
  intro X V hX S E
  subst hX
  obtain ⟨hO, hw⟩ := hw
  refine xr_aload_n S 1 dX6_firstBegin_0 rfl ?_
  refine xw_getR S 4 0 dX6_firstBegin_1 in_X6_firstBegin_X3 rfl (by decide) (Or.inr xn_X6_188) (Or.inl rfl) hw (fun a1 hw => ?_)
  refine xw_getI S 5 1 dX6_firstBegin_4 in_X6_firstBegin_X4 rfl (by decide) (Or.inr xn_X6_255) (Or.inl rfl) hw (fun v2 hw => ?_)
  refine xr_aload_n S 1 dX6_firstBegin_7 rfl ?_
  refine xw_getR S 4 1 dX6_firstBegin_8 in_X6_firstBegin_X3 rfl (by decide) (Or.inr xn_X6_208) (Or.inl rfl) hw (fun a3 hw => ?_)
  refine xw_getI S 1 1 dX6_firstBegin_11 in_X6_firstBegin_X0 rfl (by decide) (Or.inr xn_X6_258) (Or.inl rfl) hw (fun v4 hw => ?_)
  refine xw_icmp_le S 19 dX6_firstBegin_14 (by decide) hw (fun c hw => ?_) (fun c hw => ?_)
  · refine xr_iload_n S 2 dX6_firstBegin_19 rfl ?_
    refine xr_aload_n S 0 dX6_firstBegin_20 rfl ?_
    refine xr_aload_n S 1 dX6_firstBegin_21 rfl ?_
    obtain ⟨f5, f5x⟩ := id hO
    refine xr_callV S 7 [.ref l1] [.int l2] dX6_firstBegin_22 (k_X6_freeFrom l (xdc X) h l0 l1 _ hw) gX6_firstBegin_X6_freeFrom rfl pd_X6_freeFrom ⟨Nat.le_of_ble_eq_true rfl, Nat.le_of_ble_eq_true rfl⟩ rfl (Nat.le_of_ble_eq_true rfl) ⟨Nat.le_of_ble_eq_true rfl, Nat.le_of_ble_eq_true rfl⟩ f5x rfl (fun v9 h8 hv => ?_)
    obtain ⟨r6, rfl, rfl, hw⟩ := hv
    refine xr_mmax S dX6_firstBegin_25 m_X6_firstBegin_3 m_X6_firstBegin_4 m_X6_firstBegin_5 m_X6_firstBegin_6 (Nat.le_of_ble_eq_true rfl) (Nat.le_of_ble_eq_true rfl) ⟨Nat.le_of_ble_eq_true rfl, Nat.le_of_ble_eq_true rfl⟩ ?_
    refine xr_istore_n S [(3, .int (if l2 < r6 then r6 else l2)), (0, .ref l0), (1, .ref l1), (2, .int l2)] dX6_firstBegin_28 (by decide) rfl ?_
    refine xr_iload_n S 0 dX6_firstBegin_29 rfl ?_
    refine xr_istore S [(4, .int (if l2 < r6 then r6 else l2)), (3, .int (if l2 < r6 then r6 else l2)), (0, .ref l0), (1, .ref l1), (2, .int l2)] dX6_firstBegin_30 (by decide) rfl ?_
    refine xr_sub S [(0, .ref l0), (1, .ref l1), (4, .int (if l2 < r6 then r6 else l2))] [2, 3, 0] rfl ?_
    exact k_X6_firstBegin_32 S h l0 l1 Po E hO (if l2 < r6 then r6 else l2) hw
  · refine xr_iconst S (-1) dX6_firstBegin_17 (by decide) ?_
    exact E.1 _ _ _ _ _ _ rfl dX6_firstBegin_18 ⟨_, rfl, rfl, hw⟩ (Nat.le_of_ble_eq_true rfl) (Nat.le_of_ble_eq_true rfl)
def w_X6_earliest (dc : Nat × Nat) (h : XH) (l0 : Nat) (l1 : Int32) (l2 : Int32) (l3 : Int32) (Po : Int32 → XH → Prop) (PX : String → XH → Prop) : Prop :=
  wO h l0 7 ( w_X6_checkCall dc h l0 l1 l2 l3 ( w_X6_routeOf dc h l0 l1 l2 (fun r7 h8 => wOpt r7 (Po (-1) h8) (fun q10 => wO h8 l0 7 ( w_X6_firstBegin dc h8 l0 q10 l3 (fun r13 => Po r13 h8))))) (fun E => PX E h))
set_option maxRecDepth 100000 in
set_option maxHeartbeats 4000000 in
theorem k_X6_earliest (l : Launch) (hfl : l.stackTraces = false) (dc : Nat × Nat) (h : XH) (l0 : Nat) (l1 : Int32) (l2 : Int32) (l3 : Int32) (Po : Int32 → XH → Prop) (PX : String → XH → Prop) (hw : w_X6_earliest dc h l0 l1 l2 l3 Po PX) : xMX l dc yX6_earliest wsX6_earliest 9 161 4 22 [.ref l0, .int l1, .int l2, .int l3] h (xPi Po) PX := by
  refine xMX_of hfl [(0, .ref l0), (1, .int l1), (2, .int l2), (3, .int l3)] (own := RX6) (cc := cX6_earliest) (nL := 5) (ret := (some .int)) (by decide +kernel) rfl rfl (Nat.le_of_ble_eq_true rfl) rfl ?_
  intro X V VX hX S2 E EX TT
  subst hX
  have S := S2.S
  refine xr_aload_n S 0 dX6_earliest_0 rfl ?_
  refine xr_iload_n S 1 dX6_earliest_1 rfl ?_
  refine xr_iload_n S 2 dX6_earliest_2 rfl ?_
  refine xr_iload_n S 3 dX6_earliest_3 rfl ?_
  obtain ⟨e1, hw⟩ := hw
  obtain ⟨f2, f2x⟩ := id e1
  refine xr_callVX S2 7 [.int l1, .int l2, .int l3] [] dX6_earliest_4 (k_X6_checkCall l hfl (xdc X) h l0 l1 l2 l3 _ _ hw) gX6_earliest_X6_checkCall rfl pd_X6_checkCall ⟨Nat.le_of_ble_eq_true rfl, Nat.le_of_ble_eq_true rfl⟩ rfl (Nat.le_of_ble_eq_true rfl) ⟨Nat.le_of_ble_eq_true rfl, Nat.le_of_ble_eq_true rfl⟩ f2x rfl (fun E1 h9 hx => by obtain ⟨rfl, hx⟩ := hx; exact EX _ _ _ _ _ _ hx (Nat.le_of_ble_eq_true rfl) (Nat.le_of_ble_eq_true rfl)) (fun v9 h5 hv => ?_)
  obtain ⟨rfl, rfl, hw⟩ := hv
  refine xr_aload_n S 0 dX6_earliest_7 rfl ?_
  refine xr_iload_n S 1 dX6_earliest_8 rfl ?_
  refine xr_iload_n S 2 dX6_earliest_9 rfl ?_
  obtain ⟨f6, f6x⟩ := id e1
  refine xr_callV S 7 [.int l1, .int l2] [] dX6_earliest_10 (k_X6_routeOf l (xdc X) h l0 l1 l2 _ hw) gX6_earliest_X6_routeOf rfl pd_X6_routeOf ⟨Nat.le_of_ble_eq_true rfl, Nat.le_of_ble_eq_true rfl⟩ rfl (Nat.le_of_ble_eq_true rfl) ⟨Nat.le_of_ble_eq_true rfl, Nat.le_of_ble_eq_true rfl⟩ f6x rfl (fun v9 h8 hv => ?_)
  obtain ⟨r7, rfl, hw⟩ := hv
  refine xr_astoreq S [(4, va_rf r7), (0, .ref l0), (1, .int l1), (2, .int l2), (3, .int l3)] dX6_earliest_13 (by decide) rfl ?_
  refine xr_aloadq S 0 dX6_earliest_15 rfl ?_
  refine xw_ifnonnull S 24 dX6_earliest_17 (by decide) hw (fun q10 hr hwq10 => ?_) (fun hr hwq10 => ?_)
  · subst hr
    have hw := hwq10
    refine xr_aload_n S 1 dX6_earliest_24 rfl ?_
    refine xr_aload S 0 dX6_earliest_25 rfl ?_
    refine xr_iload_n S 4 dX6_earliest_27 rfl ?_
    obtain ⟨e11, hw⟩ := hw
    obtain ⟨f12, f12x⟩ := id e11
    refine xr_callV S 7 [.ref q10, .int l3] [] dX6_earliest_28 (k_X6_firstBegin l (xdc X) h8 l0 q10 l3 _ hw) gX6_earliest_X6_firstBegin rfl pd_X6_firstBegin ⟨Nat.le_of_ble_eq_true rfl, Nat.le_of_ble_eq_true rfl⟩ rfl (Nat.le_of_ble_eq_true rfl) ⟨Nat.le_of_ble_eq_true rfl, Nat.le_of_ble_eq_true rfl⟩ f12x rfl (fun v9 h15 hv => ?_)
    obtain ⟨r13, rfl, rfl, hw⟩ := hv
    exact E.1 _ _ _ _ _ _ rfl dX6_earliest_31 ⟨_, rfl, hw⟩ (Nat.le_of_ble_eq_true rfl) (Nat.le_of_ble_eq_true rfl)
  · subst hr
    have hw := hwq10
    refine xr_iconst S (-1) dX6_earliest_20 (by decide) ?_
    refine xr_goto S (tgt := 31) dX6_earliest_21 (by decide) ?_
    exact E.1 _ _ _ _ _ _ rfl dX6_earliest_31 ⟨_, rfl, hw⟩ (Nat.le_of_ble_eq_true rfl) (Nat.le_of_ble_eq_true rfl)
theorem in_X6_enter_X6 : ∀ w ∈ wsX60, w ∈ wsX6_enter := by decide +kernel
theorem m_X6_enter_1 : Cond.fieldLink RX6 29 "PilotBook" "passages" "Ljava/util/ArrayList;" ∈ wsX6_enter := by decide +kernel
theorem in_X6_enter_X1 : ∀ w ∈ wsX10, w ∈ wsX6_enter := by decide +kernel
theorem in_X6_enter_X3 : ∀ w ∈ wsX30, w ∈ wsX6_enter := by decide +kernel
theorem in_X6_enter_X4 : ∀ w ∈ wsX40, w ∈ wsX6_enter := by decide +kernel
theorem in_X6_enter_X2 : ∀ w ∈ wsX20, w ∈ wsX6_enter := by decide +kernel
def w_X6_enter_37 (dc : Nat × Nat) (h : XH) (l1 : Nat) (Po : XH → Prop) : Prop :=
  wR h l1 2 0 (fun a9 => wR h a9 4 0 (fun a10 => wP h a10 5 3 (.ref l1) (fun h11 => wR h11 l1 2 3 (fun a12 => wP h11 a12 3 3 (.ref l1) (fun h13 => Po h13)))))
set_option maxRecDepth 100000 in
set_option maxHeartbeats 4000000 in
theorem k_X6_enter_37 {V : XVT} {X : XC} {l : Launch} (S : xS V X l RX6 yX6_enter.name cX6_enter 2 wsX6_enter (xRm 7 171 1 64)) (h : XH) (l1 : Nat) (Po : XH → Prop) (E : xEnd V cX6_enter none 1 64 (xPv Po)) (hw : w_X6_enter_37 (xdc X) h l1 Po) : V 1 64 h 37 [(1, .ref l1)] [] := by
  refine xr_aload_n S 0 dX6_enter_37 rfl ?_
  refine xw_getR S 2 0 dX6_enter_38 in_X6_enter_X1 rfl (by decide) (Or.inr xn_X6_133) (Or.inl rfl) hw (fun a9 hw => ?_)
  refine xw_getR S 4 0 dX6_enter_41 in_X6_enter_X3 rfl (by decide) (Or.inr xn_X6_188) (Or.inl rfl) hw (fun a10 hw => ?_)
  refine xr_aload_n S 0 dX6_enter_44 rfl ?_
  refine xw_put S 5 3 tyX4 dX6_enter_45 in_X6_enter_X4 rfl (by decide) (Or.inr xn_X6_129) (Or.inl rfl) tyX4_ok nmX4 rfl rfl (xfit_q _ (some l1)) hw (fun h11 hw => ?_)
  refine xr_aload_n S 0 dX6_enter_48 rfl ?_
  refine xw_getR S 2 3 dX6_enter_49 in_X6_enter_X1 rfl (by decide) (Or.inr xn_X6_192) (Or.inl rfl) hw (fun a12 hw => ?_)
  refine xr_aload_n S 0 dX6_enter_52 rfl ?_
  refine xw_put S 3 3 tyX2 dX6_enter_53 in_X6_enter_X2 rfl (by decide) (Or.inr xn_X6_199) (Or.inl rfl) tyX2_ok nmX2 rfl rfl (xfit_q _ (some l1)) hw (fun h13 hw => ?_)
  exact E.2.2.1 _ _ _ _ _ rfl dX6_enter_56 ⟨rfl, hw⟩ (Nat.le_of_ble_eq_true rfl) (Nat.le_of_ble_eq_true rfl)
def w_X6_enter (dc : Nat × Nat) (h : XH) (l0 : Nat) (l1 : Nat) (Po : XH → Prop) : Prop :=
  wR h l0 7 4 (fun a1 => wO h a1 0 ( w_Jx4a65c_add_9ea2d dc h a1 l1 (fun r4 h5 => wR h5 l1 2 0 (fun a7 => wI h5 a7 4 2 (fun v8 => wIf (v8 = 0) (w_X6_enter_37 dc h5 l1 Po) (wQ h5 l1 2 4 (fun r14 => wOpt r14 (w_X6_enter_37 dc h5 l1 Po) (fun q15 => wQ h5 l1 2 4 (fun r16 => wO h5 l1 2 ( w_X1_end dc h5 l1 (fun r19 => wDer r16 (fun q22 => wP h5 q22 2 6 (.int r19) (fun h23 => (w_X6_enter_37 dc h23 l1 Po))))))))))))))
set_option maxRecDepth 100000 in
set_option maxHeartbeats 4000000 in
theorem k_X6_enter (l : Launch) (dc : Nat × Nat) (h : XH) (l0 : Nat) (l1 : Nat) (Po : XH → Prop) (hw : w_X6_enter dc h l0 l1 Po) : xM l dc yX6_enter wsX6_enter 7 171 1 64 [.ref l0, .ref l1] h (xPv Po) := by
  refine xM_of [(0, .ref l0), (1, .ref l1)] (own := RX6) (cc := cX6_enter) (nL := 2) (ret := none) (by decide +kernel) rfl rfl (Nat.le_of_ble_eq_true rfl) rfl ?_
  intro X V hX S E
  subst hX
  refine xr_aload_n S 0 dX6_enter_0 rfl ?_
  refine xw_getR S 7 4 dX6_enter_1 in_X6_enter_X6 rfl (by decide) (Or.inl m_X6_enter_1) (Or.inl rfl) hw (fun a1 hw => ?_)
  refine xr_aload_n S 1 dX6_enter_4 rfl ?_
  obtain ⟨e2, hw⟩ := hw
  obtain ⟨f3, f3x⟩ := id e2
  refine xr_callV S 0 [.ref l1] [] dX6_enter_5 (k_Jx4a65c_add_9ea2d l (xdc X) h a1 l1 _ hw) gX6_enter_Jx4a65c_add_9ea2d rfl pd_Jx4a65c_add_9ea2d ⟨Nat.le_of_ble_eq_true rfl, Nat.le_of_ble_eq_true rfl⟩ rfl (Nat.le_of_ble_eq_true rfl) ⟨Nat.le_of_ble_eq_true rfl, Nat.le_of_ble_eq_true rfl⟩ f3x rfl (fun v9 h5 hv => ?_)
  obtain ⟨r4, rfl, hw⟩ := hv
  refine xr_pop S dX6_enter_8 rfl ?_
  refine xr_aload_n S 1 dX6_enter_9 rfl ?_
  refine xw_getR S 2 0 dX6_enter_10 in_X6_enter_X1 rfl (by decide) (Or.inr xn_X6_133) (Or.inl rfl) hw (fun a7 hw => ?_)
  refine xw_getI S 4 2 dX6_enter_13 in_X6_enter_X3 rfl (by decide) (Or.inr xn_X6_139) (Or.inl rfl) hw (fun v8 hw => ?_)
  refine xw_if_eq S 37 dX6_enter_16 (by decide) hw (fun c hw => ?_) (fun c hw => ?_)
  · refine xr_sub S [(1, .ref l1)] [1] rfl ?_
    exact k_X6_enter_37 S h5 l1 Po E hw
  · refine xr_aload_n S 1 dX6_enter_19 rfl ?_
    refine xw_getQ S 2 4 dX6_enter_20 in_X6_enter_X1 rfl (by decide) (Or.inr xn_X6_145) (Or.inl rfl) hw (fun r14 hw => ?_)
    refine xw_ifnull S 37 dX6_enter_23 (by decide) hw (fun hr hwq15 => ?_) (fun q15 hr hwq15 => ?_)
    · subst hr
      have hw := hwq15
      refine xr_sub S [(1, .ref l1)] [1] rfl ?_
      exact k_X6_enter_37 S h5 l1 Po E hw
    · subst hr
      have hw := hwq15
      refine xr_aload_n S 1 dX6_enter_26 rfl ?_
      refine xw_getQ S 2 4 dX6_enter_27 in_X6_enter_X1 rfl (by decide) (Or.inr xn_X6_145) (Or.inl rfl) hw (fun r16 hw => ?_)
      refine xr_aload_n S 1 dX6_enter_30 rfl ?_
      obtain ⟨e17, hw⟩ := hw
      obtain ⟨f18, f18x⟩ := id e17
      refine xr_callV S 2 [] [va_rf r16] dX6_enter_31 (k_X1_end l (xdc X) h5 l1 _ hw) gX6_enter_X1_end rfl pd_X1_end ⟨Nat.le_of_ble_eq_true rfl, Nat.le_of_ble_eq_true rfl⟩ rfl (by cases r16 <;> exact Nat.le_of_ble_eq_true rfl) ⟨Nat.le_of_ble_eq_true rfl, Nat.le_of_ble_eq_true rfl⟩ f18x rfl (fun v9 h21 hv => ?_)
      obtain ⟨r19, rfl, rfl, hw⟩ := hv
      obtain ⟨q22, hrq22, hwq22⟩ := hw
      subst hrq22
      have hw := hwq22
      refine xw_put S 2 6 tyX1 dX6_enter_34 in_X6_enter_X1 rfl (by decide) (Or.inr xn_X6_200) (Or.inl rfl) tyX1_ok nmX1 rfl rfl ⟨rfl, rfl⟩ hw (fun h23 hw => ?_)
      refine xr_sub S [(1, .ref l1)] [1] rfl ?_
      exact k_X6_enter_37 S h23 l1 Po E hw
theorem in_X6_book_X6 : ∀ w ∈ wsX60, w ∈ wsX6_book := by decide +kernel
theorem m_X6_book_1 : Cond.fieldLink RX6 29 "PilotBook" "passages" "Ljava/util/ArrayList;" ∈ wsX6_book := by decide +kernel
theorem gd_X6_book_65 : ∀ w ∈ (vx_atS RX6 65 "java/lang/IllegalStateException" xNms).filter goodWord, w ∈ wsX6_book := by decide +kernel
theorem m_X6_book_3 : Cond.classLink RX6 61 "java/lang/IllegalStateException" ∈ wsX6_book := by decide +kernel
theorem m_X6_book_4 : Cond.initialized "java/lang/IllegalStateException" ∈ wsX6_book := by decide +kernel
theorem in_X6_book_X1 : ∀ w ∈ wsX10, w ∈ wsX6_book := by decide +kernel
theorem m_X6_book_6 : Cond.classLink RX6 134 RX1 ∈ wsX6_book := by decide +kernel
theorem m_X6_book_7 : Cond.instantiable RX1 7 ∈ wsX6_book := by decide +kernel
theorem m_X6_book_8 : Cond.initialized RX1 ∈ wsX6_book := by decide +kernel
theorem m_X6_book_9 : Cond.methodLink RX6 176 yX1_init ∈ wsX6_book := by decide +kernel
theorem m_X6_book_10 : Cond.instanceMethod yX1_init ∈ wsX6_book := by decide +kernel
def w_X6_book_73 (dc : Nat × Nat) (h : XH) (l0 : Nat) (l3 : Int32) (l4 : Int32) (l5 : Nat) (l6 : Int32) (t0 : Option Nat) (Po : Int32 → XH → Prop) (PX : String → XH → Prop) : Prop :=
  wOpt t0 (PX "java/lang/IllegalStateException" h) (fun q29 => wNew h 2 [.null, .int 0, .int 0, .null, .null, .null, .int 0] (fun q30 h31 => w_X1_init dc h31 q30 l5 l3 l6 q29 (fun h33 => wO h33 l0 7 ( w_X6_enter dc h33 l0 q30 (fun h38 => Po l4 h38)))))
set_option maxRecDepth 100000 in
set_option maxHeartbeats 4000000 in
theorem k_X6_book_73 {V : XVT} {VX : XWT} {X : XC} {l : Launch} (hfl : l.stackTraces = false) (S2 : xSX V VX X l RX6 yX6_book.name cX6_book 8 wsX6_book (xRm 9 192 7 99)) (h : XH) (l0 : Nat) (l3 : Int32) (l4 : Int32) (l5 : Nat) (l6 : Int32) (t0 : Option Nat) (Po : Int32 → XH → Prop) (PX : String → XH → Prop) (E : xEnd V cX6_book (some .int) 7 99 (xPi Po)) (EX : xEndX VX 7 99 PX) (TT : xThr V RX6 cX6_book wsX6_book (xRm 9 192 7 99) 7 99 PX) (hw : w_X6_book_73 (xdc X) h l0 l3 l4 l5 l6 t0 Po PX) : V 5 28 h 73 [(0, .ref l0), (3, .int l3), (4, .int l4), (5, .ref l5), (6, .int l6)] [va_rf t0] := by
  have S := S2.S
  refine xr_astoreq S [(7, va_rf t0), (0, .ref l0), (3, .int l3), (4, .int l4), (5, .ref l5), (6, .int l6)] dX6_book_73 (by decide) rfl ?_
  refine xr_aloadq S 0 dX6_book_75 rfl ?_
  refine xw_ifnonnull S 90 dX6_book_77 (by decide) hw (fun q29 hr hwq29 => ?_) (fun hr hwq29 => ?_)
  · subst hr
    have hw := hwq29
    refine xr_aload_n S 1 dX6_book_90 rfl ?_
    refine xr_new S 2 tyX1 [.null, .int 0, .int 0, .null, .null, .null, .int 0] dX6_book_91 in_X6_book_X1 tyX1_ok m_X6_book_6 m_X6_book_7 m_X6_book_8 rfl dfX1 (Nat.le_of_ble_eq_true rfl) (Nat.le_of_ble_eq_true rfl) (fun q30 hq => ?_)
    have hw := hw q30 hq
    generalize xup h q30 (.inr (2, [.null, .int 0, .int 0, .null, .null, .null, .int 0])) = h31 at hw ⊢
    refine xr_dup S dX6_book_94 rfl ?_
    refine xr_aload S 4 dX6_book_95 rfl ?_
    refine xr_iload_n S 2 dX6_book_97 rfl ?_
    refine xr_iload S 5 dX6_book_98 rfl ?_
    refine xr_aload S 0 dX6_book_100 rfl ?_
    refine xr_callI S [.ref l5, .int l3, .int l6, .ref q29] [.ref q30, .ref l0] dX6_book_102 (k_X1_init l (xdc X) h31 q30 l5 l3 l6 q29 _ hw) gX6_book_X1_init rfl m_X6_book_8 m_X6_book_9 m_X6_book_10 rfl pd_X1_init ⟨Nat.le_of_ble_eq_true rfl, Nat.le_of_ble_eq_true rfl⟩ rfl (Nat.le_of_ble_eq_true rfl) ⟨Nat.le_of_ble_eq_true rfl, Nat.le_of_ble_eq_true rfl⟩ (fun v9 h33 hv => ?_)
    obtain ⟨rfl, hw⟩ := hv
    obtain ⟨e35, hw⟩ := hw
    obtain ⟨f36, f36x⟩ := id e35
    refine xr_callV S 7 [.ref q30] [] dX6_book_105 (k_X6_enter l (xdc X) h33 l0 q30 _ hw) gX6_book_X6_enter rfl pd_X6_enter ⟨Nat.le_of_ble_eq_true rfl, Nat.le_of_ble_eq_true rfl⟩ rfl (Nat.le_of_ble_eq_true rfl) ⟨Nat.le_of_ble_eq_true rfl, Nat.le_of_ble_eq_true rfl⟩ f36x rfl (fun v9 h38 hv => ?_)
    obtain ⟨rfl, hw⟩ := hv
    refine xr_iload S 3 dX6_book_108 rfl ?_
    exact E.1 _ _ _ _ _ _ rfl dX6_book_110 ⟨_, rfl, hw⟩ (Nat.le_of_ble_eq_true rfl) (Nat.le_of_ble_eq_true rfl)
  · subst hr
    have hw := hwq29
    exact TT _ _ h _ _ _ "java/lang/IllegalStateException" "there is no minute for the passage" 61 174 65 dX6_book_80 dX6_book_83 dX6_book_84 dX6_book_86 dX6_book_89 rfl (by decide) (by decide +kernel) (by decide) m_X6_book_3 m_X6_book_4 gd_X6_book_65 xbad_65 xot_61_65 (Nat.le_of_ble_eq_true rfl) (Nat.le_of_ble_eq_true rfl) (Nat.le_of_ble_eq_true rfl) (Nat.le_of_ble_eq_true rfl) hw (Nat.le_of_ble_eq_true rfl) (Nat.le_of_ble_eq_true rfl)
def w_X6_book (dc : Nat × Nat) (h : XH) (l0 : Nat) (l1 : Int32) (l2 : Int32) (l3 : Int32) (Po : Int32 → XH → Prop) (PX : String → XH → Prop) : Prop :=
  wO h l0 7 ( w_X6_checkCall dc h l0 l1 l2 l3 ( wR h l0 7 4 (fun a6 => wO h a6 0 ( w_Jx4a65c_size_8abf5 dc h a6 (fun r9 => w_X6_checkRoom dc h r9 40 ( w_X6_routeOf dc h l0 l1 l2 (fun r16 h17 => wOpt r16 (PX "java/lang/IllegalStateException" h17) (fun q19 => wO h17 l0 7 ( w_X6_firstBegin dc h17 l0 q19 l3 (fun r22 => wIf (r22 = (-1)) (w_X6_book_73 dc h17 l0 l3 r9 q19 r22 none Po PX) (w_X6_pilotFor dc h17 l0 q19 r22 (fun r26 => w_X6_book_73 dc h17 l0 l3 r9 q19 r22 r26 Po PX))))))) (fun E => PX E h))))) (fun E => PX E h))
set_option maxRecDepth 100000 in
set_option maxHeartbeats 4000000 in
theorem k_X6_book (l : Launch) (hfl : l.stackTraces = false) (dc : Nat × Nat) (h : XH) (l0 : Nat) (l1 : Int32) (l2 : Int32) (l3 : Int32) (Po : Int32 → XH → Prop) (PX : String → XH → Prop) (hw : w_X6_book dc h l0 l1 l2 l3 Po PX) : xMX l dc yX6_book wsX6_book 9 192 7 99 [.ref l0, .int l1, .int l2, .int l3] h (xPi Po) PX := by
  refine xMX_of hfl [(0, .ref l0), (1, .int l1), (2, .int l2), (3, .int l3)] (own := RX6) (cc := cX6_book) (nL := 8) (ret := (some .int)) (by decide +kernel) rfl rfl (Nat.le_of_ble_eq_true rfl) rfl ?_
  intro X V VX hX S2 E EX TT
  subst hX
  have S := S2.S
  refine xr_aload_n S 0 dX6_book_0 rfl ?_
  refine xr_iload_n S 1 dX6_book_1 rfl ?_
  refine xr_iload_n S 2 dX6_book_2 rfl ?_
  refine xr_iload_n S 3 dX6_book_3 rfl ?_
  obtain ⟨e1, hw⟩ := hw
  obtain ⟨f2, f2x⟩ := id e1
  refine xr_callVX S2 7 [.int l1, .int l2, .int l3] [] dX6_book_4 (k_X6_checkCall l hfl (xdc X) h l0 l1 l2 l3 _ _ hw) gX6_book_X6_checkCall rfl pd_X6_checkCall ⟨Nat.le_of_ble_eq_true rfl, Nat.le_of_ble_eq_true rfl⟩ rfl (Nat.le_of_ble_eq_true rfl) ⟨Nat.le_of_ble_eq_true rfl, Nat.le_of_ble_eq_true rfl⟩ f2x rfl (fun E1 h9 hx => by obtain ⟨rfl, hx⟩ := hx; exact EX _ _ _ _ _ _ hx (Nat.le_of_ble_eq_true rfl) (Nat.le_of_ble_eq_true rfl)) (fun v9 h5 hv => ?_)
  obtain ⟨rfl, rfl, hw⟩ := hv
  refine xr_aload_n S 0 dX6_book_7 rfl ?_
  refine xw_getR S 7 4 dX6_book_8 in_X6_book_X6 rfl (by decide) (Or.inl m_X6_book_1) (Or.inl rfl) hw (fun a6 hw => ?_)
  obtain ⟨e7, hw⟩ := hw
  obtain ⟨f8, f8x⟩ := id e7
  refine xr_callV S 0 [] [] dX6_book_11 (k_Jx4a65c_size_8abf5 l (xdc X) h a6 _ hw) gX6_book_Jx4a65c_size_8abf5 rfl pd_Jx4a65c_size_8abf5 ⟨Nat.le_of_ble_eq_true rfl, Nat.le_of_ble_eq_true rfl⟩ rfl (Nat.le_of_ble_eq_true rfl) ⟨Nat.le_of_ble_eq_true rfl, Nat.le_of_ble_eq_true rfl⟩ f8x rfl (fun v9 h11 hv => ?_)
  obtain ⟨r9, rfl, rfl, hw⟩ := hv
  refine xr_istore S [(4, .int r9), (0, .ref l0), (1, .int l1), (2, .int l2), (3, .int l3)] dX6_book_14 (by decide) rfl ?_
  refine xr_iload S 0 dX6_book_16 rfl ?_
  refine xr_bipush S (40) dX6_book_18 (by decide) ?_
  refine xr_callSX S2 [.int r9, .int 40] [] dX6_book_20 (k_X6_checkRoom l hfl (xdc X) h r9 40 _ _ hw) gX6_book_X6_checkRoom rfl pd_X6_checkRoom ⟨Nat.le_of_ble_eq_true rfl, Nat.le_of_ble_eq_true rfl⟩ rfl (Nat.le_of_ble_eq_true rfl) ⟨Nat.le_of_ble_eq_true rfl, Nat.le_of_ble_eq_true rfl⟩ (fun E1 h9 hx => by obtain ⟨rfl, hx⟩ := hx; exact EX _ _ _ _ _ _ hx (Nat.le_of_ble_eq_true rfl) (Nat.le_of_ble_eq_true rfl)) (fun v9 h14 hv => ?_)
  obtain ⟨rfl, rfl, hw⟩ := hv
  refine xr_aload_n S 1 dX6_book_23 rfl ?_
  refine xr_iload_n S 2 dX6_book_24 rfl ?_
  refine xr_iload_n S 3 dX6_book_25 rfl ?_
  obtain ⟨f15, f15x⟩ := id e1
  refine xr_callV S 7 [.int l1, .int l2] [] dX6_book_26 (k_X6_routeOf l (xdc X) h l0 l1 l2 _ hw) gX6_book_X6_routeOf rfl pd_X6_routeOf ⟨Nat.le_of_ble_eq_true rfl, Nat.le_of_ble_eq_true rfl⟩ rfl (Nat.le_of_ble_eq_true rfl) ⟨Nat.le_of_ble_eq_true rfl, Nat.le_of_ble_eq_true rfl⟩ f15x rfl (fun v9 h17 hv => ?_)
  obtain ⟨r16, rfl, hw⟩ := hv
  refine xr_astoreq S [(5, va_rf r16), (4, .int r9), (0, .ref l0), (1, .int l1), (2, .int l2), (3, .int l3)] dX6_book_29 (by decide) rfl ?_
  refine xr_aloadq S 0 dX6_book_31 rfl ?_
  refine xw_ifnonnull S 46 dX6_book_33 (by decide) hw (fun q19 hr hwq19 => ?_) (fun hr hwq19 => ?_)
  · subst hr
    have hw := hwq19
    refine xr_aload_n S 2 dX6_book_46 rfl ?_
    refine xr_aload S 0 dX6_book_47 rfl ?_
    refine xr_iload_n S 5 dX6_book_49 rfl ?_
    obtain ⟨e20, hw⟩ := hw
    obtain ⟨f21, f21x⟩ := id e20
    refine xr_callV S 7 [.ref q19, .int l3] [] dX6_book_50 (k_X6_firstBegin l (xdc X) h17 l0 q19 l3 _ hw) gX6_book_X6_firstBegin rfl pd_X6_firstBegin ⟨Nat.le_of_ble_eq_true rfl, Nat.le_of_ble_eq_true rfl⟩ rfl (Nat.le_of_ble_eq_true rfl) ⟨Nat.le_of_ble_eq_true rfl, Nat.le_of_ble_eq_true rfl⟩ f21x rfl (fun v9 h24 hv => ?_)
    obtain ⟨r22, rfl, rfl, hw⟩ := hv
    refine xr_istore S [(6, .int r22), (5, .ref q19), (4, .int r9), (0, .ref l0), (1, .int l1), (2, .int l2), (3, .int l3)] dX6_book_53 (by decide) rfl ?_
    refine xr_iload S 0 dX6_book_55 rfl ?_
    refine xr_iconst S (-1) dX6_book_57 (by decide) ?_
    refine xw_icmp_ne S 65 dX6_book_58 (by decide) hw (fun c hw => ?_) (fun c hw => ?_)
    · refine xr_aload_n S 3 dX6_book_65 rfl ?_
      refine xr_aload S 1 dX6_book_66 rfl ?_
      refine xr_iload S 0 dX6_book_68 rfl ?_
      obtain ⟨f25, f25x⟩ := id e20
      refine xr_callV S 7 [.ref q19, .int r22] [] dX6_book_70 (k_X6_pilotFor l (xdc X) h17 l0 q19 r22 _ hw) gX6_book_X6_pilotFor rfl pd_X6_pilotFor ⟨Nat.le_of_ble_eq_true rfl, Nat.le_of_ble_eq_true rfl⟩ rfl (Nat.le_of_ble_eq_true rfl) ⟨Nat.le_of_ble_eq_true rfl, Nat.le_of_ble_eq_true rfl⟩ f25x rfl (fun v9 h28 hv => ?_)
      obtain ⟨r26, rfl, rfl, hw⟩ := hv
      refine xr_sub S [(0, .ref l0), (3, .int l3), (4, .int r9), (5, .ref q19), (6, .int r22)] [3, 6, 2, 1, 0] rfl ?_
      exact k_X6_book_73 hfl S2 h17 l0 l3 r9 q19 r22 r26 Po PX E EX TT hw
    · refine xr_null S dX6_book_61 ?_
      refine xr_goto S (tgt := 73) dX6_book_62 (by decide) ?_
      refine xr_sub S [(0, .ref l0), (3, .int l3), (4, .int r9), (5, .ref q19), (6, .int r22)] [3, 6, 2, 1, 0] rfl ?_
      exact k_X6_book_73 hfl S2 h17 l0 l3 r9 q19 r22 none Po PX E EX TT hw
  · subst hr
    have hw := hwq19
    exact TT _ _ h17 _ _ _ "java/lang/IllegalStateException" "the ship can't go that way now" 61 168 65 dX6_book_36 dX6_book_39 dX6_book_40 dX6_book_42 dX6_book_45 rfl (by decide) (by decide +kernel) (by decide) m_X6_book_3 m_X6_book_4 gd_X6_book_65 xbad_65 xot_61_65 (Nat.le_of_ble_eq_true rfl) (Nat.le_of_ble_eq_true rfl) (Nat.le_of_ble_eq_true rfl) (Nat.le_of_ble_eq_true rfl) hw (Nat.le_of_ble_eq_true rfl) (Nat.le_of_ble_eq_true rfl)
theorem in_X6_passage_X6 : ∀ w ∈ wsX60, w ∈ wsX6_passage := by decide +kernel
theorem m_X6_passage_1 : Cond.fieldLink RX6 29 "PilotBook" "passages" "Ljava/util/ArrayList;" ∈ wsX6_passage := by decide +kernel
theorem m_X6_passage_2 : Cond.classLink RX6 134 "PilotBook$Passage" ∈ wsX6_passage := by decide +kernel
theorem in_X6_passage_X1 : ∀ w ∈ wsX10, w ∈ wsX6_passage := by decide +kernel
theorem in_X6_passage_X3 : ∀ w ∈ wsX30, w ∈ wsX6_passage := by decide +kernel
theorem in_X6_passage_X4 : ∀ w ∈ wsX40, w ∈ wsX6_passage := by decide +kernel
theorem in_X6_passage_X2 : ∀ w ∈ wsX20, w ∈ wsX6_passage := by decide +kernel
theorem in_X6_passage_X0 : ∀ w ∈ wsX00, w ∈ wsX6_passage := by decide +kernel
theorem gd_X6_passage_114 : ∀ w ∈ (vx_atS RX6 114 "java/lang/IndexOutOfBoundsException" xNms).filter goodWord, w ∈ wsX6_passage := by decide +kernel
theorem m_X6_passage_9 : Cond.classLink RX6 110 "java/lang/IndexOutOfBoundsException" ∈ wsX6_passage := by decide +kernel
theorem m_X6_passage_10 : Cond.initialized "java/lang/IndexOutOfBoundsException" ∈ wsX6_passage := by decide +kernel
def w_X6_passage (dc : Nat × Nat) (h : XH) (l0 : Nat) (l1 : Int32) (l2 : Int32) (Po : Int32 → Prop) (PX : String → Prop) : Prop :=
  wR h l0 7 4 (fun a1 => wO h a1 0 ( w_Jx4a65c_size_8abf5 dc h a1 (fun r4 => w_X6_checkNumber dc h l1 r4 ( wR h l0 7 4 (fun a10 => wO h a10 0 ( w_Jx4a65c_get_915e3 dc h a10 l1 (fun r13 => wDer r13 (fun q16 => wO h q16 2 ( ((l2 = 0 → wR h q16 2 0 (fun a19 => wR h a19 4 0 (fun a20 => wI h a20 5 0 (fun v21 => Po v21)))) ∧ (l2 = 1 → wI h q16 2 2 (fun v22 => Po v22)) ∧ (l2 = 2 → wR h q16 2 3 (fun a23 => wI h a23 3 0 (fun v24 => Po v24))) ∧ (l2 = 3 → wR h q16 2 0 (fun a25 => wI h a25 4 3 (fun v26 => Po v26))) ∧ (l2 = 4 → wR h q16 2 0 (fun a27 => wR h a27 4 1 (fun a28 => wI h a28 1 0 (fun v29 => Po v29)))) ∧ (l2 = 5 → wR h q16 2 0 (fun a30 => wI h a30 4 2 (fun v31 => wIf (v31 = 0) (Po 0) (Po 1)))) ∧ ((l2).toInt < 0 ∨ 5 < (l2).toInt → PX "java/lang/IndexOutOfBoundsException")))))))) (fun E => PX E))))
set_option maxRecDepth 100000 in
set_option maxHeartbeats 4000000 in
theorem k_X6_passage (l : Launch) (hfl : l.stackTraces = false) (dc : Nat × Nat) (h : XH) (l0 : Nat) (l1 : Int32) (l2 : Int32) (Po : Int32 → Prop) (PX : String → Prop) (hw : w_X6_passage dc h l0 l1 l2 Po PX) : xMX l dc yX6_passage wsX6_passage 7 111 2 12 [.ref l0, .int l1, .int l2] h (xRi h Po) (xXr h PX) := by
  refine xMX_of hfl [(0, .ref l0), (1, .int l1), (2, .int l2)] (own := RX6) (cc := cX6_passage) (nL := 4) (ret := (some .int)) (by decide +kernel) rfl rfl (Nat.le_of_ble_eq_true rfl) rfl ?_
  intro X V VX hX S2 E EX TT
  subst hX
  have S := S2.S
  refine xr_iload_n S 1 dX6_passage_0 rfl ?_
  refine xr_aload_n S 0 dX6_passage_1 rfl ?_
  refine xw_getR S 7 4 dX6_passage_2 in_X6_passage_X6 rfl (by decide) (Or.inl m_X6_passage_1) (Or.inl rfl) hw (fun a1 hw => ?_)
  obtain ⟨e2, hw⟩ := hw
  obtain ⟨f3, f3x⟩ := id e2
  refine xr_callV S 0 [] [.int l1] dX6_passage_5 (k_Jx4a65c_size_8abf5 l (xdc X) h a1 _ hw) gX6_passage_Jx4a65c_size_8abf5 rfl pd_Jx4a65c_size_8abf5 ⟨Nat.le_of_ble_eq_true rfl, Nat.le_of_ble_eq_true rfl⟩ rfl (Nat.le_of_ble_eq_true rfl) ⟨Nat.le_of_ble_eq_true rfl, Nat.le_of_ble_eq_true rfl⟩ f3x rfl (fun v9 h6 hv => ?_)
  obtain ⟨r4, rfl, rfl, hw⟩ := hv
  refine xr_callSX S2 [.int l1, .int r4] [] dX6_passage_8 (k_X6_checkNumber l hfl (xdc X) h l1 r4 _ _ hw) gX6_passage_X6_checkNumber rfl pd_X6_checkNumber ⟨Nat.le_of_ble_eq_true rfl, Nat.le_of_ble_eq_true rfl⟩ rfl (Nat.le_of_ble_eq_true rfl) ⟨Nat.le_of_ble_eq_true rfl, Nat.le_of_ble_eq_true rfl⟩ (fun E1 h9 hx => by obtain ⟨rfl, hx⟩ := hx; exact EX _ _ _ _ _ _ ⟨rfl, hx⟩ (Nat.le_of_ble_eq_true rfl) (Nat.le_of_ble_eq_true rfl)) (fun v9 h9 hv => ?_)
  obtain ⟨rfl, rfl, hw⟩ := hv
  refine xr_aload_n S 0 dX6_passage_11 rfl ?_
  refine xw_getR S 7 4 dX6_passage_12 in_X6_passage_X6 rfl (by decide) (Or.inl m_X6_passage_1) (Or.inl rfl) hw (fun a10 hw => ?_)
  refine xr_iload_n S 1 dX6_passage_15 rfl ?_
  obtain ⟨e11, hw⟩ := hw
  obtain ⟨f12, f12x⟩ := id e11
  refine xr_callV S 0 [.int l1] [] dX6_passage_16 (k_Jx4a65c_get_915e3 l (xdc X) h a10 l1 _ hw) gX6_passage_Jx4a65c_get_915e3 rfl pd_Jx4a65c_get_915e3 ⟨Nat.le_of_ble_eq_true rfl, Nat.le_of_ble_eq_true rfl⟩ rfl (Nat.le_of_ble_eq_true rfl) ⟨Nat.le_of_ble_eq_true rfl, Nat.le_of_ble_eq_true rfl⟩ f12x rfl (fun v9 h15 hv => ?_)
  obtain ⟨r13, rfl, rfl, hw⟩ := hv
  obtain ⟨q16, hrq16, hwq16⟩ := hw
  subst hrq16
  have hw := hwq16
  obtain ⟨e17, hw⟩ := hw
  obtain ⟨f18, f18x⟩ := id e17
  refine xr_cast S 2 dX6_passage_19 m_X6_passage_2 f18x rfl ?_
  refine xr_astore_n S [(3, .ref q16), (0, .ref l0), (1, .int l1), (2, .int l2)] dX6_passage_22 (by decide) rfl ?_
  refine xr_iload_n S 3 dX6_passage_23 rfl ?_
  by_cases c0 : l2 = 0
  · have hw := hw.1 c0
    refine xr_swIn S 0 dX6_passage_24 (by rw [c0]; rfl) (by decide) (by decide) rfl (tgt := 64) (by decide) ?_
    refine xr_aload_n S 0 dX6_passage_64 rfl ?_
    refine xw_getR S 2 0 dX6_passage_65 in_X6_passage_X1 rfl (by decide) (Or.inr xn_X6_133) (Or.inl rfl) hw (fun a19 hw => ?_)
    refine xw_getR S 4 0 dX6_passage_68 in_X6_passage_X3 rfl (by decide) (Or.inr xn_X6_188) (Or.inl rfl) hw (fun a20 hw => ?_)
    refine xw_getI S 5 0 dX6_passage_71 in_X6_passage_X4 rfl (by decide) (Or.inr xn_X6_203) (Or.inl rfl) hw (fun v21 hw => ?_)
    exact E.1 _ _ _ _ _ _ rfl dX6_passage_74 ⟨_, rfl, rfl, hw⟩ (Nat.le_of_ble_eq_true rfl) (Nat.le_of_ble_eq_true rfl)
  by_cases c1 : l2 = 1
  · have hw := hw.2.1 c1
    refine xr_swIn S 1 dX6_passage_24 (by rw [c1]; rfl) (by decide) (by decide) rfl (tgt := 75) (by decide) ?_
    refine xr_aload_n S 0 dX6_passage_75 rfl ?_
    refine xw_getI S 2 2 dX6_passage_76 in_X6_passage_X1 rfl (by decide) (Or.inr xn_X6_153) (Or.inl rfl) hw (fun v22 hw => ?_)
    exact E.1 _ _ _ _ _ _ rfl dX6_passage_79 ⟨_, rfl, rfl, hw⟩ (Nat.le_of_ble_eq_true rfl) (Nat.le_of_ble_eq_true rfl)
  by_cases c2 : l2 = 2
  · have hw := hw.2.2.1 c2
    refine xr_swIn S 2 dX6_passage_24 (by rw [c2]; rfl) (by decide) (by decide) rfl (tgt := 80) (by decide) ?_
    refine xr_aload_n S 0 dX6_passage_80 rfl ?_
    refine xw_getR S 2 3 dX6_passage_81 in_X6_passage_X1 rfl (by decide) (Or.inr xn_X6_192) (Or.inl rfl) hw (fun a23 hw => ?_)
    refine xw_getI S 3 0 dX6_passage_84 in_X6_passage_X2 rfl (by decide) (Or.inr xn_X6_206) (Or.inl rfl) hw (fun v24 hw => ?_)
    exact E.1 _ _ _ _ _ _ rfl dX6_passage_87 ⟨_, rfl, rfl, hw⟩ (Nat.le_of_ble_eq_true rfl) (Nat.le_of_ble_eq_true rfl)
  by_cases c3 : l2 = 3
  · have hw := hw.2.2.2.1 c3
    refine xr_swIn S 3 dX6_passage_24 (by rw [c3]; rfl) (by decide) (by decide) rfl (tgt := 88) (by decide) ?_
    refine xr_aload_n S 0 dX6_passage_88 rfl ?_
    refine xw_getR S 2 0 dX6_passage_89 in_X6_passage_X1 rfl (by decide) (Or.inr xn_X6_133) (Or.inl rfl) hw (fun a25 hw => ?_)
    refine xw_getI S 4 3 dX6_passage_92 in_X6_passage_X3 rfl (by decide) (Or.inr xn_X6_207) (Or.inl rfl) hw (fun v26 hw => ?_)
    exact E.1 _ _ _ _ _ _ rfl dX6_passage_95 ⟨_, rfl, rfl, hw⟩ (Nat.le_of_ble_eq_true rfl) (Nat.le_of_ble_eq_true rfl)
  by_cases c4 : l2 = 4
  · have hw := hw.2.2.2.2.1 c4
    refine xr_swIn S 4 dX6_passage_24 (by rw [c4]; rfl) (by decide) (by decide) rfl (tgt := 96) (by decide) ?_
    refine xr_aload_n S 0 dX6_passage_96 rfl ?_
    refine xw_getR S 2 0 dX6_passage_97 in_X6_passage_X1 rfl (by decide) (Or.inr xn_X6_133) (Or.inl rfl) hw (fun a27 hw => ?_)
    refine xw_getR S 4 1 dX6_passage_100 in_X6_passage_X3 rfl (by decide) (Or.inr xn_X6_208) (Or.inl rfl) hw (fun a28 hw => ?_)
    refine xw_getI S 1 0 dX6_passage_103 in_X6_passage_X0 rfl (by decide) (Or.inr xn_X6_212) (Or.inl rfl) hw (fun v29 hw => ?_)
    exact E.1 _ _ _ _ _ _ rfl dX6_passage_106 ⟨_, rfl, rfl, hw⟩ (Nat.le_of_ble_eq_true rfl) (Nat.le_of_ble_eq_true rfl)
  by_cases c5 : l2 = 5
  · have hw := hw.2.2.2.2.2.1 c5
    refine xr_swIn S 5 dX6_passage_24 (by rw [c5]; rfl) (by decide) (by decide) rfl (tgt := 107) (by decide) ?_
    refine xr_aload_n S 0 dX6_passage_107 rfl ?_
    refine xw_getR S 2 0 dX6_passage_108 in_X6_passage_X1 rfl (by decide) (Or.inr xn_X6_133) (Or.inl rfl) hw (fun a30 hw => ?_)
    refine xw_getI S 4 2 dX6_passage_111 in_X6_passage_X3 rfl (by decide) (Or.inr xn_X6_139) (Or.inl rfl) hw (fun v31 hw => ?_)
    refine xw_if_eq S 121 dX6_passage_114 (by decide) hw (fun c hw => ?_) (fun c hw => ?_)
    · refine xr_iconst S (0) dX6_passage_121 (by decide) ?_
      exact E.1 _ _ _ _ _ _ rfl dX6_passage_122 ⟨_, rfl, rfl, hw⟩ (Nat.le_of_ble_eq_true rfl) (Nat.le_of_ble_eq_true rfl)
    · refine xr_iconst S (1) dX6_passage_117 (by decide) ?_
      refine xr_goto S (tgt := 122) dX6_passage_118 (by decide) ?_
      exact E.1 _ _ _ _ _ _ rfl dX6_passage_122 ⟨_, rfl, rfl, hw⟩ (Nat.le_of_ble_eq_true rfl) (Nat.le_of_ble_eq_true rfl)
  have hx : (l2).toInt < 0 ∨ 5 < (l2).toInt := by
    have h0 := lv_neT c0 (a := 0) rfl
    have h1 := lv_neT c1 (a := 1) rfl
    have h2 := lv_neT c2 (a := 2) rfl
    have h3 := lv_neT c3 (a := 3) rfl
    have h4 := lv_neT c4 (a := 4) rfl
    have h5 := lv_neT c5 (a := 5) rfl
    omega
  have hw := hw.2.2.2.2.2.2 hx
  refine xr_swOut S (tgt := 123) dX6_passage_24 hx (by decide) ?_
  exact TT _ _ h _ _ _ "java/lang/IndexOutOfBoundsException" "what is not 0 to 5" 110 213 114 dX6_passage_123 dX6_passage_126 dX6_passage_127 dX6_passage_129 dX6_passage_132 rfl (by decide) (by decide +kernel) (by decide) m_X6_passage_9 m_X6_passage_10 gd_X6_passage_114 xbad_114 xot_110_114 (Nat.le_of_ble_eq_true rfl) (Nat.le_of_ble_eq_true rfl) (Nat.le_of_ble_eq_true rfl) (Nat.le_of_ble_eq_true rfl) ⟨rfl, hw⟩ (Nat.le_of_ble_eq_true rfl) (Nat.le_of_ble_eq_true rfl)
theorem in_X6_occupant_X6 : ∀ w ∈ wsX60, w ∈ wsX6_occupant := by decide +kernel
theorem m_X6_occupant_1 : Cond.fieldLink RX6 19 "PilotBook" "berths" "Ljava/util/ArrayList;" ∈ wsX6_occupant := by decide +kernel
theorem m_X6_occupant_2 : Cond.fieldLink RX6 29 "PilotBook" "passages" "Ljava/util/ArrayList;" ∈ wsX6_occupant := by decide +kernel
theorem m_X6_occupant_3 : Cond.classLink RX6 134 "PilotBook$Passage" ∈ wsX6_occupant := by decide +kernel
theorem in_X6_occupant_X1 : ∀ w ∈ wsX10, w ∈ wsX6_occupant := by decide +kernel
theorem in_X6_occupant_X3 : ∀ w ∈ wsX30, w ∈ wsX6_occupant := by decide +kernel
theorem in_X6_occupant_X0 : ∀ w ∈ wsX00, w ∈ wsX6_occupant := by decide +kernel
theorem in_X6_occupant_X4 : ∀ w ∈ wsX40, w ∈ wsX6_occupant := by decide +kernel
def w_X6_occupant_77 (dc : Nat × Nat) (h : XH) (l0 : Nat) (l1 : Int32) (l2 : Int32) (l3 : Int32) (Po : Int32 → Prop) (PX : String → Prop) (rec17 : Int32 → Prop) : Prop :=
  rec17 (l3 + 1)
set_option maxRecDepth 100000 in
set_option maxHeartbeats 4000000 in
theorem k_X6_occupant_77 {V : XVT} {VX : XWT} {X : XC} {l : Launch} (hfl : l.stackTraces = false) (S2 : xSX V VX X l RX6 yX6_occupant.name cX6_occupant 5 wsX6_occupant (xRm 8 132 2 12)) (h : XH) (l0 : Nat) (l1 : Int32) (l2 : Int32) (l3 : Int32) (Po : Int32 → Prop) (PX : String → Prop) (E : xEnd V cX6_occupant (some .int) 2 12 (xRi h Po)) (EX : xEndX VX 2 12 (xXr h PX)) (TT : xThr V RX6 cX6_occupant wsX6_occupant (xRm 8 132 2 12) 2 12 (xXr h PX)) (rec17 : Int32 → Prop) (hr17 : ∀ s : Int32, rec17 s → V 2 12 h 17 [(0, .ref l0), (1, .int l1), (2, .int l2), (3, .int s)] []) (hw : w_X6_occupant_77 (xdc X) h l0 l1 l2 l3 Po PX rec17) : V 2 12 h 77 [(0, .ref l0), (1, .int l1), (2, .int l2), (3, .int l3)] [] := by
  have S := S2.S
  refine xr_iinc S 3 ((l3 + 1)) [(3, .int (l3 + 1)), (0, .ref l0), (1, .int l1), (2, .int l2)] dX6_occupant_77 rfl rfl (by decide) rfl ?_
  refine xr_goto S (tgt := 17) dX6_occupant_80 (by decide) ?_
  refine xr_sub S [(0, .ref l0), (1, .int l1), (2, .int l2), (3, .int (l3 + 1))] [1, 2, 3, 0] rfl ?_
  exact hr17 (l3 + 1) hw
def w_X6_occupant_17_F (dc : Nat × Nat) (h : XH) (l0 : Nat) (l1 : Int32) (l2 : Int32) (Po : Int32 → Prop) (PX : String → Prop) (rec17 : Int32 → Prop) : Int32 → Prop := fun l3 =>
  wR h l0 7 4 (fun a13 => wO h a13 0 ( w_Jx4a65c_size_8abf5 dc h a13 (fun r16 => wIf (r16 ≤ l3) (Po (-1)) (wR h l0 7 4 (fun a19 => wO h a19 0 ( w_Jx4a65c_get_915e3 dc h a19 l3 (fun r22 => wDer r22 (fun q25 => wO h q25 2 ( wR h q25 2 0 (fun a28 => wR h a28 4 1 (fun a29 => wI h a29 1 0 (fun v30 => wIf (v30 = l1) (w_X1_holdsBerthAt dc h q25 l2 (fun r32 => wIf (r32 = 0) (w_X6_occupant_77 dc h l0 l1 l2 l3 Po PX rec17) (wR h q25 2 0 (fun a35 => wR h a35 4 0 (fun a36 => wI h a36 5 0 (fun v37 => Po v37)))))) (w_X6_occupant_77 dc h l0 l1 l2 l3 Po PX rec17)))))))))))))
def w_X6_occupant_17 (dc : Nat × Nat) (h : XH) (l0 : Nat) (l1 : Int32) (l2 : Int32) (Po : Int32 → Prop) (PX : String → Prop) : Int32 → Prop := xloop (w_X6_occupant_17_F dc h l0 l1 l2 Po PX)
set_option maxRecDepth 100000 in
set_option maxHeartbeats 4000000 in
theorem k_X6_occupant_17 {V : XVT} {VX : XWT} {X : XC} {l : Launch} (hfl : l.stackTraces = false) (S2 : xSX V VX X l RX6 yX6_occupant.name cX6_occupant 5 wsX6_occupant (xRm 8 132 2 12)) (h : XH) (l0 : Nat) (l1 : Int32) (l2 : Int32) (Po : Int32 → Prop) (PX : String → Prop) (E : xEnd V cX6_occupant (some .int) 2 12 (xRi h Po)) (EX : xEndX VX 2 12 (xXr h PX)) (TT : xThr V RX6 cX6_occupant wsX6_occupant (xRm 8 132 2 12) 2 12 (xXr h PX)) (s0 : Int32) (hw : w_X6_occupant_17 (xdc X) h l0 l1 l2 Po PX s0) : V 2 12 h 17 [(0, .ref l0), (1, .int l1), (2, .int l2), (3, .int s0)] [] := by
  have S := S2.S
  refine xloop_use (P := fun s : Int32 => V 2 12 h 17 [(0, .ref l0), (1, .int l1), (2, .int l2), (3, .int s)] []) (fun rec17 hr17 s hw => ?_) hw
  obtain ⟨l3, rfl⟩ : ∃ z, z = s := ⟨s, rfl⟩
  refine xr_iload_n S 3 dX6_occupant_17 rfl ?_
  refine xr_aload_n S 0 dX6_occupant_18 rfl ?_
  refine xw_getR S 7 4 dX6_occupant_19 in_X6_occupant_X6 rfl (by decide) (Or.inl m_X6_occupant_2) (Or.inl rfl) hw (fun a13 hw => ?_)
  obtain ⟨e14, hw⟩ := hw
  obtain ⟨f15, f15x⟩ := id e14
  refine xr_callV S 0 [] [.int l3] dX6_occupant_22 (k_Jx4a65c_size_8abf5 l (xdc X) h a13 _ hw) gX6_occupant_Jx4a65c_size_8abf5 rfl pd_Jx4a65c_size_8abf5 ⟨Nat.le_of_ble_eq_true rfl, Nat.le_of_ble_eq_true rfl⟩ rfl (Nat.le_of_ble_eq_true rfl) ⟨Nat.le_of_ble_eq_true rfl, Nat.le_of_ble_eq_true rfl⟩ f15x rfl (fun v9 h18 hv => ?_)
  obtain ⟨r16, rfl, rfl, hw⟩ := hv
  refine xw_icmp_ge S 83 dX6_occupant_25 (by decide) hw (fun c hw => ?_) (fun c hw => ?_)
  · refine xr_iconst S (-1) dX6_occupant_83 (by decide) ?_
    exact E.1 _ _ _ _ _ _ rfl dX6_occupant_84 ⟨_, rfl, rfl, hw⟩ (Nat.le_of_ble_eq_true rfl) (Nat.le_of_ble_eq_true rfl)
  · refine xr_aload_n S 0 dX6_occupant_28 rfl ?_
    refine xw_getR S 7 4 dX6_occupant_29 in_X6_occupant_X6 rfl (by decide) (Or.inl m_X6_occupant_2) (Or.inl rfl) hw (fun a19 hw => ?_)
    refine xr_iload_n S 3 dX6_occupant_32 rfl ?_
    obtain ⟨e20, hw⟩ := hw
    obtain ⟨f21, f21x⟩ := id e20
    refine xr_callV S 0 [.int l3] [] dX6_occupant_33 (k_Jx4a65c_get_915e3 l (xdc X) h a19 l3 _ hw) gX6_occupant_Jx4a65c_get_915e3 rfl pd_Jx4a65c_get_915e3 ⟨Nat.le_of_ble_eq_true rfl, Nat.le_of_ble_eq_true rfl⟩ rfl (Nat.le_of_ble_eq_true rfl) ⟨Nat.le_of_ble_eq_true rfl, Nat.le_of_ble_eq_true rfl⟩ f21x rfl (fun v9 h24 hv => ?_)
    obtain ⟨r22, rfl, rfl, hw⟩ := hv
    obtain ⟨q25, hrq25, hwq25⟩ := hw
    subst hrq25
    have hw := hwq25
    obtain ⟨e26, hw⟩ := hw
    obtain ⟨f27, f27x⟩ := id e26
    refine xr_cast S 2 dX6_occupant_36 m_X6_occupant_3 f27x rfl ?_
    refine xr_astore S [(4, .ref q25), (0, .ref l0), (1, .int l1), (2, .int l2), (3, .int l3)] dX6_occupant_39 (by decide) rfl ?_
    refine xr_aload S 0 dX6_occupant_41 rfl ?_
    refine xw_getR S 2 0 dX6_occupant_43 in_X6_occupant_X1 rfl (by decide) (Or.inr xn_X6_133) (Or.inl rfl) hw (fun a28 hw => ?_)
    refine xw_getR S 4 1 dX6_occupant_46 in_X6_occupant_X3 rfl (by decide) (Or.inr xn_X6_208) (Or.inl rfl) hw (fun a29 hw => ?_)
    refine xw_getI S 1 0 dX6_occupant_49 in_X6_occupant_X0 rfl (by decide) (Or.inr xn_X6_212) (Or.inl rfl) hw (fun v30 hw => ?_)
    refine xr_iload_n S 2 dX6_occupant_52 rfl ?_
    refine xw_icmp_ne S 77 dX6_occupant_53 (by decide) hw (fun c hw => ?_) (fun c hw => ?_)
    · refine xr_sub S [(0, .ref l0), (1, .int l1), (2, .int l2), (3, .int l3)] [1, 2, 3, 4] rfl ?_
      exact k_X6_occupant_77 hfl S2 h l0 l1 l2 l3 Po PX E EX TT rec17 hr17 hw
    · refine xr_aload S 0 dX6_occupant_56 rfl ?_
      refine xr_iload_n S 3 dX6_occupant_58 rfl ?_
      obtain ⟨f31, f31x⟩ := id e26
      refine xr_callV S 2 [.int l2] [] dX6_occupant_59 (k_X1_holdsBerthAt l (xdc X) h q25 l2 _ hw) gX6_occupant_X1_holdsBerthAt rfl pd_X1_holdsBerthAt ⟨Nat.le_of_ble_eq_true rfl, Nat.le_of_ble_eq_true rfl⟩ rfl (Nat.le_of_ble_eq_true rfl) ⟨Nat.le_of_ble_eq_true rfl, Nat.le_of_ble_eq_true rfl⟩ f31x rfl (fun v9 h34 hv => ?_)
      obtain ⟨r32, rfl, rfl, hw⟩ := hv
      refine xw_if_eq S 77 dX6_occupant_62 (by decide) hw (fun c hw => ?_) (fun c hw => ?_)
      · refine xr_sub S [(0, .ref l0), (1, .int l1), (2, .int l2), (3, .int l3)] [1, 2, 3, 4] rfl ?_
        exact k_X6_occupant_77 hfl S2 h l0 l1 l2 l3 Po PX E EX TT rec17 hr17 hw
      · refine xr_aload S 0 dX6_occupant_65 rfl ?_
        refine xw_getR S 2 0 dX6_occupant_67 in_X6_occupant_X1 rfl (by decide) (Or.inr xn_X6_133) (Or.inl rfl) hw (fun a35 hw => ?_)
        refine xw_getR S 4 0 dX6_occupant_70 in_X6_occupant_X3 rfl (by decide) (Or.inr xn_X6_188) (Or.inl rfl) hw (fun a36 hw => ?_)
        refine xw_getI S 5 0 dX6_occupant_73 in_X6_occupant_X4 rfl (by decide) (Or.inr xn_X6_203) (Or.inl rfl) hw (fun v37 hw => ?_)
        exact E.1 _ _ _ _ _ _ rfl dX6_occupant_76 ⟨_, rfl, rfl, hw⟩ (Nat.le_of_ble_eq_true rfl) (Nat.le_of_ble_eq_true rfl)
def w_X6_occupant (dc : Nat × Nat) (h : XH) (l0 : Nat) (l1 : Int32) (l2 : Int32) (Po : Int32 → Prop) (PX : String → Prop) : Prop :=
  wR h l0 7 1 (fun a1 => wO h a1 0 ( w_Jx4a65c_size_8abf5 dc h a1 (fun r4 => w_X6_checkNumber dc h l1 r4 ( w_X6_checkTime dc h l2 ( w_X6_occupant_17 dc h l0 l1 l2 Po PX 0) (fun E => PX E)) (fun E => PX E))))
set_option maxRecDepth 100000 in
set_option maxHeartbeats 4000000 in
theorem k_X6_occupant (l : Launch) (hfl : l.stackTraces = false) (dc : Nat × Nat) (h : XH) (l0 : Nat) (l1 : Int32) (l2 : Int32) (Po : Int32 → Prop) (PX : String → Prop) (hw : w_X6_occupant dc h l0 l1 l2 Po PX) : xMX l dc yX6_occupant wsX6_occupant 8 132 2 12 [.ref l0, .int l1, .int l2] h (xRi h Po) (xXr h PX) := by
  refine xMX_of hfl [(0, .ref l0), (1, .int l1), (2, .int l2)] (own := RX6) (cc := cX6_occupant) (nL := 5) (ret := (some .int)) (by decide +kernel) rfl rfl (Nat.le_of_ble_eq_true rfl) rfl ?_
  intro X V VX hX S2 E EX TT
  subst hX
  have S := S2.S
  refine xr_iload_n S 1 dX6_occupant_0 rfl ?_
  refine xr_aload_n S 0 dX6_occupant_1 rfl ?_
  refine xw_getR S 7 1 dX6_occupant_2 in_X6_occupant_X6 rfl (by decide) (Or.inl m_X6_occupant_1) (Or.inl rfl) hw (fun a1 hw => ?_)
  obtain ⟨e2, hw⟩ := hw
  obtain ⟨f3, f3x⟩ := id e2
  refine xr_callV S 0 [] [.int l1] dX6_occupant_5 (k_Jx4a65c_size_8abf5 l (xdc X) h a1 _ hw) gX6_occupant_Jx4a65c_size_8abf5 rfl pd_Jx4a65c_size_8abf5 ⟨Nat.le_of_ble_eq_true rfl, Nat.le_of_ble_eq_true rfl⟩ rfl (Nat.le_of_ble_eq_true rfl) ⟨Nat.le_of_ble_eq_true rfl, Nat.le_of_ble_eq_true rfl⟩ f3x rfl (fun v9 h6 hv => ?_)
  obtain ⟨r4, rfl, rfl, hw⟩ := hv
  refine xr_callSX S2 [.int l1, .int r4] [] dX6_occupant_8 (k_X6_checkNumber l hfl (xdc X) h l1 r4 _ _ hw) gX6_occupant_X6_checkNumber rfl pd_X6_checkNumber ⟨Nat.le_of_ble_eq_true rfl, Nat.le_of_ble_eq_true rfl⟩ rfl (Nat.le_of_ble_eq_true rfl) ⟨Nat.le_of_ble_eq_true rfl, Nat.le_of_ble_eq_true rfl⟩ (fun E1 h9 hx => by obtain ⟨rfl, hx⟩ := hx; exact EX _ _ _ _ _ _ ⟨rfl, hx⟩ (Nat.le_of_ble_eq_true rfl) (Nat.le_of_ble_eq_true rfl)) (fun v9 h9 hv => ?_)
  obtain ⟨rfl, rfl, hw⟩ := hv
  refine xr_iload_n S 2 dX6_occupant_11 rfl ?_
  refine xr_callSX S2 [.int l2] [] dX6_occupant_12 (k_X6_checkTime l hfl (xdc X) h l2 _ _ hw) gX6_occupant_X6_checkTime rfl pd_X6_checkTime ⟨Nat.le_of_ble_eq_true rfl, Nat.le_of_ble_eq_true rfl⟩ rfl (Nat.le_of_ble_eq_true rfl) ⟨Nat.le_of_ble_eq_true rfl, Nat.le_of_ble_eq_true rfl⟩ (fun E1 h9 hx => by obtain ⟨rfl, hx⟩ := hx; exact EX _ _ _ _ _ _ ⟨rfl, hx⟩ (Nat.le_of_ble_eq_true rfl) (Nat.le_of_ble_eq_true rfl)) (fun v9 h12 hv => ?_)
  obtain ⟨rfl, rfl, hw⟩ := hv
  refine xr_iconst S (0) dX6_occupant_15 (by decide) ?_
  refine xr_istore_n S [(3, .int 0), (0, .ref l0), (1, .int l1), (2, .int l2)] dX6_occupant_16 (by decide) rfl ?_
  refine xr_sub S [(0, .ref l0), (1, .int l1), (2, .int l2), (3, .int 0)] [1, 2, 3, 0] rfl ?_
  exact k_X6_occupant_17 hfl S2 h l0 l1 l2 Po PX E EX TT 0 hw
def w_p_X6_occupant_77 (dc : Nat × Nat) (h : XH) (l0 : Nat) (l1 : Int32) (l2 : Int32) (l3 : Int32) (Po : Int32 → Prop) (rec17 : Int32 → Prop) : Prop :=
  rec17 (l3 + 1)
set_option maxRecDepth 100000 in
set_option maxHeartbeats 4000000 in
theorem k_p_X6_occupant_77 {V : XVT} {X : XC} {l : Launch} (S : xS V X l RX6 yX6_occupant.name cX6_occupant 5 wsX6_occupant (xRm 3 64 0 0)) (h : XH) (l0 : Nat) (l1 : Int32) (l2 : Int32) (l3 : Int32) (Po : Int32 → Prop) (E : xEnd V cX6_occupant (some .int) 0 0 (xRi h Po)) (rec17 : Int32 → Prop) (hr17 : ∀ s : Int32, rec17 s → V 0 0 h 17 [(0, .ref l0), (1, .int l1), (2, .int l2), (3, .int s)] []) (hw : w_p_X6_occupant_77 (xdc X) h l0 l1 l2 l3 Po rec17) : V 0 0 h 77 [(0, .ref l0), (1, .int l1), (2, .int l2), (3, .int l3)] [] := by
  refine xr_iinc S 3 ((l3 + 1)) [(3, .int (l3 + 1)), (0, .ref l0), (1, .int l1), (2, .int l2)] dX6_occupant_77 rfl rfl (by decide) rfl ?_
  refine xr_goto S (tgt := 17) dX6_occupant_80 (by decide) ?_
  refine xr_sub S [(0, .ref l0), (1, .int l1), (2, .int l2), (3, .int (l3 + 1))] [1, 2, 3, 0] rfl ?_
  exact hr17 (l3 + 1) hw
def w_p_X6_occupant_17_F (dc : Nat × Nat) (h : XH) (l0 : Nat) (l1 : Int32) (l2 : Int32) (Po : Int32 → Prop) (rec17 : Int32 → Prop) : Int32 → Prop := fun l3 =>
  wR h l0 7 4 (fun a13 => wO h a13 0 ( w_Jx4a65c_size_8abf5 dc h a13 (fun r16 => wIf (r16 ≤ l3) (Po (-1)) (wR h l0 7 4 (fun a19 => wO h a19 0 ( w_Jx4a65c_get_915e3 dc h a19 l3 (fun r22 => wDer r22 (fun q25 => wO h q25 2 ( wR h q25 2 0 (fun a28 => wR h a28 4 1 (fun a29 => wI h a29 1 0 (fun v30 => wIf (v30 = l1) (w_X1_holdsBerthAt dc h q25 l2 (fun r32 => wIf (r32 = 0) (w_p_X6_occupant_77 dc h l0 l1 l2 l3 Po rec17) (wR h q25 2 0 (fun a35 => wR h a35 4 0 (fun a36 => wI h a36 5 0 (fun v37 => Po v37)))))) (w_p_X6_occupant_77 dc h l0 l1 l2 l3 Po rec17)))))))))))))
def w_p_X6_occupant_17 (dc : Nat × Nat) (h : XH) (l0 : Nat) (l1 : Int32) (l2 : Int32) (Po : Int32 → Prop) : Int32 → Prop := xloop (w_p_X6_occupant_17_F dc h l0 l1 l2 Po)
set_option maxRecDepth 100000 in
set_option maxHeartbeats 4000000 in
theorem k_p_X6_occupant_17 {V : XVT} {X : XC} {l : Launch} (S : xS V X l RX6 yX6_occupant.name cX6_occupant 5 wsX6_occupant (xRm 3 64 0 0)) (h : XH) (l0 : Nat) (l1 : Int32) (l2 : Int32) (Po : Int32 → Prop) (E : xEnd V cX6_occupant (some .int) 0 0 (xRi h Po)) (s0 : Int32) (hw : w_p_X6_occupant_17 (xdc X) h l0 l1 l2 Po s0) : V 0 0 h 17 [(0, .ref l0), (1, .int l1), (2, .int l2), (3, .int s0)] [] := by
  refine xloop_use (P := fun s : Int32 => V 0 0 h 17 [(0, .ref l0), (1, .int l1), (2, .int l2), (3, .int s)] []) (fun rec17 hr17 s hw => ?_) hw
  obtain ⟨l3, rfl⟩ : ∃ z, z = s := ⟨s, rfl⟩
  refine xr_iload_n S 3 dX6_occupant_17 rfl ?_
  refine xr_aload_n S 0 dX6_occupant_18 rfl ?_
  refine xw_getR S 7 4 dX6_occupant_19 in_X6_occupant_X6 rfl (by decide) (Or.inl m_X6_occupant_2) (Or.inl rfl) hw (fun a13 hw => ?_)
  obtain ⟨e14, hw⟩ := hw
  obtain ⟨f15, f15x⟩ := id e14
  refine xr_callV S 0 [] [.int l3] dX6_occupant_22 (k_Jx4a65c_size_8abf5 l (xdc X) h a13 _ hw) gX6_occupant_Jx4a65c_size_8abf5 rfl pd_Jx4a65c_size_8abf5 ⟨Nat.le_of_ble_eq_true rfl, Nat.le_of_ble_eq_true rfl⟩ rfl (Nat.le_of_ble_eq_true rfl) ⟨Nat.le_of_ble_eq_true rfl, Nat.le_of_ble_eq_true rfl⟩ f15x rfl (fun v9 h18 hv => ?_)
  obtain ⟨r16, rfl, rfl, hw⟩ := hv
  refine xw_icmp_ge S 83 dX6_occupant_25 (by decide) hw (fun c hw => ?_) (fun c hw => ?_)
  · refine xr_iconst S (-1) dX6_occupant_83 (by decide) ?_
    exact E.1 _ _ _ _ _ _ rfl dX6_occupant_84 ⟨_, rfl, rfl, hw⟩ (Nat.le_of_ble_eq_true rfl) (Nat.le_of_ble_eq_true rfl)
  · refine xr_aload_n S 0 dX6_occupant_28 rfl ?_
    refine xw_getR S 7 4 dX6_occupant_29 in_X6_occupant_X6 rfl (by decide) (Or.inl m_X6_occupant_2) (Or.inl rfl) hw (fun a19 hw => ?_)
    refine xr_iload_n S 3 dX6_occupant_32 rfl ?_
    obtain ⟨e20, hw⟩ := hw
    obtain ⟨f21, f21x⟩ := id e20
    refine xr_callV S 0 [.int l3] [] dX6_occupant_33 (k_Jx4a65c_get_915e3 l (xdc X) h a19 l3 _ hw) gX6_occupant_Jx4a65c_get_915e3 rfl pd_Jx4a65c_get_915e3 ⟨Nat.le_of_ble_eq_true rfl, Nat.le_of_ble_eq_true rfl⟩ rfl (Nat.le_of_ble_eq_true rfl) ⟨Nat.le_of_ble_eq_true rfl, Nat.le_of_ble_eq_true rfl⟩ f21x rfl (fun v9 h24 hv => ?_)
    obtain ⟨r22, rfl, rfl, hw⟩ := hv
    obtain ⟨q25, hrq25, hwq25⟩ := hw
    subst hrq25
    have hw := hwq25
    obtain ⟨e26, hw⟩ := hw
    obtain ⟨f27, f27x⟩ := id e26
    refine xr_cast S 2 dX6_occupant_36 m_X6_occupant_3 f27x rfl ?_
    refine xr_astore S [(4, .ref q25), (0, .ref l0), (1, .int l1), (2, .int l2), (3, .int l3)] dX6_occupant_39 (by decide) rfl ?_
    refine xr_aload S 0 dX6_occupant_41 rfl ?_
    refine xw_getR S 2 0 dX6_occupant_43 in_X6_occupant_X1 rfl (by decide) (Or.inr xn_X6_133) (Or.inl rfl) hw (fun a28 hw => ?_)
    refine xw_getR S 4 1 dX6_occupant_46 in_X6_occupant_X3 rfl (by decide) (Or.inr xn_X6_208) (Or.inl rfl) hw (fun a29 hw => ?_)
    refine xw_getI S 1 0 dX6_occupant_49 in_X6_occupant_X0 rfl (by decide) (Or.inr xn_X6_212) (Or.inl rfl) hw (fun v30 hw => ?_)
    refine xr_iload_n S 2 dX6_occupant_52 rfl ?_
    refine xw_icmp_ne S 77 dX6_occupant_53 (by decide) hw (fun c hw => ?_) (fun c hw => ?_)
    · refine xr_sub S [(0, .ref l0), (1, .int l1), (2, .int l2), (3, .int l3)] [1, 2, 3, 4] rfl ?_
      exact k_p_X6_occupant_77 S h l0 l1 l2 l3 Po E rec17 hr17 hw
    · refine xr_aload S 0 dX6_occupant_56 rfl ?_
      refine xr_iload_n S 3 dX6_occupant_58 rfl ?_
      obtain ⟨f31, f31x⟩ := id e26
      refine xr_callV S 2 [.int l2] [] dX6_occupant_59 (k_X1_holdsBerthAt l (xdc X) h q25 l2 _ hw) gX6_occupant_X1_holdsBerthAt rfl pd_X1_holdsBerthAt ⟨Nat.le_of_ble_eq_true rfl, Nat.le_of_ble_eq_true rfl⟩ rfl (Nat.le_of_ble_eq_true rfl) ⟨Nat.le_of_ble_eq_true rfl, Nat.le_of_ble_eq_true rfl⟩ f31x rfl (fun v9 h34 hv => ?_)
      obtain ⟨r32, rfl, rfl, hw⟩ := hv
      refine xw_if_eq S 77 dX6_occupant_62 (by decide) hw (fun c hw => ?_) (fun c hw => ?_)
      · refine xr_sub S [(0, .ref l0), (1, .int l1), (2, .int l2), (3, .int l3)] [1, 2, 3, 4] rfl ?_
        exact k_p_X6_occupant_77 S h l0 l1 l2 l3 Po E rec17 hr17 hw
      · refine xr_aload S 0 dX6_occupant_65 rfl ?_
        refine xw_getR S 2 0 dX6_occupant_67 in_X6_occupant_X1 rfl (by decide) (Or.inr xn_X6_133) (Or.inl rfl) hw (fun a35 hw => ?_)
        refine xw_getR S 4 0 dX6_occupant_70 in_X6_occupant_X3 rfl (by decide) (Or.inr xn_X6_188) (Or.inl rfl) hw (fun a36 hw => ?_)
        refine xw_getI S 5 0 dX6_occupant_73 in_X6_occupant_X4 rfl (by decide) (Or.inr xn_X6_203) (Or.inl rfl) hw (fun v37 hw => ?_)
        exact E.1 _ _ _ _ _ _ rfl dX6_occupant_76 ⟨_, rfl, rfl, hw⟩ (Nat.le_of_ble_eq_true rfl) (Nat.le_of_ble_eq_true rfl)
def w_p_X6_occupant (dc : Nat × Nat) (h : XH) (l0 : Nat) (l1 : Int32) (l2 : Int32) (Po : Int32 → Prop) : Prop :=
  wR h l0 7 1 (fun a1 => wO h a1 0 ( w_Jx4a65c_size_8abf5 dc h a1 (fun r4 => w_p_X6_checkNumber dc h l1 r4 ( w_p_X6_checkTime dc h l2 ( w_p_X6_occupant_17 dc h l0 l1 l2 Po 0)))))
set_option maxRecDepth 100000 in
set_option maxHeartbeats 4000000 in
theorem k_p_X6_occupant (l : Launch) (dc : Nat × Nat) (h : XH) (l0 : Nat) (l1 : Int32) (l2 : Int32) (Po : Int32 → Prop) (hw : w_p_X6_occupant dc h l0 l1 l2 Po) : xM l dc yX6_occupant wsX6_occupant 3 64 0 0 [.ref l0, .int l1, .int l2] h (xRi h Po) := by
  refine xM_of [(0, .ref l0), (1, .int l1), (2, .int l2)] (own := RX6) (cc := cX6_occupant) (nL := 5) (ret := (some .int)) (by decide +kernel) rfl rfl (Nat.le_of_ble_eq_true rfl) rfl ?_
  intro X V hX S E
  subst hX
  refine xr_iload_n S 1 dX6_occupant_0 rfl ?_
  refine xr_aload_n S 0 dX6_occupant_1 rfl ?_
  refine xw_getR S 7 1 dX6_occupant_2 in_X6_occupant_X6 rfl (by decide) (Or.inl m_X6_occupant_1) (Or.inl rfl) hw (fun a1 hw => ?_)
  obtain ⟨e2, hw⟩ := hw
  obtain ⟨f3, f3x⟩ := id e2
  refine xr_callV S 0 [] [.int l1] dX6_occupant_5 (k_Jx4a65c_size_8abf5 l (xdc X) h a1 _ hw) gX6_occupant_Jx4a65c_size_8abf5 rfl pd_Jx4a65c_size_8abf5 ⟨Nat.le_of_ble_eq_true rfl, Nat.le_of_ble_eq_true rfl⟩ rfl (Nat.le_of_ble_eq_true rfl) ⟨Nat.le_of_ble_eq_true rfl, Nat.le_of_ble_eq_true rfl⟩ f3x rfl (fun v9 h6 hv => ?_)
  obtain ⟨r4, rfl, rfl, hw⟩ := hv
  refine xr_callS S [.int l1, .int r4] [] dX6_occupant_8 (k_p_X6_checkNumber l (xdc X) h l1 r4 _ hw) gX6_occupant_X6_checkNumber rfl pd_X6_checkNumber ⟨Nat.le_of_ble_eq_true rfl, Nat.le_of_ble_eq_true rfl⟩ rfl (Nat.le_of_ble_eq_true rfl) ⟨Nat.le_of_ble_eq_true rfl, Nat.le_of_ble_eq_true rfl⟩ (fun v9 h9 hv => ?_)
  obtain ⟨rfl, rfl, hw⟩ := hv
  refine xr_iload_n S 2 dX6_occupant_11 rfl ?_
  refine xr_callS S [.int l2] [] dX6_occupant_12 (k_p_X6_checkTime l (xdc X) h l2 _ hw) gX6_occupant_X6_checkTime rfl pd_X6_checkTime ⟨Nat.le_of_ble_eq_true rfl, Nat.le_of_ble_eq_true rfl⟩ rfl (Nat.le_of_ble_eq_true rfl) ⟨Nat.le_of_ble_eq_true rfl, Nat.le_of_ble_eq_true rfl⟩ (fun v9 h12 hv => ?_)
  obtain ⟨rfl, rfl, hw⟩ := hv
  refine xr_iconst S (0) dX6_occupant_15 (by decide) ?_
  refine xr_istore_n S [(3, .int 0), (0, .ref l0), (1, .int l1), (2, .int l2)] dX6_occupant_16 (by decide) rfl ?_
  refine xr_sub S [(0, .ref l0), (1, .int l1), (2, .int l2), (3, .int 0)] [1, 2, 3, 0] rfl ?_
  exact k_p_X6_occupant_17 S h l0 l1 l2 Po E 0 hw
