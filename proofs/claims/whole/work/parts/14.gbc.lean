def w_p_X6_passage (dc : Nat × Nat) (h : XH) (l0 : Nat) (l1 : Int32) (l2 : Int32) (Po : Int32 → Prop) : Prop :=
  wR h l0 7 4 (fun a1 => wO h a1 0 ( w_Jx4a65c_size_8abf5 dc h a1 (fun r4 => w_p_X6_checkNumber dc h l1 r4 ( wR h l0 7 4 (fun a10 => wO h a10 0 ( w_Jx4a65c_get_915e3 dc h a10 l1 (fun r13 => wDer r13 (fun q16 => wO h q16 2 ( ((l2 = 0 → wR h q16 2 0 (fun a19 => wR h a19 4 0 (fun a20 => wI h a20 5 0 (fun v21 => Po v21)))) ∧ (l2 = 1 → wI h q16 2 2 (fun v22 => Po v22)) ∧ (l2 = 2 → wR h q16 2 3 (fun a23 => wI h a23 3 0 (fun v24 => Po v24))) ∧ (l2 = 3 → wR h q16 2 0 (fun a25 => wI h a25 4 3 (fun v26 => Po v26))) ∧ (l2 = 4 → wR h q16 2 0 (fun a27 => wR h a27 4 1 (fun a28 => wI h a28 1 0 (fun v29 => Po v29)))) ∧ (l2 = 5 → wR h q16 2 0 (fun a30 => wI h a30 4 2 (fun v31 => wIf (v31 = 0) (Po 0) (Po 1)))) ∧ ((l2).toInt < 0 ∨ 5 < (l2).toInt → False)))))))))))
set_option maxRecDepth 100000 in
set_option maxHeartbeats 4000000 in
theorem k_p_X6_passage (l : Launch) (dc : Nat × Nat) (h : XH) (l0 : Nat) (l1 : Int32) (l2 : Int32) (Po : Int32 → Prop) (hw : w_p_X6_passage dc h l0 l1 l2 Po) : xM l dc yX6_passage wsX6_passage 3 64 0 0 [.ref l0, .int l1, .int l2] h (xRi h Po) := by
  refine xM_of [(0, .ref l0), (1, .int l1), (2, .int l2)] (own := RX6) (cc := cX6_passage) (nL := 4) (ret := (some .int)) (by decide +kernel) rfl rfl (Nat.le_of_ble_eq_true rfl) rfl ?_
  intro X V hX S E
  subst hX
  refine xr_iload_n S 1 dX6_passage_0 rfl ?_
  refine xr_aload_n S 0 dX6_passage_1 rfl ?_
  refine xw_getR S 7 4 dX6_passage_2 in_X6_passage_X6 rfl (by decide) (Or.inl m_X6_passage_1) (Or.inl rfl) hw (fun a1 hw => ?_)
  obtain ⟨e2, hw⟩ := hw
  obtain ⟨f3, f3x⟩ := id e2
  refine xr_callV S 0 [] [.int l1] dX6_passage_5 (k_Jx4a65c_size_8abf5 l (xdc X) h a1 _ hw) gX6_passage_Jx4a65c_size_8abf5 rfl pd_Jx4a65c_size_8abf5 ⟨Nat.le_of_ble_eq_true rfl, Nat.le_of_ble_eq_true rfl⟩ rfl (Nat.le_of_ble_eq_true rfl) ⟨Nat.le_of_ble_eq_true rfl, Nat.le_of_ble_eq_true rfl⟩ f3x rfl (fun v9 h6 hv => ?_)
  obtain ⟨r4, rfl, rfl, hw⟩ := hv
  refine xr_callS S [.int l1, .int r4] [] dX6_passage_8 (k_p_X6_checkNumber l (xdc X) h l1 r4 _ hw) gX6_passage_X6_checkNumber rfl pd_X6_checkNumber ⟨Nat.le_of_ble_eq_true rfl, Nat.le_of_ble_eq_true rfl⟩ rfl (Nat.le_of_ble_eq_true rfl) ⟨Nat.le_of_ble_eq_true rfl, Nat.le_of_ble_eq_true rfl⟩ (fun v9 h9 hv => ?_)
  obtain ⟨rfl, rfl, hw⟩ := hv
  refine xr_aload_n S 0 dX6_passage_11 rfl ?_
  refine xw_getR S 7 4 dX6_passage_12 in_X6_passage_X6 rfl (by decide) (Or.inl m_X6_passage_1) (Or.inl rfl) hw (fun a10 hw => ?_)
  refine xr_iload_n S 1 dX6_passage_15 rfl ?_
  obtain ⟨e11, hw⟩ := hw
  obtain ⟨f12, f12x⟩ := id e11
  refine xr_callV S 0 [.int l1] [] dX6_passage_16 (k_Jx4a65c_get_915e3 l (xdc X) h a10 l1 _ hw) gX6_passage_Jx4a65c_get_915e3 rfl pd_Jx4a65c_get_915e3 ⟨Nat.le_of_ble_eq_true rfl, Nat.le_of_ble_eq_true rfl⟩ rfl (Nat.le_of_ble_eq_true rfl) ⟨Nat.le_of_ble_eq_true rfl, Nat.le_of_ble_eq_true rfl⟩ f12x rfl (fun v9 h15 hv => ?_)
  obtain ⟨r13, rfl, rfl, hw⟩ := hv
  obtain ⟨q16, hrq16, hwq16⟩ := hw
  subst hrq16
  have hw := hwq16
  obtain ⟨e17, hw⟩ := hw
  obtain ⟨f18, f18x⟩ := id e17
  refine xr_cast S 2 dX6_passage_19 m_X6_passage_2 f18x rfl ?_
  refine xr_astore_n S [(3, .ref q16), (0, .ref l0), (1, .int l1), (2, .int l2)] dX6_passage_22 (by decide) rfl ?_
  refine xr_iload_n S 3 dX6_passage_23 rfl ?_
  by_cases c0 : l2 = 0
  · have hw := hw.1 c0
    refine xr_swIn S 0 dX6_passage_24 (by rw [c0]; rfl) (by decide) (by decide) rfl (tgt := 64) (by decide) ?_
    refine xr_aload_n S 0 dX6_passage_64 rfl ?_
    refine xw_getR S 2 0 dX6_passage_65 in_X6_passage_X1 rfl (by decide) (Or.inr xn_X6_133) (Or.inl rfl) hw (fun a19 hw => ?_)
    refine xw_getR S 4 0 dX6_passage_68 in_X6_passage_X3 rfl (by decide) (Or.inr xn_X6_188) (Or.inl rfl) hw (fun a20 hw => ?_)
    refine xw_getI S 5 0 dX6_passage_71 in_X6_passage_X4 rfl (by decide) (Or.inr xn_X6_203) (Or.inl rfl) hw (fun v21 hw => ?_)
    exact E.1 _ _ _ _ _ _ rfl dX6_passage_74 ⟨_, rfl, rfl, hw⟩ (Nat.le_of_ble_eq_true rfl) (Nat.le_of_ble_eq_true rfl)
  by_cases c1 : l2 = 1
  · have hw := hw.2.1 c1
    refine xr_swIn S 1 dX6_passage_24 (by rw [c1]; rfl) (by decide) (by decide) rfl (tgt := 75) (by decide) ?_
    refine xr_aload_n S 0 dX6_passage_75 rfl ?_
    refine xw_getI S 2 2 dX6_passage_76 in_X6_passage_X1 rfl (by decide) (Or.inr xn_X6_153) (Or.inl rfl) hw (fun v22 hw => ?_)
    exact E.1 _ _ _ _ _ _ rfl dX6_passage_79 ⟨_, rfl, rfl, hw⟩ (Nat.le_of_ble_eq_true rfl) (Nat.le_of_ble_eq_true rfl)
  by_cases c2 : l2 = 2
  · have hw := hw.2.2.1 c2
    refine xr_swIn S 2 dX6_passage_24 (by rw [c2]; rfl) (by decide) (by decide) rfl (tgt := 80) (by decide) ?_
    refine xr_aload_n S 0 dX6_passage_80 rfl ?_
    refine xw_getR S 2 3 dX6_passage_81 in_X6_passage_X1 rfl (by decide) (Or.inr xn_X6_192) (Or.inl rfl) hw (fun a23 hw => ?_)
    refine xw_getI S 3 0 dX6_passage_84 in_X6_passage_X2 rfl (by decide) (Or.inr xn_X6_206) (Or.inl rfl) hw (fun v24 hw => ?_)
    exact E.1 _ _ _ _ _ _ rfl dX6_passage_87 ⟨_, rfl, rfl, hw⟩ (Nat.le_of_ble_eq_true rfl) (Nat.le_of_ble_eq_true rfl)
  by_cases c3 : l2 = 3
  · have hw := hw.2.2.2.1 c3
    refine xr_swIn S 3 dX6_passage_24 (by rw [c3]; rfl) (by decide) (by decide) rfl (tgt := 88) (by decide) ?_
    refine xr_aload_n S 0 dX6_passage_88 rfl ?_
    refine xw_getR S 2 0 dX6_passage_89 in_X6_passage_X1 rfl (by decide) (Or.inr xn_X6_133) (Or.inl rfl) hw (fun a25 hw => ?_)
    refine xw_getI S 4 3 dX6_passage_92 in_X6_passage_X3 rfl (by decide) (Or.inr xn_X6_207) (Or.inl rfl) hw (fun v26 hw => ?_)
    exact E.1 _ _ _ _ _ _ rfl dX6_passage_95 ⟨_, rfl, rfl, hw⟩ (Nat.le_of_ble_eq_true rfl) (Nat.le_of_ble_eq_true rfl)
  by_cases c4 : l2 = 4
  · have hw := hw.2.2.2.2.1 c4
    refine xr_swIn S 4 dX6_passage_24 (by rw [c4]; rfl) (by decide) (by decide) rfl (tgt := 96) (by decide) ?_
    refine xr_aload_n S 0 dX6_passage_96 rfl ?_
    refine xw_getR S 2 0 dX6_passage_97 in_X6_passage_X1 rfl (by decide) (Or.inr xn_X6_133) (Or.inl rfl) hw (fun a27 hw => ?_)
    refine xw_getR S 4 1 dX6_passage_100 in_X6_passage_X3 rfl (by decide) (Or.inr xn_X6_208) (Or.inl rfl) hw (fun a28 hw => ?_)
    refine xw_getI S 1 0 dX6_passage_103 in_X6_passage_X0 rfl (by decide) (Or.inr xn_X6_212) (Or.inl rfl) hw (fun v29 hw => ?_)
    exact E.1 _ _ _ _ _ _ rfl dX6_passage_106 ⟨_, rfl, rfl, hw⟩ (Nat.le_of_ble_eq_true rfl) (Nat.le_of_ble_eq_true rfl)
  by_cases c5 : l2 = 5
  · have hw := hw.2.2.2.2.2.1 c5
    refine xr_swIn S 5 dX6_passage_24 (by rw [c5]; rfl) (by decide) (by decide) rfl (tgt := 107) (by decide) ?_
    refine xr_aload_n S 0 dX6_passage_107 rfl ?_
    refine xw_getR S 2 0 dX6_passage_108 in_X6_passage_X1 rfl (by decide) (Or.inr xn_X6_133) (Or.inl rfl) hw (fun a30 hw => ?_)
    refine xw_getI S 4 2 dX6_passage_111 in_X6_passage_X3 rfl (by decide) (Or.inr xn_X6_139) (Or.inl rfl) hw (fun v31 hw => ?_)
    refine xw_if_eq S 121 dX6_passage_114 (by decide) hw (fun c hw => ?_) (fun c hw => ?_)
    · refine xr_iconst S (0) dX6_passage_121 (by decide) ?_
      exact E.1 _ _ _ _ _ _ rfl dX6_passage_122 ⟨_, rfl, rfl, hw⟩ (Nat.le_of_ble_eq_true rfl) (Nat.le_of_ble_eq_true rfl)
    · refine xr_iconst S (1) dX6_passage_117 (by decide) ?_
      refine xr_goto S (tgt := 122) dX6_passage_118 (by decide) ?_
      exact E.1 _ _ _ _ _ _ rfl dX6_passage_122 ⟨_, rfl, rfl, hw⟩ (Nat.le_of_ble_eq_true rfl) (Nat.le_of_ble_eq_true rfl)
  have hx : (l2).toInt < 0 ∨ 5 < (l2).toInt := by
    have h0 := lv_neT c0 (a := 0) rfl
    have h1 := lv_neT c1 (a := 1) rfl
    have h2 := lv_neT c2 (a := 2) rfl
    have h3 := lv_neT c3 (a := 3) rfl
    have h4 := lv_neT c4 (a := 4) rfl
    have h5 := lv_neT c5 (a := 5) rfl
    omega
  have hw := hw.2.2.2.2.2.2 hx
  refine xr_swOut S (tgt := 123) dX6_passage_24 hx (by decide) ?_
  exact hw.elim
theorem in_X6_occupant_X6 : ∀ w ∈ wsX60, w ∈ wsX6_occupant := by decide +kernel
theorem m_X6_occupant_1 : Cond.fieldLink RX6 19 "PilotBook" "berths" "Ljava/util/ArrayList;" ∈ wsX6_occupant := by decide +kernel
theorem m_X6_occupant_2 : Cond.fieldLink RX6 29 "PilotBook" "passages" "Ljava/util/ArrayList;" ∈ wsX6_occupant := by decide +kernel
theorem m_X6_occupant_3 : Cond.classLink RX6 134 "PilotBook$Passage" ∈ wsX6_occupant := by decide +kernel
theorem in_X6_occupant_X1 : ∀ w ∈ wsX10, w ∈ wsX6_occupant := by decide +kernel
theorem in_X6_occupant_X3 : ∀ w ∈ wsX30, w ∈ wsX6_occupant := by decide +kernel
theorem in_X6_occupant_X0 : ∀ w ∈ wsX00, w ∈ wsX6_occupant := by decide +kernel
theorem in_X6_occupant_X4 : ∀ w ∈ wsX40, w ∈ wsX6_occupant := by decide +kernel
def w_X6_occupant_77 (dc : Nat × Nat) (h : XH) (l0 : Nat) (l1 : Int32) (l2 : Int32) (l3 : Int32) (Po : Int32 → Prop) (PX : String → Prop) (rec17 : Int32 → Prop) : Prop :=
  rec17 (l3 + 1)
set_option maxRecDepth 100000 in
set_option maxHeartbeats 4000000 in
theorem k_X6_occupant_77 {V : XVT} {VX : XWT} {X : XC} {l : Launch} (hfl : l.stackTraces = false) (S2 : xSX V VX X l RX6 yX6_occupant.name cX6_occupant 5 wsX6_occupant (xRm 8 132 2 12)) (h : XH) (l0 : Nat) (l1 : Int32) (l2 : Int32) (l3 : Int32) (Po : Int32 → Prop) (PX : String → Prop) (E : xEnd V cX6_occupant (some .int) 2 12 (xRi h Po)) (EX : xEndX VX 2 12 (xXr h PX)) (TT : xThr V RX6 cX6_occupant wsX6_occupant (xRm 8 132 2 12) 2 12 (xXr h PX)) (rec17 : Int32 → Prop) (hr17 : ∀ s : Int32, rec17 s → V 2 12 h 17 [(0, .ref l0), (1, .int l1), (2, .int l2), (3, .int s)] []) (hw : w_X6_occupant_77 (xdc X) h l0 l1 l2 l3 Po PX rec17) : V 2 12 h 77 [(0, .ref l0), (1, .int l1), (2, .int l2), (3, .int l3)] [] := by
  have S := S2.S
  refine xr_iinc S 3 ((l3 + 1)) [(3, .int (l3 + 1)), (0, .ref l0), (1, .int l1), (2, .int l2)] dX6_occupant_77 rfl rfl (by decide) rfl ?_
  refine xr_goto S (tgt := 17) dX6_occupant_80 (by decide) ?_
  refine xr_sub S [(0, .ref l0), (1, .int l1), (2, .int l2), (3, .int (l3 + 1))] [1, 2, 3, 0] rfl ?_
  exact hr17 (l3 + 1) hw
def w_X6_occupant_17_F (dc : Nat × Nat) (h : XH) (l0 : Nat) (l1 : Int32) (l2 : Int32) (Po : Int32 → Prop) (PX : String → Prop) (rec17 : Int32 → Prop) : Int32 → Prop := fun l3 =>
  wR h l0 7 4 (fun a13 => wO h a13 0 ( w_Jx4a65c_size_8abf5 dc h a13 (fun r16 => wIf (r16 ≤ l3) (Po (-1)) (wR h l0 7 4 (fun a19 => wO h a19 0 ( w_Jx4a65c_get_915e3 dc h a19 l3 (fun r22 => wDer r22 (fun q25 => wO h q25 2 ( wR h q25 2 0 (fun a28 => wR h a28 4 1 (fun a29 => wI h a29 1 0 (fun v30 => wIf (v30 = l1) (w_X1_holdsBerthAt dc h q25 l2 (fun r32 => wIf (r32 = 0) (w_X6_occupant_77 dc h l0 l1 l2 l3 Po PX rec17) (wR h q25 2 0 (fun a35 => wR h a35 4 0 (fun a36 => wI h a36 5 0 (fun v37 => Po v37)))))) (w_X6_occupant_77 dc h l0 l1 l2 l3 Po PX rec17)))))))))))))
def w_X6_occupant_17 (dc : Nat × Nat) (h : XH) (l0 : Nat) (l1 : Int32) (l2 : Int32) (Po : Int32 → Prop) (PX : String → Prop) : Int32 → Prop := xloop (w_X6_occupant_17_F dc h l0 l1 l2 Po PX)
set_option maxRecDepth 100000 in
set_option maxHeartbeats 4000000 in
theorem k_X6_occupant_17 {V : XVT} {VX : XWT} {X : XC} {l : Launch} (hfl : l.stackTraces = false) (S2 : xSX V VX X l RX6 yX6_occupant.name cX6_occupant 5 wsX6_occupant (xRm 8 132 2 12)) (h : XH) (l0 : Nat) (l1 : Int32) (l2 : Int32) (Po : Int32 → Prop) (PX : String → Prop) (E : xEnd V cX6_occupant (some .int) 2 12 (xRi h Po)) (EX : xEndX VX 2 12 (xXr h PX)) (TT : xThr V RX6 cX6_occupant wsX6_occupant (xRm 8 132 2 12) 2 12 (xXr h PX)) (s0 : Int32) (hw : w_X6_occupant_17 (xdc X) h l0 l1 l2 Po PX s0) : V 2 12 h 17 [(0, .ref l0), (1, .int l1), (2, .int l2), (3, .int s0)] [] := by
  have S := S2.S
  refine xloop_use (P := fun s : Int32 => V 2 12 h 17 [(0, .ref l0), (1, .int l1), (2, .int l2), (3, .int s)] []) (fun rec17 hr17 s hw => ?_) hw
  obtain ⟨l3, rfl⟩ : ∃ z, z = s := ⟨s, rfl⟩
  refine xr_iload_n S 3 dX6_occupant_17 rfl ?_
  refine xr_aload_n S 0 dX6_occupant_18 rfl ?_
  refine xw_getR S 7 4 dX6_occupant_19 in_X6_occupant_X6 rfl (by decide) (Or.inl m_X6_occupant_2) (Or.inl rfl) hw (fun a13 hw => ?_)
  obtain ⟨e14, hw⟩ := hw
  obtain ⟨f15, f15x⟩ := id e14
  refine xr_callV S 0 [] [.int l3] dX6_occupant_22 (k_Jx4a65c_size_8abf5 l (xdc X) h a13 _ hw) gX6_occupant_Jx4a65c_size_8abf5 rfl pd_Jx4a65c_size_8abf5 ⟨Nat.le_of_ble_eq_true rfl, Nat.le_of_ble_eq_true rfl⟩ rfl (Nat.le_of_ble_eq_true rfl) ⟨Nat.le_of_ble_eq_true rfl, Nat.le_of_ble_eq_true rfl⟩ f15x rfl (fun v9 h18 hv => ?_)
  obtain ⟨r16, rfl, rfl, hw⟩ := hv
  refine xw_icmp_ge S 83 dX6_occupant_25 (by decide) hw (fun c hw => ?_) (fun c hw => ?_)
  · refine xr_iconst S (-1) dX6_occupant_83 (by decide) ?_
    exact E.1 _ _ _ _ _ _ rfl dX6_occupant_84 ⟨_, rfl, rfl, hw⟩ (Nat.le_of_ble_eq_true rfl) (Nat.le_of_ble_eq_true rfl)
  · refine xr_aload_n S 0 dX6_occupant_28 rfl ?_
    refine xw_getR S 7 4 dX6_occupant_29 in_X6_occupant_X6 rfl (by decide) (Or.inl m_X6_occupant_2) (Or.inl rfl) hw (fun a19 hw => ?_)
    refine xr_iload_n S 3 dX6_occupant_32 rfl ?_
    obtain ⟨e20, hw⟩ := hw
    obtain ⟨f21, f21x⟩ := id e20
    refine xr_callV S 0 [.int l3] [] dX6_occupant_33 (k_Jx4a65c_get_915e3 l (xdc X) h a19 l3 _ hw) gX6_occupant_Jx4a65c_get_915e3 rfl pd_Jx4a65c_get_915e3 ⟨Nat.le_of_ble_eq_true rfl, Nat.le_of_ble_eq_true rfl⟩ rfl (Nat.le_of_ble_eq_true rfl) ⟨Nat.le_of_ble_eq_true rfl, Nat.le_of_ble_eq_true rfl⟩ f21x rfl (fun v9 h24 hv => ?_)
    obtain ⟨r22, rfl, rfl, hw⟩ := hv
    obtain ⟨q25, hrq25, hwq25⟩ := hw
    subst hrq25
    have hw := hwq25
    obtain ⟨e26, hw⟩ := hw
    obtain ⟨f27, f27x⟩ := id e26
    refine xr_cast S 2 dX6_occupant_36 m_X6_occupant_3 f27x rfl ?_
    refine xr_astore S [(4, .ref q25), (0, .ref l0), (1, .int l1), (2, .int l2), (3, .int l3)] dX6_occupant_39 (by decide) rfl ?_
    refine xr_aload S 0 dX6_occupant_41 rfl ?_
    refine xw_getR S 2 0 dX6_occupant_43 in_X6_occupant_X1 rfl (by decide) (Or.inr xn_X6_133) (Or.inl rfl) hw (fun a28 hw => ?_)
    refine xw_getR S 4 1 dX6_occupant_46 in_X6_occupant_X3 rfl (by decide) (Or.inr xn_X6_208) (Or.inl rfl) hw (fun a29 hw => ?_)
    refine xw_getI S 1 0 dX6_occupant_49 in_X6_occupant_X0 rfl (by decide) (Or.inr xn_X6_212) (Or.inl rfl) hw (fun v30 hw => ?_)
    refine xr_iload_n S 2 dX6_occupant_52 rfl ?_
    refine xw_icmp_ne S 77 dX6_occupant_53 (by decide) hw (fun c hw => ?_) (fun c hw => ?_)
    · refine xr_sub S [(0, .ref l0), (1, .int l1), (2, .int l2), (3, .int l3)] [1, 2, 3, 4] rfl ?_
      exact k_X6_occupant_77 hfl S2 h l0 l1 l2 l3 Po PX E EX TT rec17 hr17 hw
    · refine xr_aload S 0 dX6_occupant_56 rfl ?_
      refine xr_iload_n S 3 dX6_occupant_58 rfl ?_
      obtain ⟨f31, f31x⟩ := id e26
      refine xr_callV S 2 [.int l2] [] dX6_occupant_59 (k_X1_holdsBerthAt l (xdc X) h q25 l2 _ hw) gX6_occupant_X1_holdsBerthAt rfl pd_X1_holdsBerthAt ⟨Nat.le_of_ble_eq_true rfl, Nat.le_of_ble_eq_true rfl⟩ rfl (Nat.le_of_ble_eq_true rfl) ⟨Nat.le_of_ble_eq_true rfl, Nat.le_of_ble_eq_true rfl⟩ f31x rfl (fun v9 h34 hv => ?_)
      obtain ⟨r32, rfl, rfl, hw⟩ := hv
      refine xw_if_eq S 77 dX6_occupant_62 (by decide) hw (fun c hw => ?_) (fun c hw => ?_)
      · refine xr_sub S [(0, .ref l0), (1, .int l1), (2, .int l2), (3, .int l3)] [1, 2, 3, 4] rfl ?_
        exact k_X6_occupant_77 hfl S2 h l0 l1 l2 l3 Po PX E EX TT rec17 hr17 hw
      · refine xr_aload S 0 dX6_occupant_65 rfl ?_
        refine xw_getR S 2 0 dX6_occupant_67 in_X6_occupant_X1 rfl (by decide) (Or.inr xn_X6_133) (Or.inl rfl) hw (fun a35 hw => ?_)
        refine xw_getR S 4 0 dX6_occupant_70 in_X6_occupant_X3 rfl (by decide) (Or.inr xn_X6_188) (Or.inl rfl) hw (fun a36 hw => ?_)
        refine xw_getI S 5 0 dX6_occupant_73 in_X6_occupant_X4 rfl (by decide) (Or.inr xn_X6_203) (Or.inl rfl) hw (fun v37 hw => ?_)
        exact E.1 _ _ _ _ _ _ rfl dX6_occupant_76 ⟨_, rfl, rfl, hw⟩ (Nat.le_of_ble_eq_true rfl) (Nat.le_of_ble_eq_true rfl)
def w_X6_occupant (dc : Nat × Nat) (h : XH) (l0 : Nat) (l1 : Int32) (l2 : Int32) (Po : Int32 → Prop) (PX : String → Prop) : Prop :=
  wR h l0 7 1 (fun a1 => wO h a1 0 ( w_Jx4a65c_size_8abf5 dc h a1 (fun r4 => w_X6_checkNumber dc h l1 r4 ( w_X6_checkTime dc h l2 ( w_X6_occupant_17 dc h l0 l1 l2 Po PX 0) (fun E => PX E)) (fun E => PX E))))
set_option maxRecDepth 100000 in
set_option maxHeartbeats 4000000 in
theorem k_X6_occupant (l : Launch) (hfl : l.stackTraces = false) (dc : Nat × Nat) (h : XH) (l0 : Nat) (l1 : Int32) (l2 : Int32) (Po : Int32 → Prop) (PX : String → Prop) (hw : w_X6_occupant dc h l0 l1 l2 Po PX) : xMX l dc yX6_occupant wsX6_occupant 8 132 2 12 [.ref l0, .int l1, .int l2] h (xRi h Po) (xXr h PX) := by
  refine xMX_of hfl [(0, .ref l0), (1, .int l1), (2, .int l2)] (own := RX6) (cc := cX6_occupant) (nL := 5) (ret := (some .int)) (by decide +kernel) rfl rfl (Nat.le_of_ble_eq_true rfl) rfl ?_
  intro X V VX hX S2 E EX TT
  subst hX
  have S := S2.S
  refine xr_iload_n S 1 dX6_occupant_0 rfl ?_
  refine xr_aload_n S 0 dX6_occupant_1 rfl ?_
  refine xw_getR S 7 1 dX6_occupant_2 in_X6_occupant_X6 rfl (by decide) (Or.inl m_X6_occupant_1) (Or.inl rfl) hw (fun a1 hw => ?_)
  obtain ⟨e2, hw⟩ := hw
  obtain ⟨f3, f3x⟩ := id e2
  refine xr_callV S 0 [] [.int l1] dX6_occupant_5 (k_Jx4a65c_size_8abf5 l (xdc X) h a1 _ hw) gX6_occupant_Jx4a65c_size_8abf5 rfl pd_Jx4a65c_size_8abf5 ⟨Nat.le_of_ble_eq_true rfl, Nat.le_of_ble_eq_true rfl⟩ rfl (Nat.le_of_ble_eq_true rfl) ⟨Nat.le_of_ble_eq_true rfl, Nat.le_of_ble_eq_true rfl⟩ f3x rfl (fun v9 h6 hv => ?_)
  obtain ⟨r4, rfl, rfl, hw⟩ := hv
  refine xr_callSX S2 [.int l1, .int r4] [] dX6_occupant_8 (k_X6_checkNumber l hfl (xdc X) h l1 r4 _ _ hw) gX6_occupant_X6_checkNumber rfl pd_X6_checkNumber ⟨Nat.le_of_ble_eq_true rfl, Nat.le_of_ble_eq_true rfl⟩ rfl (Nat.le_of_ble_eq_true rfl) ⟨Nat.le_of_ble_eq_true rfl, Nat.le_of_ble_eq_true rfl⟩ (fun E1 h9 hx => by obtain ⟨rfl, hx⟩ := hx; exact EX _ _ _ _ _ _ ⟨rfl, hx⟩ (Nat.le_of_ble_eq_true rfl) (Nat.le_of_ble_eq_true rfl)) (fun v9 h9 hv => ?_)
  obtain ⟨rfl, rfl, hw⟩ := hv
  refine xr_iload_n S 2 dX6_occupant_11 rfl ?_
  refine xr_callSX S2 [.int l2] [] dX6_occupant_12 (k_X6_checkTime l hfl (xdc X) h l2 _ _ hw) gX6_occupant_X6_checkTime rfl pd_X6_checkTime ⟨Nat.le_of_ble_eq_true rfl, Nat.le_of_ble_eq_true rfl⟩ rfl (Nat.le_of_ble_eq_true rfl) ⟨Nat.le_of_ble_eq_true rfl, Nat.le_of_ble_eq_true rfl⟩ (fun E1 h9 hx => by obtain ⟨rfl, hx⟩ := hx; exact EX _ _ _ _ _ _ ⟨rfl, hx⟩ (Nat.le_of_ble_eq_true rfl) (Nat.le_of_ble_eq_true rfl)) (fun v9 h12 hv => ?_)
  obtain ⟨rfl, rfl, hw⟩ := hv
  refine xr_iconst S (0) dX6_occupant_15 (by decide) ?_
  refine xr_istore_n S [(3, .int 0), (0, .ref l0), (1, .int l1), (2, .int l2)] dX6_occupant_16 (by decide) rfl ?_
  refine xr_sub S [(0, .ref l0), (1, .int l1), (2, .int l2), (3, .int 0)] [1, 2, 3, 0] rfl ?_
  exact k_X6_occupant_17 hfl S2 h l0 l1 l2 Po PX E EX TT 0 hw
theorem in_X6_freeTugs_X6 : ∀ w ∈ wsX60, w ∈ wsX6_freeTugs := by decide +kernel
theorem m_X6_freeTugs_1 : Cond.fieldLink RX6 39 "PilotBook" "tugs" "I" ∈ wsX6_freeTugs := by decide +kernel
def w_X6_freeTugs (dc : Nat × Nat) (h : XH) (l0 : Nat) (l1 : Int32) (Po : Int32 → Prop) (PX : String → Prop) : Prop :=
  wO h l0 7 (w_X6_checkTime dc h l1 ( wI h l0 7 7 (fun v4 => w_X6_tugsInUse dc h l0 l1 (fun r6 => Po (v4 - r6)))) (fun E => PX E))
set_option maxRecDepth 100000 in
set_option maxHeartbeats 4000000 in
theorem k_X6_freeTugs (l : Launch) (hfl : l.stackTraces = false) (dc : Nat × Nat) (h : XH) (l0 : Nat) (l1 : Int32) (Po : Int32 → Prop) (PX : String → Prop) (hw : w_X6_freeTugs dc h l0 l1 Po PX) : xMX l dc yX6_freeTugs wsX6_freeTugs 8 132 1 6 [.ref l0, .int l1] h (xRi h Po) (xXr h PX) := by
  refine xMX_of hfl [(0, .ref l0), (1, .int l1)] (own := RX6) (cc := cX6_freeTugs) (nL := 2) (ret := (some .int)) (by decide +kernel) rfl rfl (Nat.le_of_ble_eq_true rfl) rfl ?_
  intro X V VX hX S2 E EX TT
  subst hX
  have S := S2.S
  obtain ⟨hO, hw⟩ := hw
  refine xr_iload_n S 1 dX6_freeTugs_0 rfl ?_
  refine xr_callSX S2 [.int l1] [] dX6_freeTugs_1 (k_X6_checkTime l hfl (xdc X) h l1 _ _ hw) gX6_freeTugs_X6_checkTime rfl pd_X6_checkTime ⟨Nat.le_of_ble_eq_true rfl, Nat.le_of_ble_eq_true rfl⟩ rfl (Nat.le_of_ble_eq_true rfl) ⟨Nat.le_of_ble_eq_true rfl, Nat.le_of_ble_eq_true rfl⟩ (fun E1 h9 hx => by obtain ⟨rfl, hx⟩ := hx; exact EX _ _ _ _ _ _ ⟨rfl, hx⟩ (Nat.le_of_ble_eq_true rfl) (Nat.le_of_ble_eq_true rfl)) (fun v9 h3 hv => ?_)
  obtain ⟨rfl, rfl, hw⟩ := hv
  refine xr_aload_n S 0 dX6_freeTugs_4 rfl ?_
  refine xw_getI S 7 7 dX6_freeTugs_5 in_X6_freeTugs_X6 rfl (by decide) (Or.inl m_X6_freeTugs_1) (Or.inl rfl) hw (fun v4 hw => ?_)
  refine xr_aload_n S 0 dX6_freeTugs_8 rfl ?_
  refine xr_iload_n S 1 dX6_freeTugs_9 rfl ?_
  obtain ⟨f5, f5x⟩ := id hO
  refine xr_callV S 7 [.int l1] [.int v4] dX6_freeTugs_10 (k_X6_tugsInUse l (xdc X) h l0 l1 _ hw) gX6_freeTugs_X6_tugsInUse rfl pd_X6_tugsInUse ⟨Nat.le_of_ble_eq_true rfl, Nat.le_of_ble_eq_true rfl⟩ rfl (Nat.le_of_ble_eq_true rfl) ⟨Nat.le_of_ble_eq_true rfl, Nat.le_of_ble_eq_true rfl⟩ f5x rfl (fun v9 h8 hv => ?_)
  obtain ⟨r6, rfl, rfl, hw⟩ := hv
  refine xr_isub S dX6_freeTugs_13 ?_
  exact E.1 _ _ _ _ _ _ rfl dX6_freeTugs_14 ⟨_, rfl, rfl, hw⟩ (Nat.le_of_ble_eq_true rfl) (Nat.le_of_ble_eq_true rfl)
theorem in_X6_trips_X6 : ∀ w ∈ wsX60, w ∈ wsX6_trips := by decide +kernel
theorem m_X6_trips_1 : Cond.fieldLink RX6 26 "PilotBook" "pilots" "Ljava/util/ArrayList;" ∈ wsX6_trips := by decide +kernel
theorem m_X6_trips_2 : Cond.fieldLink RX6 29 "PilotBook" "passages" "Ljava/util/ArrayList;" ∈ wsX6_trips := by decide +kernel
theorem m_X6_trips_3 : Cond.classLink RX6 134 "PilotBook$Passage" ∈ wsX6_trips := by decide +kernel
theorem in_X6_trips_X1 : ∀ w ∈ wsX10, w ∈ wsX6_trips := by decide +kernel
theorem in_X6_trips_X2 : ∀ w ∈ wsX20, w ∈ wsX6_trips := by decide +kernel
def w_X6_trips_50 (dc : Nat × Nat) (h : XH) (l0 : Nat) (l1 : Int32) (l2 : Int32) (l3 : Int32) (Po : Int32 → Prop) (PX : String → Prop) (rec15 : Int32 × Int32 → Prop) : Prop :=
  rec15 (l2, (l3 + 1))
set_option maxRecDepth 100000 in
set_option maxHeartbeats 4000000 in
theorem k_X6_trips_50 {V : XVT} {VX : XWT} {X : XC} {l : Launch} (hfl : l.stackTraces = false) (S2 : xSX V VX X l RX6 yX6_trips.name cX6_trips 4 wsX6_trips (xRm 7 111 1 6)) (h : XH) (l0 : Nat) (l1 : Int32) (l2 : Int32) (l3 : Int32) (Po : Int32 → Prop) (PX : String → Prop) (E : xEnd V cX6_trips (some .int) 1 6 (xRi h Po)) (EX : xEndX VX 1 6 (xXr h PX)) (TT : xThr V RX6 cX6_trips wsX6_trips (xRm 7 111 1 6) 1 6 (xXr h PX)) (rec15 : Int32 × Int32 → Prop) (hr15 : ∀ s : Int32 × Int32, rec15 s → V 1 6 h 15 [(0, .ref l0), (1, .int l1), (2, .int s.1), (3, .int s.2)] []) (hw : w_X6_trips_50 (xdc X) h l0 l1 l2 l3 Po PX rec15) : V 1 6 h 50 [(0, .ref l0), (1, .int l1), (2, .int l2), (3, .int l3)] [] := by
  have S := S2.S
  refine xr_iinc S 3 ((l3 + 1)) [(3, .int (l3 + 1)), (0, .ref l0), (1, .int l1), (2, .int l2)] dX6_trips_50 rfl rfl (by decide) rfl ?_
  refine xr_goto S (tgt := 15) dX6_trips_53 (by decide) ?_
  refine xr_sub S [(0, .ref l0), (1, .int l1), (2, .int l2), (3, .int (l3 + 1))] [1, 2, 3, 0] rfl ?_
  exact hr15 (l2, (l3 + 1)) hw
def w_X6_trips_15_F (dc : Nat × Nat) (h : XH) (l0 : Nat) (l1 : Int32) (Po : Int32 → Prop) (PX : String → Prop) (rec15 : Int32 × Int32 → Prop) : Int32 × Int32 → Prop := fun s => match s with
  | (l2, l3) =>
  wR h l0 7 4 (fun a10 => wO h a10 0 ( w_Jx4a65c_size_8abf5 dc h a10 (fun r13 => wIf (r13 ≤ l3) (Po l2) (wR h l0 7 4 (fun a16 => wO h a16 0 ( w_Jx4a65c_get_915e3 dc h a16 l3 (fun r19 => wDer r19 (fun q22 => wO h q22 2 ( wR h q22 2 3 (fun a25 => wI h a25 3 0 (fun v26 => wIf (v26 = l1) (w_X6_trips_50 dc h l0 l1 (l2 + 1) l3 Po PX rec15) (w_X6_trips_50 dc h l0 l1 l2 l3 Po PX rec15))))))))))))
def w_X6_trips_15 (dc : Nat × Nat) (h : XH) (l0 : Nat) (l1 : Int32) (Po : Int32 → Prop) (PX : String → Prop) : Int32 × Int32 → Prop := xloop (w_X6_trips_15_F dc h l0 l1 Po PX)
set_option maxRecDepth 100000 in
set_option maxHeartbeats 4000000 in
theorem k_X6_trips_15 {V : XVT} {VX : XWT} {X : XC} {l : Launch} (hfl : l.stackTraces = false) (S2 : xSX V VX X l RX6 yX6_trips.name cX6_trips 4 wsX6_trips (xRm 7 111 1 6)) (h : XH) (l0 : Nat) (l1 : Int32) (Po : Int32 → Prop) (PX : String → Prop) (E : xEnd V cX6_trips (some .int) 1 6 (xRi h Po)) (EX : xEndX VX 1 6 (xXr h PX)) (TT : xThr V RX6 cX6_trips wsX6_trips (xRm 7 111 1 6) 1 6 (xXr h PX)) (s0 : Int32 × Int32) (hw : w_X6_trips_15 (xdc X) h l0 l1 Po PX s0) : V 1 6 h 15 [(0, .ref l0), (1, .int l1), (2, .int s0.1), (3, .int s0.2)] [] := by
  have S := S2.S
  refine xloop_use (P := fun s : Int32 × Int32 => V 1 6 h 15 [(0, .ref l0), (1, .int l1), (2, .int s.1), (3, .int s.2)] []) (fun rec15 hr15 s hw => ?_) hw
  obtain ⟨l2, l3⟩ := s
  try dsimp only
  refine xr_iload_n S 3 dX6_trips_15 rfl ?_
  refine xr_aload_n S 0 dX6_trips_16 rfl ?_
  refine xw_getR S 7 4 dX6_trips_17 in_X6_trips_X6 rfl (by decide) (Or.inl m_X6_trips_2) (Or.inl rfl) hw (fun a10 hw => ?_)
  obtain ⟨e11, hw⟩ := hw
  obtain ⟨f12, f12x⟩ := id e11
  refine xr_callV S 0 [] [.int l3] dX6_trips_20 (k_Jx4a65c_size_8abf5 l (xdc X) h a10 _ hw) gX6_trips_Jx4a65c_size_8abf5 rfl pd_Jx4a65c_size_8abf5 ⟨Nat.le_of_ble_eq_true rfl, Nat.le_of_ble_eq_true rfl⟩ rfl (Nat.le_of_ble_eq_true rfl) ⟨Nat.le_of_ble_eq_true rfl, Nat.le_of_ble_eq_true rfl⟩ f12x rfl (fun v9 h15 hv => ?_)
  obtain ⟨r13, rfl, rfl, hw⟩ := hv
  refine xw_icmp_ge S 56 dX6_trips_23 (by decide) hw (fun c hw => ?_) (fun c hw => ?_)
  · refine xr_iload_n S 2 dX6_trips_56 rfl ?_
    exact E.1 _ _ _ _ _ _ rfl dX6_trips_57 ⟨_, rfl, rfl, hw⟩ (Nat.le_of_ble_eq_true rfl) (Nat.le_of_ble_eq_true rfl)
  · refine xr_aload_n S 0 dX6_trips_26 rfl ?_
    refine xw_getR S 7 4 dX6_trips_27 in_X6_trips_X6 rfl (by decide) (Or.inl m_X6_trips_2) (Or.inl rfl) hw (fun a16 hw => ?_)
    refine xr_iload_n S 3 dX6_trips_30 rfl ?_
    obtain ⟨e17, hw⟩ := hw
    obtain ⟨f18, f18x⟩ := id e17
    refine xr_callV S 0 [.int l3] [] dX6_trips_31 (k_Jx4a65c_get_915e3 l (xdc X) h a16 l3 _ hw) gX6_trips_Jx4a65c_get_915e3 rfl pd_Jx4a65c_get_915e3 ⟨Nat.le_of_ble_eq_true rfl, Nat.le_of_ble_eq_true rfl⟩ rfl (Nat.le_of_ble_eq_true rfl) ⟨Nat.le_of_ble_eq_true rfl, Nat.le_of_ble_eq_true rfl⟩ f18x rfl (fun v9 h21 hv => ?_)
    obtain ⟨r19, rfl, rfl, hw⟩ := hv
    obtain ⟨q22, hrq22, hwq22⟩ := hw
    subst hrq22
    have hw := hwq22
    obtain ⟨e23, hw⟩ := hw
    obtain ⟨f24, f24x⟩ := id e23
    refine xr_cast S 2 dX6_trips_34 m_X6_trips_3 f24x rfl ?_
    refine xw_getR S 2 3 dX6_trips_37 in_X6_trips_X1 rfl (by decide) (Or.inr xn_X6_192) (Or.inl rfl) hw (fun a25 hw => ?_)
    refine xw_getI S 3 0 dX6_trips_40 in_X6_trips_X2 rfl (by decide) (Or.inr xn_X6_206) (Or.inl rfl) hw (fun v26 hw => ?_)
    refine xr_iload_n S 1 dX6_trips_43 rfl ?_
    refine xw_icmp_ne S 50 dX6_trips_44 (by decide) hw (fun c hw => ?_) (fun c hw => ?_)
    · exact k_X6_trips_50 hfl S2 h l0 l1 l2 l3 Po PX E EX TT rec15 hr15 hw
    · refine xr_iinc S 2 ((l2 + 1)) [(2, .int (l2 + 1)), (0, .ref l0), (1, .int l1), (3, .int l3)] dX6_trips_47 rfl rfl (by decide) rfl ?_
      refine xr_sub S [(0, .ref l0), (1, .int l1), (2, .int (l2 + 1)), (3, .int l3)] [1, 2, 0, 3] rfl ?_
      exact k_X6_trips_50 hfl S2 h l0 l1 (l2 + 1) l3 Po PX E EX TT rec15 hr15 hw
def w_X6_trips (dc : Nat × Nat) (h : XH) (l0 : Nat) (l1 : Int32) (Po : Int32 → Prop) (PX : String → Prop) : Prop :=
  wR h l0 7 3 (fun a1 => wO h a1 0 ( w_Jx4a65c_size_8abf5 dc h a1 (fun r4 => w_X6_checkNumber dc h l1 r4 ( w_X6_trips_15 dc h l0 l1 Po PX (0, 0)) (fun E => PX E))))
set_option maxRecDepth 100000 in
set_option maxHeartbeats 4000000 in
theorem k_X6_trips (l : Launch) (hfl : l.stackTraces = false) (dc : Nat × Nat) (h : XH) (l0 : Nat) (l1 : Int32) (Po : Int32 → Prop) (PX : String → Prop) (hw : w_X6_trips dc h l0 l1 Po PX) : xMX l dc yX6_trips wsX6_trips 7 111 1 6 [.ref l0, .int l1] h (xRi h Po) (xXr h PX) := by
  refine xMX_of hfl [(0, .ref l0), (1, .int l1)] (own := RX6) (cc := cX6_trips) (nL := 4) (ret := (some .int)) (by decide +kernel) rfl rfl (Nat.le_of_ble_eq_true rfl) rfl ?_
  intro X V VX hX S2 E EX TT
  subst hX
  have S := S2.S
  refine xr_iload_n S 1 dX6_trips_0 rfl ?_
  refine xr_aload_n S 0 dX6_trips_1 rfl ?_
  refine xw_getR S 7 3 dX6_trips_2 in_X6_trips_X6 rfl (by decide) (Or.inl m_X6_trips_1) (Or.inl rfl) hw (fun a1 hw => ?_)
  obtain ⟨e2, hw⟩ := hw
  obtain ⟨f3, f3x⟩ := id e2
  refine xr_callV S 0 [] [.int l1] dX6_trips_5 (k_Jx4a65c_size_8abf5 l (xdc X) h a1 _ hw) gX6_trips_Jx4a65c_size_8abf5 rfl pd_Jx4a65c_size_8abf5 ⟨Nat.le_of_ble_eq_true rfl, Nat.le_of_ble_eq_true rfl⟩ rfl (Nat.le_of_ble_eq_true rfl) ⟨Nat.le_of_ble_eq_true rfl, Nat.le_of_ble_eq_true rfl⟩ f3x rfl (fun v9 h6 hv => ?_)
  obtain ⟨r4, rfl, rfl, hw⟩ := hv
  refine xr_callSX S2 [.int l1, .int r4] [] dX6_trips_8 (k_X6_checkNumber l hfl (xdc X) h l1 r4 _ _ hw) gX6_trips_X6_checkNumber rfl pd_X6_checkNumber ⟨Nat.le_of_ble_eq_true rfl, Nat.le_of_ble_eq_true rfl⟩ rfl (Nat.le_of_ble_eq_true rfl) ⟨Nat.le_of_ble_eq_true rfl, Nat.le_of_ble_eq_true rfl⟩ (fun E1 h9 hx => by obtain ⟨rfl, hx⟩ := hx; exact EX _ _ _ _ _ _ ⟨rfl, hx⟩ (Nat.le_of_ble_eq_true rfl) (Nat.le_of_ble_eq_true rfl)) (fun v9 h9 hv => ?_)
  obtain ⟨rfl, rfl, hw⟩ := hv
  refine xr_iconst S (0) dX6_trips_11 (by decide) ?_
  refine xr_istore_n S [(2, .int 0), (0, .ref l0), (1, .int l1)] dX6_trips_12 (by decide) rfl ?_
  refine xr_iconst S (0) dX6_trips_13 (by decide) ?_
  refine xr_istore_n S [(3, .int 0), (2, .int 0), (0, .ref l0), (1, .int l1)] dX6_trips_14 (by decide) rfl ?_
  refine xr_sub S [(0, .ref l0), (1, .int l1), (2, .int 0), (3, .int 0)] [2, 3, 1, 0] rfl ?_
  exact k_X6_trips_15 hfl S2 h l0 l1 Po PX E EX TT (0, 0) hw
theorem in_X6_isInPort_X6 : ∀ w ∈ wsX60, w ∈ wsX6_isInPort := by decide +kernel
theorem m_X6_isInPort_1 : Cond.fieldLink RX6 26 "PilotBook" "pilots" "Ljava/util/ArrayList;" ∈ wsX6_isInPort := by decide +kernel
theorem m_X6_isInPort_2 : Cond.classLink RX6 103 "PilotBook$Pilot" ∈ wsX6_isInPort := by decide +kernel
def w_X6_isInPort (dc : Nat × Nat) (h : XH) (l0 : Nat) (l1 : Int32) (Po : Int32 → Prop) (PX : String → Prop) : Prop :=
  wR h l0 7 3 (fun a1 => wO h a1 0 ( w_Jx4a65c_size_8abf5 dc h a1 (fun r4 => w_X6_checkNumber dc h l1 r4 ( wR h l0 7 3 (fun a10 => wO h a10 0 ( w_Jx4a65c_get_915e3 dc h a10 l1 (fun r13 => wDer r13 (fun q16 => wO h q16 3 ( w_X2_endsInPort dc h q16 (fun r20 => wZ r20 (Po r20)))))))) (fun E => PX E))))
set_option maxRecDepth 100000 in
set_option maxHeartbeats 4000000 in
theorem k_X6_isInPort (l : Launch) (hfl : l.stackTraces = false) (dc : Nat × Nat) (h : XH) (l0 : Nat) (l1 : Int32) (Po : Int32 → Prop) (PX : String → Prop) (hw : w_X6_isInPort dc h l0 l1 Po PX) : xMX l dc yX6_isInPort wsX6_isInPort 7 111 1 6 [.ref l0, .int l1] h (xRi h Po) (xXr h PX) := by
  refine xMX_of hfl [(0, .ref l0), (1, .int l1)] (own := RX6) (cc := cX6_isInPort) (nL := 2) (ret := (some .boolean)) (by decide +kernel) rfl rfl (Nat.le_of_ble_eq_true rfl) rfl ?_
  intro X V VX hX S2 E EX TT
  subst hX
  have S := S2.S
  refine xr_iload_n S 1 dX6_isInPort_0 rfl ?_
  refine xr_aload_n S 0 dX6_isInPort_1 rfl ?_
  refine xw_getR S 7 3 dX6_isInPort_2 in_X6_isInPort_X6 rfl (by decide) (Or.inl m_X6_isInPort_1) (Or.inl rfl) hw (fun a1 hw => ?_)
  obtain ⟨e2, hw⟩ := hw
  obtain ⟨f3, f3x⟩ := id e2
  refine xr_callV S 0 [] [.int l1] dX6_isInPort_5 (k_Jx4a65c_size_8abf5 l (xdc X) h a1 _ hw) gX6_isInPort_Jx4a65c_size_8abf5 rfl pd_Jx4a65c_size_8abf5 ⟨Nat.le_of_ble_eq_true rfl, Nat.le_of_ble_eq_true rfl⟩ rfl (Nat.le_of_ble_eq_true rfl) ⟨Nat.le_of_ble_eq_true rfl, Nat.le_of_ble_eq_true rfl⟩ f3x rfl (fun v9 h6 hv => ?_)
  obtain ⟨r4, rfl, rfl, hw⟩ := hv
  refine xr_callSX S2 [.int l1, .int r4] [] dX6_isInPort_8 (k_X6_checkNumber l hfl (xdc X) h l1 r4 _ _ hw) gX6_isInPort_X6_checkNumber rfl pd_X6_checkNumber ⟨Nat.le_of_ble_eq_true rfl, Nat.le_of_ble_eq_true rfl⟩ rfl (Nat.le_of_ble_eq_true rfl) ⟨Nat.le_of_ble_eq_true rfl, Nat.le_of_ble_eq_true rfl⟩ (fun E1 h9 hx => by obtain ⟨rfl, hx⟩ := hx; exact EX _ _ _ _ _ _ ⟨rfl, hx⟩ (Nat.le_of_ble_eq_true rfl) (Nat.le_of_ble_eq_true rfl)) (fun v9 h9 hv => ?_)
  obtain ⟨rfl, rfl, hw⟩ := hv
  refine xr_aload_n S 0 dX6_isInPort_11 rfl ?_
  refine xw_getR S 7 3 dX6_isInPort_12 in_X6_isInPort_X6 rfl (by decide) (Or.inl m_X6_isInPort_1) (Or.inl rfl) hw (fun a10 hw => ?_)
  refine xr_iload_n S 1 dX6_isInPort_15 rfl ?_
  obtain ⟨e11, hw⟩ := hw
  obtain ⟨f12, f12x⟩ := id e11
  refine xr_callV S 0 [.int l1] [] dX6_isInPort_16 (k_Jx4a65c_get_915e3 l (xdc X) h a10 l1 _ hw) gX6_isInPort_Jx4a65c_get_915e3 rfl pd_Jx4a65c_get_915e3 ⟨Nat.le_of_ble_eq_true rfl, Nat.le_of_ble_eq_true rfl⟩ rfl (Nat.le_of_ble_eq_true rfl) ⟨Nat.le_of_ble_eq_true rfl, Nat.le_of_ble_eq_true rfl⟩ f12x rfl (fun v9 h15 hv => ?_)
  obtain ⟨r13, rfl, rfl, hw⟩ := hv
  obtain ⟨q16, hrq16, hwq16⟩ := hw
  subst hrq16
  have hw := hwq16
  obtain ⟨e17, hw⟩ := hw
  obtain ⟨f18, f18x⟩ := id e17
  refine xr_cast S 3 dX6_isInPort_19 m_X6_isInPort_2 f18x rfl ?_
  obtain ⟨f19, f19x⟩ := id e17
  refine xr_callV S 3 [] [] dX6_isInPort_22 (k_X2_endsInPort l (xdc X) h q16 _ hw) gX6_isInPort_X2_endsInPort rfl pd_X2_endsInPort ⟨Nat.le_of_ble_eq_true rfl, Nat.le_of_ble_eq_true rfl⟩ rfl (Nat.le_of_ble_eq_true rfl) ⟨Nat.le_of_ble_eq_true rfl, Nat.le_of_ble_eq_true rfl⟩ f19x rfl (fun v9 h22 hv => ?_)
  obtain ⟨r20, rfl, rfl, hw⟩ := hv
  obtain ⟨hz, hw⟩ := hw
  exact E.2.1 _ _ _ _ _ _ rfl hz dX6_isInPort_25 ⟨_, rfl, rfl, hw⟩ (Nat.le_of_ble_eq_true rfl) (Nat.le_of_ble_eq_true rfl)
theorem in_X6_delay_X6 : ∀ w ∈ wsX60, w ∈ wsX6_delay := by decide +kernel
theorem m_X6_delay_1 : Cond.fieldLink RX6 29 "PilotBook" "passages" "Ljava/util/ArrayList;" ∈ wsX6_delay := by decide +kernel
theorem m_X6_delay_2 : Cond.classLink RX6 134 "PilotBook$Passage" ∈ wsX6_delay := by decide +kernel
theorem in_X6_delay_X1 : ∀ w ∈ wsX10, w ∈ wsX6_delay := by decide +kernel
def w_X6_delay_18_F (dc : Nat × Nat) (h : XH) (l0 : Nat) (l1 : Int32) (Po : UInt64 → Prop) (rec18 : Int32 × Int32 → Prop) : Int32 × Int32 → Prop := fun s => match s with
  | (l2, l3) =>
  wIf (l1 ≤ l3) (wDD (FP.i2d l2) (FP.i2d l1) (fun r7 => Po r7)) (wR h l0 7 4 (fun a8 => wO h a8 0 ( w_Jx4a65c_get_915e3 dc h a8 l3 (fun r11 => wDer r11 (fun q14 => wO h q14 2 ( wI h q14 2 2 (fun v17 => wI h q14 2 1 (fun v18 => (rec18 ((l2 + (v17 - v18)), (l3 + 1)))))))))))
def w_X6_delay_18 (dc : Nat × Nat) (h : XH) (l0 : Nat) (l1 : Int32) (Po : UInt64 → Prop) : Int32 × Int32 → Prop := xloop (w_X6_delay_18_F dc h l0 l1 Po)
set_option maxRecDepth 100000 in
set_option maxHeartbeats 4000000 in
theorem k_X6_delay_18 {V : XVT} {X : XC} {l : Launch} (S : xS V X l RX6 yX6_delay.name cX6_delay 5 wsX6_delay (xRm 3 64 0 0)) (DD : ∀ (cells slots : Nat) (h : XH) (pc : Nat) (lv : List (Nat × Value)) (st : List Value) (x z : UInt64), decode cX6_delay pc = .ok (.ddiv, 1) → (∀ r : UInt64, alike64 r (FP.ddiv x z) = true → V cells slots h (pc + 1) lv (.double r :: st)) → V cells slots h pc lv (.double z :: .double x :: st)) (h : XH) (l0 : Nat) (l1 : Int32) (Po : UInt64 → Prop) (E : xEnd V cX6_delay (some .double) 0 0 (xRd h Po)) (s0 : Int32 × Int32) (hw : w_X6_delay_18 (xdc X) h l0 l1 Po s0) : V 0 0 h 18 [(0, .ref l0), (1, .int l1), (2, .int s0.1), (3, .int s0.2)] [] := by
  refine xloop_use (P := fun s : Int32 × Int32 => V 0 0 h 18 [(0, .ref l0), (1, .int l1), (2, .int s.1), (3, .int s.2)] []) (fun rec18 hr18 s hw => ?_) hw
  obtain ⟨l2, l3⟩ := s
  try dsimp only
  refine xr_iload_n S 3 dX6_delay_18 rfl ?_
  refine xr_iload_n S 1 dX6_delay_19 rfl ?_
  refine xw_icmp_ge S 56 dX6_delay_20 (by decide) hw (fun c hw => ?_) (fun c hw => ?_)
  · refine xr_iload_n S 2 dX6_delay_56 rfl ?_
    refine xr_i2d S dX6_delay_57 ?_
    refine xr_iload_n S 1 dX6_delay_58 rfl ?_
    refine xr_i2d S dX6_delay_59 ?_
    refine DD _ _ _ _ _ _ _ _ dX6_delay_60 (fun r7 hal => ?_)
    have hw := hw r7 hal
    exact E.2.2.2.2.2 _ _ _ _ _ _ rfl dX6_delay_61 ⟨_, rfl, rfl, hw⟩ (Nat.le_of_ble_eq_true rfl) (Nat.le_of_ble_eq_true rfl)
  · refine xr_aload_n S 0 dX6_delay_23 rfl ?_
    refine xw_getR S 7 4 dX6_delay_24 in_X6_delay_X6 rfl (by decide) (Or.inl m_X6_delay_1) (Or.inl rfl) hw (fun a8 hw => ?_)
    refine xr_iload_n S 3 dX6_delay_27 rfl ?_
    obtain ⟨e9, hw⟩ := hw
    obtain ⟨f10, f10x⟩ := id e9
    refine xr_callV S 0 [.int l3] [] dX6_delay_28 (k_Jx4a65c_get_915e3 l (xdc X) h a8 l3 _ hw) gX6_delay_Jx4a65c_get_915e3 rfl pd_Jx4a65c_get_915e3 ⟨Nat.le_of_ble_eq_true rfl, Nat.le_of_ble_eq_true rfl⟩ rfl (Nat.le_of_ble_eq_true rfl) ⟨Nat.le_of_ble_eq_true rfl, Nat.le_of_ble_eq_true rfl⟩ f10x rfl (fun v9 h13 hv => ?_)
    obtain ⟨r11, rfl, rfl, hw⟩ := hv
    obtain ⟨q14, hrq14, hwq14⟩ := hw
    subst hrq14
    have hw := hwq14
    obtain ⟨e15, hw⟩ := hw
    obtain ⟨f16, f16x⟩ := id e15
    refine xr_cast S 2 dX6_delay_31 m_X6_delay_2 f16x rfl ?_
    refine xr_astore S [(4, .ref q14), (0, .ref l0), (1, .int l1), (2, .int l2), (3, .int l3)] dX6_delay_34 (by decide) rfl ?_
    refine xr_iload_n S 3 dX6_delay_36 rfl ?_
    refine xr_aload S 0 dX6_delay_37 rfl ?_
    refine xw_getI S 2 2 dX6_delay_39 in_X6_delay_X1 rfl (by decide) (Or.inr xn_X6_153) (Or.inl rfl) hw (fun v17 hw => ?_)
    refine xr_aload S 0 dX6_delay_42 rfl ?_
    refine xw_getI S 2 1 dX6_delay_44 in_X6_delay_X1 rfl (by decide) (Or.inr xn_X6_224) (Or.inl rfl) hw (fun v18 hw => ?_)
    refine xr_isub S dX6_delay_47 ?_
    refine xr_iadd S dX6_delay_48 ?_
    refine xr_istore_n S [(2, .int (l2 + (v17 - v18))), (4, .ref q14), (0, .ref l0), (1, .int l1), (3, .int l3)] dX6_delay_49 (by decide) rfl ?_
    refine xr_iinc S 4 ((l3 + 1)) [(3, .int (l3 + 1)), (2, .int (l2 + (v17 - v18))), (4, .ref q14), (0, .ref l0), (1, .int l1)] dX6_delay_50 rfl rfl (by decide) rfl ?_
    refine xr_goto S (tgt := 18) dX6_delay_53 (by decide) ?_
    refine xr_sub S [(0, .ref l0), (1, .int l1), (2, .int (l2 + (v17 - v18))), (3, .int (l3 + 1))] [3, 4, 1, 0] rfl ?_
    exact hr18 ((l2 + (v17 - v18)), (l3 + 1)) hw
def w_X6_delay (dc : Nat × Nat) (h : XH) (l0 : Nat) (Po : UInt64 → Prop) : Prop :=
  wR h l0 7 4 (fun a1 => wO h a1 0 ( w_Jx4a65c_size_8abf5 dc h a1 (fun r4 => wIf (r4 = 0) (Po FP.dconst0) (w_X6_delay_18 dc h l0 r4 Po (0, 0)))))
set_option maxRecDepth 100000 in
set_option maxHeartbeats 4000000 in
theorem k_X6_delay (l : Launch) (dc : Nat × Nat) (h : XH) (l0 : Nat) (Po : UInt64 → Prop) (hw : w_X6_delay dc h l0 Po) : xMD l dc yX6_delay wsX6_delay 3 64 0 0 [.ref l0] h (xRd h Po) := by
  refine xMD_of [(0, .ref l0)] (own := RX6) (cc := cX6_delay) (nL := 5) (ret := (some .double)) (by decide +kernel) rfl rfl (Nat.le_of_ble_eq_true rfl) rfl ?_
  intro X V hX S E DD
  subst hX
  refine xr_aload_n S 0 dX6_delay_0 rfl ?_
  refine xw_getR S 7 4 dX6_delay_1 in_X6_delay_X6 rfl (by decide) (Or.inl m_X6_delay_1) (Or.inl rfl) hw (fun a1 hw => ?_)
  obtain ⟨e2, hw⟩ := hw
  obtain ⟨f3, f3x⟩ := id e2
  refine xr_callV S 0 [] [] dX6_delay_4 (k_Jx4a65c_size_8abf5 l (xdc X) h a1 _ hw) gX6_delay_Jx4a65c_size_8abf5 rfl pd_Jx4a65c_size_8abf5 ⟨Nat.le_of_ble_eq_true rfl, Nat.le_of_ble_eq_true rfl⟩ rfl (Nat.le_of_ble_eq_true rfl) ⟨Nat.le_of_ble_eq_true rfl, Nat.le_of_ble_eq_true rfl⟩ f3x rfl (fun v9 h6 hv => ?_)
  obtain ⟨r4, rfl, rfl, hw⟩ := hv
  refine xr_istore_n S [(1, .int r4), (0, .ref l0)] dX6_delay_7 (by decide) rfl ?_
  refine xr_iload_n S 0 dX6_delay_8 rfl ?_
  refine xw_if_ne S 14 dX6_delay_9 (by decide) hw (fun c hw => ?_) (fun c hw => ?_)
  · refine xr_iconst S (0) dX6_delay_14 (by decide) ?_
    refine xr_istore_n S [(2, .int 0), (1, .int r4), (0, .ref l0)] dX6_delay_15 (by decide) rfl ?_
    refine xr_iconst S (0) dX6_delay_16 (by decide) ?_
    refine xr_istore_n S [(3, .int 0), (2, .int 0), (1, .int r4), (0, .ref l0)] dX6_delay_17 (by decide) rfl ?_
    refine xr_sub S [(0, .ref l0), (1, .int r4), (2, .int 0), (3, .int 0)] [3, 2, 1, 0] rfl ?_
    exact k_X6_delay_18 S DD h l0 r4 Po E (0, 0) hw
  · refine xr_dconst0 S dX6_delay_12 ?_
    exact E.2.2.2.2.2 _ _ _ _ _ _ rfl dX6_delay_13 ⟨_, rfl, rfl, hw⟩ (Nat.le_of_ble_eq_true rfl) (Nat.le_of_ble_eq_true rfl)
theorem m_X6_digest_0 : Cond.constantLong RX6 227 307 ∈ wsX6_digest := by decide +kernel
theorem m_X6_digest_1 : Cond.constantLong RX6 229 31 ∈ wsX6_digest := by decide +kernel
theorem in_X6_digest_X6 : ∀ w ∈ wsX60, w ∈ wsX6_digest := by decide +kernel
theorem m_X6_digest_3 : Cond.fieldLink RX6 32 "PilotBook" "barDepth" "I" ∈ wsX6_digest := by decide +kernel
theorem m_X6_digest_4 : Cond.fieldLink RX6 36 "PilotBook" "margin" "I" ∈ wsX6_digest := by decide +kernel
theorem m_X6_digest_5 : Cond.fieldLink RX6 39 "PilotBook" "tugs" "I" ∈ wsX6_digest := by decide +kernel
theorem m_X6_digest_6 : Cond.fieldLink RX6 23 "PilotBook" "ships" "Ljava/util/ArrayList;" ∈ wsX6_digest := by decide +kernel
theorem m_X6_digest_7 : Cond.fieldLink RX6 29 "PilotBook" "passages" "Ljava/util/ArrayList;" ∈ wsX6_digest := by decide +kernel
theorem m_X6_digest_8 : Cond.classLink RX6 90 "PilotBook$Ship" ∈ wsX6_digest := by decide +kernel
theorem in_X6_digest_X4 : ∀ w ∈ wsX40, w ∈ wsX6_digest := by decide +kernel
def w_X6_digest_141_F (dc : Nat × Nat) (h : XH) (l0 : Nat) (l3 : Int32) (Po : Int64 → Prop) (rec127 : Int64 × Int32 → Prop) (rec141 : Int64 × Int32 → Prop) : Int64 × Int32 → Prop := fun s => match s with
  | (l1, l4) =>
  wIf (5 < l4) (rec127 (l1, (l3 + 1))) (w_p_X6_passage dc h l0 l3 l4 (fun r17 => rec141 (((l1 * 31) + r17.toInt64), (l4 + 1))))
def w_X6_digest_141 (dc : Nat × Nat) (h : XH) (l0 : Nat) (l3 : Int32) (Po : Int64 → Prop) (rec127 : Int64 × Int32 → Prop) : Int64 × Int32 → Prop := xloop (w_X6_digest_141_F dc h l0 l3 Po rec127)
set_option maxRecDepth 100000 in
set_option maxHeartbeats 4000000 in
theorem k_X6_digest_141 {V : XVT} {X : XC} {l : Launch} (S : xS V X l RX6 yX6_digest.name cX6_digest 5 wsX6_digest (xRm 4 87 0 0)) (h : XH) (l0 : Nat) (l3 : Int32) (Po : Int64 → Prop) (E : xEnd V cX6_digest (some .long) 0 0 (xRl h Po)) (hO : ∃ fs, h l0 = some (.inr (7, fs))) (rec127 : Int64 × Int32 → Prop) (hr127 : ∀ s : Int64 × Int32, rec127 s → V 0 0 h 127 [(0, .ref l0), (1, .long s.1), (3, .int s.2)] []) (s0 : Int64 × Int32) (hw : w_X6_digest_141 (xdc X) h l0 l3 Po rec127 s0) : V 0 0 h 141 [(0, .ref l0), (1, .long s0.1), (3, .int l3), (4, .int s0.2)] [] := by
  refine xloop_use (P := fun s : Int64 × Int32 => V 0 0 h 141 [(0, .ref l0), (1, .long s.1), (3, .int l3), (4, .int s.2)] []) (fun rec141 hr141 s hw => ?_) hw
  obtain ⟨l1, l4⟩ := s
  try dsimp only
  refine xr_iload S 3 dX6_digest_141 rfl ?_
  refine xr_iconst S (5) dX6_digest_143 (by decide) ?_
  refine xw_icmp_gt S 168 dX6_digest_144 (by decide) hw (fun c hw => ?_) (fun c hw => ?_)
  · refine xr_iinc S 2 ((l3 + 1)) [(3, .int (l3 + 1)), (0, .ref l0), (1, .long l1), (4, .int l4)] dX6_digest_168 rfl rfl (by decide) rfl ?_
    refine xr_goto S (tgt := 127) dX6_digest_171 (by decide) ?_
    refine xr_sub S [(0, .ref l0), (1, .long l1), (3, .int (l3 + 1))] [1, 2, 0] rfl ?_
    exact hr127 (l1, (l3 + 1)) hw
  · refine xr_lload_n S 1 dX6_digest_147 rfl ?_
    refine xr_ldc2 S 31 dX6_digest_148 m_X6_digest_1 ?_
    refine xr_lmul S dX6_digest_151 ?_
    refine xr_aload_n S 0 dX6_digest_152 rfl ?_
    refine xr_iload_n S 2 dX6_digest_153 rfl ?_
    refine xr_iload S 3 dX6_digest_154 rfl ?_
    obtain ⟨f16, f16x⟩ := id hO
    refine xr_callV S 7 [.int l3, .int l4] [.long (l1 * 31)] dX6_digest_156 (k_p_X6_passage l (xdc X) h l0 l3 l4 _ hw) gX6_digest_X6_passage rfl pd_X6_passage ⟨Nat.le_of_ble_eq_true rfl, Nat.le_of_ble_eq_true rfl⟩ rfl (Nat.le_of_ble_eq_true rfl) ⟨Nat.le_of_ble_eq_true rfl, Nat.le_of_ble_eq_true rfl⟩ f16x rfl (fun v9 h19 hv => ?_)
    obtain ⟨r17, rfl, rfl, hw⟩ := hv
    refine xr_i2l S dX6_digest_159 ?_
    refine xr_ladd S dX6_digest_160 ?_
    refine xr_lstore_n S [(1, .long ((l1 * 31) + r17.toInt64)), (0, .ref l0), (3, .int l3), (4, .int l4)] dX6_digest_161 (by decide) rfl ?_
    refine xr_iinc S 3 ((l4 + 1)) [(4, .int (l4 + 1)), (1, .long ((l1 * 31) + r17.toInt64)), (0, .ref l0), (3, .int l3)] dX6_digest_162 rfl rfl (by decide) rfl ?_
    refine xr_goto S (tgt := 141) dX6_digest_165 (by decide) ?_
    refine xr_sub S [(0, .ref l0), (1, .long ((l1 * 31) + r17.toInt64)), (3, .int l3), (4, .int (l4 + 1))] [2, 1, 3, 0] rfl ?_
    exact hr141 (((l1 * 31) + r17.toInt64), (l4 + 1)) hw
def w_X6_digest_127_F (dc : Nat × Nat) (h : XH) (l0 : Nat) (Po : Int64 → Prop) (rec127 : Int64 × Int32 → Prop) : Int64 × Int32 → Prop := fun s => match s with
  | (l1, l3) =>
  wR h l0 7 4 (fun a10 => wO h a10 0 ( w_Jx4a65c_size_8abf5 dc h a10 (fun r13 => wIf (r13 ≤ l3) (Po l1) (w_X6_digest_141 dc h l0 l3 Po rec127 (l1, 0)))))
def w_X6_digest_127 (dc : Nat × Nat) (h : XH) (l0 : Nat) (Po : Int64 → Prop) : Int64 × Int32 → Prop := xloop (w_X6_digest_127_F dc h l0 Po)
set_option maxRecDepth 100000 in
set_option maxHeartbeats 4000000 in
theorem k_X6_digest_127 {V : XVT} {X : XC} {l : Launch} (S : xS V X l RX6 yX6_digest.name cX6_digest 5 wsX6_digest (xRm 4 87 0 0)) (h : XH) (l0 : Nat) (Po : Int64 → Prop) (E : xEnd V cX6_digest (some .long) 0 0 (xRl h Po)) (hO : ∃ fs, h l0 = some (.inr (7, fs))) (s0 : Int64 × Int32) (hw : w_X6_digest_127 (xdc X) h l0 Po s0) : V 0 0 h 127 [(0, .ref l0), (1, .long s0.1), (3, .int s0.2)] [] := by
  refine xloop_use (P := fun s : Int64 × Int32 => V 0 0 h 127 [(0, .ref l0), (1, .long s.1), (3, .int s.2)] []) (fun rec127 hr127 s hw => ?_) hw
  obtain ⟨l1, l3⟩ := s
  try dsimp only
  refine xr_iload_n S 2 dX6_digest_127 rfl ?_
  refine xr_aload_n S 0 dX6_digest_128 rfl ?_
  refine xw_getR S 7 4 dX6_digest_129 in_X6_digest_X6 rfl (by decide) (Or.inl m_X6_digest_7) (Or.inl rfl) hw (fun a10 hw => ?_)
  obtain ⟨e11, hw⟩ := hw
  obtain ⟨f12, f12x⟩ := id e11
  refine xr_callV S 0 [] [.int l3] dX6_digest_132 (k_Jx4a65c_size_8abf5 l (xdc X) h a10 _ hw) gX6_digest_Jx4a65c_size_8abf5 rfl pd_Jx4a65c_size_8abf5 ⟨Nat.le_of_ble_eq_true rfl, Nat.le_of_ble_eq_true rfl⟩ rfl (Nat.le_of_ble_eq_true rfl) ⟨Nat.le_of_ble_eq_true rfl, Nat.le_of_ble_eq_true rfl⟩ f12x rfl (fun v9 h15 hv => ?_)
  obtain ⟨r13, rfl, rfl, hw⟩ := hv
  refine xw_icmp_ge S 174 dX6_digest_135 (by decide) hw (fun c hw => ?_) (fun c hw => ?_)
  · refine xr_lload_n S 1 dX6_digest_174 rfl ?_
    exact E.2.2.2.2.1 _ _ _ _ _ _ rfl dX6_digest_175 ⟨_, rfl, rfl, hw⟩ (Nat.le_of_ble_eq_true rfl) (Nat.le_of_ble_eq_true rfl)
  · refine xr_iconst S (0) dX6_digest_138 (by decide) ?_
    refine xr_istore S [(4, .int 0), (0, .ref l0), (1, .long l1), (3, .int l3)] dX6_digest_139 (by decide) rfl ?_
    refine xr_sub S [(0, .ref l0), (1, .long l1), (3, .int l3), (4, .int 0)] [1, 2, 3, 0] rfl ?_
    exact k_X6_digest_141 S h l0 l3 Po E hO rec127 hr127 (l1, 0) hw
def w_X6_digest_68_F (dc : Nat × Nat) (h : XH) (l0 : Nat) (Po : Int64 → Prop) (rec68 : Int64 × Int32 → Prop) : Int64 × Int32 → Prop := fun s => match s with
  | (l1, l3) =>
  wR h l0 7 2 (fun a4 => wO h a4 0 ( w_Jx4a65c_size_8abf5 dc h a4 (fun r7 => wIf (r7 ≤ l3) (w_X6_digest_127 dc h l0 Po (l1, 0)) (wR h l0 7 2 (fun a20 => wO h a20 0 ( w_Jx4a65c_get_915e3 dc h a20 l3 (fun r23 => wDer r23 (fun q26 => wO h q26 5 ( wI h q26 5 2 (fun v29 => w_X6_waterNeed dc h l0 q26 (fun r31 => rec68 (((((l1 * 31) + v29.toInt64) * 31) + r31.toInt64), (l3 + 1)))))))))))))
def w_X6_digest_68 (dc : Nat × Nat) (h : XH) (l0 : Nat) (Po : Int64 → Prop) : Int64 × Int32 → Prop := xloop (w_X6_digest_68_F dc h l0 Po)
set_option maxRecDepth 100000 in
set_option maxHeartbeats 4000000 in
theorem k_X6_digest_68 {V : XVT} {X : XC} {l : Launch} (S : xS V X l RX6 yX6_digest.name cX6_digest 5 wsX6_digest (xRm 4 87 0 0)) (h : XH) (l0 : Nat) (Po : Int64 → Prop) (E : xEnd V cX6_digest (some .long) 0 0 (xRl h Po)) (hO : ∃ fs, h l0 = some (.inr (7, fs))) (s0 : Int64 × Int32) (hw : w_X6_digest_68 (xdc X) h l0 Po s0) : V 0 0 h 68 [(0, .ref l0), (1, .long s0.1), (3, .int s0.2)] [] := by
  refine xloop_use (P := fun s : Int64 × Int32 => V 0 0 h 68 [(0, .ref l0), (1, .long s.1), (3, .int s.2)] []) (fun rec68 hr68 s hw => ?_) hw
  obtain ⟨l1, l3⟩ := s
  try dsimp only
  refine xr_iload_n S 2 dX6_digest_68 rfl ?_
  refine xr_aload_n S 0 dX6_digest_69 rfl ?_
  refine xw_getR S 7 2 dX6_digest_70 in_X6_digest_X6 rfl (by decide) (Or.inl m_X6_digest_6) (Or.inl rfl) hw (fun a4 hw => ?_)
  obtain ⟨e5, hw⟩ := hw
  obtain ⟨f6, f6x⟩ := id e5
  refine xr_callV S 0 [] [.int l3] dX6_digest_73 (k_Jx4a65c_size_8abf5 l (xdc X) h a4 _ hw) gX6_digest_Jx4a65c_size_8abf5 rfl pd_Jx4a65c_size_8abf5 ⟨Nat.le_of_ble_eq_true rfl, Nat.le_of_ble_eq_true rfl⟩ rfl (Nat.le_of_ble_eq_true rfl) ⟨Nat.le_of_ble_eq_true rfl, Nat.le_of_ble_eq_true rfl⟩ f6x rfl (fun v9 h9 hv => ?_)
  obtain ⟨r7, rfl, rfl, hw⟩ := hv
  refine xw_icmp_ge S 125 dX6_digest_76 (by decide) hw (fun c hw => ?_) (fun c hw => ?_)
  · refine xr_iconst S (0) dX6_digest_125 (by decide) ?_
    refine xr_istore_n S [(3, .int 0), (0, .ref l0), (1, .long l1)] dX6_digest_126 (by decide) rfl ?_
    refine xr_sub S [(0, .ref l0), (1, .long l1), (3, .int 0)] [1, 2, 0] rfl ?_
    exact k_X6_digest_127 S h l0 Po E hO (l1, 0) hw
  · refine xr_aload_n S 0 dX6_digest_79 rfl ?_
    refine xw_getR S 7 2 dX6_digest_80 in_X6_digest_X6 rfl (by decide) (Or.inl m_X6_digest_6) (Or.inl rfl) hw (fun a20 hw => ?_)
    refine xr_iload_n S 2 dX6_digest_83 rfl ?_
    obtain ⟨e21, hw⟩ := hw
    obtain ⟨f22, f22x⟩ := id e21
    refine xr_callV S 0 [.int l3] [] dX6_digest_84 (k_Jx4a65c_get_915e3 l (xdc X) h a20 l3 _ hw) gX6_digest_Jx4a65c_get_915e3 rfl pd_Jx4a65c_get_915e3 ⟨Nat.le_of_ble_eq_true rfl, Nat.le_of_ble_eq_true rfl⟩ rfl (Nat.le_of_ble_eq_true rfl) ⟨Nat.le_of_ble_eq_true rfl, Nat.le_of_ble_eq_true rfl⟩ f22x rfl (fun v9 h25 hv => ?_)
    obtain ⟨r23, rfl, rfl, hw⟩ := hv
    obtain ⟨q26, hrq26, hwq26⟩ := hw
    subst hrq26
    have hw := hwq26
    obtain ⟨e27, hw⟩ := hw
    obtain ⟨f28, f28x⟩ := id e27
    refine xr_cast S 5 dX6_digest_87 m_X6_digest_8 f28x rfl ?_
    refine xr_astore S [(4, .ref q26), (0, .ref l0), (1, .long l1), (3, .int l3)] dX6_digest_90 (by decide) rfl ?_
    refine xr_lload_n S 2 dX6_digest_92 rfl ?_
    refine xr_ldc2 S 31 dX6_digest_93 m_X6_digest_1 ?_
    refine xr_lmul S dX6_digest_96 ?_
    refine xr_aload S 0 dX6_digest_97 rfl ?_
    refine xw_getI S 5 2 dX6_digest_99 in_X6_digest_X4 rfl (by decide) (Or.inr xn_X6_100) (Or.inl rfl) hw (fun v29 hw => ?_)
    refine xr_i2l S dX6_digest_102 ?_
    refine xr_ladd S dX6_digest_103 ?_
    refine xr_lstore_n S [(1, .long ((l1 * 31) + v29.toInt64)), (4, .ref q26), (0, .ref l0), (3, .int l3)] dX6_digest_104 (by decide) rfl ?_
    refine xr_lload_n S 0 dX6_digest_105 rfl ?_
    refine xr_ldc2 S 31 dX6_digest_106 m_X6_digest_1 ?_
    refine xr_lmul S dX6_digest_109 ?_
    refine xr_aload_n S 2 dX6_digest_110 rfl ?_
    refine xr_aload S 1 dX6_digest_111 rfl ?_
    obtain ⟨f30, f30x⟩ := id hO
    refine xr_callV S 7 [.ref q26] [.long (((l1 * 31) + v29.toInt64) * 31)] dX6_digest_113 (k_X6_waterNeed l (xdc X) h l0 q26 _ hw) gX6_digest_X6_waterNeed rfl pd_X6_waterNeed ⟨Nat.le_of_ble_eq_true rfl, Nat.le_of_ble_eq_true rfl⟩ rfl (Nat.le_of_ble_eq_true rfl) ⟨Nat.le_of_ble_eq_true rfl, Nat.le_of_ble_eq_true rfl⟩ f30x rfl (fun v9 h33 hv => ?_)
    obtain ⟨r31, rfl, rfl, hw⟩ := hv
    refine xr_i2l S dX6_digest_116 ?_
    refine xr_ladd S dX6_digest_117 ?_
    refine xr_lstore_n S [(1, .long ((((l1 * 31) + v29.toInt64) * 31) + r31.toInt64)), (4, .ref q26), (0, .ref l0), (3, .int l3)] dX6_digest_118 (by decide) rfl ?_
    refine xr_iinc S 3 ((l3 + 1)) [(3, .int (l3 + 1)), (1, .long ((((l1 * 31) + v29.toInt64) * 31) + r31.toInt64)), (4, .ref q26), (0, .ref l0)] dX6_digest_119 rfl rfl (by decide) rfl ?_
    refine xr_goto S (tgt := 68) dX6_digest_122 (by decide) ?_
    refine xr_sub S [(0, .ref l0), (1, .long ((((l1 * 31) + v29.toInt64) * 31) + r31.toInt64)), (3, .int (l3 + 1))] [3, 1, 0] rfl ?_
    exact hr68 (((((l1 * 31) + v29.toInt64) * 31) + r31.toInt64), (l3 + 1)) hw
def w_X6_digest_6_F (dc : Nat × Nat) (h : XH) (l0 : Nat) (Po : Int64 → Prop) (rec6 : Int64 × Int32 → Prop) : Int64 × Int32 → Prop := fun s => match s with
  | (l1, l3) =>
  wIf (4 < l3) (wI h l0 7 5 (fun v1 => wI h l0 7 6 (fun v2 => wI h l0 7 7 (fun v3 => (w_X6_digest_68 dc h l0 Po (((((((l1 * 31) + v1.toInt64) * 31) + v2.toInt64) * 31) + v3.toInt64), 0)))))) (w_p_X6_count dc h l0 l3 (fun r35 => rec6 (((l1 * 31) + r35.toInt64), (l3 + 1))))
def w_X6_digest_6 (dc : Nat × Nat) (h : XH) (l0 : Nat) (Po : Int64 → Prop) : Int64 × Int32 → Prop := xloop (w_X6_digest_6_F dc h l0 Po)
set_option maxRecDepth 100000 in
set_option maxHeartbeats 4000000 in
theorem k_X6_digest_6 {V : XVT} {X : XC} {l : Launch} (S : xS V X l RX6 yX6_digest.name cX6_digest 5 wsX6_digest (xRm 4 87 0 0)) (h : XH) (l0 : Nat) (Po : Int64 → Prop) (E : xEnd V cX6_digest (some .long) 0 0 (xRl h Po)) (hO : ∃ fs, h l0 = some (.inr (7, fs))) (s0 : Int64 × Int32) (hw : w_X6_digest_6 (xdc X) h l0 Po s0) : V 0 0 h 6 [(0, .ref l0), (1, .long s0.1), (3, .int s0.2)] [] := by
  refine xloop_use (P := fun s : Int64 × Int32 => V 0 0 h 6 [(0, .ref l0), (1, .long s.1), (3, .int s.2)] []) (fun rec6 hr6 s hw => ?_) hw
  obtain ⟨l1, l3⟩ := s
  try dsimp only
  refine xr_iload_n S 2 dX6_digest_6 rfl ?_
  refine xr_iconst S (4) dX6_digest_7 (by decide) ?_
  refine xw_icmp_gt S 30 dX6_digest_8 (by decide) hw (fun c hw => ?_) (fun c hw => ?_)
  · refine xr_lload_n S 1 dX6_digest_30 rfl ?_
    refine xr_ldc2 S 31 dX6_digest_31 m_X6_digest_1 ?_
    refine xr_lmul S dX6_digest_34 ?_
    refine xr_aload_n S 0 dX6_digest_35 rfl ?_
    refine xw_getI S 7 5 dX6_digest_36 in_X6_digest_X6 rfl (by decide) (Or.inl m_X6_digest_3) (Or.inl rfl) hw (fun v1 hw => ?_)
    refine xr_i2l S dX6_digest_39 ?_
    refine xr_ladd S dX6_digest_40 ?_
    refine xr_lstore_n S [(1, .long ((l1 * 31) + v1.toInt64)), (0, .ref l0), (3, .int l3)] dX6_digest_41 (by decide) rfl ?_
    refine xr_lload_n S 0 dX6_digest_42 rfl ?_
    refine xr_ldc2 S 31 dX6_digest_43 m_X6_digest_1 ?_
    refine xr_lmul S dX6_digest_46 ?_
    refine xr_aload_n S 1 dX6_digest_47 rfl ?_
    refine xw_getI S 7 6 dX6_digest_48 in_X6_digest_X6 rfl (by decide) (Or.inl m_X6_digest_4) (Or.inl rfl) hw (fun v2 hw => ?_)
    refine xr_i2l S dX6_digest_51 ?_
    refine xr_ladd S dX6_digest_52 ?_
    refine xr_lstore_n S [(1, .long ((((l1 * 31) + v1.toInt64) * 31) + v2.toInt64)), (0, .ref l0), (3, .int l3)] dX6_digest_53 (by decide) rfl ?_
    refine xr_lload_n S 0 dX6_digest_54 rfl ?_
    refine xr_ldc2 S 31 dX6_digest_55 m_X6_digest_1 ?_
    refine xr_lmul S dX6_digest_58 ?_
    refine xr_aload_n S 1 dX6_digest_59 rfl ?_
    refine xw_getI S 7 7 dX6_digest_60 in_X6_digest_X6 rfl (by decide) (Or.inl m_X6_digest_5) (Or.inl rfl) hw (fun v3 hw => ?_)
    refine xr_i2l S dX6_digest_63 ?_
    refine xr_ladd S dX6_digest_64 ?_
    refine xr_lstore_n S [(1, .long ((((((l1 * 31) + v1.toInt64) * 31) + v2.toInt64) * 31) + v3.toInt64)), (0, .ref l0), (3, .int l3)] dX6_digest_65 (by decide) rfl ?_
    refine xr_iconst S (0) dX6_digest_66 (by decide) ?_
    refine xr_istore_n S [(3, .int 0), (1, .long ((((((l1 * 31) + v1.toInt64) * 31) + v2.toInt64) * 31) + v3.toInt64)), (0, .ref l0)] dX6_digest_67 (by decide) rfl ?_
    refine xr_sub S [(0, .ref l0), (1, .long ((((((l1 * 31) + v1.toInt64) * 31) + v2.toInt64) * 31) + v3.toInt64)), (3, .int 0)] [2, 1, 0] rfl ?_
    exact k_X6_digest_68 S h l0 Po E hO (((((((l1 * 31) + v1.toInt64) * 31) + v2.toInt64) * 31) + v3.toInt64), 0) hw
  · refine xr_lload_n S 1 dX6_digest_11 rfl ?_
    refine xr_ldc2 S 31 dX6_digest_12 m_X6_digest_1 ?_
    refine xr_lmul S dX6_digest_15 ?_
    refine xr_aload_n S 0 dX6_digest_16 rfl ?_
    refine xr_iload_n S 2 dX6_digest_17 rfl ?_
    obtain ⟨f34, f34x⟩ := id hO
    refine xr_callV S 7 [.int l3] [.long (l1 * 31)] dX6_digest_18 (k_p_X6_count l (xdc X) h l0 l3 _ hw) gX6_digest_X6_count rfl pd_X6_count ⟨Nat.le_of_ble_eq_true rfl, Nat.le_of_ble_eq_true rfl⟩ rfl (Nat.le_of_ble_eq_true rfl) ⟨Nat.le_of_ble_eq_true rfl, Nat.le_of_ble_eq_true rfl⟩ f34x rfl (fun v9 h37 hv => ?_)
    obtain ⟨r35, rfl, rfl, hw⟩ := hv
    refine xr_i2l S dX6_digest_21 ?_
    refine xr_ladd S dX6_digest_22 ?_
    refine xr_lstore_n S [(1, .long ((l1 * 31) + r35.toInt64)), (0, .ref l0), (3, .int l3)] dX6_digest_23 (by decide) rfl ?_
    refine xr_iinc S 2 ((l3 + 1)) [(3, .int (l3 + 1)), (1, .long ((l1 * 31) + r35.toInt64)), (0, .ref l0)] dX6_digest_24 rfl rfl (by decide) rfl ?_
    refine xr_goto S (tgt := 6) dX6_digest_27 (by decide) ?_
    refine xr_sub S [(0, .ref l0), (1, .long ((l1 * 31) + r35.toInt64)), (3, .int (l3 + 1))] [2, 1, 0] rfl ?_
    exact hr6 (((l1 * 31) + r35.toInt64), (l3 + 1)) hw
def w_X6_digest (dc : Nat × Nat) (h : XH) (l0 : Nat) (Po : Int64 → Prop) : Prop :=
  wO h l0 7 (w_X6_digest_6 dc h l0 Po (307, 0))
set_option maxRecDepth 100000 in
set_option maxHeartbeats 4000000 in
theorem k_X6_digest (l : Launch) (dc : Nat × Nat) (h : XH) (l0 : Nat) (Po : Int64 → Prop) (hw : w_X6_digest dc h l0 Po) : xM l dc yX6_digest wsX6_digest 4 87 0 0 [.ref l0] h (xRl h Po) := by
  refine xM_of [(0, .ref l0)] (own := RX6) (cc := cX6_digest) (nL := 5) (ret := (some .long)) (by decide +kernel) rfl rfl (Nat.le_of_ble_eq_true rfl) rfl ?_
  intro X V hX S E
  subst hX
  obtain ⟨hO, hw⟩ := hw
  refine xr_ldc2 S 307 dX6_digest_0 m_X6_digest_0 ?_
  refine xr_lstore_n S [(1, .long 307), (0, .ref l0)] dX6_digest_3 (by decide) rfl ?_
  refine xr_iconst S (0) dX6_digest_4 (by decide) ?_
  refine xr_istore_n S [(3, .int 0), (1, .long 307), (0, .ref l0)] dX6_digest_5 (by decide) rfl ?_
  refine xr_sub S [(0, .ref l0), (1, .long 307), (3, .int 0)] [2, 1, 0] rfl ?_
  exact k_X6_digest_6 S h l0 Po E hO (307, 0) hw
