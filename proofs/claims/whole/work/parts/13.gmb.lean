theorem in_X7_get_X7 : ∀ w ∈ wsX70, w ∈ wsX7_get := by decide +kernel
theorem m_X7_get_1 : Cond.fieldLink RX7 45 "PilotBookModel" "table" "[I" ∈ wsX7_get := by decide +kernel
def w_X7_get (dc : Nat × Nat) (h : XH) (l0 : Nat) (l1 : Int32) (l2 : Int32) (Po : Int32 → Prop) : Prop :=
  wR h l0 8 17 (fun a1 => wAI h 2 a1 ((7 * l1) + l2) (fun v2 => Po v2))
set_option maxRecDepth 100000 in
set_option maxHeartbeats 4000000 in
theorem k_X7_get (l : Launch) (dc : Nat × Nat) (h : XH) (l0 : Nat) (l1 : Int32) (l2 : Int32) (Po : Int32 → Prop) (hw : w_X7_get dc h l0 l1 l2 Po) : xM l dc yX7_get wsX7_get 0 0 0 0 [.ref l0, .int l1, .int l2] h (xRi h Po) := by
  refine xM_of [(0, .ref l0), (1, .int l1), (2, .int l2)] (own := RX7) (cc := cX7_get) (nL := 3) (ret := (some .int)) (by decide +kernel) rfl rfl (Nat.le_of_ble_eq_true rfl) rfl ?_
  intro X V hX S E
  subst hX
  refine xr_aload_n S 0 dX7_get_0 rfl ?_
  refine xw_getR S 8 17 dX7_get_1 in_X7_get_X7 rfl (by decide) (Or.inl m_X7_get_1) (Or.inl rfl) hw (fun a1 hw => ?_)
  refine xr_bipush S (7) dX7_get_4 (by decide) ?_
  refine xr_iload_n S 1 dX7_get_6 rfl ?_
  refine xr_imul S dX7_get_7 ?_
  refine xr_iload_n S 2 dX7_get_8 rfl ?_
  refine xr_iadd S dX7_get_9 ?_
  refine xw_iald S 2 dX7_get_10 (Or.inr rfl) hw (fun v2 hw => ?_)
  exact E.1 _ _ _ _ _ _ rfl dX7_get_11 ⟨_, rfl, rfl, hw⟩ (Nat.le_of_ble_eq_true rfl) (Nat.le_of_ble_eq_true rfl)
def w_X7_begin (dc : Nat × Nat) (h : XH) (l0 : Nat) (l1 : Int32) (Po : Int32 → Prop) : Prop :=
  wO h l0 8 (w_X7_get dc h l0 l1 1 (fun r2 => Po r2))
set_option maxRecDepth 100000 in
set_option maxHeartbeats 4000000 in
theorem k_X7_begin (l : Launch) (dc : Nat × Nat) (h : XH) (l0 : Nat) (l1 : Int32) (Po : Int32 → Prop) (hw : w_X7_begin dc h l0 l1 Po) : xM l dc yX7_begin wsX7_begin 1 22 0 0 [.ref l0, .int l1] h (xRi h Po) := by
  refine xM_of [(0, .ref l0), (1, .int l1)] (own := RX7) (cc := cX7_begin) (nL := 2) (ret := (some .int)) (by decide +kernel) rfl rfl (Nat.le_of_ble_eq_true rfl) rfl ?_
  intro X V hX S E
  subst hX
  obtain ⟨hO, hw⟩ := hw
  refine xr_aload_n S 0 dX7_begin_0 rfl ?_
  refine xr_iload_n S 1 dX7_begin_1 rfl ?_
  refine xr_iconst S (1) dX7_begin_2 (by decide) ?_
  obtain ⟨f1, f1x⟩ := id hO
  refine xr_callV S 8 [.int l1, .int 1] [] dX7_begin_3 (k_X7_get l (xdc X) h l0 l1 1 _ hw) gX7_begin_X7_get rfl pd_X7_get ⟨Nat.le_of_ble_eq_true rfl, Nat.le_of_ble_eq_true rfl⟩ rfl (Nat.le_of_ble_eq_true rfl) ⟨Nat.le_of_ble_eq_true rfl, Nat.le_of_ble_eq_true rfl⟩ f1x rfl (fun v9 h4 hv => ?_)
  obtain ⟨r2, rfl, rfl, hw⟩ := hv
  exact E.1 _ _ _ _ _ _ rfl dX7_begin_6 ⟨_, rfl, rfl, hw⟩ (Nat.le_of_ble_eq_true rfl) (Nat.le_of_ble_eq_true rfl)
def w_X7_end (dc : Nat × Nat) (h : XH) (l0 : Nat) (l1 : Int32) (Po : Int32 → Prop) : Prop :=
  wO h l0 8 (w_X7_get dc h l0 l1 1 (fun r2 => Po (r2 + 60)))
set_option maxRecDepth 100000 in
set_option maxHeartbeats 4000000 in
theorem k_X7_end (l : Launch) (dc : Nat × Nat) (h : XH) (l0 : Nat) (l1 : Int32) (Po : Int32 → Prop) (hw : w_X7_end dc h l0 l1 Po) : xM l dc yX7_end wsX7_end 1 22 0 0 [.ref l0, .int l1] h (xRi h Po) := by
  refine xM_of [(0, .ref l0), (1, .int l1)] (own := RX7) (cc := cX7_end) (nL := 2) (ret := (some .int)) (by decide +kernel) rfl rfl (Nat.le_of_ble_eq_true rfl) rfl ?_
  intro X V hX S E
  subst hX
  obtain ⟨hO, hw⟩ := hw
  refine xr_aload_n S 0 dX7_end_0 rfl ?_
  refine xr_iload_n S 1 dX7_end_1 rfl ?_
  refine xr_iconst S (1) dX7_end_2 (by decide) ?_
  obtain ⟨f1, f1x⟩ := id hO
  refine xr_callV S 8 [.int l1, .int 1] [] dX7_end_3 (k_X7_get l (xdc X) h l0 l1 1 _ hw) gX7_end_X7_get rfl pd_X7_get ⟨Nat.le_of_ble_eq_true rfl, Nat.le_of_ble_eq_true rfl⟩ rfl (Nat.le_of_ble_eq_true rfl) ⟨Nat.le_of_ble_eq_true rfl, Nat.le_of_ble_eq_true rfl⟩ f1x rfl (fun v9 h4 hv => ?_)
  obtain ⟨r2, rfl, rfl, hw⟩ := hv
  refine xr_bipush S (60) dX7_end_6 (by decide) ?_
  refine xr_iadd S dX7_end_8 ?_
  exact E.1 _ _ _ _ _ _ rfl dX7_end_9 ⟨_, rfl, rfl, hw⟩ (Nat.le_of_ble_eq_true rfl) (Nat.le_of_ble_eq_true rfl)
def w_X7_isOut (dc : Nat × Nat) (h : XH) (l0 : Nat) (l1 : Int32) (Po : Int32 → Prop) : Prop :=
  wO h l0 8 (w_X7_get dc h l0 l1 5 (fun r2 => wIf (r2 = 1) (wZ 1 (Po 1)) (wZ 0 (Po 0))))
set_option maxRecDepth 100000 in
set_option maxHeartbeats 4000000 in
theorem k_X7_isOut (l : Launch) (dc : Nat × Nat) (h : XH) (l0 : Nat) (l1 : Int32) (Po : Int32 → Prop) (hw : w_X7_isOut dc h l0 l1 Po) : xM l dc yX7_isOut wsX7_isOut 1 22 0 0 [.ref l0, .int l1] h (xRi h Po) := by
  refine xM_of [(0, .ref l0), (1, .int l1)] (own := RX7) (cc := cX7_isOut) (nL := 2) (ret := (some .boolean)) (by decide +kernel) rfl rfl (Nat.le_of_ble_eq_true rfl) rfl ?_
  intro X V hX S E
  subst hX
  obtain ⟨hO, hw⟩ := hw
  refine xr_aload_n S 0 dX7_isOut_0 rfl ?_
  refine xr_iload_n S 1 dX7_isOut_1 rfl ?_
  refine xr_iconst S (5) dX7_isOut_2 (by decide) ?_
  obtain ⟨f1, f1x⟩ := id hO
  refine xr_callV S 8 [.int l1, .int 5] [] dX7_isOut_3 (k_X7_get l (xdc X) h l0 l1 5 _ hw) gX7_isOut_X7_get rfl pd_X7_get ⟨Nat.le_of_ble_eq_true rfl, Nat.le_of_ble_eq_true rfl⟩ rfl (Nat.le_of_ble_eq_true rfl) ⟨Nat.le_of_ble_eq_true rfl, Nat.le_of_ble_eq_true rfl⟩ f1x rfl (fun v9 h4 hv => ?_)
  obtain ⟨r2, rfl, rfl, hw⟩ := hv
  refine xr_iconst S (1) dX7_isOut_6 (by decide) ?_
  refine xw_icmp_ne S 14 dX7_isOut_7 (by decide) hw (fun c hw => ?_) (fun c hw => ?_)
  · refine xr_iconst S (0) dX7_isOut_14 (by decide) ?_
    obtain ⟨hz, hw⟩ := hw
    exact E.2.1 _ _ _ _ _ _ rfl hz dX7_isOut_15 ⟨_, rfl, rfl, hw⟩ (Nat.le_of_ble_eq_true rfl) (Nat.le_of_ble_eq_true rfl)
  · refine xr_iconst S (1) dX7_isOut_10 (by decide) ?_
    refine xr_goto S (tgt := 15) dX7_isOut_11 (by decide) ?_
    obtain ⟨hz, hw⟩ := hw
    exact E.2.1 _ _ _ _ _ _ rfl hz dX7_isOut_15 ⟨_, rfl, rfl, hw⟩ (Nat.le_of_ble_eq_true rfl) (Nat.le_of_ble_eq_true rfl)
theorem in_X7_latest_X7 : ∀ w ∈ wsX70, w ∈ wsX7_latest := by decide +kernel
theorem m_X7_latest_1 : Cond.fieldLink RX7 72 "PilotBookModel" "passages" "I" ∈ wsX7_latest := by decide +kernel
def w_X7_latest_63 (dc : Nat × Nat) (h : XH) (l0 : Nat) (l1 : Int32) (l2 : Int32) (l3 : Int32) (l4 : Int32) (Po : Int32 → Prop) (rec5 : Int32 × Int32 → Prop) : Prop :=
  rec5 (l3, (l4 + 1))
set_option maxRecDepth 100000 in
set_option maxHeartbeats 4000000 in
theorem k_X7_latest_63 {V : XVT} {X : XC} {l : Launch} (S : xS V X l RX7 yX7_latest.name cX7_latest 5 wsX7_latest (xRm 2 43 0 0)) (h : XH) (l0 : Nat) (l1 : Int32) (l2 : Int32) (l3 : Int32) (l4 : Int32) (Po : Int32 → Prop) (E : xEnd V cX7_latest (some .int) 0 0 (xRi h Po)) (hO : ∃ fs, h l0 = some (.inr (8, fs))) (rec5 : Int32 × Int32 → Prop) (hr5 : ∀ s : Int32 × Int32, rec5 s → V 0 0 h 5 [(0, .ref l0), (1, .int l1), (2, .int l2), (3, .int s.1), (4, .int s.2)] []) (hw : w_X7_latest_63 (xdc X) h l0 l1 l2 l3 l4 Po rec5) : V 0 0 h 63 [(0, .ref l0), (1, .int l1), (2, .int l2), (3, .int l3), (4, .int l4)] [] := by
  refine xr_iinc S 4 ((l4 + 1)) [(4, .int (l4 + 1)), (0, .ref l0), (1, .int l1), (2, .int l2), (3, .int l3)] dX7_latest_63 rfl rfl (by decide) rfl ?_
  refine xr_goto S (tgt := 5) dX7_latest_66 (by decide) ?_
  refine xr_sub S [(0, .ref l0), (1, .int l1), (2, .int l2), (3, .int l3), (4, .int (l4 + 1))] [1, 2, 3, 4, 0] rfl ?_
  exact hr5 (l3, (l4 + 1)) hw
def w_X7_latest_60 (dc : Nat × Nat) (h : XH) (l0 : Nat) (l1 : Int32) (l2 : Int32) (l4 : Int32) (Po : Int32 → Prop) (rec5 : Int32 × Int32 → Prop) : Prop :=
  w_X7_latest_63 dc h l0 l1 l2 l4 l4 Po rec5
set_option maxRecDepth 100000 in
set_option maxHeartbeats 4000000 in
theorem k_X7_latest_60 {V : XVT} {X : XC} {l : Launch} (S : xS V X l RX7 yX7_latest.name cX7_latest 5 wsX7_latest (xRm 2 43 0 0)) (h : XH) (l0 : Nat) (l1 : Int32) (l2 : Int32) (l4 : Int32) (Po : Int32 → Prop) (E : xEnd V cX7_latest (some .int) 0 0 (xRi h Po)) (hO : ∃ fs, h l0 = some (.inr (8, fs))) (rec5 : Int32 × Int32 → Prop) (hr5 : ∀ s : Int32 × Int32, rec5 s → V 0 0 h 5 [(0, .ref l0), (1, .int l1), (2, .int l2), (3, .int s.1), (4, .int s.2)] []) (hw : w_X7_latest_60 (xdc X) h l0 l1 l2 l4 Po rec5) : V 0 0 h 60 [(0, .ref l0), (1, .int l1), (2, .int l2), (4, .int l4)] [] := by
  refine xr_iload S 3 dX7_latest_60 rfl ?_
  refine xr_istore_n S [(3, .int l4), (0, .ref l0), (1, .int l1), (2, .int l2), (4, .int l4)] dX7_latest_62 (by decide) rfl ?_
  refine xr_sub S [(0, .ref l0), (1, .int l1), (2, .int l2), (3, .int l4), (4, .int l4)] [1, 2, 3, 0, 4] rfl ?_
  exact k_X7_latest_63 S h l0 l1 l2 l4 l4 Po E hO rec5 hr5 hw
def w_X7_latest_41 (dc : Nat × Nat) (h : XH) (l0 : Nat) (l1 : Int32) (l2 : Int32) (l3 : Int32) (l4 : Int32) (Po : Int32 → Prop) (rec5 : Int32 × Int32 → Prop) : Prop :=
  wIf (l3 = (-1)) (w_X7_latest_60 dc h l0 l1 l2 l4 Po rec5) (w_X7_begin dc h l0 l4 (fun r7 => w_X7_begin dc h l0 l3 (fun r11 => wIf (r7 ≤ r11) (w_X7_latest_63 dc h l0 l1 l2 l3 l4 Po rec5) (w_X7_latest_60 dc h l0 l1 l2 l4 Po rec5))))
set_option maxRecDepth 100000 in
set_option maxHeartbeats 4000000 in
theorem k_X7_latest_41 {V : XVT} {X : XC} {l : Launch} (S : xS V X l RX7 yX7_latest.name cX7_latest 5 wsX7_latest (xRm 2 43 0 0)) (h : XH) (l0 : Nat) (l1 : Int32) (l2 : Int32) (l3 : Int32) (l4 : Int32) (Po : Int32 → Prop) (E : xEnd V cX7_latest (some .int) 0 0 (xRi h Po)) (hO : ∃ fs, h l0 = some (.inr (8, fs))) (rec5 : Int32 × Int32 → Prop) (hr5 : ∀ s : Int32 × Int32, rec5 s → V 0 0 h 5 [(0, .ref l0), (1, .int l1), (2, .int l2), (3, .int s.1), (4, .int s.2)] []) (hw : w_X7_latest_41 (xdc X) h l0 l1 l2 l3 l4 Po rec5) : V 0 0 h 41 [(0, .ref l0), (1, .int l1), (2, .int l2), (3, .int l3), (4, .int l4)] [] := by
  refine xr_iload_n S 3 dX7_latest_41 rfl ?_
  refine xr_iconst S (-1) dX7_latest_42 (by decide) ?_
  refine xw_icmp_eq S 60 dX7_latest_43 (by decide) hw (fun c hw => ?_) (fun c hw => ?_)
  · refine xr_sub S [(0, .ref l0), (1, .int l1), (2, .int l2), (4, .int l4)] [0, 1, 2, 4] rfl ?_
    exact k_X7_latest_60 S h l0 l1 l2 l4 Po E hO rec5 hr5 hw
  · refine xr_aload_n S 0 dX7_latest_46 rfl ?_
    refine xr_iload S 4 dX7_latest_47 rfl ?_
    obtain ⟨f6, f6x⟩ := id hO
    refine xr_callV S 8 [.int l4] [] dX7_latest_49 (k_X7_begin l (xdc X) h l0 l4 _ hw) gX7_latest_X7_begin rfl pd_X7_begin ⟨Nat.le_of_ble_eq_true rfl, Nat.le_of_ble_eq_true rfl⟩ rfl (Nat.le_of_ble_eq_true rfl) ⟨Nat.le_of_ble_eq_true rfl, Nat.le_of_ble_eq_true rfl⟩ f6x rfl (fun v9 h9 hv => ?_)
    obtain ⟨r7, rfl, rfl, hw⟩ := hv
    refine xr_aload_n S 0 dX7_latest_52 rfl ?_
    refine xr_iload_n S 3 dX7_latest_53 rfl ?_
    obtain ⟨f10, f10x⟩ := id hO
    refine xr_callV S 8 [.int l3] [.int r7] dX7_latest_54 (k_X7_begin l (xdc X) h l0 l3 _ hw) gX7_latest_X7_begin rfl pd_X7_begin ⟨Nat.le_of_ble_eq_true rfl, Nat.le_of_ble_eq_true rfl⟩ rfl (Nat.le_of_ble_eq_true rfl) ⟨Nat.le_of_ble_eq_true rfl, Nat.le_of_ble_eq_true rfl⟩ f10x rfl (fun v9 h13 hv => ?_)
    obtain ⟨r11, rfl, rfl, hw⟩ := hv
    refine xw_icmp_le S 63 dX7_latest_57 (by decide) hw (fun c hw => ?_) (fun c hw => ?_)
    · exact k_X7_latest_63 S h l0 l1 l2 l3 l4 Po E hO rec5 hr5 hw
    · refine xr_sub S [(0, .ref l0), (1, .int l1), (2, .int l2), (4, .int l4)] [0, 1, 2, 4] rfl ?_
      exact k_X7_latest_60 S h l0 l1 l2 l4 Po E hO rec5 hr5 hw
def w_X7_latest_5_F (dc : Nat × Nat) (h : XH) (l0 : Nat) (l1 : Int32) (l2 : Int32) (Po : Int32 → Prop) (rec5 : Int32 × Int32 → Prop) : Int32 × Int32 → Prop := fun s => match s with
  | (l3, l4) =>
  wI h l0 8 16 (fun v1 => wIf (v1 ≤ l4) (Po l3) (w_X7_get dc h l0 l4 0 (fun r3 => wIf (r3 = l1) (wIf (l2 = (-1)) (w_X7_latest_41 dc h l0 l1 l2 l3 l4 Po rec5) (w_X7_get dc h l0 l4 5 (fun r15 => wIf (r15 = l2) (w_X7_latest_41 dc h l0 l1 l2 l3 l4 Po rec5) (w_X7_latest_63 dc h l0 l1 l2 l3 l4 Po rec5)))) (w_X7_latest_63 dc h l0 l1 l2 l3 l4 Po rec5))))
def w_X7_latest_5 (dc : Nat × Nat) (h : XH) (l0 : Nat) (l1 : Int32) (l2 : Int32) (Po : Int32 → Prop) : Int32 × Int32 → Prop := xloop (w_X7_latest_5_F dc h l0 l1 l2 Po)
set_option maxRecDepth 100000 in
set_option maxHeartbeats 4000000 in
theorem k_X7_latest_5 {V : XVT} {X : XC} {l : Launch} (S : xS V X l RX7 yX7_latest.name cX7_latest 5 wsX7_latest (xRm 2 43 0 0)) (h : XH) (l0 : Nat) (l1 : Int32) (l2 : Int32) (Po : Int32 → Prop) (E : xEnd V cX7_latest (some .int) 0 0 (xRi h Po)) (hO : ∃ fs, h l0 = some (.inr (8, fs))) (s0 : Int32 × Int32) (hw : w_X7_latest_5 (xdc X) h l0 l1 l2 Po s0) : V 0 0 h 5 [(0, .ref l0), (1, .int l1), (2, .int l2), (3, .int s0.1), (4, .int s0.2)] [] := by
  refine xloop_use (P := fun s : Int32 × Int32 => V 0 0 h 5 [(0, .ref l0), (1, .int l1), (2, .int l2), (3, .int s.1), (4, .int s.2)] []) (fun rec5 hr5 s hw => ?_) hw
  obtain ⟨l3, l4⟩ := s
  try dsimp only
  refine xr_iload S 4 dX7_latest_5 rfl ?_
  refine xr_aload_n S 0 dX7_latest_7 rfl ?_
  refine xw_getI S 8 16 dX7_latest_8 in_X7_latest_X7 rfl (by decide) (Or.inl m_X7_latest_1) (Or.inl rfl) hw (fun v1 hw => ?_)
  refine xw_icmp_ge S 69 dX7_latest_11 (by decide) hw (fun c hw => ?_) (fun c hw => ?_)
  · refine xr_iload_n S 3 dX7_latest_69 rfl ?_
    exact E.1 _ _ _ _ _ _ rfl dX7_latest_70 ⟨_, rfl, rfl, hw⟩ (Nat.le_of_ble_eq_true rfl) (Nat.le_of_ble_eq_true rfl)
  · refine xr_aload_n S 0 dX7_latest_14 rfl ?_
    refine xr_iload S 4 dX7_latest_15 rfl ?_
    refine xr_iconst S (0) dX7_latest_17 (by decide) ?_
    obtain ⟨f2, f2x⟩ := id hO
    refine xr_callV S 8 [.int l4, .int 0] [] dX7_latest_18 (k_X7_get l (xdc X) h l0 l4 0 _ hw) gX7_latest_X7_get rfl pd_X7_get ⟨Nat.le_of_ble_eq_true rfl, Nat.le_of_ble_eq_true rfl⟩ rfl (Nat.le_of_ble_eq_true rfl) ⟨Nat.le_of_ble_eq_true rfl, Nat.le_of_ble_eq_true rfl⟩ f2x rfl (fun v9 h5 hv => ?_)
    obtain ⟨r3, rfl, rfl, hw⟩ := hv
    refine xr_iload_n S 1 dX7_latest_21 rfl ?_
    refine xw_icmp_ne S 63 dX7_latest_22 (by decide) hw (fun c hw => ?_) (fun c hw => ?_)
    · exact k_X7_latest_63 S h l0 l1 l2 l3 l4 Po E hO rec5 hr5 hw
    · refine xr_iload_n S 2 dX7_latest_25 rfl ?_
      refine xr_iconst S (-1) dX7_latest_26 (by decide) ?_
      refine xw_icmp_eq S 41 dX7_latest_27 (by decide) hw (fun c hw => ?_) (fun c hw => ?_)
      · exact k_X7_latest_41 S h l0 l1 l2 l3 l4 Po E hO rec5 hr5 hw
      · refine xr_aload_n S 0 dX7_latest_30 rfl ?_
        refine xr_iload S 4 dX7_latest_31 rfl ?_
        refine xr_iconst S (5) dX7_latest_33 (by decide) ?_
        obtain ⟨f14, f14x⟩ := id hO
        refine xr_callV S 8 [.int l4, .int 5] [] dX7_latest_34 (k_X7_get l (xdc X) h l0 l4 5 _ hw) gX7_latest_X7_get rfl pd_X7_get ⟨Nat.le_of_ble_eq_true rfl, Nat.le_of_ble_eq_true rfl⟩ rfl (Nat.le_of_ble_eq_true rfl) ⟨Nat.le_of_ble_eq_true rfl, Nat.le_of_ble_eq_true rfl⟩ f14x rfl (fun v9 h17 hv => ?_)
        obtain ⟨r15, rfl, rfl, hw⟩ := hv
        refine xr_iload_n S 2 dX7_latest_37 rfl ?_
        refine xw_icmp_ne S 63 dX7_latest_38 (by decide) hw (fun c hw => ?_) (fun c hw => ?_)
        · exact k_X7_latest_63 S h l0 l1 l2 l3 l4 Po E hO rec5 hr5 hw
        · exact k_X7_latest_41 S h l0 l1 l2 l3 l4 Po E hO rec5 hr5 hw
def w_X7_latest (dc : Nat × Nat) (h : XH) (l0 : Nat) (l1 : Int32) (l2 : Int32) (Po : Int32 → Prop) : Prop :=
  wO h l0 8 (w_X7_latest_5 dc h l0 l1 l2 Po ((-1), 0))
set_option maxRecDepth 100000 in
set_option maxHeartbeats 4000000 in
theorem k_X7_latest (l : Launch) (dc : Nat × Nat) (h : XH) (l0 : Nat) (l1 : Int32) (l2 : Int32) (Po : Int32 → Prop) (hw : w_X7_latest dc h l0 l1 l2 Po) : xM l dc yX7_latest wsX7_latest 2 43 0 0 [.ref l0, .int l1, .int l2] h (xRi h Po) := by
  refine xM_of [(0, .ref l0), (1, .int l1), (2, .int l2)] (own := RX7) (cc := cX7_latest) (nL := 5) (ret := (some .int)) (by decide +kernel) rfl rfl (Nat.le_of_ble_eq_true rfl) rfl ?_
  intro X V hX S E
  subst hX
  obtain ⟨hO, hw⟩ := hw
  refine xr_iconst S (-1) dX7_latest_0 (by decide) ?_
  refine xr_istore_n S [(3, .int (-1)), (0, .ref l0), (1, .int l1), (2, .int l2)] dX7_latest_1 (by decide) rfl ?_
  refine xr_iconst S (0) dX7_latest_2 (by decide) ?_
  refine xr_istore S [(4, .int 0), (3, .int (-1)), (0, .ref l0), (1, .int l1), (2, .int l2)] dX7_latest_3 (by decide) rfl ?_
  refine xr_sub S [(0, .ref l0), (1, .int l1), (2, .int l2), (3, .int (-1)), (4, .int 0)] [2, 3, 4, 1, 0] rfl ?_
  exact k_X7_latest_5 S h l0 l1 l2 Po E hO ((-1), 0) hw
theorem in_X7_leaves_X7 : ∀ w ∈ wsX70, w ∈ wsX7_leaves := by decide +kernel
theorem m_X7_leaves_1 : Cond.fieldLink RX7 72 "PilotBookModel" "passages" "I" ∈ wsX7_leaves := by decide +kernel
theorem m_X7_leaves_2 : Cond.methodLink RX7 109 Lib.Math.min.name ∈ wsX7_leaves := by decide +kernel
theorem m_X7_leaves_3 : Cond.static Lib.Math.min.name ∈ wsX7_leaves := by decide +kernel
theorem m_X7_leaves_4 : Cond.initialized "java/lang/Math" ∈ wsX7_leaves := by decide +kernel
theorem m_X7_leaves_5 : Cond.code Lib.Math.min.name Lib.Math.min.code 2 (some .int) ∈ wsX7_leaves := by decide +kernel
def w_X7_leaves_60 (dc : Nat × Nat) (h : XH) (l0 : Nat) (l1 : Int32) (l2 : Int32) (l3 : Int32) (Po : Int32 → Prop) (rec6 : Int32 × Int32 → Prop) : Prop :=
  rec6 (l2, (l3 + 1))
set_option maxRecDepth 100000 in
set_option maxHeartbeats 4000000 in
theorem k_X7_leaves_60 {V : XVT} {X : XC} {l : Launch} (S : xS V X l RX7 yX7_leaves.name cX7_leaves 4 wsX7_leaves (xRm 2 43 0 0)) (h : XH) (l0 : Nat) (l1 : Int32) (l2 : Int32) (l3 : Int32) (Po : Int32 → Prop) (E : xEnd V cX7_leaves (some .int) 0 0 (xRi h Po)) (hO : ∃ fs, h l0 = some (.inr (8, fs))) (rec6 : Int32 × Int32 → Prop) (hr6 : ∀ s : Int32 × Int32, rec6 s → V 0 0 h 6 [(0, .ref l0), (1, .int l1), (2, .int s.1), (3, .int s.2)] []) (hw : w_X7_leaves_60 (xdc X) h l0 l1 l2 l3 Po rec6) : V 0 0 h 60 [(0, .ref l0), (1, .int l1), (2, .int l2), (3, .int l3)] [] := by
  refine xr_iinc S 3 ((l3 + 1)) [(3, .int (l3 + 1)), (0, .ref l0), (1, .int l1), (2, .int l2)] dX7_leaves_60 rfl rfl (by decide) rfl ?_
  refine xr_goto S (tgt := 6) dX7_leaves_63 (by decide) ?_
  refine xr_sub S [(0, .ref l0), (1, .int l1), (2, .int l2), (3, .int (l3 + 1))] [1, 2, 3, 0] rfl ?_
  exact hr6 (l2, (l3 + 1)) hw
def w_X7_leaves_6_F (dc : Nat × Nat) (h : XH) (l0 : Nat) (l1 : Int32) (Po : Int32 → Prop) (rec6 : Int32 × Int32 → Prop) : Int32 × Int32 → Prop := fun s => match s with
  | (l2, l3) =>
  wI h l0 8 16 (fun v1 => wIf (v1 ≤ l3) (Po l2) (w_X7_get dc h l0 l3 0 (fun r3 => w_X7_get dc h l0 l1 0 (fun r7 => wIf (r3 = r7) (w_X7_isOut dc h l0 l3 (fun r11 => wIf (r11 = 0) (w_X7_leaves_60 dc h l0 l1 l2 l3 Po rec6) (w_X7_begin dc h l0 l3 (fun r15 => w_X7_end dc h l0 l1 (fun r19 => wIf (r15 < r19) (w_X7_leaves_60 dc h l0 l1 l2 l3 Po rec6) (w_X7_end dc h l0 l3 (fun r23 => w_X7_leaves_60 dc h l0 l1 (if r23 < l2 then r23 else l2) l3 Po rec6))))))) (w_X7_leaves_60 dc h l0 l1 l2 l3 Po rec6)))))
def w_X7_leaves_6 (dc : Nat × Nat) (h : XH) (l0 : Nat) (l1 : Int32) (Po : Int32 → Prop) : Int32 × Int32 → Prop := xloop (w_X7_leaves_6_F dc h l0 l1 Po)
set_option maxRecDepth 100000 in
set_option maxHeartbeats 4000000 in
theorem k_X7_leaves_6 {V : XVT} {X : XC} {l : Launch} (S : xS V X l RX7 yX7_leaves.name cX7_leaves 4 wsX7_leaves (xRm 2 43 0 0)) (h : XH) (l0 : Nat) (l1 : Int32) (Po : Int32 → Prop) (E : xEnd V cX7_leaves (some .int) 0 0 (xRi h Po)) (hO : ∃ fs, h l0 = some (.inr (8, fs))) (s0 : Int32 × Int32) (hw : w_X7_leaves_6 (xdc X) h l0 l1 Po s0) : V 0 0 h 6 [(0, .ref l0), (1, .int l1), (2, .int s0.1), (3, .int s0.2)] [] := by
  refine xloop_use (P := fun s : Int32 × Int32 => V 0 0 h 6 [(0, .ref l0), (1, .int l1), (2, .int s.1), (3, .int s.2)] []) (fun rec6 hr6 s hw => ?_) hw
  obtain ⟨l2, l3⟩ := s
  try dsimp only
  refine xr_iload_n S 3 dX7_leaves_6 rfl ?_
  refine xr_aload_n S 0 dX7_leaves_7 rfl ?_
  refine xw_getI S 8 16 dX7_leaves_8 in_X7_leaves_X7 rfl (by decide) (Or.inl m_X7_leaves_1) (Or.inl rfl) hw (fun v1 hw => ?_)
  refine xw_icmp_ge S 66 dX7_leaves_11 (by decide) hw (fun c hw => ?_) (fun c hw => ?_)
  · refine xr_iload_n S 2 dX7_leaves_66 rfl ?_
    exact E.1 _ _ _ _ _ _ rfl dX7_leaves_67 ⟨_, rfl, rfl, hw⟩ (Nat.le_of_ble_eq_true rfl) (Nat.le_of_ble_eq_true rfl)
  · refine xr_aload_n S 0 dX7_leaves_14 rfl ?_
    refine xr_iload_n S 3 dX7_leaves_15 rfl ?_
    refine xr_iconst S (0) dX7_leaves_16 (by decide) ?_
    obtain ⟨f2, f2x⟩ := id hO
    refine xr_callV S 8 [.int l3, .int 0] [] dX7_leaves_17 (k_X7_get l (xdc X) h l0 l3 0 _ hw) gX7_leaves_X7_get rfl pd_X7_get ⟨Nat.le_of_ble_eq_true rfl, Nat.le_of_ble_eq_true rfl⟩ rfl (Nat.le_of_ble_eq_true rfl) ⟨Nat.le_of_ble_eq_true rfl, Nat.le_of_ble_eq_true rfl⟩ f2x rfl (fun v9 h5 hv => ?_)
    obtain ⟨r3, rfl, rfl, hw⟩ := hv
    refine xr_aload_n S 0 dX7_leaves_20 rfl ?_
    refine xr_iload_n S 1 dX7_leaves_21 rfl ?_
    refine xr_iconst S (0) dX7_leaves_22 (by decide) ?_
    obtain ⟨f6, f6x⟩ := id hO
    refine xr_callV S 8 [.int l1, .int 0] [.int r3] dX7_leaves_23 (k_X7_get l (xdc X) h l0 l1 0 _ hw) gX7_leaves_X7_get rfl pd_X7_get ⟨Nat.le_of_ble_eq_true rfl, Nat.le_of_ble_eq_true rfl⟩ rfl (Nat.le_of_ble_eq_true rfl) ⟨Nat.le_of_ble_eq_true rfl, Nat.le_of_ble_eq_true rfl⟩ f6x rfl (fun v9 h9 hv => ?_)
    obtain ⟨r7, rfl, rfl, hw⟩ := hv
    refine xw_icmp_ne S 60 dX7_leaves_26 (by decide) hw (fun c hw => ?_) (fun c hw => ?_)
    · exact k_X7_leaves_60 S h l0 l1 l2 l3 Po E hO rec6 hr6 hw
    · refine xr_aload_n S 0 dX7_leaves_29 rfl ?_
      refine xr_iload_n S 3 dX7_leaves_30 rfl ?_
      obtain ⟨f10, f10x⟩ := id hO
      refine xr_callV S 8 [.int l3] [] dX7_leaves_31 (k_X7_isOut l (xdc X) h l0 l3 _ hw) gX7_leaves_X7_isOut rfl pd_X7_isOut ⟨Nat.le_of_ble_eq_true rfl, Nat.le_of_ble_eq_true rfl⟩ rfl (Nat.le_of_ble_eq_true rfl) ⟨Nat.le_of_ble_eq_true rfl, Nat.le_of_ble_eq_true rfl⟩ f10x rfl (fun v9 h13 hv => ?_)
      obtain ⟨r11, rfl, rfl, hw⟩ := hv
      refine xw_if_eq S 60 dX7_leaves_34 (by decide) hw (fun c hw => ?_) (fun c hw => ?_)
      · exact k_X7_leaves_60 S h l0 l1 l2 l3 Po E hO rec6 hr6 hw
      · refine xr_aload_n S 0 dX7_leaves_37 rfl ?_
        refine xr_iload_n S 3 dX7_leaves_38 rfl ?_
        obtain ⟨f14, f14x⟩ := id hO
        refine xr_callV S 8 [.int l3] [] dX7_leaves_39 (k_X7_begin l (xdc X) h l0 l3 _ hw) gX7_leaves_X7_begin rfl pd_X7_begin ⟨Nat.le_of_ble_eq_true rfl, Nat.le_of_ble_eq_true rfl⟩ rfl (Nat.le_of_ble_eq_true rfl) ⟨Nat.le_of_ble_eq_true rfl, Nat.le_of_ble_eq_true rfl⟩ f14x rfl (fun v9 h17 hv => ?_)
        obtain ⟨r15, rfl, rfl, hw⟩ := hv
        refine xr_aload_n S 0 dX7_leaves_42 rfl ?_
        refine xr_iload_n S 1 dX7_leaves_43 rfl ?_
        obtain ⟨f18, f18x⟩ := id hO
        refine xr_callV S 8 [.int l1] [.int r15] dX7_leaves_44 (k_X7_end l (xdc X) h l0 l1 _ hw) gX7_leaves_X7_end rfl pd_X7_end ⟨Nat.le_of_ble_eq_true rfl, Nat.le_of_ble_eq_true rfl⟩ rfl (Nat.le_of_ble_eq_true rfl) ⟨Nat.le_of_ble_eq_true rfl, Nat.le_of_ble_eq_true rfl⟩ f18x rfl (fun v9 h21 hv => ?_)
        obtain ⟨r19, rfl, rfl, hw⟩ := hv
        refine xw_icmp_lt S 60 dX7_leaves_47 (by decide) hw (fun c hw => ?_) (fun c hw => ?_)
        · exact k_X7_leaves_60 S h l0 l1 l2 l3 Po E hO rec6 hr6 hw
        · refine xr_iload_n S 2 dX7_leaves_50 rfl ?_
          refine xr_aload_n S 0 dX7_leaves_51 rfl ?_
          refine xr_iload_n S 3 dX7_leaves_52 rfl ?_
          obtain ⟨f22, f22x⟩ := id hO
          refine xr_callV S 8 [.int l3] [.int l2] dX7_leaves_53 (k_X7_end l (xdc X) h l0 l3 _ hw) gX7_leaves_X7_end rfl pd_X7_end ⟨Nat.le_of_ble_eq_true rfl, Nat.le_of_ble_eq_true rfl⟩ rfl (Nat.le_of_ble_eq_true rfl) ⟨Nat.le_of_ble_eq_true rfl, Nat.le_of_ble_eq_true rfl⟩ f22x rfl (fun v9 h25 hv => ?_)
          obtain ⟨r23, rfl, rfl, hw⟩ := hv
          refine xr_mmin S dX7_leaves_56 m_X7_leaves_2 m_X7_leaves_3 m_X7_leaves_4 m_X7_leaves_5 (Nat.le_of_ble_eq_true rfl) (Nat.le_of_ble_eq_true rfl) ⟨Nat.le_of_ble_eq_true rfl, Nat.le_of_ble_eq_true rfl⟩ ?_
          refine xr_istore_n S [(2, .int (if r23 < l2 then r23 else l2)), (0, .ref l0), (1, .int l1), (3, .int l3)] dX7_leaves_59 (by decide) rfl ?_
          refine xr_sub S [(0, .ref l0), (1, .int l1), (2, .int (if r23 < l2 then r23 else l2)), (3, .int l3)] [1, 2, 0, 3] rfl ?_
          exact k_X7_leaves_60 S h l0 l1 (if r23 < l2 then r23 else l2) l3 Po E hO rec6 hr6 hw
def w_X7_leaves (dc : Nat × Nat) (h : XH) (l0 : Nat) (l1 : Int32) (Po : Int32 → Prop) : Prop :=
  wO h l0 8 (w_X7_leaves_6 dc h l0 l1 Po (2880, 0))
set_option maxRecDepth 100000 in
set_option maxHeartbeats 4000000 in
theorem k_X7_leaves (l : Launch) (dc : Nat × Nat) (h : XH) (l0 : Nat) (l1 : Int32) (Po : Int32 → Prop) (hw : w_X7_leaves dc h l0 l1 Po) : xM l dc yX7_leaves wsX7_leaves 2 43 0 0 [.ref l0, .int l1] h (xRi h Po) := by
  refine xM_of [(0, .ref l0), (1, .int l1)] (own := RX7) (cc := cX7_leaves) (nL := 4) (ret := (some .int)) (by decide +kernel) rfl rfl (Nat.le_of_ble_eq_true rfl) rfl ?_
  intro X V hX S E
  subst hX
  obtain ⟨hO, hw⟩ := hw
  refine xr_sipush S (2880) dX7_leaves_0 (by decide) ?_
  refine xr_istore_n S [(2, .int 2880), (0, .ref l0), (1, .int l1)] dX7_leaves_3 (by decide) rfl ?_
  refine xr_iconst S (0) dX7_leaves_4 (by decide) ?_
  refine xr_istore_n S [(3, .int 0), (2, .int 2880), (0, .ref l0), (1, .int l1)] dX7_leaves_5 (by decide) rfl ?_
  refine xr_sub S [(0, .ref l0), (1, .int l1), (2, .int 2880), (3, .int 0)] [2, 3, 1, 0] rfl ?_
  exact k_X7_leaves_6 S h l0 l1 Po E hO (2880, 0) hw
theorem in_X7_least_X7 : ∀ w ∈ wsX70, w ∈ wsX7_least := by decide +kernel
theorem m_X7_least_1 : Cond.fieldLink RX7 48 "PilotBookModel" "thrown" "I" ∈ wsX7_least := by decide +kernel
theorem m_X7_least_2 : Cond.constant RX7 122 2147483647 ∈ wsX7_least := by decide +kernel
theorem m_X7_least_3 : Cond.fieldLink RX7 26 "PilotBookModel" "berthDepths" "[I" ∈ wsX7_least := by decide +kernel
theorem m_X7_least_4 : Cond.fieldLink RX7 32 "PilotBookModel" "drafts" "[I" ∈ wsX7_least := by decide +kernel
theorem m_X7_least_5 : Cond.methodLink RX7 109 Lib.Math.min.name ∈ wsX7_least := by decide +kernel
theorem m_X7_least_6 : Cond.static Lib.Math.min.name ∈ wsX7_least := by decide +kernel
theorem m_X7_least_7 : Cond.initialized "java/lang/Math" ∈ wsX7_least := by decide +kernel
theorem m_X7_least_8 : Cond.code Lib.Math.min.name Lib.Math.min.code 2 (some .int) ∈ wsX7_least := by decide +kernel
def w_X7_least_74_F (dc : Nat × Nat) (h : XH) (l0 : Nat) (l1 : Int32) (l2 : Int32) (l3 : Int32) (Po : Int32 → XH → Prop) (rec74 : Int32 × Int32 → Prop) : Int32 × Int32 → Prop := fun s => match s with
  | (l4, l5) =>
  wIf (l3 < l5) (Po l4 h) (wR h l0 8 8 (fun a24 => wO h l0 8 ( w_X7_get dc h l0 l2 4 (fun r27 => wAI h 2 a24 r27 (fun v30 => w_X7_heightAt dc h l0 l5 (fun r32 => wR h l0 8 11 (fun a35 => wAI h 2 a35 l1 (fun v36 => (rec74 ((if ((v30 + r32) - v36) < l4 then ((v30 + r32) - v36) else l4), (l5 + 1)))))))))))
def w_X7_least_74 (dc : Nat × Nat) (h : XH) (l0 : Nat) (l1 : Int32) (l2 : Int32) (l3 : Int32) (Po : Int32 → XH → Prop) : Int32 × Int32 → Prop := xloop (w_X7_least_74_F dc h l0 l1 l2 l3 Po)
set_option maxRecDepth 100000 in
set_option maxHeartbeats 4000000 in
theorem k_X7_least_74 {V : XVT} {X : XC} {l : Launch} (S : xS V X l RX7 yX7_least.name cX7_least 6 wsX7_least (xRm 3 67 0 0)) (h : XH) (l0 : Nat) (l1 : Int32) (l2 : Int32) (l3 : Int32) (Po : Int32 → XH → Prop) (E : xEnd V cX7_least (some .int) 0 0 (xPi Po)) (s0 : Int32 × Int32) (hw : w_X7_least_74 (xdc X) h l0 l1 l2 l3 Po s0) : V 0 0 h 74 [(0, .ref l0), (1, .int l1), (2, .int l2), (3, .int l3), (4, .int s0.1), (5, .int s0.2)] [] := by
  refine xloop_use (P := fun s : Int32 × Int32 => V 0 0 h 74 [(0, .ref l0), (1, .int l1), (2, .int l2), (3, .int l3), (4, .int s.1), (5, .int s.2)] []) (fun rec74 hr74 s hw => ?_) hw
  obtain ⟨l4, l5⟩ := s
  try dsimp only
  refine xr_iload S 5 dX7_least_74 rfl ?_
  refine xr_iload_n S 3 dX7_least_76 rfl ?_
  refine xw_icmp_gt S 118 dX7_least_77 (by decide) hw (fun c hw => ?_) (fun c hw => ?_)
  · refine xr_iload S 4 dX7_least_118 rfl ?_
    exact E.1 _ _ _ _ _ _ rfl dX7_least_120 ⟨_, rfl, hw⟩ (Nat.le_of_ble_eq_true rfl) (Nat.le_of_ble_eq_true rfl)
  · refine xr_iload S 4 dX7_least_80 rfl ?_
    refine xr_aload_n S 0 dX7_least_82 rfl ?_
    refine xw_getR S 8 8 dX7_least_83 in_X7_least_X7 rfl (by decide) (Or.inl m_X7_least_3) (Or.inl rfl) hw (fun a24 hw => ?_)
    refine xr_aload_n S 0 dX7_least_86 rfl ?_
    refine xr_iload_n S 2 dX7_least_87 rfl ?_
    refine xr_iconst S (4) dX7_least_88 (by decide) ?_
    obtain ⟨e25, hw⟩ := hw
    obtain ⟨f26, f26x⟩ := id e25
    refine xr_callV S 8 [.int l2, .int 4] [.ref a24, .int l4] dX7_least_89 (k_X7_get l (xdc X) h l0 l2 4 _ hw) gX7_least_X7_get rfl pd_X7_get ⟨Nat.le_of_ble_eq_true rfl, Nat.le_of_ble_eq_true rfl⟩ rfl (Nat.le_of_ble_eq_true rfl) ⟨Nat.le_of_ble_eq_true rfl, Nat.le_of_ble_eq_true rfl⟩ f26x rfl (fun v9 h29 hv => ?_)
    obtain ⟨r27, rfl, rfl, hw⟩ := hv
    refine xw_iald S 2 dX7_least_92 (Or.inr rfl) hw (fun v30 hw => ?_)
    refine xr_aload_n S 0 dX7_least_93 rfl ?_
    refine xr_iload S 5 dX7_least_94 rfl ?_
    obtain ⟨f31, f31x⟩ := id e25
    refine xr_callV S 8 [.int l5] [.int v30, .int l4] dX7_least_96 (k_X7_heightAt l (xdc X) h l0 l5 _ hw) gX7_least_X7_heightAt rfl pd_X7_heightAt ⟨Nat.le_of_ble_eq_true rfl, Nat.le_of_ble_eq_true rfl⟩ rfl (Nat.le_of_ble_eq_true rfl) ⟨Nat.le_of_ble_eq_true rfl, Nat.le_of_ble_eq_true rfl⟩ f31x rfl (fun v9 h34 hv => ?_)
    obtain ⟨r32, rfl, rfl, hw⟩ := hv
    refine xr_iadd S dX7_least_99 ?_
    refine xr_aload_n S 0 dX7_least_100 rfl ?_
    refine xw_getR S 8 11 dX7_least_101 in_X7_least_X7 rfl (by decide) (Or.inl m_X7_least_4) (Or.inl rfl) hw (fun a35 hw => ?_)
    refine xr_iload_n S 1 dX7_least_104 rfl ?_
    refine xw_iald S 2 dX7_least_105 (Or.inr rfl) hw (fun v36 hw => ?_)
    refine xr_isub S dX7_least_106 ?_
    refine xr_mmin S dX7_least_107 m_X7_least_5 m_X7_least_6 m_X7_least_7 m_X7_least_8 (Nat.le_of_ble_eq_true rfl) (Nat.le_of_ble_eq_true rfl) ⟨Nat.le_of_ble_eq_true rfl, Nat.le_of_ble_eq_true rfl⟩ ?_
    refine xr_istore S [(4, .int (if ((v30 + r32) - v36) < l4 then ((v30 + r32) - v36) else l4)), (0, .ref l0), (1, .int l1), (2, .int l2), (3, .int l3), (5, .int l5)] dX7_least_110 (by decide) rfl ?_
    refine xr_iinc S 5 ((l5 + 1)) [(5, .int (l5 + 1)), (4, .int (if ((v30 + r32) - v36) < l4 then ((v30 + r32) - v36) else l4)), (0, .ref l0), (1, .int l1), (2, .int l2), (3, .int l3)] dX7_least_112 rfl rfl (by decide) rfl ?_
    refine xr_goto S (tgt := 74) dX7_least_115 (by decide) ?_
    refine xr_sub S [(0, .ref l0), (1, .int l1), (2, .int l2), (3, .int l3), (4, .int (if ((v30 + r32) - v36) < l4 then ((v30 + r32) - v36) else l4)), (5, .int (l5 + 1))] [2, 3, 4, 5, 1, 0] rfl ?_
    exact hr74 ((if ((v30 + r32) - v36) < l4 then ((v30 + r32) - v36) else l4), (l5 + 1)) hw
def w_X7_least_62 (dc : Nat × Nat) (h : XH) (l0 : Nat) (l1 : Int32) (l2 : Int32) (t0 : Int32) (Po : Int32 → XH → Prop) : Prop :=
  wO h l0 8 ( w_X7_end dc h l0 l2 (fun r21 => w_X7_least_74 dc h l0 l1 l2 t0 Po (2147483647, r21)))
set_option maxRecDepth 100000 in
set_option maxHeartbeats 4000000 in
theorem k_X7_least_62 {V : XVT} {X : XC} {l : Launch} (S : xS V X l RX7 yX7_least.name cX7_least 6 wsX7_least (xRm 3 67 0 0)) (h : XH) (l0 : Nat) (l1 : Int32) (l2 : Int32) (t0 : Int32) (Po : Int32 → XH → Prop) (E : xEnd V cX7_least (some .int) 0 0 (xPi Po)) (hw : w_X7_least_62 (xdc X) h l0 l1 l2 t0 Po) : V 0 0 h 62 [(0, .ref l0), (1, .int l1), (2, .int l2)] [.int t0] := by
  refine xr_istore_n S [(3, .int t0), (0, .ref l0), (1, .int l1), (2, .int l2)] dX7_least_62 (by decide) rfl ?_
  refine xr_ldc S 2147483647 dX7_least_63 m_X7_least_2 ?_
  refine xr_istore S [(4, .int 2147483647), (3, .int t0), (0, .ref l0), (1, .int l1), (2, .int l2)] dX7_least_65 (by decide) rfl ?_
  refine xr_aload_n S 2 dX7_least_67 rfl ?_
  refine xr_iload_n S 4 dX7_least_68 rfl ?_
  obtain ⟨e19, hw⟩ := hw
  obtain ⟨f20, f20x⟩ := id e19
  refine xr_callV S 8 [.int l2] [] dX7_least_69 (k_X7_end l (xdc X) h l0 l2 _ hw) gX7_least_X7_end rfl pd_X7_end ⟨Nat.le_of_ble_eq_true rfl, Nat.le_of_ble_eq_true rfl⟩ rfl (Nat.le_of_ble_eq_true rfl) ⟨Nat.le_of_ble_eq_true rfl, Nat.le_of_ble_eq_true rfl⟩ f20x rfl (fun v9 h23 hv => ?_)
  obtain ⟨r21, rfl, rfl, hw⟩ := hv
  refine xr_istore S [(5, .int r21), (4, .int 2147483647), (3, .int t0), (0, .ref l0), (1, .int l1), (2, .int l2)] dX7_least_72 (by decide) rfl ?_
  refine xr_sub S [(0, .ref l0), (1, .int l1), (2, .int l2), (3, .int t0), (4, .int 2147483647), (5, .int r21)] [3, 4, 5, 2, 1, 0] rfl ?_
  exact k_X7_least_74 S h l0 l1 l2 t0 Po E (2147483647, r21) hw
def w_X7_least (dc : Nat × Nat) (h : XH) (l0 : Nat) (l1 : Int32) (Po : Int32 → XH → Prop) : Prop :=
  wP h l0 8 0 (.int 0) (fun h1 => wO h1 l0 8 ( w_X7_isShip dc h1 l0 l1 (fun r4 => wIf (r4 = 0) (w_X7_fail dc h1 l0 1 (fun r42 h43 => Po r42 h43)) (w_X7_latest dc h1 l0 l1 0 (fun r8 => wIf (r8 = (-1)) (w_X7_fail dc h1 l0 2 (fun r38 h39 => Po r38 h39)) (w_X7_leaves dc h1 l0 r8 (fun r12 => wIf (r12 ≤ 2879) (w_X7_leaves dc h1 l0 r8 (fun r16 => w_X7_least_62 dc h1 l0 l1 r8 (r16 - 60) Po)) (w_X7_least_62 dc h1 l0 l1 r8 2879 Po))))))))
set_option maxRecDepth 100000 in
set_option maxHeartbeats 4000000 in
theorem k_X7_least (l : Launch) (dc : Nat × Nat) (h : XH) (l0 : Nat) (l1 : Int32) (Po : Int32 → XH → Prop) (hw : w_X7_least dc h l0 l1 Po) : xM l dc yX7_least wsX7_least 3 67 0 0 [.ref l0, .int l1] h (xPi Po) := by
  refine xM_of [(0, .ref l0), (1, .int l1)] (own := RX7) (cc := cX7_least) (nL := 6) (ret := (some .int)) (by decide +kernel) rfl rfl (Nat.le_of_ble_eq_true rfl) rfl ?_
  intro X V hX S E
  subst hX
  refine xr_aload_n S 0 dX7_least_0 rfl ?_
  refine xr_iconst S (0) dX7_least_1 (by decide) ?_
  refine xw_put S 8 0 tyX7 dX7_least_2 in_X7_least_X7 rfl (by decide) (Or.inl m_X7_least_1) (Or.inl rfl) tyX7_ok nmX7 rfl rfl ⟨rfl, rfl⟩ hw (fun h1 hw => ?_)
  refine xr_aload_n S 0 dX7_least_5 rfl ?_
  refine xr_iload_n S 1 dX7_least_6 rfl ?_
  obtain ⟨e2, hw⟩ := hw
  obtain ⟨f3, f3x⟩ := id e2
  refine xr_callV S 8 [.int l1] [] dX7_least_7 (k_X7_isShip l (xdc X) h1 l0 l1 _ hw) gX7_least_X7_isShip rfl pd_X7_isShip ⟨Nat.le_of_ble_eq_true rfl, Nat.le_of_ble_eq_true rfl⟩ rfl (Nat.le_of_ble_eq_true rfl) ⟨Nat.le_of_ble_eq_true rfl, Nat.le_of_ble_eq_true rfl⟩ f3x rfl (fun v9 h6 hv => ?_)
  obtain ⟨r4, rfl, rfl, hw⟩ := hv
  refine xw_if_ne S 19 dX7_least_10 (by decide) hw (fun c hw => ?_) (fun c hw => ?_)
  · refine xr_aload_n S 0 dX7_least_19 rfl ?_
    refine xr_iload_n S 1 dX7_least_20 rfl ?_
    refine xr_iconst S (0) dX7_least_21 (by decide) ?_
    obtain ⟨f7, f7x⟩ := id e2
    refine xr_callV S 8 [.int l1, .int 0] [] dX7_least_22 (k_X7_latest l (xdc X) h1 l0 l1 0 _ hw) gX7_least_X7_latest rfl pd_X7_latest ⟨Nat.le_of_ble_eq_true rfl, Nat.le_of_ble_eq_true rfl⟩ rfl (Nat.le_of_ble_eq_true rfl) ⟨Nat.le_of_ble_eq_true rfl, Nat.le_of_ble_eq_true rfl⟩ f7x rfl (fun v9 h10 hv => ?_)
    obtain ⟨r8, rfl, rfl, hw⟩ := hv
    refine xr_istore_n S [(2, .int r8), (0, .ref l0), (1, .int l1)] dX7_least_25 (by decide) rfl ?_
    refine xr_iload_n S 0 dX7_least_26 rfl ?_
    refine xr_iconst S (-1) dX7_least_27 (by decide) ?_
    refine xw_icmp_ne S 37 dX7_least_28 (by decide) hw (fun c hw => ?_) (fun c hw => ?_)
    · refine xr_aload_n S 1 dX7_least_37 rfl ?_
      refine xr_iload_n S 0 dX7_least_38 rfl ?_
      obtain ⟨f11, f11x⟩ := id e2
      refine xr_callV S 8 [.int r8] [] dX7_least_39 (k_X7_leaves l (xdc X) h1 l0 r8 _ hw) gX7_least_X7_leaves rfl pd_X7_leaves ⟨Nat.le_of_ble_eq_true rfl, Nat.le_of_ble_eq_true rfl⟩ rfl (Nat.le_of_ble_eq_true rfl) ⟨Nat.le_of_ble_eq_true rfl, Nat.le_of_ble_eq_true rfl⟩ f11x rfl (fun v9 h14 hv => ?_)
      obtain ⟨r12, rfl, rfl, hw⟩ := hv
      refine xr_sipush S (2879) dX7_least_42 (by decide) ?_
      refine xw_icmp_le S 54 dX7_least_45 (by decide) hw (fun c hw => ?_) (fun c hw => ?_)
      · refine xr_aload_n S 1 dX7_least_54 rfl ?_
        refine xr_iload_n S 0 dX7_least_55 rfl ?_
        obtain ⟨f15, f15x⟩ := id e2
        refine xr_callV S 8 [.int r8] [] dX7_least_56 (k_X7_leaves l (xdc X) h1 l0 r8 _ hw) gX7_least_X7_leaves rfl pd_X7_leaves ⟨Nat.le_of_ble_eq_true rfl, Nat.le_of_ble_eq_true rfl⟩ rfl (Nat.le_of_ble_eq_true rfl) ⟨Nat.le_of_ble_eq_true rfl, Nat.le_of_ble_eq_true rfl⟩ f15x rfl (fun v9 h18 hv => ?_)
        obtain ⟨r16, rfl, rfl, hw⟩ := hv
        refine xr_bipush S (60) dX7_least_59 (by decide) ?_
        refine xr_isub S dX7_least_61 ?_
        refine xr_sub S [(0, .ref l0), (1, .int l1), (2, .int r8)] [1, 2, 0] rfl ?_
        exact k_X7_least_62 S h1 l0 l1 r8 (r16 - 60) Po E hw
      · refine xr_sipush S (2879) dX7_least_48 (by decide) ?_
        refine xr_goto S (tgt := 62) dX7_least_51 (by decide) ?_
        refine xr_sub S [(0, .ref l0), (1, .int l1), (2, .int r8)] [1, 2, 0] rfl ?_
        exact k_X7_least_62 S h1 l0 l1 r8 2879 Po E hw
    · refine xr_aload_n S 1 dX7_least_31 rfl ?_
      refine xr_iconst S (2) dX7_least_32 (by decide) ?_
      obtain ⟨f37, f37x⟩ := id e2
      refine xr_callV S 8 [.int 2] [] dX7_least_33 (k_X7_fail l (xdc X) h1 l0 2 _ hw) gX7_least_X7_fail rfl pd_X7_fail ⟨Nat.le_of_ble_eq_true rfl, Nat.le_of_ble_eq_true rfl⟩ rfl (Nat.le_of_ble_eq_true rfl) ⟨Nat.le_of_ble_eq_true rfl, Nat.le_of_ble_eq_true rfl⟩ f37x rfl (fun v9 h39 hv => ?_)
      obtain ⟨r38, rfl, hw⟩ := hv
      exact E.1 _ _ _ _ _ _ rfl dX7_least_36 ⟨_, rfl, hw⟩ (Nat.le_of_ble_eq_true rfl) (Nat.le_of_ble_eq_true rfl)
  · refine xr_aload_n S 0 dX7_least_13 rfl ?_
    refine xr_iconst S (1) dX7_least_14 (by decide) ?_
    obtain ⟨f41, f41x⟩ := id e2
    refine xr_callV S 8 [.int 1] [] dX7_least_15 (k_X7_fail l (xdc X) h1 l0 1 _ hw) gX7_least_X7_fail rfl pd_X7_fail ⟨Nat.le_of_ble_eq_true rfl, Nat.le_of_ble_eq_true rfl⟩ rfl (Nat.le_of_ble_eq_true rfl) ⟨Nat.le_of_ble_eq_true rfl, Nat.le_of_ble_eq_true rfl⟩ f41x rfl (fun v9 h43 hv => ?_)
    obtain ⟨r42, rfl, hw⟩ := hv
    exact E.1 _ _ _ _ _ _ rfl dX7_least_18 ⟨_, rfl, hw⟩ (Nat.le_of_ble_eq_true rfl) (Nat.le_of_ble_eq_true rfl)
def w_X7_tugsFor (dc : Nat × Nat) (h : XH) (l0 : Int32) (Po : Int32 → Prop) : Prop :=
  wIf (100 ≤ l0) (wIf (160 ≤ l0) (wIf (220 ≤ l0) (Po 3) (Po 2)) (Po 1)) (Po 0)
set_option maxRecDepth 100000 in
set_option maxHeartbeats 4000000 in
theorem k_X7_tugsFor (l : Launch) (dc : Nat × Nat) (h : XH) (l0 : Int32) (Po : Int32 → Prop) (hw : w_X7_tugsFor dc h l0 Po) : xM l dc yX7_tugsFor wsX7_tugsFor 0 0 0 0 [.int l0] h (xRi h Po) := by
  refine xM_of [(0, .int l0)] (own := RX7) (cc := cX7_tugsFor) (nL := 1) (ret := (some .int)) (by decide +kernel) rfl rfl (Nat.le_of_ble_eq_true rfl) rfl ?_
  intro X V hX S E
  subst hX
  refine xr_iload_n S 0 dX7_tugsFor_0 rfl ?_
  refine xr_bipush S (100) dX7_tugsFor_1 (by decide) ?_
  refine xw_icmp_ge S 10 dX7_tugsFor_3 (by decide) hw (fun c hw => ?_) (fun c hw => ?_)
  · refine xr_iload_n S 0 dX7_tugsFor_10 rfl ?_
    refine xr_sipush S (160) dX7_tugsFor_11 (by decide) ?_
    refine xw_icmp_ge S 21 dX7_tugsFor_14 (by decide) hw (fun c hw => ?_) (fun c hw => ?_)
    · refine xr_iload_n S 0 dX7_tugsFor_21 rfl ?_
      refine xr_sipush S (220) dX7_tugsFor_22 (by decide) ?_
      refine xw_icmp_ge S 32 dX7_tugsFor_25 (by decide) hw (fun c hw => ?_) (fun c hw => ?_)
      · refine xr_iconst S (3) dX7_tugsFor_32 (by decide) ?_
        exact E.1 _ _ _ _ _ _ rfl dX7_tugsFor_33 ⟨_, rfl, rfl, hw⟩ (Nat.le_of_ble_eq_true rfl) (Nat.le_of_ble_eq_true rfl)
      · refine xr_iconst S (2) dX7_tugsFor_28 (by decide) ?_
        refine xr_goto S (tgt := 33) dX7_tugsFor_29 (by decide) ?_
        exact E.1 _ _ _ _ _ _ rfl dX7_tugsFor_33 ⟨_, rfl, rfl, hw⟩ (Nat.le_of_ble_eq_true rfl) (Nat.le_of_ble_eq_true rfl)
    · refine xr_iconst S (1) dX7_tugsFor_17 (by decide) ?_
      refine xr_goto S (tgt := 33) dX7_tugsFor_18 (by decide) ?_
      exact E.1 _ _ _ _ _ _ rfl dX7_tugsFor_33 ⟨_, rfl, rfl, hw⟩ (Nat.le_of_ble_eq_true rfl) (Nat.le_of_ble_eq_true rfl)
  · refine xr_iconst S (0) dX7_tugsFor_6 (by decide) ?_
    refine xr_goto S (tgt := 33) dX7_tugsFor_7 (by decide) ?_
    exact E.1 _ _ _ _ _ _ rfl dX7_tugsFor_33 ⟨_, rfl, rfl, hw⟩ (Nat.le_of_ble_eq_true rfl) (Nat.le_of_ble_eq_true rfl)
theorem in_X7_tugsAt_X7 : ∀ w ∈ wsX70, w ∈ wsX7_tugsAt := by decide +kernel
theorem m_X7_tugsAt_1 : Cond.fieldLink RX7 72 "PilotBookModel" "passages" "I" ∈ wsX7_tugsAt := by decide +kernel
def w_X7_tugsAt_59 (dc : Nat × Nat) (h : XH) (l0 : Nat) (l1 : Int32) (l3 : Int32) (t0 : Int32) (t1 : Int32) (Po : Int32 → Prop) (rec4 : Int32 × Int32 → Prop) : Prop :=
  rec4 ((t0 + t1), (l3 + 1))
set_option maxRecDepth 100000 in
set_option maxHeartbeats 4000000 in
theorem k_X7_tugsAt_59 {V : XVT} {X : XC} {l : Launch} (S : xS V X l RX7 yX7_tugsAt.name cX7_tugsAt 5 wsX7_tugsAt (xRm 2 43 0 0)) (h : XH) (l0 : Nat) (l1 : Int32) (l3 : Int32) (t0 : Int32) (t1 : Int32) (Po : Int32 → Prop) (E : xEnd V cX7_tugsAt (some .int) 0 0 (xRi h Po)) (hO : ∃ fs, h l0 = some (.inr (8, fs))) (rec4 : Int32 × Int32 → Prop) (hr4 : ∀ s : Int32 × Int32, rec4 s → V 0 0 h 4 [(0, .ref l0), (1, .int l1), (2, .int s.1), (3, .int s.2)] []) (hw : w_X7_tugsAt_59 (xdc X) h l0 l1 l3 t0 t1 Po rec4) : V 0 0 h 59 [(0, .ref l0), (1, .int l1), (3, .int l3)] [.int t1, .int t0] := by
  refine xr_iadd S dX7_tugsAt_59 ?_
  refine xr_istore_n S [(2, .int (t0 + t1)), (0, .ref l0), (1, .int l1), (3, .int l3)] dX7_tugsAt_60 (by decide) rfl ?_
  refine xr_iinc S 3 ((l3 + 1)) [(3, .int (l3 + 1)), (2, .int (t0 + t1)), (0, .ref l0), (1, .int l1)] dX7_tugsAt_61 rfl rfl (by decide) rfl ?_
  refine xr_goto S (tgt := 4) dX7_tugsAt_64 (by decide) ?_
  refine xr_sub S [(0, .ref l0), (1, .int l1), (2, .int (t0 + t1)), (3, .int (l3 + 1))] [2, 3, 1, 0] rfl ?_
  exact hr4 ((t0 + t1), (l3 + 1)) hw
def w_X7_tugsAt_31 (dc : Nat × Nat) (h : XH) (l0 : Nat) (l1 : Int32) (l2 : Int32) (l3 : Int32) (t0 : Int32) (t1 : Int32) (Po : Int32 → Prop) (rec4 : Int32 × Int32 → Prop) : Prop :=
  w_X7_isIn dc h l1 (t0 + t1) ((t0 + t1) + 39) (fun r10 => wIf (r10 = 0) (w_X7_tugsAt_59 dc h l0 l1 l3 l2 0 Po rec4) (w_X7_get dc h l0 l3 3 (fun r14 => w_X7_tugsAt_59 dc h l0 l1 l3 l2 r14 Po rec4)))
set_option maxRecDepth 100000 in
set_option maxHeartbeats 4000000 in
theorem k_X7_tugsAt_31 {V : XVT} {X : XC} {l : Launch} (S : xS V X l RX7 yX7_tugsAt.name cX7_tugsAt 5 wsX7_tugsAt (xRm 2 43 0 0)) (h : XH) (l0 : Nat) (l1 : Int32) (l2 : Int32) (l3 : Int32) (t0 : Int32) (t1 : Int32) (Po : Int32 → Prop) (E : xEnd V cX7_tugsAt (some .int) 0 0 (xRi h Po)) (hO : ∃ fs, h l0 = some (.inr (8, fs))) (rec4 : Int32 × Int32 → Prop) (hr4 : ∀ s : Int32 × Int32, rec4 s → V 0 0 h 4 [(0, .ref l0), (1, .int l1), (2, .int s.1), (3, .int s.2)] []) (hw : w_X7_tugsAt_31 (xdc X) h l0 l1 l2 l3 t0 t1 Po rec4) : V 0 0 h 31 [(0, .ref l0), (1, .int l1), (2, .int l2), (3, .int l3)] [.int t1, .int t0] := by
  refine xr_iadd S dX7_tugsAt_31 ?_
  refine xr_istore S [(4, .int (t0 + t1)), (0, .ref l0), (1, .int l1), (2, .int l2), (3, .int l3)] dX7_tugsAt_32 (by decide) rfl ?_
  refine xr_iload_n S 3 dX7_tugsAt_34 rfl ?_
  refine xr_iload_n S 2 dX7_tugsAt_35 rfl ?_
  refine xr_iload S 0 dX7_tugsAt_36 rfl ?_
  refine xr_iload S 0 dX7_tugsAt_38 rfl ?_
  refine xr_bipush S (39) dX7_tugsAt_40 (by decide) ?_
  refine xr_iadd S dX7_tugsAt_42 ?_
  refine xr_callS S [.int l1, .int (t0 + t1), .int ((t0 + t1) + 39)] [.int l2] dX7_tugsAt_43 (k_X7_isIn l (xdc X) h l1 (t0 + t1) ((t0 + t1) + 39) _ hw) gX7_tugsAt_X7_isIn rfl pd_X7_isIn ⟨Nat.le_of_ble_eq_true rfl, Nat.le_of_ble_eq_true rfl⟩ rfl (Nat.le_of_ble_eq_true rfl) ⟨Nat.le_of_ble_eq_true rfl, Nat.le_of_ble_eq_true rfl⟩ (fun v9 h12 hv => ?_)
  obtain ⟨r10, rfl, rfl, hw⟩ := hv
  refine xw_if_eq S 58 dX7_tugsAt_46 (by decide) hw (fun c hw => ?_) (fun c hw => ?_)
  · refine xr_iconst S (0) dX7_tugsAt_58 (by decide) ?_
    refine xr_sub S [(0, .ref l0), (1, .int l1), (3, .int l3)] [1, 2, 4] rfl ?_
    exact k_X7_tugsAt_59 S h l0 l1 l3 l2 0 Po E hO rec4 hr4 hw
  · refine xr_aload_n S 1 dX7_tugsAt_49 rfl ?_
    refine xr_iload_n S 4 dX7_tugsAt_50 rfl ?_
    refine xr_iconst S (3) dX7_tugsAt_51 (by decide) ?_
    obtain ⟨f13, f13x⟩ := id hO
    refine xr_callV S 8 [.int l3, .int 3] [.int l2] dX7_tugsAt_52 (k_X7_get l (xdc X) h l0 l3 3 _ hw) gX7_tugsAt_X7_get rfl pd_X7_get ⟨Nat.le_of_ble_eq_true rfl, Nat.le_of_ble_eq_true rfl⟩ rfl (Nat.le_of_ble_eq_true rfl) ⟨Nat.le_of_ble_eq_true rfl, Nat.le_of_ble_eq_true rfl⟩ f13x rfl (fun v9 h16 hv => ?_)
    obtain ⟨r14, rfl, rfl, hw⟩ := hv
    refine xr_goto S (tgt := 59) dX7_tugsAt_55 (by decide) ?_
    refine xr_sub S [(0, .ref l0), (1, .int l1), (3, .int l3)] [1, 2, 4] rfl ?_
    exact k_X7_tugsAt_59 S h l0 l1 l3 l2 r14 Po E hO rec4 hr4 hw
def w_X7_tugsAt_4_F (dc : Nat × Nat) (h : XH) (l0 : Nat) (l1 : Int32) (Po : Int32 → Prop) (rec4 : Int32 × Int32 → Prop) : Int32 × Int32 → Prop := fun s => match s with
  | (l2, l3) =>
  wI h l0 8 16 (fun v1 => wIf (v1 ≤ l3) (Po l2) (w_X7_begin dc h l0 l3 (fun r3 => w_X7_isOut dc h l0 l3 (fun r7 => wIf (r7 = 0) (w_X7_tugsAt_31 dc h l0 l1 l2 l3 r3 20 Po rec4) (w_X7_tugsAt_31 dc h l0 l1 l2 l3 r3 0 Po rec4)))))
def w_X7_tugsAt_4 (dc : Nat × Nat) (h : XH) (l0 : Nat) (l1 : Int32) (Po : Int32 → Prop) : Int32 × Int32 → Prop := xloop (w_X7_tugsAt_4_F dc h l0 l1 Po)
set_option maxRecDepth 100000 in
set_option maxHeartbeats 4000000 in
theorem k_X7_tugsAt_4 {V : XVT} {X : XC} {l : Launch} (S : xS V X l RX7 yX7_tugsAt.name cX7_tugsAt 5 wsX7_tugsAt (xRm 2 43 0 0)) (h : XH) (l0 : Nat) (l1 : Int32) (Po : Int32 → Prop) (E : xEnd V cX7_tugsAt (some .int) 0 0 (xRi h Po)) (hO : ∃ fs, h l0 = some (.inr (8, fs))) (s0 : Int32 × Int32) (hw : w_X7_tugsAt_4 (xdc X) h l0 l1 Po s0) : V 0 0 h 4 [(0, .ref l0), (1, .int l1), (2, .int s0.1), (3, .int s0.2)] [] := by
  refine xloop_use (P := fun s : Int32 × Int32 => V 0 0 h 4 [(0, .ref l0), (1, .int l1), (2, .int s.1), (3, .int s.2)] []) (fun rec4 hr4 s hw => ?_) hw
  obtain ⟨l2, l3⟩ := s
  try dsimp only
  refine xr_iload_n S 3 dX7_tugsAt_4 rfl ?_
  refine xr_aload_n S 0 dX7_tugsAt_5 rfl ?_
  refine xw_getI S 8 16 dX7_tugsAt_6 in_X7_tugsAt_X7 rfl (by decide) (Or.inl m_X7_tugsAt_1) (Or.inl rfl) hw (fun v1 hw => ?_)
  refine xw_icmp_ge S 67 dX7_tugsAt_9 (by decide) hw (fun c hw => ?_) (fun c hw => ?_)
  · refine xr_iload_n S 2 dX7_tugsAt_67 rfl ?_
    exact E.1 _ _ _ _ _ _ rfl dX7_tugsAt_68 ⟨_, rfl, rfl, hw⟩ (Nat.le_of_ble_eq_true rfl) (Nat.le_of_ble_eq_true rfl)
  · refine xr_aload_n S 0 dX7_tugsAt_12 rfl ?_
    refine xr_iload_n S 3 dX7_tugsAt_13 rfl ?_
    obtain ⟨f2, f2x⟩ := id hO
    refine xr_callV S 8 [.int l3] [] dX7_tugsAt_14 (k_X7_begin l (xdc X) h l0 l3 _ hw) gX7_tugsAt_X7_begin rfl pd_X7_begin ⟨Nat.le_of_ble_eq_true rfl, Nat.le_of_ble_eq_true rfl⟩ rfl (Nat.le_of_ble_eq_true rfl) ⟨Nat.le_of_ble_eq_true rfl, Nat.le_of_ble_eq_true rfl⟩ f2x rfl (fun v9 h5 hv => ?_)
    obtain ⟨r3, rfl, rfl, hw⟩ := hv
    refine xr_aload_n S 0 dX7_tugsAt_17 rfl ?_
    refine xr_iload_n S 3 dX7_tugsAt_18 rfl ?_
    obtain ⟨f6, f6x⟩ := id hO
    refine xr_callV S 8 [.int l3] [.int r3] dX7_tugsAt_19 (k_X7_isOut l (xdc X) h l0 l3 _ hw) gX7_tugsAt_X7_isOut rfl pd_X7_isOut ⟨Nat.le_of_ble_eq_true rfl, Nat.le_of_ble_eq_true rfl⟩ rfl (Nat.le_of_ble_eq_true rfl) ⟨Nat.le_of_ble_eq_true rfl, Nat.le_of_ble_eq_true rfl⟩ f6x rfl (fun v9 h9 hv => ?_)
    obtain ⟨r7, rfl, rfl, hw⟩ := hv
    refine xw_if_eq S 29 dX7_tugsAt_22 (by decide) hw (fun c hw => ?_) (fun c hw => ?_)
    · refine xr_bipush S (20) dX7_tugsAt_29 (by decide) ?_
      exact k_X7_tugsAt_31 S h l0 l1 l2 l3 r3 20 Po E hO rec4 hr4 hw
    · refine xr_iconst S (0) dX7_tugsAt_25 (by decide) ?_
      refine xr_goto S (tgt := 31) dX7_tugsAt_26 (by decide) ?_
      exact k_X7_tugsAt_31 S h l0 l1 l2 l3 r3 0 Po E hO rec4 hr4 hw
def w_X7_tugsAt (dc : Nat × Nat) (h : XH) (l0 : Nat) (l1 : Int32) (Po : Int32 → Prop) : Prop :=
  wO h l0 8 (w_X7_tugsAt_4 dc h l0 l1 Po (0, 0))
set_option maxRecDepth 100000 in
set_option maxHeartbeats 4000000 in
theorem k_X7_tugsAt (l : Launch) (dc : Nat × Nat) (h : XH) (l0 : Nat) (l1 : Int32) (Po : Int32 → Prop) (hw : w_X7_tugsAt dc h l0 l1 Po) : xM l dc yX7_tugsAt wsX7_tugsAt 2 43 0 0 [.ref l0, .int l1] h (xRi h Po) := by
  refine xM_of [(0, .ref l0), (1, .int l1)] (own := RX7) (cc := cX7_tugsAt) (nL := 5) (ret := (some .int)) (by decide +kernel) rfl rfl (Nat.le_of_ble_eq_true rfl) rfl ?_
  intro X V hX S E
  subst hX
  obtain ⟨hO, hw⟩ := hw
  refine xr_iconst S (0) dX7_tugsAt_0 (by decide) ?_
  refine xr_istore_n S [(2, .int 0), (0, .ref l0), (1, .int l1)] dX7_tugsAt_1 (by decide) rfl ?_
  refine xr_iconst S (0) dX7_tugsAt_2 (by decide) ?_
  refine xr_istore_n S [(3, .int 0), (2, .int 0), (0, .ref l0), (1, .int l1)] dX7_tugsAt_3 (by decide) rfl ?_
  refine xr_sub S [(0, .ref l0), (1, .int l1), (2, .int 0), (3, .int 0)] [2, 3, 1, 0] rfl ?_
  exact k_X7_tugsAt_4 S h l0 l1 Po E hO (0, 0) hw
theorem in_X7_areTugs_X7 : ∀ w ∈ wsX70, w ∈ wsX7_areTugs := by decide +kernel
theorem m_X7_areTugs_1 : Cond.fieldLink RX7 42 "PilotBookModel" "tugs" "I" ∈ wsX7_areTugs := by decide +kernel
def w_X7_areTugs_68 (dc : Nat × Nat) (h : XH) (l0 : Nat) (l4 : Int32) (l5 : Int32) (l7 : Int32) (t0 : Int32) (Po : Int32 → Prop) (rec27 : Int32 × Int32 → Prop) : Prop :=
  rec27 (t0, (l7 + 1))
set_option maxRecDepth 100000 in
set_option maxHeartbeats 4000000 in
theorem k_X7_areTugs_68 {V : XVT} {X : XC} {l : Launch} (S : xS V X l RX7 yX7_areTugs.name cX7_areTugs 8 wsX7_areTugs (xRm 3 67 0 0)) (h : XH) (l0 : Nat) (l4 : Int32) (l5 : Int32) (l7 : Int32) (t0 : Int32) (Po : Int32 → Prop) (E : xEnd V cX7_areTugs (some .boolean) 0 0 (xRi h Po)) (hO : ∃ fs, h l0 = some (.inr (8, fs))) (rec27 : Int32 × Int32 → Prop) (hr27 : ∀ s : Int32 × Int32, rec27 s → V 0 0 h 27 [(0, .ref l0), (4, .int l4), (5, .int l5), (6, .int s.1), (7, .int s.2)] []) (hw : w_X7_areTugs_68 (xdc X) h l0 l4 l5 l7 t0 Po rec27) : V 0 0 h 68 [(0, .ref l0), (4, .int l4), (5, .int l5), (7, .int l7)] [.int t0] := by
  refine xr_istore S [(6, .int t0), (0, .ref l0), (4, .int l4), (5, .int l5), (7, .int l7)] dX7_areTugs_68 (by decide) rfl ?_
  refine xr_iinc S 4 ((l7 + 1)) [(7, .int (l7 + 1)), (6, .int t0), (0, .ref l0), (4, .int l4), (5, .int l5)] dX7_areTugs_70 rfl rfl (by decide) rfl ?_
  refine xr_goto S (tgt := 27) dX7_areTugs_73 (by decide) ?_
  refine xr_sub S [(0, .ref l0), (4, .int l4), (5, .int l5), (6, .int t0), (7, .int (l7 + 1))] [2, 3, 4, 1, 0] rfl ?_
  exact hr27 (t0, (l7 + 1)) hw
def w_X7_areTugs_27_F (dc : Nat × Nat) (h : XH) (l0 : Nat) (l4 : Int32) (l5 : Int32) (Po : Int32 → Prop) (rec27 : Int32 × Int32 → Prop) : Int32 × Int32 → Prop := fun s => match s with
  | (l6, l7) =>
  wIf ((l5 + 40) ≤ l7) (wZ l6 (Po l6)) (wIf (l4 ≤ 0) (wZ l6 (Po l6)) (wIf (l6 = 0) (wZ l6 (Po l6)) (w_X7_tugsAt dc h l0 l7 (fun r5 => wI h l0 8 15 (fun v8 => wIf (v8 < (r5 + l4)) (w_X7_areTugs_68 dc h l0 l4 l5 l7 0 Po rec27) (w_X7_areTugs_68 dc h l0 l4 l5 l7 1 Po rec27))))))
def w_X7_areTugs_27 (dc : Nat × Nat) (h : XH) (l0 : Nat) (l4 : Int32) (l5 : Int32) (Po : Int32 → Prop) : Int32 × Int32 → Prop := xloop (w_X7_areTugs_27_F dc h l0 l4 l5 Po)
set_option maxRecDepth 100000 in
set_option maxHeartbeats 4000000 in
theorem k_X7_areTugs_27 {V : XVT} {X : XC} {l : Launch} (S : xS V X l RX7 yX7_areTugs.name cX7_areTugs 8 wsX7_areTugs (xRm 3 67 0 0)) (h : XH) (l0 : Nat) (l4 : Int32) (l5 : Int32) (Po : Int32 → Prop) (E : xEnd V cX7_areTugs (some .boolean) 0 0 (xRi h Po)) (hO : ∃ fs, h l0 = some (.inr (8, fs))) (s0 : Int32 × Int32) (hw : w_X7_areTugs_27 (xdc X) h l0 l4 l5 Po s0) : V 0 0 h 27 [(0, .ref l0), (4, .int l4), (5, .int l5), (6, .int s0.1), (7, .int s0.2)] [] := by
  refine xloop_use (P := fun s : Int32 × Int32 => V 0 0 h 27 [(0, .ref l0), (4, .int l4), (5, .int l5), (6, .int s.1), (7, .int s.2)] []) (fun rec27 hr27 s hw => ?_) hw
  obtain ⟨l6, l7⟩ := s
  try dsimp only
  refine xr_iload S 4 dX7_areTugs_27 rfl ?_
  refine xr_iload S 2 dX7_areTugs_29 rfl ?_
  refine xr_bipush S (40) dX7_areTugs_31 (by decide) ?_
  refine xr_iadd S dX7_areTugs_33 ?_
  refine xw_icmp_ge S 76 dX7_areTugs_34 (by decide) hw (fun c hw => ?_) (fun c hw => ?_)
  · refine xr_iload S 3 dX7_areTugs_76 rfl ?_
    obtain ⟨hz, hw⟩ := hw
    exact E.2.1 _ _ _ _ _ _ rfl hz dX7_areTugs_78 ⟨_, rfl, rfl, hw⟩ (Nat.le_of_ble_eq_true rfl) (Nat.le_of_ble_eq_true rfl)
  · refine xr_iload S 1 dX7_areTugs_37 rfl ?_
    refine xw_if_le S 76 dX7_areTugs_39 (by decide) hw (fun c hw => ?_) (fun c hw => ?_)
    · refine xr_iload S 3 dX7_areTugs_76 rfl ?_
      obtain ⟨hz, hw⟩ := hw
      exact E.2.1 _ _ _ _ _ _ rfl hz dX7_areTugs_78 ⟨_, rfl, rfl, hw⟩ (Nat.le_of_ble_eq_true rfl) (Nat.le_of_ble_eq_true rfl)
    · refine xr_iload S 3 dX7_areTugs_42 rfl ?_
      refine xw_if_eq S 76 dX7_areTugs_44 (by decide) hw (fun c hw => ?_) (fun c hw => ?_)
      · refine xr_iload S 3 dX7_areTugs_76 rfl ?_
        obtain ⟨hz, hw⟩ := hw
        exact E.2.1 _ _ _ _ _ _ rfl hz dX7_areTugs_78 ⟨_, rfl, rfl, hw⟩ (Nat.le_of_ble_eq_true rfl) (Nat.le_of_ble_eq_true rfl)
      · refine xr_aload_n S 0 dX7_areTugs_47 rfl ?_
        refine xr_iload S 4 dX7_areTugs_48 rfl ?_
        obtain ⟨f4, f4x⟩ := id hO
        refine xr_callV S 8 [.int l7] [] dX7_areTugs_50 (k_X7_tugsAt l (xdc X) h l0 l7 _ hw) gX7_areTugs_X7_tugsAt rfl pd_X7_tugsAt ⟨Nat.le_of_ble_eq_true rfl, Nat.le_of_ble_eq_true rfl⟩ rfl (Nat.le_of_ble_eq_true rfl) ⟨Nat.le_of_ble_eq_true rfl, Nat.le_of_ble_eq_true rfl⟩ f4x rfl (fun v9 h7 hv => ?_)
        obtain ⟨r5, rfl, rfl, hw⟩ := hv
        refine xr_iload S 1 dX7_areTugs_53 rfl ?_
        refine xr_iadd S dX7_areTugs_55 ?_
        refine xr_aload_n S 0 dX7_areTugs_56 rfl ?_
        refine xw_getI S 8 15 dX7_areTugs_57 in_X7_areTugs_X7 rfl (by decide) (Or.inl m_X7_areTugs_1) (Or.inl rfl) hw (fun v8 hw => ?_)
        refine xw_icmp_gt S 67 dX7_areTugs_60 (by decide) hw (fun c hw => ?_) (fun c hw => ?_)
        · refine xr_iconst S (0) dX7_areTugs_67 (by decide) ?_
          refine xr_sub S [(0, .ref l0), (4, .int l4), (5, .int l5), (7, .int l7)] [0, 1, 2, 4] rfl ?_
          exact k_X7_areTugs_68 S h l0 l4 l5 l7 0 Po E hO rec27 hr27 hw
        · refine xr_iconst S (1) dX7_areTugs_63 (by decide) ?_
          refine xr_goto S (tgt := 68) dX7_areTugs_64 (by decide) ?_
          refine xr_sub S [(0, .ref l0), (4, .int l4), (5, .int l5), (7, .int l7)] [0, 1, 2, 4] rfl ?_
          exact k_X7_areTugs_68 S h l0 l4 l5 l7 1 Po E hO rec27 hr27 hw
def w_X7_areTugs_17 (dc : Nat × Nat) (h : XH) (l0 : Nat) (l4 : Int32) (t0 : Int32) (t1 : Int32) (Po : Int32 → Prop) : Prop :=
  w_X7_areTugs_27 dc h l0 l4 (t0 + t1) Po (1, (t0 + t1))
set_option maxRecDepth 100000 in
set_option maxHeartbeats 4000000 in
theorem k_X7_areTugs_17 {V : XVT} {X : XC} {l : Launch} (S : xS V X l RX7 yX7_areTugs.name cX7_areTugs 8 wsX7_areTugs (xRm 3 67 0 0)) (h : XH) (l0 : Nat) (l4 : Int32) (t0 : Int32) (t1 : Int32) (Po : Int32 → Prop) (E : xEnd V cX7_areTugs (some .boolean) 0 0 (xRi h Po)) (hO : ∃ fs, h l0 = some (.inr (8, fs))) (hw : w_X7_areTugs_17 (xdc X) h l0 l4 t0 t1 Po) : V 0 0 h 17 [(0, .ref l0), (4, .int l4)] [.int t1, .int t0] := by
  refine xr_iadd S dX7_areTugs_17 ?_
  refine xr_istore S [(5, .int (t0 + t1)), (0, .ref l0), (4, .int l4)] dX7_areTugs_18 (by decide) rfl ?_
  refine xr_iconst S (1) dX7_areTugs_20 (by decide) ?_
  refine xr_istore S [(6, .int 1), (5, .int (t0 + t1)), (0, .ref l0), (4, .int l4)] dX7_areTugs_21 (by decide) rfl ?_
  refine xr_iload S 1 dX7_areTugs_23 rfl ?_
  refine xr_istore S [(7, .int (t0 + t1)), (6, .int 1), (5, .int (t0 + t1)), (0, .ref l0), (4, .int l4)] dX7_areTugs_25 (by decide) rfl ?_
  refine xr_sub S [(0, .ref l0), (4, .int l4), (5, .int (t0 + t1)), (6, .int 1), (7, .int (t0 + t1))] [3, 4, 2, 1, 0] rfl ?_
  exact k_X7_areTugs_27 S h l0 l4 (t0 + t1) Po E hO (1, (t0 + t1)) hw
def w_X7_areTugs (dc : Nat × Nat) (h : XH) (l0 : Nat) (l1 : Int32) (l2 : Int32) (l3 : Int32) (Po : Int32 → Prop) : Prop :=
  wO h l0 8 (w_X7_tugsFor dc h l1 (fun r1 => wIf (l2 = 0) (w_X7_areTugs_17 dc h l0 r1 l3 20 Po) (w_X7_areTugs_17 dc h l0 r1 l3 0 Po)))
set_option maxRecDepth 100000 in
set_option maxHeartbeats 4000000 in
theorem k_X7_areTugs (l : Launch) (dc : Nat × Nat) (h : XH) (l0 : Nat) (l1 : Int32) (l2 : Int32) (l3 : Int32) (Po : Int32 → Prop) (hw : w_X7_areTugs dc h l0 l1 l2 l3 Po) : xM l dc yX7_areTugs wsX7_areTugs 3 67 0 0 [.ref l0, .int l1, .int l2, .int l3] h (xRi h Po) := by
  refine xM_of [(0, .ref l0), (1, .int l1), (2, .int l2), (3, .int l3)] (own := RX7) (cc := cX7_areTugs) (nL := 8) (ret := (some .boolean)) (by decide +kernel) rfl rfl (Nat.le_of_ble_eq_true rfl) rfl ?_
  intro X V hX S E
  subst hX
  obtain ⟨hO, hw⟩ := hw
  refine xr_iload_n S 1 dX7_areTugs_0 rfl ?_
  refine xr_callS S [.int l1] [] dX7_areTugs_1 (k_X7_tugsFor l (xdc X) h l1 _ hw) gX7_areTugs_X7_tugsFor rfl pd_X7_tugsFor ⟨Nat.le_of_ble_eq_true rfl, Nat.le_of_ble_eq_true rfl⟩ rfl (Nat.le_of_ble_eq_true rfl) ⟨Nat.le_of_ble_eq_true rfl, Nat.le_of_ble_eq_true rfl⟩ (fun v9 h3 hv => ?_)
  obtain ⟨r1, rfl, rfl, hw⟩ := hv
  refine xr_istore S [(4, .int r1), (0, .ref l0), (1, .int l1), (2, .int l2), (3, .int l3)] dX7_areTugs_4 (by decide) rfl ?_
  refine xr_iload_n S 4 dX7_areTugs_6 rfl ?_
  refine xr_iload_n S 3 dX7_areTugs_7 rfl ?_
  refine xw_if_eq S 15 dX7_areTugs_8 (by decide) hw (fun c hw => ?_) (fun c hw => ?_)
  · refine xr_bipush S (20) dX7_areTugs_15 (by decide) ?_
    refine xr_sub S [(0, .ref l0), (4, .int r1)] [1, 0] rfl ?_
    exact k_X7_areTugs_17 S h l0 r1 l3 20 Po E hO hw
  · refine xr_iconst S (0) dX7_areTugs_11 (by decide) ?_
    refine xr_goto S (tgt := 17) dX7_areTugs_12 (by decide) ?_
    refine xr_sub S [(0, .ref l0), (4, .int r1)] [1, 0] rfl ?_
    exact k_X7_areTugs_17 S h l0 r1 l3 0 Po E hO hw
theorem in_X7_lastTrip_X7 : ∀ w ∈ wsX70, w ∈ wsX7_lastTrip := by decide +kernel
theorem m_X7_lastTrip_1 : Cond.fieldLink RX7 72 "PilotBookModel" "passages" "I" ∈ wsX7_lastTrip := by decide +kernel
def w_X7_lastTrip_42 (dc : Nat × Nat) (h : XH) (l0 : Nat) (l1 : Int32) (l2 : Int32) (l3 : Int32) (Po : Int32 → Prop) (rec4 : Int32 × Int32 → Prop) : Prop :=
  rec4 (l2, (l3 + 1))
set_option maxRecDepth 100000 in
set_option maxHeartbeats 4000000 in
theorem k_X7_lastTrip_42 {V : XVT} {X : XC} {l : Launch} (S : xS V X l RX7 yX7_lastTrip.name cX7_lastTrip 4 wsX7_lastTrip (xRm 2 43 0 0)) (h : XH) (l0 : Nat) (l1 : Int32) (l2 : Int32) (l3 : Int32) (Po : Int32 → Prop) (E : xEnd V cX7_lastTrip (some .int) 0 0 (xRi h Po)) (hO : ∃ fs, h l0 = some (.inr (8, fs))) (rec4 : Int32 × Int32 → Prop) (hr4 : ∀ s : Int32 × Int32, rec4 s → V 0 0 h 4 [(0, .ref l0), (1, .int l1), (2, .int s.1), (3, .int s.2)] []) (hw : w_X7_lastTrip_42 (xdc X) h l0 l1 l2 l3 Po rec4) : V 0 0 h 42 [(0, .ref l0), (1, .int l1), (2, .int l2), (3, .int l3)] [] := by
  refine xr_iinc S 3 ((l3 + 1)) [(3, .int (l3 + 1)), (0, .ref l0), (1, .int l1), (2, .int l2)] dX7_lastTrip_42 rfl rfl (by decide) rfl ?_
  refine xr_goto S (tgt := 4) dX7_lastTrip_45 (by decide) ?_
  refine xr_sub S [(0, .ref l0), (1, .int l1), (2, .int l2), (3, .int (l3 + 1))] [1, 2, 3, 0] rfl ?_
  exact hr4 (l2, (l3 + 1)) hw
def w_X7_lastTrip_40 (dc : Nat × Nat) (h : XH) (l0 : Nat) (l1 : Int32) (l3 : Int32) (Po : Int32 → Prop) (rec4 : Int32 × Int32 → Prop) : Prop :=
  w_X7_lastTrip_42 dc h l0 l1 l3 l3 Po rec4
set_option maxRecDepth 100000 in
set_option maxHeartbeats 4000000 in
theorem k_X7_lastTrip_40 {V : XVT} {X : XC} {l : Launch} (S : xS V X l RX7 yX7_lastTrip.name cX7_lastTrip 4 wsX7_lastTrip (xRm 2 43 0 0)) (h : XH) (l0 : Nat) (l1 : Int32) (l3 : Int32) (Po : Int32 → Prop) (E : xEnd V cX7_lastTrip (some .int) 0 0 (xRi h Po)) (hO : ∃ fs, h l0 = some (.inr (8, fs))) (rec4 : Int32 × Int32 → Prop) (hr4 : ∀ s : Int32 × Int32, rec4 s → V 0 0 h 4 [(0, .ref l0), (1, .int l1), (2, .int s.1), (3, .int s.2)] []) (hw : w_X7_lastTrip_40 (xdc X) h l0 l1 l3 Po rec4) : V 0 0 h 40 [(0, .ref l0), (1, .int l1), (3, .int l3)] [] := by
  refine xr_iload_n S 2 dX7_lastTrip_40 rfl ?_
  refine xr_istore_n S [(2, .int l3), (0, .ref l0), (1, .int l1), (3, .int l3)] dX7_lastTrip_41 (by decide) rfl ?_
  refine xr_sub S [(0, .ref l0), (1, .int l1), (2, .int l3), (3, .int l3)] [1, 2, 0, 3] rfl ?_
  exact k_X7_lastTrip_42 S h l0 l1 l3 l3 Po E hO rec4 hr4 hw
def w_X7_lastTrip_4_F (dc : Nat × Nat) (h : XH) (l0 : Nat) (l1 : Int32) (Po : Int32 → Prop) (rec4 : Int32 × Int32 → Prop) : Int32 × Int32 → Prop := fun s => match s with
  | (l2, l3) =>
  wI h l0 8 16 (fun v1 => wIf (v1 ≤ l3) (Po l2) (w_X7_get dc h l0 l3 2 (fun r3 => wIf (r3 = l1) (wIf (l2 = (-1)) (w_X7_lastTrip_40 dc h l0 l1 l3 Po rec4) (w_X7_begin dc h l0 l3 (fun r7 => w_X7_begin dc h l0 l2 (fun r11 => wIf (r7 ≤ r11) (w_X7_lastTrip_42 dc h l0 l1 l2 l3 Po rec4) (w_X7_lastTrip_40 dc h l0 l1 l3 Po rec4))))) (w_X7_lastTrip_42 dc h l0 l1 l2 l3 Po rec4))))
def w_X7_lastTrip_4 (dc : Nat × Nat) (h : XH) (l0 : Nat) (l1 : Int32) (Po : Int32 → Prop) : Int32 × Int32 → Prop := xloop (w_X7_lastTrip_4_F dc h l0 l1 Po)
set_option maxRecDepth 100000 in
set_option maxHeartbeats 4000000 in
theorem k_X7_lastTrip_4 {V : XVT} {X : XC} {l : Launch} (S : xS V X l RX7 yX7_lastTrip.name cX7_lastTrip 4 wsX7_lastTrip (xRm 2 43 0 0)) (h : XH) (l0 : Nat) (l1 : Int32) (Po : Int32 → Prop) (E : xEnd V cX7_lastTrip (some .int) 0 0 (xRi h Po)) (hO : ∃ fs, h l0 = some (.inr (8, fs))) (s0 : Int32 × Int32) (hw : w_X7_lastTrip_4 (xdc X) h l0 l1 Po s0) : V 0 0 h 4 [(0, .ref l0), (1, .int l1), (2, .int s0.1), (3, .int s0.2)] [] := by
  refine xloop_use (P := fun s : Int32 × Int32 => V 0 0 h 4 [(0, .ref l0), (1, .int l1), (2, .int s.1), (3, .int s.2)] []) (fun rec4 hr4 s hw => ?_) hw
  obtain ⟨l2, l3⟩ := s
  try dsimp only
  refine xr_iload_n S 3 dX7_lastTrip_4 rfl ?_
  refine xr_aload_n S 0 dX7_lastTrip_5 rfl ?_
  refine xw_getI S 8 16 dX7_lastTrip_6 in_X7_lastTrip_X7 rfl (by decide) (Or.inl m_X7_lastTrip_1) (Or.inl rfl) hw (fun v1 hw => ?_)
  refine xw_icmp_ge S 48 dX7_lastTrip_9 (by decide) hw (fun c hw => ?_) (fun c hw => ?_)
  · refine xr_iload_n S 2 dX7_lastTrip_48 rfl ?_
    exact E.1 _ _ _ _ _ _ rfl dX7_lastTrip_49 ⟨_, rfl, rfl, hw⟩ (Nat.le_of_ble_eq_true rfl) (Nat.le_of_ble_eq_true rfl)
  · refine xr_aload_n S 0 dX7_lastTrip_12 rfl ?_
    refine xr_iload_n S 3 dX7_lastTrip_13 rfl ?_
    refine xr_iconst S (2) dX7_lastTrip_14 (by decide) ?_
    obtain ⟨f2, f2x⟩ := id hO
    refine xr_callV S 8 [.int l3, .int 2] [] dX7_lastTrip_15 (k_X7_get l (xdc X) h l0 l3 2 _ hw) gX7_lastTrip_X7_get rfl pd_X7_get ⟨Nat.le_of_ble_eq_true rfl, Nat.le_of_ble_eq_true rfl⟩ rfl (Nat.le_of_ble_eq_true rfl) ⟨Nat.le_of_ble_eq_true rfl, Nat.le_of_ble_eq_true rfl⟩ f2x rfl (fun v9 h5 hv => ?_)
    obtain ⟨r3, rfl, rfl, hw⟩ := hv
    refine xr_iload_n S 1 dX7_lastTrip_18 rfl ?_
    refine xw_icmp_ne S 42 dX7_lastTrip_19 (by decide) hw (fun c hw => ?_) (fun c hw => ?_)
    · exact k_X7_lastTrip_42 S h l0 l1 l2 l3 Po E hO rec4 hr4 hw
    · refine xr_iload_n S 2 dX7_lastTrip_22 rfl ?_
      refine xr_iconst S (-1) dX7_lastTrip_23 (by decide) ?_
      refine xw_icmp_eq S 40 dX7_lastTrip_24 (by decide) hw (fun c hw => ?_) (fun c hw => ?_)
      · refine xr_sub S [(0, .ref l0), (1, .int l1), (3, .int l3)] [0, 1, 3] rfl ?_
        exact k_X7_lastTrip_40 S h l0 l1 l3 Po E hO rec4 hr4 hw
      · refine xr_aload_n S 0 dX7_lastTrip_27 rfl ?_
        refine xr_iload_n S 3 dX7_lastTrip_28 rfl ?_
        obtain ⟨f6, f6x⟩ := id hO
        refine xr_callV S 8 [.int l3] [] dX7_lastTrip_29 (k_X7_begin l (xdc X) h l0 l3 _ hw) gX7_lastTrip_X7_begin rfl pd_X7_begin ⟨Nat.le_of_ble_eq_true rfl, Nat.le_of_ble_eq_true rfl⟩ rfl (Nat.le_of_ble_eq_true rfl) ⟨Nat.le_of_ble_eq_true rfl, Nat.le_of_ble_eq_true rfl⟩ f6x rfl (fun v9 h9 hv => ?_)
        obtain ⟨r7, rfl, rfl, hw⟩ := hv
        refine xr_aload_n S 0 dX7_lastTrip_32 rfl ?_
        refine xr_iload_n S 2 dX7_lastTrip_33 rfl ?_
        obtain ⟨f10, f10x⟩ := id hO
        refine xr_callV S 8 [.int l2] [.int r7] dX7_lastTrip_34 (k_X7_begin l (xdc X) h l0 l2 _ hw) gX7_lastTrip_X7_begin rfl pd_X7_begin ⟨Nat.le_of_ble_eq_true rfl, Nat.le_of_ble_eq_true rfl⟩ rfl (Nat.le_of_ble_eq_true rfl) ⟨Nat.le_of_ble_eq_true rfl, Nat.le_of_ble_eq_true rfl⟩ f10x rfl (fun v9 h13 hv => ?_)
        obtain ⟨r11, rfl, rfl, hw⟩ := hv
        refine xw_icmp_le S 42 dX7_lastTrip_37 (by decide) hw (fun c hw => ?_) (fun c hw => ?_)
        · exact k_X7_lastTrip_42 S h l0 l1 l2 l3 Po E hO rec4 hr4 hw
        · refine xr_sub S [(0, .ref l0), (1, .int l1), (3, .int l3)] [0, 1, 3] rfl ?_
          exact k_X7_lastTrip_40 S h l0 l1 l3 Po E hO rec4 hr4 hw
def w_X7_lastTrip (dc : Nat × Nat) (h : XH) (l0 : Nat) (l1 : Int32) (Po : Int32 → Prop) : Prop :=
  wO h l0 8 (w_X7_lastTrip_4 dc h l0 l1 Po ((-1), 0))
set_option maxRecDepth 100000 in
set_option maxHeartbeats 4000000 in
theorem k_X7_lastTrip (l : Launch) (dc : Nat × Nat) (h : XH) (l0 : Nat) (l1 : Int32) (Po : Int32 → Prop) (hw : w_X7_lastTrip dc h l0 l1 Po) : xM l dc yX7_lastTrip wsX7_lastTrip 2 43 0 0 [.ref l0, .int l1] h (xRi h Po) := by
  refine xM_of [(0, .ref l0), (1, .int l1)] (own := RX7) (cc := cX7_lastTrip) (nL := 4) (ret := (some .int)) (by decide +kernel) rfl rfl (Nat.le_of_ble_eq_true rfl) rfl ?_
  intro X V hX S E
  subst hX
  obtain ⟨hO, hw⟩ := hw
  refine xr_iconst S (-1) dX7_lastTrip_0 (by decide) ?_
  refine xr_istore_n S [(2, .int (-1)), (0, .ref l0), (1, .int l1)] dX7_lastTrip_1 (by decide) rfl ?_
  refine xr_iconst S (0) dX7_lastTrip_2 (by decide) ?_
  refine xr_istore_n S [(3, .int 0), (2, .int (-1)), (0, .ref l0), (1, .int l1)] dX7_lastTrip_3 (by decide) rfl ?_
  refine xr_sub S [(0, .ref l0), (1, .int l1), (2, .int (-1)), (3, .int 0)] [2, 3, 1, 0] rfl ?_
  exact k_X7_lastTrip_4 S h l0 l1 Po E hO ((-1), 0) hw
theorem in_X7_isPortSide_X7 : ∀ w ∈ wsX70, w ∈ wsX7_isPortSide := by decide +kernel
theorem m_X7_isPortSide_1 : Cond.fieldLink RX7 38 "PilotBookModel" "areInPort" "[Z" ∈ wsX7_isPortSide := by decide +kernel
def w_X7_isPortSide (dc : Nat × Nat) (h : XH) (l0 : Nat) (l1 : Int32) (Po : Int32 → Prop) : Prop :=
  wO h l0 8 (w_X7_lastTrip dc h l0 l1 (fun r2 => wIf (r2 = (-1)) (wR h l0 8 14 (fun a9 => wAI h 3 a9 l1 (fun v10 => wZ v10 (Po v10)))) (w_X7_isOut dc h l0 r2 (fun r6 => wIf (r6 = 0) (wZ 1 (Po 1)) (wZ 0 (Po 0))))))
set_option maxRecDepth 100000 in
set_option maxHeartbeats 4000000 in
theorem k_X7_isPortSide (l : Launch) (dc : Nat × Nat) (h : XH) (l0 : Nat) (l1 : Int32) (Po : Int32 → Prop) (hw : w_X7_isPortSide dc h l0 l1 Po) : xM l dc yX7_isPortSide wsX7_isPortSide 3 66 0 0 [.ref l0, .int l1] h (xRi h Po) := by
  refine xM_of [(0, .ref l0), (1, .int l1)] (own := RX7) (cc := cX7_isPortSide) (nL := 3) (ret := (some .boolean)) (by decide +kernel) rfl rfl (Nat.le_of_ble_eq_true rfl) rfl ?_
  intro X V hX S E
  subst hX
  obtain ⟨hO, hw⟩ := hw
  refine xr_aload_n S 0 dX7_isPortSide_0 rfl ?_
  refine xr_iload_n S 1 dX7_isPortSide_1 rfl ?_
  obtain ⟨f1, f1x⟩ := id hO
  refine xr_callV S 8 [.int l1] [] dX7_isPortSide_2 (k_X7_lastTrip l (xdc X) h l0 l1 _ hw) gX7_isPortSide_X7_lastTrip rfl pd_X7_lastTrip ⟨Nat.le_of_ble_eq_true rfl, Nat.le_of_ble_eq_true rfl⟩ rfl (Nat.le_of_ble_eq_true rfl) ⟨Nat.le_of_ble_eq_true rfl, Nat.le_of_ble_eq_true rfl⟩ f1x rfl (fun v9 h4 hv => ?_)
  obtain ⟨r2, rfl, rfl, hw⟩ := hv
  refine xr_istore_n S [(2, .int r2), (0, .ref l0), (1, .int l1)] dX7_isPortSide_5 (by decide) rfl ?_
  refine xr_iload_n S 0 dX7_isPortSide_6 rfl ?_
  refine xr_iconst S (-1) dX7_isPortSide_7 (by decide) ?_
  refine xw_icmp_ne S 20 dX7_isPortSide_8 (by decide) hw (fun c hw => ?_) (fun c hw => ?_)
  · refine xr_aload_n S 1 dX7_isPortSide_20 rfl ?_
    refine xr_iload_n S 0 dX7_isPortSide_21 rfl ?_
    obtain ⟨f5, f5x⟩ := id hO
    refine xr_callV S 8 [.int r2] [] dX7_isPortSide_22 (k_X7_isOut l (xdc X) h l0 r2 _ hw) gX7_isPortSide_X7_isOut rfl pd_X7_isOut ⟨Nat.le_of_ble_eq_true rfl, Nat.le_of_ble_eq_true rfl⟩ rfl (Nat.le_of_ble_eq_true rfl) ⟨Nat.le_of_ble_eq_true rfl, Nat.le_of_ble_eq_true rfl⟩ f5x rfl (fun v9 h8 hv => ?_)
    obtain ⟨r6, rfl, rfl, hw⟩ := hv
    refine xw_if_ne S 32 dX7_isPortSide_25 (by decide) hw (fun c hw => ?_) (fun c hw => ?_)
    · refine xr_iconst S (0) dX7_isPortSide_32 (by decide) ?_
      obtain ⟨hz, hw⟩ := hw
      exact E.2.1 _ _ _ _ _ _ rfl hz dX7_isPortSide_33 ⟨_, rfl, rfl, hw⟩ (Nat.le_of_ble_eq_true rfl) (Nat.le_of_ble_eq_true rfl)
    · refine xr_iconst S (1) dX7_isPortSide_28 (by decide) ?_
      refine xr_goto S (tgt := 33) dX7_isPortSide_29 (by decide) ?_
      obtain ⟨hz, hw⟩ := hw
      exact E.2.1 _ _ _ _ _ _ rfl hz dX7_isPortSide_33 ⟨_, rfl, rfl, hw⟩ (Nat.le_of_ble_eq_true rfl) (Nat.le_of_ble_eq_true rfl)
  · refine xr_aload_n S 1 dX7_isPortSide_11 rfl ?_
    refine xw_getR S 8 14 dX7_isPortSide_12 in_X7_isPortSide_X7 rfl (by decide) (Or.inl m_X7_isPortSide_1) (Or.inl rfl) hw (fun a9 hw => ?_)
    refine xr_iload_n S 2 dX7_isPortSide_15 rfl ?_
    refine xw_zald S dX7_isPortSide_16 hw (fun v10 hw => ?_)
    refine xr_goto S (tgt := 33) dX7_isPortSide_17 (by decide) ?_
    obtain ⟨hz, hw⟩ := hw
    exact E.2.1 _ _ _ _ _ _ rfl hz dX7_isPortSide_33 ⟨_, rfl, rfl, hw⟩ (Nat.le_of_ble_eq_true rfl) (Nat.le_of_ble_eq_true rfl)
theorem in_X7_isReady_X7 : ∀ w ∈ wsX70, w ∈ wsX7_isReady := by decide +kernel
theorem m_X7_isReady_1 : Cond.fieldLink RX7 35 "PilotBookModel" "limits" "[I" ∈ wsX7_isReady := by decide +kernel
def w_X7_isReady_92 (dc : Nat × Nat) (h : XH) (l0 : Nat) (t0 : Int32) (t1 : Int32) (t2 : Int32) (Po : Int32 → Prop) : Prop :=
  wIf (t0 < (t1 + t2)) (wZ 0 (Po 0)) (wZ 1 (Po 1))
set_option maxRecDepth 100000 in
set_option maxHeartbeats 4000000 in
theorem k_X7_isReady_92 {V : XVT} {X : XC} {l : Launch} (S : xS V X l RX7 yX7_isReady.name cX7_isReady 7 wsX7_isReady (xRm 4 88 0 0)) (h : XH) (l0 : Nat) (t0 : Int32) (t1 : Int32) (t2 : Int32) (Po : Int32 → Prop) (E : xEnd V cX7_isReady (some .boolean) 0 0 (xRi h Po)) (hO : ∃ fs, h l0 = some (.inr (8, fs))) (hw : w_X7_isReady_92 (xdc X) h l0 t0 t1 t2 Po) : V 0 0 h 92 [(0, .ref l0)] [.int t2, .int t1, .int t0] := by
  refine xr_iadd S dX7_isReady_92 ?_
  refine xw_icmp_lt S 100 dX7_isReady_93 (by decide) hw (fun c hw => ?_) (fun c hw => ?_)
  · refine xr_iconst S (0) dX7_isReady_100 (by decide) ?_
    obtain ⟨hz, hw⟩ := hw
    exact E.2.1 _ _ _ _ _ _ rfl hz dX7_isReady_101 ⟨_, rfl, rfl, hw⟩ (Nat.le_of_ble_eq_true rfl) (Nat.le_of_ble_eq_true rfl)
  · refine xr_iconst S (1) dX7_isReady_96 (by decide) ?_
    refine xr_goto S (tgt := 101) dX7_isReady_97 (by decide) ?_
    obtain ⟨hz, hw⟩ := hw
    exact E.2.1 _ _ _ _ _ _ rfl hz dX7_isReady_101 ⟨_, rfl, rfl, hw⟩ (Nat.le_of_ble_eq_true rfl) (Nat.le_of_ble_eq_true rfl)
def w_X7_isReady_33 (dc : Nat × Nat) (h : XH) (l0 : Nat) (l4 : Int32) (l5 : Int32) (t0 : Int32) (Po : Int32 → Prop) : Prop :=
  wIf (l5 = (-1)) (wIf (t0 = 0) (wIf (l4 < 60) (wZ 0 (Po 0)) (wZ 1 (Po 1))) (wZ 1 (Po 1))) (w_X7_begin dc h l0 l5 (fun r12 => wIf (l4 ≤ r12) (wZ 0 (Po 0)) (w_X7_end dc h l0 l5 (fun r16 => wIf (t0 = 0) (w_X7_isReady_92 dc h l0 l4 r16 90 Po) (w_X7_isReady_92 dc h l0 l4 r16 30 Po)))))
set_option maxRecDepth 100000 in
set_option maxHeartbeats 4000000 in
theorem k_X7_isReady_33 {V : XVT} {X : XC} {l : Launch} (S : xS V X l RX7 yX7_isReady.name cX7_isReady 7 wsX7_isReady (xRm 4 88 0 0)) (h : XH) (l0 : Nat) (l4 : Int32) (l5 : Int32) (t0 : Int32) (Po : Int32 → Prop) (E : xEnd V cX7_isReady (some .boolean) 0 0 (xRi h Po)) (hO : ∃ fs, h l0 = some (.inr (8, fs))) (hw : w_X7_isReady_33 (xdc X) h l0 l4 l5 t0 Po) : V 0 0 h 33 [(0, .ref l0), (4, .int l4), (5, .int l5)] [.int t0] := by
  refine xr_istore S [(6, .int t0), (0, .ref l0), (4, .int l4), (5, .int l5)] dX7_isReady_33 (by decide) rfl ?_
  refine xr_iload S 3 dX7_isReady_35 rfl ?_
  refine xr_iconst S (-1) dX7_isReady_37 (by decide) ?_
  refine xw_icmp_ne S 61 dX7_isReady_38 (by decide) hw (fun c hw => ?_) (fun c hw => ?_)
  · refine xr_aload_n S 1 dX7_isReady_61 rfl ?_
    refine xr_iload S 3 dX7_isReady_62 rfl ?_
    obtain ⟨f11, f11x⟩ := id hO
    refine xr_callV S 8 [.int l5] [] dX7_isReady_64 (k_X7_begin l (xdc X) h l0 l5 _ hw) gX7_isReady_X7_begin rfl pd_X7_begin ⟨Nat.le_of_ble_eq_true rfl, Nat.le_of_ble_eq_true rfl⟩ rfl (Nat.le_of_ble_eq_true rfl) ⟨Nat.le_of_ble_eq_true rfl, Nat.le_of_ble_eq_true rfl⟩ f11x rfl (fun v9 h14 hv => ?_)
    obtain ⟨r12, rfl, rfl, hw⟩ := hv
    refine xr_iload S 2 dX7_isReady_67 rfl ?_
    refine xw_icmp_ge S 100 dX7_isReady_69 (by decide) hw (fun c hw => ?_) (fun c hw => ?_)
    · refine xr_iconst S (0) dX7_isReady_100 (by decide) ?_
      obtain ⟨hz, hw⟩ := hw
      exact E.2.1 _ _ _ _ _ _ rfl hz dX7_isReady_101 ⟨_, rfl, rfl, hw⟩ (Nat.le_of_ble_eq_true rfl) (Nat.le_of_ble_eq_true rfl)
    · refine xr_iload S 2 dX7_isReady_72 rfl ?_
      refine xr_aload_n S 1 dX7_isReady_74 rfl ?_
      refine xr_iload S 3 dX7_isReady_75 rfl ?_
      obtain ⟨f15, f15x⟩ := id hO
      refine xr_callV S 8 [.int l5] [.int l4] dX7_isReady_77 (k_X7_end l (xdc X) h l0 l5 _ hw) gX7_isReady_X7_end rfl pd_X7_end ⟨Nat.le_of_ble_eq_true rfl, Nat.le_of_ble_eq_true rfl⟩ rfl (Nat.le_of_ble_eq_true rfl) ⟨Nat.le_of_ble_eq_true rfl, Nat.le_of_ble_eq_true rfl⟩ f15x rfl (fun v9 h18 hv => ?_)
      obtain ⟨r16, rfl, rfl, hw⟩ := hv
      refine xr_iload S 0 dX7_isReady_80 rfl ?_
      refine xw_if_eq S 90 dX7_isReady_82 (by decide) hw (fun c hw => ?_) (fun c hw => ?_)
      · refine xr_bipush S (90) dX7_isReady_90 (by decide) ?_
        refine xr_sub S [(0, .ref l0)] [1] rfl ?_
        exact k_X7_isReady_92 S h l0 l4 r16 90 Po E hO hw
      · refine xr_bipush S (30) dX7_isReady_85 (by decide) ?_
        refine xr_goto S (tgt := 92) dX7_isReady_87 (by decide) ?_
        refine xr_sub S [(0, .ref l0)] [1] rfl ?_
        exact k_X7_isReady_92 S h l0 l4 r16 30 Po E hO hw
  · refine xr_iload S 0 dX7_isReady_41 rfl ?_
    refine xw_if_ne S 53 dX7_isReady_43 (by decide) hw (fun c hw => ?_) (fun c hw => ?_)
    · refine xr_iconst S (1) dX7_isReady_53 (by decide) ?_
      refine xr_goto S (tgt := 101) dX7_isReady_54 (by decide) ?_
      obtain ⟨hz, hw⟩ := hw
      exact E.2.1 _ _ _ _ _ _ rfl hz dX7_isReady_101 ⟨_, rfl, rfl, hw⟩ (Nat.le_of_ble_eq_true rfl) (Nat.le_of_ble_eq_true rfl)
    · refine xr_iload S 2 dX7_isReady_46 rfl ?_
      refine xr_bipush S (60) dX7_isReady_48 (by decide) ?_
      refine xw_icmp_lt S 57 dX7_isReady_50 (by decide) hw (fun c hw => ?_) (fun c hw => ?_)
      · refine xr_iconst S (0) dX7_isReady_57 (by decide) ?_
        refine xr_goto S (tgt := 101) dX7_isReady_58 (by decide) ?_
        obtain ⟨hz, hw⟩ := hw
        exact E.2.1 _ _ _ _ _ _ rfl hz dX7_isReady_101 ⟨_, rfl, rfl, hw⟩ (Nat.le_of_ble_eq_true rfl) (Nat.le_of_ble_eq_true rfl)
      · refine xr_iconst S (1) dX7_isReady_53 (by decide) ?_
        refine xr_goto S (tgt := 101) dX7_isReady_54 (by decide) ?_
        obtain ⟨hz, hw⟩ := hw
        exact E.2.1 _ _ _ _ _ _ rfl hz dX7_isReady_101 ⟨_, rfl, rfl, hw⟩ (Nat.le_of_ble_eq_true rfl) (Nat.le_of_ble_eq_true rfl)
def w_X7_isReady (dc : Nat × Nat) (h : XH) (l0 : Nat) (l1 : Int32) (l2 : Int32) (l3 : Int32) (l4 : Int32) (Po : Int32 → Prop) : Prop :=
  wO h l0 8 (wR h l0 8 13 (fun a1 => wAI h 2 a1 l1 (fun v2 => wIf (l2 ≤ v2) (w_X7_lastTrip dc h l0 l1 (fun r4 => w_X7_isPortSide dc h l0 l1 (fun r8 => wIf (r8 = l3) (w_X7_isReady_33 dc h l0 l4 r4 1 Po) (w_X7_isReady_33 dc h l0 l4 r4 0 Po)))) (wZ 0 (Po 0)))))
set_option maxRecDepth 100000 in
set_option maxHeartbeats 4000000 in
theorem k_X7_isReady (l : Launch) (dc : Nat × Nat) (h : XH) (l0 : Nat) (l1 : Int32) (l2 : Int32) (l3 : Int32) (l4 : Int32) (Po : Int32 → Prop) (hw : w_X7_isReady dc h l0 l1 l2 l3 l4 Po) : xM l dc yX7_isReady wsX7_isReady 4 88 0 0 [.ref l0, .int l1, .int l2, .int l3, .int l4] h (xRi h Po) := by
  refine xM_of [(0, .ref l0), (1, .int l1), (2, .int l2), (3, .int l3), (4, .int l4)] (own := RX7) (cc := cX7_isReady) (nL := 7) (ret := (some .boolean)) (by decide +kernel) rfl rfl (Nat.le_of_ble_eq_true rfl) rfl ?_
  intro X V hX S E
  subst hX
  obtain ⟨hO, hw⟩ := hw
  refine xr_aload_n S 0 dX7_isReady_0 rfl ?_
  refine xw_getR S 8 13 dX7_isReady_1 in_X7_isReady_X7 rfl (by decide) (Or.inl m_X7_isReady_1) (Or.inl rfl) hw (fun a1 hw => ?_)
  refine xr_iload_n S 1 dX7_isReady_4 rfl ?_
  refine xw_iald S 2 dX7_isReady_5 (Or.inr rfl) hw (fun v2 hw => ?_)
  refine xr_iload_n S 2 dX7_isReady_6 rfl ?_
  refine xw_icmp_ge S 12 dX7_isReady_7 (by decide) hw (fun c hw => ?_) (fun c hw => ?_)
  · refine xr_aload_n S 0 dX7_isReady_12 rfl ?_
    refine xr_iload_n S 1 dX7_isReady_13 rfl ?_
    obtain ⟨f3, f3x⟩ := id hO
    refine xr_callV S 8 [.int l1] [] dX7_isReady_14 (k_X7_lastTrip l (xdc X) h l0 l1 _ hw) gX7_isReady_X7_lastTrip rfl pd_X7_lastTrip ⟨Nat.le_of_ble_eq_true rfl, Nat.le_of_ble_eq_true rfl⟩ rfl (Nat.le_of_ble_eq_true rfl) ⟨Nat.le_of_ble_eq_true rfl, Nat.le_of_ble_eq_true rfl⟩ f3x rfl (fun v9 h6 hv => ?_)
    obtain ⟨r4, rfl, rfl, hw⟩ := hv
    refine xr_istore S [(5, .int r4), (0, .ref l0), (1, .int l1), (2, .int l2), (3, .int l3), (4, .int l4)] dX7_isReady_17 (by decide) rfl ?_
    refine xr_aload_n S 1 dX7_isReady_19 rfl ?_
    refine xr_iload_n S 2 dX7_isReady_20 rfl ?_
    obtain ⟨f7, f7x⟩ := id hO
    refine xr_callV S 8 [.int l1] [] dX7_isReady_21 (k_X7_isPortSide l (xdc X) h l0 l1 _ hw) gX7_isReady_X7_isPortSide rfl pd_X7_isPortSide ⟨Nat.le_of_ble_eq_true rfl, Nat.le_of_ble_eq_true rfl⟩ rfl (Nat.le_of_ble_eq_true rfl) ⟨Nat.le_of_ble_eq_true rfl, Nat.le_of_ble_eq_true rfl⟩ f7x rfl (fun v9 h10 hv => ?_)
    obtain ⟨r8, rfl, rfl, hw⟩ := hv
    refine xr_iload_n S 4 dX7_isReady_24 rfl ?_
    refine xw_icmp_ne S 32 dX7_isReady_25 (by decide) hw (fun c hw => ?_) (fun c hw => ?_)
    · refine xr_iconst S (0) dX7_isReady_32 (by decide) ?_
      refine xr_sub S [(0, .ref l0), (4, .int l4), (5, .int r4)] [1, 5, 0] rfl ?_
      exact k_X7_isReady_33 S h l0 l4 r4 0 Po E hO hw
    · refine xr_iconst S (1) dX7_isReady_28 (by decide) ?_
      refine xr_goto S (tgt := 33) dX7_isReady_29 (by decide) ?_
      refine xr_sub S [(0, .ref l0), (4, .int l4), (5, .int r4)] [1, 5, 0] rfl ?_
      exact k_X7_isReady_33 S h l0 l4 r4 1 Po E hO hw
  · refine xr_iconst S (0) dX7_isReady_10 (by decide) ?_
    obtain ⟨hz, hw⟩ := hw
    exact E.2.1 _ _ _ _ _ _ rfl hz dX7_isReady_11 ⟨_, rfl, rfl, hw⟩ (Nat.le_of_ble_eq_true rfl) (Nat.le_of_ble_eq_true rfl)
theorem in_X7_pilotFor_X7 : ∀ w ∈ wsX70, w ∈ wsX7_pilotFor := by decide +kernel
theorem m_X7_pilotFor_1 : Cond.fieldLink RX7 81 "PilotBookModel" "pilots" "I" ∈ wsX7_pilotFor := by decide +kernel
def w_X7_pilotFor_83 (dc : Nat × Nat) (h : XH) (l0 : Nat) (l1 : Int32) (l2 : Int32) (l3 : Int32) (l4 : Int32) (l5 : Int32) (l6 : Int32) (Po : Int32 → Prop) (rec9 : Int32 × Int32 × Int32 → Prop) : Prop :=
  rec9 (l4, l5, (l6 + 1))
set_option maxRecDepth 100000 in
set_option maxHeartbeats 4000000 in
theorem k_X7_pilotFor_83 {V : XVT} {X : XC} {l : Launch} (S : xS V X l RX7 yX7_pilotFor.name cX7_pilotFor 8 wsX7_pilotFor (xRm 5 114 0 0)) (h : XH) (l0 : Nat) (l1 : Int32) (l2 : Int32) (l3 : Int32) (l4 : Int32) (l5 : Int32) (l6 : Int32) (Po : Int32 → Prop) (E : xEnd V cX7_pilotFor (some .int) 0 0 (xRi h Po)) (hO : ∃ fs, h l0 = some (.inr (8, fs))) (rec9 : Int32 × Int32 × Int32 → Prop) (hr9 : ∀ s : Int32 × Int32 × Int32, rec9 s → V 0 0 h 9 [(0, .ref l0), (1, .int l1), (2, .int l2), (3, .int l3), (4, .int s.1), (5, .int s.2.1), (6, .int s.2.2)] []) (hw : w_X7_pilotFor_83 (xdc X) h l0 l1 l2 l3 l4 l5 l6 Po rec9) : V 0 0 h 83 [(0, .ref l0), (1, .int l1), (2, .int l2), (3, .int l3), (4, .int l4), (5, .int l5), (6, .int l6)] [] := by
  refine xr_iinc S 6 ((l6 + 1)) [(6, .int (l6 + 1)), (0, .ref l0), (1, .int l1), (2, .int l2), (3, .int l3), (4, .int l4), (5, .int l5)] dX7_pilotFor_83 rfl rfl (by decide) rfl ?_
  refine xr_goto S (tgt := 9) dX7_pilotFor_86 (by decide) ?_
  refine xr_sub S [(0, .ref l0), (1, .int l1), (2, .int l2), (3, .int l3), (4, .int l4), (5, .int l5), (6, .int (l6 + 1))] [1, 2, 3, 4, 5, 6, 0] rfl ?_
  exact hr9 (l4, l5, (l6 + 1)) hw
def w_X7_pilotFor_75 (dc : Nat × Nat) (h : XH) (l0 : Nat) (l1 : Int32) (l2 : Int32) (l3 : Int32) (l6 : Int32) (l7 : Int32) (Po : Int32 → Prop) (rec9 : Int32 × Int32 × Int32 → Prop) : Prop :=
  w_X7_pilotFor_83 dc h l0 l1 l2 l3 l6 l7 l6 Po rec9
set_option maxRecDepth 100000 in
set_option maxHeartbeats 4000000 in
theorem k_X7_pilotFor_75 {V : XVT} {X : XC} {l : Launch} (S : xS V X l RX7 yX7_pilotFor.name cX7_pilotFor 8 wsX7_pilotFor (xRm 5 114 0 0)) (h : XH) (l0 : Nat) (l1 : Int32) (l2 : Int32) (l3 : Int32) (l6 : Int32) (l7 : Int32) (Po : Int32 → Prop) (E : xEnd V cX7_pilotFor (some .int) 0 0 (xRi h Po)) (hO : ∃ fs, h l0 = some (.inr (8, fs))) (rec9 : Int32 × Int32 × Int32 → Prop) (hr9 : ∀ s : Int32 × Int32 × Int32, rec9 s → V 0 0 h 9 [(0, .ref l0), (1, .int l1), (2, .int l2), (3, .int l3), (4, .int s.1), (5, .int s.2.1), (6, .int s.2.2)] []) (hw : w_X7_pilotFor_75 (xdc X) h l0 l1 l2 l3 l6 l7 Po rec9) : V 0 0 h 75 [(0, .ref l0), (1, .int l1), (2, .int l2), (3, .int l3), (6, .int l6), (7, .int l7)] [] := by
  refine xr_iload S 4 dX7_pilotFor_75 rfl ?_
  refine xr_istore S [(4, .int l6), (0, .ref l0), (1, .int l1), (2, .int l2), (3, .int l3), (6, .int l6), (7, .int l7)] dX7_pilotFor_77 (by decide) rfl ?_
  refine xr_iload S 6 dX7_pilotFor_79 rfl ?_
  refine xr_istore S [(5, .int l7), (4, .int l6), (0, .ref l0), (1, .int l1), (2, .int l2), (3, .int l3), (6, .int l6), (7, .int l7)] dX7_pilotFor_81 (by decide) rfl ?_
  refine xr_sub S [(0, .ref l0), (1, .int l1), (2, .int l2), (3, .int l3), (4, .int l6), (5, .int l7), (6, .int l6)] [2, 3, 4, 5, 1, 0, 6] rfl ?_
  exact k_X7_pilotFor_83 S h l0 l1 l2 l3 l6 l7 l6 Po E hO rec9 hr9 hw
def w_X7_pilotFor_57 (dc : Nat × Nat) (h : XH) (l0 : Nat) (l1 : Int32) (l2 : Int32) (l3 : Int32) (l4 : Int32) (l5 : Int32) (l6 : Int32) (t0 : Int32) (Po : Int32 → Prop) (rec9 : Int32 × Int32 × Int32 → Prop) : Prop :=
  wIf (l4 = (-1)) (w_X7_pilotFor_75 dc h l0 l1 l2 l3 l6 t0 Po rec9) (wIf (t0 < l5) (w_X7_pilotFor_75 dc h l0 l1 l2 l3 l6 t0 Po rec9) (w_X7_pilotFor_83 dc h l0 l1 l2 l3 l4 l5 l6 Po rec9))
set_option maxRecDepth 100000 in
set_option maxHeartbeats 4000000 in
theorem k_X7_pilotFor_57 {V : XVT} {X : XC} {l : Launch} (S : xS V X l RX7 yX7_pilotFor.name cX7_pilotFor 8 wsX7_pilotFor (xRm 5 114 0 0)) (h : XH) (l0 : Nat) (l1 : Int32) (l2 : Int32) (l3 : Int32) (l4 : Int32) (l5 : Int32) (l6 : Int32) (t0 : Int32) (Po : Int32 → Prop) (E : xEnd V cX7_pilotFor (some .int) 0 0 (xRi h Po)) (hO : ∃ fs, h l0 = some (.inr (8, fs))) (rec9 : Int32 × Int32 × Int32 → Prop) (hr9 : ∀ s : Int32 × Int32 × Int32, rec9 s → V 0 0 h 9 [(0, .ref l0), (1, .int l1), (2, .int l2), (3, .int l3), (4, .int s.1), (5, .int s.2.1), (6, .int s.2.2)] []) (hw : w_X7_pilotFor_57 (xdc X) h l0 l1 l2 l3 l4 l5 l6 t0 Po rec9) : V 0 0 h 57 [(0, .ref l0), (1, .int l1), (2, .int l2), (3, .int l3), (4, .int l4), (5, .int l5), (6, .int l6)] [.int t0] := by
  refine xr_istore S [(7, .int t0), (0, .ref l0), (1, .int l1), (2, .int l2), (3, .int l3), (4, .int l4), (5, .int l5), (6, .int l6)] dX7_pilotFor_57 (by decide) rfl ?_
  refine xr_iload S 5 dX7_pilotFor_59 rfl ?_
  refine xr_iconst S (-1) dX7_pilotFor_61 (by decide) ?_
  refine xw_icmp_eq S 75 dX7_pilotFor_62 (by decide) hw (fun c hw => ?_) (fun c hw => ?_)
  · refine xr_sub S [(0, .ref l0), (1, .int l1), (2, .int l2), (3, .int l3), (6, .int l6), (7, .int t0)] [1, 2, 3, 4, 7, 0] rfl ?_
    exact k_X7_pilotFor_75 S h l0 l1 l2 l3 l6 t0 Po E hO rec9 hr9 hw
  · refine xr_iload S 0 dX7_pilotFor_65 rfl ?_
    refine xr_iload S 6 dX7_pilotFor_67 rfl ?_
    refine xw_icmp_lt S 75 dX7_pilotFor_69 (by decide) hw (fun c hw => ?_) (fun c hw => ?_)
    · refine xr_sub S [(0, .ref l0), (1, .int l1), (2, .int l2), (3, .int l3), (6, .int l6), (7, .int t0)] [1, 2, 3, 4, 7, 0] rfl ?_
      exact k_X7_pilotFor_75 S h l0 l1 l2 l3 l6 t0 Po E hO rec9 hr9 hw
    · refine xr_goto S (tgt := 83) dX7_pilotFor_72 (by decide) ?_
      refine xr_sub S [(0, .ref l0), (1, .int l1), (2, .int l2), (3, .int l3), (4, .int l4), (5, .int l5), (6, .int l6)] [1, 2, 3, 4, 5, 6, 7] rfl ?_
      exact k_X7_pilotFor_83 S h l0 l1 l2 l3 l4 l5 l6 Po E hO rec9 hr9 hw
def w_X7_pilotFor_9_F (dc : Nat × Nat) (h : XH) (l0 : Nat) (l1 : Int32) (l2 : Int32) (l3 : Int32) (Po : Int32 → Prop) (rec9 : Int32 × Int32 × Int32 → Prop) : Int32 × Int32 × Int32 → Prop := fun s => match s with
  | (l4, l5, l6) =>
  wI h l0 8 12 (fun v1 => wIf (v1 ≤ l6) (Po l4) (w_X7_isReady dc h l0 l6 l1 l2 l3 (fun r3 => wIf (r3 = 0) (w_X7_pilotFor_83 dc h l0 l1 l2 l3 l4 l5 l6 Po rec9) (w_X7_lastTrip dc h l0 l6 (fun r7 => wIf (r7 = (-1)) (w_X7_pilotFor_57 dc h l0 l1 l2 l3 l4 l5 l6 (-1) Po rec9) (w_X7_lastTrip dc h l0 l6 (fun r11 => w_X7_end dc h l0 r11 (fun r15 => w_X7_pilotFor_57 dc h l0 l1 l2 l3 l4 l5 l6 r15 Po rec9))))))))
def w_X7_pilotFor_9 (dc : Nat × Nat) (h : XH) (l0 : Nat) (l1 : Int32) (l2 : Int32) (l3 : Int32) (Po : Int32 → Prop) : Int32 × Int32 × Int32 → Prop := xloop (w_X7_pilotFor_9_F dc h l0 l1 l2 l3 Po)
set_option maxRecDepth 100000 in
set_option maxHeartbeats 4000000 in
theorem k_X7_pilotFor_9 {V : XVT} {X : XC} {l : Launch} (S : xS V X l RX7 yX7_pilotFor.name cX7_pilotFor 8 wsX7_pilotFor (xRm 5 114 0 0)) (h : XH) (l0 : Nat) (l1 : Int32) (l2 : Int32) (l3 : Int32) (Po : Int32 → Prop) (E : xEnd V cX7_pilotFor (some .int) 0 0 (xRi h Po)) (hO : ∃ fs, h l0 = some (.inr (8, fs))) (s0 : Int32 × Int32 × Int32) (hw : w_X7_pilotFor_9 (xdc X) h l0 l1 l2 l3 Po s0) : V 0 0 h 9 [(0, .ref l0), (1, .int l1), (2, .int l2), (3, .int l3), (4, .int s0.1), (5, .int s0.2.1), (6, .int s0.2.2)] [] := by
  refine xloop_use (P := fun s : Int32 × Int32 × Int32 => V 0 0 h 9 [(0, .ref l0), (1, .int l1), (2, .int l2), (3, .int l3), (4, .int s.1), (5, .int s.2.1), (6, .int s.2.2)] []) (fun rec9 hr9 s hw => ?_) hw
  obtain ⟨l4, l5, l6⟩ := s
  try dsimp only
  refine xr_iload S 6 dX7_pilotFor_9 rfl ?_
  refine xr_aload_n S 0 dX7_pilotFor_11 rfl ?_
  refine xw_getI S 8 12 dX7_pilotFor_12 in_X7_pilotFor_X7 rfl (by decide) (Or.inl m_X7_pilotFor_1) (Or.inl rfl) hw (fun v1 hw => ?_)
  refine xw_icmp_ge S 89 dX7_pilotFor_15 (by decide) hw (fun c hw => ?_) (fun c hw => ?_)
  · refine xr_iload S 4 dX7_pilotFor_89 rfl ?_
    exact E.1 _ _ _ _ _ _ rfl dX7_pilotFor_91 ⟨_, rfl, rfl, hw⟩ (Nat.le_of_ble_eq_true rfl) (Nat.le_of_ble_eq_true rfl)
  · refine xr_aload_n S 0 dX7_pilotFor_18 rfl ?_
    refine xr_iload S 6 dX7_pilotFor_19 rfl ?_
    refine xr_iload_n S 1 dX7_pilotFor_21 rfl ?_
    refine xr_iload_n S 2 dX7_pilotFor_22 rfl ?_
    refine xr_iload_n S 3 dX7_pilotFor_23 rfl ?_
    obtain ⟨f2, f2x⟩ := id hO
    refine xr_callV S 8 [.int l6, .int l1, .int l2, .int l3] [] dX7_pilotFor_24 (k_X7_isReady l (xdc X) h l0 l6 l1 l2 l3 _ hw) gX7_pilotFor_X7_isReady rfl pd_X7_isReady ⟨Nat.le_of_ble_eq_true rfl, Nat.le_of_ble_eq_true rfl⟩ rfl (Nat.le_of_ble_eq_true rfl) ⟨Nat.le_of_ble_eq_true rfl, Nat.le_of_ble_eq_true rfl⟩ f2x rfl (fun v9 h5 hv => ?_)
    obtain ⟨r3, rfl, rfl, hw⟩ := hv
    refine xw_if_ne S 33 dX7_pilotFor_27 (by decide) hw (fun c hw => ?_) (fun c hw => ?_)
    · refine xr_aload_n S 0 dX7_pilotFor_33 rfl ?_
      refine xr_iload S 6 dX7_pilotFor_34 rfl ?_
      obtain ⟨f6, f6x⟩ := id hO
      refine xr_callV S 8 [.int l6] [] dX7_pilotFor_36 (k_X7_lastTrip l (xdc X) h l0 l6 _ hw) gX7_pilotFor_X7_lastTrip rfl pd_X7_lastTrip ⟨Nat.le_of_ble_eq_true rfl, Nat.le_of_ble_eq_true rfl⟩ rfl (Nat.le_of_ble_eq_true rfl) ⟨Nat.le_of_ble_eq_true rfl, Nat.le_of_ble_eq_true rfl⟩ f6x rfl (fun v9 h9 hv => ?_)
      obtain ⟨r7, rfl, rfl, hw⟩ := hv
      refine xr_iconst S (-1) dX7_pilotFor_39 (by decide) ?_
      refine xw_icmp_ne S 47 dX7_pilotFor_40 (by decide) hw (fun c hw => ?_) (fun c hw => ?_)
      · refine xr_aload_n S 0 dX7_pilotFor_47 rfl ?_
        refine xr_aload_n S 0 dX7_pilotFor_48 rfl ?_
        refine xr_iload S 6 dX7_pilotFor_49 rfl ?_
        obtain ⟨f10, f10x⟩ := id hO
        refine xr_callV S 8 [.int l6] [.ref l0] dX7_pilotFor_51 (k_X7_lastTrip l (xdc X) h l0 l6 _ hw) gX7_pilotFor_X7_lastTrip rfl pd_X7_lastTrip ⟨Nat.le_of_ble_eq_true rfl, Nat.le_of_ble_eq_true rfl⟩ rfl (Nat.le_of_ble_eq_true rfl) ⟨Nat.le_of_ble_eq_true rfl, Nat.le_of_ble_eq_true rfl⟩ f10x rfl (fun v9 h13 hv => ?_)
        obtain ⟨r11, rfl, rfl, hw⟩ := hv
        obtain ⟨f14, f14x⟩ := id hO
        refine xr_callV S 8 [.int r11] [] dX7_pilotFor_54 (k_X7_end l (xdc X) h l0 r11 _ hw) gX7_pilotFor_X7_end rfl pd_X7_end ⟨Nat.le_of_ble_eq_true rfl, Nat.le_of_ble_eq_true rfl⟩ rfl (Nat.le_of_ble_eq_true rfl) ⟨Nat.le_of_ble_eq_true rfl, Nat.le_of_ble_eq_true rfl⟩ f14x rfl (fun v9 h17 hv => ?_)
        obtain ⟨r15, rfl, rfl, hw⟩ := hv
        exact k_X7_pilotFor_57 S h l0 l1 l2 l3 l4 l5 l6 r15 Po E hO rec9 hr9 hw
      · refine xr_iconst S (-1) dX7_pilotFor_43 (by decide) ?_
        refine xr_goto S (tgt := 57) dX7_pilotFor_44 (by decide) ?_
        exact k_X7_pilotFor_57 S h l0 l1 l2 l3 l4 l5 l6 (-1) Po E hO rec9 hr9 hw
    · refine xr_goto S (tgt := 83) dX7_pilotFor_30 (by decide) ?_
      exact k_X7_pilotFor_83 S h l0 l1 l2 l3 l4 l5 l6 Po E hO rec9 hr9 hw
def w_X7_pilotFor (dc : Nat × Nat) (h : XH) (l0 : Nat) (l1 : Int32) (l2 : Int32) (l3 : Int32) (Po : Int32 → Prop) : Prop :=
  wO h l0 8 (w_X7_pilotFor_9 dc h l0 l1 l2 l3 Po ((-1), 0, 0))
set_option maxRecDepth 100000 in
set_option maxHeartbeats 4000000 in
theorem k_X7_pilotFor (l : Launch) (dc : Nat × Nat) (h : XH) (l0 : Nat) (l1 : Int32) (l2 : Int32) (l3 : Int32) (Po : Int32 → Prop) (hw : w_X7_pilotFor dc h l0 l1 l2 l3 Po) : xM l dc yX7_pilotFor wsX7_pilotFor 5 114 0 0 [.ref l0, .int l1, .int l2, .int l3] h (xRi h Po) := by
  refine xM_of [(0, .ref l0), (1, .int l1), (2, .int l2), (3, .int l3)] (own := RX7) (cc := cX7_pilotFor) (nL := 8) (ret := (some .int)) (by decide +kernel) rfl rfl (Nat.le_of_ble_eq_true rfl) rfl ?_
  intro X V hX S E
  subst hX
  obtain ⟨hO, hw⟩ := hw
  refine xr_iconst S (-1) dX7_pilotFor_0 (by decide) ?_
  refine xr_istore S [(4, .int (-1)), (0, .ref l0), (1, .int l1), (2, .int l2), (3, .int l3)] dX7_pilotFor_1 (by decide) rfl ?_
  refine xr_iconst S (0) dX7_pilotFor_3 (by decide) ?_
  refine xr_istore S [(5, .int 0), (4, .int (-1)), (0, .ref l0), (1, .int l1), (2, .int l2), (3, .int l3)] dX7_pilotFor_4 (by decide) rfl ?_
  refine xr_iconst S (0) dX7_pilotFor_6 (by decide) ?_
  refine xr_istore S [(6, .int 0), (5, .int 0), (4, .int (-1)), (0, .ref l0), (1, .int l1), (2, .int l2), (3, .int l3)] dX7_pilotFor_7 (by decide) rfl ?_
  refine xr_sub S [(0, .ref l0), (1, .int l1), (2, .int l2), (3, .int l3), (4, .int (-1)), (5, .int 0), (6, .int 0)] [3, 4, 5, 6, 2, 1, 0] rfl ?_
  exact k_X7_pilotFor_9 S h l0 l1 l2 l3 Po E hO ((-1), 0, 0) hw
theorem in_X7_isBerthFree_X7 : ∀ w ∈ wsX70, w ∈ wsX7_isBerthFree := by decide +kernel
theorem m_X7_isBerthFree_1 : Cond.fieldLink RX7 72 "PilotBookModel" "passages" "I" ∈ wsX7_isBerthFree := by decide +kernel
def w_X7_isBerthFree_55 (dc : Nat × Nat) (h : XH) (l0 : Nat) (l1 : Int32) (l2 : Int32) (l3 : Int32) (l4 : Int32) (Po : Int32 → Prop) (rec3 : Int32 → Prop) : Prop :=
  rec3 (l4 + 1)
set_option maxRecDepth 100000 in
set_option maxHeartbeats 4000000 in
theorem k_X7_isBerthFree_55 {V : XVT} {X : XC} {l : Launch} (S : xS V X l RX7 yX7_isBerthFree.name cX7_isBerthFree 5 wsX7_isBerthFree (xRm 3 66 0 0)) (h : XH) (l0 : Nat) (l1 : Int32) (l2 : Int32) (l3 : Int32) (l4 : Int32) (Po : Int32 → Prop) (E : xEnd V cX7_isBerthFree (some .boolean) 0 0 (xRi h Po)) (hO : ∃ fs, h l0 = some (.inr (8, fs))) (rec3 : Int32 → Prop) (hr3 : ∀ s : Int32, rec3 s → V 0 0 h 3 [(0, .ref l0), (1, .int l1), (2, .int l2), (3, .int l3), (4, .int s)] []) (hw : w_X7_isBerthFree_55 (xdc X) h l0 l1 l2 l3 l4 Po rec3) : V 0 0 h 55 [(0, .ref l0), (1, .int l1), (2, .int l2), (3, .int l3), (4, .int l4)] [] := by
  refine xr_iinc S 4 ((l4 + 1)) [(4, .int (l4 + 1)), (0, .ref l0), (1, .int l1), (2, .int l2), (3, .int l3)] dX7_isBerthFree_55 rfl rfl (by decide) rfl ?_
  refine xr_goto S (tgt := 3) dX7_isBerthFree_58 (by decide) ?_
  refine xr_sub S [(0, .ref l0), (1, .int l1), (2, .int l2), (3, .int l3), (4, .int (l4 + 1))] [1, 2, 3, 4, 0] rfl ?_
  exact hr3 (l4 + 1) hw
def w_X7_isBerthFree_3_F (dc : Nat × Nat) (h : XH) (l0 : Nat) (l1 : Int32) (l2 : Int32) (l3 : Int32) (Po : Int32 → Prop) (rec3 : Int32 → Prop) : Int32 → Prop := fun l4 =>
  wI h l0 8 16 (fun v1 => wIf (v1 ≤ l4) (wZ 1 (Po 1)) (w_X7_isOut dc h l0 l4 (fun r3 => wIf (r3 = 0) (w_X7_get dc h l0 l4 4 (fun r7 => wIf (r7 = l2) (w_X7_get dc h l0 l4 0 (fun r11 => wIf (r11 = l1) (w_X7_isBerthFree_55 dc h l0 l1 l2 l3 l4 Po rec3) (w_X7_leaves dc h l0 l4 (fun r15 => wIf (r15 ≤ l3) (w_X7_isBerthFree_55 dc h l0 l1 l2 l3 l4 Po rec3) (wZ 0 (Po 0)))))) (w_X7_isBerthFree_55 dc h l0 l1 l2 l3 l4 Po rec3))) (w_X7_isBerthFree_55 dc h l0 l1 l2 l3 l4 Po rec3))))
def w_X7_isBerthFree_3 (dc : Nat × Nat) (h : XH) (l0 : Nat) (l1 : Int32) (l2 : Int32) (l3 : Int32) (Po : Int32 → Prop) : Int32 → Prop := xloop (w_X7_isBerthFree_3_F dc h l0 l1 l2 l3 Po)
set_option maxRecDepth 100000 in
set_option maxHeartbeats 4000000 in
theorem k_X7_isBerthFree_3 {V : XVT} {X : XC} {l : Launch} (S : xS V X l RX7 yX7_isBerthFree.name cX7_isBerthFree 5 wsX7_isBerthFree (xRm 3 66 0 0)) (h : XH) (l0 : Nat) (l1 : Int32) (l2 : Int32) (l3 : Int32) (Po : Int32 → Prop) (E : xEnd V cX7_isBerthFree (some .boolean) 0 0 (xRi h Po)) (hO : ∃ fs, h l0 = some (.inr (8, fs))) (s0 : Int32) (hw : w_X7_isBerthFree_3 (xdc X) h l0 l1 l2 l3 Po s0) : V 0 0 h 3 [(0, .ref l0), (1, .int l1), (2, .int l2), (3, .int l3), (4, .int s0)] [] := by
  refine xloop_use (P := fun s : Int32 => V 0 0 h 3 [(0, .ref l0), (1, .int l1), (2, .int l2), (3, .int l3), (4, .int s)] []) (fun rec3 hr3 s hw => ?_) hw
  obtain ⟨l4, rfl⟩ : ∃ z, z = s := ⟨s, rfl⟩
  refine xr_iload S 4 dX7_isBerthFree_3 rfl ?_
  refine xr_aload_n S 0 dX7_isBerthFree_5 rfl ?_
  refine xw_getI S 8 16 dX7_isBerthFree_6 in_X7_isBerthFree_X7 rfl (by decide) (Or.inl m_X7_isBerthFree_1) (Or.inl rfl) hw (fun v1 hw => ?_)
  refine xw_icmp_ge S 61 dX7_isBerthFree_9 (by decide) hw (fun c hw => ?_) (fun c hw => ?_)
  · refine xr_iconst S (1) dX7_isBerthFree_61 (by decide) ?_
    obtain ⟨hz, hw⟩ := hw
    exact E.2.1 _ _ _ _ _ _ rfl hz dX7_isBerthFree_62 ⟨_, rfl, rfl, hw⟩ (Nat.le_of_ble_eq_true rfl) (Nat.le_of_ble_eq_true rfl)
  · refine xr_aload_n S 0 dX7_isBerthFree_12 rfl ?_
    refine xr_iload S 4 dX7_isBerthFree_13 rfl ?_
    obtain ⟨f2, f2x⟩ := id hO
    refine xr_callV S 8 [.int l4] [] dX7_isBerthFree_15 (k_X7_isOut l (xdc X) h l0 l4 _ hw) gX7_isBerthFree_X7_isOut rfl pd_X7_isOut ⟨Nat.le_of_ble_eq_true rfl, Nat.le_of_ble_eq_true rfl⟩ rfl (Nat.le_of_ble_eq_true rfl) ⟨Nat.le_of_ble_eq_true rfl, Nat.le_of_ble_eq_true rfl⟩ f2x rfl (fun v9 h5 hv => ?_)
    obtain ⟨r3, rfl, rfl, hw⟩ := hv
    refine xw_if_ne S 55 dX7_isBerthFree_18 (by decide) hw (fun c hw => ?_) (fun c hw => ?_)
    · exact k_X7_isBerthFree_55 S h l0 l1 l2 l3 l4 Po E hO rec3 hr3 hw
    · refine xr_aload_n S 0 dX7_isBerthFree_21 rfl ?_
      refine xr_iload S 4 dX7_isBerthFree_22 rfl ?_
      refine xr_iconst S (4) dX7_isBerthFree_24 (by decide) ?_
      obtain ⟨f6, f6x⟩ := id hO
      refine xr_callV S 8 [.int l4, .int 4] [] dX7_isBerthFree_25 (k_X7_get l (xdc X) h l0 l4 4 _ hw) gX7_isBerthFree_X7_get rfl pd_X7_get ⟨Nat.le_of_ble_eq_true rfl, Nat.le_of_ble_eq_true rfl⟩ rfl (Nat.le_of_ble_eq_true rfl) ⟨Nat.le_of_ble_eq_true rfl, Nat.le_of_ble_eq_true rfl⟩ f6x rfl (fun v9 h9 hv => ?_)
      obtain ⟨r7, rfl, rfl, hw⟩ := hv
      refine xr_iload_n S 2 dX7_isBerthFree_28 rfl ?_
      refine xw_icmp_ne S 55 dX7_isBerthFree_29 (by decide) hw (fun c hw => ?_) (fun c hw => ?_)
      · exact k_X7_isBerthFree_55 S h l0 l1 l2 l3 l4 Po E hO rec3 hr3 hw
      · refine xr_aload_n S 0 dX7_isBerthFree_32 rfl ?_
        refine xr_iload S 4 dX7_isBerthFree_33 rfl ?_
        refine xr_iconst S (0) dX7_isBerthFree_35 (by decide) ?_
        obtain ⟨f10, f10x⟩ := id hO
        refine xr_callV S 8 [.int l4, .int 0] [] dX7_isBerthFree_36 (k_X7_get l (xdc X) h l0 l4 0 _ hw) gX7_isBerthFree_X7_get rfl pd_X7_get ⟨Nat.le_of_ble_eq_true rfl, Nat.le_of_ble_eq_true rfl⟩ rfl (Nat.le_of_ble_eq_true rfl) ⟨Nat.le_of_ble_eq_true rfl, Nat.le_of_ble_eq_true rfl⟩ f10x rfl (fun v9 h13 hv => ?_)
        obtain ⟨r11, rfl, rfl, hw⟩ := hv
        refine xr_iload_n S 1 dX7_isBerthFree_39 rfl ?_
        refine xw_icmp_eq S 55 dX7_isBerthFree_40 (by decide) hw (fun c hw => ?_) (fun c hw => ?_)
        · exact k_X7_isBerthFree_55 S h l0 l1 l2 l3 l4 Po E hO rec3 hr3 hw
        · refine xr_aload_n S 0 dX7_isBerthFree_43 rfl ?_
          refine xr_iload S 4 dX7_isBerthFree_44 rfl ?_
          obtain ⟨f14, f14x⟩ := id hO
          refine xr_callV S 8 [.int l4] [] dX7_isBerthFree_46 (k_X7_leaves l (xdc X) h l0 l4 _ hw) gX7_isBerthFree_X7_leaves rfl pd_X7_leaves ⟨Nat.le_of_ble_eq_true rfl, Nat.le_of_ble_eq_true rfl⟩ rfl (Nat.le_of_ble_eq_true rfl) ⟨Nat.le_of_ble_eq_true rfl, Nat.le_of_ble_eq_true rfl⟩ f14x rfl (fun v9 h17 hv => ?_)
          obtain ⟨r15, rfl, rfl, hw⟩ := hv
          refine xr_iload_n S 3 dX7_isBerthFree_49 rfl ?_
          refine xw_icmp_le S 55 dX7_isBerthFree_50 (by decide) hw (fun c hw => ?_) (fun c hw => ?_)
          · exact k_X7_isBerthFree_55 S h l0 l1 l2 l3 l4 Po E hO rec3 hr3 hw
          · refine xr_iconst S (0) dX7_isBerthFree_53 (by decide) ?_
            obtain ⟨hz, hw⟩ := hw
            exact E.2.1 _ _ _ _ _ _ rfl hz dX7_isBerthFree_54 ⟨_, rfl, rfl, hw⟩ (Nat.le_of_ble_eq_true rfl) (Nat.le_of_ble_eq_true rfl)
def w_X7_isBerthFree (dc : Nat × Nat) (h : XH) (l0 : Nat) (l1 : Int32) (l2 : Int32) (l3 : Int32) (Po : Int32 → Prop) : Prop :=
  wO h l0 8 (w_X7_isBerthFree_3 dc h l0 l1 l2 l3 Po 0)
set_option maxRecDepth 100000 in
set_option maxHeartbeats 4000000 in
theorem k_X7_isBerthFree (l : Launch) (dc : Nat × Nat) (h : XH) (l0 : Nat) (l1 : Int32) (l2 : Int32) (l3 : Int32) (Po : Int32 → Prop) (hw : w_X7_isBerthFree dc h l0 l1 l2 l3 Po) : xM l dc yX7_isBerthFree wsX7_isBerthFree 3 66 0 0 [.ref l0, .int l1, .int l2, .int l3] h (xRi h Po) := by
  refine xM_of [(0, .ref l0), (1, .int l1), (2, .int l2), (3, .int l3)] (own := RX7) (cc := cX7_isBerthFree) (nL := 5) (ret := (some .boolean)) (by decide +kernel) rfl rfl (Nat.le_of_ble_eq_true rfl) rfl ?_
  intro X V hX S E
  subst hX
  obtain ⟨hO, hw⟩ := hw
  refine xr_iconst S (0) dX7_isBerthFree_0 (by decide) ?_
  refine xr_istore S [(4, .int 0), (0, .ref l0), (1, .int l1), (2, .int l2), (3, .int l3)] dX7_isBerthFree_1 (by decide) rfl ?_
  refine xr_sub S [(0, .ref l0), (1, .int l1), (2, .int l2), (3, .int l3), (4, .int 0)] [1, 2, 3, 4, 0] rfl ?_
  exact k_X7_isBerthFree_3 S h l0 l1 l2 l3 Po E hO 0 hw
theorem in_X7_isApart_X7 : ∀ w ∈ wsX70, w ∈ wsX7_isApart := by decide +kernel
theorem m_X7_isApart_1 : Cond.fieldLink RX7 72 "PilotBookModel" "passages" "I" ∈ wsX7_isApart := by decide +kernel
theorem m_X7_isApart_2 : Cond.methodLink RX7 139 Lib.Math.abs.name ∈ wsX7_isApart := by decide +kernel
theorem m_X7_isApart_3 : Cond.static Lib.Math.abs.name ∈ wsX7_isApart := by decide +kernel
theorem m_X7_isApart_4 : Cond.initialized "java/lang/Math" ∈ wsX7_isApart := by decide +kernel
theorem m_X7_isApart_5 : Cond.code Lib.Math.abs.name Lib.Math.abs.code 1 (some .int) ∈ wsX7_isApart := by decide +kernel
def w_X7_isApart_36 (dc : Nat × Nat) (h : XH) (l0 : Nat) (l1 : Int32) (l2 : Int32) (l3 : Int32) (t0 : Int32) (t1 : Int32) (Po : Int32 → Prop) (rec2 : Int32 → Prop) : Prop :=
  wIf (t1 ≤ t0) (rec2 (l3 + 1)) (wZ 0 (Po 0))
set_option maxRecDepth 100000 in
set_option maxHeartbeats 4000000 in
theorem k_X7_isApart_36 {V : XVT} {X : XC} {l : Launch} (S : xS V X l RX7 yX7_isApart.name cX7_isApart 4 wsX7_isApart (xRm 2 43 0 0)) (h : XH) (l0 : Nat) (l1 : Int32) (l2 : Int32) (l3 : Int32) (t0 : Int32) (t1 : Int32) (Po : Int32 → Prop) (E : xEnd V cX7_isApart (some .boolean) 0 0 (xRi h Po)) (hO : ∃ fs, h l0 = some (.inr (8, fs))) (rec2 : Int32 → Prop) (hr2 : ∀ s : Int32, rec2 s → V 0 0 h 2 [(0, .ref l0), (1, .int l1), (2, .int l2), (3, .int s)] []) (hw : w_X7_isApart_36 (xdc X) h l0 l1 l2 l3 t0 t1 Po rec2) : V 0 0 h 36 [(0, .ref l0), (1, .int l1), (2, .int l2), (3, .int l3)] [.int t1, .int t0] := by
  refine xw_icmp_ge S 41 dX7_isApart_36 (by decide) hw (fun c hw => ?_) (fun c hw => ?_)
  · refine xr_iinc S 3 ((l3 + 1)) [(3, .int (l3 + 1)), (0, .ref l0), (1, .int l1), (2, .int l2)] dX7_isApart_41 rfl rfl (by decide) rfl ?_
    refine xr_goto S (tgt := 2) dX7_isApart_44 (by decide) ?_
    refine xr_sub S [(0, .ref l0), (1, .int l1), (2, .int l2), (3, .int (l3 + 1))] [1, 2, 3, 0] rfl ?_
    exact hr2 (l3 + 1) hw
  · refine xr_iconst S (0) dX7_isApart_39 (by decide) ?_
    obtain ⟨hz, hw⟩ := hw
    exact E.2.1 _ _ _ _ _ _ rfl hz dX7_isApart_40 ⟨_, rfl, rfl, hw⟩ (Nat.le_of_ble_eq_true rfl) (Nat.le_of_ble_eq_true rfl)
def w_X7_isApart_2_F (dc : Nat × Nat) (h : XH) (l0 : Nat) (l1 : Int32) (l2 : Int32) (Po : Int32 → Prop) (rec2 : Int32 → Prop) : Int32 → Prop := fun l3 =>
  wI h l0 8 16 (fun v1 => wIf (v1 ≤ l3) (wZ 1 (Po 1)) (w_X7_begin dc h l0 l3 (fun r3 => w_X7_isOut dc h l0 l3 (fun r7 => wIf (r7 = l1) (w_X7_isApart_36 dc h l0 l1 l2 l3 (if 0 ≤ (r3 - l2) then (r3 - l2) else 0 - (r3 - l2)) 20 Po rec2) (w_X7_isApart_36 dc h l0 l1 l2 l3 (if 0 ≤ (r3 - l2) then (r3 - l2) else 0 - (r3 - l2)) 60 Po rec2)))))
def w_X7_isApart_2 (dc : Nat × Nat) (h : XH) (l0 : Nat) (l1 : Int32) (l2 : Int32) (Po : Int32 → Prop) : Int32 → Prop := xloop (w_X7_isApart_2_F dc h l0 l1 l2 Po)
set_option maxRecDepth 100000 in
set_option maxHeartbeats 4000000 in
theorem k_X7_isApart_2 {V : XVT} {X : XC} {l : Launch} (S : xS V X l RX7 yX7_isApart.name cX7_isApart 4 wsX7_isApart (xRm 2 43 0 0)) (h : XH) (l0 : Nat) (l1 : Int32) (l2 : Int32) (Po : Int32 → Prop) (E : xEnd V cX7_isApart (some .boolean) 0 0 (xRi h Po)) (hO : ∃ fs, h l0 = some (.inr (8, fs))) (s0 : Int32) (hw : w_X7_isApart_2 (xdc X) h l0 l1 l2 Po s0) : V 0 0 h 2 [(0, .ref l0), (1, .int l1), (2, .int l2), (3, .int s0)] [] := by
  refine xloop_use (P := fun s : Int32 => V 0 0 h 2 [(0, .ref l0), (1, .int l1), (2, .int l2), (3, .int s)] []) (fun rec2 hr2 s hw => ?_) hw
  obtain ⟨l3, rfl⟩ : ∃ z, z = s := ⟨s, rfl⟩
  refine xr_iload_n S 3 dX7_isApart_2 rfl ?_
  refine xr_aload_n S 0 dX7_isApart_3 rfl ?_
  refine xw_getI S 8 16 dX7_isApart_4 in_X7_isApart_X7 rfl (by decide) (Or.inl m_X7_isApart_1) (Or.inl rfl) hw (fun v1 hw => ?_)
  refine xw_icmp_ge S 47 dX7_isApart_7 (by decide) hw (fun c hw => ?_) (fun c hw => ?_)
  · refine xr_iconst S (1) dX7_isApart_47 (by decide) ?_
    obtain ⟨hz, hw⟩ := hw
    exact E.2.1 _ _ _ _ _ _ rfl hz dX7_isApart_48 ⟨_, rfl, rfl, hw⟩ (Nat.le_of_ble_eq_true rfl) (Nat.le_of_ble_eq_true rfl)
  · refine xr_aload_n S 0 dX7_isApart_10 rfl ?_
    refine xr_iload_n S 3 dX7_isApart_11 rfl ?_
    obtain ⟨f2, f2x⟩ := id hO
    refine xr_callV S 8 [.int l3] [] dX7_isApart_12 (k_X7_begin l (xdc X) h l0 l3 _ hw) gX7_isApart_X7_begin rfl pd_X7_begin ⟨Nat.le_of_ble_eq_true rfl, Nat.le_of_ble_eq_true rfl⟩ rfl (Nat.le_of_ble_eq_true rfl) ⟨Nat.le_of_ble_eq_true rfl, Nat.le_of_ble_eq_true rfl⟩ f2x rfl (fun v9 h5 hv => ?_)
    obtain ⟨r3, rfl, rfl, hw⟩ := hv
    refine xr_iload_n S 2 dX7_isApart_15 rfl ?_
    refine xr_isub S dX7_isApart_16 ?_
    refine xr_mabs S dX7_isApart_17 m_X7_isApart_2 m_X7_isApart_3 m_X7_isApart_4 m_X7_isApart_5 (Nat.le_of_ble_eq_true rfl) (Nat.le_of_ble_eq_true rfl) ⟨Nat.le_of_ble_eq_true rfl, Nat.le_of_ble_eq_true rfl⟩ ?_
    refine xr_aload_n S 0 dX7_isApart_20 rfl ?_
    refine xr_iload_n S 3 dX7_isApart_21 rfl ?_
    obtain ⟨f6, f6x⟩ := id hO
    refine xr_callV S 8 [.int l3] [.int (if 0 ≤ (r3 - l2) then (r3 - l2) else 0 - (r3 - l2))] dX7_isApart_22 (k_X7_isOut l (xdc X) h l0 l3 _ hw) gX7_isApart_X7_isOut rfl pd_X7_isOut ⟨Nat.le_of_ble_eq_true rfl, Nat.le_of_ble_eq_true rfl⟩ rfl (Nat.le_of_ble_eq_true rfl) ⟨Nat.le_of_ble_eq_true rfl, Nat.le_of_ble_eq_true rfl⟩ f6x rfl (fun v9 h9 hv => ?_)
    obtain ⟨r7, rfl, rfl, hw⟩ := hv
    refine xr_iload_n S 1 dX7_isApart_25 rfl ?_
    refine xw_icmp_ne S 34 dX7_isApart_26 (by decide) hw (fun c hw => ?_) (fun c hw => ?_)
    · refine xr_bipush S (60) dX7_isApart_34 (by decide) ?_
      exact k_X7_isApart_36 S h l0 l1 l2 l3 (if 0 ≤ (r3 - l2) then (r3 - l2) else 0 - (r3 - l2)) 60 Po E hO rec2 hr2 hw
    · refine xr_bipush S (20) dX7_isApart_29 (by decide) ?_
      refine xr_goto S (tgt := 36) dX7_isApart_31 (by decide) ?_
      exact k_X7_isApart_36 S h l0 l1 l2 l3 (if 0 ≤ (r3 - l2) then (r3 - l2) else 0 - (r3 - l2)) 20 Po E hO rec2 hr2 hw
def w_X7_isApart (dc : Nat × Nat) (h : XH) (l0 : Nat) (l1 : Int32) (l2 : Int32) (Po : Int32 → Prop) : Prop :=
  wO h l0 8 (w_X7_isApart_2 dc h l0 l1 l2 Po 0)
set_option maxRecDepth 100000 in
set_option maxHeartbeats 4000000 in
theorem k_X7_isApart (l : Launch) (dc : Nat × Nat) (h : XH) (l0 : Nat) (l1 : Int32) (l2 : Int32) (Po : Int32 → Prop) (hw : w_X7_isApart dc h l0 l1 l2 Po) : xM l dc yX7_isApart wsX7_isApart 2 43 0 0 [.ref l0, .int l1, .int l2] h (xRi h Po) := by
  refine xM_of [(0, .ref l0), (1, .int l1), (2, .int l2)] (own := RX7) (cc := cX7_isApart) (nL := 4) (ret := (some .boolean)) (by decide +kernel) rfl rfl (Nat.le_of_ble_eq_true rfl) rfl ?_
  intro X V hX S E
  subst hX
  obtain ⟨hO, hw⟩ := hw
  refine xr_iconst S (0) dX7_isApart_0 (by decide) ?_
  refine xr_istore_n S [(3, .int 0), (0, .ref l0), (1, .int l1), (2, .int l2)] dX7_isApart_1 (by decide) rfl ?_
  refine xr_sub S [(0, .ref l0), (1, .int l1), (2, .int l2), (3, .int 0)] [1, 2, 3, 0] rfl ?_
  exact k_X7_isApart_2 S h l0 l1 l2 Po E hO 0 hw
theorem in_X7_canBegin_X7 : ∀ w ∈ wsX70, w ∈ wsX7_canBegin := by decide +kernel
theorem m_X7_canBegin_1 : Cond.fieldLink RX7 29 "PilotBookModel" "lengths" "[I" ∈ wsX7_canBegin := by decide +kernel
theorem m_X7_canBegin_2 : Cond.fieldLink RX7 23 "PilotBookModel" "berthLengths" "[I" ∈ wsX7_canBegin := by decide +kernel
def w_X7_canBegin_183 (dc : Nat × Nat) (h : XH) (l0 : Nat) (l1 : Int32) (l3 : Int32) (l4 : Int32) (Po : Int32 → Prop) : Prop :=
  w_X7_isApart dc h l0 l4 l3 (fun r16 => wIf (r16 = 0) (wZ 0 (Po 0)) (wR h l0 8 10 (fun a19 => wAI h 2 a19 l1 (fun v20 => w_X7_pilotFor dc h l0 v20 l4 l3 (fun r22 => wIf (r22 = (-1)) (wZ 0 (Po 0)) (wR h l0 8 10 (fun a25 => wAI h 2 a25 l1 (fun v26 => w_X7_areTugs dc h l0 v26 l4 l3 (fun r28 => wIf (r28 = 0) (wZ 0 (Po 0)) (wZ 1 (Po 1)))))))))))
set_option maxRecDepth 100000 in
set_option maxHeartbeats 4000000 in
theorem k_X7_canBegin_183 {V : XVT} {X : XC} {l : Launch} (S : xS V X l RX7 yX7_canBegin.name cX7_canBegin 7 wsX7_canBegin (xRm 6 141 0 0)) (h : XH) (l0 : Nat) (l1 : Int32) (l3 : Int32) (l4 : Int32) (Po : Int32 → Prop) (E : xEnd V cX7_canBegin (some .boolean) 0 0 (xRi h Po)) (hO : ∃ fs, h l0 = some (.inr (8, fs))) (hw : w_X7_canBegin_183 (xdc X) h l0 l1 l3 l4 Po) : V 0 0 h 183 [(0, .ref l0), (1, .int l1), (3, .int l3), (4, .int l4)] [] := by
  refine xr_aload_n S 0 dX7_canBegin_183 rfl ?_
  refine xr_iload S 3 dX7_canBegin_184 rfl ?_
  refine xr_iload_n S 2 dX7_canBegin_186 rfl ?_
  obtain ⟨f15, f15x⟩ := id hO
  refine xr_callV S 8 [.int l4, .int l3] [] dX7_canBegin_187 (k_X7_isApart l (xdc X) h l0 l4 l3 _ hw) gX7_canBegin_X7_isApart rfl pd_X7_isApart ⟨Nat.le_of_ble_eq_true rfl, Nat.le_of_ble_eq_true rfl⟩ rfl (Nat.le_of_ble_eq_true rfl) ⟨Nat.le_of_ble_eq_true rfl, Nat.le_of_ble_eq_true rfl⟩ f15x rfl (fun v9 h18 hv => ?_)
  obtain ⟨r16, rfl, rfl, hw⟩ := hv
  refine xw_if_eq S 230 dX7_canBegin_190 (by decide) hw (fun c hw => ?_) (fun c hw => ?_)
  · refine xr_iconst S (0) dX7_canBegin_230 (by decide) ?_
    obtain ⟨hz, hw⟩ := hw
    exact E.2.1 _ _ _ _ _ _ rfl hz dX7_canBegin_231 ⟨_, rfl, rfl, hw⟩ (Nat.le_of_ble_eq_true rfl) (Nat.le_of_ble_eq_true rfl)
  · refine xr_aload_n S 0 dX7_canBegin_193 rfl ?_
    refine xr_aload_n S 0 dX7_canBegin_194 rfl ?_
    refine xw_getR S 8 10 dX7_canBegin_195 in_X7_canBegin_X7 rfl (by decide) (Or.inl m_X7_canBegin_1) (Or.inl rfl) hw (fun a19 hw => ?_)
    refine xr_iload_n S 1 dX7_canBegin_198 rfl ?_
    refine xw_iald S 2 dX7_canBegin_199 (Or.inr rfl) hw (fun v20 hw => ?_)
    refine xr_iload S 3 dX7_canBegin_200 rfl ?_
    refine xr_iload_n S 2 dX7_canBegin_202 rfl ?_
    obtain ⟨f21, f21x⟩ := id hO
    refine xr_callV S 8 [.int v20, .int l4, .int l3] [] dX7_canBegin_203 (k_X7_pilotFor l (xdc X) h l0 v20 l4 l3 _ hw) gX7_canBegin_X7_pilotFor rfl pd_X7_pilotFor ⟨Nat.le_of_ble_eq_true rfl, Nat.le_of_ble_eq_true rfl⟩ rfl (Nat.le_of_ble_eq_true rfl) ⟨Nat.le_of_ble_eq_true rfl, Nat.le_of_ble_eq_true rfl⟩ f21x rfl (fun v9 h24 hv => ?_)
    obtain ⟨r22, rfl, rfl, hw⟩ := hv
    refine xr_iconst S (-1) dX7_canBegin_206 (by decide) ?_
    refine xw_icmp_eq S 230 dX7_canBegin_207 (by decide) hw (fun c hw => ?_) (fun c hw => ?_)
    · refine xr_iconst S (0) dX7_canBegin_230 (by decide) ?_
      obtain ⟨hz, hw⟩ := hw
      exact E.2.1 _ _ _ _ _ _ rfl hz dX7_canBegin_231 ⟨_, rfl, rfl, hw⟩ (Nat.le_of_ble_eq_true rfl) (Nat.le_of_ble_eq_true rfl)
    · refine xr_aload_n S 0 dX7_canBegin_210 rfl ?_
      refine xr_aload_n S 0 dX7_canBegin_211 rfl ?_
      refine xw_getR S 8 10 dX7_canBegin_212 in_X7_canBegin_X7 rfl (by decide) (Or.inl m_X7_canBegin_1) (Or.inl rfl) hw (fun a25 hw => ?_)
      refine xr_iload_n S 1 dX7_canBegin_215 rfl ?_
      refine xw_iald S 2 dX7_canBegin_216 (Or.inr rfl) hw (fun v26 hw => ?_)
      refine xr_iload S 3 dX7_canBegin_217 rfl ?_
      refine xr_iload_n S 2 dX7_canBegin_219 rfl ?_
      obtain ⟨f27, f27x⟩ := id hO
      refine xr_callV S 8 [.int v26, .int l4, .int l3] [] dX7_canBegin_220 (k_X7_areTugs l (xdc X) h l0 v26 l4 l3 _ hw) gX7_canBegin_X7_areTugs rfl pd_X7_areTugs ⟨Nat.le_of_ble_eq_true rfl, Nat.le_of_ble_eq_true rfl⟩ rfl (Nat.le_of_ble_eq_true rfl) ⟨Nat.le_of_ble_eq_true rfl, Nat.le_of_ble_eq_true rfl⟩ f27x rfl (fun v9 h30 hv => ?_)
      obtain ⟨r28, rfl, rfl, hw⟩ := hv
      refine xw_if_eq S 230 dX7_canBegin_223 (by decide) hw (fun c hw => ?_) (fun c hw => ?_)
      · refine xr_iconst S (0) dX7_canBegin_230 (by decide) ?_
        obtain ⟨hz, hw⟩ := hw
        exact E.2.1 _ _ _ _ _ _ rfl hz dX7_canBegin_231 ⟨_, rfl, rfl, hw⟩ (Nat.le_of_ble_eq_true rfl) (Nat.le_of_ble_eq_true rfl)
      · refine xr_iconst S (1) dX7_canBegin_226 (by decide) ?_
        refine xr_goto S (tgt := 231) dX7_canBegin_227 (by decide) ?_
        obtain ⟨hz, hw⟩ := hw
        exact E.2.1 _ _ _ _ _ _ rfl hz dX7_canBegin_231 ⟨_, rfl, rfl, hw⟩ (Nat.le_of_ble_eq_true rfl) (Nat.le_of_ble_eq_true rfl)
def w_X7_canBegin_139 (dc : Nat × Nat) (h : XH) (l0 : Nat) (l1 : Int32) (l2 : Int32) (l3 : Int32) (l4 : Int32) (t0 : Nat) (t1 : Int32) (t2 : Int32) (Po : Int32 → Prop) : Prop :=
  wO h t0 8 ( w_X7_hasWater dc h t0 t1 t2 (l3 + 60) (fun r12 => wIf (r12 = 0) (wZ 0 (Po 0)) (wIf (l4 = 0) (wR h l0 8 7 (fun a31 => wAI h 2 a31 l2 (fun v32 => wR h l0 8 10 (fun a33 => wAI h 2 a33 l1 (fun v34 => wIf (v32 < v34) (wZ 0 (Po 0)) (w_X7_isBerthFree dc h l0 l1 l2 l3 (fun r36 => wIf (r36 = 0) (wZ 0 (Po 0)) (w_X7_canBegin_183 dc h l0 l1 l3 l4 Po)))))))) (w_X7_canBegin_183 dc h l0 l1 l3 l4 Po))))
set_option maxRecDepth 100000 in
set_option maxHeartbeats 4000000 in
theorem k_X7_canBegin_139 {V : XVT} {X : XC} {l : Launch} (S : xS V X l RX7 yX7_canBegin.name cX7_canBegin 7 wsX7_canBegin (xRm 6 141 0 0)) (h : XH) (l0 : Nat) (l1 : Int32) (l2 : Int32) (l3 : Int32) (l4 : Int32) (t0 : Nat) (t1 : Int32) (t2 : Int32) (Po : Int32 → Prop) (E : xEnd V cX7_canBegin (some .boolean) 0 0 (xRi h Po)) (hO : ∃ fs, h l0 = some (.inr (8, fs))) (hw : w_X7_canBegin_139 (xdc X) h l0 l1 l2 l3 l4 t0 t1 t2 Po) : V 0 0 h 139 [(0, .ref l0), (1, .int l1), (2, .int l2), (3, .int l3), (4, .int l4)] [.int t2, .int t1, .ref t0] := by
  refine xr_iload_n S 3 dX7_canBegin_139 rfl ?_
  refine xr_bipush S (60) dX7_canBegin_140 (by decide) ?_
  refine xr_iadd S dX7_canBegin_142 ?_
  obtain ⟨e10, hw⟩ := hw
  obtain ⟨f11, f11x⟩ := id e10
  refine xr_callV S 8 [.int t1, .int t2, .int (l3 + 60)] [] dX7_canBegin_143 (k_X7_hasWater l (xdc X) h t0 t1 t2 (l3 + 60) _ hw) gX7_canBegin_X7_hasWater rfl pd_X7_hasWater ⟨Nat.le_of_ble_eq_true rfl, Nat.le_of_ble_eq_true rfl⟩ rfl (Nat.le_of_ble_eq_true rfl) ⟨Nat.le_of_ble_eq_true rfl, Nat.le_of_ble_eq_true rfl⟩ f11x rfl (fun v9 h14 hv => ?_)
  obtain ⟨r12, rfl, rfl, hw⟩ := hv
  refine xw_if_ne S 151 dX7_canBegin_146 (by decide) hw (fun c hw => ?_) (fun c hw => ?_)
  · refine xr_iload S 4 dX7_canBegin_151 rfl ?_
    refine xw_if_ne S 183 dX7_canBegin_153 (by decide) hw (fun c hw => ?_) (fun c hw => ?_)
    · refine xr_sub S [(0, .ref l0), (1, .int l1), (3, .int l3), (4, .int l4)] [0, 1, 3, 4] rfl ?_
      exact k_X7_canBegin_183 S h l0 l1 l3 l4 Po E hO hw
    · refine xr_aload_n S 0 dX7_canBegin_156 rfl ?_
      refine xw_getR S 8 7 dX7_canBegin_157 in_X7_canBegin_X7 rfl (by decide) (Or.inl m_X7_canBegin_2) (Or.inl rfl) hw (fun a31 hw => ?_)
      refine xr_iload_n S 2 dX7_canBegin_160 rfl ?_
      refine xw_iald S 2 dX7_canBegin_161 (Or.inr rfl) hw (fun v32 hw => ?_)
      refine xr_aload_n S 0 dX7_canBegin_162 rfl ?_
      refine xw_getR S 8 10 dX7_canBegin_163 in_X7_canBegin_X7 rfl (by decide) (Or.inl m_X7_canBegin_1) (Or.inl rfl) hw (fun a33 hw => ?_)
      refine xr_iload_n S 1 dX7_canBegin_166 rfl ?_
      refine xw_iald S 2 dX7_canBegin_167 (Or.inr rfl) hw (fun v34 hw => ?_)
      refine xw_icmp_lt S 181 dX7_canBegin_168 (by decide) hw (fun c hw => ?_) (fun c hw => ?_)
      · refine xr_iconst S (0) dX7_canBegin_181 (by decide) ?_
        obtain ⟨hz, hw⟩ := hw
        exact E.2.1 _ _ _ _ _ _ rfl hz dX7_canBegin_182 ⟨_, rfl, rfl, hw⟩ (Nat.le_of_ble_eq_true rfl) (Nat.le_of_ble_eq_true rfl)
      · refine xr_aload_n S 0 dX7_canBegin_171 rfl ?_
        refine xr_iload_n S 1 dX7_canBegin_172 rfl ?_
        refine xr_iload_n S 2 dX7_canBegin_173 rfl ?_
        refine xr_iload_n S 3 dX7_canBegin_174 rfl ?_
        obtain ⟨f35, f35x⟩ := id hO
        refine xr_callV S 8 [.int l1, .int l2, .int l3] [] dX7_canBegin_175 (k_X7_isBerthFree l (xdc X) h l0 l1 l2 l3 _ hw) gX7_canBegin_X7_isBerthFree rfl pd_X7_isBerthFree ⟨Nat.le_of_ble_eq_true rfl, Nat.le_of_ble_eq_true rfl⟩ rfl (Nat.le_of_ble_eq_true rfl) ⟨Nat.le_of_ble_eq_true rfl, Nat.le_of_ble_eq_true rfl⟩ f35x rfl (fun v9 h38 hv => ?_)
        obtain ⟨r36, rfl, rfl, hw⟩ := hv
        refine xw_if_ne S 183 dX7_canBegin_178 (by decide) hw (fun c hw => ?_) (fun c hw => ?_)
        · refine xr_sub S [(0, .ref l0), (1, .int l1), (3, .int l3), (4, .int l4)] [0, 1, 3, 4] rfl ?_
          exact k_X7_canBegin_183 S h l0 l1 l3 l4 Po E hO hw
        · refine xr_iconst S (0) dX7_canBegin_181 (by decide) ?_
          obtain ⟨hz, hw⟩ := hw
          exact E.2.1 _ _ _ _ _ _ rfl hz dX7_canBegin_182 ⟨_, rfl, rfl, hw⟩ (Nat.le_of_ble_eq_true rfl) (Nat.le_of_ble_eq_true rfl)
  · refine xr_iconst S (0) dX7_canBegin_149 (by decide) ?_
    obtain ⟨hz, hw⟩ := hw
    exact E.2.1 _ _ _ _ _ _ rfl hz dX7_canBegin_150 ⟨_, rfl, rfl, hw⟩ (Nat.le_of_ble_eq_true rfl) (Nat.le_of_ble_eq_true rfl)
def w_X7_canBegin_119 (dc : Nat × Nat) (h : XH) (l0 : Nat) (l1 : Int32) (l2 : Int32) (l3 : Int32) (l4 : Int32) (l6 : Int32) (t0 : Nat) (t1 : Int32) (t2 : Int32) (Po : Int32 → Prop) : Prop :=
  wO h t0 8 ( w_X7_hasWater dc h t0 t1 t2 l3 (fun r7 => wIf (r7 = 0) (wZ 0 (Po 0)) (wIf (l4 = 0) (w_X7_canBegin_139 dc h l0 l1 l2 l3 l4 l0 l1 l6 Po) (w_X7_canBegin_139 dc h l0 l1 l2 l3 l4 l0 l1 (-1) Po))))
set_option maxRecDepth 100000 in
set_option maxHeartbeats 4000000 in
theorem k_X7_canBegin_119 {V : XVT} {X : XC} {l : Launch} (S : xS V X l RX7 yX7_canBegin.name cX7_canBegin 7 wsX7_canBegin (xRm 6 141 0 0)) (h : XH) (l0 : Nat) (l1 : Int32) (l2 : Int32) (l3 : Int32) (l4 : Int32) (l6 : Int32) (t0 : Nat) (t1 : Int32) (t2 : Int32) (Po : Int32 → Prop) (E : xEnd V cX7_canBegin (some .boolean) 0 0 (xRi h Po)) (hO : ∃ fs, h l0 = some (.inr (8, fs))) (hw : w_X7_canBegin_119 (xdc X) h l0 l1 l2 l3 l4 l6 t0 t1 t2 Po) : V 0 0 h 119 [(0, .ref l0), (1, .int l1), (2, .int l2), (3, .int l3), (4, .int l4), (6, .int l6)] [.int t2, .int t1, .ref t0] := by
  refine xr_iload_n S 3 dX7_canBegin_119 rfl ?_
  obtain ⟨e5, hw⟩ := hw
  obtain ⟨f6, f6x⟩ := id e5
  refine xr_callV S 8 [.int t1, .int t2, .int l3] [] dX7_canBegin_120 (k_X7_hasWater l (xdc X) h t0 t1 t2 l3 _ hw) gX7_canBegin_X7_hasWater rfl pd_X7_hasWater ⟨Nat.le_of_ble_eq_true rfl, Nat.le_of_ble_eq_true rfl⟩ rfl (Nat.le_of_ble_eq_true rfl) ⟨Nat.le_of_ble_eq_true rfl, Nat.le_of_ble_eq_true rfl⟩ f6x rfl (fun v9 h9 hv => ?_)
  obtain ⟨r7, rfl, rfl, hw⟩ := hv
  refine xw_if_eq S 149 dX7_canBegin_123 (by decide) hw (fun c hw => ?_) (fun c hw => ?_)
  · refine xr_iconst S (0) dX7_canBegin_149 (by decide) ?_
    obtain ⟨hz, hw⟩ := hw
    exact E.2.1 _ _ _ _ _ _ rfl hz dX7_canBegin_150 ⟨_, rfl, rfl, hw⟩ (Nat.le_of_ble_eq_true rfl) (Nat.le_of_ble_eq_true rfl)
  · refine xr_aload_n S 0 dX7_canBegin_126 rfl ?_
    refine xr_iload_n S 1 dX7_canBegin_127 rfl ?_
    refine xr_iload S 4 dX7_canBegin_128 rfl ?_
    refine xw_if_eq S 137 dX7_canBegin_130 (by decide) hw (fun c hw => ?_) (fun c hw => ?_)
    · refine xr_iload S 5 dX7_canBegin_137 rfl ?_
      refine xr_sub S [(0, .ref l0), (1, .int l1), (2, .int l2), (3, .int l3), (4, .int l4)] [0, 1, 2, 3, 4] rfl ?_
      exact k_X7_canBegin_139 S h l0 l1 l2 l3 l4 l0 l1 l6 Po E hO hw
    · refine xr_iconst S (-1) dX7_canBegin_133 (by decide) ?_
      refine xr_goto S (tgt := 139) dX7_canBegin_134 (by decide) ?_
      refine xr_sub S [(0, .ref l0), (1, .int l1), (2, .int l2), (3, .int l3), (4, .int l4)] [0, 1, 2, 3, 4] rfl ?_
      exact k_X7_canBegin_139 S h l0 l1 l2 l3 l4 l0 l1 (-1) Po E hO hw
def w_X7_canBegin_104 (dc : Nat × Nat) (h : XH) (l0 : Nat) (l1 : Int32) (l2 : Int32) (l3 : Int32) (l4 : Int32) (t0 : Int32) (Po : Int32 → Prop) : Prop :=
  wIf (l4 = 0) (w_X7_canBegin_119 dc h l0 l1 l2 l3 l4 t0 l0 l1 (-1) Po) (w_X7_canBegin_119 dc h l0 l1 l2 l3 l4 t0 l0 l1 t0 Po)
set_option maxRecDepth 100000 in
set_option maxHeartbeats 4000000 in
theorem k_X7_canBegin_104 {V : XVT} {X : XC} {l : Launch} (S : xS V X l RX7 yX7_canBegin.name cX7_canBegin 7 wsX7_canBegin (xRm 6 141 0 0)) (h : XH) (l0 : Nat) (l1 : Int32) (l2 : Int32) (l3 : Int32) (l4 : Int32) (t0 : Int32) (Po : Int32 → Prop) (E : xEnd V cX7_canBegin (some .boolean) 0 0 (xRi h Po)) (hO : ∃ fs, h l0 = some (.inr (8, fs))) (hw : w_X7_canBegin_104 (xdc X) h l0 l1 l2 l3 l4 t0 Po) : V 0 0 h 104 [(0, .ref l0), (1, .int l1), (2, .int l2), (3, .int l3), (4, .int l4)] [.int t0] := by
  refine xr_istore S [(6, .int t0), (0, .ref l0), (1, .int l1), (2, .int l2), (3, .int l3), (4, .int l4)] dX7_canBegin_104 (by decide) rfl ?_
  refine xr_aload_n S 1 dX7_canBegin_106 rfl ?_
  refine xr_iload_n S 2 dX7_canBegin_107 rfl ?_
  refine xr_iload S 5 dX7_canBegin_108 rfl ?_
  refine xw_if_eq S 118 dX7_canBegin_110 (by decide) hw (fun c hw => ?_) (fun c hw => ?_)
  · refine xr_iconst S (-1) dX7_canBegin_118 (by decide) ?_
    refine xr_sub S [(0, .ref l0), (1, .int l1), (2, .int l2), (3, .int l3), (4, .int l4), (6, .int t0)] [1, 2, 3, 4, 5, 0] rfl ?_
    exact k_X7_canBegin_119 S h l0 l1 l2 l3 l4 t0 l0 l1 (-1) Po E hO hw
  · refine xr_iload S 0 dX7_canBegin_113 rfl ?_
    refine xr_goto S (tgt := 119) dX7_canBegin_115 (by decide) ?_
    refine xr_sub S [(0, .ref l0), (1, .int l1), (2, .int l2), (3, .int l3), (4, .int l4), (6, .int t0)] [1, 2, 3, 4, 5, 0] rfl ?_
    exact k_X7_canBegin_119 S h l0 l1 l2 l3 l4 t0 l0 l1 t0 Po E hO hw
def w_X7_canBegin_76 (dc : Nat × Nat) (h : XH) (l0 : Nat) (l1 : Int32) (l2 : Int32) (l3 : Int32) (l4 : Int32) (l5 : Int32) (Po : Int32 → Prop) : Prop :=
  wIf ((l3 + 60) ≤ 2879) (wIf (l4 = 0) (w_X7_canBegin_104 dc h l0 l1 l2 l3 l4 l2 Po) (w_X7_get dc h l0 l5 4 (fun r40 => w_X7_canBegin_104 dc h l0 l1 l2 l3 l4 r40 Po))) (wZ 0 (Po 0))
set_option maxRecDepth 100000 in
set_option maxHeartbeats 4000000 in
theorem k_X7_canBegin_76 {V : XVT} {X : XC} {l : Launch} (S : xS V X l RX7 yX7_canBegin.name cX7_canBegin 7 wsX7_canBegin (xRm 6 141 0 0)) (h : XH) (l0 : Nat) (l1 : Int32) (l2 : Int32) (l3 : Int32) (l4 : Int32) (l5 : Int32) (Po : Int32 → Prop) (E : xEnd V cX7_canBegin (some .boolean) 0 0 (xRi h Po)) (hO : ∃ fs, h l0 = some (.inr (8, fs))) (hw : w_X7_canBegin_76 (xdc X) h l0 l1 l2 l3 l4 l5 Po) : V 0 0 h 76 [(0, .ref l0), (1, .int l1), (2, .int l2), (3, .int l3), (4, .int l4), (5, .int l5)] [] := by
  refine xr_iload_n S 3 dX7_canBegin_76 rfl ?_
  refine xr_bipush S (60) dX7_canBegin_77 (by decide) ?_
  refine xr_iadd S dX7_canBegin_79 ?_
  refine xr_sipush S (2879) dX7_canBegin_80 (by decide) ?_
  refine xw_icmp_le S 88 dX7_canBegin_83 (by decide) hw (fun c hw => ?_) (fun c hw => ?_)
  · refine xr_iload S 4 dX7_canBegin_88 rfl ?_
    refine xw_if_eq S 103 dX7_canBegin_90 (by decide) hw (fun c hw => ?_) (fun c hw => ?_)
    · refine xr_iload_n S 2 dX7_canBegin_103 rfl ?_
      refine xr_sub S [(0, .ref l0), (1, .int l1), (2, .int l2), (3, .int l3), (4, .int l4)] [0, 1, 2, 3, 4] rfl ?_
      exact k_X7_canBegin_104 S h l0 l1 l2 l3 l4 l2 Po E hO hw
    · refine xr_aload_n S 0 dX7_canBegin_93 rfl ?_
      refine xr_iload S 5 dX7_canBegin_94 rfl ?_
      refine xr_iconst S (4) dX7_canBegin_96 (by decide) ?_
      obtain ⟨f39, f39x⟩ := id hO
      refine xr_callV S 8 [.int l5, .int 4] [] dX7_canBegin_97 (k_X7_get l (xdc X) h l0 l5 4 _ hw) gX7_canBegin_X7_get rfl pd_X7_get ⟨Nat.le_of_ble_eq_true rfl, Nat.le_of_ble_eq_true rfl⟩ rfl (Nat.le_of_ble_eq_true rfl) ⟨Nat.le_of_ble_eq_true rfl, Nat.le_of_ble_eq_true rfl⟩ f39x rfl (fun v9 h42 hv => ?_)
      obtain ⟨r40, rfl, rfl, hw⟩ := hv
      refine xr_goto S (tgt := 104) dX7_canBegin_100 (by decide) ?_
      refine xr_sub S [(0, .ref l0), (1, .int l1), (2, .int l2), (3, .int l3), (4, .int l4)] [0, 1, 2, 3, 4] rfl ?_
      exact k_X7_canBegin_104 S h l0 l1 l2 l3 l4 r40 Po E hO hw
  · refine xr_iconst S (0) dX7_canBegin_86 (by decide) ?_
    obtain ⟨hz, hw⟩ := hw
    exact E.2.1 _ _ _ _ _ _ rfl hz dX7_canBegin_87 ⟨_, rfl, rfl, hw⟩ (Nat.le_of_ble_eq_true rfl) (Nat.le_of_ble_eq_true rfl)
def w_X7_canBegin_60 (dc : Nat × Nat) (h : XH) (l0 : Nat) (l1 : Int32) (l2 : Int32) (l3 : Int32) (l4 : Int32) (l5 : Int32) (Po : Int32 → Prop) : Prop :=
  wIf (l5 = (-1)) (w_X7_canBegin_76 dc h l0 l1 l2 l3 l4 l5 Po) (w_X7_end dc h l0 l5 (fun r44 => wIf (l3 < r44) (wZ 0 (Po 0)) (w_X7_canBegin_76 dc h l0 l1 l2 l3 l4 l5 Po)))
set_option maxRecDepth 100000 in
set_option maxHeartbeats 4000000 in
theorem k_X7_canBegin_60 {V : XVT} {X : XC} {l : Launch} (S : xS V X l RX7 yX7_canBegin.name cX7_canBegin 7 wsX7_canBegin (xRm 6 141 0 0)) (h : XH) (l0 : Nat) (l1 : Int32) (l2 : Int32) (l3 : Int32) (l4 : Int32) (l5 : Int32) (Po : Int32 → Prop) (E : xEnd V cX7_canBegin (some .boolean) 0 0 (xRi h Po)) (hO : ∃ fs, h l0 = some (.inr (8, fs))) (hw : w_X7_canBegin_60 (xdc X) h l0 l1 l2 l3 l4 l5 Po) : V 0 0 h 60 [(0, .ref l0), (1, .int l1), (2, .int l2), (3, .int l3), (4, .int l4), (5, .int l5)] [] := by
  refine xr_iload S 5 dX7_canBegin_60 rfl ?_
  refine xr_iconst S (-1) dX7_canBegin_62 (by decide) ?_
  refine xw_icmp_eq S 76 dX7_canBegin_63 (by decide) hw (fun c hw => ?_) (fun c hw => ?_)
  · exact k_X7_canBegin_76 S h l0 l1 l2 l3 l4 l5 Po E hO hw
  · refine xr_aload_n S 0 dX7_canBegin_66 rfl ?_
    refine xr_iload S 5 dX7_canBegin_67 rfl ?_
    obtain ⟨f43, f43x⟩ := id hO
    refine xr_callV S 8 [.int l5] [] dX7_canBegin_69 (k_X7_end l (xdc X) h l0 l5 _ hw) gX7_canBegin_X7_end rfl pd_X7_end ⟨Nat.le_of_ble_eq_true rfl, Nat.le_of_ble_eq_true rfl⟩ rfl (Nat.le_of_ble_eq_true rfl) ⟨Nat.le_of_ble_eq_true rfl, Nat.le_of_ble_eq_true rfl⟩ f43x rfl (fun v9 h46 hv => ?_)
    obtain ⟨r44, rfl, rfl, hw⟩ := hv
    refine xr_iload_n S 3 dX7_canBegin_72 rfl ?_
    refine xw_icmp_gt S 86 dX7_canBegin_73 (by decide) hw (fun c hw => ?_) (fun c hw => ?_)
    · refine xr_iconst S (0) dX7_canBegin_86 (by decide) ?_
      obtain ⟨hz, hw⟩ := hw
      exact E.2.1 _ _ _ _ _ _ rfl hz dX7_canBegin_87 ⟨_, rfl, rfl, hw⟩ (Nat.le_of_ble_eq_true rfl) (Nat.le_of_ble_eq_true rfl)
    · exact k_X7_canBegin_76 S h l0 l1 l2 l3 l4 l5 Po E hO hw
def w_X7_canBegin_10 (dc : Nat × Nat) (h : XH) (l0 : Nat) (l1 : Int32) (l2 : Int32) (l3 : Int32) (t0 : Int32) (Po : Int32 → Prop) : Prop :=
  w_X7_latest dc h l0 l1 (-1) (fun r2 => wIf (t0 = 0) (wIf (r2 = (-1)) (w_X7_canBegin_60 dc h l0 l1 l2 l3 t0 r2 Po) (w_X7_isOut dc h l0 r2 (fun r48 => wIf (r48 = 0) (wZ 0 (Po 0)) (w_X7_canBegin_60 dc h l0 l1 l2 l3 t0 r2 Po)))) (wIf (r2 = (-1)) (wZ 0 (Po 0)) (w_X7_isOut dc h l0 r2 (fun r52 => wIf (r52 = 0) (w_X7_canBegin_60 dc h l0 l1 l2 l3 t0 r2 Po) (wZ 0 (Po 0))))))
set_option maxRecDepth 100000 in
set_option maxHeartbeats 4000000 in
theorem k_X7_canBegin_10 {V : XVT} {X : XC} {l : Launch} (S : xS V X l RX7 yX7_canBegin.name cX7_canBegin 7 wsX7_canBegin (xRm 6 141 0 0)) (h : XH) (l0 : Nat) (l1 : Int32) (l2 : Int32) (l3 : Int32) (t0 : Int32) (Po : Int32 → Prop) (E : xEnd V cX7_canBegin (some .boolean) 0 0 (xRi h Po)) (hO : ∃ fs, h l0 = some (.inr (8, fs))) (hw : w_X7_canBegin_10 (xdc X) h l0 l1 l2 l3 t0 Po) : V 0 0 h 10 [(0, .ref l0), (1, .int l1), (2, .int l2), (3, .int l3)] [.int t0] := by
  refine xr_istore S [(4, .int t0), (0, .ref l0), (1, .int l1), (2, .int l2), (3, .int l3)] dX7_canBegin_10 (by decide) rfl ?_
  refine xr_aload_n S 1 dX7_canBegin_12 rfl ?_
  refine xr_iload_n S 2 dX7_canBegin_13 rfl ?_
  refine xr_iconst S (-1) dX7_canBegin_14 (by decide) ?_
  obtain ⟨f1, f1x⟩ := id hO
  refine xr_callV S 8 [.int l1, .int (-1)] [] dX7_canBegin_15 (k_X7_latest l (xdc X) h l0 l1 (-1) _ hw) gX7_canBegin_X7_latest rfl pd_X7_latest ⟨Nat.le_of_ble_eq_true rfl, Nat.le_of_ble_eq_true rfl⟩ rfl (Nat.le_of_ble_eq_true rfl) ⟨Nat.le_of_ble_eq_true rfl, Nat.le_of_ble_eq_true rfl⟩ f1x rfl (fun v9 h4 hv => ?_)
  obtain ⟨r2, rfl, rfl, hw⟩ := hv
  refine xr_istore S [(5, .int r2), (4, .int t0), (0, .ref l0), (1, .int l1), (2, .int l2), (3, .int l3)] dX7_canBegin_18 (by decide) rfl ?_
  refine xr_iload S 1 dX7_canBegin_20 rfl ?_
  refine xw_if_eq S 43 dX7_canBegin_22 (by decide) hw (fun c hw => ?_) (fun c hw => ?_)
  · refine xr_iload S 0 dX7_canBegin_43 rfl ?_
    refine xr_iconst S (-1) dX7_canBegin_45 (by decide) ?_
    refine xw_icmp_eq S 60 dX7_canBegin_46 (by decide) hw (fun c hw => ?_) (fun c hw => ?_)
    · refine xr_sub S [(0, .ref l0), (1, .int l1), (2, .int l2), (3, .int l3), (4, .int t0), (5, .int r2)] [2, 3, 4, 5, 1, 0] rfl ?_
      exact k_X7_canBegin_60 S h l0 l1 l2 l3 t0 r2 Po E hO hw
    · refine xr_aload_n S 2 dX7_canBegin_49 rfl ?_
      refine xr_iload S 0 dX7_canBegin_50 rfl ?_
      obtain ⟨f47, f47x⟩ := id hO
      refine xr_callV S 8 [.int r2] [] dX7_canBegin_52 (k_X7_isOut l (xdc X) h l0 r2 _ hw) gX7_canBegin_X7_isOut rfl pd_X7_isOut ⟨Nat.le_of_ble_eq_true rfl, Nat.le_of_ble_eq_true rfl⟩ rfl (Nat.le_of_ble_eq_true rfl) ⟨Nat.le_of_ble_eq_true rfl, Nat.le_of_ble_eq_true rfl⟩ f47x rfl (fun v9 h50 hv => ?_)
      obtain ⟨r48, rfl, rfl, hw⟩ := hv
      refine xw_if_ne S 60 dX7_canBegin_55 (by decide) hw (fun c hw => ?_) (fun c hw => ?_)
      · refine xr_sub S [(0, .ref l0), (1, .int l1), (2, .int l2), (3, .int l3), (4, .int t0), (5, .int r2)] [2, 3, 4, 5, 1, 0] rfl ?_
        exact k_X7_canBegin_60 S h l0 l1 l2 l3 t0 r2 Po E hO hw
      · refine xr_iconst S (0) dX7_canBegin_58 (by decide) ?_
        obtain ⟨hz, hw⟩ := hw
        exact E.2.1 _ _ _ _ _ _ rfl hz dX7_canBegin_59 ⟨_, rfl, rfl, hw⟩ (Nat.le_of_ble_eq_true rfl) (Nat.le_of_ble_eq_true rfl)
  · refine xr_iload S 0 dX7_canBegin_25 rfl ?_
    refine xr_iconst S (-1) dX7_canBegin_27 (by decide) ?_
    refine xw_icmp_eq S 58 dX7_canBegin_28 (by decide) hw (fun c hw => ?_) (fun c hw => ?_)
    · refine xr_iconst S (0) dX7_canBegin_58 (by decide) ?_
      obtain ⟨hz, hw⟩ := hw
      exact E.2.1 _ _ _ _ _ _ rfl hz dX7_canBegin_59 ⟨_, rfl, rfl, hw⟩ (Nat.le_of_ble_eq_true rfl) (Nat.le_of_ble_eq_true rfl)
    · refine xr_aload_n S 2 dX7_canBegin_31 rfl ?_
      refine xr_iload S 0 dX7_canBegin_32 rfl ?_
      obtain ⟨f51, f51x⟩ := id hO
      refine xr_callV S 8 [.int r2] [] dX7_canBegin_34 (k_X7_isOut l (xdc X) h l0 r2 _ hw) gX7_canBegin_X7_isOut rfl pd_X7_isOut ⟨Nat.le_of_ble_eq_true rfl, Nat.le_of_ble_eq_true rfl⟩ rfl (Nat.le_of_ble_eq_true rfl) ⟨Nat.le_of_ble_eq_true rfl, Nat.le_of_ble_eq_true rfl⟩ f51x rfl (fun v9 h54 hv => ?_)
      obtain ⟨r52, rfl, rfl, hw⟩ := hv
      refine xw_if_eq S 60 dX7_canBegin_37 (by decide) hw (fun c hw => ?_) (fun c hw => ?_)
      · refine xr_sub S [(0, .ref l0), (1, .int l1), (2, .int l2), (3, .int l3), (4, .int t0), (5, .int r2)] [2, 3, 4, 5, 1, 0] rfl ?_
        exact k_X7_canBegin_60 S h l0 l1 l2 l3 t0 r2 Po E hO hw
      · refine xr_goto S (tgt := 58) dX7_canBegin_40 (by decide) ?_
        refine xr_iconst S (0) dX7_canBegin_58 (by decide) ?_
        obtain ⟨hz, hw⟩ := hw
        exact E.2.1 _ _ _ _ _ _ rfl hz dX7_canBegin_59 ⟨_, rfl, rfl, hw⟩ (Nat.le_of_ble_eq_true rfl) (Nat.le_of_ble_eq_true rfl)
def w_X7_canBegin (dc : Nat × Nat) (h : XH) (l0 : Nat) (l1 : Int32) (l2 : Int32) (l3 : Int32) (Po : Int32 → Prop) : Prop :=
  wO h l0 8 (wIf (l2 = (-1)) (w_X7_canBegin_10 dc h l0 l1 l2 l3 1 Po) (w_X7_canBegin_10 dc h l0 l1 l2 l3 0 Po))
set_option maxRecDepth 100000 in
set_option maxHeartbeats 4000000 in
theorem k_X7_canBegin (l : Launch) (dc : Nat × Nat) (h : XH) (l0 : Nat) (l1 : Int32) (l2 : Int32) (l3 : Int32) (Po : Int32 → Prop) (hw : w_X7_canBegin dc h l0 l1 l2 l3 Po) : xM l dc yX7_canBegin wsX7_canBegin 6 141 0 0 [.ref l0, .int l1, .int l2, .int l3] h (xRi h Po) := by
  refine xM_of [(0, .ref l0), (1, .int l1), (2, .int l2), (3, .int l3)] (own := RX7) (cc := cX7_canBegin) (nL := 7) (ret := (some .boolean)) (by decide +kernel) rfl rfl (Nat.le_of_ble_eq_true rfl) rfl ?_
  intro X V hX S E
  subst hX
  obtain ⟨hO, hw⟩ := hw
  refine xr_iload_n S 2 dX7_canBegin_0 rfl ?_
  refine xr_iconst S (-1) dX7_canBegin_1 (by decide) ?_
  refine xw_icmp_ne S 9 dX7_canBegin_2 (by decide) hw (fun c hw => ?_) (fun c hw => ?_)
  · refine xr_iconst S (0) dX7_canBegin_9 (by decide) ?_
    exact k_X7_canBegin_10 S h l0 l1 l2 l3 0 Po E hO hw
  · refine xr_iconst S (1) dX7_canBegin_5 (by decide) ?_
    refine xr_goto S (tgt := 10) dX7_canBegin_6 (by decide) ?_
    exact k_X7_canBegin_10 S h l0 l1 l2 l3 1 Po E hO hw
