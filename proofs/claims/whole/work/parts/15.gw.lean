theorem m_L_addTide_0 : Cond.classLink RL 13 "java/lang/IllegalArgumentException" ∈ wsL_addTide := by decide +kernel
theorem m_L_addTide_1 : Cond.classLink RL 15 "java/lang/IllegalStateException" ∈ wsL_addTide := by decide +kernel
def w_L_addTide (dc : Nat × Nat) (h : XH) (l0 : Nat) (l1 : Int32) (l2 : Int32) (l3 : Nat) (Po : Int32 → XH → Prop) : Prop :=
  wO h l0 7 ( w_X6_addTide dc h l0 l1 l2 (fun r3 h4 => wSL h4 l3 0 r3.toInt64 (fun h6 => Po 0 h6)) (fun E h9 => (E = "java/lang/IllegalArgumentException" ∧ Po 1 h9) ∨ (E = "java/lang/IllegalStateException" ∧ Po 2 h9)))
set_option maxRecDepth 100000 in
set_option maxHeartbeats 4000000 in
theorem k_L_addTide (l : Launch) (hfl : l.stackTraces = false) (dc : Nat × Nat) (h : XH) (l0 : Nat) (l1 : Int32) (l2 : Int32) (l3 : Nat) (Po : Int32 → XH → Prop) (hw : w_L_addTide dc h l0 l1 l2 l3 Po) : xMW l dc yL_addTide wsL_addTide 9 154 3 18 [.ref l0, .int l1, .int l2, .ref l3] h (xPi Po) := by
  refine xMW_of [(0, .ref l0), (1, .int l1), (2, .int l2), (3, .ref l3)] (own := RL) (cc := cL_addTide) (nL := 5) (ret := (some .int)) (by decide +kernel) rfl rfl (Nat.le_of_ble_eq_true rfl) rfl ?_
  intro X V VX hX S2 E CC
  subst hX
  have S := S2.S
  refine xr_aload_n S 3 dL_addTide_0 rfl ?_
  refine xr_iconst S (0) dL_addTide_1 (by decide) ?_
  refine xr_aload_n S 0 dL_addTide_2 rfl ?_
  refine xr_iload_n S 1 dL_addTide_3 rfl ?_
  refine xr_iload_n S 2 dL_addTide_4 rfl ?_
  obtain ⟨e1, hw⟩ := hw
  obtain ⟨f2, f2x⟩ := id e1
  refine xr_callVX S2 7 [.int l1, .int l2] [.int 0, .ref l3] dL_addTide_5 (k_X6_addTide l hfl (xdc X) h l0 l1 l2 _ _ hw) gL_addTide_X6_addTide rfl pd_X6_addTide ⟨Nat.le_of_ble_eq_true rfl, Nat.le_of_ble_eq_true rfl⟩ rfl (Nat.le_of_ble_eq_true rfl) ⟨Nat.le_of_ble_eq_true rfl, Nat.le_of_ble_eq_true rfl⟩ f2x rfl (fun E1 h9 hx => ?_) (fun v9 h4 hv => ?_)
  · rcases hx with ⟨rfl, hw⟩ | ⟨rfl, hw⟩
    · refine CC _ _ _ _ _ _ "java/lang/IllegalArgumentException" [] [(0, 10, 17, 15)] (0, 10, 13, 13) rfl (fun z hz => absurd hz List.not_mem_nil) (by decide) (by decide) m_L_addTide_0 (by decide) (fun q => ?_)
      refine xr_astore S [(4, .ref q), (0, .ref l0), (1, .int l1), (2, .int l2), (3, .ref l3)] dL_addTide_13 (by decide) rfl ?_
      refine xr_iconst S (1) dL_addTide_15 (by decide) ?_
      exact E.1 _ _ _ _ _ _ rfl dL_addTide_16 ⟨_, rfl, hw⟩ (Nat.le_of_ble_eq_true rfl) (Nat.le_of_ble_eq_true rfl)
    · refine CC _ _ _ _ _ _ "java/lang/IllegalStateException" [(0, 10, 13, 13)] [] (0, 10, 17, 15) rfl (fun z hz => by simp only [List.mem_cons, List.not_mem_nil, or_false] at hz; rcases hz with rfl <;> first | exact ⟨by decide, "java/lang/IllegalArgumentException", m_L_addTide_0, by decide⟩) (by decide) (by decide) m_L_addTide_1 (by decide) (fun q => ?_)
      refine xr_astore S [(4, .ref q), (0, .ref l0), (1, .int l1), (2, .int l2), (3, .ref l3)] dL_addTide_17 (by decide) rfl ?_
      refine xr_iconst S (2) dL_addTide_19 (by decide) ?_
      exact E.1 _ _ _ _ _ _ rfl dL_addTide_20 ⟨_, rfl, hw⟩ (Nat.le_of_ble_eq_true rfl) (Nat.le_of_ble_eq_true rfl)
  obtain ⟨r3, rfl, hw⟩ := hv
  refine xr_i2l S dL_addTide_8 ?_
  refine xw_last S dL_addTide_9 hw (fun h6 hw => ?_)
  refine xr_goto S (tgt := 21) dL_addTide_10 (by decide) ?_
  refine xr_iconst S (0) dL_addTide_21 (by decide) ?_
  exact E.1 _ _ _ _ _ _ rfl dL_addTide_22 ⟨_, rfl, hw⟩ (Nat.le_of_ble_eq_true rfl) (Nat.le_of_ble_eq_true rfl)
theorem m_L_height_0 : Cond.classLink RL 13 "java/lang/IllegalArgumentException" ∈ wsL_height := by decide +kernel
def w_L_height (dc : Nat × Nat) (h : XH) (l0 : Nat) (l1 : Int32) (l2 : Nat) (Po : Int32 → XH → Prop) : Prop :=
  wO h l0 7 ( w_X6_height dc h l0 l1 (fun r3 => wSL h l2 0 r3.toInt64 (fun h6 => Po 0 h6)) (fun E => (E = "java/lang/IllegalArgumentException" ∧ Po 1 h)))
set_option maxRecDepth 100000 in
set_option maxHeartbeats 4000000 in
theorem k_L_height (l : Launch) (hfl : l.stackTraces = false) (dc : Nat × Nat) (h : XH) (l0 : Nat) (l1 : Int32) (l2 : Nat) (Po : Int32 → XH → Prop) (hw : w_L_height dc h l0 l1 l2 Po) : xMW l dc yL_height wsL_height 9 153 1 6 [.ref l0, .int l1, .ref l2] h (xPi Po) := by
  refine xMW_of [(0, .ref l0), (1, .int l1), (2, .ref l2)] (own := RL) (cc := cL_height) (nL := 4) (ret := (some .int)) (by decide +kernel) rfl rfl (Nat.le_of_ble_eq_true rfl) rfl ?_
  intro X V VX hX S2 E CC
  subst hX
  have S := S2.S
  refine xr_aload_n S 2 dL_height_0 rfl ?_
  refine xr_iconst S (0) dL_height_1 (by decide) ?_
  refine xr_aload_n S 0 dL_height_2 rfl ?_
  refine xr_iload_n S 1 dL_height_3 rfl ?_
  obtain ⟨e1, hw⟩ := hw
  obtain ⟨f2, f2x⟩ := id e1
  refine xr_callVX S2 7 [.int l1] [.int 0, .ref l2] dL_height_4 (k_X6_height l hfl (xdc X) h l0 l1 _ _ hw) gL_height_X6_height rfl pd_X6_height ⟨Nat.le_of_ble_eq_true rfl, Nat.le_of_ble_eq_true rfl⟩ rfl (Nat.le_of_ble_eq_true rfl) ⟨Nat.le_of_ble_eq_true rfl, Nat.le_of_ble_eq_true rfl⟩ f2x rfl (fun E1 h9 hx => ?_) (fun v9 h5 hv => ?_)
  · obtain ⟨rfl, hx⟩ := hx
    obtain ⟨rfl, hw⟩ := hx
    · refine CC _ _ _ _ _ _ "java/lang/IllegalArgumentException" [] [] (0, 9, 12, 13) rfl (fun z hz => absurd hz List.not_mem_nil) (by decide) (by decide) m_L_height_0 (by decide) (fun q => ?_)
      refine xr_astore_n S [(3, .ref q), (0, .ref l0), (1, .int l1), (2, .ref l2)] dL_height_12 (by decide) rfl ?_
      refine xr_iconst S (1) dL_height_13 (by decide) ?_
      exact E.1 _ _ _ _ _ _ rfl dL_height_14 ⟨_, rfl, hw⟩ (Nat.le_of_ble_eq_true rfl) (Nat.le_of_ble_eq_true rfl)
  obtain ⟨r3, rfl, rfl, hw⟩ := hv
  refine xr_i2l S dL_height_7 ?_
  refine xw_last S dL_height_8 hw (fun h6 hw => ?_)
  refine xr_goto S (tgt := 15) dL_height_9 (by decide) ?_
  refine xr_iconst S (0) dL_height_15 (by decide) ?_
  exact E.1 _ _ _ _ _ _ rfl dL_height_16 ⟨_, rfl, hw⟩ (Nat.le_of_ble_eq_true rfl) (Nat.le_of_ble_eq_true rfl)
theorem m_L_setWater_0 : Cond.classLink RL 13 "java/lang/IllegalArgumentException" ∈ wsL_setWater := by decide +kernel
def w_L_setWater (dc : Nat × Nat) (h : XH) (l0 : Nat) (l1 : Int32) (l2 : Int32) (l3 : Nat) (Po : Int32 → XH → Prop) : Prop :=
  wO h l0 7 ( w_X6_setWater dc h l0 l1 l2 (fun r3 h4 => wSL h4 l3 0 r3.toInt64 (fun h6 => Po 0 h6)) (fun E h9 => (E = "java/lang/IllegalArgumentException" ∧ Po 1 h9)))
set_option maxRecDepth 100000 in
set_option maxHeartbeats 4000000 in
theorem k_L_setWater (l : Launch) (hfl : l.stackTraces = false) (dc : Nat × Nat) (h : XH) (l0 : Nat) (l1 : Int32) (l2 : Int32) (l3 : Nat) (Po : Int32 → XH → Prop) (hw : w_L_setWater dc h l0 l1 l2 l3 Po) : xMW l dc yL_setWater wsL_setWater 8 135 2 12 [.ref l0, .int l1, .int l2, .ref l3] h (xPi Po) := by
  refine xMW_of [(0, .ref l0), (1, .int l1), (2, .int l2), (3, .ref l3)] (own := RL) (cc := cL_setWater) (nL := 5) (ret := (some .int)) (by decide +kernel) rfl rfl (Nat.le_of_ble_eq_true rfl) rfl ?_
  intro X V VX hX S2 E CC
  subst hX
  have S := S2.S
  refine xr_aload_n S 3 dL_setWater_0 rfl ?_
  refine xr_iconst S (0) dL_setWater_1 (by decide) ?_
  refine xr_aload_n S 0 dL_setWater_2 rfl ?_
  refine xr_iload_n S 1 dL_setWater_3 rfl ?_
  refine xr_iload_n S 2 dL_setWater_4 rfl ?_
  obtain ⟨e1, hw⟩ := hw
  obtain ⟨f2, f2x⟩ := id e1
  refine xr_callVX S2 7 [.int l1, .int l2] [.int 0, .ref l3] dL_setWater_5 (k_X6_setWater l hfl (xdc X) h l0 l1 l2 _ _ hw) gL_setWater_X6_setWater rfl pd_X6_setWater ⟨Nat.le_of_ble_eq_true rfl, Nat.le_of_ble_eq_true rfl⟩ rfl (Nat.le_of_ble_eq_true rfl) ⟨Nat.le_of_ble_eq_true rfl, Nat.le_of_ble_eq_true rfl⟩ f2x rfl (fun E1 h9 hx => ?_) (fun v9 h4 hv => ?_)
  · obtain ⟨rfl, hw⟩ := hx
    · refine CC _ _ _ _ _ _ "java/lang/IllegalArgumentException" [] [] (0, 10, 13, 13) rfl (fun z hz => absurd hz List.not_mem_nil) (by decide) (by decide) m_L_setWater_0 (by decide) (fun q => ?_)
      refine xr_astore S [(4, .ref q), (0, .ref l0), (1, .int l1), (2, .int l2), (3, .ref l3)] dL_setWater_13 (by decide) rfl ?_
      refine xr_iconst S (1) dL_setWater_15 (by decide) ?_
      exact E.1 _ _ _ _ _ _ rfl dL_setWater_16 ⟨_, rfl, hw⟩ (Nat.le_of_ble_eq_true rfl) (Nat.le_of_ble_eq_true rfl)
  obtain ⟨r3, rfl, hw⟩ := hv
  refine xr_i2l S dL_setWater_8 ?_
  refine xw_last S dL_setWater_9 hw (fun h6 hw => ?_)
  refine xr_goto S (tgt := 17) dL_setWater_10 (by decide) ?_
  refine xr_iconst S (0) dL_setWater_17 (by decide) ?_
  exact E.1 _ _ _ _ _ _ rfl dL_setWater_18 ⟨_, rfl, hw⟩ (Nat.le_of_ble_eq_true rfl) (Nat.le_of_ble_eq_true rfl)
theorem m_L_addBerth_0 : Cond.classLink RL 13 "java/lang/IllegalArgumentException" ∈ wsL_addBerth := by decide +kernel
theorem m_L_addBerth_1 : Cond.classLink RL 15 "java/lang/IllegalStateException" ∈ wsL_addBerth := by decide +kernel
def w_L_addBerth (dc : Nat × Nat) (h : XH) (l0 : Nat) (l1 : Int32) (l2 : Int32) (l3 : Nat) (Po : Int32 → XH → Prop) : Prop :=
  wO h l0 7 ( w_X6_addBerth dc h l0 l1 l2 (fun r3 h4 => wSL h4 l3 0 r3.toInt64 (fun h6 => Po 0 h6)) (fun E h9 => (E = "java/lang/IllegalArgumentException" ∧ Po 1 h9) ∨ (E = "java/lang/IllegalStateException" ∧ Po 2 h9)))
set_option maxRecDepth 100000 in
set_option maxHeartbeats 4000000 in
theorem k_L_addBerth (l : Launch) (hfl : l.stackTraces = false) (dc : Nat × Nat) (h : XH) (l0 : Nat) (l1 : Int32) (l2 : Int32) (l3 : Nat) (Po : Int32 → XH → Prop) (hw : w_L_addBerth dc h l0 l1 l2 l3 Po) : xMW l dc yL_addBerth wsL_addBerth 8 194 5 85 [.ref l0, .int l1, .int l2, .ref l3] h (xPi Po) := by
  refine xMW_of [(0, .ref l0), (1, .int l1), (2, .int l2), (3, .ref l3)] (own := RL) (cc := cL_addBerth) (nL := 5) (ret := (some .int)) (by decide +kernel) rfl rfl (Nat.le_of_ble_eq_true rfl) rfl ?_
  intro X V VX hX S2 E CC
  subst hX
  have S := S2.S
  refine xr_aload_n S 3 dL_addBerth_0 rfl ?_
  refine xr_iconst S (0) dL_addBerth_1 (by decide) ?_
  refine xr_aload_n S 0 dL_addBerth_2 rfl ?_
  refine xr_iload_n S 1 dL_addBerth_3 rfl ?_
  refine xr_iload_n S 2 dL_addBerth_4 rfl ?_
  obtain ⟨e1, hw⟩ := hw
  obtain ⟨f2, f2x⟩ := id e1
  refine xr_callVX S2 7 [.int l1, .int l2] [.int 0, .ref l3] dL_addBerth_5 (k_X6_addBerth l hfl (xdc X) h l0 l1 l2 _ _ hw) gL_addBerth_X6_addBerth rfl pd_X6_addBerth ⟨Nat.le_of_ble_eq_true rfl, Nat.le_of_ble_eq_true rfl⟩ rfl (Nat.le_of_ble_eq_true rfl) ⟨Nat.le_of_ble_eq_true rfl, Nat.le_of_ble_eq_true rfl⟩ f2x rfl (fun E1 h9 hx => ?_) (fun v9 h4 hv => ?_)
  · rcases hx with ⟨rfl, hw⟩ | ⟨rfl, hw⟩
    · refine CC _ _ _ _ _ _ "java/lang/IllegalArgumentException" [] [(0, 10, 17, 15)] (0, 10, 13, 13) rfl (fun z hz => absurd hz List.not_mem_nil) (by decide) (by decide) m_L_addBerth_0 (by decide) (fun q => ?_)
      refine xr_astore S [(4, .ref q), (0, .ref l0), (1, .int l1), (2, .int l2), (3, .ref l3)] dL_addBerth_13 (by decide) rfl ?_
      refine xr_iconst S (1) dL_addBerth_15 (by decide) ?_
      exact E.1 _ _ _ _ _ _ rfl dL_addBerth_16 ⟨_, rfl, hw⟩ (Nat.le_of_ble_eq_true rfl) (Nat.le_of_ble_eq_true rfl)
    · refine CC _ _ _ _ _ _ "java/lang/IllegalStateException" [(0, 10, 13, 13)] [] (0, 10, 17, 15) rfl (fun z hz => by simp only [List.mem_cons, List.not_mem_nil, or_false] at hz; rcases hz with rfl <;> first | exact ⟨by decide, "java/lang/IllegalArgumentException", m_L_addBerth_0, by decide⟩) (by decide) (by decide) m_L_addBerth_1 (by decide) (fun q => ?_)
      refine xr_astore S [(4, .ref q), (0, .ref l0), (1, .int l1), (2, .int l2), (3, .ref l3)] dL_addBerth_17 (by decide) rfl ?_
      refine xr_iconst S (2) dL_addBerth_19 (by decide) ?_
      exact E.1 _ _ _ _ _ _ rfl dL_addBerth_20 ⟨_, rfl, hw⟩ (Nat.le_of_ble_eq_true rfl) (Nat.le_of_ble_eq_true rfl)
  obtain ⟨r3, rfl, hw⟩ := hv
  refine xr_i2l S dL_addBerth_8 ?_
  refine xw_last S dL_addBerth_9 hw (fun h6 hw => ?_)
  refine xr_goto S (tgt := 21) dL_addBerth_10 (by decide) ?_
  refine xr_iconst S (0) dL_addBerth_21 (by decide) ?_
  exact E.1 _ _ _ _ _ _ rfl dL_addBerth_22 ⟨_, rfl, hw⟩ (Nat.le_of_ble_eq_true rfl) (Nat.le_of_ble_eq_true rfl)
theorem m_L_addShip_0 : Cond.classLink RL 13 "java/lang/IllegalArgumentException" ∈ wsL_addShip := by decide +kernel
theorem m_L_addShip_1 : Cond.classLink RL 15 "java/lang/IllegalStateException" ∈ wsL_addShip := by decide +kernel
def w_L_addShip (dc : Nat × Nat) (h : XH) (l0 : Nat) (l1 : Int32) (l2 : Int32) (l3 : Nat) (Po : Int32 → XH → Prop) : Prop :=
  wO h l0 7 ( w_X6_addShip dc h l0 l1 l2 (fun r3 h4 => wSL h4 l3 0 r3.toInt64 (fun h6 => Po 0 h6)) (fun E h9 => (E = "java/lang/IllegalArgumentException" ∧ Po 1 h9) ∨ (E = "java/lang/IllegalStateException" ∧ Po 2 h9)))
set_option maxRecDepth 100000 in
set_option maxHeartbeats 4000000 in
theorem k_L_addShip (l : Launch) (hfl : l.stackTraces = false) (dc : Nat × Nat) (h : XH) (l0 : Nat) (l1 : Int32) (l2 : Int32) (l3 : Nat) (Po : Int32 → XH → Prop) (hw : w_L_addShip dc h l0 l1 l2 l3 Po) : xMW l dc yL_addShip wsL_addShip 8 194 5 86 [.ref l0, .int l1, .int l2, .ref l3] h (xPi Po) := by
  refine xMW_of [(0, .ref l0), (1, .int l1), (2, .int l2), (3, .ref l3)] (own := RL) (cc := cL_addShip) (nL := 5) (ret := (some .int)) (by decide +kernel) rfl rfl (Nat.le_of_ble_eq_true rfl) rfl ?_
  intro X V VX hX S2 E CC
  subst hX
  have S := S2.S
  refine xr_aload_n S 3 dL_addShip_0 rfl ?_
  refine xr_iconst S (0) dL_addShip_1 (by decide) ?_
  refine xr_aload_n S 0 dL_addShip_2 rfl ?_
  refine xr_iload_n S 1 dL_addShip_3 rfl ?_
  refine xr_iload_n S 2 dL_addShip_4 rfl ?_
  obtain ⟨e1, hw⟩ := hw
  obtain ⟨f2, f2x⟩ := id e1
  refine xr_callVX S2 7 [.int l1, .int l2] [.int 0, .ref l3] dL_addShip_5 (k_X6_addShip l hfl (xdc X) h l0 l1 l2 _ _ hw) gL_addShip_X6_addShip rfl pd_X6_addShip ⟨Nat.le_of_ble_eq_true rfl, Nat.le_of_ble_eq_true rfl⟩ rfl (Nat.le_of_ble_eq_true rfl) ⟨Nat.le_of_ble_eq_true rfl, Nat.le_of_ble_eq_true rfl⟩ f2x rfl (fun E1 h9 hx => ?_) (fun v9 h4 hv => ?_)
  · rcases hx with ⟨rfl, hw⟩ | ⟨rfl, hw⟩
    · refine CC _ _ _ _ _ _ "java/lang/IllegalArgumentException" [] [(0, 10, 17, 15)] (0, 10, 13, 13) rfl (fun z hz => absurd hz List.not_mem_nil) (by decide) (by decide) m_L_addShip_0 (by decide) (fun q => ?_)
      refine xr_astore S [(4, .ref q), (0, .ref l0), (1, .int l1), (2, .int l2), (3, .ref l3)] dL_addShip_13 (by decide) rfl ?_
      refine xr_iconst S (1) dL_addShip_15 (by decide) ?_
      exact E.1 _ _ _ _ _ _ rfl dL_addShip_16 ⟨_, rfl, hw⟩ (Nat.le_of_ble_eq_true rfl) (Nat.le_of_ble_eq_true rfl)
    · refine CC _ _ _ _ _ _ "java/lang/IllegalStateException" [(0, 10, 13, 13)] [] (0, 10, 17, 15) rfl (fun z hz => by simp only [List.mem_cons, List.not_mem_nil, or_false] at hz; rcases hz with rfl <;> first | exact ⟨by decide, "java/lang/IllegalArgumentException", m_L_addShip_0, by decide⟩) (by decide) (by decide) m_L_addShip_1 (by decide) (fun q => ?_)
      refine xr_astore S [(4, .ref q), (0, .ref l0), (1, .int l1), (2, .int l2), (3, .ref l3)] dL_addShip_17 (by decide) rfl ?_
      refine xr_iconst S (2) dL_addShip_19 (by decide) ?_
      exact E.1 _ _ _ _ _ _ rfl dL_addShip_20 ⟨_, rfl, hw⟩ (Nat.le_of_ble_eq_true rfl) (Nat.le_of_ble_eq_true rfl)
  obtain ⟨r3, rfl, hw⟩ := hv
  refine xr_i2l S dL_addShip_8 ?_
  refine xw_last S dL_addShip_9 hw (fun h6 hw => ?_)
  refine xr_goto S (tgt := 21) dL_addShip_10 (by decide) ?_
  refine xr_iconst S (0) dL_addShip_21 (by decide) ?_
  exact E.1 _ _ _ _ _ _ rfl dL_addShip_22 ⟨_, rfl, hw⟩ (Nat.le_of_ble_eq_true rfl) (Nat.le_of_ble_eq_true rfl)
theorem m_L_load_0 : Cond.classLink RL 33 "java/lang/IndexOutOfBoundsException" ∈ wsL_load := by decide +kernel
theorem m_L_load_1 : Cond.classLink RL 13 "java/lang/IllegalArgumentException" ∈ wsL_load := by decide +kernel
def w_L_load (dc : Nat × Nat) (h : XH) (l0 : Nat) (l1 : Int32) (l2 : Int32) (l3 : Nat) (Po : Int32 → XH → Prop) : Prop :=
  wO h l0 7 ( w_X6_load dc h l0 l1 l2 (fun r3 h4 => wSL h4 l3 0 r3.toInt64 (fun h6 => Po 0 h6)) (fun E h9 => (E = "java/lang/IndexOutOfBoundsException" ∧ Po 1 h9) ∨ (E = "java/lang/IllegalArgumentException" ∧ Po 2 h9)))
set_option maxRecDepth 100000 in
set_option maxHeartbeats 4000000 in
theorem k_L_load (l : Launch) (hfl : l.stackTraces = false) (dc : Nat × Nat) (h : XH) (l0 : Nat) (l1 : Int32) (l2 : Int32) (l3 : Nat) (Po : Int32 → XH → Prop) (hw : w_L_load dc h l0 l1 l2 l3 Po) : xMW l dc yL_load wsL_load 8 136 2 12 [.ref l0, .int l1, .int l2, .ref l3] h (xPi Po) := by
  refine xMW_of [(0, .ref l0), (1, .int l1), (2, .int l2), (3, .ref l3)] (own := RL) (cc := cL_load) (nL := 5) (ret := (some .int)) (by decide +kernel) rfl rfl (Nat.le_of_ble_eq_true rfl) rfl ?_
  intro X V VX hX S2 E CC
  subst hX
  have S := S2.S
  refine xr_aload_n S 3 dL_load_0 rfl ?_
  refine xr_iconst S (0) dL_load_1 (by decide) ?_
  refine xr_aload_n S 0 dL_load_2 rfl ?_
  refine xr_iload_n S 1 dL_load_3 rfl ?_
  refine xr_iload_n S 2 dL_load_4 rfl ?_
  obtain ⟨e1, hw⟩ := hw
  obtain ⟨f2, f2x⟩ := id e1
  refine xr_callVX S2 7 [.int l1, .int l2] [.int 0, .ref l3] dL_load_5 (k_X6_load l hfl (xdc X) h l0 l1 l2 _ _ hw) gL_load_X6_load rfl pd_X6_load ⟨Nat.le_of_ble_eq_true rfl, Nat.le_of_ble_eq_true rfl⟩ rfl (Nat.le_of_ble_eq_true rfl) ⟨Nat.le_of_ble_eq_true rfl, Nat.le_of_ble_eq_true rfl⟩ f2x rfl (fun E1 h9 hx => ?_) (fun v9 h4 hv => ?_)
  · rcases hx with ⟨rfl, hw⟩ | ⟨rfl, hw⟩
    · refine CC _ _ _ _ _ _ "java/lang/IndexOutOfBoundsException" [] [(0, 10, 17, 13)] (0, 10, 13, 33) rfl (fun z hz => absurd hz List.not_mem_nil) (by decide) (by decide) m_L_load_0 (by decide) (fun q => ?_)
      refine xr_astore S [(4, .ref q), (0, .ref l0), (1, .int l1), (2, .int l2), (3, .ref l3)] dL_load_13 (by decide) rfl ?_
      refine xr_iconst S (1) dL_load_15 (by decide) ?_
      exact E.1 _ _ _ _ _ _ rfl dL_load_16 ⟨_, rfl, hw⟩ (Nat.le_of_ble_eq_true rfl) (Nat.le_of_ble_eq_true rfl)
    · refine CC _ _ _ _ _ _ "java/lang/IllegalArgumentException" [(0, 10, 13, 33)] [] (0, 10, 17, 13) rfl (fun z hz => by simp only [List.mem_cons, List.not_mem_nil, or_false] at hz; rcases hz with rfl <;> first | exact ⟨by decide, "java/lang/IndexOutOfBoundsException", m_L_load_0, by decide⟩) (by decide) (by decide) m_L_load_1 (by decide) (fun q => ?_)
      refine xr_astore S [(4, .ref q), (0, .ref l0), (1, .int l1), (2, .int l2), (3, .ref l3)] dL_load_17 (by decide) rfl ?_
      refine xr_iconst S (2) dL_load_19 (by decide) ?_
      exact E.1 _ _ _ _ _ _ rfl dL_load_20 ⟨_, rfl, hw⟩ (Nat.le_of_ble_eq_true rfl) (Nat.le_of_ble_eq_true rfl)
  obtain ⟨r3, rfl, hw⟩ := hv
  refine xr_i2l S dL_load_8 ?_
  refine xw_last S dL_load_9 hw (fun h6 hw => ?_)
  refine xr_goto S (tgt := 21) dL_load_10 (by decide) ?_
  refine xr_iconst S (0) dL_load_21 (by decide) ?_
  exact E.1 _ _ _ _ _ _ rfl dL_load_22 ⟨_, rfl, hw⟩ (Nat.le_of_ble_eq_true rfl) (Nat.le_of_ble_eq_true rfl)
theorem m_L_addPilot_0 : Cond.classLink RL 13 "java/lang/IllegalArgumentException" ∈ wsL_addPilot := by decide +kernel
theorem m_L_addPilot_1 : Cond.classLink RL 15 "java/lang/IllegalStateException" ∈ wsL_addPilot := by decide +kernel
def w_L_addPilot (dc : Nat × Nat) (h : XH) (l0 : Nat) (l1 : Int32) (l2 : Int32) (l3 : Nat) (Po : Int32 → XH → Prop) : Prop :=
  wO h l0 7 ( w_X6_addPilot dc h l0 l1 l2 (fun r3 h4 => wSL h4 l3 0 r3.toInt64 (fun h6 => Po 0 h6)) (fun E h9 => (E = "java/lang/IllegalArgumentException" ∧ Po 1 h9) ∨ (E = "java/lang/IllegalStateException" ∧ Po 2 h9)))
set_option maxRecDepth 100000 in
set_option maxHeartbeats 4000000 in
theorem k_L_addPilot (l : Launch) (hfl : l.stackTraces = false) (dc : Nat × Nat) (h : XH) (l0 : Nat) (l1 : Int32) (l2 : Int32) (l3 : Nat) (Po : Int32 → XH → Prop) (hw : w_L_addPilot dc h l0 l1 l2 l3 Po) : xMW l dc yL_addPilot wsL_addPilot 8 194 4 80 [.ref l0, .int l1, .int l2, .ref l3] h (xPi Po) := by
  refine xMW_of [(0, .ref l0), (1, .int l1), (2, .int l2), (3, .ref l3)] (own := RL) (cc := cL_addPilot) (nL := 5) (ret := (some .int)) (by decide +kernel) rfl rfl (Nat.le_of_ble_eq_true rfl) rfl ?_
  intro X V VX hX S2 E CC
  subst hX
  have S := S2.S
  refine xr_aload_n S 3 dL_addPilot_0 rfl ?_
  refine xr_iconst S (0) dL_addPilot_1 (by decide) ?_
  refine xr_aload_n S 0 dL_addPilot_2 rfl ?_
  refine xr_iload_n S 1 dL_addPilot_3 rfl ?_
  refine xr_iload_n S 2 dL_addPilot_4 rfl ?_
  obtain ⟨e1, hw⟩ := hw
  obtain ⟨f2, f2x⟩ := id e1
  refine xr_callVX S2 7 [.int l1, .int l2] [.int 0, .ref l3] dL_addPilot_5 (k_X6_addPilot l hfl (xdc X) h l0 l1 l2 _ _ hw) gL_addPilot_X6_addPilot rfl pd_X6_addPilot ⟨Nat.le_of_ble_eq_true rfl, Nat.le_of_ble_eq_true rfl⟩ rfl (Nat.le_of_ble_eq_true rfl) ⟨Nat.le_of_ble_eq_true rfl, Nat.le_of_ble_eq_true rfl⟩ f2x rfl (fun E1 h9 hx => ?_) (fun v9 h4 hv => ?_)
  · rcases hx with ⟨rfl, hw⟩ | ⟨rfl, hw⟩
    · refine CC _ _ _ _ _ _ "java/lang/IllegalArgumentException" [] [(0, 10, 17, 15)] (0, 10, 13, 13) rfl (fun z hz => absurd hz List.not_mem_nil) (by decide) (by decide) m_L_addPilot_0 (by decide) (fun q => ?_)
      refine xr_astore S [(4, .ref q), (0, .ref l0), (1, .int l1), (2, .int l2), (3, .ref l3)] dL_addPilot_13 (by decide) rfl ?_
      refine xr_iconst S (1) dL_addPilot_15 (by decide) ?_
      exact E.1 _ _ _ _ _ _ rfl dL_addPilot_16 ⟨_, rfl, hw⟩ (Nat.le_of_ble_eq_true rfl) (Nat.le_of_ble_eq_true rfl)
    · refine CC _ _ _ _ _ _ "java/lang/IllegalStateException" [(0, 10, 13, 13)] [] (0, 10, 17, 15) rfl (fun z hz => by simp only [List.mem_cons, List.not_mem_nil, or_false] at hz; rcases hz with rfl <;> first | exact ⟨by decide, "java/lang/IllegalArgumentException", m_L_addPilot_0, by decide⟩) (by decide) (by decide) m_L_addPilot_1 (by decide) (fun q => ?_)
      refine xr_astore S [(4, .ref q), (0, .ref l0), (1, .int l1), (2, .int l2), (3, .ref l3)] dL_addPilot_17 (by decide) rfl ?_
      refine xr_iconst S (2) dL_addPilot_19 (by decide) ?_
      exact E.1 _ _ _ _ _ _ rfl dL_addPilot_20 ⟨_, rfl, hw⟩ (Nat.le_of_ble_eq_true rfl) (Nat.le_of_ble_eq_true rfl)
  obtain ⟨r3, rfl, hw⟩ := hv
  refine xr_i2l S dL_addPilot_8 ?_
  refine xw_last S dL_addPilot_9 hw (fun h6 hw => ?_)
  refine xr_goto S (tgt := 21) dL_addPilot_10 (by decide) ?_
  refine xr_iconst S (0) dL_addPilot_21 (by decide) ?_
  exact E.1 _ _ _ _ _ _ rfl dL_addPilot_22 ⟨_, rfl, hw⟩ (Nat.le_of_ble_eq_true rfl) (Nat.le_of_ble_eq_true rfl)
theorem m_L_setTugs_0 : Cond.classLink RL 13 "java/lang/IllegalArgumentException" ∈ wsL_setTugs := by decide +kernel
theorem m_L_setTugs_1 : Cond.classLink RL 15 "java/lang/IllegalStateException" ∈ wsL_setTugs := by decide +kernel
def w_L_setTugs (dc : Nat × Nat) (h : XH) (l0 : Nat) (l1 : Int32) (l2 : Nat) (Po : Int32 → XH → Prop) : Prop :=
  wO h l0 7 ( w_X6_setTugs dc h l0 l1 (fun r3 h4 => wSL h4 l2 0 r3.toInt64 (fun h6 => Po 0 h6)) (fun E h9 => (E = "java/lang/IllegalArgumentException" ∧ Po 1 h9) ∨ (E = "java/lang/IllegalStateException" ∧ Po 2 h9)))
set_option maxRecDepth 100000 in
set_option maxHeartbeats 4000000 in
theorem k_L_setTugs (l : Launch) (hfl : l.stackTraces = false) (dc : Nat × Nat) (h : XH) (l0 : Nat) (l1 : Int32) (l2 : Nat) (Po : Int32 → XH → Prop) (hw : w_L_setTugs dc h l0 l1 l2 Po) : xMW l dc yL_setTugs wsL_setTugs 8 134 2 12 [.ref l0, .int l1, .ref l2] h (xPi Po) := by
  refine xMW_of [(0, .ref l0), (1, .int l1), (2, .ref l2)] (own := RL) (cc := cL_setTugs) (nL := 4) (ret := (some .int)) (by decide +kernel) rfl rfl (Nat.le_of_ble_eq_true rfl) rfl ?_
  intro X V VX hX S2 E CC
  subst hX
  have S := S2.S
  refine xr_aload_n S 2 dL_setTugs_0 rfl ?_
  refine xr_iconst S (0) dL_setTugs_1 (by decide) ?_
  refine xr_aload_n S 0 dL_setTugs_2 rfl ?_
  refine xr_iload_n S 1 dL_setTugs_3 rfl ?_
  obtain ⟨e1, hw⟩ := hw
  obtain ⟨f2, f2x⟩ := id e1
  refine xr_callVX S2 7 [.int l1] [.int 0, .ref l2] dL_setTugs_4 (k_X6_setTugs l hfl (xdc X) h l0 l1 _ _ hw) gL_setTugs_X6_setTugs rfl pd_X6_setTugs ⟨Nat.le_of_ble_eq_true rfl, Nat.le_of_ble_eq_true rfl⟩ rfl (Nat.le_of_ble_eq_true rfl) ⟨Nat.le_of_ble_eq_true rfl, Nat.le_of_ble_eq_true rfl⟩ f2x rfl (fun E1 h9 hx => ?_) (fun v9 h4 hv => ?_)
  · rcases hx with ⟨rfl, hw⟩ | ⟨rfl, hw⟩
    · refine CC _ _ _ _ _ _ "java/lang/IllegalArgumentException" [] [(0, 9, 15, 15)] (0, 9, 12, 13) rfl (fun z hz => absurd hz List.not_mem_nil) (by decide) (by decide) m_L_setTugs_0 (by decide) (fun q => ?_)
      refine xr_astore_n S [(3, .ref q), (0, .ref l0), (1, .int l1), (2, .ref l2)] dL_setTugs_12 (by decide) rfl ?_
      refine xr_iconst S (1) dL_setTugs_13 (by decide) ?_
      exact E.1 _ _ _ _ _ _ rfl dL_setTugs_14 ⟨_, rfl, hw⟩ (Nat.le_of_ble_eq_true rfl) (Nat.le_of_ble_eq_true rfl)
    · refine CC _ _ _ _ _ _ "java/lang/IllegalStateException" [(0, 9, 12, 13)] [] (0, 9, 15, 15) rfl (fun z hz => by simp only [List.mem_cons, List.not_mem_nil, or_false] at hz; rcases hz with rfl <;> first | exact ⟨by decide, "java/lang/IllegalArgumentException", m_L_setTugs_0, by decide⟩) (by decide) (by decide) m_L_setTugs_1 (by decide) (fun q => ?_)
      refine xr_astore_n S [(3, .ref q), (0, .ref l0), (1, .int l1), (2, .ref l2)] dL_setTugs_15 (by decide) rfl ?_
      refine xr_iconst S (2) dL_setTugs_16 (by decide) ?_
      exact E.1 _ _ _ _ _ _ rfl dL_setTugs_17 ⟨_, rfl, hw⟩ (Nat.le_of_ble_eq_true rfl) (Nat.le_of_ble_eq_true rfl)
  obtain ⟨r3, rfl, hw⟩ := hv
  refine xr_i2l S dL_setTugs_7 ?_
  refine xw_last S dL_setTugs_8 hw (fun h6 hw => ?_)
  refine xr_goto S (tgt := 18) dL_setTugs_9 (by decide) ?_
  refine xr_iconst S (0) dL_setTugs_18 (by decide) ?_
  exact E.1 _ _ _ _ _ _ rfl dL_setTugs_19 ⟨_, rfl, hw⟩ (Nat.le_of_ble_eq_true rfl) (Nat.le_of_ble_eq_true rfl)
theorem m_L_count_0 : Cond.classLink RL 33 "java/lang/IndexOutOfBoundsException" ∈ wsL_count := by decide +kernel
def w_L_count (dc : Nat × Nat) (h : XH) (l0 : Nat) (l1 : Int32) (l2 : Nat) (Po : Int32 → XH → Prop) : Prop :=
  wO h l0 7 ( w_X6_count dc h l0 l1 (fun r3 => wSL h l2 0 r3.toInt64 (fun h6 => Po 0 h6)) (fun E => (E = "java/lang/IndexOutOfBoundsException" ∧ Po 1 h)))
set_option maxRecDepth 100000 in
set_option maxHeartbeats 4000000 in
theorem k_L_count (l : Launch) (hfl : l.stackTraces = false) (dc : Nat × Nat) (h : XH) (l0 : Nat) (l1 : Int32) (l2 : Nat) (Po : Int32 → XH → Prop) (hw : w_L_count dc h l0 l1 l2 Po) : xMW l dc yL_count wsL_count 7 111 1 6 [.ref l0, .int l1, .ref l2] h (xPi Po) := by
  refine xMW_of [(0, .ref l0), (1, .int l1), (2, .ref l2)] (own := RL) (cc := cL_count) (nL := 4) (ret := (some .int)) (by decide +kernel) rfl rfl (Nat.le_of_ble_eq_true rfl) rfl ?_
  intro X V VX hX S2 E CC
  subst hX
  have S := S2.S
  refine xr_aload_n S 2 dL_count_0 rfl ?_
  refine xr_iconst S (0) dL_count_1 (by decide) ?_
  refine xr_aload_n S 0 dL_count_2 rfl ?_
  refine xr_iload_n S 1 dL_count_3 rfl ?_
  obtain ⟨e1, hw⟩ := hw
  obtain ⟨f2, f2x⟩ := id e1
  refine xr_callVX S2 7 [.int l1] [.int 0, .ref l2] dL_count_4 (k_X6_count l hfl (xdc X) h l0 l1 _ _ hw) gL_count_X6_count rfl pd_X6_count ⟨Nat.le_of_ble_eq_true rfl, Nat.le_of_ble_eq_true rfl⟩ rfl (Nat.le_of_ble_eq_true rfl) ⟨Nat.le_of_ble_eq_true rfl, Nat.le_of_ble_eq_true rfl⟩ f2x rfl (fun E1 h9 hx => ?_) (fun v9 h5 hv => ?_)
  · obtain ⟨rfl, hx⟩ := hx
    obtain ⟨rfl, hw⟩ := hx
    · refine CC _ _ _ _ _ _ "java/lang/IndexOutOfBoundsException" [] [] (0, 9, 12, 33) rfl (fun z hz => absurd hz List.not_mem_nil) (by decide) (by decide) m_L_count_0 (by decide) (fun q => ?_)
      refine xr_astore_n S [(3, .ref q), (0, .ref l0), (1, .int l1), (2, .ref l2)] dL_count_12 (by decide) rfl ?_
      refine xr_iconst S (1) dL_count_13 (by decide) ?_
      exact E.1 _ _ _ _ _ _ rfl dL_count_14 ⟨_, rfl, hw⟩ (Nat.le_of_ble_eq_true rfl) (Nat.le_of_ble_eq_true rfl)
  obtain ⟨r3, rfl, rfl, hw⟩ := hv
  refine xr_i2l S dL_count_7 ?_
  refine xw_last S dL_count_8 hw (fun h6 hw => ?_)
  refine xr_goto S (tgt := 15) dL_count_9 (by decide) ?_
  refine xr_iconst S (0) dL_count_15 (by decide) ?_
  exact E.1 _ _ _ _ _ _ rfl dL_count_16 ⟨_, rfl, hw⟩ (Nat.le_of_ble_eq_true rfl) (Nat.le_of_ble_eq_true rfl)
theorem m_L_need_0 : Cond.classLink RL 33 "java/lang/IndexOutOfBoundsException" ∈ wsL_need := by decide +kernel
def w_L_need (dc : Nat × Nat) (h : XH) (l0 : Nat) (l1 : Int32) (l2 : Nat) (Po : Int32 → XH → Prop) : Prop :=
  wO h l0 7 ( w_X6_need dc h l0 l1 (fun r3 => wSL h l2 0 r3.toInt64 (fun h6 => Po 0 h6)) (fun E => (E = "java/lang/IndexOutOfBoundsException" ∧ Po 1 h)))
set_option maxRecDepth 100000 in
set_option maxHeartbeats 4000000 in
theorem k_L_need (l : Launch) (hfl : l.stackTraces = false) (dc : Nat × Nat) (h : XH) (l0 : Nat) (l1 : Int32) (l2 : Nat) (Po : Int32 → XH → Prop) (hw : w_L_need dc h l0 l1 l2 Po) : xMW l dc yL_need wsL_need 8 132 1 6 [.ref l0, .int l1, .ref l2] h (xPi Po) := by
  refine xMW_of [(0, .ref l0), (1, .int l1), (2, .ref l2)] (own := RL) (cc := cL_need) (nL := 4) (ret := (some .int)) (by decide +kernel) rfl rfl (Nat.le_of_ble_eq_true rfl) rfl ?_
  intro X V VX hX S2 E CC
  subst hX
  have S := S2.S
  refine xr_aload_n S 2 dL_need_0 rfl ?_
  refine xr_iconst S (0) dL_need_1 (by decide) ?_
  refine xr_aload_n S 0 dL_need_2 rfl ?_
  refine xr_iload_n S 1 dL_need_3 rfl ?_
  obtain ⟨e1, hw⟩ := hw
  obtain ⟨f2, f2x⟩ := id e1
  refine xr_callVX S2 7 [.int l1] [.int 0, .ref l2] dL_need_4 (k_X6_need l hfl (xdc X) h l0 l1 _ _ hw) gL_need_X6_need rfl pd_X6_need ⟨Nat.le_of_ble_eq_true rfl, Nat.le_of_ble_eq_true rfl⟩ rfl (Nat.le_of_ble_eq_true rfl) ⟨Nat.le_of_ble_eq_true rfl, Nat.le_of_ble_eq_true rfl⟩ f2x rfl (fun E1 h9 hx => ?_) (fun v9 h5 hv => ?_)
  · obtain ⟨rfl, hx⟩ := hx
    obtain ⟨rfl, hw⟩ := hx
    · refine CC _ _ _ _ _ _ "java/lang/IndexOutOfBoundsException" [] [] (0, 9, 12, 33) rfl (fun z hz => absurd hz List.not_mem_nil) (by decide) (by decide) m_L_need_0 (by decide) (fun q => ?_)
      refine xr_astore_n S [(3, .ref q), (0, .ref l0), (1, .int l1), (2, .ref l2)] dL_need_12 (by decide) rfl ?_
      refine xr_iconst S (1) dL_need_13 (by decide) ?_
      exact E.1 _ _ _ _ _ _ rfl dL_need_14 ⟨_, rfl, hw⟩ (Nat.le_of_ble_eq_true rfl) (Nat.le_of_ble_eq_true rfl)
  obtain ⟨r3, rfl, rfl, hw⟩ := hv
  refine xr_i2l S dL_need_7 ?_
  refine xw_last S dL_need_8 hw (fun h6 hw => ?_)
  refine xr_goto S (tgt := 15) dL_need_9 (by decide) ?_
  refine xr_iconst S (0) dL_need_15 (by decide) ?_
  exact E.1 _ _ _ _ _ _ rfl dL_need_16 ⟨_, rfl, hw⟩ (Nat.le_of_ble_eq_true rfl) (Nat.le_of_ble_eq_true rfl)
theorem m_L_window_0 : Cond.classLink RL 33 "java/lang/IndexOutOfBoundsException" ∈ wsL_window := by decide +kernel
theorem m_L_window_1 : Cond.classLink RL 13 "java/lang/IllegalArgumentException" ∈ wsL_window := by decide +kernel
def w_L_window (dc : Nat × Nat) (h : XH) (l0 : Nat) (l1 : Int32) (l2 : Int32) (l3 : Int32) (l4 : Nat) (Po : Int32 → XH → Prop) : Prop :=
  wO h l0 7 ( w_X6_window dc h l0 l1 l2 l3 (fun r3 => wSL h l4 0 r3.toInt64 (fun h6 => Po 0 h6)) (fun E => (E = "java/lang/IndexOutOfBoundsException" ∧ Po 1 h) ∨ (E = "java/lang/IllegalArgumentException" ∧ Po 2 h)))
set_option maxRecDepth 100000 in
set_option maxHeartbeats 4000000 in
theorem k_L_window (l : Launch) (hfl : l.stackTraces = false) (dc : Nat × Nat) (h : XH) (l0 : Nat) (l1 : Int32) (l2 : Int32) (l3 : Int32) (l4 : Nat) (Po : Int32 → XH → Prop) (hw : w_L_window dc h l0 l1 l2 l3 l4 Po) : xMW l dc yL_window wsL_window 10 181 3 18 [.ref l0, .int l1, .int l2, .int l3, .ref l4] h (xPi Po) := by
  refine xMW_of [(0, .ref l0), (1, .int l1), (2, .int l2), (3, .int l3), (4, .ref l4)] (own := RL) (cc := cL_window) (nL := 6) (ret := (some .int)) (by decide +kernel) rfl rfl (Nat.le_of_ble_eq_true rfl) rfl ?_
  intro X V VX hX S2 E CC
  subst hX
  have S := S2.S
  refine xr_aload S 4 dL_window_0 rfl ?_
  refine xr_iconst S (0) dL_window_2 (by decide) ?_
  refine xr_aload_n S 0 dL_window_3 rfl ?_
  refine xr_iload_n S 1 dL_window_4 rfl ?_
  refine xr_iload_n S 2 dL_window_5 rfl ?_
  refine xr_iload_n S 3 dL_window_6 rfl ?_
  obtain ⟨e1, hw⟩ := hw
  obtain ⟨f2, f2x⟩ := id e1
  refine xr_callVX S2 7 [.int l1, .int l2, .int l3] [.int 0, .ref l4] dL_window_7 (k_X6_window l hfl (xdc X) h l0 l1 l2 l3 _ _ hw) gL_window_X6_window rfl pd_X6_window ⟨Nat.le_of_ble_eq_true rfl, Nat.le_of_ble_eq_true rfl⟩ rfl (Nat.le_of_ble_eq_true rfl) ⟨Nat.le_of_ble_eq_true rfl, Nat.le_of_ble_eq_true rfl⟩ f2x rfl (fun E1 h9 hx => ?_) (fun v9 h5 hv => ?_)
  · obtain ⟨rfl, hx⟩ := hx
    rcases hx with ⟨rfl, hw⟩ | ⟨rfl, hw⟩
    · refine CC _ _ _ _ _ _ "java/lang/IndexOutOfBoundsException" [] [(0, 12, 19, 13)] (0, 12, 15, 33) rfl (fun z hz => absurd hz List.not_mem_nil) (by decide) (by decide) m_L_window_0 (by decide) (fun q => ?_)
      refine xr_astore S [(5, .ref q), (0, .ref l0), (1, .int l1), (2, .int l2), (3, .int l3), (4, .ref l4)] dL_window_15 (by decide) rfl ?_
      refine xr_iconst S (1) dL_window_17 (by decide) ?_
      exact E.1 _ _ _ _ _ _ rfl dL_window_18 ⟨_, rfl, hw⟩ (Nat.le_of_ble_eq_true rfl) (Nat.le_of_ble_eq_true rfl)
    · refine CC _ _ _ _ _ _ "java/lang/IllegalArgumentException" [(0, 12, 15, 33)] [] (0, 12, 19, 13) rfl (fun z hz => by simp only [List.mem_cons, List.not_mem_nil, or_false] at hz; rcases hz with rfl <;> first | exact ⟨by decide, "java/lang/IndexOutOfBoundsException", m_L_window_0, by decide⟩) (by decide) (by decide) m_L_window_1 (by decide) (fun q => ?_)
      refine xr_astore S [(5, .ref q), (0, .ref l0), (1, .int l1), (2, .int l2), (3, .int l3), (4, .ref l4)] dL_window_19 (by decide) rfl ?_
      refine xr_iconst S (2) dL_window_21 (by decide) ?_
      exact E.1 _ _ _ _ _ _ rfl dL_window_22 ⟨_, rfl, hw⟩ (Nat.le_of_ble_eq_true rfl) (Nat.le_of_ble_eq_true rfl)
  obtain ⟨r3, rfl, rfl, hw⟩ := hv
  refine xr_i2l S dL_window_10 ?_
  refine xw_last S dL_window_11 hw (fun h6 hw => ?_)
  refine xr_goto S (tgt := 23) dL_window_12 (by decide) ?_
  refine xr_iconst S (0) dL_window_23 (by decide) ?_
  exact E.1 _ _ _ _ _ _ rfl dL_window_24 ⟨_, rfl, hw⟩ (Nat.le_of_ble_eq_true rfl) (Nat.le_of_ble_eq_true rfl)
theorem m_L_least_0 : Cond.classLink RL 33 "java/lang/IndexOutOfBoundsException" ∈ wsL_least := by decide +kernel
theorem m_L_least_1 : Cond.classLink RL 15 "java/lang/IllegalStateException" ∈ wsL_least := by decide +kernel
def w_L_least (dc : Nat × Nat) (h : XH) (l0 : Nat) (l1 : Int32) (l2 : Nat) (Po : Int32 → XH → Prop) : Prop :=
  wO h l0 7 ( w_X6_least dc h l0 l1 (fun r3 => wSL h l2 0 r3.toInt64 (fun h6 => Po 0 h6)) (fun E => (E = "java/lang/IndexOutOfBoundsException" ∧ Po 1 h) ∨ (E = "java/lang/IllegalStateException" ∧ Po 2 h)))
set_option maxRecDepth 100000 in
set_option maxHeartbeats 4000000 in
theorem k_L_least (l : Launch) (hfl : l.stackTraces = false) (dc : Nat × Nat) (h : XH) (l0 : Nat) (l1 : Int32) (l2 : Nat) (Po : Int32 → XH → Prop) (hw : w_L_least dc h l0 l1 l2 Po) : xMW l dc yL_least wsL_least 8 135 2 12 [.ref l0, .int l1, .ref l2] h (xPi Po) := by
  refine xMW_of [(0, .ref l0), (1, .int l1), (2, .ref l2)] (own := RL) (cc := cL_least) (nL := 4) (ret := (some .int)) (by decide +kernel) rfl rfl (Nat.le_of_ble_eq_true rfl) rfl ?_
  intro X V VX hX S2 E CC
  subst hX
  have S := S2.S
  refine xr_aload_n S 2 dL_least_0 rfl ?_
  refine xr_iconst S (0) dL_least_1 (by decide) ?_
  refine xr_aload_n S 0 dL_least_2 rfl ?_
  refine xr_iload_n S 1 dL_least_3 rfl ?_
  obtain ⟨e1, hw⟩ := hw
  obtain ⟨f2, f2x⟩ := id e1
  refine xr_callVX S2 7 [.int l1] [.int 0, .ref l2] dL_least_4 (k_X6_least l hfl (xdc X) h l0 l1 _ _ hw) gL_least_X6_least rfl pd_X6_least ⟨Nat.le_of_ble_eq_true rfl, Nat.le_of_ble_eq_true rfl⟩ rfl (Nat.le_of_ble_eq_true rfl) ⟨Nat.le_of_ble_eq_true rfl, Nat.le_of_ble_eq_true rfl⟩ f2x rfl (fun E1 h9 hx => ?_) (fun v9 h5 hv => ?_)
  · obtain ⟨rfl, hx⟩ := hx
    rcases hx with ⟨rfl, hw⟩ | ⟨rfl, hw⟩
    · refine CC _ _ _ _ _ _ "java/lang/IndexOutOfBoundsException" [] [(0, 9, 15, 15)] (0, 9, 12, 33) rfl (fun z hz => absurd hz List.not_mem_nil) (by decide) (by decide) m_L_least_0 (by decide) (fun q => ?_)
      refine xr_astore_n S [(3, .ref q), (0, .ref l0), (1, .int l1), (2, .ref l2)] dL_least_12 (by decide) rfl ?_
      refine xr_iconst S (1) dL_least_13 (by decide) ?_
      exact E.1 _ _ _ _ _ _ rfl dL_least_14 ⟨_, rfl, hw⟩ (Nat.le_of_ble_eq_true rfl) (Nat.le_of_ble_eq_true rfl)
    · refine CC _ _ _ _ _ _ "java/lang/IllegalStateException" [(0, 9, 12, 33)] [] (0, 9, 15, 15) rfl (fun z hz => by simp only [List.mem_cons, List.not_mem_nil, or_false] at hz; rcases hz with rfl <;> first | exact ⟨by decide, "java/lang/IndexOutOfBoundsException", m_L_least_0, by decide⟩) (by decide) (by decide) m_L_least_1 (by decide) (fun q => ?_)
      refine xr_astore_n S [(3, .ref q), (0, .ref l0), (1, .int l1), (2, .ref l2)] dL_least_15 (by decide) rfl ?_
      refine xr_iconst S (2) dL_least_16 (by decide) ?_
      exact E.1 _ _ _ _ _ _ rfl dL_least_17 ⟨_, rfl, hw⟩ (Nat.le_of_ble_eq_true rfl) (Nat.le_of_ble_eq_true rfl)
  obtain ⟨r3, rfl, rfl, hw⟩ := hv
  refine xr_i2l S dL_least_7 ?_
  refine xw_last S dL_least_8 hw (fun h6 hw => ?_)
  refine xr_goto S (tgt := 18) dL_least_9 (by decide) ?_
  refine xr_iconst S (0) dL_least_18 (by decide) ?_
  exact E.1 _ _ _ _ _ _ rfl dL_least_19 ⟨_, rfl, hw⟩ (Nat.le_of_ble_eq_true rfl) (Nat.le_of_ble_eq_true rfl)
theorem m_L_earliest_0 : Cond.classLink RL 33 "java/lang/IndexOutOfBoundsException" ∈ wsL_earliest := by decide +kernel
theorem m_L_earliest_1 : Cond.classLink RL 13 "java/lang/IllegalArgumentException" ∈ wsL_earliest := by decide +kernel
def w_L_earliest (dc : Nat × Nat) (h : XH) (l0 : Nat) (l1 : Int32) (l2 : Int32) (l3 : Int32) (l4 : Nat) (Po : Int32 → XH → Prop) : Prop :=
  wO h l0 7 ( w_X6_earliest dc h l0 l1 l2 l3 (fun r3 h4 => wSL h4 l4 0 r3.toInt64 (fun h6 => Po 0 h6)) (fun E h9 => (E = "java/lang/IndexOutOfBoundsException" ∧ Po 1 h9) ∨ (E = "java/lang/IllegalArgumentException" ∧ Po 2 h9)))
set_option maxRecDepth 100000 in
set_option maxHeartbeats 4000000 in
theorem k_L_earliest (l : Launch) (hfl : l.stackTraces = false) (dc : Nat × Nat) (h : XH) (l0 : Nat) (l1 : Int32) (l2 : Int32) (l3 : Int32) (l4 : Nat) (Po : Int32 → XH → Prop) (hw : w_L_earliest dc h l0 l1 l2 l3 l4 Po) : xMW l dc yL_earliest wsL_earliest 10 185 4 22 [.ref l0, .int l1, .int l2, .int l3, .ref l4] h (xPi Po) := by
  refine xMW_of [(0, .ref l0), (1, .int l1), (2, .int l2), (3, .int l3), (4, .ref l4)] (own := RL) (cc := cL_earliest) (nL := 6) (ret := (some .int)) (by decide +kernel) rfl rfl (Nat.le_of_ble_eq_true rfl) rfl ?_
  intro X V VX hX S2 E CC
  subst hX
  have S := S2.S
  refine xr_aload S 4 dL_earliest_0 rfl ?_
  refine xr_iconst S (0) dL_earliest_2 (by decide) ?_
  refine xr_aload_n S 0 dL_earliest_3 rfl ?_
  refine xr_iload_n S 1 dL_earliest_4 rfl ?_
  refine xr_iload_n S 2 dL_earliest_5 rfl ?_
  refine xr_iload_n S 3 dL_earliest_6 rfl ?_
  obtain ⟨e1, hw⟩ := hw
  obtain ⟨f2, f2x⟩ := id e1
  refine xr_callVX S2 7 [.int l1, .int l2, .int l3] [.int 0, .ref l4] dL_earliest_7 (k_X6_earliest l hfl (xdc X) h l0 l1 l2 l3 _ _ hw) gL_earliest_X6_earliest rfl pd_X6_earliest ⟨Nat.le_of_ble_eq_true rfl, Nat.le_of_ble_eq_true rfl⟩ rfl (Nat.le_of_ble_eq_true rfl) ⟨Nat.le_of_ble_eq_true rfl, Nat.le_of_ble_eq_true rfl⟩ f2x rfl (fun E1 h9 hx => ?_) (fun v9 h4 hv => ?_)
  · rcases hx with ⟨rfl, hw⟩ | ⟨rfl, hw⟩
    · refine CC _ _ _ _ _ _ "java/lang/IndexOutOfBoundsException" [] [(0, 12, 19, 13)] (0, 12, 15, 33) rfl (fun z hz => absurd hz List.not_mem_nil) (by decide) (by decide) m_L_earliest_0 (by decide) (fun q => ?_)
      refine xr_astore S [(5, .ref q), (0, .ref l0), (1, .int l1), (2, .int l2), (3, .int l3), (4, .ref l4)] dL_earliest_15 (by decide) rfl ?_
      refine xr_iconst S (1) dL_earliest_17 (by decide) ?_
      exact E.1 _ _ _ _ _ _ rfl dL_earliest_18 ⟨_, rfl, hw⟩ (Nat.le_of_ble_eq_true rfl) (Nat.le_of_ble_eq_true rfl)
    · refine CC _ _ _ _ _ _ "java/lang/IllegalArgumentException" [(0, 12, 15, 33)] [] (0, 12, 19, 13) rfl (fun z hz => by simp only [List.mem_cons, List.not_mem_nil, or_false] at hz; rcases hz with rfl <;> first | exact ⟨by decide, "java/lang/IndexOutOfBoundsException", m_L_earliest_0, by decide⟩) (by decide) (by decide) m_L_earliest_1 (by decide) (fun q => ?_)
      refine xr_astore S [(5, .ref q), (0, .ref l0), (1, .int l1), (2, .int l2), (3, .int l3), (4, .ref l4)] dL_earliest_19 (by decide) rfl ?_
      refine xr_iconst S (2) dL_earliest_21 (by decide) ?_
      exact E.1 _ _ _ _ _ _ rfl dL_earliest_22 ⟨_, rfl, hw⟩ (Nat.le_of_ble_eq_true rfl) (Nat.le_of_ble_eq_true rfl)
  obtain ⟨r3, rfl, hw⟩ := hv
  refine xr_i2l S dL_earliest_10 ?_
  refine xw_last S dL_earliest_11 hw (fun h6 hw => ?_)
  refine xr_goto S (tgt := 23) dL_earliest_12 (by decide) ?_
  refine xr_iconst S (0) dL_earliest_23 (by decide) ?_
  exact E.1 _ _ _ _ _ _ rfl dL_earliest_24 ⟨_, rfl, hw⟩ (Nat.le_of_ble_eq_true rfl) (Nat.le_of_ble_eq_true rfl)
theorem m_L_book_0 : Cond.classLink RL 33 "java/lang/IndexOutOfBoundsException" ∈ wsL_book := by decide +kernel
theorem m_L_book_1 : Cond.classLink RL 13 "java/lang/IllegalArgumentException" ∈ wsL_book := by decide +kernel
theorem m_L_book_2 : Cond.classLink RL 15 "java/lang/IllegalStateException" ∈ wsL_book := by decide +kernel
def w_L_book (dc : Nat × Nat) (h : XH) (l0 : Nat) (l1 : Int32) (l2 : Int32) (l3 : Int32) (l4 : Nat) (Po : Int32 → XH → Prop) : Prop :=
  wO h l0 7 ( w_X6_book dc h l0 l1 l2 l3 (fun r3 h4 => wSL h4 l4 0 r3.toInt64 (fun h6 => Po 0 h6)) (fun E h9 => (E = "java/lang/IndexOutOfBoundsException" ∧ Po 1 h9) ∨ (E = "java/lang/IllegalArgumentException" ∧ Po 2 h9) ∨ (E = "java/lang/IllegalStateException" ∧ Po 3 h9)))
set_option maxRecDepth 100000 in
set_option maxHeartbeats 4000000 in
theorem k_L_book (l : Launch) (hfl : l.stackTraces = false) (dc : Nat × Nat) (h : XH) (l0 : Nat) (l1 : Int32) (l2 : Int32) (l3 : Int32) (l4 : Nat) (Po : Int32 → XH → Prop) (hw : w_L_book dc h l0 l1 l2 l3 l4 Po) : xMW l dc yL_book wsL_book 10 219 7 99 [.ref l0, .int l1, .int l2, .int l3, .ref l4] h (xPi Po) := by
  refine xMW_of [(0, .ref l0), (1, .int l1), (2, .int l2), (3, .int l3), (4, .ref l4)] (own := RL) (cc := cL_book) (nL := 6) (ret := (some .int)) (by decide +kernel) rfl rfl (Nat.le_of_ble_eq_true rfl) rfl ?_
  intro X V VX hX S2 E CC
  subst hX
  have S := S2.S
  refine xr_aload S 4 dL_book_0 rfl ?_
  refine xr_iconst S (0) dL_book_2 (by decide) ?_
  refine xr_aload_n S 0 dL_book_3 rfl ?_
  refine xr_iload_n S 1 dL_book_4 rfl ?_
  refine xr_iload_n S 2 dL_book_5 rfl ?_
  refine xr_iload_n S 3 dL_book_6 rfl ?_
  obtain ⟨e1, hw⟩ := hw
  obtain ⟨f2, f2x⟩ := id e1
  refine xr_callVX S2 7 [.int l1, .int l2, .int l3] [.int 0, .ref l4] dL_book_7 (k_X6_book l hfl (xdc X) h l0 l1 l2 l3 _ _ hw) gL_book_X6_book rfl pd_X6_book ⟨Nat.le_of_ble_eq_true rfl, Nat.le_of_ble_eq_true rfl⟩ rfl (Nat.le_of_ble_eq_true rfl) ⟨Nat.le_of_ble_eq_true rfl, Nat.le_of_ble_eq_true rfl⟩ f2x rfl (fun E1 h9 hx => ?_) (fun v9 h4 hv => ?_)
  · rcases hx with ⟨rfl, hw⟩ | ⟨rfl, hw⟩ | ⟨rfl, hw⟩
    · refine CC _ _ _ _ _ _ "java/lang/IndexOutOfBoundsException" [] [(0, 12, 19, 13), (0, 12, 23, 15)] (0, 12, 15, 33) rfl (fun z hz => absurd hz List.not_mem_nil) (by decide) (by decide) m_L_book_0 (by decide) (fun q => ?_)
      refine xr_astore S [(5, .ref q), (0, .ref l0), (1, .int l1), (2, .int l2), (3, .int l3), (4, .ref l4)] dL_book_15 (by decide) rfl ?_
      refine xr_iconst S (1) dL_book_17 (by decide) ?_
      exact E.1 _ _ _ _ _ _ rfl dL_book_18 ⟨_, rfl, hw⟩ (Nat.le_of_ble_eq_true rfl) (Nat.le_of_ble_eq_true rfl)
    · refine CC _ _ _ _ _ _ "java/lang/IllegalArgumentException" [(0, 12, 15, 33)] [(0, 12, 23, 15)] (0, 12, 19, 13) rfl (fun z hz => by simp only [List.mem_cons, List.not_mem_nil, or_false] at hz; rcases hz with rfl <;> first | exact ⟨by decide, "java/lang/IndexOutOfBoundsException", m_L_book_0, by decide⟩) (by decide) (by decide) m_L_book_1 (by decide) (fun q => ?_)
      refine xr_astore S [(5, .ref q), (0, .ref l0), (1, .int l1), (2, .int l2), (3, .int l3), (4, .ref l4)] dL_book_19 (by decide) rfl ?_
      refine xr_iconst S (2) dL_book_21 (by decide) ?_
      exact E.1 _ _ _ _ _ _ rfl dL_book_22 ⟨_, rfl, hw⟩ (Nat.le_of_ble_eq_true rfl) (Nat.le_of_ble_eq_true rfl)
    · refine CC _ _ _ _ _ _ "java/lang/IllegalStateException" [(0, 12, 15, 33), (0, 12, 19, 13)] [] (0, 12, 23, 15) rfl (fun z hz => by simp only [List.mem_cons, List.not_mem_nil, or_false] at hz; rcases hz with rfl | rfl <;> first | exact ⟨by decide, "java/lang/IndexOutOfBoundsException", m_L_book_0, by decide⟩ | exact ⟨by decide, "java/lang/IllegalArgumentException", m_L_book_1, by decide⟩) (by decide) (by decide) m_L_book_2 (by decide) (fun q => ?_)
      refine xr_astore S [(5, .ref q), (0, .ref l0), (1, .int l1), (2, .int l2), (3, .int l3), (4, .ref l4)] dL_book_23 (by decide) rfl ?_
      refine xr_iconst S (3) dL_book_25 (by decide) ?_
      exact E.1 _ _ _ _ _ _ rfl dL_book_26 ⟨_, rfl, hw⟩ (Nat.le_of_ble_eq_true rfl) (Nat.le_of_ble_eq_true rfl)
  obtain ⟨r3, rfl, hw⟩ := hv
  refine xr_i2l S dL_book_10 ?_
  refine xw_last S dL_book_11 hw (fun h6 hw => ?_)
  refine xr_goto S (tgt := 27) dL_book_12 (by decide) ?_
  refine xr_iconst S (0) dL_book_27 (by decide) ?_
  exact E.1 _ _ _ _ _ _ rfl dL_book_28 ⟨_, rfl, hw⟩ (Nat.le_of_ble_eq_true rfl) (Nat.le_of_ble_eq_true rfl)
theorem m_L_cancel_0 : Cond.classLink RL 15 "java/lang/IllegalStateException" ∈ wsL_cancel := by decide +kernel
def w_L_cancel (dc : Nat × Nat) (h : XH) (l0 : Nat) (l1 : Nat) (Po : Int32 → XH → Prop) : Prop :=
  wO h l0 7 ( w_X6_cancel dc h l0 (fun r3 h4 => wSL h4 l1 0 r3.toInt64 (fun h6 => Po 0 h6)) (fun E h9 => (E = "java/lang/IllegalStateException" ∧ Po 1 h9)))
set_option maxRecDepth 100000 in
set_option maxHeartbeats 4000000 in
theorem k_L_cancel (l : Launch) (hfl : l.stackTraces = false) (dc : Nat × Nat) (h : XH) (l0 : Nat) (l1 : Nat) (Po : Int32 → XH → Prop) (hw : w_L_cancel dc h l0 l1 Po) : xMW l dc yL_cancel wsL_cancel 7 113 1 6 [.ref l0, .ref l1] h (xPi Po) := by
  refine xMW_of [(0, .ref l0), (1, .ref l1)] (own := RL) (cc := cL_cancel) (nL := 3) (ret := (some .int)) (by decide +kernel) rfl rfl (Nat.le_of_ble_eq_true rfl) rfl ?_
  intro X V VX hX S2 E CC
  subst hX
  have S := S2.S
  refine xr_aload_n S 1 dL_cancel_0 rfl ?_
  refine xr_iconst S (0) dL_cancel_1 (by decide) ?_
  refine xr_aload_n S 0 dL_cancel_2 rfl ?_
  obtain ⟨e1, hw⟩ := hw
  obtain ⟨f2, f2x⟩ := id e1
  refine xr_callVX S2 7 [] [.int 0, .ref l1] dL_cancel_3 (k_X6_cancel l hfl (xdc X) h l0 _ _ hw) gL_cancel_X6_cancel rfl pd_X6_cancel ⟨Nat.le_of_ble_eq_true rfl, Nat.le_of_ble_eq_true rfl⟩ rfl (Nat.le_of_ble_eq_true rfl) ⟨Nat.le_of_ble_eq_true rfl, Nat.le_of_ble_eq_true rfl⟩ f2x rfl (fun E1 h9 hx => ?_) (fun v9 h4 hv => ?_)
  · obtain ⟨rfl, hw⟩ := hx
    · refine CC _ _ _ _ _ _ "java/lang/IllegalStateException" [] [] (0, 8, 11, 15) rfl (fun z hz => absurd hz List.not_mem_nil) (by decide) (by decide) m_L_cancel_0 (by decide) (fun q => ?_)
      refine xr_astore_n S [(2, .ref q), (0, .ref l0), (1, .ref l1)] dL_cancel_11 (by decide) rfl ?_
      refine xr_iconst S (1) dL_cancel_12 (by decide) ?_
      exact E.1 _ _ _ _ _ _ rfl dL_cancel_13 ⟨_, rfl, hw⟩ (Nat.le_of_ble_eq_true rfl) (Nat.le_of_ble_eq_true rfl)
  obtain ⟨r3, rfl, hw⟩ := hv
  refine xr_i2l S dL_cancel_6 ?_
  refine xw_last S dL_cancel_7 hw (fun h6 hw => ?_)
  refine xr_goto S (tgt := 14) dL_cancel_8 (by decide) ?_
  refine xr_iconst S (0) dL_cancel_14 (by decide) ?_
  exact E.1 _ _ _ _ _ _ rfl dL_cancel_15 ⟨_, rfl, hw⟩ (Nat.le_of_ble_eq_true rfl) (Nat.le_of_ble_eq_true rfl)
theorem m_L_passage_0 : Cond.classLink RL 33 "java/lang/IndexOutOfBoundsException" ∈ wsL_passage := by decide +kernel
def w_L_passage (dc : Nat × Nat) (h : XH) (l0 : Nat) (l1 : Int32) (l2 : Int32) (l3 : Nat) (Po : Int32 → XH → Prop) : Prop :=
  wO h l0 7 ( w_X6_passage dc h l0 l1 l2 (fun r3 => wSL h l3 0 r3.toInt64 (fun h6 => Po 0 h6)) (fun E => (E = "java/lang/IndexOutOfBoundsException" ∧ Po 1 h)))
set_option maxRecDepth 100000 in
set_option maxHeartbeats 4000000 in
theorem k_L_passage (l : Launch) (hfl : l.stackTraces = false) (dc : Nat × Nat) (h : XH) (l0 : Nat) (l1 : Int32) (l2 : Int32) (l3 : Nat) (Po : Int32 → XH → Prop) (hw : w_L_passage dc h l0 l1 l2 l3 Po) : xMW l dc yL_passage wsL_passage 8 134 2 12 [.ref l0, .int l1, .int l2, .ref l3] h (xPi Po) := by
  refine xMW_of [(0, .ref l0), (1, .int l1), (2, .int l2), (3, .ref l3)] (own := RL) (cc := cL_passage) (nL := 5) (ret := (some .int)) (by decide +kernel) rfl rfl (Nat.le_of_ble_eq_true rfl) rfl ?_
  intro X V VX hX S2 E CC
  subst hX
  have S := S2.S
  refine xr_aload_n S 3 dL_passage_0 rfl ?_
  refine xr_iconst S (0) dL_passage_1 (by decide) ?_
  refine xr_aload_n S 0 dL_passage_2 rfl ?_
  refine xr_iload_n S 1 dL_passage_3 rfl ?_
  refine xr_iload_n S 2 dL_passage_4 rfl ?_
  obtain ⟨e1, hw⟩ := hw
  obtain ⟨f2, f2x⟩ := id e1
  refine xr_callVX S2 7 [.int l1, .int l2] [.int 0, .ref l3] dL_passage_5 (k_X6_passage l hfl (xdc X) h l0 l1 l2 _ _ hw) gL_passage_X6_passage rfl pd_X6_passage ⟨Nat.le_of_ble_eq_true rfl, Nat.le_of_ble_eq_true rfl⟩ rfl (Nat.le_of_ble_eq_true rfl) ⟨Nat.le_of_ble_eq_true rfl, Nat.le_of_ble_eq_true rfl⟩ f2x rfl (fun E1 h9 hx => ?_) (fun v9 h5 hv => ?_)
  · obtain ⟨rfl, hx⟩ := hx
    obtain ⟨rfl, hw⟩ := hx
    · refine CC _ _ _ _ _ _ "java/lang/IndexOutOfBoundsException" [] [] (0, 10, 13, 33) rfl (fun z hz => absurd hz List.not_mem_nil) (by decide) (by decide) m_L_passage_0 (by decide) (fun q => ?_)
      refine xr_astore S [(4, .ref q), (0, .ref l0), (1, .int l1), (2, .int l2), (3, .ref l3)] dL_passage_13 (by decide) rfl ?_
      refine xr_iconst S (1) dL_passage_15 (by decide) ?_
      exact E.1 _ _ _ _ _ _ rfl dL_passage_16 ⟨_, rfl, hw⟩ (Nat.le_of_ble_eq_true rfl) (Nat.le_of_ble_eq_true rfl)
  obtain ⟨r3, rfl, rfl, hw⟩ := hv
  refine xr_i2l S dL_passage_8 ?_
  refine xw_last S dL_passage_9 hw (fun h6 hw => ?_)
  refine xr_goto S (tgt := 17) dL_passage_10 (by decide) ?_
  refine xr_iconst S (0) dL_passage_17 (by decide) ?_
  exact E.1 _ _ _ _ _ _ rfl dL_passage_18 ⟨_, rfl, hw⟩ (Nat.le_of_ble_eq_true rfl) (Nat.le_of_ble_eq_true rfl)
theorem m_L_occupant_0 : Cond.classLink RL 33 "java/lang/IndexOutOfBoundsException" ∈ wsL_occupant := by decide +kernel
theorem m_L_occupant_1 : Cond.classLink RL 13 "java/lang/IllegalArgumentException" ∈ wsL_occupant := by decide +kernel
def w_L_occupant (dc : Nat × Nat) (h : XH) (l0 : Nat) (l1 : Int32) (l2 : Int32) (l3 : Nat) (Po : Int32 → XH → Prop) : Prop :=
  wO h l0 7 ( w_X6_occupant dc h l0 l1 l2 (fun r3 => wSL h l3 0 r3.toInt64 (fun h6 => Po 0 h6)) (fun E => (E = "java/lang/IndexOutOfBoundsException" ∧ Po 1 h) ∨ (E = "java/lang/IllegalArgumentException" ∧ Po 2 h)))
set_option maxRecDepth 100000 in
set_option maxHeartbeats 4000000 in
theorem k_L_occupant (l : Launch) (hfl : l.stackTraces = false) (dc : Nat × Nat) (h : XH) (l0 : Nat) (l1 : Int32) (l2 : Int32) (l3 : Nat) (Po : Int32 → XH → Prop) (hw : w_L_occupant dc h l0 l1 l2 l3 Po) : xMW l dc yL_occupant wsL_occupant 9 156 2 12 [.ref l0, .int l1, .int l2, .ref l3] h (xPi Po) := by
  refine xMW_of [(0, .ref l0), (1, .int l1), (2, .int l2), (3, .ref l3)] (own := RL) (cc := cL_occupant) (nL := 5) (ret := (some .int)) (by decide +kernel) rfl rfl (Nat.le_of_ble_eq_true rfl) rfl ?_
  intro X V VX hX S2 E CC
  subst hX
  have S := S2.S
  refine xr_aload_n S 3 dL_occupant_0 rfl ?_
  refine xr_iconst S (0) dL_occupant_1 (by decide) ?_
  refine xr_aload_n S 0 dL_occupant_2 rfl ?_
  refine xr_iload_n S 1 dL_occupant_3 rfl ?_
  refine xr_iload_n S 2 dL_occupant_4 rfl ?_
  obtain ⟨e1, hw⟩ := hw
  obtain ⟨f2, f2x⟩ := id e1
  refine xr_callVX S2 7 [.int l1, .int l2] [.int 0, .ref l3] dL_occupant_5 (k_X6_occupant l hfl (xdc X) h l0 l1 l2 _ _ hw) gL_occupant_X6_occupant rfl pd_X6_occupant ⟨Nat.le_of_ble_eq_true rfl, Nat.le_of_ble_eq_true rfl⟩ rfl (Nat.le_of_ble_eq_true rfl) ⟨Nat.le_of_ble_eq_true rfl, Nat.le_of_ble_eq_true rfl⟩ f2x rfl (fun E1 h9 hx => ?_) (fun v9 h5 hv => ?_)
  · obtain ⟨rfl, hx⟩ := hx
    rcases hx with ⟨rfl, hw⟩ | ⟨rfl, hw⟩
    · refine CC _ _ _ _ _ _ "java/lang/IndexOutOfBoundsException" [] [(0, 10, 17, 13)] (0, 10, 13, 33) rfl (fun z hz => absurd hz List.not_mem_nil) (by decide) (by decide) m_L_occupant_0 (by decide) (fun q => ?_)
      refine xr_astore S [(4, .ref q), (0, .ref l0), (1, .int l1), (2, .int l2), (3, .ref l3)] dL_occupant_13 (by decide) rfl ?_
      refine xr_iconst S (1) dL_occupant_15 (by decide) ?_
      exact E.1 _ _ _ _ _ _ rfl dL_occupant_16 ⟨_, rfl, hw⟩ (Nat.le_of_ble_eq_true rfl) (Nat.le_of_ble_eq_true rfl)
    · refine CC _ _ _ _ _ _ "java/lang/IllegalArgumentException" [(0, 10, 13, 33)] [] (0, 10, 17, 13) rfl (fun z hz => by simp only [List.mem_cons, List.not_mem_nil, or_false] at hz; rcases hz with rfl <;> first | exact ⟨by decide, "java/lang/IndexOutOfBoundsException", m_L_occupant_0, by decide⟩) (by decide) (by decide) m_L_occupant_1 (by decide) (fun q => ?_)
      refine xr_astore S [(4, .ref q), (0, .ref l0), (1, .int l1), (2, .int l2), (3, .ref l3)] dL_occupant_17 (by decide) rfl ?_
      refine xr_iconst S (2) dL_occupant_19 (by decide) ?_
      exact E.1 _ _ _ _ _ _ rfl dL_occupant_20 ⟨_, rfl, hw⟩ (Nat.le_of_ble_eq_true rfl) (Nat.le_of_ble_eq_true rfl)
  obtain ⟨r3, rfl, rfl, hw⟩ := hv
  refine xr_i2l S dL_occupant_8 ?_
  refine xw_last S dL_occupant_9 hw (fun h6 hw => ?_)
  refine xr_goto S (tgt := 21) dL_occupant_10 (by decide) ?_
  refine xr_iconst S (0) dL_occupant_21 (by decide) ?_
  exact E.1 _ _ _ _ _ _ rfl dL_occupant_22 ⟨_, rfl, hw⟩ (Nat.le_of_ble_eq_true rfl) (Nat.le_of_ble_eq_true rfl)
theorem m_L_freeTugs_0 : Cond.classLink RL 13 "java/lang/IllegalArgumentException" ∈ wsL_freeTugs := by decide +kernel
def w_L_freeTugs (dc : Nat × Nat) (h : XH) (l0 : Nat) (l1 : Int32) (l2 : Nat) (Po : Int32 → XH → Prop) : Prop :=
  wO h l0 7 ( w_X6_freeTugs dc h l0 l1 (fun r3 => wSL h l2 0 r3.toInt64 (fun h6 => Po 0 h6)) (fun E => (E = "java/lang/IllegalArgumentException" ∧ Po 1 h)))
set_option maxRecDepth 100000 in
set_option maxHeartbeats 4000000 in
theorem k_L_freeTugs (l : Launch) (hfl : l.stackTraces = false) (dc : Nat × Nat) (h : XH) (l0 : Nat) (l1 : Int32) (l2 : Nat) (Po : Int32 → XH → Prop) (hw : w_L_freeTugs dc h l0 l1 l2 Po) : xMW l dc yL_freeTugs wsL_freeTugs 9 153 1 6 [.ref l0, .int l1, .ref l2] h (xPi Po) := by
  refine xMW_of [(0, .ref l0), (1, .int l1), (2, .ref l2)] (own := RL) (cc := cL_freeTugs) (nL := 4) (ret := (some .int)) (by decide +kernel) rfl rfl (Nat.le_of_ble_eq_true rfl) rfl ?_
  intro X V VX hX S2 E CC
  subst hX
  have S := S2.S
  refine xr_aload_n S 2 dL_freeTugs_0 rfl ?_
  refine xr_iconst S (0) dL_freeTugs_1 (by decide) ?_
  refine xr_aload_n S 0 dL_freeTugs_2 rfl ?_
  refine xr_iload_n S 1 dL_freeTugs_3 rfl ?_
  obtain ⟨e1, hw⟩ := hw
  obtain ⟨f2, f2x⟩ := id e1
  refine xr_callVX S2 7 [.int l1] [.int 0, .ref l2] dL_freeTugs_4 (k_X6_freeTugs l hfl (xdc X) h l0 l1 _ _ hw) gL_freeTugs_X6_freeTugs rfl pd_X6_freeTugs ⟨Nat.le_of_ble_eq_true rfl, Nat.le_of_ble_eq_true rfl⟩ rfl (Nat.le_of_ble_eq_true rfl) ⟨Nat.le_of_ble_eq_true rfl, Nat.le_of_ble_eq_true rfl⟩ f2x rfl (fun E1 h9 hx => ?_) (fun v9 h5 hv => ?_)
  · obtain ⟨rfl, hx⟩ := hx
    obtain ⟨rfl, hw⟩ := hx
    · refine CC _ _ _ _ _ _ "java/lang/IllegalArgumentException" [] [] (0, 9, 12, 13) rfl (fun z hz => absurd hz List.not_mem_nil) (by decide) (by decide) m_L_freeTugs_0 (by decide) (fun q => ?_)
      refine xr_astore_n S [(3, .ref q), (0, .ref l0), (1, .int l1), (2, .ref l2)] dL_freeTugs_12 (by decide) rfl ?_
      refine xr_iconst S (1) dL_freeTugs_13 (by decide) ?_
      exact E.1 _ _ _ _ _ _ rfl dL_freeTugs_14 ⟨_, rfl, hw⟩ (Nat.le_of_ble_eq_true rfl) (Nat.le_of_ble_eq_true rfl)
  obtain ⟨r3, rfl, rfl, hw⟩ := hv
  refine xr_i2l S dL_freeTugs_7 ?_
  refine xw_last S dL_freeTugs_8 hw (fun h6 hw => ?_)
  refine xr_goto S (tgt := 15) dL_freeTugs_9 (by decide) ?_
  refine xr_iconst S (0) dL_freeTugs_15 (by decide) ?_
  exact E.1 _ _ _ _ _ _ rfl dL_freeTugs_16 ⟨_, rfl, hw⟩ (Nat.le_of_ble_eq_true rfl) (Nat.le_of_ble_eq_true rfl)
theorem m_L_trips_0 : Cond.classLink RL 33 "java/lang/IndexOutOfBoundsException" ∈ wsL_trips := by decide +kernel
def w_L_trips (dc : Nat × Nat) (h : XH) (l0 : Nat) (l1 : Int32) (l2 : Nat) (Po : Int32 → XH → Prop) : Prop :=
  wO h l0 7 ( w_X6_trips dc h l0 l1 (fun r3 => wSL h l2 0 r3.toInt64 (fun h6 => Po 0 h6)) (fun E => (E = "java/lang/IndexOutOfBoundsException" ∧ Po 1 h)))
set_option maxRecDepth 100000 in
set_option maxHeartbeats 4000000 in
theorem k_L_trips (l : Launch) (hfl : l.stackTraces = false) (dc : Nat × Nat) (h : XH) (l0 : Nat) (l1 : Int32) (l2 : Nat) (Po : Int32 → XH → Prop) (hw : w_L_trips dc h l0 l1 l2 Po) : xMW l dc yL_trips wsL_trips 8 134 1 6 [.ref l0, .int l1, .ref l2] h (xPi Po) := by
  refine xMW_of [(0, .ref l0), (1, .int l1), (2, .ref l2)] (own := RL) (cc := cL_trips) (nL := 4) (ret := (some .int)) (by decide +kernel) rfl rfl (Nat.le_of_ble_eq_true rfl) rfl ?_
  intro X V VX hX S2 E CC
  subst hX
  have S := S2.S
  refine xr_aload_n S 2 dL_trips_0 rfl ?_
  refine xr_iconst S (0) dL_trips_1 (by decide) ?_
  refine xr_aload_n S 0 dL_trips_2 rfl ?_
  refine xr_iload_n S 1 dL_trips_3 rfl ?_
  obtain ⟨e1, hw⟩ := hw
  obtain ⟨f2, f2x⟩ := id e1
  refine xr_callVX S2 7 [.int l1] [.int 0, .ref l2] dL_trips_4 (k_X6_trips l hfl (xdc X) h l0 l1 _ _ hw) gL_trips_X6_trips rfl pd_X6_trips ⟨Nat.le_of_ble_eq_true rfl, Nat.le_of_ble_eq_true rfl⟩ rfl (Nat.le_of_ble_eq_true rfl) ⟨Nat.le_of_ble_eq_true rfl, Nat.le_of_ble_eq_true rfl⟩ f2x rfl (fun E1 h9 hx => ?_) (fun v9 h5 hv => ?_)
  · obtain ⟨rfl, hx⟩ := hx
    obtain ⟨rfl, hw⟩ := hx
    · refine CC _ _ _ _ _ _ "java/lang/IndexOutOfBoundsException" [] [] (0, 9, 12, 33) rfl (fun z hz => absurd hz List.not_mem_nil) (by decide) (by decide) m_L_trips_0 (by decide) (fun q => ?_)
      refine xr_astore_n S [(3, .ref q), (0, .ref l0), (1, .int l1), (2, .ref l2)] dL_trips_12 (by decide) rfl ?_
      refine xr_iconst S (1) dL_trips_13 (by decide) ?_
      exact E.1 _ _ _ _ _ _ rfl dL_trips_14 ⟨_, rfl, hw⟩ (Nat.le_of_ble_eq_true rfl) (Nat.le_of_ble_eq_true rfl)
  obtain ⟨r3, rfl, rfl, hw⟩ := hv
  refine xr_i2l S dL_trips_7 ?_
  refine xw_last S dL_trips_8 hw (fun h6 hw => ?_)
  refine xr_goto S (tgt := 15) dL_trips_9 (by decide) ?_
  refine xr_iconst S (0) dL_trips_15 (by decide) ?_
  exact E.1 _ _ _ _ _ _ rfl dL_trips_16 ⟨_, rfl, hw⟩ (Nat.le_of_ble_eq_true rfl) (Nat.le_of_ble_eq_true rfl)
theorem m_L_isInPort_0 : Cond.classLink RL 33 "java/lang/IndexOutOfBoundsException" ∈ wsL_isInPort := by decide +kernel
def w_L_isInPort (dc : Nat × Nat) (h : XH) (l0 : Nat) (l1 : Int32) (l2 : Nat) (Po : Int32 → XH → Prop) : Prop :=
  wO h l0 7 ( w_X6_isInPort dc h l0 l1 (fun r3 => wIf (r3 = 0) (wSL h l2 0 0 (fun h6 => Po 0 h6)) (wSL h l2 0 1 (fun h7 => Po 0 h7))) (fun E => (E = "java/lang/IndexOutOfBoundsException" ∧ Po 1 h)))
set_option maxRecDepth 100000 in
set_option maxHeartbeats 4000000 in
theorem k_L_isInPort (l : Launch) (hfl : l.stackTraces = false) (dc : Nat × Nat) (h : XH) (l0 : Nat) (l1 : Int32) (l2 : Nat) (Po : Int32 → XH → Prop) (hw : w_L_isInPort dc h l0 l1 l2 Po) : xMW l dc yL_isInPort wsL_isInPort 8 132 1 6 [.ref l0, .int l1, .ref l2] h (xPi Po) := by
  refine xMW_of [(0, .ref l0), (1, .int l1), (2, .ref l2)] (own := RL) (cc := cL_isInPort) (nL := 4) (ret := (some .int)) (by decide +kernel) rfl rfl (Nat.le_of_ble_eq_true rfl) rfl ?_
  intro X V VX hX S2 E CC
  subst hX
  have S := S2.S
  refine xr_aload_n S 2 dL_isInPort_0 rfl ?_
  refine xr_iconst S (0) dL_isInPort_1 (by decide) ?_
  refine xr_aload_n S 0 dL_isInPort_2 rfl ?_
  refine xr_iload_n S 1 dL_isInPort_3 rfl ?_
  obtain ⟨e1, hw⟩ := hw
  obtain ⟨f2, f2x⟩ := id e1
  refine xr_callVX S2 7 [.int l1] [.int 0, .ref l2] dL_isInPort_4 (k_X6_isInPort l hfl (xdc X) h l0 l1 _ _ hw) gL_isInPort_X6_isInPort rfl pd_X6_isInPort ⟨Nat.le_of_ble_eq_true rfl, Nat.le_of_ble_eq_true rfl⟩ rfl (Nat.le_of_ble_eq_true rfl) ⟨Nat.le_of_ble_eq_true rfl, Nat.le_of_ble_eq_true rfl⟩ f2x rfl (fun E1 h9 hx => ?_) (fun v9 h5 hv => ?_)
  · obtain ⟨rfl, hx⟩ := hx
    obtain ⟨rfl, hw⟩ := hx
    · refine CC _ _ _ _ _ _ "java/lang/IndexOutOfBoundsException" [] [] (0, 16, 19, 33) rfl (fun z hz => absurd hz List.not_mem_nil) (by decide) (by decide) m_L_isInPort_0 (by decide) (fun q => ?_)
      refine xr_astore_n S [(3, .ref q), (0, .ref l0), (1, .int l1), (2, .ref l2)] dL_isInPort_19 (by decide) rfl ?_
      refine xr_iconst S (1) dL_isInPort_20 (by decide) ?_
      exact E.1 _ _ _ _ _ _ rfl dL_isInPort_21 ⟨_, rfl, hw⟩ (Nat.le_of_ble_eq_true rfl) (Nat.le_of_ble_eq_true rfl)
  obtain ⟨r3, rfl, rfl, hw⟩ := hv
  refine xw_if_eq S 14 dL_isInPort_7 (by decide) hw (fun c hw => ?_) (fun c hw => ?_)
  · refine xr_lconst S 0 dL_isInPort_14 (by decide) ?_
    refine xw_last S dL_isInPort_15 hw (fun h6 hw => ?_)
    refine xr_goto S (tgt := 22) dL_isInPort_16 (by decide) ?_
    refine xr_iconst S (0) dL_isInPort_22 (by decide) ?_
    exact E.1 _ _ _ _ _ _ rfl dL_isInPort_23 ⟨_, rfl, hw⟩ (Nat.le_of_ble_eq_true rfl) (Nat.le_of_ble_eq_true rfl)
  · refine xr_lconst S 1 dL_isInPort_10 (by decide) ?_
    refine xr_goto S (tgt := 15) dL_isInPort_11 (by decide) ?_
    refine xw_last S dL_isInPort_15 hw (fun h7 hw => ?_)
    refine xr_goto S (tgt := 22) dL_isInPort_16 (by decide) ?_
    refine xr_iconst S (0) dL_isInPort_22 (by decide) ?_
    exact E.1 _ _ _ _ _ _ rfl dL_isInPort_23 ⟨_, rfl, hw⟩ (Nat.le_of_ble_eq_true rfl) (Nat.le_of_ble_eq_true rfl)
