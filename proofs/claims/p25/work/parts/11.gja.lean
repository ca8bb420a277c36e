theorem m_Jxa1e45_init_da8c8_0 : Cond.methodLink RJxa1e45 1 objectInit ∈ wsJxa1e45_init_da8c8 := by decide +kernel
theorem m_Jxa1e45_init_da8c8_1 : Cond.instanceMethod objectInit ∈ wsJxa1e45_init_da8c8 := by decide +kernel
theorem m_Jxa1e45_init_da8c8_2 : Cond.code objectInit ⟨#[0xb1]⟩ 1 none ∈ wsJxa1e45_init_da8c8 := by decide +kernel
def w_Jxa1e45_init_da8c8 (dc : Nat × Nat) (h : XH) (l0 : Nat) (Po : Prop) : Prop :=
  Po
set_option maxRecDepth 100000 in
set_option maxHeartbeats 4000000 in
theorem k_Jxa1e45_init_da8c8 (l : Launch) (dc : Nat × Nat) (h : XH) (l0 : Nat) (Po : Prop) (hw : w_Jxa1e45_init_da8c8 dc h l0 Po) : xM l dc yJxa1e45_init_da8c8 wsJxa1e45_init_da8c8 1 20 0 0 [.ref l0] h (xRv h Po) := by
  refine xM_of [(0, .ref l0)] (own := RJxa1e45) (cc := cJxa1e45_init_da8c8) (nL := 1) (ret := none) (by decide +kernel) rfl rfl (Nat.le_of_ble_eq_true rfl) rfl ?_
  intro X V hX S E
  subst hX
  refine xr_aload_n S 0 dJxa1e45_init_da8c8_0 rfl ?_
  refine xr_objInit S dJxa1e45_init_da8c8_1 m_Jxa1e45_init_da8c8_0 m_Jxa1e45_init_da8c8_1 m_Jxa1e45_init_da8c8_2 (Nat.le_of_ble_eq_true rfl) (Nat.le_of_ble_eq_true rfl) ?_
  exact E.2.2.1 _ _ _ _ _ rfl dJxa1e45_init_da8c8_4 ⟨rfl, rfl, hw⟩ (Nat.le_of_ble_eq_true rfl) (Nat.le_of_ble_eq_true rfl)
theorem m_Jxc12de_init_da8c8_0 : Cond.initialized RJxa1e45 ∈ wsJxc12de_init_da8c8 := by decide +kernel
theorem m_Jxc12de_init_da8c8_1 : Cond.methodLink RJxc12de 1 yJxa1e45_init_da8c8 ∈ wsJxc12de_init_da8c8 := by decide +kernel
theorem m_Jxc12de_init_da8c8_2 : Cond.instanceMethod yJxa1e45_init_da8c8 ∈ wsJxc12de_init_da8c8 := by decide +kernel
theorem in_Jxc12de_init_da8c8_Jx4a65c : ∀ w ∈ wsJx4a65c0, w ∈ wsJxc12de_init_da8c8 := by decide +kernel
theorem m_Jxc12de_init_da8c8_4 : Cond.fieldLink RJxc12de 7 "java/util/AbstractList" "modCount" "I" ∈ wsJxc12de_init_da8c8 := by decide +kernel
def w_Jxc12de_init_da8c8 (dc : Nat × Nat) (h : XH) (l0 : Nat) (Po : XH → Prop) : Prop :=
  w_Jxa1e45_init_da8c8 dc h l0 ( wP h l0 0 0 (.int 0) (fun h4 => Po h4))
set_option maxRecDepth 100000 in
set_option maxHeartbeats 4000000 in
theorem k_Jxc12de_init_da8c8 (l : Launch) (dc : Nat × Nat) (h : XH) (l0 : Nat) (Po : XH → Prop) (hw : w_Jxc12de_init_da8c8 dc h l0 Po) : xM l dc yJxc12de_init_da8c8 wsJxc12de_init_da8c8 2 40 0 0 [.ref l0] h (xPv Po) := by
  refine xM_of [(0, .ref l0)] (own := RJxc12de) (cc := cJxc12de_init_da8c8) (nL := 1) (ret := none) (by decide +kernel) rfl rfl (Nat.le_of_ble_eq_true rfl) rfl ?_
  intro X V hX S E
  subst hX
  refine xr_aload_n S 0 dJxc12de_init_da8c8_0 rfl ?_
  refine xr_callI S [] [] dJxc12de_init_da8c8_1 (k_Jxa1e45_init_da8c8 l (xdc X) h l0 _ hw) gJxc12de_init_da8c8_Jxa1e45_init_da8c8 rfl m_Jxc12de_init_da8c8_0 m_Jxc12de_init_da8c8_1 m_Jxc12de_init_da8c8_2 rfl pd_Jxa1e45_init_da8c8 ⟨Nat.le_of_ble_eq_true rfl, Nat.le_of_ble_eq_true rfl⟩ rfl (Nat.le_of_ble_eq_true rfl) ⟨Nat.le_of_ble_eq_true rfl, Nat.le_of_ble_eq_true rfl⟩ (fun v9 h3 hv => ?_)
  obtain ⟨rfl, rfl, hw⟩ := hv
  refine xr_aload_n S 0 dJxc12de_init_da8c8_4 rfl ?_
  refine xr_iconst S (0) dJxc12de_init_da8c8_5 (by decide) ?_
  refine xw_put S 0 0 tyJx4a65c dJxc12de_init_da8c8_6 in_Jxc12de_init_da8c8_Jx4a65c rfl (by decide) (Or.inl m_Jxc12de_init_da8c8_4) (Or.inl rfl) tyJx4a65c_ok nmJx4a65c rfl rfl ⟨rfl, rfl⟩ hw (fun h4 hw => ?_)
  exact E.2.2.1 _ _ _ _ _ rfl dJxc12de_init_da8c8_9 ⟨rfl, hw⟩ (Nat.le_of_ble_eq_true rfl) (Nat.le_of_ble_eq_true rfl)
theorem m_Jx4a65c_init_da8c8_0 : Cond.initialized RJxc12de ∈ wsJx4a65c_init_da8c8 := by decide +kernel
theorem m_Jx4a65c_init_da8c8_1 : Cond.methodLink RJx4a65c 1 yJxc12de_init_da8c8 ∈ wsJx4a65c_init_da8c8 := by decide +kernel
theorem m_Jx4a65c_init_da8c8_2 : Cond.instanceMethod yJxc12de_init_da8c8 ∈ wsJx4a65c_init_da8c8 := by decide +kernel
theorem m_Jx4a65c_init_da8c8_3 : Cond.fieldLink RJx4a65c 39 "java/util/ArrayList" "DEFAULTCAPACITY_EMPTY_ELEMENTDATA" "[Ljava/lang/Object;" ∈ wsJx4a65c_init_da8c8 := by decide +kernel
theorem in_Jx4a65c_init_da8c8_Jx4a65c : ∀ w ∈ wsJx4a65c0, w ∈ wsJx4a65c_init_da8c8 := by decide +kernel
theorem m_Jx4a65c_init_da8c8_5 : Cond.fieldLink RJx4a65c 9 "java/util/ArrayList" "elementData" "[Ljava/lang/Object;" ∈ wsJx4a65c_init_da8c8 := by decide +kernel
def w_Jx4a65c_init_da8c8 (dc : Nat × Nat) (h : XH) (l0 : Nat) (Po : XH → Prop) : Prop :=
  w_Jxc12de_init_da8c8 dc h l0 (fun h2 => wP h2 l0 0 1 (.ref (dc.1)) (fun h4 => Po h4))
set_option maxRecDepth 100000 in
set_option maxHeartbeats 4000000 in
theorem k_Jx4a65c_init_da8c8 (l : Launch) (dc : Nat × Nat) (h : XH) (l0 : Nat) (Po : XH → Prop) (hw : w_Jx4a65c_init_da8c8 dc h l0 Po) : xM l dc yJx4a65c_init_da8c8 wsJx4a65c_init_da8c8 3 60 0 0 [.ref l0] h (xPv Po) := by
  refine xM_of [(0, .ref l0)] (own := RJx4a65c) (cc := cJx4a65c_init_da8c8) (nL := 1) (ret := none) (by decide +kernel) rfl rfl (Nat.le_of_ble_eq_true rfl) rfl ?_
  intro X V hX S E
  subst hX
  refine xr_aload_n S 0 dJx4a65c_init_da8c8_0 rfl ?_
  refine xr_callI S [] [] dJx4a65c_init_da8c8_1 (k_Jxc12de_init_da8c8 l (xdc X) h l0 _ hw) gJx4a65c_init_da8c8_Jxc12de_init_da8c8 rfl m_Jx4a65c_init_da8c8_0 m_Jx4a65c_init_da8c8_1 m_Jx4a65c_init_da8c8_2 rfl pd_Jxc12de_init_da8c8 ⟨Nat.le_of_ble_eq_true rfl, Nat.le_of_ble_eq_true rfl⟩ rfl (Nat.le_of_ble_eq_true rfl) ⟨Nat.le_of_ble_eq_true rfl, Nat.le_of_ble_eq_true rfl⟩ (fun v9 h2 hv => ?_)
  obtain ⟨rfl, hw⟩ := hv
  refine xr_aload_n S 0 dJx4a65c_init_da8c8_4 rfl ?_
  refine xr_getsE S dJx4a65c_init_da8c8_5 m_Jx4a65c_init_da8c8_3 ?_
  refine xw_put S 0 1 tyJx4a65c dJx4a65c_init_da8c8_8 in_Jx4a65c_init_da8c8_Jx4a65c rfl (by decide) (Or.inl m_Jx4a65c_init_da8c8_5) (Or.inl rfl) tyJx4a65c_ok nmJx4a65c rfl rfl (xfit_a _ (some ((xdc X).1))) hw (fun h4 hw => ?_)
  exact E.2.2.1 _ _ _ _ _ rfl dJx4a65c_init_da8c8_11 ⟨rfl, hw⟩ (Nat.le_of_ble_eq_true rfl) (Nat.le_of_ble_eq_true rfl)
theorem in_Jx4a65c_isEmpty_aae02_Jx4a65c : ∀ w ∈ wsJx4a65c0, w ∈ wsJx4a65c_isEmpty_aae02 := by decide +kernel
theorem m_Jx4a65c_isEmpty_aae02_1 : Cond.fieldLink RJx4a65c 48 "java/util/ArrayList" "size" "I" ∈ wsJx4a65c_isEmpty_aae02 := by decide +kernel
def w_Jx4a65c_isEmpty_aae02 (dc : Nat × Nat) (h : XH) (l0 : Nat) (Po : Int32 → Prop) : Prop :=
  wI h l0 0 2 (fun v1 => wIf (v1 = 0) (wZ 1 (Po 1)) (wZ 0 (Po 0)))
set_option maxRecDepth 100000 in
set_option maxHeartbeats 4000000 in
theorem k_Jx4a65c_isEmpty_aae02 (l : Launch) (dc : Nat × Nat) (h : XH) (l0 : Nat) (Po : Int32 → Prop) (hw : w_Jx4a65c_isEmpty_aae02 dc h l0 Po) : xM l dc yJx4a65c_isEmpty_aae02 wsJx4a65c_isEmpty_aae02 0 0 0 0 [.ref l0] h (xRi h Po) := by
  refine xM_of [(0, .ref l0)] (own := RJx4a65c) (cc := cJx4a65c_isEmpty_aae02) (nL := 1) (ret := (some .boolean)) (by decide +kernel) rfl rfl (Nat.le_of_ble_eq_true rfl) rfl ?_
  intro X V hX S E
  subst hX
  refine xr_aload_n S 0 dJx4a65c_isEmpty_aae02_0 rfl ?_
  refine xw_getI S 0 2 dJx4a65c_isEmpty_aae02_1 in_Jx4a65c_isEmpty_aae02_Jx4a65c rfl (by decide) (Or.inl m_Jx4a65c_isEmpty_aae02_1) (Or.inl rfl) hw (fun v1 hw => ?_)
  refine xw_if_ne S 11 dJx4a65c_isEmpty_aae02_4 (by decide) hw (fun c hw => ?_) (fun c hw => ?_)
  · refine xr_iconst S (0) dJx4a65c_isEmpty_aae02_11 (by decide) ?_
    obtain ⟨hz, hw⟩ := hw
    exact E.2.1 _ _ _ _ _ _ rfl hz dJx4a65c_isEmpty_aae02_12 ⟨_, rfl, rfl, hw⟩ (Nat.le_of_ble_eq_true rfl) (Nat.le_of_ble_eq_true rfl)
  · refine xr_iconst S (1) dJx4a65c_isEmpty_aae02_7 (by decide) ?_
    refine xr_goto S (tgt := 12) dJx4a65c_isEmpty_aae02_8 (by decide) ?_
    obtain ⟨hz, hw⟩ := hw
    exact E.2.1 _ _ _ _ _ _ rfl hz dJx4a65c_isEmpty_aae02_12 ⟨_, rfl, rfl, hw⟩ (Nat.le_of_ble_eq_true rfl) (Nat.le_of_ble_eq_true rfl)
theorem in_Jx4a65c_size_8abf5_Jx4a65c : ∀ w ∈ wsJx4a65c0, w ∈ wsJx4a65c_size_8abf5 := by decide +kernel
theorem m_Jx4a65c_size_8abf5_1 : Cond.fieldLink RJx4a65c 48 "java/util/ArrayList" "size" "I" ∈ wsJx4a65c_size_8abf5 := by decide +kernel
def w_Jx4a65c_size_8abf5 (dc : Nat × Nat) (h : XH) (l0 : Nat) (Po : Int32 → Prop) : Prop :=
  wI h l0 0 2 (fun v1 => Po v1)
set_option maxRecDepth 100000 in
set_option maxHeartbeats 4000000 in
theorem k_Jx4a65c_size_8abf5 (l : Launch) (dc : Nat × Nat) (h : XH) (l0 : Nat) (Po : Int32 → Prop) (hw : w_Jx4a65c_size_8abf5 dc h l0 Po) : xM l dc yJx4a65c_size_8abf5 wsJx4a65c_size_8abf5 0 0 0 0 [.ref l0] h (xRi h Po) := by
  refine xM_of [(0, .ref l0)] (own := RJx4a65c) (cc := cJx4a65c_size_8abf5) (nL := 1) (ret := (some .int)) (by decide +kernel) rfl rfl (Nat.le_of_ble_eq_true rfl) rfl ?_
  intro X V hX S E
  subst hX
  refine xr_aload_n S 0 dJx4a65c_size_8abf5_0 rfl ?_
  refine xw_getI S 0 2 dJx4a65c_size_8abf5_1 in_Jx4a65c_size_8abf5_Jx4a65c rfl (by decide) (Or.inl m_Jx4a65c_size_8abf5_1) (Or.inl rfl) hw (fun v1 hw => ?_)
  exact E.1 _ _ _ _ _ _ rfl dJx4a65c_size_8abf5_4 ⟨_, rfl, rfl, hw⟩ (Nat.le_of_ble_eq_true rfl) (Nat.le_of_ble_eq_true rfl)
theorem m_J8_newLength_cabcc_0 : Cond.methodLink RJ8 194 Lib.Math.max.name ∈ wsJ8_newLength_cabcc := by decide +kernel
theorem m_J8_newLength_cabcc_1 : Cond.static Lib.Math.max.name ∈ wsJ8_newLength_cabcc := by decide +kernel
theorem m_J8_newLength_cabcc_2 : Cond.initialized "java/lang/Math" ∈ wsJ8_newLength_cabcc := by decide +kernel
theorem m_J8_newLength_cabcc_3 : Cond.code Lib.Math.max.name Lib.Math.max.code 2 (some .int) ∈ wsJ8_newLength_cabcc := by decide +kernel
theorem m_J8_newLength_cabcc_4 : Cond.constant RJ8 200 2147483639 ∈ wsJ8_newLength_cabcc := by decide +kernel
def w_J8_newLength_cabcc_21 (dc : Nat × Nat) (h : XH) (l0 : Int32) (l1 : Int32) (Po : Int32 → XH → Prop) : Prop :=
  False
set_option maxRecDepth 100000 in
set_option maxHeartbeats 4000000 in
theorem k_J8_newLength_cabcc_21 {V : XVT} {X : XC} {l : Launch} (S : xS V X l RJ8 yJ8_newLength_cabcc.name cJ8_newLength_cabcc 4 wsJ8_newLength_cabcc (xRm 1 21 0 0)) (h : XH) (l0 : Int32) (l1 : Int32) (Po : Int32 → XH → Prop) (E : xEnd V cJ8_newLength_cabcc (some .int) 0 0 (xPi Po)) (hw : w_J8_newLength_cabcc_21 (xdc X) h l0 l1 Po) : V 0 0 h 21 [(0, .int l0), (1, .int l1)] [] := by
  refine xr_iload_n S 0 dJ8_newLength_cabcc_21 rfl ?_
  refine xr_iload_n S 1 dJ8_newLength_cabcc_22 rfl ?_
  exact hw.elim
def w_J8_newLength_cabcc (dc : Nat × Nat) (h : XH) (l0 : Int32) (l1 : Int32) (l2 : Int32) (Po : Int32 → XH → Prop) : Prop :=
  wIf ((l0 + (if l1 < l2 then l2 else l1)) ≤ 0) (w_J8_newLength_cabcc_21 dc h l0 l1 Po) (wIf (2147483639 < (l0 + (if l1 < l2 then l2 else l1))) (w_J8_newLength_cabcc_21 dc h l0 l1 Po) (Po (l0 + (if l1 < l2 then l2 else l1)) h))
set_option maxRecDepth 100000 in
set_option maxHeartbeats 4000000 in
theorem k_J8_newLength_cabcc (l : Launch) (dc : Nat × Nat) (h : XH) (l0 : Int32) (l1 : Int32) (l2 : Int32) (Po : Int32 → XH → Prop) (hw : w_J8_newLength_cabcc dc h l0 l1 l2 Po) : xM l dc yJ8_newLength_cabcc wsJ8_newLength_cabcc 1 21 0 0 [.int l0, .int l1, .int l2] h (xPi Po) := by
  refine xM_of [(0, .int l0), (1, .int l1), (2, .int l2)] (own := RJ8) (cc := cJ8_newLength_cabcc) (nL := 4) (ret := (some .int)) (by decide +kernel) rfl rfl (Nat.le_of_ble_eq_true rfl) rfl ?_
  intro X V hX S E
  subst hX
  refine xr_iload_n S 0 dJ8_newLength_cabcc_0 rfl ?_
  refine xr_iload_n S 1 dJ8_newLength_cabcc_1 rfl ?_
  refine xr_iload_n S 2 dJ8_newLength_cabcc_2 rfl ?_
  refine xr_mmax S dJ8_newLength_cabcc_3 m_J8_newLength_cabcc_0 m_J8_newLength_cabcc_1 m_J8_newLength_cabcc_2 m_J8_newLength_cabcc_3 (Nat.le_of_ble_eq_true rfl) (Nat.le_of_ble_eq_true rfl) ⟨Nat.le_of_ble_eq_true rfl, Nat.le_of_ble_eq_true rfl⟩ ?_
  refine xr_iadd S dJ8_newLength_cabcc_6 ?_
  refine xr_istore_n S [(3, .int (l0 + (if l1 < l2 then l2 else l1))), (0, .int l0), (1, .int l1), (2, .int l2)] dJ8_newLength_cabcc_7 (by decide) rfl ?_
  refine xr_iconst S (0) dJ8_newLength_cabcc_8 (by decide) ?_
  refine xr_iload_n S 0 dJ8_newLength_cabcc_9 rfl ?_
  refine xw_icmp_ge S 21 dJ8_newLength_cabcc_10 (by decide) hw (fun c hw => ?_) (fun c hw => ?_)
  · refine xr_sub S [(0, .int l0), (1, .int l1)] [1, 2] rfl ?_
    exact k_J8_newLength_cabcc_21 S h l0 l1 Po E hw
  · refine xr_iload_n S 0 dJ8_newLength_cabcc_13 rfl ?_
    refine xr_ldc S 2147483639 dJ8_newLength_cabcc_14 m_J8_newLength_cabcc_4 ?_
    refine xw_icmp_gt S 21 dJ8_newLength_cabcc_16 (by decide) hw (fun c hw => ?_) (fun c hw => ?_)
    · refine xr_sub S [(0, .int l0), (1, .int l1)] [1, 2] rfl ?_
      exact k_J8_newLength_cabcc_21 S h l0 l1 Po E hw
    · refine xr_iload_n S 0 dJ8_newLength_cabcc_19 rfl ?_
      exact E.1 _ _ _ _ _ _ rfl dJ8_newLength_cabcc_20 ⟨_, rfl, hw⟩ (Nat.le_of_ble_eq_true rfl) (Nat.le_of_ble_eq_true rfl)
theorem m_J7_copyOf_6403c_0 : Cond.classLink RJ7 110 "[Ljava/lang/Object;" ∈ wsJ7_copyOf_6403c := by decide +kernel
theorem m_J7_copyOf_6403c_1 : Cond.classLink RJ7 2 "java/lang/Object" ∈ wsJ7_copyOf_6403c := by decide +kernel
theorem m_J7_copyOf_6403c_2 : Cond.methodLink RJ7 304 Lib.Math.min.name ∈ wsJ7_copyOf_6403c := by decide +kernel
theorem m_J7_copyOf_6403c_3 : Cond.static Lib.Math.min.name ∈ wsJ7_copyOf_6403c := by decide +kernel
theorem m_J7_copyOf_6403c_4 : Cond.initialized "java/lang/Math" ∈ wsJ7_copyOf_6403c := by decide +kernel
theorem m_J7_copyOf_6403c_5 : Cond.code Lib.Math.min.name Lib.Math.min.code 2 (some .int) ∈ wsJ7_copyOf_6403c := by decide +kernel
theorem m_J7_copyOf_6403c_6 : Cond.methodLink RJ7 150 arraycopyName ∈ wsJ7_copyOf_6403c := by decide +kernel
theorem m_J7_copyOf_6403c_7 : Cond.native arraycopyName ∈ wsJ7_copyOf_6403c := by decide +kernel
theorem m_J7_copyOf_6403c_8 : Cond.static arraycopyName ∈ wsJ7_copyOf_6403c := by decide +kernel
theorem m_J7_copyOf_6403c_9 : Cond.initialized "java/lang/System" ∈ wsJ7_copyOf_6403c := by decide +kernel
def w_J7_copyOf_6403c_24 (dc : Nat × Nat) (h : XH) (l0 : Nat) (l1 : Int32) (t0 : Nat) (Po : Nat → XH → Prop) : Prop :=
  wLen h 1 l0 (fun v3 => wCpyQ h l0 0 t0 0 (if l1 < v3 then l1 else v3) (fun h4 => Po t0 h4))
set_option maxRecDepth 100000 in
set_option maxHeartbeats 4000000 in
theorem k_J7_copyOf_6403c_24 {V : XVT} {X : XC} {l : Launch} (S : xS V X l RJ7 yJ7_copyOf_6403c.name cJ7_copyOf_6403c 4 wsJ7_copyOf_6403c (xRm 1 40 1 64)) (h : XH) (l0 : Nat) (l1 : Int32) (t0 : Nat) (Po : Nat → XH → Prop) (E : xEnd V cJ7_copyOf_6403c (some (.array (.object "java/lang/Object"))) 1 64 (xPr Po)) (hw : w_J7_copyOf_6403c_24 (xdc X) h l0 l1 t0 Po) : V 1 64 h 24 [(0, .ref l0), (1, .int l1)] [.ref t0] := by
  refine xr_astore_n S [(3, .ref t0), (0, .ref l0), (1, .int l1)] dJ7_copyOf_6403c_24 (by decide) rfl ?_
  refine xr_aload_n S 1 dJ7_copyOf_6403c_25 rfl ?_
  refine xr_iconst S (0) dJ7_copyOf_6403c_26 (by decide) ?_
  refine xr_aload_n S 0 dJ7_copyOf_6403c_27 rfl ?_
  refine xr_iconst S (0) dJ7_copyOf_6403c_28 (by decide) ?_
  refine xr_aload_n S 1 dJ7_copyOf_6403c_29 rfl ?_
  refine xw_alen S 1 (.object "java/lang/Object") dJ7_copyOf_6403c_30 (fun X => ⟨_, rfl, rfl⟩) hw (fun v3 hw => ?_)
  refine xr_iload_n S 2 dJ7_copyOf_6403c_31 rfl ?_
  refine xr_mmin S dJ7_copyOf_6403c_32 m_J7_copyOf_6403c_2 m_J7_copyOf_6403c_3 m_J7_copyOf_6403c_4 m_J7_copyOf_6403c_5 (Nat.le_of_ble_eq_true rfl) (Nat.le_of_ble_eq_true rfl) ⟨Nat.le_of_ble_eq_true rfl, Nat.le_of_ble_eq_true rfl⟩ ?_
  refine xw_copyq S dJ7_copyOf_6403c_35 m_J7_copyOf_6403c_6 m_J7_copyOf_6403c_7 m_J7_copyOf_6403c_8 m_J7_copyOf_6403c_9 (Nat.le_of_ble_eq_true rfl) (Nat.le_of_ble_eq_true rfl) hw (fun h4 hw => ?_)
  refine xr_aload_n S 0 dJ7_copyOf_6403c_38 rfl ?_
  exact E.2.2.2.1 _ _ _ _ _ _ (some t0) rfl (Or.inr ⟨_, rfl⟩) dJ7_copyOf_6403c_39 ⟨t0, rfl, hw⟩ (Nat.le_of_ble_eq_true rfl) (Nat.le_of_ble_eq_true rfl)
def w_J7_copyOf_6403c (dc : Nat × Nat) (h : XH) (l0 : Nat) (l1 : Int32) (l2 : Nat) (Po : Nat → XH → Prop) : Prop :=
  wIf (some l2 = some (dc.2)) (wNewQ h l1 (fun q1 h2 => (w_J7_copyOf_6403c_24 dc h2 l0 l1 q1 Po))) (False)
set_option maxRecDepth 100000 in
set_option maxHeartbeats 4000000 in
theorem k_J7_copyOf_6403c (l : Launch) (dc : Nat × Nat) (h : XH) (l0 : Nat) (l1 : Int32) (l2 : Nat) (Po : Nat → XH → Prop) (hw : w_J7_copyOf_6403c dc h l0 l1 l2 Po) : xM l dc yJ7_copyOf_6403c wsJ7_copyOf_6403c 1 40 1 64 [.ref l0, .int l1, .ref l2] h (xPr Po) := by
  refine xM_of [(0, .ref l0), (1, .int l1), (2, .ref l2)] (own := RJ7) (cc := cJ7_copyOf_6403c) (nL := 4) (ret := (some (.array (.object "java/lang/Object")))) (by decide +kernel) rfl rfl (Nat.le_of_ble_eq_true rfl) rfl ?_
  intro X V hX S E
  subst hX
  refine xr_aload_n S 2 dJ7_copyOf_6403c_0 rfl ?_
  refine xr_ldcM S dJ7_copyOf_6403c_1 m_J7_copyOf_6403c_0 ?_
  refine xw_acmp_ne S (some l2) (some ((xdc X).2)) 13 dJ7_copyOf_6403c_3 (by decide) hw (fun c hw => ?_) (fun c hw => ?_)
  · refine xr_aload_n S 2 dJ7_copyOf_6403c_13 rfl ?_
    exact hw.elim
  · refine xr_iload_n S 1 dJ7_copyOf_6403c_6 rfl ?_
    refine xw_newq S dJ7_copyOf_6403c_7 m_J7_copyOf_6403c_1 (Nat.le_of_ble_eq_true rfl) (Nat.le_of_ble_eq_true rfl) hw (fun q1 h2 hw => ?_)
    refine xr_goto S (tgt := 24) dJ7_copyOf_6403c_10 (by decide) ?_
    refine xr_sub S [(0, .ref l0), (1, .int l1)] [0, 1] rfl ?_
    exact k_J7_copyOf_6403c_24 S h2 l0 l1 q1 Po E hw
theorem m_J7_copyOf_1904c_0 : Cond.methodLink RJ7 86 xgc ∈ wsJ7_copyOf_1904c := by decide +kernel
theorem m_J7_copyOf_1904c_1 : Cond.selects "[Ljava/lang/Object;" xgc xgc ∈ wsJ7_copyOf_1904c := by decide +kernel
theorem m_J7_copyOf_1904c_2 : Cond.instanceMethod xgc ∈ wsJ7_copyOf_1904c := by decide +kernel
theorem m_J7_copyOf_1904c_3 : Cond.native xgc ∈ wsJ7_copyOf_1904c := by decide +kernel
def w_J7_copyOf_1904c (dc : Nat × Nat) (h : XH) (l0 : Nat) (l1 : Int32) (Po : Nat → XH → Prop) : Prop :=
  (∃ b : vp_A, 0 < b.1 ∧ h l0 = some (.inl (1, b))) ∧ ( w_J7_copyOf_6403c dc h l0 l1 (dc.2) (fun a3 h4 => Po a3 h4))
set_option maxRecDepth 100000 in
set_option maxHeartbeats 4000000 in
theorem k_J7_copyOf_1904c (l : Launch) (dc : Nat × Nat) (h : XH) (l0 : Nat) (l1 : Int32) (Po : Nat → XH → Prop) (hw : w_J7_copyOf_1904c dc h l0 l1 Po) : xM l dc yJ7_copyOf_1904c wsJ7_copyOf_1904c 2 63 1 64 [.ref l0, .int l1] h (xPr Po) := by
  refine xM_of [(0, .ref l0), (1, .int l1)] (own := RJ7) (cc := cJ7_copyOf_1904c) (nL := 2) (ret := (some (.array (.object "java/lang/Object")))) (by decide +kernel) rfl rfl (Nat.le_of_ble_eq_true rfl) rfl ?_
  intro X V hX S E
  subst hX
  refine xr_aload_n S 0 dJ7_copyOf_1904c_0 rfl ?_
  refine xr_iload_n S 1 dJ7_copyOf_1904c_1 rfl ?_
  refine xr_aload_n S 0 dJ7_copyOf_1904c_2 rfl ?_
  obtain ⟨⟨b1, e2⟩, hw⟩ := hw
  refine xr_getC S dJ7_copyOf_1904c_3 m_J7_copyOf_1904c_0 m_J7_copyOf_1904c_1 m_J7_copyOf_1904c_2 m_J7_copyOf_1904c_3 e2 (Nat.le_of_ble_eq_true rfl) (Nat.le_of_ble_eq_true rfl) ?_
  refine xr_callS S [.ref l0, .int l1, .ref ((xdc X).2)] [] dJ7_copyOf_1904c_6 (k_J7_copyOf_6403c l (xdc X) h l0 l1 ((xdc X).2) _ hw) gJ7_copyOf_1904c_J7_copyOf_6403c rfl pd_J7_copyOf_6403c ⟨Nat.le_of_ble_eq_true rfl, Nat.le_of_ble_eq_true rfl⟩ rfl (Nat.le_of_ble_eq_true rfl) ⟨Nat.le_of_ble_eq_true rfl, Nat.le_of_ble_eq_true rfl⟩ (fun v9 h4 hv => ?_)
  obtain ⟨a3, rfl, hw⟩ := hv
  exact E.2.2.2.1 _ _ _ _ _ _ (some a3) rfl (Or.inr ⟨_, rfl⟩) dJ7_copyOf_1904c_9 ⟨a3, rfl, hw⟩ (Nat.le_of_ble_eq_true rfl) (Nat.le_of_ble_eq_true rfl)
theorem in_Jx4a65c_grow_92f84_Jx4a65c : ∀ w ∈ wsJx4a65c0, w ∈ wsJx4a65c_grow_92f84 := by decide +kernel
theorem m_Jx4a65c_grow_92f84_1 : Cond.fieldLink RJx4a65c 9 "java/util/ArrayList" "elementData" "[Ljava/lang/Object;" ∈ wsJx4a65c_grow_92f84 := by decide +kernel
theorem m_Jx4a65c_grow_92f84_2 : Cond.fieldLink RJx4a65c 39 "java/util/ArrayList" "DEFAULTCAPACITY_EMPTY_ELEMENTDATA" "[Ljava/lang/Object;" ∈ wsJx4a65c_grow_92f84 := by decide +kernel
theorem m_Jx4a65c_grow_92f84_3 : Cond.methodLink RJx4a65c 79 Lib.Math.max.name ∈ wsJx4a65c_grow_92f84 := by decide +kernel
theorem m_Jx4a65c_grow_92f84_4 : Cond.static Lib.Math.max.name ∈ wsJx4a65c_grow_92f84 := by decide +kernel
theorem m_Jx4a65c_grow_92f84_5 : Cond.initialized "java/lang/Math" ∈ wsJx4a65c_grow_92f84 := by decide +kernel
theorem m_Jx4a65c_grow_92f84_6 : Cond.code Lib.Math.max.name Lib.Math.max.code 2 (some .int) ∈ wsJx4a65c_grow_92f84 := by decide +kernel
theorem m_Jx4a65c_grow_92f84_7 : Cond.classLink RJx4a65c 7 "java/lang/Object" ∈ wsJx4a65c_grow_92f84 := by decide +kernel
def w_Jx4a65c_grow_92f84_20 (dc : Nat × Nat) (h : XH) (l0 : Nat) (l1 : Int32) (l2 : Int32) (Po : Nat → XH → Prop) : Prop :=
  w_J8_newLength_cabcc dc h l2 (l1 - l2) (l2 >>> (1 &&& 31)) (fun r3 h4 => wR h4 l0 0 1 (fun a6 => w_J7_copyOf_1904c dc h4 a6 r3 (fun a7 h8 => wP h8 l0 0 1 (.ref a7) (fun h10 => Po a7 h10))))
set_option maxRecDepth 100000 in
set_option maxHeartbeats 4000000 in
theorem k_Jx4a65c_grow_92f84_20 {V : XVT} {X : XC} {l : Launch} (S : xS V X l RJx4a65c yJx4a65c_grow_92f84.name cJx4a65c_grow_92f84 4 wsJx4a65c_grow_92f84 (xRm 3 84 1 64)) (h : XH) (l0 : Nat) (l1 : Int32) (l2 : Int32) (Po : Nat → XH → Prop) (E : xEnd V cJx4a65c_grow_92f84 (some (.array (.object "java/lang/Object"))) 1 64 (xPr Po)) (hw : w_Jx4a65c_grow_92f84_20 (xdc X) h l0 l1 l2 Po) : V 0 0 h 20 [(0, .ref l0), (1, .int l1), (2, .int l2)] [] := by
  refine xr_iload_n S 2 dJx4a65c_grow_92f84_20 rfl ?_
  refine xr_iload_n S 1 dJx4a65c_grow_92f84_21 rfl ?_
  refine xr_iload_n S 2 dJx4a65c_grow_92f84_22 rfl ?_
  refine xr_isub S dJx4a65c_grow_92f84_23 ?_
  refine xr_iload_n S 2 dJx4a65c_grow_92f84_24 rfl ?_
  refine xr_iconst S (1) dJx4a65c_grow_92f84_25 (by decide) ?_
  refine xr_ishr S dJx4a65c_grow_92f84_26 ?_
  refine xr_callS S [.int l2, .int (l1 - l2), .int (l2 >>> (1 &&& 31))] [] dJx4a65c_grow_92f84_27 (k_J8_newLength_cabcc l (xdc X) h l2 (l1 - l2) (l2 >>> (1 &&& 31)) _ hw) gJx4a65c_grow_92f84_J8_newLength_cabcc rfl pd_J8_newLength_cabcc ⟨Nat.le_of_ble_eq_true rfl, Nat.le_of_ble_eq_true rfl⟩ rfl (Nat.le_of_ble_eq_true rfl) ⟨Nat.le_of_ble_eq_true rfl, Nat.le_of_ble_eq_true rfl⟩ (fun v9 h4 hv => ?_)
  obtain ⟨r3, rfl, hw⟩ := hv
  refine xr_istore_n S [(3, .int r3), (0, .ref l0), (1, .int l1), (2, .int l2)] dJx4a65c_grow_92f84_30 (by decide) rfl ?_
  refine xr_aload_n S 1 dJx4a65c_grow_92f84_31 rfl ?_
  refine xr_aload_n S 1 dJx4a65c_grow_92f84_32 rfl ?_
  refine xw_getR S 0 1 dJx4a65c_grow_92f84_33 in_Jx4a65c_grow_92f84_Jx4a65c rfl (by decide) (Or.inl m_Jx4a65c_grow_92f84_1) (Or.inl rfl) hw (fun a6 hw => ?_)
  refine xr_iload_n S 0 dJx4a65c_grow_92f84_36 rfl ?_
  refine xr_callS S [.ref a6, .int r3] [.ref l0] dJx4a65c_grow_92f84_37 (k_J7_copyOf_1904c l (xdc X) h4 a6 r3 _ hw) gJx4a65c_grow_92f84_J7_copyOf_1904c rfl pd_J7_copyOf_1904c ⟨Nat.le_of_ble_eq_true rfl, Nat.le_of_ble_eq_true rfl⟩ rfl (Nat.le_of_ble_eq_true rfl) ⟨Nat.le_of_ble_eq_true rfl, Nat.le_of_ble_eq_true rfl⟩ (fun v9 h8 hv => ?_)
  obtain ⟨a7, rfl, hw⟩ := hv
  refine xr_dup_x1 S dJx4a65c_grow_92f84_40 rfl rfl ?_
  refine xw_put S 0 1 tyJx4a65c dJx4a65c_grow_92f84_41 in_Jx4a65c_grow_92f84_Jx4a65c rfl (by decide) (Or.inl m_Jx4a65c_grow_92f84_1) (Or.inl rfl) tyJx4a65c_ok nmJx4a65c rfl rfl (xfit_a _ (some a7)) hw (fun h10 hw => ?_)
  exact E.2.2.2.1 _ _ _ _ _ _ (some a7) rfl (Or.inr ⟨_, rfl⟩) dJx4a65c_grow_92f84_44 ⟨a7, rfl, hw⟩ (Nat.le_of_ble_eq_true rfl) (Nat.le_of_ble_eq_true rfl)
def w_Jx4a65c_grow_92f84 (dc : Nat × Nat) (h : XH) (l0 : Nat) (l1 : Int32) (Po : Nat → XH → Prop) : Prop :=
  wR h l0 0 1 (fun a1 => wLen h 1 a1 (fun v2 => wIf (0 < v2) (w_Jx4a65c_grow_92f84_20 dc h l0 l1 v2 Po) (wR h l0 0 1 (fun a11 => wIf (some a11 = some (dc.1)) (wNewQ h (if 10 < l1 then l1 else 10) (fun q12 h13 => wP h13 l0 0 1 (.ref q12) (fun h14 => Po q12 h14))) (w_Jx4a65c_grow_92f84_20 dc h l0 l1 v2 Po)))))
set_option maxRecDepth 100000 in
set_option maxHeartbeats 4000000 in
theorem k_Jx4a65c_grow_92f84 (l : Launch) (dc : Nat × Nat) (h : XH) (l0 : Nat) (l1 : Int32) (Po : Nat → XH → Prop) (hw : w_Jx4a65c_grow_92f84 dc h l0 l1 Po) : xM l dc yJx4a65c_grow_92f84 wsJx4a65c_grow_92f84 3 84 1 64 [.ref l0, .int l1] h (xPr Po) := by
  refine xM_of [(0, .ref l0), (1, .int l1)] (own := RJx4a65c) (cc := cJx4a65c_grow_92f84) (nL := 4) (ret := (some (.array (.object "java/lang/Object")))) (by decide +kernel) rfl rfl (Nat.le_of_ble_eq_true rfl) rfl ?_
  intro X V hX S E
  subst hX
  refine xr_aload_n S 0 dJx4a65c_grow_92f84_0 rfl ?_
  refine xw_getR S 0 1 dJx4a65c_grow_92f84_1 in_Jx4a65c_grow_92f84_Jx4a65c rfl (by decide) (Or.inl m_Jx4a65c_grow_92f84_1) (Or.inl rfl) hw (fun a1 hw => ?_)
  refine xw_alen S 1 (.object "java/lang/Object") dJx4a65c_grow_92f84_4 (fun X => ⟨_, rfl, rfl⟩) hw (fun v2 hw => ?_)
  refine xr_istore_n S [(2, .int v2), (0, .ref l0), (1, .int l1)] dJx4a65c_grow_92f84_5 (by decide) rfl ?_
  refine xr_iload_n S 0 dJx4a65c_grow_92f84_6 rfl ?_
  refine xw_if_gt S 20 dJx4a65c_grow_92f84_7 (by decide) hw (fun c hw => ?_) (fun c hw => ?_)
  · refine xr_sub S [(0, .ref l0), (1, .int l1), (2, .int v2)] [1, 2, 0] rfl ?_
    exact k_Jx4a65c_grow_92f84_20 S h l0 l1 v2 Po E hw
  · refine xr_aload_n S 1 dJx4a65c_grow_92f84_10 rfl ?_
    refine xw_getR S 0 1 dJx4a65c_grow_92f84_11 in_Jx4a65c_grow_92f84_Jx4a65c rfl (by decide) (Or.inl m_Jx4a65c_grow_92f84_1) (Or.inl rfl) hw (fun a11 hw => ?_)
    refine xr_getsE S dJx4a65c_grow_92f84_14 m_Jx4a65c_grow_92f84_2 ?_
    refine xw_acmp_eq S (some a11) (some ((xdc X).1)) 45 dJx4a65c_grow_92f84_17 (by decide) hw (fun c hw => ?_) (fun c hw => ?_)
    · refine xr_aload_n S 1 dJx4a65c_grow_92f84_45 rfl ?_
      refine xr_bipush S (10) dJx4a65c_grow_92f84_46 (by decide) ?_
      refine xr_iload_n S 2 dJx4a65c_grow_92f84_48 rfl ?_
      refine xr_mmax S dJx4a65c_grow_92f84_49 m_Jx4a65c_grow_92f84_3 m_Jx4a65c_grow_92f84_4 m_Jx4a65c_grow_92f84_5 m_Jx4a65c_grow_92f84_6 (Nat.le_of_ble_eq_true rfl) (Nat.le_of_ble_eq_true rfl) ⟨Nat.le_of_ble_eq_true rfl, Nat.le_of_ble_eq_true rfl⟩ ?_
      refine xw_newq S dJx4a65c_grow_92f84_52 m_Jx4a65c_grow_92f84_7 (Nat.le_of_ble_eq_true rfl) (Nat.le_of_ble_eq_true rfl) hw (fun q12 h13 hw => ?_)
      refine xr_dup_x1 S dJx4a65c_grow_92f84_55 rfl rfl ?_
      refine xw_put S 0 1 tyJx4a65c dJx4a65c_grow_92f84_56 in_Jx4a65c_grow_92f84_Jx4a65c rfl (by decide) (Or.inl m_Jx4a65c_grow_92f84_1) (Or.inl rfl) tyJx4a65c_ok nmJx4a65c rfl rfl (xfit_a _ (some q12)) hw (fun h14 hw => ?_)
      exact E.2.2.2.1 _ _ _ _ _ _ (some q12) rfl (Or.inr ⟨_, rfl⟩) dJx4a65c_grow_92f84_59 ⟨q12, rfl, hw⟩ (Nat.le_of_ble_eq_true rfl) (Nat.le_of_ble_eq_true rfl)
    · refine xr_sub S [(0, .ref l0), (1, .int l1), (2, .int v2)] [1, 2, 0] rfl ?_
      exact k_Jx4a65c_grow_92f84_20 S h l0 l1 v2 Po E hw
theorem in_Jx4a65c_grow_d5877_Jx4a65c : ∀ w ∈ wsJx4a65c0, w ∈ wsJx4a65c_grow_d5877 := by decide +kernel
theorem m_Jx4a65c_grow_d5877_1 : Cond.fieldLink RJx4a65c 48 "java/util/ArrayList" "size" "I" ∈ wsJx4a65c_grow_d5877 := by decide +kernel
def w_Jx4a65c_grow_d5877 (dc : Nat × Nat) (h : XH) (l0 : Nat) (Po : Nat → XH → Prop) : Prop :=
  wI h l0 0 2 (fun v1 => wO h l0 0 ( w_Jx4a65c_grow_92f84 dc h l0 (v1 + 1) (fun a4 h5 => Po a4 h5)))
set_option maxRecDepth 100000 in
set_option maxHeartbeats 4000000 in
theorem k_Jx4a65c_grow_d5877 (l : Launch) (dc : Nat × Nat) (h : XH) (l0 : Nat) (Po : Nat → XH → Prop) (hw : w_Jx4a65c_grow_d5877 dc h l0 Po) : xM l dc yJx4a65c_grow_d5877 wsJx4a65c_grow_d5877 4 107 1 64 [.ref l0] h (xPr Po) := by
  refine xM_of [(0, .ref l0)] (own := RJx4a65c) (cc := cJx4a65c_grow_d5877) (nL := 1) (ret := (some (.array (.object "java/lang/Object")))) (by decide +kernel) rfl rfl (Nat.le_of_ble_eq_true rfl) rfl ?_
  intro X V hX S E
  subst hX
  refine xr_aload_n S 0 dJx4a65c_grow_d5877_0 rfl ?_
  refine xr_aload_n S 0 dJx4a65c_grow_d5877_1 rfl ?_
  refine xw_getI S 0 2 dJx4a65c_grow_d5877_2 in_Jx4a65c_grow_d5877_Jx4a65c rfl (by decide) (Or.inl m_Jx4a65c_grow_d5877_1) (Or.inl rfl) hw (fun v1 hw => ?_)
  refine xr_iconst S (1) dJx4a65c_grow_d5877_5 (by decide) ?_
  refine xr_iadd S dJx4a65c_grow_d5877_6 ?_
  obtain ⟨e2, hw⟩ := hw
  obtain ⟨f3, f3x⟩ := id e2
  refine xr_callV S 0 [.int (v1 + 1)] [] dJx4a65c_grow_d5877_7 (k_Jx4a65c_grow_92f84 l (xdc X) h l0 (v1 + 1) _ hw) gJx4a65c_grow_d5877_Jx4a65c_grow_92f84 rfl pd_Jx4a65c_grow_92f84 ⟨Nat.le_of_ble_eq_true rfl, Nat.le_of_ble_eq_true rfl⟩ rfl (Nat.le_of_ble_eq_true rfl) ⟨Nat.le_of_ble_eq_true rfl, Nat.le_of_ble_eq_true rfl⟩ f3x rfl (fun v9 h5 hv => ?_)
  obtain ⟨a4, rfl, hw⟩ := hv
  exact E.2.2.2.1 _ _ _ _ _ _ (some a4) rfl (Or.inr ⟨_, rfl⟩) dJx4a65c_grow_d5877_10 ⟨a4, rfl, hw⟩ (Nat.le_of_ble_eq_true rfl) (Nat.le_of_ble_eq_true rfl)
theorem in_Jx4a65c_add_72be8_Jx4a65c : ∀ w ∈ wsJx4a65c0, w ∈ wsJx4a65c_add_72be8 := by decide +kernel
theorem m_Jx4a65c_add_72be8_1 : Cond.fieldLink RJx4a65c 48 "java/util/ArrayList" "size" "I" ∈ wsJx4a65c_add_72be8 := by decide +kernel
def w_Jx4a65c_add_72be8_11 (dc : Nat × Nat) (h : XH) (l0 : Nat) (l1 : Nat) (l2 : Nat) (l3 : Int32) (Po : XH → Prop) : Prop :=
  wSE h l2 l3 l1 (fun h2 => wP h2 l0 0 2 (.int (l3 + 1)) (fun h3 => Po h3))
set_option maxRecDepth 100000 in
set_option maxHeartbeats 4000000 in
theorem k_Jx4a65c_add_72be8_11 {V : XVT} {X : XC} {l : Launch} (S : xS V X l RJx4a65c yJx4a65c_add_72be8.name cJx4a65c_add_72be8 4 wsJx4a65c_add_72be8 (xRm 5 127 1 64)) (h : XH) (l0 : Nat) (l1 : Nat) (l2 : Nat) (l3 : Int32) (Po : XH → Prop) (E : xEnd V cJx4a65c_add_72be8 none 1 64 (xPv Po)) (hw : w_Jx4a65c_add_72be8_11 (xdc X) h l0 l1 l2 l3 Po) : V 1 64 h 11 [(0, .ref l0), (1, .ref l1), (2, .ref l2), (3, .int l3)] [] := by
  refine xr_aload_n S 2 dJx4a65c_add_72be8_11 rfl ?_
  refine xr_iload_n S 3 dJx4a65c_add_72be8_12 rfl ?_
  refine xr_aload_n S 1 dJx4a65c_add_72be8_13 rfl ?_
  refine xw_aast S dJx4a65c_add_72be8_14 hw (fun h2 hw => ?_)
  refine xr_aload_n S 0 dJx4a65c_add_72be8_15 rfl ?_
  refine xr_iload_n S 3 dJx4a65c_add_72be8_16 rfl ?_
  refine xr_iconst S (1) dJx4a65c_add_72be8_17 (by decide) ?_
  refine xr_iadd S dJx4a65c_add_72be8_18 ?_
  refine xw_put S 0 2 tyJx4a65c dJx4a65c_add_72be8_19 in_Jx4a65c_add_72be8_Jx4a65c rfl (by decide) (Or.inl m_Jx4a65c_add_72be8_1) (Or.inl rfl) tyJx4a65c_ok nmJx4a65c rfl rfl ⟨rfl, rfl⟩ hw (fun h3 hw => ?_)
  exact E.2.2.1 _ _ _ _ _ rfl dJx4a65c_add_72be8_22 ⟨rfl, hw⟩ (Nat.le_of_ble_eq_true rfl) (Nat.le_of_ble_eq_true rfl)
def w_Jx4a65c_add_72be8 (dc : Nat × Nat) (h : XH) (l0 : Nat) (l1 : Nat) (l2 : Nat) (l3 : Int32) (Po : XH → Prop) : Prop :=
  wLen h 1 l2 (fun v1 => wIf (l3 = v1) (wO h l0 0 ( w_Jx4a65c_grow_d5877 dc h l0 (fun a6 h7 => w_Jx4a65c_add_72be8_11 dc h7 l0 l1 a6 l3 Po))) (w_Jx4a65c_add_72be8_11 dc h l0 l1 l2 l3 Po))
set_option maxRecDepth 100000 in
set_option maxHeartbeats 4000000 in
theorem k_Jx4a65c_add_72be8 (l : Launch) (dc : Nat × Nat) (h : XH) (l0 : Nat) (l1 : Nat) (l2 : Nat) (l3 : Int32) (Po : XH → Prop) (hw : w_Jx4a65c_add_72be8 dc h l0 l1 l2 l3 Po) : xM l dc yJx4a65c_add_72be8 wsJx4a65c_add_72be8 5 127 1 64 [.ref l0, .ref l1, .ref l2, .int l3] h (xPv Po) := by
  refine xM_of [(0, .ref l0), (1, .ref l1), (2, .ref l2), (3, .int l3)] (own := RJx4a65c) (cc := cJx4a65c_add_72be8) (nL := 4) (ret := none) (by decide +kernel) rfl rfl (Nat.le_of_ble_eq_true rfl) rfl ?_
  intro X V hX S E
  subst hX
  refine xr_iload_n S 3 dJx4a65c_add_72be8_0 rfl ?_
  refine xr_aload_n S 2 dJx4a65c_add_72be8_1 rfl ?_
  refine xw_alen S 1 (.object "java/lang/Object") dJx4a65c_add_72be8_2 (fun X => ⟨_, rfl, rfl⟩) hw (fun v1 hw => ?_)
  refine xw_icmp_ne S 11 dJx4a65c_add_72be8_3 (by decide) hw (fun c hw => ?_) (fun c hw => ?_)
  · refine xr_widen S (k := 1) (n := 64) (Nat.le_of_ble_eq_true rfl) (Nat.le_of_ble_eq_true rfl) ?_
    exact k_Jx4a65c_add_72be8_11 S h l0 l1 l2 l3 Po E hw
  · refine xr_aload_n S 0 dJx4a65c_add_72be8_6 rfl ?_
    obtain ⟨e4, hw⟩ := hw
    obtain ⟨f5, f5x⟩ := id e4
    refine xr_callV S 0 [] [] dJx4a65c_add_72be8_7 (k_Jx4a65c_grow_d5877 l (xdc X) h l0 _ hw) gJx4a65c_add_72be8_Jx4a65c_grow_d5877 rfl pd_Jx4a65c_grow_d5877 ⟨Nat.le_of_ble_eq_true rfl, Nat.le_of_ble_eq_true rfl⟩ rfl (Nat.le_of_ble_eq_true rfl) ⟨Nat.le_of_ble_eq_true rfl, Nat.le_of_ble_eq_true rfl⟩ f5x rfl (fun v9 h7 hv => ?_)
    obtain ⟨a6, rfl, hw⟩ := hv
    refine xr_astore_n S [(2, .ref a6), (0, .ref l0), (1, .ref l1), (3, .int l3)] dJx4a65c_add_72be8_10 (by decide) rfl ?_
    refine xr_sub S [(0, .ref l0), (1, .ref l1), (2, .ref a6), (3, .int l3)] [1, 2, 0, 3] rfl ?_
    exact k_Jx4a65c_add_72be8_11 S h7 l0 l1 a6 l3 Po E hw
theorem in_Jx4a65c_add_9ea2d_Jx4a65c : ∀ w ∈ wsJx4a65c0, w ∈ wsJx4a65c_add_9ea2d := by decide +kernel
theorem m_Jx4a65c_add_9ea2d_1 : Cond.fieldLink RJx4a65c 63 "java/util/ArrayList" "modCount" "I" ∈ wsJx4a65c_add_9ea2d := by decide +kernel
theorem m_Jx4a65c_add_9ea2d_2 : Cond.sameField "java/util/ArrayList" "java/util/AbstractList" "modCount" "I" ∈ wsJx4a65c_add_9ea2d := by decide +kernel
theorem m_Jx4a65c_add_9ea2d_3 : Cond.fieldLink RJx4a65c 9 "java/util/ArrayList" "elementData" "[Ljava/lang/Object;" ∈ wsJx4a65c_add_9ea2d := by decide +kernel
theorem m_Jx4a65c_add_9ea2d_4 : Cond.fieldLink RJx4a65c 48 "java/util/ArrayList" "size" "I" ∈ wsJx4a65c_add_9ea2d := by decide +kernel
def w_Jx4a65c_add_9ea2d (dc : Nat × Nat) (h : XH) (l0 : Nat) (l1 : Nat) (Po : Int32 → XH → Prop) : Prop :=
  wI h l0 0 0 (fun v1 => wP h l0 0 0 (.int (v1 + 1)) (fun h2 => wR h2 l0 0 1 (fun a3 => wI h2 l0 0 2 (fun v4 => wO h2 l0 0 ( w_Jx4a65c_add_72be8 dc h2 l0 l1 a3 v4 (fun h8 => wZ 1 (Po 1 h8)))))))
set_option maxRecDepth 100000 in
set_option maxHeartbeats 4000000 in
theorem k_Jx4a65c_add_9ea2d (l : Launch) (dc : Nat × Nat) (h : XH) (l0 : Nat) (l1 : Nat) (Po : Int32 → XH → Prop) (hw : w_Jx4a65c_add_9ea2d dc h l0 l1 Po) : xM l dc yJx4a65c_add_9ea2d wsJx4a65c_add_9ea2d 6 150 1 64 [.ref l0, .ref l1] h (xPi Po) := by
  refine xM_of [(0, .ref l0), (1, .ref l1)] (own := RJx4a65c) (cc := cJx4a65c_add_9ea2d) (nL := 2) (ret := (some .boolean)) (by decide +kernel) rfl rfl (Nat.le_of_ble_eq_true rfl) rfl ?_
  intro X V hX S E
  subst hX
  refine xr_aload_n S 0 dJx4a65c_add_9ea2d_0 rfl ?_
  refine xr_dup S dJx4a65c_add_9ea2d_1 rfl ?_
  refine xw_getI S 0 0 dJx4a65c_add_9ea2d_2 in_Jx4a65c_add_9ea2d_Jx4a65c rfl (by decide) (Or.inl m_Jx4a65c_add_9ea2d_1) (Or.inr m_Jx4a65c_add_9ea2d_2) hw (fun v1 hw => ?_)
  refine xr_iconst S (1) dJx4a65c_add_9ea2d_5 (by decide) ?_
  refine xr_iadd S dJx4a65c_add_9ea2d_6 ?_
  refine xw_put S 0 0 tyJx4a65c dJx4a65c_add_9ea2d_7 in_Jx4a65c_add_9ea2d_Jx4a65c rfl (by decide) (Or.inl m_Jx4a65c_add_9ea2d_1) (Or.inr m_Jx4a65c_add_9ea2d_2) tyJx4a65c_ok nmJx4a65c rfl rfl ⟨rfl, rfl⟩ hw (fun h2 hw => ?_)
  refine xr_aload_n S 0 dJx4a65c_add_9ea2d_10 rfl ?_
  refine xr_aload_n S 1 dJx4a65c_add_9ea2d_11 rfl ?_
  refine xr_aload_n S 0 dJx4a65c_add_9ea2d_12 rfl ?_
  refine xw_getR S 0 1 dJx4a65c_add_9ea2d_13 in_Jx4a65c_add_9ea2d_Jx4a65c rfl (by decide) (Or.inl m_Jx4a65c_add_9ea2d_3) (Or.inl rfl) hw (fun a3 hw => ?_)
  refine xr_aload_n S 0 dJx4a65c_add_9ea2d_16 rfl ?_
  refine xw_getI S 0 2 dJx4a65c_add_9ea2d_17 in_Jx4a65c_add_9ea2d_Jx4a65c rfl (by decide) (Or.inl m_Jx4a65c_add_9ea2d_4) (Or.inl rfl) hw (fun v4 hw => ?_)
  obtain ⟨e5, hw⟩ := hw
  obtain ⟨f6, f6x⟩ := id e5
  refine xr_callV S 0 [.ref l1, .ref a3, .int v4] [] dJx4a65c_add_9ea2d_20 (k_Jx4a65c_add_72be8 l (xdc X) h2 l0 l1 a3 v4 _ hw) gJx4a65c_add_9ea2d_Jx4a65c_add_72be8 rfl pd_Jx4a65c_add_72be8 ⟨Nat.le_of_ble_eq_true rfl, Nat.le_of_ble_eq_true rfl⟩ rfl (Nat.le_of_ble_eq_true rfl) ⟨Nat.le_of_ble_eq_true rfl, Nat.le_of_ble_eq_true rfl⟩ f6x rfl (fun v9 h8 hv => ?_)
  obtain ⟨rfl, hw⟩ := hv
  refine xr_iconst S (1) dJx4a65c_add_9ea2d_23 (by decide) ?_
  obtain ⟨hz, hw⟩ := hw
  exact E.2.1 _ _ _ _ _ _ rfl hz dJx4a65c_add_9ea2d_24 ⟨_, rfl, hw⟩ (Nat.le_of_ble_eq_true rfl) (Nat.le_of_ble_eq_true rfl)
def w_J3_checkIndex_8e157_9 (dc : Nat × Nat) (h : XH) (l0 : Int32) (l1 : Int32) (l2 : Option Nat) (Po : Int32 → Prop) : Prop :=
  False
set_option maxRecDepth 100000 in
set_option maxHeartbeats 4000000 in
theorem k_J3_checkIndex_8e157_9 {V : XVT} {X : XC} {l : Launch} (S : xS V X l RJ3 yJ3_checkIndex_8e157.name cJ3_checkIndex_8e157 3 wsJ3_checkIndex_8e157 (xRm 0 0 0 0)) (h : XH) (l0 : Int32) (l1 : Int32) (l2 : Option Nat) (Po : Int32 → Prop) (E : xEnd V cJ3_checkIndex_8e157 (some .int) 0 0 (xRi h Po)) (hw : w_J3_checkIndex_8e157_9 (xdc X) h l0 l1 l2 Po) : V 0 0 h 9 [(0, .int l0), (1, .int l1), (2, va_rf l2)] [] := by
  refine xr_aloadq_n S 2 dJ3_checkIndex_8e157_9 rfl ?_
  refine xr_iload_n S 0 dJ3_checkIndex_8e157_10 rfl ?_
  refine xr_iload_n S 1 dJ3_checkIndex_8e157_11 rfl ?_
  exact hw.elim
def w_J3_checkIndex_8e157 (dc : Nat × Nat) (h : XH) (l0 : Int32) (l1 : Int32) (Po : Int32 → Prop) : Prop :=
  wIf (l0 < 0) (w_J3_checkIndex_8e157_9 dc h l0 l1 none Po) (wIf (l0 < l1) (Po l0) (w_J3_checkIndex_8e157_9 dc h l0 l1 none Po))
set_option maxRecDepth 100000 in
set_option maxHeartbeats 4000000 in
theorem k_J3_checkIndex_8e157 (l : Launch) (dc : Nat × Nat) (h : XH) (l0 : Int32) (l1 : Int32) (Po : Int32 → Prop) (hw : w_J3_checkIndex_8e157 dc h l0 l1 Po) : xM l dc yJ3_checkIndex_8e157 wsJ3_checkIndex_8e157 0 0 0 0 [.int l0, .int l1, va_rf none] h (xRi h Po) := by
  refine xM_of [(0, .int l0), (1, .int l1), (2, va_rf none)] (own := RJ3) (cc := cJ3_checkIndex_8e157) (nL := 3) (ret := (some .int)) (by decide +kernel) rfl rfl (Nat.le_of_ble_eq_true rfl) rfl ?_
  intro X V hX S E
  subst hX
  refine xr_iload_n S 0 dJ3_checkIndex_8e157_0 rfl ?_
  refine xw_if_lt S 9 dJ3_checkIndex_8e157_1 (by decide) hw (fun c hw => ?_) (fun c hw => ?_)
  · exact k_J3_checkIndex_8e157_9 S h l0 l1 none Po E hw
  · refine xr_iload_n S 0 dJ3_checkIndex_8e157_4 rfl ?_
    refine xr_iload_n S 1 dJ3_checkIndex_8e157_5 rfl ?_
    refine xw_icmp_lt S 16 dJ3_checkIndex_8e157_6 (by decide) hw (fun c hw => ?_) (fun c hw => ?_)
    · refine xr_iload_n S 0 dJ3_checkIndex_8e157_16 rfl ?_
      exact E.1 _ _ _ _ _ _ rfl dJ3_checkIndex_8e157_17 ⟨_, rfl, rfl, hw⟩ (Nat.le_of_ble_eq_true rfl) (Nat.le_of_ble_eq_true rfl)
    · exact k_J3_checkIndex_8e157_9 S h l0 l1 none Po E hw
def w_J15_checkIndex_7cf53 (dc : Nat × Nat) (h : XH) (l0 : Int32) (l1 : Int32) (Po : Int32 → Prop) : Prop :=
  w_J3_checkIndex_8e157 dc h l0 l1 (fun r1 => Po r1)
set_option maxRecDepth 100000 in
set_option maxHeartbeats 4000000 in
theorem k_J15_checkIndex_7cf53 (l : Launch) (dc : Nat × Nat) (h : XH) (l0 : Int32) (l1 : Int32) (Po : Int32 → Prop) (hw : w_J15_checkIndex_7cf53 dc h l0 l1 Po) : xM l dc yJ15_checkIndex_7cf53 wsJ15_checkIndex_7cf53 1 22 0 0 [.int l0, .int l1] h (xRi h Po) := by
  refine xM_of [(0, .int l0), (1, .int l1)] (own := RJ15) (cc := cJ15_checkIndex_7cf53) (nL := 2) (ret := (some .int)) (by decide +kernel) rfl rfl (Nat.le_of_ble_eq_true rfl) rfl ?_
  intro X V hX S E
  subst hX
  refine xr_iload_n S 0 dJ15_checkIndex_7cf53_0 rfl ?_
  refine xr_iload_n S 1 dJ15_checkIndex_7cf53_1 rfl ?_
  refine xr_null S dJ15_checkIndex_7cf53_2 ?_
  refine xr_callS S [.int l0, .int l1, va_rf none] [] dJ15_checkIndex_7cf53_3 (k_J3_checkIndex_8e157 l (xdc X) h l0 l1 _ hw) gJ15_checkIndex_7cf53_J3_checkIndex_8e157 rfl pd_J3_checkIndex_8e157 ⟨Nat.le_of_ble_eq_true rfl, Nat.le_of_ble_eq_true rfl⟩ rfl (Nat.le_of_ble_eq_true rfl) ⟨Nat.le_of_ble_eq_true rfl, Nat.le_of_ble_eq_true rfl⟩ (fun v9 h3 hv => ?_)
  obtain ⟨r1, rfl, rfl, hw⟩ := hv
  exact E.1 _ _ _ _ _ _ rfl dJ15_checkIndex_7cf53_6 ⟨_, rfl, rfl, hw⟩ (Nat.le_of_ble_eq_true rfl) (Nat.le_of_ble_eq_true rfl)
theorem in_Jx4a65c_elementData_915e3_Jx4a65c : ∀ w ∈ wsJx4a65c0, w ∈ wsJx4a65c_elementData_915e3 := by decide +kernel
theorem m_Jx4a65c_elementData_915e3_1 : Cond.fieldLink RJx4a65c 9 "java/util/ArrayList" "elementData" "[Ljava/lang/Object;" ∈ wsJx4a65c_elementData_915e3 := by decide +kernel
def w_Jx4a65c_elementData_915e3 (dc : Nat × Nat) (h : XH) (l0 : Nat) (l1 : Int32) (Po : Option Nat → Prop) : Prop :=
  wR h l0 0 1 (fun a1 => wAQ h a1 l1 (fun r2 => Po r2))
set_option maxRecDepth 100000 in
set_option maxHeartbeats 4000000 in
theorem k_Jx4a65c_elementData_915e3 (l : Launch) (dc : Nat × Nat) (h : XH) (l0 : Nat) (l1 : Int32) (Po : Option Nat → Prop) (hw : w_Jx4a65c_elementData_915e3 dc h l0 l1 Po) : xM l dc yJx4a65c_elementData_915e3 wsJx4a65c_elementData_915e3 0 0 0 0 [.ref l0, .int l1] h (xRq h Po) := by
  refine xM_of [(0, .ref l0), (1, .int l1)] (own := RJx4a65c) (cc := cJx4a65c_elementData_915e3) (nL := 2) (ret := (some (.object "java/lang/Object"))) (by decide +kernel) rfl rfl (Nat.le_of_ble_eq_true rfl) rfl ?_
  intro X V hX S E
  subst hX
  refine xr_aload_n S 0 dJx4a65c_elementData_915e3_0 rfl ?_
  refine xw_getR S 0 1 dJx4a65c_elementData_915e3_1 in_Jx4a65c_elementData_915e3_Jx4a65c rfl (by decide) (Or.inl m_Jx4a65c_elementData_915e3_1) (Or.inl rfl) hw (fun a1 hw => ?_)
  refine xr_iload_n S 1 dJx4a65c_elementData_915e3_4 rfl ?_
  refine xw_aald S dJx4a65c_elementData_915e3_5 hw (fun r2 hw => ?_)
  exact E.2.2.2.1 _ _ _ _ _ _ r2 rfl (Or.inl ⟨_, rfl⟩) dJx4a65c_elementData_915e3_6 ⟨r2, rfl, rfl, hw⟩ (Nat.le_of_ble_eq_true rfl) (Nat.le_of_ble_eq_true rfl)
theorem in_Jx4a65c_get_915e3_Jx4a65c : ∀ w ∈ wsJx4a65c0, w ∈ wsJx4a65c_get_915e3 := by decide +kernel
theorem m_Jx4a65c_get_915e3_1 : Cond.fieldLink RJx4a65c 48 "java/util/ArrayList" "size" "I" ∈ wsJx4a65c_get_915e3 := by decide +kernel
def w_Jx4a65c_get_915e3 (dc : Nat × Nat) (h : XH) (l0 : Nat) (l1 : Int32) (Po : Option Nat → Prop) : Prop :=
  wO h l0 0 (wI h l0 0 2 (fun v1 => w_J15_checkIndex_7cf53 dc h l1 v1 (fun r2 => w_Jx4a65c_elementData_915e3 dc h l0 l1 (fun r6 => Po r6))))
set_option maxRecDepth 100000 in
set_option maxHeartbeats 4000000 in
theorem k_Jx4a65c_get_915e3 (l : Launch) (dc : Nat × Nat) (h : XH) (l0 : Nat) (l1 : Int32) (Po : Option Nat → Prop) (hw : w_Jx4a65c_get_915e3 dc h l0 l1 Po) : xM l dc yJx4a65c_get_915e3 wsJx4a65c_get_915e3 2 43 0 0 [.ref l0, .int l1] h (xRq h Po) := by
  refine xM_of [(0, .ref l0), (1, .int l1)] (own := RJx4a65c) (cc := cJx4a65c_get_915e3) (nL := 2) (ret := (some (.object "java/lang/Object"))) (by decide +kernel) rfl rfl (Nat.le_of_ble_eq_true rfl) rfl ?_
  intro X V hX S E
  subst hX
  obtain ⟨hO, hw⟩ := hw
  refine xr_iload_n S 1 dJx4a65c_get_915e3_0 rfl ?_
  refine xr_aload_n S 0 dJx4a65c_get_915e3_1 rfl ?_
  refine xw_getI S 0 2 dJx4a65c_get_915e3_2 in_Jx4a65c_get_915e3_Jx4a65c rfl (by decide) (Or.inl m_Jx4a65c_get_915e3_1) (Or.inl rfl) hw (fun v1 hw => ?_)
  refine xr_callS S [.int l1, .int v1] [] dJx4a65c_get_915e3_5 (k_J15_checkIndex_7cf53 l (xdc X) h l1 v1 _ hw) gJx4a65c_get_915e3_J15_checkIndex_7cf53 rfl pd_J15_checkIndex_7cf53 ⟨Nat.le_of_ble_eq_true rfl, Nat.le_of_ble_eq_true rfl⟩ rfl (Nat.le_of_ble_eq_true rfl) ⟨Nat.le_of_ble_eq_true rfl, Nat.le_of_ble_eq_true rfl⟩ (fun v9 h4 hv => ?_)
  obtain ⟨r2, rfl, rfl, hw⟩ := hv
  refine xr_pop S dJx4a65c_get_915e3_8 rfl ?_
  refine xr_aload_n S 0 dJx4a65c_get_915e3_9 rfl ?_
  refine xr_iload_n S 1 dJx4a65c_get_915e3_10 rfl ?_
  obtain ⟨f5, f5x⟩ := id hO
  refine xr_callV S 0 [.int l1] [] dJx4a65c_get_915e3_11 (k_Jx4a65c_elementData_915e3 l (xdc X) h l0 l1 _ hw) gJx4a65c_get_915e3_Jx4a65c_elementData_915e3 rfl pd_Jx4a65c_elementData_915e3 ⟨Nat.le_of_ble_eq_true rfl, Nat.le_of_ble_eq_true rfl⟩ rfl (Nat.le_of_ble_eq_true rfl) ⟨Nat.le_of_ble_eq_true rfl, Nat.le_of_ble_eq_true rfl⟩ f5x rfl (fun v9 h8 hv => ?_)
  obtain ⟨r6, rfl, rfl, hw⟩ := hv
  exact E.2.2.2.1 _ _ _ _ _ _ r6 rfl (Or.inl ⟨_, rfl⟩) dJx4a65c_get_915e3_14 ⟨r6, rfl, rfl, hw⟩ (Nat.le_of_ble_eq_true rfl) (Nat.le_of_ble_eq_true rfl)
