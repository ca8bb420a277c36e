theorem m_L_canBegin_0 : Cond.methodLink RL 56 Lib.Math.abs.name ∈ wsL_canBegin := by decide +kernel
theorem m_L_canBegin_1 : Cond.static Lib.Math.abs.name ∈ wsL_canBegin := by decide +kernel
theorem m_L_canBegin_2 : Cond.initialized "java/lang/Math" ∈ wsL_canBegin := by decide +kernel
theorem m_L_canBegin_3 : Cond.code Lib.Math.abs.name Lib.Math.abs.code 1 (some .int) ∈ wsL_canBegin := by decide +kernel
def w_L_canBegin_408 (dc : Nat × Nat) (h : XH) (l0 : Int32) (l2 : Int32) (l3 : Int32) (l4 : Nat) (l5 : Nat) (l8 : Nat) (l9 : Nat) (l10 : Int32) (l15 : Int32) (l16 : Int32) (Po : Int32 → Prop) (rec352 : Int32 → Prop) : Prop :=
  rec352 (l16 + 1)
set_option maxRecDepth 100000 in
set_option maxHeartbeats 4000000 in
theorem k_L_canBegin_408 {V : XVT} {X : XC} {l : Launch} (S : xS V X l RL yL_canBegin.name cL_canBegin 17 wsL_canBegin (xRm 1 34 0 0)) (h : XH) (l0 : Int32) (l2 : Int32) (l3 : Int32) (l4 : Nat) (l5 : Nat) (l8 : Nat) (l9 : Nat) (l10 : Int32) (l15 : Int32) (l16 : Int32) (Po : Int32 → Prop) (E : xEnd V cL_canBegin (some .boolean) 0 0 (xRi h Po)) (rec352 : Int32 → Prop) (hr352 : ∀ s : Int32, rec352 s → V 0 0 h 352 [(0, .int l0), (2, .int l2), (3, .int l3), (4, .ref l4), (5, .ref l5), (8, .ref l8), (9, .ref l9), (10, .int l10), (15, .int l15), (16, .int s)] []) (hw : w_L_canBegin_408 (xdc X) h l0 l2 l3 l4 l5 l8 l9 l10 l15 l16 Po rec352) : V 0 0 h 408 [(0, .int l0), (2, .int l2), (3, .int l3), (4, .ref l4), (5, .ref l5), (8, .ref l8), (9, .ref l9), (10, .int l10), (15, .int l15), (16, .int l16)] [] := by
  refine xr_iinc S 9 ((l16 + 1)) [(16, .int (l16 + 1)), (0, .int l0), (2, .int l2), (3, .int l3), (4, .ref l4), (5, .ref l5), (8, .ref l8), (9, .ref l9), (10, .int l10), (15, .int l15)] dL_canBegin_408 rfl rfl (by decide) rfl ?_
  refine xr_goto S (tgt := 352) dL_canBegin_411 (by decide) ?_
  refine xr_sub S [(0, .int l0), (2, .int l2), (3, .int l3), (4, .ref l4), (5, .ref l5), (8, .ref l8), (9, .ref l9), (10, .int l10), (15, .int l15), (16, .int (l16 + 1))] [1, 2, 3, 4, 5, 6, 7, 8, 9, 0] rfl ?_
  exact hr352 (l16 + 1) hw
def w_L_canBegin_381 (dc : Nat × Nat) (h : XH) (l0 : Int32) (l2 : Int32) (l3 : Int32) (l4 : Nat) (l5 : Nat) (l8 : Nat) (l9 : Nat) (l10 : Int32) (l15 : Int32) (l16 : Int32) (Po : Int32 → Prop) (rec352 : Int32 → Prop) : Prop :=
  wIf (l15 ≤ 0) (w_L_canBegin_408 dc h l0 l2 l3 l4 l5 l8 l9 l10 l15 l16 Po rec352) (w_L_tugsAt dc h l3 l4 (l2 + l16) (fun r21 => wAI h 2 l5 4 (fun v24 => wIf ((r21 + l15) ≤ v24) (w_L_canBegin_408 dc h l0 l2 l3 l4 l5 l8 l9 l10 l15 l16 Po rec352) (wZ 0 (Po 0)))))
set_option maxRecDepth 100000 in
set_option maxHeartbeats 4000000 in
theorem k_L_canBegin_381 {V : XVT} {X : XC} {l : Launch} (S : xS V X l RL yL_canBegin.name cL_canBegin 17 wsL_canBegin (xRm 1 34 0 0)) (h : XH) (l0 : Int32) (l2 : Int32) (l3 : Int32) (l4 : Nat) (l5 : Nat) (l8 : Nat) (l9 : Nat) (l10 : Int32) (l15 : Int32) (l16 : Int32) (Po : Int32 → Prop) (E : xEnd V cL_canBegin (some .boolean) 0 0 (xRi h Po)) (rec352 : Int32 → Prop) (hr352 : ∀ s : Int32, rec352 s → V 0 0 h 352 [(0, .int l0), (2, .int l2), (3, .int l3), (4, .ref l4), (5, .ref l5), (8, .ref l8), (9, .ref l9), (10, .int l10), (15, .int l15), (16, .int s)] []) (hw : w_L_canBegin_381 (xdc X) h l0 l2 l3 l4 l5 l8 l9 l10 l15 l16 Po rec352) : V 0 0 h 381 [(0, .int l0), (2, .int l2), (3, .int l3), (4, .ref l4), (5, .ref l5), (8, .ref l8), (9, .ref l9), (10, .int l10), (15, .int l15), (16, .int l16)] [] := by
  refine xr_iload S 8 dL_canBegin_381 rfl ?_
  refine xw_if_le S 408 dL_canBegin_383 (by decide) hw (fun c hw => ?_) (fun c hw => ?_)
  · exact k_L_canBegin_408 S h l0 l2 l3 l4 l5 l8 l9 l10 l15 l16 Po E rec352 hr352 hw
  · refine xr_iload_n S 2 dL_canBegin_386 rfl ?_
    refine xr_aload S 3 dL_canBegin_387 rfl ?_
    refine xr_iload_n S 1 dL_canBegin_389 rfl ?_
    refine xr_iload S 9 dL_canBegin_390 rfl ?_
    refine xr_iadd S dL_canBegin_392 ?_
    refine xr_callS S [.int l3, .ref l4, .int (l2 + l16)] [] dL_canBegin_393 (k_L_tugsAt l (xdc X) h l3 l4 (l2 + l16) _ hw) gL_canBegin_L_tugsAt rfl pd_L_tugsAt ⟨Nat.le_of_ble_eq_true rfl, Nat.le_of_ble_eq_true rfl⟩ rfl (Nat.le_of_ble_eq_true rfl) ⟨Nat.le_of_ble_eq_true rfl, Nat.le_of_ble_eq_true rfl⟩ (fun v9 h23 hv => ?_)
    obtain ⟨r21, rfl, rfl, hw⟩ := hv
    refine xr_iload S 8 dL_canBegin_396 rfl ?_
    refine xr_iadd S dL_canBegin_398 ?_
    refine xr_aload S 4 dL_canBegin_399 rfl ?_
    refine xr_iconst S (4) dL_canBegin_401 (by decide) ?_
    refine xw_iald S 2 dL_canBegin_402 (Or.inr rfl) hw (fun v24 hw => ?_)
    refine xw_icmp_le S 408 dL_canBegin_403 (by decide) hw (fun c hw => ?_) (fun c hw => ?_)
    · exact k_L_canBegin_408 S h l0 l2 l3 l4 l5 l8 l9 l10 l15 l16 Po E rec352 hr352 hw
    · refine xr_iconst S (0) dL_canBegin_406 (by decide) ?_
      obtain ⟨hz, hw⟩ := hw
      exact E.2.1 _ _ _ _ _ _ rfl hz dL_canBegin_407 ⟨_, rfl, rfl, hw⟩ (Nat.le_of_ble_eq_true rfl) (Nat.le_of_ble_eq_true rfl)
def w_L_canBegin_352_F (dc : Nat × Nat) (h : XH) (l0 : Int32) (l2 : Int32) (l3 : Int32) (l4 : Nat) (l5 : Nat) (l8 : Nat) (l9 : Nat) (l10 : Int32) (l15 : Int32) (Po : Int32 → Prop) (rec352 : Int32 → Prop) : Int32 → Prop := fun l16 =>
  wIf (60 ≤ l16) (wAI h 2 l8 (2 * l0) (fun v17 => w_L_pilot dc h v17 l10 l2 l3 l4 l5 l9 (fun r18 => wIf (r18 < 0) (wZ 0 (Po 0)) (wZ 1 (Po 1))))) (wIf (l10 = 0) (wIf (l16 < 20) (w_L_canBegin_408 dc h l0 l2 l3 l4 l5 l8 l9 l10 l15 l16 Po rec352) (w_L_canBegin_381 dc h l0 l2 l3 l4 l5 l8 l9 l10 l15 l16 Po rec352)) (wIf (40 ≤ l16) (w_L_canBegin_408 dc h l0 l2 l3 l4 l5 l8 l9 l10 l15 l16 Po rec352) (w_L_canBegin_381 dc h l0 l2 l3 l4 l5 l8 l9 l10 l15 l16 Po rec352)))
def w_L_canBegin_352 (dc : Nat × Nat) (h : XH) (l0 : Int32) (l2 : Int32) (l3 : Int32) (l4 : Nat) (l5 : Nat) (l8 : Nat) (l9 : Nat) (l10 : Int32) (l15 : Int32) (Po : Int32 → Prop) : Int32 → Prop := xloop (w_L_canBegin_352_F dc h l0 l2 l3 l4 l5 l8 l9 l10 l15 Po)
set_option maxRecDepth 100000 in
set_option maxHeartbeats 4000000 in
theorem k_L_canBegin_352 {V : XVT} {X : XC} {l : Launch} (S : xS V X l RL yL_canBegin.name cL_canBegin 17 wsL_canBegin (xRm 1 34 0 0)) (h : XH) (l0 : Int32) (l2 : Int32) (l3 : Int32) (l4 : Nat) (l5 : Nat) (l8 : Nat) (l9 : Nat) (l10 : Int32) (l15 : Int32) (Po : Int32 → Prop) (E : xEnd V cL_canBegin (some .boolean) 0 0 (xRi h Po)) (s0 : Int32) (hw : w_L_canBegin_352 (xdc X) h l0 l2 l3 l4 l5 l8 l9 l10 l15 Po s0) : V 0 0 h 352 [(0, .int l0), (2, .int l2), (3, .int l3), (4, .ref l4), (5, .ref l5), (8, .ref l8), (9, .ref l9), (10, .int l10), (15, .int l15), (16, .int s0)] [] := by
  refine xloop_use (P := fun s : Int32 => V 0 0 h 352 [(0, .int l0), (2, .int l2), (3, .int l3), (4, .ref l4), (5, .ref l5), (8, .ref l8), (9, .ref l9), (10, .int l10), (15, .int l15), (16, .int s)] []) (fun rec352 hr352 s hw => ?_) hw
  obtain ⟨l16, rfl⟩ : ∃ z, z = s := ⟨s, rfl⟩
  refine xr_iload S 9 dL_canBegin_352 rfl ?_
  refine xr_bipush S (60) dL_canBegin_354 (by decide) ?_
  refine xw_icmp_ge S 414 dL_canBegin_356 (by decide) hw (fun c hw => ?_) (fun c hw => ?_)
  · refine xr_aload S 5 dL_canBegin_414 rfl ?_
    refine xr_iconst S (2) dL_canBegin_416 (by decide) ?_
    refine xr_iload_n S 0 dL_canBegin_417 rfl ?_
    refine xr_imul S dL_canBegin_418 ?_
    refine xw_iald S 2 dL_canBegin_419 (Or.inr rfl) hw (fun v17 hw => ?_)
    refine xr_iload S 7 dL_canBegin_420 rfl ?_
    refine xr_iload_n S 1 dL_canBegin_422 rfl ?_
    refine xr_iload_n S 2 dL_canBegin_423 rfl ?_
    refine xr_aload S 3 dL_canBegin_424 rfl ?_
    refine xr_aload S 4 dL_canBegin_426 rfl ?_
    refine xr_aload S 6 dL_canBegin_428 rfl ?_
    refine xr_callS S [.int v17, .int l10, .int l2, .int l3, .ref l4, .ref l5, .ref l9] [] dL_canBegin_430 (k_L_pilot l (xdc X) h v17 l10 l2 l3 l4 l5 l9 _ hw) gL_canBegin_L_pilot rfl pd_L_pilot ⟨Nat.le_of_ble_eq_true rfl, Nat.le_of_ble_eq_true rfl⟩ rfl (Nat.le_of_ble_eq_true rfl) ⟨Nat.le_of_ble_eq_true rfl, Nat.le_of_ble_eq_true rfl⟩ (fun v9 h20 hv => ?_)
    obtain ⟨r18, rfl, rfl, hw⟩ := hv
    refine xw_if_lt S 440 dL_canBegin_433 (by decide) hw (fun c hw => ?_) (fun c hw => ?_)
    · refine xr_iconst S (0) dL_canBegin_440 (by decide) ?_
      obtain ⟨hz, hw⟩ := hw
      exact E.2.1 _ _ _ _ _ _ rfl hz dL_canBegin_441 ⟨_, rfl, rfl, hw⟩ (Nat.le_of_ble_eq_true rfl) (Nat.le_of_ble_eq_true rfl)
    · refine xr_iconst S (1) dL_canBegin_436 (by decide) ?_
      refine xr_goto S (tgt := 441) dL_canBegin_437 (by decide) ?_
      obtain ⟨hz, hw⟩ := hw
      exact E.2.1 _ _ _ _ _ _ rfl hz dL_canBegin_441 ⟨_, rfl, rfl, hw⟩ (Nat.le_of_ble_eq_true rfl) (Nat.le_of_ble_eq_true rfl)
  · refine xr_iload S 7 dL_canBegin_359 rfl ?_
    refine xw_if_eq S 374 dL_canBegin_361 (by decide) hw (fun c hw => ?_) (fun c hw => ?_)
    · refine xr_iload S 9 dL_canBegin_374 rfl ?_
      refine xr_bipush S (20) dL_canBegin_376 (by decide) ?_
      refine xw_icmp_lt S 408 dL_canBegin_378 (by decide) hw (fun c hw => ?_) (fun c hw => ?_)
      · exact k_L_canBegin_408 S h l0 l2 l3 l4 l5 l8 l9 l10 l15 l16 Po E rec352 hr352 hw
      · exact k_L_canBegin_381 S h l0 l2 l3 l4 l5 l8 l9 l10 l15 l16 Po E rec352 hr352 hw
    · refine xr_iload S 9 dL_canBegin_364 rfl ?_
      refine xr_bipush S (40) dL_canBegin_366 (by decide) ?_
      refine xw_icmp_ge S 408 dL_canBegin_368 (by decide) hw (fun c hw => ?_) (fun c hw => ?_)
      · exact k_L_canBegin_408 S h l0 l2 l3 l4 l5 l8 l9 l10 l15 l16 Po E rec352 hr352 hw
      · refine xr_goto S (tgt := 381) dL_canBegin_371 (by decide) ?_
        exact k_L_canBegin_381 S h l0 l2 l3 l4 l5 l8 l9 l10 l15 l16 Po E rec352 hr352 hw
def w_L_canBegin_327 (dc : Nat × Nat) (h : XH) (l0 : Int32) (l1 : Int32) (l2 : Int32) (l3 : Int32) (l4 : Nat) (l5 : Nat) (l8 : Nat) (l9 : Nat) (l10 : Int32) (l15 : Int32) (t0 : Int32) (t1 : Int32) (Po : Int32 → Prop) (rec226 : Int32 → Prop) : Prop :=
  wIf (t1 ≤ t0) (rec226 (l15 + 1)) (wZ 0 (Po 0))
set_option maxRecDepth 100000 in
set_option maxHeartbeats 4000000 in
theorem k_L_canBegin_327 {V : XVT} {X : XC} {l : Launch} (S : xS V X l RL yL_canBegin.name cL_canBegin 17 wsL_canBegin (xRm 1 34 0 0)) (h : XH) (l0 : Int32) (l1 : Int32) (l2 : Int32) (l3 : Int32) (l4 : Nat) (l5 : Nat) (l8 : Nat) (l9 : Nat) (l10 : Int32) (l15 : Int32) (t0 : Int32) (t1 : Int32) (Po : Int32 → Prop) (E : xEnd V cL_canBegin (some .boolean) 0 0 (xRi h Po)) (rec226 : Int32 → Prop) (hr226 : ∀ s : Int32, rec226 s → V 0 0 h 226 [(0, .int l0), (1, .int l1), (2, .int l2), (3, .int l3), (4, .ref l4), (5, .ref l5), (8, .ref l8), (9, .ref l9), (10, .int l10), (15, .int s)] []) (hw : w_L_canBegin_327 (xdc X) h l0 l1 l2 l3 l4 l5 l8 l9 l10 l15 t0 t1 Po rec226) : V 0 0 h 327 [(0, .int l0), (1, .int l1), (2, .int l2), (3, .int l3), (4, .ref l4), (5, .ref l5), (8, .ref l8), (9, .ref l9), (10, .int l10), (15, .int l15)] [.int t1, .int t0] := by
  refine xw_icmp_ge S 332 dL_canBegin_327 (by decide) hw (fun c hw => ?_) (fun c hw => ?_)
  · refine xr_iinc S 9 ((l15 + 1)) [(15, .int (l15 + 1)), (0, .int l0), (1, .int l1), (2, .int l2), (3, .int l3), (4, .ref l4), (5, .ref l5), (8, .ref l8), (9, .ref l9), (10, .int l10)] dL_canBegin_332 rfl rfl (by decide) rfl ?_
    refine xr_goto S (tgt := 226) dL_canBegin_335 (by decide) ?_
    refine xr_sub S [(0, .int l0), (1, .int l1), (2, .int l2), (3, .int l3), (4, .ref l4), (5, .ref l5), (8, .ref l8), (9, .ref l9), (10, .int l10), (15, .int (l15 + 1))] [1, 2, 3, 4, 5, 6, 7, 8, 9, 0] rfl ?_
    exact hr226 (l15 + 1) hw
  · refine xr_iconst S (0) dL_canBegin_330 (by decide) ?_
    obtain ⟨hz, hw⟩ := hw
    exact E.2.1 _ _ _ _ _ _ rfl hz dL_canBegin_331 ⟨_, rfl, rfl, hw⟩ (Nat.le_of_ble_eq_true rfl) (Nat.le_of_ble_eq_true rfl)
def w_L_canBegin_315 (dc : Nat × Nat) (h : XH) (l0 : Int32) (l1 : Int32) (l2 : Int32) (l3 : Int32) (l4 : Nat) (l5 : Nat) (l8 : Nat) (l9 : Nat) (l10 : Int32) (l15 : Int32) (t0 : Int32) (t1 : Int32) (Po : Int32 → Prop) (rec226 : Int32 → Prop) : Prop :=
  wIf (t1 = l10) (w_L_canBegin_327 dc h l0 l1 l2 l3 l4 l5 l8 l9 l10 l15 t0 20 Po rec226) (w_L_canBegin_327 dc h l0 l1 l2 l3 l4 l5 l8 l9 l10 l15 t0 60 Po rec226)
set_option maxRecDepth 100000 in
set_option maxHeartbeats 4000000 in
theorem k_L_canBegin_315 {V : XVT} {X : XC} {l : Launch} (S : xS V X l RL yL_canBegin.name cL_canBegin 17 wsL_canBegin (xRm 1 34 0 0)) (h : XH) (l0 : Int32) (l1 : Int32) (l2 : Int32) (l3 : Int32) (l4 : Nat) (l5 : Nat) (l8 : Nat) (l9 : Nat) (l10 : Int32) (l15 : Int32) (t0 : Int32) (t1 : Int32) (Po : Int32 → Prop) (E : xEnd V cL_canBegin (some .boolean) 0 0 (xRi h Po)) (rec226 : Int32 → Prop) (hr226 : ∀ s : Int32, rec226 s → V 0 0 h 226 [(0, .int l0), (1, .int l1), (2, .int l2), (3, .int l3), (4, .ref l4), (5, .ref l5), (8, .ref l8), (9, .ref l9), (10, .int l10), (15, .int s)] []) (hw : w_L_canBegin_315 (xdc X) h l0 l1 l2 l3 l4 l5 l8 l9 l10 l15 t0 t1 Po rec226) : V 0 0 h 315 [(0, .int l0), (1, .int l1), (2, .int l2), (3, .int l3), (4, .ref l4), (5, .ref l5), (8, .ref l8), (9, .ref l9), (10, .int l10), (15, .int l15)] [.int t1, .int t0] := by
  refine xr_iload S 8 dL_canBegin_315 rfl ?_
  refine xw_icmp_ne S 325 dL_canBegin_317 (by decide) hw (fun c hw => ?_) (fun c hw => ?_)
  · refine xr_bipush S (60) dL_canBegin_325 (by decide) ?_
    exact k_L_canBegin_327 S h l0 l1 l2 l3 l4 l5 l8 l9 l10 l15 t0 60 Po E rec226 hr226 hw
  · refine xr_bipush S (20) dL_canBegin_320 (by decide) ?_
    refine xr_goto S (tgt := 327) dL_canBegin_322 (by decide) ?_
    exact k_L_canBegin_327 S h l0 l1 l2 l3 l4 l5 l8 l9 l10 l15 t0 20 Po E rec226 hr226 hw
def w_L_canBegin_283 (dc : Nat × Nat) (h : XH) (l0 : Int32) (l1 : Int32) (l2 : Int32) (l3 : Int32) (l4 : Nat) (l5 : Nat) (l8 : Nat) (l9 : Nat) (l10 : Int32) (l15 : Int32) (Po : Int32 → Prop) (rec226 : Int32 → Prop) : Prop :=
  wA2 h l4 l15 (fun r25 => wDer r25 (fun q26 => wAI h 2 q26 1 (fun v27 => wA2 h l4 l15 (fun r28 => wDer r28 (fun q29 => wAI h 2 q29 5 (fun v30 => wIf (v30 = 1) (w_L_canBegin_315 dc h l0 l1 l2 l3 l4 l5 l8 l9 l10 l15 (if 0 ≤ (v27 - l2) then (v27 - l2) else 0 - (v27 - l2)) 1 Po rec226) (w_L_canBegin_315 dc h l0 l1 l2 l3 l4 l5 l8 l9 l10 l15 (if 0 ≤ (v27 - l2) then (v27 - l2) else 0 - (v27 - l2)) 0 Po rec226)))))))
set_option maxRecDepth 100000 in
set_option maxHeartbeats 4000000 in
theorem k_L_canBegin_283 {V : XVT} {X : XC} {l : Launch} (S : xS V X l RL yL_canBegin.name cL_canBegin 17 wsL_canBegin (xRm 1 34 0 0)) (h : XH) (l0 : Int32) (l1 : Int32) (l2 : Int32) (l3 : Int32) (l4 : Nat) (l5 : Nat) (l8 : Nat) (l9 : Nat) (l10 : Int32) (l15 : Int32) (Po : Int32 → Prop) (E : xEnd V cL_canBegin (some .boolean) 0 0 (xRi h Po)) (rec226 : Int32 → Prop) (hr226 : ∀ s : Int32, rec226 s → V 0 0 h 226 [(0, .int l0), (1, .int l1), (2, .int l2), (3, .int l3), (4, .ref l4), (5, .ref l5), (8, .ref l8), (9, .ref l9), (10, .int l10), (15, .int s)] []) (hw : w_L_canBegin_283 (xdc X) h l0 l1 l2 l3 l4 l5 l8 l9 l10 l15 Po rec226) : V 0 0 h 283 [(0, .int l0), (1, .int l1), (2, .int l2), (3, .int l3), (4, .ref l4), (5, .ref l5), (8, .ref l8), (9, .ref l9), (10, .int l10), (15, .int l15)] [] := by
  refine xr_aload S 4 dL_canBegin_283 rfl ?_
  refine xr_iload S 9 dL_canBegin_285 rfl ?_
  refine xw_ald2 S dL_canBegin_287 hw (fun r25 hw => ?_)
  refine xr_iconst S (1) dL_canBegin_288 (by decide) ?_
  obtain ⟨q26, hrq26, hwq26⟩ := hw
  subst hrq26
  have hw := hwq26
  refine xw_iald S 2 dL_canBegin_289 (Or.inr rfl) hw (fun v27 hw => ?_)
  refine xr_iload_n S 2 dL_canBegin_290 rfl ?_
  refine xr_isub S dL_canBegin_291 ?_
  refine xr_mabs S dL_canBegin_292 m_L_canBegin_0 m_L_canBegin_1 m_L_canBegin_2 m_L_canBegin_3 (Nat.le_of_ble_eq_true rfl) (Nat.le_of_ble_eq_true rfl) ⟨Nat.le_of_ble_eq_true rfl, Nat.le_of_ble_eq_true rfl⟩ ?_
  refine xr_istore S [(16, .int (if 0 ≤ (v27 - l2) then (v27 - l2) else 0 - (v27 - l2))), (0, .int l0), (1, .int l1), (2, .int l2), (3, .int l3), (4, .ref l4), (5, .ref l5), (8, .ref l8), (9, .ref l9), (10, .int l10), (15, .int l15)] dL_canBegin_295 (by decide) rfl ?_
  refine xr_iload S 0 dL_canBegin_297 rfl ?_
  refine xr_aload S 5 dL_canBegin_299 rfl ?_
  refine xr_iload S 10 dL_canBegin_301 rfl ?_
  refine xw_ald2 S dL_canBegin_303 hw (fun r28 hw => ?_)
  refine xr_iconst S (5) dL_canBegin_304 (by decide) ?_
  obtain ⟨q29, hrq29, hwq29⟩ := hw
  subst hrq29
  have hw := hwq29
  refine xw_iald S 2 dL_canBegin_305 (Or.inr rfl) hw (fun v30 hw => ?_)
  refine xr_iconst S (1) dL_canBegin_306 (by decide) ?_
  refine xw_icmp_ne S 314 dL_canBegin_307 (by decide) hw (fun c hw => ?_) (fun c hw => ?_)
  · refine xr_iconst S (0) dL_canBegin_314 (by decide) ?_
    refine xr_sub S [(0, .int l0), (1, .int l1), (2, .int l2), (3, .int l3), (4, .ref l4), (5, .ref l5), (8, .ref l8), (9, .ref l9), (10, .int l10), (15, .int l15)] [1, 2, 3, 4, 5, 6, 7, 8, 9, 10] rfl ?_
    exact k_L_canBegin_315 S h l0 l1 l2 l3 l4 l5 l8 l9 l10 l15 (if 0 ≤ (v27 - l2) then (v27 - l2) else 0 - (v27 - l2)) 0 Po E rec226 hr226 hw
  · refine xr_iconst S (1) dL_canBegin_310 (by decide) ?_
    refine xr_goto S (tgt := 315) dL_canBegin_311 (by decide) ?_
    refine xr_sub S [(0, .int l0), (1, .int l1), (2, .int l2), (3, .int l3), (4, .ref l4), (5, .ref l5), (8, .ref l8), (9, .ref l9), (10, .int l10), (15, .int l15)] [1, 2, 3, 4, 5, 6, 7, 8, 9, 10] rfl ?_
    exact k_L_canBegin_315 S h l0 l1 l2 l3 l4 l5 l8 l9 l10 l15 (if 0 ≤ (v27 - l2) then (v27 - l2) else 0 - (v27 - l2)) 1 Po E rec226 hr226 hw
def w_L_canBegin_226_F (dc : Nat × Nat) (h : XH) (l0 : Int32) (l1 : Int32) (l2 : Int32) (l3 : Int32) (l4 : Nat) (l5 : Nat) (l8 : Nat) (l9 : Nat) (l10 : Int32) (Po : Int32 → Prop) (rec226 : Int32 → Prop) : Int32 → Prop := fun l15 =>
  wIf (l3 ≤ l15) (wAI h 2 l8 (2 * l0) (fun v13 => w_L_tugs dc h v13 (fun r14 => w_L_canBegin_352 dc h l0 l2 l3 l4 l5 l8 l9 l10 r14 Po 0))) (wIf (l10 = 0) (wA2 h l4 l15 (fun r31 => wDer r31 (fun q32 => wAI h 2 q32 5 (fun v33 => wIf (v33 = 0) (wA2 h l4 l15 (fun r34 => wDer r34 (fun q35 => wAI h 2 q35 4 (fun v36 => wIf (v36 = l1) (wA2 h l4 l15 (fun r37 => wDer r37 (fun q38 => wAI h 2 q38 0 (fun v39 => wIf (v39 = l0) (w_L_canBegin_283 dc h l0 l1 l2 l3 l4 l5 l8 l9 l10 l15 Po rec226) (w_L_leaves dc h l3 l4 l15 (fun r40 => wIf (r40 ≤ l2) (w_L_canBegin_283 dc h l0 l1 l2 l3 l4 l5 l8 l9 l10 l15 Po rec226) (wZ 0 (Po 0)))))))) (w_L_canBegin_283 dc h l0 l1 l2 l3 l4 l5 l8 l9 l10 l15 Po rec226))))) (w_L_canBegin_283 dc h l0 l1 l2 l3 l4 l5 l8 l9 l10 l15 Po rec226))))) (w_L_canBegin_283 dc h l0 l1 l2 l3 l4 l5 l8 l9 l10 l15 Po rec226))
def w_L_canBegin_226 (dc : Nat × Nat) (h : XH) (l0 : Int32) (l1 : Int32) (l2 : Int32) (l3 : Int32) (l4 : Nat) (l5 : Nat) (l8 : Nat) (l9 : Nat) (l10 : Int32) (Po : Int32 → Prop) : Int32 → Prop := xloop (w_L_canBegin_226_F dc h l0 l1 l2 l3 l4 l5 l8 l9 l10 Po)
set_option maxRecDepth 100000 in
set_option maxHeartbeats 4000000 in
theorem k_L_canBegin_226 {V : XVT} {X : XC} {l : Launch} (S : xS V X l RL yL_canBegin.name cL_canBegin 17 wsL_canBegin (xRm 1 34 0 0)) (h : XH) (l0 : Int32) (l1 : Int32) (l2 : Int32) (l3 : Int32) (l4 : Nat) (l5 : Nat) (l8 : Nat) (l9 : Nat) (l10 : Int32) (Po : Int32 → Prop) (E : xEnd V cL_canBegin (some .boolean) 0 0 (xRi h Po)) (s0 : Int32) (hw : w_L_canBegin_226 (xdc X) h l0 l1 l2 l3 l4 l5 l8 l9 l10 Po s0) : V 0 0 h 226 [(0, .int l0), (1, .int l1), (2, .int l2), (3, .int l3), (4, .ref l4), (5, .ref l5), (8, .ref l8), (9, .ref l9), (10, .int l10), (15, .int s0)] [] := by
  refine xloop_use (P := fun s : Int32 => V 0 0 h 226 [(0, .int l0), (1, .int l1), (2, .int l2), (3, .int l3), (4, .ref l4), (5, .ref l5), (8, .ref l8), (9, .ref l9), (10, .int l10), (15, .int s)] []) (fun rec226 hr226 s hw => ?_) hw
  obtain ⟨l15, rfl⟩ : ∃ z, z = s := ⟨s, rfl⟩
  refine xr_iload S 9 dL_canBegin_226 rfl ?_
  refine xr_iload_n S 3 dL_canBegin_228 rfl ?_
  refine xw_icmp_ge S 338 dL_canBegin_229 (by decide) hw (fun c hw => ?_) (fun c hw => ?_)
  · refine xr_aload S 6 dL_canBegin_338 rfl ?_
    refine xr_iconst S (2) dL_canBegin_340 (by decide) ?_
    refine xr_iload_n S 0 dL_canBegin_341 rfl ?_
    refine xr_imul S dL_canBegin_342 ?_
    refine xw_iald S 2 dL_canBegin_343 (Or.inr rfl) hw (fun v13 hw => ?_)
    refine xr_callS S [.int v13] [] dL_canBegin_344 (k_L_tugs l (xdc X) h v13 _ hw) gL_canBegin_L_tugs rfl pd_L_tugs ⟨Nat.le_of_ble_eq_true rfl, Nat.le_of_ble_eq_true rfl⟩ rfl (Nat.le_of_ble_eq_true rfl) ⟨Nat.le_of_ble_eq_true rfl, Nat.le_of_ble_eq_true rfl⟩ (fun v9 h16 hv => ?_)
    obtain ⟨r14, rfl, rfl, hw⟩ := hv
    refine xr_istore S [(15, .int r14), (0, .int l0), (1, .int l1), (2, .int l2), (3, .int l3), (4, .ref l4), (5, .ref l5), (8, .ref l8), (9, .ref l9), (10, .int l10)] dL_canBegin_347 (by decide) rfl ?_
    refine xr_iconst S (0) dL_canBegin_349 (by decide) ?_
    refine xr_istore S [(16, .int 0), (15, .int r14), (0, .int l0), (1, .int l1), (2, .int l2), (3, .int l3), (4, .ref l4), (5, .ref l5), (8, .ref l8), (9, .ref l9), (10, .int l10)] dL_canBegin_350 (by decide) rfl ?_
    refine xr_sub S [(0, .int l0), (2, .int l2), (3, .int l3), (4, .ref l4), (5, .ref l5), (8, .ref l8), (9, .ref l9), (10, .int l10), (15, .int r14), (16, .int 0)] [2, 4, 5, 6, 7, 8, 9, 10, 1, 0] rfl ?_
    exact k_L_canBegin_352 S h l0 l2 l3 l4 l5 l8 l9 l10 r14 Po E 0 hw
  · refine xr_iload S 8 dL_canBegin_232 rfl ?_
    refine xw_if_ne S 283 dL_canBegin_234 (by decide) hw (fun c hw => ?_) (fun c hw => ?_)
    · exact k_L_canBegin_283 S h l0 l1 l2 l3 l4 l5 l8 l9 l10 l15 Po E rec226 hr226 hw
    · refine xr_aload S 4 dL_canBegin_237 rfl ?_
      refine xr_iload S 9 dL_canBegin_239 rfl ?_
      refine xw_ald2 S dL_canBegin_241 hw (fun r31 hw => ?_)
      refine xr_iconst S (5) dL_canBegin_242 (by decide) ?_
      obtain ⟨q32, hrq32, hwq32⟩ := hw
      subst hrq32
      have hw := hwq32
      refine xw_iald S 2 dL_canBegin_243 (Or.inr rfl) hw (fun v33 hw => ?_)
      refine xw_if_ne S 283 dL_canBegin_244 (by decide) hw (fun c hw => ?_) (fun c hw => ?_)
      · exact k_L_canBegin_283 S h l0 l1 l2 l3 l4 l5 l8 l9 l10 l15 Po E rec226 hr226 hw
      · refine xr_aload S 4 dL_canBegin_247 rfl ?_
        refine xr_iload S 9 dL_canBegin_249 rfl ?_
        refine xw_ald2 S dL_canBegin_251 hw (fun r34 hw => ?_)
        refine xr_iconst S (4) dL_canBegin_252 (by decide) ?_
        obtain ⟨q35, hrq35, hwq35⟩ := hw
        subst hrq35
        have hw := hwq35
        refine xw_iald S 2 dL_canBegin_253 (Or.inr rfl) hw (fun v36 hw => ?_)
        refine xr_iload_n S 1 dL_canBegin_254 rfl ?_
        refine xw_icmp_ne S 283 dL_canBegin_255 (by decide) hw (fun c hw => ?_) (fun c hw => ?_)
        · exact k_L_canBegin_283 S h l0 l1 l2 l3 l4 l5 l8 l9 l10 l15 Po E rec226 hr226 hw
        · refine xr_aload S 4 dL_canBegin_258 rfl ?_
          refine xr_iload S 9 dL_canBegin_260 rfl ?_
          refine xw_ald2 S dL_canBegin_262 hw (fun r37 hw => ?_)
          refine xr_iconst S (0) dL_canBegin_263 (by decide) ?_
          obtain ⟨q38, hrq38, hwq38⟩ := hw
          subst hrq38
          have hw := hwq38
          refine xw_iald S 2 dL_canBegin_264 (Or.inr rfl) hw (fun v39 hw => ?_)
          refine xr_iload_n S 0 dL_canBegin_265 rfl ?_
          refine xw_icmp_eq S 283 dL_canBegin_266 (by decide) hw (fun c hw => ?_) (fun c hw => ?_)
          · exact k_L_canBegin_283 S h l0 l1 l2 l3 l4 l5 l8 l9 l10 l15 Po E rec226 hr226 hw
          · refine xr_iload_n S 3 dL_canBegin_269 rfl ?_
            refine xr_aload S 4 dL_canBegin_270 rfl ?_
            refine xr_iload S 9 dL_canBegin_272 rfl ?_
            refine xr_callS S [.int l3, .ref l4, .int l15] [] dL_canBegin_274 (k_L_leaves l (xdc X) h l3 l4 l15 _ hw) gL_canBegin_L_leaves rfl pd_L_leaves ⟨Nat.le_of_ble_eq_true rfl, Nat.le_of_ble_eq_true rfl⟩ rfl (Nat.le_of_ble_eq_true rfl) ⟨Nat.le_of_ble_eq_true rfl, Nat.le_of_ble_eq_true rfl⟩ (fun v9 h42 hv => ?_)
            obtain ⟨r40, rfl, rfl, hw⟩ := hv
            refine xr_iload_n S 2 dL_canBegin_277 rfl ?_
            refine xw_icmp_le S 283 dL_canBegin_278 (by decide) hw (fun c hw => ?_) (fun c hw => ?_)
            · exact k_L_canBegin_283 S h l0 l1 l2 l3 l4 l5 l8 l9 l10 l15 Po E rec226 hr226 hw
            · refine xr_iconst S (0) dL_canBegin_281 (by decide) ?_
              obtain ⟨hz, hw⟩ := hw
              exact E.2.1 _ _ _ _ _ _ rfl hz dL_canBegin_282 ⟨_, rfl, rfl, hw⟩ (Nat.le_of_ble_eq_true rfl) (Nat.le_of_ble_eq_true rfl)
def w_L_canBegin_223 (dc : Nat × Nat) (h : XH) (l0 : Int32) (l1 : Int32) (l2 : Int32) (l3 : Int32) (l4 : Nat) (l5 : Nat) (l8 : Nat) (l9 : Nat) (l10 : Int32) (Po : Int32 → Prop) : Prop :=
  w_L_canBegin_226 dc h l0 l1 l2 l3 l4 l5 l8 l9 l10 Po 0
set_option maxRecDepth 100000 in
set_option maxHeartbeats 4000000 in
theorem k_L_canBegin_223 {V : XVT} {X : XC} {l : Launch} (S : xS V X l RL yL_canBegin.name cL_canBegin 17 wsL_canBegin (xRm 1 34 0 0)) (h : XH) (l0 : Int32) (l1 : Int32) (l2 : Int32) (l3 : Int32) (l4 : Nat) (l5 : Nat) (l8 : Nat) (l9 : Nat) (l10 : Int32) (Po : Int32 → Prop) (E : xEnd V cL_canBegin (some .boolean) 0 0 (xRi h Po)) (hw : w_L_canBegin_223 (xdc X) h l0 l1 l2 l3 l4 l5 l8 l9 l10 Po) : V 0 0 h 223 [(0, .int l0), (1, .int l1), (2, .int l2), (3, .int l3), (4, .ref l4), (5, .ref l5), (8, .ref l8), (9, .ref l9), (10, .int l10)] [] := by
  refine xr_iconst S (0) dL_canBegin_223 (by decide) ?_
  refine xr_istore S [(15, .int 0), (0, .int l0), (1, .int l1), (2, .int l2), (3, .int l3), (4, .ref l4), (5, .ref l5), (8, .ref l8), (9, .ref l9), (10, .int l10)] dL_canBegin_224 (by decide) rfl ?_
  refine xr_sub S [(0, .int l0), (1, .int l1), (2, .int l2), (3, .int l3), (4, .ref l4), (5, .ref l5), (8, .ref l8), (9, .ref l9), (10, .int l10), (15, .int 0)] [1, 2, 3, 4, 5, 6, 7, 8, 9, 0] rfl ?_
  exact k_L_canBegin_226 S h l0 l1 l2 l3 l4 l5 l8 l9 l10 Po E 0 hw
def w_L_canBegin_190 (dc : Nat × Nat) (h : XH) (l0 : Int32) (l1 : Int32) (l2 : Int32) (l3 : Int32) (l4 : Nat) (l5 : Nat) (l7 : Nat) (l8 : Nat) (l9 : Nat) (l10 : Int32) (l14 : Int32) (t0 : Int32) (t1 : Nat) (t2 : Nat) (t3 : Int32) (Po : Int32 → Prop) : Prop :=
  w_L_height dc h t1 t2 t3 (fun r10 => wIf (l14 ≤ (t0 + r10)) (wIf (l10 = 0) (wAI h 2 l7 (2 * l1) (fun v43 => wAI h 2 l8 (2 * l0) (fun v44 => wIf (v44 ≤ v43) (w_L_canBegin_223 dc h l0 l1 l2 l3 l4 l5 l8 l9 l10 Po) (wZ 0 (Po 0))))) (w_L_canBegin_223 dc h l0 l1 l2 l3 l4 l5 l8 l9 l10 Po)) (wZ 0 (Po 0)))
set_option maxRecDepth 100000 in
set_option maxHeartbeats 4000000 in
theorem k_L_canBegin_190 {V : XVT} {X : XC} {l : Launch} (S : xS V X l RL yL_canBegin.name cL_canBegin 17 wsL_canBegin (xRm 1 34 0 0)) (h : XH) (l0 : Int32) (l1 : Int32) (l2 : Int32) (l3 : Int32) (l4 : Nat) (l5 : Nat) (l7 : Nat) (l8 : Nat) (l9 : Nat) (l10 : Int32) (l14 : Int32) (t0 : Int32) (t1 : Nat) (t2 : Nat) (t3 : Int32) (Po : Int32 → Prop) (E : xEnd V cL_canBegin (some .boolean) 0 0 (xRi h Po)) (hw : w_L_canBegin_190 (xdc X) h l0 l1 l2 l3 l4 l5 l7 l8 l9 l10 l14 t0 t1 t2 t3 Po) : V 0 0 h 190 [(0, .int l0), (1, .int l1), (2, .int l2), (3, .int l3), (4, .ref l4), (5, .ref l5), (7, .ref l7), (8, .ref l8), (9, .ref l9), (10, .int l10), (14, .int l14)] [.int t3, .ref t2, .ref t1, .int t0] := by
  refine xr_callS S [.ref t1, .ref t2, .int t3] [.int t0] dL_canBegin_190 (k_L_height l (xdc X) h t1 t2 t3 _ hw) gL_canBegin_L_height rfl pd_L_height ⟨Nat.le_of_ble_eq_true rfl, Nat.le_of_ble_eq_true rfl⟩ rfl (Nat.le_of_ble_eq_true rfl) ⟨Nat.le_of_ble_eq_true rfl, Nat.le_of_ble_eq_true rfl⟩ (fun v9 h12 hv => ?_)
  obtain ⟨r10, rfl, rfl, hw⟩ := hv
  refine xr_iadd S dL_canBegin_193 ?_
  refine xr_iload S 10 dL_canBegin_194 rfl ?_
  refine xw_icmp_ge S 201 dL_canBegin_196 (by decide) hw (fun c hw => ?_) (fun c hw => ?_)
  · refine xr_iload S 9 dL_canBegin_201 rfl ?_
    refine xw_if_ne S 223 dL_canBegin_203 (by decide) hw (fun c hw => ?_) (fun c hw => ?_)
    · refine xr_sub S [(0, .int l0), (1, .int l1), (2, .int l2), (3, .int l3), (4, .ref l4), (5, .ref l5), (8, .ref l8), (9, .ref l9), (10, .int l10)] [0, 1, 2, 3, 4, 5, 7, 8, 9] rfl ?_
      exact k_L_canBegin_223 S h l0 l1 l2 l3 l4 l5 l8 l9 l10 Po E hw
    · refine xr_aload S 6 dL_canBegin_206 rfl ?_
      refine xr_iconst S (2) dL_canBegin_208 (by decide) ?_
      refine xr_iload_n S 1 dL_canBegin_209 rfl ?_
      refine xr_imul S dL_canBegin_210 ?_
      refine xw_iald S 2 dL_canBegin_211 (Or.inr rfl) hw (fun v43 hw => ?_)
      refine xr_aload S 7 dL_canBegin_212 rfl ?_
      refine xr_iconst S (2) dL_canBegin_214 (by decide) ?_
      refine xr_iload_n S 0 dL_canBegin_215 rfl ?_
      refine xr_imul S dL_canBegin_216 ?_
      refine xw_iald S 2 dL_canBegin_217 (Or.inr rfl) hw (fun v44 hw => ?_)
      refine xw_icmp_ge S 223 dL_canBegin_218 (by decide) hw (fun c hw => ?_) (fun c hw => ?_)
      · refine xr_sub S [(0, .int l0), (1, .int l1), (2, .int l2), (3, .int l3), (4, .ref l4), (5, .ref l5), (8, .ref l8), (9, .ref l9), (10, .int l10)] [0, 1, 2, 3, 4, 5, 7, 8, 9] rfl ?_
        exact k_L_canBegin_223 S h l0 l1 l2 l3 l4 l5 l8 l9 l10 Po E hw
      · refine xr_iconst S (0) dL_canBegin_221 (by decide) ?_
        obtain ⟨hz, hw⟩ := hw
        exact E.2.1 _ _ _ _ _ _ rfl hz dL_canBegin_222 ⟨_, rfl, rfl, hw⟩ (Nat.le_of_ble_eq_true rfl) (Nat.le_of_ble_eq_true rfl)
  · refine xr_iconst S (0) dL_canBegin_199 (by decide) ?_
    obtain ⟨hz, hw⟩ := hw
    exact E.2.1 _ _ _ _ _ _ rfl hz dL_canBegin_200 ⟨_, rfl, rfl, hw⟩ (Nat.le_of_ble_eq_true rfl) (Nat.le_of_ble_eq_true rfl)
def w_L_canBegin_155 (dc : Nat × Nat) (h : XH) (l0 : Int32) (l1 : Int32) (l2 : Int32) (l3 : Int32) (l4 : Nat) (l5 : Nat) (l6 : Nat) (l7 : Nat) (l8 : Nat) (l9 : Nat) (l10 : Int32) (l13 : Int32) (l14 : Int32) (t0 : Int32) (t1 : Nat) (t2 : Nat) (t3 : Int32) (Po : Int32 → Prop) : Prop :=
  w_L_height dc h t1 t2 t3 (fun r6 => wIf ((t0 + r6) < l14) (wZ 0 (Po 0)) (wAI h 2 l7 ((2 * l13) + 1) (fun v9 => wIf (l10 = 0) (w_L_canBegin_190 dc h l0 l1 l2 l3 l4 l5 l7 l8 l9 l10 l14 v9 l5 l6 (l2 + 60) Po) (w_L_canBegin_190 dc h l0 l1 l2 l3 l4 l5 l7 l8 l9 l10 l14 v9 l5 l6 l2 Po))))
set_option maxRecDepth 100000 in
set_option maxHeartbeats 4000000 in
theorem k_L_canBegin_155 {V : XVT} {X : XC} {l : Launch} (S : xS V X l RL yL_canBegin.name cL_canBegin 17 wsL_canBegin (xRm 1 34 0 0)) (h : XH) (l0 : Int32) (l1 : Int32) (l2 : Int32) (l3 : Int32) (l4 : Nat) (l5 : Nat) (l6 : Nat) (l7 : Nat) (l8 : Nat) (l9 : Nat) (l10 : Int32) (l13 : Int32) (l14 : Int32) (t0 : Int32) (t1 : Nat) (t2 : Nat) (t3 : Int32) (Po : Int32 → Prop) (E : xEnd V cL_canBegin (some .boolean) 0 0 (xRi h Po)) (hw : w_L_canBegin_155 (xdc X) h l0 l1 l2 l3 l4 l5 l6 l7 l8 l9 l10 l13 l14 t0 t1 t2 t3 Po) : V 0 0 h 155 [(0, .int l0), (1, .int l1), (2, .int l2), (3, .int l3), (4, .ref l4), (5, .ref l5), (6, .ref l6), (7, .ref l7), (8, .ref l8), (9, .ref l9), (10, .int l10), (13, .int l13), (14, .int l14)] [.int t3, .ref t2, .ref t1, .int t0] := by
  refine xr_callS S [.ref t1, .ref t2, .int t3] [.int t0] dL_canBegin_155 (k_L_height l (xdc X) h t1 t2 t3 _ hw) gL_canBegin_L_height rfl pd_L_height ⟨Nat.le_of_ble_eq_true rfl, Nat.le_of_ble_eq_true rfl⟩ rfl (Nat.le_of_ble_eq_true rfl) ⟨Nat.le_of_ble_eq_true rfl, Nat.le_of_ble_eq_true rfl⟩ (fun v9 h8 hv => ?_)
  obtain ⟨r6, rfl, rfl, hw⟩ := hv
  refine xr_iadd S dL_canBegin_158 ?_
  refine xr_iload S 12 dL_canBegin_159 rfl ?_
  refine xw_icmp_lt S 199 dL_canBegin_161 (by decide) hw (fun c hw => ?_) (fun c hw => ?_)
  · refine xr_iconst S (0) dL_canBegin_199 (by decide) ?_
    obtain ⟨hz, hw⟩ := hw
    exact E.2.1 _ _ _ _ _ _ rfl hz dL_canBegin_200 ⟨_, rfl, rfl, hw⟩ (Nat.le_of_ble_eq_true rfl) (Nat.le_of_ble_eq_true rfl)
  · refine xr_aload S 7 dL_canBegin_164 rfl ?_
    refine xr_iconst S (2) dL_canBegin_166 (by decide) ?_
    refine xr_iload S 11 dL_canBegin_167 rfl ?_
    refine xr_imul S dL_canBegin_169 ?_
    refine xr_iconst S (1) dL_canBegin_170 (by decide) ?_
    refine xr_iadd S dL_canBegin_171 ?_
    refine xw_iald S 2 dL_canBegin_172 (Or.inr rfl) hw (fun v9 hw => ?_)
    refine xr_aload S 5 dL_canBegin_173 rfl ?_
    refine xr_aload S 6 dL_canBegin_175 rfl ?_
    refine xr_iload S 10 dL_canBegin_177 rfl ?_
    refine xw_if_eq S 186 dL_canBegin_179 (by decide) hw (fun c hw => ?_) (fun c hw => ?_)
    · refine xr_iload_n S 2 dL_canBegin_186 rfl ?_
      refine xr_bipush S (60) dL_canBegin_187 (by decide) ?_
      refine xr_iadd S dL_canBegin_189 ?_
      refine xr_sub S [(0, .int l0), (1, .int l1), (2, .int l2), (3, .int l3), (4, .ref l4), (5, .ref l5), (7, .ref l7), (8, .ref l8), (9, .ref l9), (10, .int l10), (14, .int l14)] [0, 1, 2, 3, 4, 5, 7, 8, 9, 10, 12] rfl ?_
      exact k_L_canBegin_190 S h l0 l1 l2 l3 l4 l5 l7 l8 l9 l10 l14 v9 l5 l6 (l2 + 60) Po E hw
    · refine xr_iload_n S 2 dL_canBegin_182 rfl ?_
      refine xr_goto S (tgt := 190) dL_canBegin_183 (by decide) ?_
      refine xr_sub S [(0, .int l0), (1, .int l1), (2, .int l2), (3, .int l3), (4, .ref l4), (5, .ref l5), (7, .ref l7), (8, .ref l8), (9, .ref l9), (10, .int l10), (14, .int l14)] [0, 1, 2, 3, 4, 5, 7, 8, 9, 10, 12] rfl ?_
      exact k_L_canBegin_190 S h l0 l1 l2 l3 l4 l5 l7 l8 l9 l10 l14 v9 l5 l6 l2 Po E hw
def w_L_canBegin_117 (dc : Nat × Nat) (h : XH) (l0 : Int32) (l1 : Int32) (l2 : Int32) (l3 : Int32) (l4 : Nat) (l5 : Nat) (l6 : Nat) (l7 : Nat) (l8 : Nat) (l9 : Nat) (l10 : Int32) (t0 : Int32) (Po : Int32 → Prop) : Prop :=
  wAI h 2 l8 ((2 * l0) + 1) (fun v1 => w_L_need dc h l5 v1 (fun r2 => wAI h 2 l5 5 (fun v5 => wIf (l10 = 0) (w_L_canBegin_155 dc h l0 l1 l2 l3 l4 l5 l6 l7 l8 l9 l10 t0 r2 v5 l5 l6 l2 Po) (w_L_canBegin_155 dc h l0 l1 l2 l3 l4 l5 l6 l7 l8 l9 l10 t0 r2 v5 l5 l6 (l2 + 60) Po))))
set_option maxRecDepth 100000 in
set_option maxHeartbeats 4000000 in
theorem k_L_canBegin_117 {V : XVT} {X : XC} {l : Launch} (S : xS V X l RL yL_canBegin.name cL_canBegin 17 wsL_canBegin (xRm 1 34 0 0)) (h : XH) (l0 : Int32) (l1 : Int32) (l2 : Int32) (l3 : Int32) (l4 : Nat) (l5 : Nat) (l6 : Nat) (l7 : Nat) (l8 : Nat) (l9 : Nat) (l10 : Int32) (t0 : Int32) (Po : Int32 → Prop) (E : xEnd V cL_canBegin (some .boolean) 0 0 (xRi h Po)) (hw : w_L_canBegin_117 (xdc X) h l0 l1 l2 l3 l4 l5 l6 l7 l8 l9 l10 t0 Po) : V 0 0 h 117 [(0, .int l0), (1, .int l1), (2, .int l2), (3, .int l3), (4, .ref l4), (5, .ref l5), (6, .ref l6), (7, .ref l7), (8, .ref l8), (9, .ref l9), (10, .int l10)] [.int t0] := by
  refine xr_istore S [(13, .int t0), (0, .int l0), (1, .int l1), (2, .int l2), (3, .int l3), (4, .ref l4), (5, .ref l5), (6, .ref l6), (7, .ref l7), (8, .ref l8), (9, .ref l9), (10, .int l10)] dL_canBegin_117 (by decide) rfl ?_
  refine xr_aload S 6 dL_canBegin_119 rfl ?_
  refine xr_aload S 9 dL_canBegin_121 rfl ?_
  refine xr_iconst S (2) dL_canBegin_123 (by decide) ?_
  refine xr_iload_n S 1 dL_canBegin_124 rfl ?_
  refine xr_imul S dL_canBegin_125 ?_
  refine xr_iconst S (1) dL_canBegin_126 (by decide) ?_
  refine xr_iadd S dL_canBegin_127 ?_
  refine xw_iald S 2 dL_canBegin_128 (Or.inr rfl) hw (fun v1 hw => ?_)
  refine xr_callS S [.ref l5, .int v1] [] dL_canBegin_129 (k_L_need l (xdc X) h l5 v1 _ hw) gL_canBegin_L_need rfl pd_L_need ⟨Nat.le_of_ble_eq_true rfl, Nat.le_of_ble_eq_true rfl⟩ rfl (Nat.le_of_ble_eq_true rfl) ⟨Nat.le_of_ble_eq_true rfl, Nat.le_of_ble_eq_true rfl⟩ (fun v9 h4 hv => ?_)
  obtain ⟨r2, rfl, rfl, hw⟩ := hv
  refine xr_istore S [(14, .int r2), (13, .int t0), (0, .int l0), (1, .int l1), (2, .int l2), (3, .int l3), (4, .ref l4), (5, .ref l5), (6, .ref l6), (7, .ref l7), (8, .ref l8), (9, .ref l9), (10, .int l10)] dL_canBegin_132 (by decide) rfl ?_
  refine xr_aload S 7 dL_canBegin_134 rfl ?_
  refine xr_iconst S (5) dL_canBegin_136 (by decide) ?_
  refine xw_iald S 2 dL_canBegin_137 (Or.inr rfl) hw (fun v5 hw => ?_)
  refine xr_aload S 7 dL_canBegin_138 rfl ?_
  refine xr_aload S 8 dL_canBegin_140 rfl ?_
  refine xr_iload S 12 dL_canBegin_142 rfl ?_
  refine xw_if_eq S 154 dL_canBegin_144 (by decide) hw (fun c hw => ?_) (fun c hw => ?_)
  · refine xr_iload_n S 4 dL_canBegin_154 rfl ?_
    refine xr_sub S [(0, .int l0), (1, .int l1), (2, .int l2), (3, .int l3), (4, .ref l4), (5, .ref l5), (6, .ref l6), (7, .ref l7), (8, .ref l8), (9, .ref l9), (10, .int l10), (13, .int t0), (14, .int r2)] [2, 3, 4, 5, 6, 7, 8, 9, 10, 11, 12, 1, 0] rfl ?_
    exact k_L_canBegin_155 S h l0 l1 l2 l3 l4 l5 l6 l7 l8 l9 l10 t0 r2 v5 l5 l6 l2 Po E hw
  · refine xr_iload_n S 4 dL_canBegin_147 rfl ?_
    refine xr_bipush S (60) dL_canBegin_148 (by decide) ?_
    refine xr_iadd S dL_canBegin_150 ?_
    refine xr_goto S (tgt := 155) dL_canBegin_151 (by decide) ?_
    refine xr_sub S [(0, .int l0), (1, .int l1), (2, .int l2), (3, .int l3), (4, .ref l4), (5, .ref l5), (6, .ref l6), (7, .ref l7), (8, .ref l8), (9, .ref l9), (10, .int l10), (13, .int t0), (14, .int r2)] [2, 3, 4, 5, 6, 7, 8, 9, 10, 11, 12, 1, 0] rfl ?_
    exact k_L_canBegin_155 S h l0 l1 l2 l3 l4 l5 l6 l7 l8 l9 l10 t0 r2 v5 l5 l6 (l2 + 60) Po E hw
def w_L_canBegin_92 (dc : Nat × Nat) (h : XH) (l0 : Int32) (l1 : Int32) (l2 : Int32) (l3 : Int32) (l4 : Nat) (l5 : Nat) (l6 : Nat) (l7 : Nat) (l8 : Nat) (l9 : Nat) (l10 : Int32) (l11 : Int32) (Po : Int32 → Prop) : Prop :=
  wIf (l2 ≤ 2819) (wIf (l10 = 0) (w_L_canBegin_117 dc h l0 l1 l2 l3 l4 l5 l6 l7 l8 l9 l10 l1 Po) (wA2 h l4 l11 (fun r45 => wDer r45 (fun q46 => wAI h 2 q46 4 (fun v47 => (w_L_canBegin_117 dc h l0 l1 l2 l3 l4 l5 l6 l7 l8 l9 l10 v47 Po)))))) (wZ 0 (Po 0))
set_option maxRecDepth 100000 in
set_option maxHeartbeats 4000000 in
theorem k_L_canBegin_92 {V : XVT} {X : XC} {l : Launch} (S : xS V X l RL yL_canBegin.name cL_canBegin 17 wsL_canBegin (xRm 1 34 0 0)) (h : XH) (l0 : Int32) (l1 : Int32) (l2 : Int32) (l3 : Int32) (l4 : Nat) (l5 : Nat) (l6 : Nat) (l7 : Nat) (l8 : Nat) (l9 : Nat) (l10 : Int32) (l11 : Int32) (Po : Int32 → Prop) (E : xEnd V cL_canBegin (some .boolean) 0 0 (xRi h Po)) (hw : w_L_canBegin_92 (xdc X) h l0 l1 l2 l3 l4 l5 l6 l7 l8 l9 l10 l11 Po) : V 0 0 h 92 [(0, .int l0), (1, .int l1), (2, .int l2), (3, .int l3), (4, .ref l4), (5, .ref l5), (6, .ref l6), (7, .ref l7), (8, .ref l8), (9, .ref l9), (10, .int l10), (11, .int l11)] [] := by
  refine xr_iload_n S 2 dL_canBegin_92 rfl ?_
  refine xr_sipush S (2819) dL_canBegin_93 (by decide) ?_
  refine xw_icmp_le S 101 dL_canBegin_96 (by decide) hw (fun c hw => ?_) (fun c hw => ?_)
  · refine xr_iload S 10 dL_canBegin_101 rfl ?_
    refine xw_if_eq S 116 dL_canBegin_103 (by decide) hw (fun c hw => ?_) (fun c hw => ?_)
    · refine xr_iload_n S 1 dL_canBegin_116 rfl ?_
      refine xr_sub S [(0, .int l0), (1, .int l1), (2, .int l2), (3, .int l3), (4, .ref l4), (5, .ref l5), (6, .ref l6), (7, .ref l7), (8, .ref l8), (9, .ref l9), (10, .int l10)] [0, 1, 2, 3, 4, 5, 6, 7, 8, 9, 10] rfl ?_
      exact k_L_canBegin_117 S h l0 l1 l2 l3 l4 l5 l6 l7 l8 l9 l10 l1 Po E hw
    · refine xr_aload S 4 dL_canBegin_106 rfl ?_
      refine xr_iload S 11 dL_canBegin_108 rfl ?_
      refine xw_ald2 S dL_canBegin_110 hw (fun r45 hw => ?_)
      refine xr_iconst S (4) dL_canBegin_111 (by decide) ?_
      obtain ⟨q46, hrq46, hwq46⟩ := hw
      subst hrq46
      have hw := hwq46
      refine xw_iald S 2 dL_canBegin_112 (Or.inr rfl) hw (fun v47 hw => ?_)
      refine xr_goto S (tgt := 117) dL_canBegin_113 (by decide) ?_
      refine xr_sub S [(0, .int l0), (1, .int l1), (2, .int l2), (3, .int l3), (4, .ref l4), (5, .ref l5), (6, .ref l6), (7, .ref l7), (8, .ref l8), (9, .ref l9), (10, .int l10)] [0, 1, 2, 3, 4, 5, 6, 7, 8, 9, 10] rfl ?_
      exact k_L_canBegin_117 S h l0 l1 l2 l3 l4 l5 l6 l7 l8 l9 l10 v47 Po E hw
  · refine xr_iconst S (0) dL_canBegin_99 (by decide) ?_
    obtain ⟨hz, hw⟩ := hw
    exact E.2.1 _ _ _ _ _ _ rfl hz dL_canBegin_100 ⟨_, rfl, rfl, hw⟩ (Nat.le_of_ble_eq_true rfl) (Nat.le_of_ble_eq_true rfl)
def w_L_canBegin_64 (dc : Nat × Nat) (h : XH) (l0 : Int32) (l1 : Int32) (l2 : Int32) (l3 : Int32) (l4 : Nat) (l5 : Nat) (l6 : Nat) (l7 : Nat) (l8 : Nat) (l9 : Nat) (l10 : Int32) (l11 : Int32) (t0 : Int32) (Po : Int32 → Prop) : Prop :=
  wIf (l10 = t0) (wIf (l11 < 0) (w_L_canBegin_92 dc h l0 l1 l2 l3 l4 l5 l6 l7 l8 l9 l10 l11 Po) (wA2 h l4 l11 (fun r48 => wDer r48 (fun q49 => wAI h 2 q49 1 (fun v50 => wIf (l2 < (v50 + 60)) (wZ 0 (Po 0)) (w_L_canBegin_92 dc h l0 l1 l2 l3 l4 l5 l6 l7 l8 l9 l10 l11 Po)))))) (wZ 0 (Po 0))
set_option maxRecDepth 100000 in
set_option maxHeartbeats 4000000 in
theorem k_L_canBegin_64 {V : XVT} {X : XC} {l : Launch} (S : xS V X l RL yL_canBegin.name cL_canBegin 17 wsL_canBegin (xRm 1 34 0 0)) (h : XH) (l0 : Int32) (l1 : Int32) (l2 : Int32) (l3 : Int32) (l4 : Nat) (l5 : Nat) (l6 : Nat) (l7 : Nat) (l8 : Nat) (l9 : Nat) (l10 : Int32) (l11 : Int32) (t0 : Int32) (Po : Int32 → Prop) (E : xEnd V cL_canBegin (some .boolean) 0 0 (xRi h Po)) (hw : w_L_canBegin_64 (xdc X) h l0 l1 l2 l3 l4 l5 l6 l7 l8 l9 l10 l11 t0 Po) : V 0 0 h 64 [(0, .int l0), (1, .int l1), (2, .int l2), (3, .int l3), (4, .ref l4), (5, .ref l5), (6, .ref l6), (7, .ref l7), (8, .ref l8), (9, .ref l9), (10, .int l10), (11, .int l11)] [.int t0] := by
  refine xr_istore S [(12, .int t0), (0, .int l0), (1, .int l1), (2, .int l2), (3, .int l3), (4, .ref l4), (5, .ref l5), (6, .ref l6), (7, .ref l7), (8, .ref l8), (9, .ref l9), (10, .int l10), (11, .int l11)] dL_canBegin_64 (by decide) rfl ?_
  refine xr_iload S 11 dL_canBegin_66 rfl ?_
  refine xr_iload S 0 dL_canBegin_68 rfl ?_
  refine xw_icmp_ne S 99 dL_canBegin_70 (by decide) hw (fun c hw => ?_) (fun c hw => ?_)
  · refine xr_iconst S (0) dL_canBegin_99 (by decide) ?_
    obtain ⟨hz, hw⟩ := hw
    exact E.2.1 _ _ _ _ _ _ rfl hz dL_canBegin_100 ⟨_, rfl, rfl, hw⟩ (Nat.le_of_ble_eq_true rfl) (Nat.le_of_ble_eq_true rfl)
  · refine xr_iload S 12 dL_canBegin_73 rfl ?_
    refine xw_if_lt S 92 dL_canBegin_75 (by decide) hw (fun c hw => ?_) (fun c hw => ?_)
    · refine xr_sub S [(0, .int l0), (1, .int l1), (2, .int l2), (3, .int l3), (4, .ref l4), (5, .ref l5), (6, .ref l6), (7, .ref l7), (8, .ref l8), (9, .ref l9), (10, .int l10), (11, .int l11)] [1, 2, 3, 4, 5, 6, 7, 8, 9, 10, 11, 12] rfl ?_
      exact k_L_canBegin_92 S h l0 l1 l2 l3 l4 l5 l6 l7 l8 l9 l10 l11 Po E hw
    · refine xr_aload S 5 dL_canBegin_78 rfl ?_
      refine xr_iload S 12 dL_canBegin_80 rfl ?_
      refine xw_ald2 S dL_canBegin_82 hw (fun r48 hw => ?_)
      refine xr_iconst S (1) dL_canBegin_83 (by decide) ?_
      obtain ⟨q49, hrq49, hwq49⟩ := hw
      subst hrq49
      have hw := hwq49
      refine xw_iald S 2 dL_canBegin_84 (Or.inr rfl) hw (fun v50 hw => ?_)
      refine xr_bipush S (60) dL_canBegin_85 (by decide) ?_
      refine xr_iadd S dL_canBegin_87 ?_
      refine xr_iload_n S 3 dL_canBegin_88 rfl ?_
      refine xw_icmp_gt S 99 dL_canBegin_89 (by decide) hw (fun c hw => ?_) (fun c hw => ?_)
      · refine xr_iconst S (0) dL_canBegin_99 (by decide) ?_
        obtain ⟨hz, hw⟩ := hw
        exact E.2.1 _ _ _ _ _ _ rfl hz dL_canBegin_100 ⟨_, rfl, rfl, hw⟩ (Nat.le_of_ble_eq_true rfl) (Nat.le_of_ble_eq_true rfl)
      · refine xr_sub S [(0, .int l0), (1, .int l1), (2, .int l2), (3, .int l3), (4, .ref l4), (5, .ref l5), (6, .ref l6), (7, .ref l7), (8, .ref l8), (9, .ref l9), (10, .int l10), (11, .int l11)] [1, 2, 3, 4, 5, 6, 7, 8, 9, 10, 11, 12] rfl ?_
        exact k_L_canBegin_92 S h l0 l1 l2 l3 l4 l5 l6 l7 l8 l9 l10 l11 Po E hw
def w_L_canBegin_63 (dc : Nat × Nat) (h : XH) (l0 : Int32) (l1 : Int32) (l2 : Int32) (l3 : Int32) (l4 : Nat) (l5 : Nat) (l6 : Nat) (l7 : Nat) (l8 : Nat) (l9 : Nat) (l10 : Int32) (l11 : Int32) (Po : Int32 → Prop) : Prop :=
  w_L_canBegin_64 dc h l0 l1 l2 l3 l4 l5 l6 l7 l8 l9 l10 l11 0 Po
set_option maxRecDepth 100000 in
set_option maxHeartbeats 4000000 in
theorem k_L_canBegin_63 {V : XVT} {X : XC} {l : Launch} (S : xS V X l RL yL_canBegin.name cL_canBegin 17 wsL_canBegin (xRm 1 34 0 0)) (h : XH) (l0 : Int32) (l1 : Int32) (l2 : Int32) (l3 : Int32) (l4 : Nat) (l5 : Nat) (l6 : Nat) (l7 : Nat) (l8 : Nat) (l9 : Nat) (l10 : Int32) (l11 : Int32) (Po : Int32 → Prop) (E : xEnd V cL_canBegin (some .boolean) 0 0 (xRi h Po)) (hw : w_L_canBegin_63 (xdc X) h l0 l1 l2 l3 l4 l5 l6 l7 l8 l9 l10 l11 Po) : V 0 0 h 63 [(0, .int l0), (1, .int l1), (2, .int l2), (3, .int l3), (4, .ref l4), (5, .ref l5), (6, .ref l6), (7, .ref l7), (8, .ref l8), (9, .ref l9), (10, .int l10), (11, .int l11)] [] := by
  refine xr_iconst S (0) dL_canBegin_63 (by decide) ?_
  exact k_L_canBegin_64 S h l0 l1 l2 l3 l4 l5 l6 l7 l8 l9 l10 l11 0 Po E hw
def w_L_canBegin_38 (dc : Nat × Nat) (h : XH) (l0 : Int32) (l1 : Int32) (l2 : Int32) (l3 : Int32) (l4 : Nat) (l5 : Nat) (l6 : Nat) (l7 : Nat) (l8 : Nat) (l9 : Nat) (l10 : Int32) (l11 : Int32) (l12 : Int32) (Po : Int32 → Prop) (rec17 : Int32 × Int32 → Prop) : Prop :=
  rec17 (l11, (l12 + 1))
set_option maxRecDepth 100000 in
set_option maxHeartbeats 4000000 in
theorem k_L_canBegin_38 {V : XVT} {X : XC} {l : Launch} (S : xS V X l RL yL_canBegin.name cL_canBegin 17 wsL_canBegin (xRm 1 34 0 0)) (h : XH) (l0 : Int32) (l1 : Int32) (l2 : Int32) (l3 : Int32) (l4 : Nat) (l5 : Nat) (l6 : Nat) (l7 : Nat) (l8 : Nat) (l9 : Nat) (l10 : Int32) (l11 : Int32) (l12 : Int32) (Po : Int32 → Prop) (E : xEnd V cL_canBegin (some .boolean) 0 0 (xRi h Po)) (rec17 : Int32 × Int32 → Prop) (hr17 : ∀ s : Int32 × Int32, rec17 s → V 0 0 h 17 [(0, .int l0), (1, .int l1), (2, .int l2), (3, .int l3), (4, .ref l4), (5, .ref l5), (6, .ref l6), (7, .ref l7), (8, .ref l8), (9, .ref l9), (10, .int l10), (11, .int s.1), (12, .int s.2)] []) (hw : w_L_canBegin_38 (xdc X) h l0 l1 l2 l3 l4 l5 l6 l7 l8 l9 l10 l11 l12 Po rec17) : V 0 0 h 38 [(0, .int l0), (1, .int l1), (2, .int l2), (3, .int l3), (4, .ref l4), (5, .ref l5), (6, .ref l6), (7, .ref l7), (8, .ref l8), (9, .ref l9), (10, .int l10), (11, .int l11), (12, .int l12)] [] := by
  refine xr_iinc S 12 ((l12 + 1)) [(12, .int (l12 + 1)), (0, .int l0), (1, .int l1), (2, .int l2), (3, .int l3), (4, .ref l4), (5, .ref l5), (6, .ref l6), (7, .ref l7), (8, .ref l8), (9, .ref l9), (10, .int l10), (11, .int l11)] dL_canBegin_38 rfl rfl (by decide) rfl ?_
  refine xr_goto S (tgt := 17) dL_canBegin_41 (by decide) ?_
  refine xr_sub S [(0, .int l0), (1, .int l1), (2, .int l2), (3, .int l3), (4, .ref l4), (5, .ref l5), (6, .ref l6), (7, .ref l7), (8, .ref l8), (9, .ref l9), (10, .int l10), (11, .int l11), (12, .int (l12 + 1))] [1, 2, 3, 4, 5, 6, 7, 8, 9, 10, 11, 12, 0] rfl ?_
  exact hr17 (l11, (l12 + 1)) hw
def w_L_canBegin_17_F (dc : Nat × Nat) (h : XH) (l0 : Int32) (l1 : Int32) (l2 : Int32) (l3 : Int32) (l4 : Nat) (l5 : Nat) (l6 : Nat) (l7 : Nat) (l8 : Nat) (l9 : Nat) (l10 : Int32) (Po : Int32 → Prop) (rec17 : Int32 × Int32 → Prop) : Int32 × Int32 → Prop := fun s => match s with
  | (l11, l12) =>
  wIf (l3 ≤ l12) (wIf (l11 < 0) (w_L_canBegin_63 dc h l0 l1 l2 l3 l4 l5 l6 l7 l8 l9 l10 l11 Po) (wA2 h l4 l11 (fun r51 => wDer r51 (fun q52 => wAI h 2 q52 5 (fun v53 => wIf (v53 = 0) (w_L_canBegin_64 dc h l0 l1 l2 l3 l4 l5 l6 l7 l8 l9 l10 l11 1 Po) (w_L_canBegin_63 dc h l0 l1 l2 l3 l4 l5 l6 l7 l8 l9 l10 l11 Po)))))) (wA2 h l4 l12 (fun r54 => wDer r54 (fun q55 => wAI h 2 q55 0 (fun v56 => wIf (v56 = l0) (w_L_canBegin_38 dc h l0 l1 l2 l3 l4 l5 l6 l7 l8 l9 l10 l12 l12 Po rec17) (w_L_canBegin_38 dc h l0 l1 l2 l3 l4 l5 l6 l7 l8 l9 l10 l11 l12 Po rec17)))))
def w_L_canBegin_17 (dc : Nat × Nat) (h : XH) (l0 : Int32) (l1 : Int32) (l2 : Int32) (l3 : Int32) (l4 : Nat) (l5 : Nat) (l6 : Nat) (l7 : Nat) (l8 : Nat) (l9 : Nat) (l10 : Int32) (Po : Int32 → Prop) : Int32 × Int32 → Prop := xloop (w_L_canBegin_17_F dc h l0 l1 l2 l3 l4 l5 l6 l7 l8 l9 l10 Po)
set_option maxRecDepth 100000 in
set_option maxHeartbeats 4000000 in
theorem k_L_canBegin_17 {V : XVT} {X : XC} {l : Launch} (S : xS V X l RL yL_canBegin.name cL_canBegin 17 wsL_canBegin (xRm 1 34 0 0)) (h : XH) (l0 : Int32) (l1 : Int32) (l2 : Int32) (l3 : Int32) (l4 : Nat) (l5 : Nat) (l6 : Nat) (l7 : Nat) (l8 : Nat) (l9 : Nat) (l10 : Int32) (Po : Int32 → Prop) (E : xEnd V cL_canBegin (some .boolean) 0 0 (xRi h Po)) (s0 : Int32 × Int32) (hw : w_L_canBegin_17 (xdc X) h l0 l1 l2 l3 l4 l5 l6 l7 l8 l9 l10 Po s0) : V 0 0 h 17 [(0, .int l0), (1, .int l1), (2, .int l2), (3, .int l3), (4, .ref l4), (5, .ref l5), (6, .ref l6), (7, .ref l7), (8, .ref l8), (9, .ref l9), (10, .int l10), (11, .int s0.1), (12, .int s0.2)] [] := by
  refine xloop_use (P := fun s : Int32 × Int32 => V 0 0 h 17 [(0, .int l0), (1, .int l1), (2, .int l2), (3, .int l3), (4, .ref l4), (5, .ref l5), (6, .ref l6), (7, .ref l7), (8, .ref l8), (9, .ref l9), (10, .int l10), (11, .int s.1), (12, .int s.2)] []) (fun rec17 hr17 s hw => ?_) hw
  obtain ⟨l11, l12⟩ := s
  try dsimp only
  dsimp only [w_L_canBegin_17_F] at hw
  refine xr_iload S 12 dL_canBegin_17 rfl ?_
  refine xr_iload_n S 3 dL_canBegin_19 rfl ?_
  refine xw_icmp_ge S 44 dL_canBegin_20 (by decide) hw (fun c hw => ?_) (fun c hw => ?_)
  · refine xr_iload S 11 dL_canBegin_44 rfl ?_
    refine xw_if_lt S 63 dL_canBegin_46 (by decide) hw (fun c hw => ?_) (fun c hw => ?_)
    · refine xr_sub S [(0, .int l0), (1, .int l1), (2, .int l2), (3, .int l3), (4, .ref l4), (5, .ref l5), (6, .ref l6), (7, .ref l7), (8, .ref l8), (9, .ref l9), (10, .int l10), (11, .int l11)] [0, 1, 2, 3, 4, 5, 6, 7, 8, 9, 10, 11] rfl ?_
      exact k_L_canBegin_63 S h l0 l1 l2 l3 l4 l5 l6 l7 l8 l9 l10 l11 Po E hw
    · refine xr_aload S 4 dL_canBegin_49 rfl ?_
      refine xr_iload S 11 dL_canBegin_51 rfl ?_
      refine xw_ald2 S dL_canBegin_53 hw (fun r51 hw => ?_)
      refine xr_iconst S (5) dL_canBegin_54 (by decide) ?_
      obtain ⟨q52, hrq52, hwq52⟩ := hw
      subst hrq52
      have hw := hwq52
      refine xw_iald S 2 dL_canBegin_55 (Or.inr rfl) hw (fun v53 hw => ?_)
      refine xw_if_ne S 63 dL_canBegin_56 (by decide) hw (fun c hw => ?_) (fun c hw => ?_)
      · refine xr_sub S [(0, .int l0), (1, .int l1), (2, .int l2), (3, .int l3), (4, .ref l4), (5, .ref l5), (6, .ref l6), (7, .ref l7), (8, .ref l8), (9, .ref l9), (10, .int l10), (11, .int l11)] [0, 1, 2, 3, 4, 5, 6, 7, 8, 9, 10, 11] rfl ?_
        exact k_L_canBegin_63 S h l0 l1 l2 l3 l4 l5 l6 l7 l8 l9 l10 l11 Po E hw
      · refine xr_iconst S (1) dL_canBegin_59 (by decide) ?_
        refine xr_goto S (tgt := 64) dL_canBegin_60 (by decide) ?_
        refine xr_sub S [(0, .int l0), (1, .int l1), (2, .int l2), (3, .int l3), (4, .ref l4), (5, .ref l5), (6, .ref l6), (7, .ref l7), (8, .ref l8), (9, .ref l9), (10, .int l10), (11, .int l11)] [0, 1, 2, 3, 4, 5, 6, 7, 8, 9, 10, 11] rfl ?_
        exact k_L_canBegin_64 S h l0 l1 l2 l3 l4 l5 l6 l7 l8 l9 l10 l11 1 Po E hw
  · refine xr_aload S 4 dL_canBegin_23 rfl ?_
    refine xr_iload S 12 dL_canBegin_25 rfl ?_
    refine xw_ald2 S dL_canBegin_27 hw (fun r54 hw => ?_)
    refine xr_iconst S (0) dL_canBegin_28 (by decide) ?_
    obtain ⟨q55, hrq55, hwq55⟩ := hw
    subst hrq55
    have hw := hwq55
    refine xw_iald S 2 dL_canBegin_29 (Or.inr rfl) hw (fun v56 hw => ?_)
    refine xr_iload_n S 0 dL_canBegin_30 rfl ?_
    refine xw_icmp_ne S 38 dL_canBegin_31 (by decide) hw (fun c hw => ?_) (fun c hw => ?_)
    · exact k_L_canBegin_38 S h l0 l1 l2 l3 l4 l5 l6 l7 l8 l9 l10 l11 l12 Po E rec17 hr17 hw
    · refine xr_iload S 12 dL_canBegin_34 rfl ?_
      refine xr_istore S [(11, .int l12), (0, .int l0), (1, .int l1), (2, .int l2), (3, .int l3), (4, .ref l4), (5, .ref l5), (6, .ref l6), (7, .ref l7), (8, .ref l8), (9, .ref l9), (10, .int l10), (12, .int l12)] dL_canBegin_36 (by decide) rfl ?_
      refine xr_sub S [(0, .int l0), (1, .int l1), (2, .int l2), (3, .int l3), (4, .ref l4), (5, .ref l5), (6, .ref l6), (7, .ref l7), (8, .ref l8), (9, .ref l9), (10, .int l10), (11, .int l12), (12, .int l12)] [1, 2, 3, 4, 5, 6, 7, 8, 9, 10, 11, 0, 12] rfl ?_
      exact k_L_canBegin_38 S h l0 l1 l2 l3 l4 l5 l6 l7 l8 l9 l10 l12 l12 Po E rec17 hr17 hw
def w_L_canBegin_9 (dc : Nat × Nat) (h : XH) (l0 : Int32) (l1 : Int32) (l2 : Int32) (l3 : Int32) (l4 : Nat) (l5 : Nat) (l6 : Nat) (l7 : Nat) (l8 : Nat) (l9 : Nat) (t0 : Int32) (Po : Int32 → Prop) : Prop :=
  w_L_canBegin_17 dc h l0 l1 l2 l3 l4 l5 l6 l7 l8 l9 t0 Po ((-1), 0)
set_option maxRecDepth 100000 in
set_option maxHeartbeats 4000000 in
theorem k_L_canBegin_9 {V : XVT} {X : XC} {l : Launch} (S : xS V X l RL yL_canBegin.name cL_canBegin 17 wsL_canBegin (xRm 1 34 0 0)) (h : XH) (l0 : Int32) (l1 : Int32) (l2 : Int32) (l3 : Int32) (l4 : Nat) (l5 : Nat) (l6 : Nat) (l7 : Nat) (l8 : Nat) (l9 : Nat) (t0 : Int32) (Po : Int32 → Prop) (E : xEnd V cL_canBegin (some .boolean) 0 0 (xRi h Po)) (hw : w_L_canBegin_9 (xdc X) h l0 l1 l2 l3 l4 l5 l6 l7 l8 l9 t0 Po) : V 0 0 h 9 [(0, .int l0), (1, .int l1), (2, .int l2), (3, .int l3), (4, .ref l4), (5, .ref l5), (6, .ref l6), (7, .ref l7), (8, .ref l8), (9, .ref l9)] [.int t0] := by
  refine xr_istore S [(10, .int t0), (0, .int l0), (1, .int l1), (2, .int l2), (3, .int l3), (4, .ref l4), (5, .ref l5), (6, .ref l6), (7, .ref l7), (8, .ref l8), (9, .ref l9)] dL_canBegin_9 (by decide) rfl ?_
  refine xr_iconst S (-1) dL_canBegin_11 (by decide) ?_
  refine xr_istore S [(11, .int (-1)), (10, .int t0), (0, .int l0), (1, .int l1), (2, .int l2), (3, .int l3), (4, .ref l4), (5, .ref l5), (6, .ref l6), (7, .ref l7), (8, .ref l8), (9, .ref l9)] dL_canBegin_12 (by decide) rfl ?_
  refine xr_iconst S (0) dL_canBegin_14 (by decide) ?_
  refine xr_istore S [(12, .int 0), (11, .int (-1)), (10, .int t0), (0, .int l0), (1, .int l1), (2, .int l2), (3, .int l3), (4, .ref l4), (5, .ref l5), (6, .ref l6), (7, .ref l7), (8, .ref l8), (9, .ref l9)] dL_canBegin_15 (by decide) rfl ?_
  refine xr_sub S [(0, .int l0), (1, .int l1), (2, .int l2), (3, .int l3), (4, .ref l4), (5, .ref l5), (6, .ref l6), (7, .ref l7), (8, .ref l8), (9, .ref l9), (10, .int t0), (11, .int (-1)), (12, .int 0)] [3, 4, 5, 6, 7, 8, 9, 10, 11, 12, 2, 1, 0] rfl ?_
  exact k_L_canBegin_17 S h l0 l1 l2 l3 l4 l5 l6 l7 l8 l9 t0 Po E ((-1), 0) hw
def w_L_canBegin (dc : Nat × Nat) (h : XH) (l0 : Int32) (l1 : Int32) (l2 : Int32) (l3 : Int32) (l4 : Nat) (l5 : Nat) (l6 : Nat) (l7 : Nat) (l8 : Nat) (l9 : Nat) (Po : Int32 → Prop) : Prop :=
  wIf (0 ≤ l1) (w_L_canBegin_9 dc h l0 l1 l2 l3 l4 l5 l6 l7 l8 l9 0 Po) (w_L_canBegin_9 dc h l0 l1 l2 l3 l4 l5 l6 l7 l8 l9 1 Po)
set_option maxRecDepth 100000 in
set_option maxHeartbeats 4000000 in
theorem k_L_canBegin (l : Launch) (dc : Nat × Nat) (h : XH) (l0 : Int32) (l1 : Int32) (l2 : Int32) (l3 : Int32) (l4 : Nat) (l5 : Nat) (l6 : Nat) (l7 : Nat) (l8 : Nat) (l9 : Nat) (Po : Int32 → Prop) (hw : w_L_canBegin dc h l0 l1 l2 l3 l4 l5 l6 l7 l8 l9 Po) : xM l dc yL_canBegin wsL_canBegin 1 34 0 0 [.int l0, .int l1, .int l2, .int l3, .ref l4, .ref l5, .ref l6, .ref l7, .ref l8, .ref l9] h (xRi h Po) := by
  refine xM_of [(0, .int l0), (1, .int l1), (2, .int l2), (3, .int l3), (4, .ref l4), (5, .ref l5), (6, .ref l6), (7, .ref l7), (8, .ref l8), (9, .ref l9)] (own := RL) (cc := cL_canBegin) (nL := 17) (ret := (some .boolean)) (by decide +kernel) rfl rfl (Nat.le_of_ble_eq_true rfl) rfl ?_
  intro X V hX S E
  subst hX
  refine xr_iload_n S 1 dL_canBegin_0 rfl ?_
  refine xw_if_ge S 8 dL_canBegin_1 (by decide) hw (fun c hw => ?_) (fun c hw => ?_)
  · refine xr_iconst S (0) dL_canBegin_8 (by decide) ?_
    exact k_L_canBegin_9 S h l0 l1 l2 l3 l4 l5 l6 l7 l8 l9 0 Po E hw
  · refine xr_iconst S (1) dL_canBegin_4 (by decide) ?_
    refine xr_goto S (tgt := 9) dL_canBegin_5 (by decide) ?_
    exact k_L_canBegin_9 S h l0 l1 l2 l3 l4 l5 l6 l7 l8 l9 1 Po E hw
theorem m_L_told_0 : Cond.classLink RL 79 "java/lang/IllegalStateException" ∈ wsL_told := by decide +kernel
def w_L_told (dc : Nat × Nat) (h : XH) (l0 : Nat) (l1 : Int32) (l2 : Int32) (l3 : Int32) (Po : Int32 → XH → Prop) : Prop :=
  wO h l0 7 ( w_X6_book dc h l0 l1 l2 l3 (fun r3 h4 => Po r3 h4) (fun E h9 => (E = "java/lang/IllegalStateException" ∧ Po (-3) h9)))
set_option maxRecDepth 100000 in
set_option maxHeartbeats 4000000 in
theorem k_L_told (l : Launch) (hfl : l.stackTraces = false) (dc : Nat × Nat) (h : XH) (l0 : Nat) (l1 : Int32) (l2 : Int32) (l3 : Int32) (Po : Int32 → XH → Prop) (hw : w_L_told dc h l0 l1 l2 l3 Po) : xMW l dc yL_told wsL_told 10 219 7 99 [.ref l0, .int l1, .int l2, .int l3] h (xPi Po) := by
  refine xMW_of [(0, .ref l0), (1, .int l1), (2, .int l2), (3, .int l3)] (own := RL) (cc := cL_told) (nL := 5) (ret := (some .int)) (by decide +kernel) rfl rfl (Nat.le_of_ble_eq_true rfl) rfl ?_
  intro X V VX hX S2 E CC
  subst hX
  have S := S2.S
  refine xr_aload_n S 0 dL_told_0 rfl ?_
  refine xr_iload_n S 1 dL_told_1 rfl ?_
  refine xr_iload_n S 2 dL_told_2 rfl ?_
  refine xr_iload_n S 3 dL_told_3 rfl ?_
  obtain ⟨e1, hw⟩ := hw
  obtain ⟨f2, f2x⟩ := id e1
  refine xr_callVX S2 7 [.int l1, .int l2, .int l3] [] dL_told_4 (k_X6_book l hfl (xdc X) h l0 l1 l2 l3 _ _ hw) gL_told_X6_book rfl pd_X6_book ⟨Nat.le_of_ble_eq_true rfl, Nat.le_of_ble_eq_true rfl⟩ rfl (Nat.le_of_ble_eq_true rfl) ⟨Nat.le_of_ble_eq_true rfl, Nat.le_of_ble_eq_true rfl⟩ f2x rfl (fun E1 h9 hx => ?_) (fun v9 h4 hv => ?_)
  · obtain ⟨rfl, hw⟩ := hx
    · refine CC _ _ _ _ _ _ "java/lang/IllegalStateException" [] [] (0, 7, 8, 79) rfl (fun z hz => absurd hz List.not_mem_nil) (by decide) (by decide) m_L_told_0 (by decide) (fun q => ?_)
      refine xr_astore S [(4, .ref q), (0, .ref l0), (1, .int l1), (2, .int l2), (3, .int l3)] dL_told_8 (by decide) rfl ?_
      refine xr_bipush S (-3) dL_told_10 (by decide) ?_
      exact E.1 _ _ _ _ _ _ rfl dL_told_12 ⟨_, rfl, hw⟩ (Nat.le_of_ble_eq_true rfl) (Nat.le_of_ble_eq_true rfl)
  obtain ⟨r3, rfl, hw⟩ := hv
  exact E.1 _ _ _ _ _ _ rfl dL_told_7 ⟨_, rfl, hw⟩ (Nat.le_of_ble_eq_true rfl) (Nat.le_of_ble_eq_true rfl)
theorem in_L_law_X6 : ∀ w ∈ wsX60, w ∈ wsL_law := by decide +kernel
theorem m_L_law_1 : Cond.classLink RL 20 RX6 ∈ wsL_law := by decide +kernel
theorem m_L_law_2 : Cond.instantiable RX6 8 ∈ wsL_law := by decide +kernel
theorem m_L_law_3 : Cond.initialized RX6 ∈ wsL_law := by decide +kernel
theorem m_L_law_4 : Cond.methodLink RL 94 yX6_init ∈ wsL_law := by decide +kernel
theorem m_L_law_5 : Cond.instanceMethod yX6_init ∈ wsL_law := by decide +kernel
theorem m_L_law_6 : Cond.arrayClass .int ∈ wsL_law := by decide +kernel
theorem m_L_law_7 : Cond.classLink RL 99 "[I" ∈ wsL_law := by decide +kernel
def w_L_law_503 (dc : Nat × Nat) (h : XH) (l1 : Nat) (l6 : Nat) (l7 : Nat) (l8 : Int32) (l10 : Int32) (l11 : Int32) (l12 : Int32) (l13 : Int32) (Po : Int32 → XH → Prop) (rec371 : Int32 → Prop) (rec446 : Int32 × Int32 → Prop) : Prop :=
  rec446 (l12, (l13 + 1))
set_option maxRecDepth 100000 in
set_option maxHeartbeats 4000000 in
theorem k_L_law_503 {V : XVT} {X : XC} {l : Launch} (hfl : l.stackTraces = false) {nm : String} (S : xS V X l RL nm cL_law 18 wsL_law room_1) (h : XH) (l1 : Nat) (l6 : Nat) (l7 : Nat) (l8 : Int32) (l10 : Int32) (l11 : Int32) (l12 : Int32) (l13 : Int32) (Po : Int32 → XH → Prop) (E : xEnd V cL_law (some .boolean) 600130 7301080 (xPi Po)) (rec371 : Int32 → Prop) (rec446 : Int32 × Int32 → Prop) (hr371 : ∀ s : Int32, rec371 s → V 285 3089 h 371 [(1, .ref l1), (6, .ref l6), (7, .ref l7), (8, .int l8), (10, .int s)] []) (hr446 : ∀ s : Int32 × Int32, rec446 s → V 285 3089 h 446 [(1, .ref l1), (6, .ref l6), (7, .ref l7), (8, .int l8), (10, .int l10), (11, .int l11), (12, .int s.1), (13, .int s.2)] []) (hw : w_L_law_503 (xdc X) h l1 l6 l7 l8 l10 l11 l12 l13 Po rec371 rec446) : V 285 3089 h 503 [(1, .ref l1), (6, .ref l6), (7, .ref l7), (8, .int l8), (10, .int l10), (11, .int l11), (12, .int l12), (13, .int l13)] [] := by
  refine xr_iinc S 7 ((l13 + 1)) [(13, .int (l13 + 1)), (1, .ref l1), (6, .ref l6), (7, .ref l7), (8, .int l8), (10, .int l10), (11, .int l11), (12, .int l12)] dL_law_503 rfl rfl (by decide) rfl ?_
  refine xr_goto S (tgt := 446) dL_law_506 (by decide) ?_
  refine xr_sub S [(1, .ref l1), (6, .ref l6), (7, .ref l7), (8, .int l8), (10, .int l10), (11, .int l11), (12, .int l12), (13, .int (l13 + 1))] [1, 2, 3, 4, 5, 6, 7, 0] rfl ?_
  exact hr446 (l12, (l13 + 1)) hw
def w_L_law_446_F (dc : Nat × Nat) (h : XH) (l1 : Nat) (l6 : Nat) (l7 : Nat) (l8 : Int32) (l10 : Int32) (l11 : Int32) (Po : Int32 → XH → Prop) (rec371 : Int32 → Prop) (rec446 : Int32 × Int32 → Prop) : Int32 × Int32 → Prop := fun s => match s with
  | (l12, l13) =>
  wIf (l8 ≤ l13) (wIf (l12 = l11) (rec371 (l10 + 13)) (wZ 0 (Po 0 h))) (wA2 h l7 l13 (fun r28 => wDer r28 (fun q29 => wAI h 2 q29 5 (fun v30 => wIf (v30 = 0) (wA2 h l7 l13 (fun r31 => wDer r31 (fun q32 => wAI h 2 q32 1 (fun v33 => wIf (l10 < v33) (w_L_law_503 dc h l1 l6 l7 l8 l10 l11 l12 l13 Po rec371 rec446) (w_L_leaves dc h l8 l7 l13 (fun r34 => wIf (r34 ≤ l10) (w_L_law_503 dc h l1 l6 l7 l8 l10 l11 l12 l13 Po rec371 rec446) (wA2 h l7 l13 (fun r37 => wDer r37 (fun q38 => wAI h 2 q38 0 (fun v39 => (w_L_law_503 dc h l1 l6 l7 l8 l10 l11 (l12 ||| (1 <<< (v39 &&& 31))) l13 Po rec371 rec446))))))))))) (w_L_law_503 dc h l1 l6 l7 l8 l10 l11 l12 l13 Po rec371 rec446)))))
def w_L_law_446 (dc : Nat × Nat) (h : XH) (l1 : Nat) (l6 : Nat) (l7 : Nat) (l8 : Int32) (l10 : Int32) (l11 : Int32) (Po : Int32 → XH → Prop) (rec371 : Int32 → Prop) : Int32 × Int32 → Prop := xloop (w_L_law_446_F dc h l1 l6 l7 l8 l10 l11 Po rec371)
set_option maxRecDepth 100000 in
set_option maxHeartbeats 4000000 in
theorem k_L_law_446 {V : XVT} {X : XC} {l : Launch} (hfl : l.stackTraces = false) {nm : String} (S : xS V X l RL nm cL_law 18 wsL_law room_1) (h : XH) (l1 : Nat) (l6 : Nat) (l7 : Nat) (l8 : Int32) (l10 : Int32) (l11 : Int32) (Po : Int32 → XH → Prop) (E : xEnd V cL_law (some .boolean) 600130 7301080 (xPi Po)) (rec371 : Int32 → Prop) (hr371 : ∀ s : Int32, rec371 s → V 285 3089 h 371 [(1, .ref l1), (6, .ref l6), (7, .ref l7), (8, .int l8), (10, .int s)] []) (s0 : Int32 × Int32) (hw : w_L_law_446 (xdc X) h l1 l6 l7 l8 l10 l11 Po rec371 s0) : V 285 3089 h 446 [(1, .ref l1), (6, .ref l6), (7, .ref l7), (8, .int l8), (10, .int l10), (11, .int l11), (12, .int s0.1), (13, .int s0.2)] [] := by
  refine xloop_use (P := fun s : Int32 × Int32 => V 285 3089 h 446 [(1, .ref l1), (6, .ref l6), (7, .ref l7), (8, .int l8), (10, .int l10), (11, .int l11), (12, .int s.1), (13, .int s.2)] []) (fun rec446 hr446 s hw => ?_) hw
  obtain ⟨l12, l13⟩ := s
  try dsimp only
  dsimp only [w_L_law_446_F] at hw
  refine xr_iload S 7 dL_law_446 rfl ?_
  refine xr_iload S 3 dL_law_448 rfl ?_
  refine xw_icmp_ge S 509 dL_law_450 (by decide) hw (fun c hw => ?_) (fun c hw => ?_)
  · refine xr_iload S 6 dL_law_509 rfl ?_
    refine xr_iload S 5 dL_law_511 rfl ?_
    refine xw_icmp_eq S 518 dL_law_513 (by decide) hw (fun c hw => ?_) (fun c hw => ?_)
    · refine xr_iinc S 4 ((l10 + 13)) [(10, .int (l10 + 13)), (1, .ref l1), (6, .ref l6), (7, .ref l7), (8, .int l8), (11, .int l11), (12, .int l12), (13, .int l13)] dL_law_518 rfl rfl (by decide) rfl ?_
      refine xr_goto S (tgt := 371) dL_law_521 (by decide) ?_
      refine xr_sub S [(1, .ref l1), (6, .ref l6), (7, .ref l7), (8, .int l8), (10, .int (l10 + 13))] [1, 2, 3, 4, 0] rfl ?_
      exact hr371 (l10 + 13) hw
    · refine xr_iconst S (0) dL_law_516 (by decide) ?_
      obtain ⟨hz, hw⟩ := hw
      exact E.2.1 _ _ _ _ _ _ rfl hz dL_law_517 ⟨_, rfl, hw⟩ (Nat.le_of_ble_eq_true rfl) (Nat.le_of_ble_eq_true rfl)
  · refine xr_aload S 2 dL_law_453 rfl ?_
    refine xr_iload S 7 dL_law_455 rfl ?_
    refine xw_ald2 S dL_law_457 hw (fun r28 hw => ?_)
    refine xr_iconst S (5) dL_law_458 (by decide) ?_
    obtain ⟨q29, hrq29, hwq29⟩ := hw
    subst hrq29
    have hw := hwq29
    refine xw_iald S 2 dL_law_459 (Or.inr rfl) hw (fun v30 hw => ?_)
    refine xw_if_ne S 503 dL_law_460 (by decide) hw (fun c hw => ?_) (fun c hw => ?_)
    · exact k_L_law_503 hfl S h l1 l6 l7 l8 l10 l11 l12 l13 Po E rec371 rec446 hr371 hr446 hw
    · refine xr_aload S 2 dL_law_463 rfl ?_
      refine xr_iload S 7 dL_law_465 rfl ?_
      refine xw_ald2 S dL_law_467 hw (fun r31 hw => ?_)
      refine xr_iconst S (1) dL_law_468 (by decide) ?_
      obtain ⟨q32, hrq32, hwq32⟩ := hw
      subst hrq32
      have hw := hwq32
      refine xw_iald S 2 dL_law_469 (Or.inr rfl) hw (fun v33 hw => ?_)
      refine xr_iload S 4 dL_law_470 rfl ?_
      refine xw_icmp_gt S 503 dL_law_472 (by decide) hw (fun c hw => ?_) (fun c hw => ?_)
      · exact k_L_law_503 hfl S h l1 l6 l7 l8 l10 l11 l12 l13 Po E rec371 rec446 hr371 hr446 hw
      · refine xr_iload S 4 dL_law_475 rfl ?_
        refine xr_iload S 3 dL_law_477 rfl ?_
        refine xr_aload S 2 dL_law_479 rfl ?_
        refine xr_iload S 7 dL_law_481 rfl ?_
        refine xr_callS S [.int l8, .ref l7, .int l13] [.int l10] dL_law_483 (k_L_leaves l (xdc X) h l8 l7 l13 _ hw) gL_law_L_leaves rfl pd_L_leaves ⟨Nat.le_of_ble_eq_true rfl, Nat.le_of_ble_eq_true rfl⟩ rfl (Nat.le_of_ble_eq_true rfl) ⟨Nat.le_of_ble_eq_true rfl, Nat.le_of_ble_eq_true rfl⟩ (fun v9 h36 hv => ?_)
        obtain ⟨r34, rfl, rfl, hw⟩ := hv
        refine xw_icmp_ge S 503 dL_law_486 (by decide) hw (fun c hw => ?_) (fun c hw => ?_)
        · exact k_L_law_503 hfl S h l1 l6 l7 l8 l10 l11 l12 l13 Po E rec371 rec446 hr371 hr446 hw
        · refine xr_iload S 6 dL_law_489 rfl ?_
          refine xr_iconst S (1) dL_law_491 (by decide) ?_
          refine xr_aload S 2 dL_law_492 rfl ?_
          refine xr_iload S 7 dL_law_494 rfl ?_
          refine xw_ald2 S dL_law_496 hw (fun r37 hw => ?_)
          refine xr_iconst S (0) dL_law_497 (by decide) ?_
          obtain ⟨q38, hrq38, hwq38⟩ := hw
          subst hrq38
          have hw := hwq38
          refine xw_iald S 2 dL_law_498 (Or.inr rfl) hw (fun v39 hw => ?_)
          refine xr_ishl S dL_law_499 ?_
          refine xr_ior S dL_law_500 ?_
          refine xr_istore S [(12, .int (l12 ||| (1 <<< (v39 &&& 31)))), (1, .ref l1), (6, .ref l6), (7, .ref l7), (8, .int l8), (10, .int l10), (11, .int l11), (13, .int l13)] dL_law_501 (by decide) rfl ?_
          refine xr_sub S [(1, .ref l1), (6, .ref l6), (7, .ref l7), (8, .int l8), (10, .int l10), (11, .int l11), (12, .int (l12 ||| (1 <<< (v39 &&& 31)))), (13, .int l13)] [1, 2, 3, 4, 5, 6, 0, 7] rfl ?_
          exact k_L_law_503 hfl S h l1 l6 l7 l8 l10 l11 (l12 ||| (1 <<< (v39 &&& 31))) l13 Po E rec371 rec446 hr371 hr446 hw
def w_L_law_434 (dc : Nat × Nat) (h : XH) (l1 : Nat) (l6 : Nat) (l7 : Nat) (l8 : Int32) (l10 : Int32) (l11 : Int32) (l12 : Int32) (Po : Int32 → XH → Prop) (rec371 : Int32 → Prop) (rec385 : Int32 × Int32 → Prop) : Prop :=
  rec385 (l11, (l12 + 1))
set_option maxRecDepth 100000 in
set_option maxHeartbeats 4000000 in
theorem k_L_law_434 {V : XVT} {X : XC} {l : Launch} (hfl : l.stackTraces = false) {nm : String} (S : xS V X l RL nm cL_law 18 wsL_law room_1) (h : XH) (l1 : Nat) (l6 : Nat) (l7 : Nat) (l8 : Int32) (l10 : Int32) (l11 : Int32) (l12 : Int32) (Po : Int32 → XH → Prop) (E : xEnd V cL_law (some .boolean) 600130 7301080 (xPi Po)) (rec371 : Int32 → Prop) (rec385 : Int32 × Int32 → Prop) (hr371 : ∀ s : Int32, rec371 s → V 285 3089 h 371 [(1, .ref l1), (6, .ref l6), (7, .ref l7), (8, .int l8), (10, .int s)] []) (hr385 : ∀ s : Int32 × Int32, rec385 s → V 285 3089 h 385 [(1, .ref l1), (6, .ref l6), (7, .ref l7), (8, .int l8), (10, .int l10), (11, .int s.1), (12, .int s.2)] []) (hw : w_L_law_434 (xdc X) h l1 l6 l7 l8 l10 l11 l12 Po rec371 rec385) : V 285 3089 h 434 [(1, .ref l1), (6, .ref l6), (7, .ref l7), (8, .int l8), (10, .int l10), (11, .int l11), (12, .int l12)] [] := by
  refine xr_iinc S 6 ((l12 + 1)) [(12, .int (l12 + 1)), (1, .ref l1), (6, .ref l6), (7, .ref l7), (8, .int l8), (10, .int l10), (11, .int l11)] dL_law_434 rfl rfl (by decide) rfl ?_
  refine xr_goto S (tgt := 385) dL_law_437 (by decide) ?_
  refine xr_sub S [(1, .ref l1), (6, .ref l6), (7, .ref l7), (8, .int l8), (10, .int l10), (11, .int l11), (12, .int (l12 + 1))] [1, 2, 3, 4, 5, 6, 0] rfl ?_
  exact hr385 (l11, (l12 + 1)) hw
def w_L_law_385_F (dc : Nat × Nat) (h : XH) (l1 : Nat) (l6 : Nat) (l7 : Nat) (l8 : Int32) (l10 : Int32) (Po : Int32 → XH → Prop) (rec371 : Int32 → Prop) (rec385 : Int32 × Int32 → Prop) : Int32 × Int32 → Prop := fun s => match s with
  | (l11, l12) =>
  wAI h 2 l6 1 (fun v27 => wIf (v27 ≤ l12) (w_L_law_446 dc h l1 l6 l7 l8 l10 l11 Po rec371 (0, 0)) (wO h l1 7 ( w_p_X6_occupant dc h l1 l12 l10 (fun r42 => wIf (0 ≤ r42) (wIf (((l11 >>> (r42 &&& 31)) &&& 1) = 1) (wZ 0 (Po 0 h)) (w_L_law_434 dc h l1 l6 l7 l8 l10 (l11 ||| (1 <<< (r42 &&& 31))) l12 Po rec371 rec385)) (w_L_law_434 dc h l1 l6 l7 l8 l10 l11 l12 Po rec371 rec385)))))
def w_L_law_385 (dc : Nat × Nat) (h : XH) (l1 : Nat) (l6 : Nat) (l7 : Nat) (l8 : Int32) (l10 : Int32) (Po : Int32 → XH → Prop) (rec371 : Int32 → Prop) : Int32 × Int32 → Prop := xloop (w_L_law_385_F dc h l1 l6 l7 l8 l10 Po rec371)
set_option maxRecDepth 100000 in
set_option maxHeartbeats 4000000 in
theorem k_L_law_385 {V : XVT} {X : XC} {l : Launch} (hfl : l.stackTraces = false) {nm : String} (S : xS V X l RL nm cL_law 18 wsL_law room_1) (h : XH) (l1 : Nat) (l6 : Nat) (l7 : Nat) (l8 : Int32) (l10 : Int32) (Po : Int32 → XH → Prop) (E : xEnd V cL_law (some .boolean) 600130 7301080 (xPi Po)) (rec371 : Int32 → Prop) (hr371 : ∀ s : Int32, rec371 s → V 285 3089 h 371 [(1, .ref l1), (6, .ref l6), (7, .ref l7), (8, .int l8), (10, .int s)] []) (s0 : Int32 × Int32) (hw : w_L_law_385 (xdc X) h l1 l6 l7 l8 l10 Po rec371 s0) : V 285 3089 h 385 [(1, .ref l1), (6, .ref l6), (7, .ref l7), (8, .int l8), (10, .int l10), (11, .int s0.1), (12, .int s0.2)] [] := by
  refine xloop_use (P := fun s : Int32 × Int32 => V 285 3089 h 385 [(1, .ref l1), (6, .ref l6), (7, .ref l7), (8, .int l8), (10, .int l10), (11, .int s.1), (12, .int s.2)] []) (fun rec385 hr385 s hw => ?_) hw
  obtain ⟨l11, l12⟩ := s
  try dsimp only
  dsimp only [w_L_law_385_F] at hw
  refine xr_iload S 6 dL_law_385 rfl ?_
  refine xr_aload S 1 dL_law_387 rfl ?_
  refine xr_iconst S (1) dL_law_389 (by decide) ?_
  refine xw_iald S 2 dL_law_390 (Or.inr rfl) hw (fun v27 hw => ?_)
  refine xw_icmp_ge S 440 dL_law_391 (by decide) hw (fun c hw => ?_) (fun c hw => ?_)
  · refine xr_iconst S (0) dL_law_440 (by decide) ?_
    refine xr_istore S [(12, .int 0), (1, .ref l1), (6, .ref l6), (7, .ref l7), (8, .int l8), (10, .int l10), (11, .int l11)] dL_law_441 (by decide) rfl ?_
    refine xr_iconst S (0) dL_law_443 (by decide) ?_
    refine xr_istore S [(13, .int 0), (12, .int 0), (1, .ref l1), (6, .ref l6), (7, .ref l7), (8, .int l8), (10, .int l10), (11, .int l11)] dL_law_444 (by decide) rfl ?_
    refine xr_sub S [(1, .ref l1), (6, .ref l6), (7, .ref l7), (8, .int l8), (10, .int l10), (11, .int l11), (12, .int 0), (13, .int 0)] [2, 3, 4, 5, 6, 7, 1, 0] rfl ?_
    exact k_L_law_446 hfl S h l1 l6 l7 l8 l10 l11 Po E rec371 hr371 (0, 0) hw
  · refine xr_aload_n S 0 dL_law_394 rfl ?_
    refine xr_iload S 6 dL_law_395 rfl ?_
    refine xr_iload S 4 dL_law_397 rfl ?_
    obtain ⟨e40, hw⟩ := hw
    obtain ⟨f41, f41x⟩ := id e40
    refine xr_callV S 7 [.int l12, .int l10] [] dL_law_399 (k_p_X6_occupant l (xdc X) h l1 l12 l10 _ hw) gL_law_X6_occupant rfl pd_X6_occupant ⟨Nat.le_of_ble_eq_true rfl, Nat.le_of_ble_eq_true rfl⟩ rfl (Nat.le_of_ble_eq_true rfl) ⟨Nat.le_of_ble_eq_true rfl, Nat.le_of_ble_eq_true rfl⟩ f41x rfl (fun v9 h44 hv => ?_)
    obtain ⟨r42, rfl, rfl, hw⟩ := hv
    refine xr_istore S [(13, .int r42), (1, .ref l1), (6, .ref l6), (7, .ref l7), (8, .int l8), (10, .int l10), (11, .int l11), (12, .int l12)] dL_law_402 (by decide) rfl ?_
    refine xr_iload S 0 dL_law_404 rfl ?_
    refine xw_if_ge S 412 dL_law_406 (by decide) hw (fun c hw => ?_) (fun c hw => ?_)
    · refine xr_iload S 6 dL_law_412 rfl ?_
      refine xr_iload S 0 dL_law_414 rfl ?_
      refine xr_ishr S dL_law_416 ?_
      refine xr_iconst S (1) dL_law_417 (by decide) ?_
      refine xr_iand S dL_law_418 ?_
      refine xr_iconst S (1) dL_law_419 (by decide) ?_
      refine xw_icmp_ne S 425 dL_law_420 (by decide) hw (fun c hw => ?_) (fun c hw => ?_)
      · refine xr_iload S 6 dL_law_425 rfl ?_
        refine xr_iconst S (1) dL_law_427 (by decide) ?_
        refine xr_iload S 0 dL_law_428 rfl ?_
        refine xr_ishl S dL_law_430 ?_
        refine xr_ior S dL_law_431 ?_
        refine xr_istore S [(11, .int (l11 ||| (1 <<< (r42 &&& 31)))), (13, .int r42), (1, .ref l1), (6, .ref l6), (7, .ref l7), (8, .int l8), (10, .int l10), (12, .int l12)] dL_law_432 (by decide) rfl ?_
        refine xr_sub S [(1, .ref l1), (6, .ref l6), (7, .ref l7), (8, .int l8), (10, .int l10), (11, .int (l11 ||| (1 <<< (r42 &&& 31)))), (12, .int l12)] [2, 3, 4, 5, 6, 0, 7] rfl ?_
        exact k_L_law_434 hfl S h l1 l6 l7 l8 l10 (l11 ||| (1 <<< (r42 &&& 31))) l12 Po E rec371 rec385 hr371 hr385 hw
      · refine xr_iconst S (0) dL_law_423 (by decide) ?_
        obtain ⟨hz, hw⟩ := hw
        exact E.2.1 _ _ _ _ _ _ rfl hz dL_law_424 ⟨_, rfl, hw⟩ (Nat.le_of_ble_eq_true rfl) (Nat.le_of_ble_eq_true rfl)
    · refine xr_goto S (tgt := 434) dL_law_409 (by decide) ?_
      refine xr_sub S [(1, .ref l1), (6, .ref l6), (7, .ref l7), (8, .int l8), (10, .int l10), (11, .int l11), (12, .int l12)] [1, 2, 3, 4, 5, 6, 7] rfl ?_
      exact k_L_law_434 hfl S h l1 l6 l7 l8 l10 l11 l12 Po E rec371 rec385 hr371 hr385 hw
def w_L_law_371_F (dc : Nat × Nat) (h : XH) (l1 : Nat) (l6 : Nat) (l7 : Nat) (l8 : Int32) (Po : Int32 → XH → Prop) (rec371 : Int32 → Prop) : Int32 → Prop := fun l10 =>
  wIf (2880 ≤ l10) (wO h l1 7 ( w_X6_count dc h l1 4 (fun r24 => wIf (r24 = l8) (wZ 1 (Po 1 h)) (wZ 0 (Po 0 h))) (fun _ => False))) (w_L_law_385 dc h l1 l6 l7 l8 l10 Po rec371 (0, 0))
def w_L_law_371 (dc : Nat × Nat) (h : XH) (l1 : Nat) (l6 : Nat) (l7 : Nat) (l8 : Int32) (Po : Int32 → XH → Prop) : Int32 → Prop := xloop (w_L_law_371_F dc h l1 l6 l7 l8 Po)
set_option maxRecDepth 100000 in
set_option maxHeartbeats 4000000 in
theorem k_L_law_371 {V : XVT} {X : XC} {l : Launch} (hfl : l.stackTraces = false) {nm : String} (S : xS V X l RL nm cL_law 18 wsL_law room_1) (h : XH) (l1 : Nat) (l6 : Nat) (l7 : Nat) (l8 : Int32) (Po : Int32 → XH → Prop) (E : xEnd V cL_law (some .boolean) 600130 7301080 (xPi Po)) (s0 : Int32) (hw : w_L_law_371 (xdc X) h l1 l6 l7 l8 Po s0) : V 285 3089 h 371 [(1, .ref l1), (6, .ref l6), (7, .ref l7), (8, .int l8), (10, .int s0)] [] := by
  refine xloop_use (P := fun s : Int32 => V 285 3089 h 371 [(1, .ref l1), (6, .ref l6), (7, .ref l7), (8, .int l8), (10, .int s)] []) (fun rec371 hr371 s hw => ?_) hw
  obtain ⟨l10, rfl⟩ : ∃ z, z = s := ⟨s, rfl⟩
  refine xr_iload S 4 dL_law_371 rfl ?_
  refine xr_sipush S (2880) dL_law_373 (by decide) ?_
  refine xw_icmp_ge S 524 dL_law_376 (by decide) hw (fun c hw => ?_) (fun c hw => ?_)
  · refine xr_aload_n S 0 dL_law_524 rfl ?_
    refine xr_iconst S (4) dL_law_525 (by decide) ?_
    obtain ⟨e22, hw⟩ := hw
    obtain ⟨f23, f23x⟩ := id e22
    refine xr_callV0 S 7 [.int 4] [] dL_law_526 (k_X6_count l hfl (xdc X) h l1 4 _ _ hw) gL_law_X6_count rfl pd_X6_count ⟨Nat.le_of_ble_eq_true rfl, Nat.le_of_ble_eq_true rfl⟩ rfl (Nat.le_of_ble_eq_true rfl) ⟨Nat.le_of_ble_eq_true rfl, Nat.le_of_ble_eq_true rfl⟩ f23x rfl (fun E1 h9 hx => hx.2) (fun v9 h26 hv => ?_)
    obtain ⟨r24, rfl, rfl, hw⟩ := hv
    refine xr_iload S 3 dL_law_529 rfl ?_
    refine xw_icmp_ne S 538 dL_law_531 (by decide) hw (fun c hw => ?_) (fun c hw => ?_)
    · refine xr_iconst S (0) dL_law_538 (by decide) ?_
      obtain ⟨hz, hw⟩ := hw
      exact E.2.1 _ _ _ _ _ _ rfl hz dL_law_539 ⟨_, rfl, hw⟩ (Nat.le_of_ble_eq_true rfl) (Nat.le_of_ble_eq_true rfl)
    · refine xr_iconst S (1) dL_law_534 (by decide) ?_
      refine xr_goto S (tgt := 539) dL_law_535 (by decide) ?_
      obtain ⟨hz, hw⟩ := hw
      exact E.2.1 _ _ _ _ _ _ rfl hz dL_law_539 ⟨_, rfl, hw⟩ (Nat.le_of_ble_eq_true rfl) (Nat.le_of_ble_eq_true rfl)
  · refine xr_iconst S (0) dL_law_379 (by decide) ?_
    refine xr_istore S [(11, .int 0), (1, .ref l1), (6, .ref l6), (7, .ref l7), (8, .int l8), (10, .int l10)] dL_law_380 (by decide) rfl ?_
    refine xr_iconst S (0) dL_law_382 (by decide) ?_
    refine xr_istore S [(12, .int 0), (11, .int 0), (1, .ref l1), (6, .ref l6), (7, .ref l7), (8, .int l8), (10, .int l10)] dL_law_383 (by decide) rfl ?_
    refine xr_sub S [(1, .ref l1), (6, .ref l6), (7, .ref l7), (8, .int l8), (10, .int l10), (11, .int 0), (12, .int 0)] [2, 3, 4, 5, 6, 1, 0] rfl ?_
    exact k_L_law_385 hfl S h l1 l6 l7 l8 l10 Po E rec371 hr371 (0, 0) hw
def w_L_law_362 (dc : Nat × Nat) (h : XH) (n9 : Nat) (l0 : Nat) (l1 : Nat) (l2 : Nat) (l3 : Nat) (l4 : Nat) (l5 : Nat) (l6 : Nat) (l7 : Nat) (l8 : Int32) (l9 : Nat) (l10 : Int32) (Po : Int32 → XH → Prop) (rec70 : Nat × XH × Int32 × Int32 → Prop) : Prop :=
  (n9 + 1 ≤ 10 ∧ rec70 (n9 + 1, h, l8, (l10 + 1)))
set_option maxRecDepth 100000 in
set_option maxHeartbeats 4000000 in
theorem k_L_law_362 {V : XVT} {X : XC} {l : Launch} (hfl : l.stackTraces = false) {nm : String} (S : xS V X l RL nm cL_law 18 wsL_law room_1) (h : XH) (n9 : Nat) (hn9 : n9 ≤ 10) (l0 : Nat) (l1 : Nat) (l2 : Nat) (l3 : Nat) (l4 : Nat) (l5 : Nat) (l6 : Nat) (l7 : Nat) (l8 : Int32) (l9 : Nat) (l10 : Int32) (Po : Int32 → XH → Prop) (E : xEnd V cL_law (some .boolean) 600130 7301080 (xPi Po)) (rec70 : Nat × XH × Int32 × Int32 → Prop) (hr70 : ∀ s : Nat × XH × Int32 × Int32, rec70 s → s.1 ≤ 10 → V (105 + 18 * s.1) (1439 + 165 * s.1) s.2.1 70 [(0, .ref l0), (1, .ref l1), (2, .ref l2), (3, .ref l3), (4, .ref l4), (5, .ref l5), (6, .ref l6), (7, .ref l7), (8, .int s.2.2.1), (9, .ref l9), (10, .int s.2.2.2)] []) (hw : w_L_law_362 (xdc X) h n9 l0 l1 l2 l3 l4 l5 l6 l7 l8 l9 l10 Po rec70) : V (123 + 18 * n9) (1604 + 165 * n9) h 362 [(0, .ref l0), (1, .ref l1), (2, .ref l2), (3, .ref l3), (4, .ref l4), (5, .ref l5), (6, .ref l6), (7, .ref l7), (8, .int l8), (9, .ref l9), (10, .int l10)] [] := by
  refine xr_iinc S 10 ((l10 + 1)) [(10, .int (l10 + 1)), (0, .ref l0), (1, .ref l1), (2, .ref l2), (3, .ref l3), (4, .ref l4), (5, .ref l5), (6, .ref l6), (7, .ref l7), (8, .int l8), (9, .ref l9)] dL_law_362 rfl rfl (by decide) rfl ?_
  refine xr_goto S (tgt := 70) dL_law_365 (by decide) ?_
  obtain ⟨hn8, hw⟩ := hw
  refine xr_widen S (k := (105 + 18 * (n9 + 1))) (n := (1439 + 165 * (n9 + 1))) (by omega) (by omega) ?_
  refine xr_sub S [(0, .ref l0), (1, .ref l1), (2, .ref l2), (3, .ref l3), (4, .ref l4), (5, .ref l5), (6, .ref l6), (7, .ref l7), (8, .int l8), (9, .ref l9), (10, .int (l10 + 1))] [1, 2, 3, 4, 5, 6, 7, 8, 9, 10, 0] rfl ?_
  exact hr70 (n9 + 1, h, l8, (l10 + 1)) hw hn8
def w_L_law_203_F (dc : Nat × Nat) (h : XH) (n9 : Nat) (l0 : Nat) (l1 : Nat) (l2 : Nat) (l3 : Nat) (l4 : Nat) (l5 : Nat) (l6 : Nat) (l7 : Nat) (l8 : Int32) (l9 : Nat) (l10 : Int32) (l12 : Int32) (l13 : Int32) (l16 : Int32) (Po : Int32 → XH → Prop) (rec70 : Nat × XH × Int32 × Int32 → Prop) (rec203 : Int32 → Prop) : Int32 → Prop := fun l17 =>
  wIf (l16 ≤ l17) (w_L_canBegin dc h l12 l13 l16 l8 l7 l6 l2 l3 l4 l5 (fun r69 => wIf (r69 = 0) (wZ 0 (Po 0 h)) (wNewI h 2 6 (fun q72 h73 => wSI h73 2 q72 0 l12 (fun h74 => wSI h74 2 q72 1 l16 (fun h75 => wO h75 l1 7 ( w_X6_passage dc h75 l1 l8 2 (fun r78 => wSI h75 2 q72 2 r78 (fun h81 => wO h81 l1 7 ( w_X6_passage dc h81 l1 l8 3 (fun r84 => wSI h81 2 q72 3 r84 (fun h87 => wO h87 l1 7 ( w_X6_passage dc h87 l1 l8 4 (fun r90 => wSI h87 2 q72 4 r90 (fun h93 => wO h93 l1 7 ( w_X6_passage dc h93 l1 l8 5 (fun r96 => wSI h93 2 q72 5 r96 (fun h99 => wS2 h99 l7 l8 q72 (fun h100 => wAI h100 2 l9 l12 (fun v101 => wSI h100 2 l9 l12 (v101 + 1) (fun h102 => wA2 h102 l7 ((l8 + 1) - 1) (fun r103 => wDer r103 (fun q104 => wAI h102 2 q104 5 (fun v105 => wAI h102 2 l9 l12 (fun v106 => wDiv 2 ( wIf (v105 = (1 - (v106 - v106 / 2 * 2))) (w_L_law_362 dc h102 n9 l0 l1 l2 l3 l4 l5 l6 l7 (l8 + 1) l9 l10 Po rec70) (wZ 0 (Po 0 h102)))))))))))) (fun _ => False)))) (fun _ => False)))) (fun _ => False)))) (fun _ => False)))))))) (w_L_canBegin dc h l12 l13 l17 l8 l7 l6 l2 l3 l4 l5 (fun r108 => wIf (r108 = 0) (rec203 (l17 + 1)) (wZ 0 (Po 0 h))))
def w_L_law_203 (dc : Nat × Nat) (h : XH) (n9 : Nat) (l0 : Nat) (l1 : Nat) (l2 : Nat) (l3 : Nat) (l4 : Nat) (l5 : Nat) (l6 : Nat) (l7 : Nat) (l8 : Int32) (l9 : Nat) (l10 : Int32) (l12 : Int32) (l13 : Int32) (l16 : Int32) (Po : Int32 → XH → Prop) (rec70 : Nat × XH × Int32 × Int32 → Prop) : Int32 → Prop := xloop (w_L_law_203_F dc h n9 l0 l1 l2 l3 l4 l5 l6 l7 l8 l9 l10 l12 l13 l16 Po rec70)
set_option maxRecDepth 100000 in
set_option maxHeartbeats 4000000 in
theorem k_L_law_203 {V : XVT} {X : XC} {l : Launch} (hfl : l.stackTraces = false) {nm : String} (S : xS V X l RL nm cL_law 18 wsL_law room_1) (h : XH) (n9 : Nat) (hn9 : n9 ≤ 10) (l0 : Nat) (l1 : Nat) (l2 : Nat) (l3 : Nat) (l4 : Nat) (l5 : Nat) (l6 : Nat) (l7 : Nat) (l8 : Int32) (l9 : Nat) (l10 : Int32) (l12 : Int32) (l13 : Int32) (l16 : Int32) (Po : Int32 → XH → Prop) (E : xEnd V cL_law (some .boolean) 600130 7301080 (xPi Po)) (rec70 : Nat × XH × Int32 × Int32 → Prop) (hr70 : ∀ s : Nat × XH × Int32 × Int32, rec70 s → s.1 ≤ 10 → V (105 + 18 * s.1) (1439 + 165 * s.1) s.2.1 70 [(0, .ref l0), (1, .ref l1), (2, .ref l2), (3, .ref l3), (4, .ref l4), (5, .ref l5), (6, .ref l6), (7, .ref l7), (8, .int s.2.2.1), (9, .ref l9), (10, .int s.2.2.2)] []) (s0 : Int32) (hw : w_L_law_203 (xdc X) h n9 l0 l1 l2 l3 l4 l5 l6 l7 l8 l9 l10 l12 l13 l16 Po rec70 s0) : V (114 + 18 * n9) (1550 + 165 * n9) h 203 [(0, .ref l0), (1, .ref l1), (2, .ref l2), (3, .ref l3), (4, .ref l4), (5, .ref l5), (6, .ref l6), (7, .ref l7), (8, .int l8), (9, .ref l9), (10, .int l10), (12, .int l12), (13, .int l13), (16, .int l16), (17, .int s0)] [] := by
  refine xloop_use (P := fun s : Int32 => V (114 + 18 * n9) (1550 + 165 * n9) h 203 [(0, .ref l0), (1, .ref l1), (2, .ref l2), (3, .ref l3), (4, .ref l4), (5, .ref l5), (6, .ref l6), (7, .ref l7), (8, .int l8), (9, .ref l9), (10, .int l10), (12, .int l12), (13, .int l13), (16, .int l16), (17, .int s)] []) (fun rec203 hr203 s hw => ?_) hw
  obtain ⟨l17, rfl⟩ : ∃ z, z = s := ⟨s, rfl⟩
  refine xr_iload S 14 dL_law_203 rfl ?_
  refine xr_iload S 13 dL_law_205 rfl ?_
  refine xw_icmp_ge S 242 dL_law_207 (by decide) hw (fun c hw => ?_) (fun c hw => ?_)
  · refine xr_iload S 11 dL_law_242 rfl ?_
    refine xr_iload S 12 dL_law_244 rfl ?_
    refine xr_iload S 13 dL_law_246 rfl ?_
    refine xr_iload S 8 dL_law_248 rfl ?_
    refine xr_aload S 7 dL_law_250 rfl ?_
    refine xr_aload S 6 dL_law_252 rfl ?_
    refine xr_aload_n S 2 dL_law_254 rfl ?_
    refine xr_aload_n S 3 dL_law_255 rfl ?_
    refine xr_aload S 4 dL_law_256 rfl ?_
    refine xr_aload S 5 dL_law_258 rfl ?_
    refine xr_callS S [.int l12, .int l13, .int l16, .int l8, .ref l7, .ref l6, .ref l2, .ref l3, .ref l4, .ref l5] [] dL_law_260 (k_L_canBegin l (xdc X) h l12 l13 l16 l8 l7 l6 l2 l3 l4 l5 _ hw) gL_law_L_canBegin rfl pd_L_canBegin ⟨Nat.le_of_ble_eq_true rfl, Nat.le_of_ble_eq_true rfl⟩ rfl (Nat.le_of_ble_eq_true rfl) ⟨by show _ ≤ 600130; omega, by show _ ≤ 7301080; omega⟩ (fun v9 h71 hv => ?_)
    obtain ⟨r69, rfl, rfl, hw⟩ := hv
    refine xw_if_ne S 268 dL_law_263 (by decide) hw (fun c hw => ?_) (fun c hw => ?_)
    · refine xr_aload S 7 dL_law_268 rfl ?_
      refine xr_iload S 8 dL_law_270 rfl ?_
      refine xr_bipush S (6) dL_law_272 (by decide) ?_
      refine xr_newi S 2 dL_law_274 (Or.inr rfl) m_L_law_6 (by decide) (N := 6) (by decide) (by decide) (by show _ ≤ 600130; omega) (by show _ ≤ 7301080; omega) (fun q72 hq => ?_)
      have hw := hw q72 hq
      generalize xup h q72 (.inl (2, 6, .inl (fun _ => 0))) = h73 at hw ⊢
      refine xr_dup S dL_law_276 rfl ?_
      refine xr_iconst S (0) dL_law_277 (by decide) ?_
      refine xr_iload S 11 dL_law_278 rfl ?_
      refine xw_iast S 2 dL_law_280 (Or.inr rfl) hw (fun h74 hw => ?_)
      refine xr_dup S dL_law_281 rfl ?_
      refine xr_iconst S (1) dL_law_282 (by decide) ?_
      refine xr_iload S 13 dL_law_283 rfl ?_
      refine xw_iast S 2 dL_law_285 (Or.inr rfl) hw (fun h75 hw => ?_)
      refine xr_dup S dL_law_286 rfl ?_
      refine xr_iconst S (2) dL_law_287 (by decide) ?_
      refine xr_aload_n S 1 dL_law_288 rfl ?_
      refine xr_iload S 8 dL_law_289 rfl ?_
      refine xr_iconst S (2) dL_law_291 (by decide) ?_
      obtain ⟨e76, hw⟩ := hw
      obtain ⟨f77, f77x⟩ := id e76
      refine xr_callV0 S 7 [.int l8, .int 2] [.int 2, .ref q72, .ref q72, .int l8, .ref l7] dL_law_292 (k_X6_passage l hfl (xdc X) h75 l1 l8 2 _ _ hw) gL_law_X6_passage rfl pd_X6_passage ⟨Nat.le_of_ble_eq_true rfl, Nat.le_of_ble_eq_true rfl⟩ rfl (Nat.le_of_ble_eq_true rfl) ⟨by show _ ≤ 600130; omega, by show _ ≤ 7301080; omega⟩ f77x rfl (fun E1 h9 hx => hx.2) (fun v9 h80 hv => ?_)
      obtain ⟨r78, rfl, rfl, hw⟩ := hv
      refine xw_iast S 2 dL_law_295 (Or.inr rfl) hw (fun h81 hw => ?_)
      refine xr_dup S dL_law_296 rfl ?_
      refine xr_iconst S (3) dL_law_297 (by decide) ?_
      refine xr_aload_n S 1 dL_law_298 rfl ?_
      refine xr_iload S 8 dL_law_299 rfl ?_
      refine xr_iconst S (3) dL_law_301 (by decide) ?_
      obtain ⟨e82, hw⟩ := hw
      obtain ⟨f83, f83x⟩ := id e82
      refine xr_callV0 S 7 [.int l8, .int 3] [.int 3, .ref q72, .ref q72, .int l8, .ref l7] dL_law_302 (k_X6_passage l hfl (xdc X) h81 l1 l8 3 _ _ hw) gL_law_X6_passage rfl pd_X6_passage ⟨Nat.le_of_ble_eq_true rfl, Nat.le_of_ble_eq_true rfl⟩ rfl (Nat.le_of_ble_eq_true rfl) ⟨by show _ ≤ 600130; omega, by show _ ≤ 7301080; omega⟩ f83x rfl (fun E1 h9 hx => hx.2) (fun v9 h86 hv => ?_)
      obtain ⟨r84, rfl, rfl, hw⟩ := hv
      refine xw_iast S 2 dL_law_305 (Or.inr rfl) hw (fun h87 hw => ?_)
      refine xr_dup S dL_law_306 rfl ?_
      refine xr_iconst S (4) dL_law_307 (by decide) ?_
      refine xr_aload_n S 1 dL_law_308 rfl ?_
      refine xr_iload S 8 dL_law_309 rfl ?_
      refine xr_iconst S (4) dL_law_311 (by decide) ?_
      obtain ⟨e88, hw⟩ := hw
      obtain ⟨f89, f89x⟩ := id e88
      refine xr_callV0 S 7 [.int l8, .int 4] [.int 4, .ref q72, .ref q72, .int l8, .ref l7] dL_law_312 (k_X6_passage l hfl (xdc X) h87 l1 l8 4 _ _ hw) gL_law_X6_passage rfl pd_X6_passage ⟨Nat.le_of_ble_eq_true rfl, Nat.le_of_ble_eq_true rfl⟩ rfl (Nat.le_of_ble_eq_true rfl) ⟨by show _ ≤ 600130; omega, by show _ ≤ 7301080; omega⟩ f89x rfl (fun E1 h9 hx => hx.2) (fun v9 h92 hv => ?_)
      obtain ⟨r90, rfl, rfl, hw⟩ := hv
      refine xw_iast S 2 dL_law_315 (Or.inr rfl) hw (fun h93 hw => ?_)
      refine xr_dup S dL_law_316 rfl ?_
      refine xr_iconst S (5) dL_law_317 (by decide) ?_
      refine xr_aload_n S 1 dL_law_318 rfl ?_
      refine xr_iload S 8 dL_law_319 rfl ?_
      refine xr_iconst S (5) dL_law_321 (by decide) ?_
      obtain ⟨e94, hw⟩ := hw
      obtain ⟨f95, f95x⟩ := id e94
      refine xr_callV0 S 7 [.int l8, .int 5] [.int 5, .ref q72, .ref q72, .int l8, .ref l7] dL_law_322 (k_X6_passage l hfl (xdc X) h93 l1 l8 5 _ _ hw) gL_law_X6_passage rfl pd_X6_passage ⟨Nat.le_of_ble_eq_true rfl, Nat.le_of_ble_eq_true rfl⟩ rfl (Nat.le_of_ble_eq_true rfl) ⟨by show _ ≤ 600130; omega, by show _ ≤ 7301080; omega⟩ f95x rfl (fun E1 h9 hx => hx.2) (fun v9 h98 hv => ?_)
      obtain ⟨r96, rfl, rfl, hw⟩ := hv
      refine xw_iast S 2 dL_law_325 (Or.inr rfl) hw (fun h99 hw => ?_)
      refine xw_ast2 S dL_law_326 hw (fun h100 hw => ?_)
      refine xr_iinc S 8 ((l8 + 1)) [(8, .int (l8 + 1)), (0, .ref l0), (1, .ref l1), (2, .ref l2), (3, .ref l3), (4, .ref l4), (5, .ref l5), (6, .ref l6), (7, .ref l7), (9, .ref l9), (10, .int l10), (12, .int l12), (13, .int l13), (16, .int l16), (17, .int l17)] dL_law_327 rfl rfl (by decide) rfl ?_
      refine xr_aload S 9 dL_law_330 rfl ?_
      refine xr_iload S 11 dL_law_332 rfl ?_
      refine xr_dup2 S dL_law_334 rfl rfl ?_
      refine xw_iald S 2 dL_law_335 (Or.inr rfl) hw (fun v101 hw => ?_)
      refine xr_iconst S (1) dL_law_336 (by decide) ?_
      refine xr_iadd S dL_law_337 ?_
      refine xw_iast S 2 dL_law_338 (Or.inr rfl) hw (fun h102 hw => ?_)
      refine xr_aload S 8 dL_law_339 rfl ?_
      refine xr_iload S 0 dL_law_341 rfl ?_
      refine xr_iconst S (1) dL_law_343 (by decide) ?_
      refine xr_isub S dL_law_344 ?_
      refine xw_ald2 S dL_law_345 hw (fun r103 hw => ?_)
      refine xr_iconst S (5) dL_law_346 (by decide) ?_
      obtain ⟨q104, hrq104, hwq104⟩ := hw
      subst hrq104
      have hw := hwq104
      refine xw_iald S 2 dL_law_347 (Or.inr rfl) hw (fun v105 hw => ?_)
      refine xr_iconst S (1) dL_law_348 (by decide) ?_
      refine xr_aload S 9 dL_law_349 rfl ?_
      refine xr_iload S 11 dL_law_351 rfl ?_
      refine xw_iald S 2 dL_law_353 (Or.inr rfl) hw (fun v106 hw => ?_)
      refine xr_iconst S (2) dL_law_354 (by decide) ?_
      obtain ⟨hn107, hw⟩ := hw
      refine xr_irem S dL_law_355 hn107 ?_
      refine xr_isub S dL_law_356 ?_
      refine xw_icmp_eq S 362 dL_law_357 (by decide) hw (fun c hw => ?_) (fun c hw => ?_)
      · refine xr_widen S (k := (123 + 18 * n9)) (n := (1604 + 165 * n9)) (by omega) (by omega) ?_
        refine xr_sub S [(0, .ref l0), (1, .ref l1), (2, .ref l2), (3, .ref l3), (4, .ref l4), (5, .ref l5), (6, .ref l6), (7, .ref l7), (8, .int (l8 + 1)), (9, .ref l9), (10, .int l10)] [1, 2, 3, 4, 5, 6, 7, 8, 0, 9, 10] rfl ?_
        exact k_L_law_362 hfl S h102 n9 hn9 l0 l1 l2 l3 l4 l5 l6 l7 (l8 + 1) l9 l10 Po E rec70 hr70 hw
      · refine xr_iconst S (0) dL_law_360 (by decide) ?_
        obtain ⟨hz, hw⟩ := hw
        exact E.2.1 _ _ _ _ _ _ rfl hz dL_law_361 ⟨_, rfl, hw⟩ (by show _ ≤ 600130; omega) (by show _ ≤ 7301080; omega)
    · refine xr_iconst S (0) dL_law_266 (by decide) ?_
      obtain ⟨hz, hw⟩ := hw
      exact E.2.1 _ _ _ _ _ _ rfl hz dL_law_267 ⟨_, rfl, hw⟩ (by show _ ≤ 600130; omega) (by show _ ≤ 7301080; omega)
  · refine xr_iload S 11 dL_law_210 rfl ?_
    refine xr_iload S 12 dL_law_212 rfl ?_
    refine xr_iload S 14 dL_law_214 rfl ?_
    refine xr_iload S 8 dL_law_216 rfl ?_
    refine xr_aload S 7 dL_law_218 rfl ?_
    refine xr_aload S 6 dL_law_220 rfl ?_
    refine xr_aload_n S 2 dL_law_222 rfl ?_
    refine xr_aload_n S 3 dL_law_223 rfl ?_
    refine xr_aload S 4 dL_law_224 rfl ?_
    refine xr_aload S 5 dL_law_226 rfl ?_
    refine xr_callS S [.int l12, .int l13, .int l17, .int l8, .ref l7, .ref l6, .ref l2, .ref l3, .ref l4, .ref l5] [] dL_law_228 (k_L_canBegin l (xdc X) h l12 l13 l17 l8 l7 l6 l2 l3 l4 l5 _ hw) gL_law_L_canBegin rfl pd_L_canBegin ⟨Nat.le_of_ble_eq_true rfl, Nat.le_of_ble_eq_true rfl⟩ rfl (Nat.le_of_ble_eq_true rfl) ⟨by show _ ≤ 600130; omega, by show _ ≤ 7301080; omega⟩ (fun v9 h110 hv => ?_)
    obtain ⟨r108, rfl, rfl, hw⟩ := hv
    refine xw_if_eq S 236 dL_law_231 (by decide) hw (fun c hw => ?_) (fun c hw => ?_)
    · refine xr_iinc S 14 ((l17 + 1)) [(17, .int (l17 + 1)), (0, .ref l0), (1, .ref l1), (2, .ref l2), (3, .ref l3), (4, .ref l4), (5, .ref l5), (6, .ref l6), (7, .ref l7), (8, .int l8), (9, .ref l9), (10, .int l10), (12, .int l12), (13, .int l13), (16, .int l16)] dL_law_236 rfl rfl (by decide) rfl ?_
      refine xr_goto S (tgt := 203) dL_law_239 (by decide) ?_
      refine xr_widen S (k := (114 + 18 * n9)) (n := (1550 + 165 * n9)) (by omega) (by omega) ?_
      refine xr_sub S [(0, .ref l0), (1, .ref l1), (2, .ref l2), (3, .ref l3), (4, .ref l4), (5, .ref l5), (6, .ref l6), (7, .ref l7), (8, .int l8), (9, .ref l9), (10, .int l10), (12, .int l12), (13, .int l13), (16, .int l16), (17, .int (l17 + 1))] [1, 2, 3, 4, 5, 6, 7, 8, 9, 10, 11, 12, 13, 14, 0] rfl ?_
      exact hr203 (l17 + 1) hw
    · refine xr_iconst S (0) dL_law_234 (by decide) ?_
      obtain ⟨hz, hw⟩ := hw
      exact E.2.1 _ _ _ _ _ _ rfl hz dL_law_235 ⟨_, rfl, hw⟩ (by show _ ≤ 600130; omega) (by show _ ≤ 7301080; omega)
def w_L_law_125 (dc : Nat × Nat) (h : XH) (n9 : Nat) (l0 : Nat) (l1 : Nat) (l2 : Nat) (l3 : Nat) (l4 : Nat) (l5 : Nat) (l6 : Nat) (l7 : Nat) (l8 : Int32) (l9 : Nat) (l10 : Int32) (l11 : Int32) (l12 : Int32) (t0 : Int32) (Po : Int32 → XH → Prop) (rec70 : Nat × XH × Int32 × Int32 → Prop) : Prop :=
  w_L_below dc h (l11 >>> (5 &&& 31)) 1000 (fun r58 => w_L_told dc h l1 l12 t0 r58 (fun r61 h62 => wIf (r61 = (-3)) (wO h62 l1 7 ( w_X6_earliest dc h62 l1 l12 t0 r58 (fun r113 h114 => wIf (r113 = (-1)) (w_L_law_362 dc h114 n9 l0 l1 l2 l3 l4 l5 l6 l7 l8 l9 l10 Po rec70) (wZ 0 (Po 0 h114))) (fun _ _ => False))) (wO h62 l1 7 ( w_X6_passage dc h62 l1 r61 1 (fun r66 => wIf (r61 = l8) (wIf (r58 ≤ r66) (w_L_law_203 dc h62 n9 l0 l1 l2 l3 l4 l5 l6 l7 l8 l9 l10 l12 t0 r66 Po rec70 r58) (wZ 0 (Po 0 h62))) (wZ 0 (Po 0 h62))) (fun _ => False)))))
set_option maxRecDepth 100000 in
set_option maxHeartbeats 4000000 in
theorem k_L_law_125 {V : XVT} {X : XC} {l : Launch} (hfl : l.stackTraces = false) {nm : String} (S : xS V X l RL nm cL_law 18 wsL_law room_1) (h : XH) (n9 : Nat) (hn9 : n9 ≤ 10) (l0 : Nat) (l1 : Nat) (l2 : Nat) (l3 : Nat) (l4 : Nat) (l5 : Nat) (l6 : Nat) (l7 : Nat) (l8 : Int32) (l9 : Nat) (l10 : Int32) (l11 : Int32) (l12 : Int32) (t0 : Int32) (Po : Int32 → XH → Prop) (E : xEnd V cL_law (some .boolean) 600130 7301080 (xPi Po)) (rec70 : Nat × XH × Int32 × Int32 → Prop) (hr70 : ∀ s : Nat × XH × Int32 × Int32, rec70 s → s.1 ≤ 10 → V (105 + 18 * s.1) (1439 + 165 * s.1) s.2.1 70 [(0, .ref l0), (1, .ref l1), (2, .ref l2), (3, .ref l3), (4, .ref l4), (5, .ref l5), (6, .ref l6), (7, .ref l7), (8, .int s.2.2.1), (9, .ref l9), (10, .int s.2.2.2)] []) (hw : w_L_law_125 (xdc X) h n9 l0 l1 l2 l3 l4 l5 l6 l7 l8 l9 l10 l11 l12 t0 Po rec70) : V (105 + 18 * n9) (1439 + 165 * n9) h 125 [(0, .ref l0), (1, .ref l1), (2, .ref l2), (3, .ref l3), (4, .ref l4), (5, .ref l5), (6, .ref l6), (7, .ref l7), (8, .int l8), (9, .ref l9), (10, .int l10), (11, .int l11), (12, .int l12)] [.int t0] := by
  refine xr_istore S [(13, .int t0), (0, .ref l0), (1, .ref l1), (2, .ref l2), (3, .ref l3), (4, .ref l4), (5, .ref l5), (6, .ref l6), (7, .ref l7), (8, .int l8), (9, .ref l9), (10, .int l10), (11, .int l11), (12, .int l12)] dL_law_125 (by decide) rfl ?_
  refine xr_iload S 12 dL_law_127 rfl ?_
  refine xr_iconst S (5) dL_law_129 (by decide) ?_
  refine xr_ishr S dL_law_130 ?_
  refine xr_sipush S (1000) dL_law_131 (by decide) ?_
  refine xr_callS S [.int (l11 >>> (5 &&& 31)), .int 1000] [] dL_law_134 (k_L_below l (xdc X) h (l11 >>> (5 &&& 31)) 1000 _ hw) gL_law_L_below rfl pd_L_below ⟨Nat.le_of_ble_eq_true rfl, Nat.le_of_ble_eq_true rfl⟩ rfl (Nat.le_of_ble_eq_true rfl) ⟨by show _ ≤ 600130; omega, by show _ ≤ 7301080; omega⟩ (fun v9 h60 hv => ?_)
  obtain ⟨r58, rfl, rfl, hw⟩ := hv
  refine xr_istore S [(14, .int r58), (13, .int t0), (0, .ref l0), (1, .ref l1), (2, .ref l2), (3, .ref l3), (4, .ref l4), (5, .ref l5), (6, .ref l6), (7, .ref l7), (8, .int l8), (9, .ref l9), (10, .int l10), (11, .int l11), (12, .int l12)] dL_law_137 (by decide) rfl ?_
  refine xr_aload_n S 3 dL_law_139 rfl ?_
  refine xr_iload S 14 dL_law_140 rfl ?_
  refine xr_iload S 1 dL_law_142 rfl ?_
  refine xr_iload S 0 dL_law_144 rfl ?_
  refine xr_callSW S [.ref l1, .int l12, .int t0, .int r58] [] dL_law_146 (k_L_told l hfl (xdc X) h l1 l12 t0 r58 _ hw) gL_law_L_told rfl pd_L_told ⟨Nat.le_of_ble_eq_true rfl, Nat.le_of_ble_eq_true rfl⟩ rfl (Nat.le_of_ble_eq_true rfl) ⟨by show _ ≤ 600130; omega, by show _ ≤ 7301080; omega⟩ (fun v9 h62 hv => ?_)
  obtain ⟨r61, rfl, hw⟩ := hv
  refine xr_istore S [(15, .int r61), (14, .int r58), (13, .int t0), (0, .ref l0), (1, .ref l1), (2, .ref l2), (3, .ref l3), (4, .ref l4), (5, .ref l5), (6, .ref l6), (7, .ref l7), (8, .int l8), (9, .ref l9), (10, .int l10), (11, .int l11), (12, .int l12)] dL_law_149 (by decide) rfl ?_
  refine xr_iload S 0 dL_law_151 rfl ?_
  refine xr_bipush S (-3) dL_law_153 (by decide) ?_
  refine xw_icmp_ne S 174 dL_law_155 (by decide) hw (fun c hw => ?_) (fun c hw => ?_)
  · refine xr_aload_n S 4 dL_law_174 rfl ?_
    refine xr_iload S 0 dL_law_175 rfl ?_
    refine xr_iconst S (1) dL_law_177 (by decide) ?_
    obtain ⟨e64, hw⟩ := hw
    obtain ⟨f65, f65x⟩ := id e64
    refine xr_callV0 S 7 [.int r61, .int 1] [] dL_law_178 (k_X6_passage l hfl (xdc X) h62 l1 r61 1 _ _ hw) gL_law_X6_passage rfl pd_X6_passage ⟨Nat.le_of_ble_eq_true rfl, Nat.le_of_ble_eq_true rfl⟩ rfl (Nat.le_of_ble_eq_true rfl) ⟨by show _ ≤ 600130; omega, by show _ ≤ 7301080; omega⟩ f65x rfl (fun E1 h9 hx => hx.2) (fun v9 h68 hv => ?_)
    obtain ⟨r66, rfl, rfl, hw⟩ := hv
    refine xr_istore S [(16, .int r66), (15, .int r61), (14, .int r58), (13, .int t0), (0, .ref l0), (1, .ref l1), (2, .ref l2), (3, .ref l3), (4, .ref l4), (5, .ref l5), (6, .ref l6), (7, .ref l7), (8, .int l8), (9, .ref l9), (10, .int l10), (11, .int l11), (12, .int l12)] dL_law_181 (by decide) rfl ?_
    refine xr_iload S 1 dL_law_183 rfl ?_
    refine xr_iload S 12 dL_law_185 rfl ?_
    refine xw_icmp_ne S 197 dL_law_187 (by decide) hw (fun c hw => ?_) (fun c hw => ?_)
    · refine xr_iconst S (0) dL_law_197 (by decide) ?_
      obtain ⟨hz, hw⟩ := hw
      exact E.2.1 _ _ _ _ _ _ rfl hz dL_law_198 ⟨_, rfl, hw⟩ (by show _ ≤ 600130; omega) (by show _ ≤ 7301080; omega)
    · refine xr_iload S 0 dL_law_190 rfl ?_
      refine xr_iload S 2 dL_law_192 rfl ?_
      refine xw_icmp_ge S 199 dL_law_194 (by decide) hw (fun c hw => ?_) (fun c hw => ?_)
      · refine xr_iload S 2 dL_law_199 rfl ?_
        refine xr_istore S [(17, .int r58), (16, .int r66), (15, .int r61), (14, .int r58), (13, .int t0), (0, .ref l0), (1, .ref l1), (2, .ref l2), (3, .ref l3), (4, .ref l4), (5, .ref l5), (6, .ref l6), (7, .ref l7), (8, .int l8), (9, .ref l9), (10, .int l10), (11, .int l11), (12, .int l12)] dL_law_201 (by decide) rfl ?_
        refine xr_widen S (k := (114 + 18 * n9)) (n := (1550 + 165 * n9)) (by omega) (by omega) ?_
        refine xr_sub S [(0, .ref l0), (1, .ref l1), (2, .ref l2), (3, .ref l3), (4, .ref l4), (5, .ref l5), (6, .ref l6), (7, .ref l7), (8, .int l8), (9, .ref l9), (10, .int l10), (12, .int l12), (13, .int t0), (16, .int r66), (17, .int r58)] [5, 6, 7, 8, 9, 10, 11, 12, 13, 14, 15, 17, 4, 1, 0] rfl ?_
        exact k_L_law_203 hfl S h62 n9 hn9 l0 l1 l2 l3 l4 l5 l6 l7 l8 l9 l10 l12 t0 r66 Po E rec70 hr70 r58 hw
      · refine xr_iconst S (0) dL_law_197 (by decide) ?_
        obtain ⟨hz, hw⟩ := hw
        exact E.2.1 _ _ _ _ _ _ rfl hz dL_law_198 ⟨_, rfl, hw⟩ (by show _ ≤ 600130; omega) (by show _ ≤ 7301080; omega)
  · refine xr_aload_n S 4 dL_law_158 rfl ?_
    refine xr_iload S 15 dL_law_159 rfl ?_
    refine xr_iload S 2 dL_law_161 rfl ?_
    refine xr_iload S 1 dL_law_163 rfl ?_
    obtain ⟨e111, hw⟩ := hw
    obtain ⟨f112, f112x⟩ := id e111
    refine xr_callV0 S 7 [.int l12, .int t0, .int r58] [] dL_law_165 (k_X6_earliest l hfl (xdc X) h62 l1 l12 t0 r58 _ _ hw) gL_law_X6_earliest rfl pd_X6_earliest ⟨Nat.le_of_ble_eq_true rfl, Nat.le_of_ble_eq_true rfl⟩ rfl (Nat.le_of_ble_eq_true rfl) ⟨by show _ ≤ 600130; omega, by show _ ≤ 7301080; omega⟩ f112x rfl (fun E1 h9 hx => hx) (fun v9 h114 hv => ?_)
    obtain ⟨r113, rfl, hw⟩ := hv
    refine xr_iconst S (-1) dL_law_168 (by decide) ?_
    refine xw_icmp_eq S 362 dL_law_169 (by decide) hw (fun c hw => ?_) (fun c hw => ?_)
    · refine xr_widen S (k := (123 + 18 * n9)) (n := (1604 + 165 * n9)) (by omega) (by omega) ?_
      refine xr_sub S [(0, .ref l0), (1, .ref l1), (2, .ref l2), (3, .ref l3), (4, .ref l4), (5, .ref l5), (6, .ref l6), (7, .ref l7), (8, .int l8), (9, .ref l9), (10, .int l10)] [3, 4, 5, 6, 7, 8, 9, 10, 11, 12, 13] rfl ?_
      exact k_L_law_362 hfl S h114 n9 hn9 l0 l1 l2 l3 l4 l5 l6 l7 l8 l9 l10 Po E rec70 hr70 hw
    · refine xr_iconst S (0) dL_law_172 (by decide) ?_
      obtain ⟨hz, hw⟩ := hw
      exact E.2.1 _ _ _ _ _ _ rfl hz dL_law_173 ⟨_, rfl, hw⟩ (by show _ ≤ 600130; omega) (by show _ ≤ 7301080; omega)
def w_L_law_70_F (dc : Nat × Nat) (l0 : Nat) (l1 : Nat) (l2 : Nat) (l3 : Nat) (l4 : Nat) (l5 : Nat) (l6 : Nat) (l7 : Nat) (l9 : Nat) (Po : Int32 → XH → Prop) (rec70 : Nat × XH × Int32 × Int32 → Prop) : Nat × XH × Int32 × Int32 → Prop := fun s => match s with
  | (n9, h, l8, l10) =>
  wIf (10 ≤ l10) (w_L_law_371 dc h l1 l6 l7 l8 Po 0) (w_L_cell dc h l0 (6 + l10) (fun r45 => wAI h 2 l6 2 (fun v48 => w_L_below dc h r45 v48 (fun r49 => wAI h 2 l9 r49 (fun v52 => wDiv 2 ( wIf ((v52 - v52 / 2 * 2) = 1) (w_L_law_125 dc h n9 l0 l1 l2 l3 l4 l5 l6 l7 l8 l9 l10 r45 r49 (-1) Po rec70) (wAI h 2 l6 1 (fun v54 => w_L_below dc h (r45 >>> (3 &&& 31)) v54 (fun r55 => w_L_law_125 dc h n9 l0 l1 l2 l3 l4 l5 l6 l7 l8 l9 l10 r45 r49 r55 Po rec70)))))))))
def w_L_law_70 (dc : Nat × Nat) (l0 : Nat) (l1 : Nat) (l2 : Nat) (l3 : Nat) (l4 : Nat) (l5 : Nat) (l6 : Nat) (l7 : Nat) (l9 : Nat) (Po : Int32 → XH → Prop) : Nat × XH × Int32 × Int32 → Prop := xloop (w_L_law_70_F dc l0 l1 l2 l3 l4 l5 l6 l7 l9 Po)
set_option maxRecDepth 100000 in
set_option maxHeartbeats 4000000 in
theorem k_L_law_70 {V : XVT} {X : XC} {l : Launch} (hfl : l.stackTraces = false) {nm : String} (S : xS V X l RL nm cL_law 18 wsL_law room_1) (h : XH) (l0 : Nat) (l1 : Nat) (l2 : Nat) (l3 : Nat) (l4 : Nat) (l5 : Nat) (l6 : Nat) (l7 : Nat) (l9 : Nat) (Po : Int32 → XH → Prop) (E : xEnd V cL_law (some .boolean) 600130 7301080 (xPi Po)) (s0 : Nat × XH × Int32 × Int32) (hw : w_L_law_70 (xdc X) l0 l1 l2 l3 l4 l5 l6 l7 l9 Po s0) : s0.1 ≤ 10 → V (105 + 18 * s0.1) (1439 + 165 * s0.1) s0.2.1 70 [(0, .ref l0), (1, .ref l1), (2, .ref l2), (3, .ref l3), (4, .ref l4), (5, .ref l5), (6, .ref l6), (7, .ref l7), (8, .int s0.2.2.1), (9, .ref l9), (10, .int s0.2.2.2)] [] := by
  refine xloop_use (P := fun s : Nat × XH × Int32 × Int32 => s.1 ≤ 10 → V (105 + 18 * s.1) (1439 + 165 * s.1) s.2.1 70 [(0, .ref l0), (1, .ref l1), (2, .ref l2), (3, .ref l3), (4, .ref l4), (5, .ref l5), (6, .ref l6), (7, .ref l7), (8, .int s.2.2.1), (9, .ref l9), (10, .int s.2.2.2)] []) (fun rec70 hr70 s hw => ?_) hw
  obtain ⟨n9, h, l8, l10⟩ := s
  try dsimp only
  dsimp only [w_L_law_70_F] at hw
  intro hn9
  refine xr_iload S 10 dL_law_70 rfl ?_
  refine xr_bipush S (10) dL_law_72 (by decide) ?_
  refine xw_icmp_ge S 368 dL_law_74 (by decide) hw (fun c hw => ?_) (fun c hw => ?_)
  · refine xr_iconst S (0) dL_law_368 (by decide) ?_
    refine xr_istore S [(10, .int 0), (0, .ref l0), (1, .ref l1), (2, .ref l2), (3, .ref l3), (4, .ref l4), (5, .ref l5), (6, .ref l6), (7, .ref l7), (8, .int l8), (9, .ref l9)] dL_law_369 (by decide) rfl ?_
    refine xr_widen S (k := 285) (n := 3089) (by omega) (by omega) ?_
    refine xr_sub S [(1, .ref l1), (6, .ref l6), (7, .ref l7), (8, .int l8), (10, .int 0)] [2, 7, 8, 9, 0] rfl ?_
    exact k_L_law_371 hfl S h l1 l6 l7 l8 Po E 0 hw
  · refine xr_aload_n S 0 dL_law_77 rfl ?_
    refine xr_bipush S (6) dL_law_78 (by decide) ?_
    refine xr_iload S 10 dL_law_80 rfl ?_
    refine xr_iadd S dL_law_82 ?_
    refine xr_callS S [.ref l0, .int (6 + l10)] [] dL_law_83 (k_L_cell l (xdc X) h l0 (6 + l10) _ hw) gL_law_L_cell rfl pd_L_cell ⟨Nat.le_of_ble_eq_true rfl, Nat.le_of_ble_eq_true rfl⟩ rfl (Nat.le_of_ble_eq_true rfl) ⟨by show _ ≤ 600130; omega, by show _ ≤ 7301080; omega⟩ (fun v9 h47 hv => ?_)
    obtain ⟨r45, rfl, rfl, hw⟩ := hv
    refine xr_istore S [(11, .int r45), (0, .ref l0), (1, .ref l1), (2, .ref l2), (3, .ref l3), (4, .ref l4), (5, .ref l5), (6, .ref l6), (7, .ref l7), (8, .int l8), (9, .ref l9), (10, .int l10)] dL_law_86 (by decide) rfl ?_
    refine xr_iload S 0 dL_law_88 rfl ?_
    refine xr_aload S 7 dL_law_90 rfl ?_
    refine xr_iconst S (2) dL_law_92 (by decide) ?_
    refine xw_iald S 2 dL_law_93 (Or.inr rfl) hw (fun v48 hw => ?_)
    refine xr_callS S [.int r45, .int v48] [] dL_law_94 (k_L_below l (xdc X) h r45 v48 _ hw) gL_law_L_below rfl pd_L_below ⟨Nat.le_of_ble_eq_true rfl, Nat.le_of_ble_eq_true rfl⟩ rfl (Nat.le_of_ble_eq_true rfl) ⟨by show _ ≤ 600130; omega, by show _ ≤ 7301080; omega⟩ (fun v9 h51 hv => ?_)
    obtain ⟨r49, rfl, rfl, hw⟩ := hv
    refine xr_istore S [(12, .int r49), (11, .int r45), (0, .ref l0), (1, .ref l1), (2, .ref l2), (3, .ref l3), (4, .ref l4), (5, .ref l5), (6, .ref l6), (7, .ref l7), (8, .int l8), (9, .ref l9), (10, .int l10)] dL_law_97 (by decide) rfl ?_
    refine xr_aload S 11 dL_law_99 rfl ?_
    refine xr_iload S 0 dL_law_101 rfl ?_
    refine xw_iald S 2 dL_law_103 (Or.inr rfl) hw (fun v52 hw => ?_)
    refine xr_iconst S (2) dL_law_104 (by decide) ?_
    obtain ⟨hn53, hw⟩ := hw
    refine xr_irem S dL_law_105 hn53 ?_
    refine xr_iconst S (1) dL_law_106 (by decide) ?_
    refine xw_icmp_ne S 114 dL_law_107 (by decide) hw (fun c hw => ?_) (fun c hw => ?_)
    · refine xr_iload S 1 dL_law_114 rfl ?_
      refine xr_iconst S (3) dL_law_116 (by decide) ?_
      refine xr_ishr S dL_law_117 ?_
      refine xr_aload S 8 dL_law_118 rfl ?_
      refine xr_iconst S (1) dL_law_120 (by decide) ?_
      refine xw_iald S 2 dL_law_121 (Or.inr rfl) hw (fun v54 hw => ?_)
      refine xr_callS S [.int (r45 >>> (3 &&& 31)), .int v54] [] dL_law_122 (k_L_below l (xdc X) h (r45 >>> (3 &&& 31)) v54 _ hw) gL_law_L_below rfl pd_L_below ⟨Nat.le_of_ble_eq_true rfl, Nat.le_of_ble_eq_true rfl⟩ rfl (Nat.le_of_ble_eq_true rfl) ⟨by show _ ≤ 600130; omega, by show _ ≤ 7301080; omega⟩ (fun v9 h57 hv => ?_)
      obtain ⟨r55, rfl, rfl, hw⟩ := hv
      refine xr_widen S (k := (105 + 18 * n9)) (n := (1439 + 165 * n9)) (by omega) (by omega) ?_
      refine xr_sub S [(0, .ref l0), (1, .ref l1), (2, .ref l2), (3, .ref l3), (4, .ref l4), (5, .ref l5), (6, .ref l6), (7, .ref l7), (8, .int l8), (9, .ref l9), (10, .int l10), (11, .int r45), (12, .int r49)] [2, 3, 4, 5, 6, 7, 8, 9, 10, 11, 12, 1, 0] rfl ?_
      exact k_L_law_125 hfl S h n9 hn9 l0 l1 l2 l3 l4 l5 l6 l7 l8 l9 l10 r45 r49 r55 Po E rec70 hr70 hw
    · refine xr_iconst S (-1) dL_law_110 (by decide) ?_
      refine xr_goto S (tgt := 125) dL_law_111 (by decide) ?_
      refine xr_widen S (k := (105 + 18 * n9)) (n := (1439 + 165 * n9)) (by omega) (by omega) ?_
      refine xr_sub S [(0, .ref l0), (1, .ref l1), (2, .ref l2), (3, .ref l3), (4, .ref l4), (5, .ref l5), (6, .ref l6), (7, .ref l7), (8, .int l8), (9, .ref l9), (10, .int l10), (11, .int r45), (12, .int r49)] [2, 3, 4, 5, 6, 7, 8, 9, 10, 11, 12, 1, 0] rfl ?_
      exact k_L_law_125 hfl S h n9 hn9 l0 l1 l2 l3 l4 l5 l6 l7 l8 l9 l10 r45 r49 (-1) Po E rec70 hr70 hw
def w_L_law (dc : Nat × Nat) (h : XH) (l0 : Nat) (Po : Int32 → XH → Prop) : Prop :=
  wNew h 7 [.null, .null, .null, .null, .null, .int 0, .int 0, .int 0] (fun q1 h2 => w_X6_init dc h2 q1 (fun h4 => wNewI h4 2 20 (fun q6 h7 => wNewI h7 2 6 (fun q8 h9 => wNewI h9 2 12 (fun q10 h11 => wNewI h11 2 6 (fun q12 h13 => w_L_build dc h13 q1 l0 0 q6 q8 q10 q12 (fun r14 h15 => wOpt r14 (wZ 0 (Po 0 h15)) (fun q17 => wNew2 h15 40 (fun q18 h19 => wNewI h19 2 6 (fun q20 h21 => (w_L_law_70 dc l0 q1 q6 q8 q10 q12 q17 q18 q20 Po (0, h21, 0, 0))))))))))))
set_option maxRecDepth 100000 in
set_option maxHeartbeats 4000000 in
theorem k_L_law {V : XVT} {X : XC} {l : Launch} (hfl : l.stackTraces = false) {nm : String} (S : xS V X l RL nm cL_law 18 wsL_law room_1) (dc : Nat × Nat) (hX : xdc X = dc) (h : XH) (l0 : Nat) (Po : Int32 → XH → Prop) (E : xEnd V cL_law (some .boolean) 600130 7301080 (xPi Po)) (hw : w_L_law dc h l0 Po) : V 0 0 h 0 [(0, .ref l0)] [] := by
  subst hX
  refine xr_new S 7 tyX6 [.null, .null, .null, .null, .null, .int 0, .int 0, .int 0] dL_law_0 in_L_law_X6 tyX6_ok m_L_law_1 m_L_law_2 m_L_law_3 rfl dfX6 (Nat.le_of_ble_eq_true rfl) (Nat.le_of_ble_eq_true rfl) (fun q1 hq => ?_)
  have hw := hw q1 hq
  generalize xup h q1 (.inr (7, [.null, .null, .null, .null, .null, .int 0, .int 0, .int 0])) = h2 at hw ⊢
  refine xr_dup S dL_law_3 rfl ?_
  refine xr_callI S [] [.ref q1] dL_law_4 (k_X6_init l (xdc X) h2 q1 _ hw) gL_law_X6_init rfl m_L_law_3 m_L_law_4 m_L_law_5 rfl pd_X6_init ⟨Nat.le_of_ble_eq_true rfl, Nat.le_of_ble_eq_true rfl⟩ rfl (Nat.le_of_ble_eq_true rfl) ⟨Nat.le_of_ble_eq_true rfl, Nat.le_of_ble_eq_true rfl⟩ (fun v9 h4 hv => ?_)
  obtain ⟨rfl, hw⟩ := hv
  refine xr_astore_n S [(1, .ref q1), (0, .ref l0)] dL_law_7 (by decide) rfl ?_
  refine xr_bipush S (20) dL_law_8 (by decide) ?_
  refine xr_newi S 2 dL_law_10 (Or.inr rfl) m_L_law_6 (by decide) (N := 20) (by decide) (by decide) (Nat.le_of_ble_eq_true rfl) (Nat.le_of_ble_eq_true rfl) (fun q6 hq => ?_)
  have hw := hw q6 hq
  generalize xup h4 q6 (.inl (2, 20, .inl (fun _ => 0))) = h7 at hw ⊢
  refine xr_astore_n S [(2, .ref q6), (1, .ref q1), (0, .ref l0)] dL_law_12 (by decide) rfl ?_
  refine xr_bipush S (6) dL_law_13 (by decide) ?_
  refine xr_newi S 2 dL_law_15 (Or.inr rfl) m_L_law_6 (by decide) (N := 6) (by decide) (by decide) (Nat.le_of_ble_eq_true rfl) (Nat.le_of_ble_eq_true rfl) (fun q8 hq => ?_)
  have hw := hw q8 hq
  generalize xup h7 q8 (.inl (2, 6, .inl (fun _ => 0))) = h9 at hw ⊢
  refine xr_astore_n S [(3, .ref q8), (2, .ref q6), (1, .ref q1), (0, .ref l0)] dL_law_17 (by decide) rfl ?_
  refine xr_bipush S (12) dL_law_18 (by decide) ?_
  refine xr_newi S 2 dL_law_20 (Or.inr rfl) m_L_law_6 (by decide) (N := 12) (by decide) (by decide) (Nat.le_of_ble_eq_true rfl) (Nat.le_of_ble_eq_true rfl) (fun q10 hq => ?_)
  have hw := hw q10 hq
  generalize xup h9 q10 (.inl (2, 12, .inl (fun _ => 0))) = h11 at hw ⊢
  refine xr_astore S [(4, .ref q10), (3, .ref q8), (2, .ref q6), (1, .ref q1), (0, .ref l0)] dL_law_22 (by decide) rfl ?_
  refine xr_bipush S (6) dL_law_24 (by decide) ?_
  refine xr_newi S 2 dL_law_26 (Or.inr rfl) m_L_law_6 (by decide) (N := 6) (by decide) (by decide) (Nat.le_of_ble_eq_true rfl) (Nat.le_of_ble_eq_true rfl) (fun q12 hq => ?_)
  have hw := hw q12 hq
  generalize xup h11 q12 (.inl (2, 6, .inl (fun _ => 0))) = h13 at hw ⊢
  refine xr_astore S [(5, .ref q12), (4, .ref q10), (3, .ref q8), (2, .ref q6), (1, .ref q1), (0, .ref l0)] dL_law_28 (by decide) rfl ?_
  refine xr_aload_n S 4 dL_law_30 rfl ?_
  refine xr_aload_n S 5 dL_law_31 rfl ?_
  refine xr_iconst S (0) dL_law_32 (by decide) ?_
  refine xr_aload_n S 3 dL_law_33 rfl ?_
  refine xr_aload_n S 2 dL_law_34 rfl ?_
  refine xr_aload S 1 dL_law_35 rfl ?_
  refine xr_aload S 0 dL_law_37 rfl ?_
  refine xr_callS S [.ref q1, .ref l0, .int 0, .ref q6, .ref q8, .ref q10, .ref q12] [] dL_law_39 (k_L_build l hfl (xdc X) h13 q1 l0 0 q6 q8 q10 q12 _ hw) gL_law_L_build rfl pd_L_build ⟨Nat.le_of_ble_eq_true rfl, Nat.le_of_ble_eq_true rfl⟩ rfl (Nat.le_of_ble_eq_true rfl) ⟨Nat.le_of_ble_eq_true rfl, Nat.le_of_ble_eq_true rfl⟩ (fun v9 h15 hv => ?_)
  obtain ⟨r14, rfl, hw⟩ := hv
  refine xr_astoreq S [(6, va_rf r14), (5, .ref q12), (4, .ref q10), (3, .ref q8), (2, .ref q6), (1, .ref q1), (0, .ref l0)] dL_law_42 (by decide) rfl ?_
  refine xr_aloadq S 0 dL_law_44 rfl ?_
  refine xw_ifnonnull S 51 dL_law_46 (by decide) hw (fun q17 hr hwq17 => ?_) (fun hr hwq17 => ?_)
  · subst hr
    have hw := hwq17
    refine xr_bipush S (40) dL_law_51 (by decide) ?_
    refine xr_new2 S dL_law_53 m_L_law_7 (by decide) (N := 40) (by decide) (by decide) (Nat.le_of_ble_eq_true rfl) (Nat.le_of_ble_eq_true rfl) (fun q18 hq => ?_)
    have hw := hw q18 hq
    generalize xup h15 q18 (.inl (4, 40, .inr (.inr (.inr (.inr (fun _ => none)))))) = h19 at hw ⊢
    refine xr_astore S [(7, .ref q18), (6, .ref q17), (5, .ref q12), (4, .ref q10), (3, .ref q8), (2, .ref q6), (1, .ref q1), (0, .ref l0)] dL_law_56 (by decide) rfl ?_
    refine xr_iconst S (0) dL_law_58 (by decide) ?_
    refine xr_istore S [(8, .int 0), (7, .ref q18), (6, .ref q17), (5, .ref q12), (4, .ref q10), (3, .ref q8), (2, .ref q6), (1, .ref q1), (0, .ref l0)] dL_law_59 (by decide) rfl ?_
    refine xr_bipush S (6) dL_law_61 (by decide) ?_
    refine xr_newi S 2 dL_law_63 (Or.inr rfl) m_L_law_6 (by decide) (N := 6) (by decide) (by decide) (Nat.le_of_ble_eq_true rfl) (Nat.le_of_ble_eq_true rfl) (fun q20 hq => ?_)
    have hw := hw q20 hq
    generalize xup h19 q20 (.inl (2, 6, .inl (fun _ => 0))) = h21 at hw ⊢
    refine xr_astore S [(9, .ref q20), (8, .int 0), (7, .ref q18), (6, .ref q17), (5, .ref q12), (4, .ref q10), (3, .ref q8), (2, .ref q6), (1, .ref q1), (0, .ref l0)] dL_law_65 (by decide) rfl ?_
    refine xr_iconst S (0) dL_law_67 (by decide) ?_
    refine xr_istore S [(10, .int 0), (9, .ref q20), (8, .int 0), (7, .ref q18), (6, .ref q17), (5, .ref q12), (4, .ref q10), (3, .ref q8), (2, .ref q6), (1, .ref q1), (0, .ref l0)] dL_law_68 (by decide) rfl ?_
    refine xr_widen S (k := (105 + 18 * 0)) (n := (1439 + 165 * 0)) (Nat.le_of_ble_eq_true rfl) (Nat.le_of_ble_eq_true rfl) ?_
    refine xr_sub S [(0, .ref l0), (1, .ref q1), (2, .ref q6), (3, .ref q8), (4, .ref q10), (5, .ref q12), (6, .ref q17), (7, .ref q18), (8, .int 0), (9, .ref q20), (10, .int 0)] [10, 9, 8, 7, 6, 5, 4, 3, 2, 1, 0] rfl ?_
    exact k_L_law_70 hfl S h21 l0 q1 q6 q8 q10 q12 q17 q18 q20 Po E (0, h21, 0, 0) hw (Nat.zero_le _)
  · subst hr
    have hw := hwq17
    refine xr_iconst S (0) dL_law_49 (by decide) ?_
    obtain ⟨hz, hw⟩ := hw
    exact E.2.1 _ _ _ _ _ _ rfl hz dL_law_50 ⟨_, rfl, hw⟩ (Nat.le_of_ble_eq_true rfl) (Nat.le_of_ble_eq_true rfl)
