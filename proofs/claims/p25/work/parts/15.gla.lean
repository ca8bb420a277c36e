theorem m_L_below_0 : Cond.constant RL 7 2147483647 ∈ wsL_below := by decide +kernel
def w_L_below (dc : Nat × Nat) (h : XH) (l0 : Int32) (l1 : Int32) (Po : Int32 → Prop) : Prop :=
  wDiv l1 ( Po ((l0 &&& 2147483647) - (l0 &&& 2147483647) / l1 * l1))
set_option maxRecDepth 100000 in
set_option maxHeartbeats 4000000 in
theorem k_L_below (l : Launch) (dc : Nat × Nat) (h : XH) (l0 : Int32) (l1 : Int32) (Po : Int32 → Prop) (hw : w_L_below dc h l0 l1 Po) : xM l dc yL_below wsL_below 0 0 0 0 [.int l0, .int l1] h (xRi h Po) := by
  refine xM_of [(0, .int l0), (1, .int l1)] (own := RL) (cc := cL_below) (nL := 2) (ret := (some .int)) (by decide +kernel) rfl rfl (Nat.le_of_ble_eq_true rfl) rfl ?_
  intro X V hX S E
  subst hX
  refine xr_iload_n S 0 dL_below_0 rfl ?_
  refine xr_ldc S 2147483647 dL_below_1 m_L_below_0 ?_
  refine xr_iand S dL_below_3 ?_
  refine xr_iload_n S 1 dL_below_4 rfl ?_
  obtain ⟨hn1, hw⟩ := hw
  refine xr_irem S dL_below_5 hn1 ?_
  exact E.1 _ _ _ _ _ _ rfl dL_below_6 ⟨_, rfl, rfl, hw⟩ (Nat.le_of_ble_eq_true rfl) (Nat.le_of_ble_eq_true rfl)
theorem m_L_cell_0 : Cond.constant RL 8 790386105 ∈ wsL_cell := by decide +kernel
def w_L_cell (dc : Nat × Nat) (h : XH) (l0 : Nat) (l1 : Int32) (Po : Int32 → Prop) : Prop :=
  wSLen h l0 (fun v1 => wIf (v1 ≤ l1) (Po (790386105 * (l1 + 3))) (wAI h 3 l0 l1 (fun v2 => Po v2)))
set_option maxRecDepth 100000 in
set_option maxHeartbeats 4000000 in
theorem k_L_cell (l : Launch) (dc : Nat × Nat) (h : XH) (l0 : Nat) (l1 : Int32) (Po : Int32 → Prop) (hw : w_L_cell dc h l0 l1 Po) : xM l dc yL_cell wsL_cell 0 0 0 0 [.ref l0, .int l1] h (xRi h Po) := by
  refine xM_of [(0, .ref l0), (1, .int l1)] (own := RL) (cc := cL_cell) (nL := 2) (ret := (some .int)) (by decide +kernel) rfl rfl (Nat.le_of_ble_eq_true rfl) rfl ?_
  intro X V hX S E
  subst hX
  refine xr_iload_n S 1 dL_cell_0 rfl ?_
  refine xr_aload_n S 0 dL_cell_1 rfl ?_
  refine xw_slen S dL_cell_2 hw (fun v1 hw => ?_)
  refine xw_icmp_ge S 12 dL_cell_3 (by decide) hw (fun c hw => ?_) (fun c hw => ?_)
  · refine xr_ldc S 790386105 dL_cell_12 m_L_cell_0 ?_
    refine xr_iload_n S 1 dL_cell_14 rfl ?_
    refine xr_iconst S (3) dL_cell_15 (by decide) ?_
    refine xr_iadd S dL_cell_16 ?_
    refine xr_imul S dL_cell_17 ?_
    exact E.1 _ _ _ _ _ _ rfl dL_cell_18 ⟨_, rfl, rfl, hw⟩ (Nat.le_of_ble_eq_true rfl) (Nat.le_of_ble_eq_true rfl)
  · refine xr_aload_n S 0 dL_cell_6 rfl ?_
    refine xr_iload_n S 1 dL_cell_7 rfl ?_
    refine xw_sld S dL_cell_8 hw (fun v2 hw => ?_)
    refine xr_goto S (tgt := 18) dL_cell_9 (by decide) ?_
    exact E.1 _ _ _ _ _ _ rfl dL_cell_18 ⟨_, rfl, rfl, hw⟩ (Nat.le_of_ble_eq_true rfl) (Nat.le_of_ble_eq_true rfl)
theorem m_L_build_0 : Cond.arrayClass .int ∈ wsL_build := by decide +kernel
def w_L_build_611_F (dc : Nat × Nat) (h : XH) (l0 : Nat) (l7 : Nat) (Po : Option Nat → XH → Prop) (rec611 : Nat × Int32 → Prop) : Nat × Int32 → Prop := fun s => match s with
  | (n9, l8) =>
  wIf (4 ≤ l8) (Po (some l7) h) (wO h l0 7 ( w_X6_count dc h l0 l8 (fun r72 => wAI h 2 l7 l8 (fun v75 => wIf (r72 = v75) ((n9 + 1 ≤ 4 ∧ rec611 (n9 + 1, (l8 + 1)))) (Po none h))) (fun _ => False)))
def w_L_build_611 (dc : Nat × Nat) (h : XH) (l0 : Nat) (l7 : Nat) (Po : Option Nat → XH → Prop) : Nat × Int32 → Prop := xloop (w_L_build_611_F dc h l0 l7 Po)
set_option maxRecDepth 100000 in
set_option maxHeartbeats 4000000 in
theorem k_L_build_611 {V : XVT} {X : XC} {l : Launch} (hfl : l.stackTraces = false) (S : xS V X l RL yL_build.name cL_build 10 wsL_build (xRm 9 194 91 1266)) (h : XH) (l0 : Nat) (l7 : Nat) (Po : Option Nat → XH → Prop) (E : xEnd V cL_build (some (.array .int)) 91 1266 (xPq Po)) (s0 : Nat × Int32) (hw : w_L_build_611 (xdc X) h l0 l7 Po s0) : s0.1 ≤ 4 → V (86 + 1 * s0.1) (1186 + 6 * s0.1) h 611 [(0, .ref l0), (7, .ref l7), (8, .int s0.2)] [] := by
  refine xloop_use (P := fun s : Nat × Int32 => s.1 ≤ 4 → V (86 + 1 * s.1) (1186 + 6 * s.1) h 611 [(0, .ref l0), (7, .ref l7), (8, .int s.2)] []) (fun rec611 hr611 s hw => ?_) hw
  obtain ⟨n9, l8⟩ := s
  try dsimp only
  dsimp only [w_L_build_611_F] at hw
  intro hn9
  refine xr_iload S 2 dL_build_611 rfl ?_
  refine xr_iconst S (4) dL_build_613 (by decide) ?_
  refine xw_icmp_ge S 639 dL_build_614 (by decide) hw (fun c hw => ?_) (fun c hw => ?_)
  · refine xr_aload S 1 dL_build_639 rfl ?_
    exact E.2.2.2.1 _ _ _ _ _ _ (some l7) rfl (Or.inr ⟨_, rfl⟩) dL_build_641 ⟨(some l7), rfl, hw⟩ (by show _ ≤ 91; omega) (by show _ ≤ 1266; omega)
  · refine xr_aload_n S 0 dL_build_617 rfl ?_
    refine xr_iload S 2 dL_build_618 rfl ?_
    obtain ⟨e70, hw⟩ := hw
    obtain ⟨f71, f71x⟩ := id e70
    refine xr_callV0 S 7 [.int l8] [] dL_build_620 (k_X6_count l hfl (xdc X) h l0 l8 _ _ hw) gL_build_X6_count rfl pd_X6_count ⟨Nat.le_of_ble_eq_true rfl, Nat.le_of_ble_eq_true rfl⟩ rfl (Nat.le_of_ble_eq_true rfl) ⟨by show _ ≤ 91; omega, by show _ ≤ 1266; omega⟩ f71x rfl (fun E1 h9 hx => hx.2) (fun v9 h74 hv => ?_)
    obtain ⟨r72, rfl, rfl, hw⟩ := hv
    refine xr_aload S 1 dL_build_623 rfl ?_
    refine xr_iload S 2 dL_build_625 rfl ?_
    refine xw_iald S 2 dL_build_627 (Or.inr rfl) hw (fun v75 hw => ?_)
    refine xw_icmp_eq S 633 dL_build_628 (by decide) hw (fun c hw => ?_) (fun c hw => ?_)
    · refine xr_iinc S 2 ((l8 + 1)) [(8, .int (l8 + 1)), (0, .ref l0), (7, .ref l7)] dL_build_633 rfl rfl (by decide) rfl ?_
      refine xr_goto S (tgt := 611) dL_build_636 (by decide) ?_
      obtain ⟨hn8, hw⟩ := hw
      refine xr_widen S (k := (86 + 1 * (n9 + 1))) (n := (1186 + 6 * (n9 + 1))) (by omega) (by omega) ?_
      refine xr_sub S [(0, .ref l0), (7, .ref l7), (8, .int (l8 + 1))] [1, 2, 0] rfl ?_
      exact hr611 (n9 + 1, (l8 + 1)) hw hn8
    · refine xr_null S dL_build_631 ?_
      exact E.2.2.2.1 _ _ _ _ _ _ none rfl (Or.inr ⟨_, rfl⟩) dL_build_632 ⟨none, rfl, hw⟩ (by show _ ≤ 91; omega) (by show _ ≤ 1266; omega)
def w_L_build_592 (dc : Nat × Nat) (h : XH) (n9 : Nat) (l0 : Nat) (l1 : Nat) (l2 : Int32) (l6 : Nat) (l7 : Nat) (l8 : Int32) (t0 : Nat) (t1 : Int32) (t2 : Int32) (Po : Option Nat → XH → Prop) (rec502 : Nat × XH × Int32 → Prop) : Prop :=
  wO h t0 7 ( w_X6_addPilot dc h t0 t1 t2 (fun r94 h95 => wIf (r94 = l8) ((n9 + 1 ≤ 3 ∧ rec502 (n9 + 1, h95, (l8 + 1)))) (Po none h95)) (fun _ _ => False))
set_option maxRecDepth 100000 in
set_option maxHeartbeats 4000000 in
theorem k_L_build_592 {V : XVT} {X : XC} {l : Launch} (hfl : l.stackTraces = false) (S : xS V X l RL yL_build.name cL_build 10 wsL_build (xRm 9 194 91 1266)) (h : XH) (n9 : Nat) (hn9 : n9 ≤ 3) (l0 : Nat) (l1 : Nat) (l2 : Int32) (l6 : Nat) (l7 : Nat) (l8 : Int32) (t0 : Nat) (t1 : Int32) (t2 : Int32) (Po : Option Nat → XH → Prop) (E : xEnd V cL_build (some (.array .int)) 91 1266 (xPq Po)) (rec502 : Nat × XH × Int32 → Prop) (hr502 : ∀ s : Nat × XH × Int32, rec502 s → s.1 ≤ 3 → V (74 + 4 * s.1) (946 + 80 * s.1) s.2.1 502 [(0, .ref l0), (1, .ref l1), (2, .int l2), (6, .ref l6), (7, .ref l7), (8, .int s.2.2)] []) (hw : w_L_build_592 (xdc X) h n9 l0 l1 l2 l6 l7 l8 t0 t1 t2 Po rec502) : V (74 + 4 * n9) (946 + 80 * n9) h 592 [(0, .ref l0), (1, .ref l1), (2, .int l2), (6, .ref l6), (7, .ref l7), (8, .int l8)] [.int t2, .int t1, .ref t0] := by
  obtain ⟨e92, hw⟩ := hw
  obtain ⟨f93, f93x⟩ := id e92
  refine xr_callV0 S 7 [.int t1, .int t2] [] dL_build_592 (k_X6_addPilot l hfl (xdc X) h t0 t1 t2 _ _ hw) gL_build_X6_addPilot rfl pd_X6_addPilot ⟨Nat.le_of_ble_eq_true rfl, Nat.le_of_ble_eq_true rfl⟩ rfl (Nat.le_of_ble_eq_true rfl) ⟨by show _ ≤ 91; omega, by show _ ≤ 1266; omega⟩ f93x rfl (fun E1 h9 hx => hx) (fun v9 h95 hv => ?_)
  obtain ⟨r94, rfl, hw⟩ := hv
  refine xr_iload S 5 dL_build_595 rfl ?_
  refine xw_icmp_eq S 602 dL_build_597 (by decide) hw (fun c hw => ?_) (fun c hw => ?_)
  · refine xr_iinc S 5 ((l8 + 1)) [(8, .int (l8 + 1)), (0, .ref l0), (1, .ref l1), (2, .int l2), (6, .ref l6), (7, .ref l7)] dL_build_602 rfl rfl (by decide) rfl ?_
    refine xr_goto S (tgt := 502) dL_build_605 (by decide) ?_
    obtain ⟨hn8, hw⟩ := hw
    refine xr_widen S (k := (74 + 4 * (n9 + 1))) (n := (946 + 80 * (n9 + 1))) (by omega) (by omega) ?_
    refine xr_sub S [(0, .ref l0), (1, .ref l1), (2, .int l2), (6, .ref l6), (7, .ref l7), (8, .int (l8 + 1))] [1, 2, 3, 4, 5, 0] rfl ?_
    exact hr502 (n9 + 1, h95, (l8 + 1)) hw hn8
  · refine xr_null S dL_build_600 ?_
    exact E.2.2.2.1 _ _ _ _ _ _ none rfl (Or.inr ⟨_, rfl⟩) dL_build_601 ⟨none, rfl, hw⟩ (by show _ ≤ 91; omega) (by show _ ≤ 1266; omega)
def w_L_build_502_F (dc : Nat × Nat) (l0 : Nat) (l1 : Nat) (l2 : Int32) (l6 : Nat) (l7 : Nat) (Po : Option Nat → XH → Prop) (rec502 : Nat × XH × Int32 → Prop) : Nat × XH × Int32 → Prop := fun s => match s with
  | (n9, h, l8) =>
  wAI h 2 l7 3 (fun v69 => wIf (v69 ≤ l8) (w_L_build_611 dc h l0 l7 Po (0, 0)) (w_L_cell dc h l1 (l2 + 8) (fun r76 => w_L_below dc h (r76 >>> ((5 * l8) &&& 31)) 250 (fun r79 => wSI h 2 l6 (2 * l8) (100 + r79) (fun h82 => w_L_cell dc h82 l1 (l2 + 8) (fun r83 => w_L_below dc h82 (r83 >>> ((3 * l8) &&& 31)) 2 (fun r86 => wSI h82 2 l6 ((2 * l8) + 1) r86 (fun h89 => wAI h89 2 l6 (2 * l8) (fun v90 => wAI h89 2 l6 ((2 * l8) + 1) (fun v91 => wIf (v91 = 1) (w_L_build_592 dc h89 n9 l0 l1 l2 l6 l7 l8 l0 v90 1 Po rec502) (w_L_build_592 dc h89 n9 l0 l1 l2 l6 l7 l8 l0 v90 0 Po rec502)))))))))))
def w_L_build_502 (dc : Nat × Nat) (l0 : Nat) (l1 : Nat) (l2 : Int32) (l6 : Nat) (l7 : Nat) (Po : Option Nat → XH → Prop) : Nat × XH × Int32 → Prop := xloop (w_L_build_502_F dc l0 l1 l2 l6 l7 Po)
set_option maxRecDepth 100000 in
set_option maxHeartbeats 4000000 in
theorem k_L_build_502 {V : XVT} {X : XC} {l : Launch} (hfl : l.stackTraces = false) (S : xS V X l RL yL_build.name cL_build 10 wsL_build (xRm 9 194 91 1266)) (h : XH) (l0 : Nat) (l1 : Nat) (l2 : Int32) (l6 : Nat) (l7 : Nat) (Po : Option Nat → XH → Prop) (E : xEnd V cL_build (some (.array .int)) 91 1266 (xPq Po)) (s0 : Nat × XH × Int32) (hw : w_L_build_502 (xdc X) l0 l1 l2 l6 l7 Po s0) : s0.1 ≤ 3 → V (74 + 4 * s0.1) (946 + 80 * s0.1) s0.2.1 502 [(0, .ref l0), (1, .ref l1), (2, .int l2), (6, .ref l6), (7, .ref l7), (8, .int s0.2.2)] [] := by
  refine xloop_use (P := fun s : Nat × XH × Int32 => s.1 ≤ 3 → V (74 + 4 * s.1) (946 + 80 * s.1) s.2.1 502 [(0, .ref l0), (1, .ref l1), (2, .int l2), (6, .ref l6), (7, .ref l7), (8, .int s.2.2)] []) (fun rec502 hr502 s hw => ?_) hw
  obtain ⟨n9, h, l8⟩ := s
  try dsimp only
  dsimp only [w_L_build_502_F] at hw
  intro hn9
  refine xr_iload S 5 dL_build_502 rfl ?_
  refine xr_aload S 4 dL_build_504 rfl ?_
  refine xr_iconst S (3) dL_build_506 (by decide) ?_
  refine xw_iald S 2 dL_build_507 (Or.inr rfl) hw (fun v69 hw => ?_)
  refine xw_icmp_ge S 608 dL_build_508 (by decide) hw (fun c hw => ?_) (fun c hw => ?_)
  · refine xr_iconst S (0) dL_build_608 (by decide) ?_
    refine xr_istore S [(8, .int 0), (0, .ref l0), (1, .ref l1), (2, .int l2), (6, .ref l6), (7, .ref l7)] dL_build_609 (by decide) rfl ?_
    refine xr_widen S (k := (86 + 1 * 0)) (n := (1186 + 6 * 0)) (by omega) (by omega) ?_
    refine xr_sub S [(0, .ref l0), (7, .ref l7), (8, .int 0)] [1, 5, 0] rfl ?_
    exact k_L_build_611 hfl S h l0 l7 Po E (0, 0) hw (Nat.zero_le _)
  · refine xr_aload S 3 dL_build_511 rfl ?_
    refine xr_iconst S (2) dL_build_513 (by decide) ?_
    refine xr_iload S 5 dL_build_514 rfl ?_
    refine xr_imul S dL_build_516 ?_
    refine xr_bipush S (100) dL_build_517 (by decide) ?_
    refine xr_aload_n S 1 dL_build_519 rfl ?_
    refine xr_iload_n S 2 dL_build_520 rfl ?_
    refine xr_bipush S (8) dL_build_521 (by decide) ?_
    refine xr_iadd S dL_build_523 ?_
    refine xr_callS S [.ref l1, .int (l2 + 8)] [.int 100, .int (2 * l8), .ref l6] dL_build_524 (k_L_cell l (xdc X) h l1 (l2 + 8) _ hw) gL_build_L_cell rfl pd_L_cell ⟨Nat.le_of_ble_eq_true rfl, Nat.le_of_ble_eq_true rfl⟩ rfl (Nat.le_of_ble_eq_true rfl) ⟨by show _ ≤ 91; omega, by show _ ≤ 1266; omega⟩ (fun v9 h78 hv => ?_)
    obtain ⟨r76, rfl, rfl, hw⟩ := hv
    refine xr_iconst S (5) dL_build_527 (by decide) ?_
    refine xr_iload S 5 dL_build_528 rfl ?_
    refine xr_imul S dL_build_530 ?_
    refine xr_ishr S dL_build_531 ?_
    refine xr_sipush S (250) dL_build_532 (by decide) ?_
    refine xr_callS S [.int (r76 >>> ((5 * l8) &&& 31)), .int 250] [.int 100, .int (2 * l8), .ref l6] dL_build_535 (k_L_below l (xdc X) h (r76 >>> ((5 * l8) &&& 31)) 250 _ hw) gL_build_L_below rfl pd_L_below ⟨Nat.le_of_ble_eq_true rfl, Nat.le_of_ble_eq_true rfl⟩ rfl (Nat.le_of_ble_eq_true rfl) ⟨by show _ ≤ 91; omega, by show _ ≤ 1266; omega⟩ (fun v9 h81 hv => ?_)
    obtain ⟨r79, rfl, rfl, hw⟩ := hv
    refine xr_iadd S dL_build_538 ?_
    refine xw_iast S 2 dL_build_539 (Or.inr rfl) hw (fun h82 hw => ?_)
    refine xr_aload S 3 dL_build_540 rfl ?_
    refine xr_iconst S (2) dL_build_542 (by decide) ?_
    refine xr_iload S 5 dL_build_543 rfl ?_
    refine xr_imul S dL_build_545 ?_
    refine xr_iconst S (1) dL_build_546 (by decide) ?_
    refine xr_iadd S dL_build_547 ?_
    refine xr_aload_n S 1 dL_build_548 rfl ?_
    refine xr_iload_n S 2 dL_build_549 rfl ?_
    refine xr_bipush S (8) dL_build_550 (by decide) ?_
    refine xr_iadd S dL_build_552 ?_
    refine xr_callS S [.ref l1, .int (l2 + 8)] [.int ((2 * l8) + 1), .ref l6] dL_build_553 (k_L_cell l (xdc X) h82 l1 (l2 + 8) _ hw) gL_build_L_cell rfl pd_L_cell ⟨Nat.le_of_ble_eq_true rfl, Nat.le_of_ble_eq_true rfl⟩ rfl (Nat.le_of_ble_eq_true rfl) ⟨by show _ ≤ 91; omega, by show _ ≤ 1266; omega⟩ (fun v9 h85 hv => ?_)
    obtain ⟨r83, rfl, rfl, hw⟩ := hv
    refine xr_iconst S (3) dL_build_556 (by decide) ?_
    refine xr_iload S 5 dL_build_557 rfl ?_
    refine xr_imul S dL_build_559 ?_
    refine xr_ishr S dL_build_560 ?_
    refine xr_iconst S (2) dL_build_561 (by decide) ?_
    refine xr_callS S [.int (r83 >>> ((3 * l8) &&& 31)), .int 2] [.int ((2 * l8) + 1), .ref l6] dL_build_562 (k_L_below l (xdc X) h82 (r83 >>> ((3 * l8) &&& 31)) 2 _ hw) gL_build_L_below rfl pd_L_below ⟨Nat.le_of_ble_eq_true rfl, Nat.le_of_ble_eq_true rfl⟩ rfl (Nat.le_of_ble_eq_true rfl) ⟨by show _ ≤ 91; omega, by show _ ≤ 1266; omega⟩ (fun v9 h88 hv => ?_)
    obtain ⟨r86, rfl, rfl, hw⟩ := hv
    refine xw_iast S 2 dL_build_565 (Or.inr rfl) hw (fun h89 hw => ?_)
    refine xr_aload_n S 0 dL_build_566 rfl ?_
    refine xr_aload S 3 dL_build_567 rfl ?_
    refine xr_iconst S (2) dL_build_569 (by decide) ?_
    refine xr_iload S 5 dL_build_570 rfl ?_
    refine xr_imul S dL_build_572 ?_
    refine xw_iald S 2 dL_build_573 (Or.inr rfl) hw (fun v90 hw => ?_)
    refine xr_aload S 3 dL_build_574 rfl ?_
    refine xr_iconst S (2) dL_build_576 (by decide) ?_
    refine xr_iload S 5 dL_build_577 rfl ?_
    refine xr_imul S dL_build_579 ?_
    refine xr_iconst S (1) dL_build_580 (by decide) ?_
    refine xr_iadd S dL_build_581 ?_
    refine xw_iald S 2 dL_build_582 (Or.inr rfl) hw (fun v91 hw => ?_)
    refine xr_iconst S (1) dL_build_583 (by decide) ?_
    refine xw_icmp_ne S 591 dL_build_584 (by decide) hw (fun c hw => ?_) (fun c hw => ?_)
    · refine xr_iconst S (0) dL_build_591 (by decide) ?_
      refine xr_widen S (k := (74 + 4 * n9)) (n := (946 + 80 * n9)) (by omega) (by omega) ?_
      exact k_L_build_592 hfl S h89 n9 hn9 l0 l1 l2 l6 l7 l8 l0 v90 0 Po E rec502 hr502 hw
    · refine xr_iconst S (1) dL_build_587 (by decide) ?_
      refine xr_goto S (tgt := 592) dL_build_588 (by decide) ?_
      refine xr_widen S (k := (74 + 4 * n9)) (n := (946 + 80 * n9)) (by omega) (by omega) ?_
      exact k_L_build_592 hfl S h89 n9 hn9 l0 l1 l2 l6 l7 l8 l0 v90 1 Po E rec502 hr502 hw
def w_L_build_396_F (dc : Nat × Nat) (l0 : Nat) (l1 : Nat) (l2 : Int32) (l5 : Nat) (l6 : Nat) (l7 : Nat) (Po : Option Nat → XH → Prop) (rec396 : Nat × XH × Int32 → Prop) : Nat × XH × Int32 → Prop := fun s => match s with
  | (n9, h, l8) =>
  wAI h 2 l7 2 (fun v68 => wIf (v68 ≤ l8) (w_L_build_502 dc l0 l1 l2 l6 l7 Po (0, h, 0)) (w_L_cell dc h l1 (l2 + 6) (fun r97 => w_L_below dc h (r97 >>> ((4 * l8) &&& 31)) 220 (fun r100 => wSI h 2 l5 (2 * l8) (40 + r100) (fun h103 => w_L_cell dc h103 l1 (l2 + 7) (fun r104 => w_L_below dc h103 (r104 >>> ((4 * l8) &&& 31)) 600 (fun r107 => wSI h103 2 l5 ((2 * l8) + 1) (300 + r107) (fun h110 => wAI h110 2 l5 (2 * l8) (fun v111 => wAI h110 2 l5 ((2 * l8) + 1) (fun v112 => wO h110 l0 7 ( w_X6_addShip dc h110 l0 v111 v112 (fun r115 h116 => wIf (r115 = l8) ((n9 + 1 ≤ 6 ∧ rec396 (n9 + 1, h116, (l8 + 1)))) (Po none h116)) (fun _ _ => False))))))))))))
def w_L_build_396 (dc : Nat × Nat) (l0 : Nat) (l1 : Nat) (l2 : Int32) (l5 : Nat) (l6 : Nat) (l7 : Nat) (Po : Option Nat → XH → Prop) : Nat × XH × Int32 → Prop := xloop (w_L_build_396_F dc l0 l1 l2 l5 l6 l7 Po)
set_option maxRecDepth 100000 in
set_option maxHeartbeats 4000000 in
theorem k_L_build_396 {V : XVT} {X : XC} {l : Launch} (hfl : l.stackTraces = false) (S : xS V X l RL yL_build.name cL_build 10 wsL_build (xRm 9 194 91 1266)) (h : XH) (l0 : Nat) (l1 : Nat) (l2 : Int32) (l5 : Nat) (l6 : Nat) (l7 : Nat) (Po : Option Nat → XH → Prop) (E : xEnd V cL_build (some (.array .int)) 91 1266 (xPq Po)) (s0 : Nat × XH × Int32) (hw : w_L_build_396 (xdc X) l0 l1 l2 l5 l6 l7 Po s0) : s0.1 ≤ 6 → V (44 + 5 * s0.1) (430 + 86 * s0.1) s0.2.1 396 [(0, .ref l0), (1, .ref l1), (2, .int l2), (5, .ref l5), (6, .ref l6), (7, .ref l7), (8, .int s0.2.2)] [] := by
  refine xloop_use (P := fun s : Nat × XH × Int32 => s.1 ≤ 6 → V (44 + 5 * s.1) (430 + 86 * s.1) s.2.1 396 [(0, .ref l0), (1, .ref l1), (2, .int l2), (5, .ref l5), (6, .ref l6), (7, .ref l7), (8, .int s.2.2)] []) (fun rec396 hr396 s hw => ?_) hw
  obtain ⟨n9, h, l8⟩ := s
  try dsimp only
  dsimp only [w_L_build_396_F] at hw
  intro hn9
  refine xr_iload S 6 dL_build_396 rfl ?_
  refine xr_aload S 5 dL_build_398 rfl ?_
  refine xr_iconst S (2) dL_build_400 (by decide) ?_
  refine xw_iald S 2 dL_build_401 (Or.inr rfl) hw (fun v68 hw => ?_)
  refine xw_icmp_ge S 499 dL_build_402 (by decide) hw (fun c hw => ?_) (fun c hw => ?_)
  · refine xr_iconst S (0) dL_build_499 (by decide) ?_
    refine xr_istore S [(8, .int 0), (0, .ref l0), (1, .ref l1), (2, .int l2), (5, .ref l5), (6, .ref l6), (7, .ref l7)] dL_build_500 (by decide) rfl ?_
    refine xr_widen S (k := (74 + 4 * 0)) (n := (946 + 80 * 0)) (by omega) (by omega) ?_
    refine xr_sub S [(0, .ref l0), (1, .ref l1), (2, .int l2), (6, .ref l6), (7, .ref l7), (8, .int 0)] [1, 2, 3, 5, 6, 0] rfl ?_
    exact k_L_build_502 hfl S h l0 l1 l2 l6 l7 Po E (0, h, 0) hw (Nat.zero_le _)
  · refine xr_aload S 3 dL_build_405 rfl ?_
    refine xr_iconst S (2) dL_build_407 (by decide) ?_
    refine xr_iload S 6 dL_build_408 rfl ?_
    refine xr_imul S dL_build_410 ?_
    refine xr_bipush S (40) dL_build_411 (by decide) ?_
    refine xr_aload_n S 1 dL_build_413 rfl ?_
    refine xr_iload_n S 2 dL_build_414 rfl ?_
    refine xr_bipush S (6) dL_build_415 (by decide) ?_
    refine xr_iadd S dL_build_417 ?_
    refine xr_callS S [.ref l1, .int (l2 + 6)] [.int 40, .int (2 * l8), .ref l5] dL_build_418 (k_L_cell l (xdc X) h l1 (l2 + 6) _ hw) gL_build_L_cell rfl pd_L_cell ⟨Nat.le_of_ble_eq_true rfl, Nat.le_of_ble_eq_true rfl⟩ rfl (Nat.le_of_ble_eq_true rfl) ⟨by show _ ≤ 91; omega, by show _ ≤ 1266; omega⟩ (fun v9 h99 hv => ?_)
    obtain ⟨r97, rfl, rfl, hw⟩ := hv
    refine xr_iconst S (4) dL_build_421 (by decide) ?_
    refine xr_iload S 6 dL_build_422 rfl ?_
    refine xr_imul S dL_build_424 ?_
    refine xr_ishr S dL_build_425 ?_
    refine xr_sipush S (220) dL_build_426 (by decide) ?_
    refine xr_callS S [.int (r97 >>> ((4 * l8) &&& 31)), .int 220] [.int 40, .int (2 * l8), .ref l5] dL_build_429 (k_L_below l (xdc X) h (r97 >>> ((4 * l8) &&& 31)) 220 _ hw) gL_build_L_below rfl pd_L_below ⟨Nat.le_of_ble_eq_true rfl, Nat.le_of_ble_eq_true rfl⟩ rfl (Nat.le_of_ble_eq_true rfl) ⟨by show _ ≤ 91; omega, by show _ ≤ 1266; omega⟩ (fun v9 h102 hv => ?_)
    obtain ⟨r100, rfl, rfl, hw⟩ := hv
    refine xr_iadd S dL_build_432 ?_
    refine xw_iast S 2 dL_build_433 (Or.inr rfl) hw (fun h103 hw => ?_)
    refine xr_aload S 3 dL_build_434 rfl ?_
    refine xr_iconst S (2) dL_build_436 (by decide) ?_
    refine xr_iload S 6 dL_build_437 rfl ?_
    refine xr_imul S dL_build_439 ?_
    refine xr_iconst S (1) dL_build_440 (by decide) ?_
    refine xr_iadd S dL_build_441 ?_
    refine xr_sipush S (300) dL_build_442 (by decide) ?_
    refine xr_aload_n S 1 dL_build_445 rfl ?_
    refine xr_iload_n S 2 dL_build_446 rfl ?_
    refine xr_bipush S (7) dL_build_447 (by decide) ?_
    refine xr_iadd S dL_build_449 ?_
    refine xr_callS S [.ref l1, .int (l2 + 7)] [.int 300, .int ((2 * l8) + 1), .ref l5] dL_build_450 (k_L_cell l (xdc X) h103 l1 (l2 + 7) _ hw) gL_build_L_cell rfl pd_L_cell ⟨Nat.le_of_ble_eq_true rfl, Nat.le_of_ble_eq_true rfl⟩ rfl (Nat.le_of_ble_eq_true rfl) ⟨by show _ ≤ 91; omega, by show _ ≤ 1266; omega⟩ (fun v9 h106 hv => ?_)
    obtain ⟨r104, rfl, rfl, hw⟩ := hv
    refine xr_iconst S (4) dL_build_453 (by decide) ?_
    refine xr_iload S 6 dL_build_454 rfl ?_
    refine xr_imul S dL_build_456 ?_
    refine xr_ishr S dL_build_457 ?_
    refine xr_sipush S (600) dL_build_458 (by decide) ?_
    refine xr_callS S [.int (r104 >>> ((4 * l8) &&& 31)), .int 600] [.int 300, .int ((2 * l8) + 1), .ref l5] dL_build_461 (k_L_below l (xdc X) h103 (r104 >>> ((4 * l8) &&& 31)) 600 _ hw) gL_build_L_below rfl pd_L_below ⟨Nat.le_of_ble_eq_true rfl, Nat.le_of_ble_eq_true rfl⟩ rfl (Nat.le_of_ble_eq_true rfl) ⟨by show _ ≤ 91; omega, by show _ ≤ 1266; omega⟩ (fun v9 h109 hv => ?_)
    obtain ⟨r107, rfl, rfl, hw⟩ := hv
    refine xr_iadd S dL_build_464 ?_
    refine xw_iast S 2 dL_build_465 (Or.inr rfl) hw (fun h110 hw => ?_)
    refine xr_aload_n S 0 dL_build_466 rfl ?_
    refine xr_aload S 3 dL_build_467 rfl ?_
    refine xr_iconst S (2) dL_build_469 (by decide) ?_
    refine xr_iload S 6 dL_build_470 rfl ?_
    refine xr_imul S dL_build_472 ?_
    refine xw_iald S 2 dL_build_473 (Or.inr rfl) hw (fun v111 hw => ?_)
    refine xr_aload S 3 dL_build_474 rfl ?_
    refine xr_iconst S (2) dL_build_476 (by decide) ?_
    refine xr_iload S 6 dL_build_477 rfl ?_
    refine xr_imul S dL_build_479 ?_
    refine xr_iconst S (1) dL_build_480 (by decide) ?_
    refine xr_iadd S dL_build_481 ?_
    refine xw_iald S 2 dL_build_482 (Or.inr rfl) hw (fun v112 hw => ?_)
    obtain ⟨e113, hw⟩ := hw
    obtain ⟨f114, f114x⟩ := id e113
    refine xr_callV0 S 7 [.int v111, .int v112] [] dL_build_483 (k_X6_addShip l hfl (xdc X) h110 l0 v111 v112 _ _ hw) gL_build_X6_addShip rfl pd_X6_addShip ⟨Nat.le_of_ble_eq_true rfl, Nat.le_of_ble_eq_true rfl⟩ rfl (Nat.le_of_ble_eq_true rfl) ⟨by show _ ≤ 91; omega, by show _ ≤ 1266; omega⟩ f114x rfl (fun E1 h9 hx => hx) (fun v9 h116 hv => ?_)
    obtain ⟨r115, rfl, hw⟩ := hv
    refine xr_iload S 6 dL_build_486 rfl ?_
    refine xw_icmp_eq S 493 dL_build_488 (by decide) hw (fun c hw => ?_) (fun c hw => ?_)
    · refine xr_iinc S 6 ((l8 + 1)) [(8, .int (l8 + 1)), (0, .ref l0), (1, .ref l1), (2, .int l2), (5, .ref l5), (6, .ref l6), (7, .ref l7)] dL_build_493 rfl rfl (by decide) rfl ?_
      refine xr_goto S (tgt := 396) dL_build_496 (by decide) ?_
      obtain ⟨hn8, hw⟩ := hw
      refine xr_widen S (k := (44 + 5 * (n9 + 1))) (n := (430 + 86 * (n9 + 1))) (by omega) (by omega) ?_
      refine xr_sub S [(0, .ref l0), (1, .ref l1), (2, .int l2), (5, .ref l5), (6, .ref l6), (7, .ref l7), (8, .int (l8 + 1))] [1, 2, 3, 4, 5, 6, 0] rfl ?_
      exact hr396 (n9 + 1, h116, (l8 + 1)) hw hn8
    · refine xr_null S dL_build_491 ?_
      exact E.2.2.2.1 _ _ _ _ _ _ none rfl (Or.inr ⟨_, rfl⟩) dL_build_492 ⟨none, rfl, hw⟩ (by show _ ≤ 91; omega) (by show _ ≤ 1266; omega)
def w_L_build_292_F (dc : Nat × Nat) (l0 : Nat) (l1 : Nat) (l2 : Int32) (l4 : Nat) (l5 : Nat) (l6 : Nat) (l7 : Nat) (Po : Option Nat → XH → Prop) (rec292 : Nat × XH × Int32 → Prop) : Nat × XH × Int32 → Prop := fun s => match s with
  | (n9, h, l8) =>
  wAI h 2 l7 1 (fun v67 => wIf (v67 ≤ l8) (w_L_build_396 dc l0 l1 l2 l5 l6 l7 Po (0, h, 0)) (w_L_cell dc h l1 (l2 + 5) (fun r118 => w_L_below dc h (r118 >>> ((3 * l8) &&& 31)) 200 (fun r121 => wSI h 2 l4 (2 * l8) (80 + r121) (fun h124 => w_L_cell dc h124 l1 (l2 + 5) (fun r125 => w_L_below dc h124 (r125 >>> ((4 * l8) &&& 31)) 700 (fun r128 => wSI h124 2 l4 ((2 * l8) + 1) (600 + r128) (fun h131 => wAI h131 2 l4 (2 * l8) (fun v132 => wAI h131 2 l4 ((2 * l8) + 1) (fun v133 => wO h131 l0 7 ( w_X6_addBerth dc h131 l0 v132 v133 (fun r136 h137 => wIf (r136 = l8) ((n9 + 1 ≤ 3 ∧ rec292 (n9 + 1, h137, (l8 + 1)))) (Po none h137)) (fun _ _ => False))))))))))))
def w_L_build_292 (dc : Nat × Nat) (l0 : Nat) (l1 : Nat) (l2 : Int32) (l4 : Nat) (l5 : Nat) (l6 : Nat) (l7 : Nat) (Po : Option Nat → XH → Prop) : Nat × XH × Int32 → Prop := xloop (w_L_build_292_F dc l0 l1 l2 l4 l5 l6 l7 Po)
set_option maxRecDepth 100000 in
set_option maxHeartbeats 4000000 in
theorem k_L_build_292 {V : XVT} {X : XC} {l : Launch} (hfl : l.stackTraces = false) (S : xS V X l RL yL_build.name cL_build 10 wsL_build (xRm 9 194 91 1266)) (h : XH) (l0 : Nat) (l1 : Nat) (l2 : Int32) (l4 : Nat) (l5 : Nat) (l6 : Nat) (l7 : Nat) (Po : Option Nat → XH → Prop) (E : xEnd V cL_build (some (.array .int)) 91 1266 (xPq Po)) (s0 : Nat × XH × Int32) (hw : w_L_build_292 (xdc X) l0 l1 l2 l4 l5 l6 l7 Po s0) : s0.1 ≤ 3 → V (29 + 5 * s0.1) (175 + 85 * s0.1) s0.2.1 292 [(0, .ref l0), (1, .ref l1), (2, .int l2), (4, .ref l4), (5, .ref l5), (6, .ref l6), (7, .ref l7), (8, .int s0.2.2)] [] := by
  refine xloop_use (P := fun s : Nat × XH × Int32 => s.1 ≤ 3 → V (29 + 5 * s.1) (175 + 85 * s.1) s.2.1 292 [(0, .ref l0), (1, .ref l1), (2, .int l2), (4, .ref l4), (5, .ref l5), (6, .ref l6), (7, .ref l7), (8, .int s.2.2)] []) (fun rec292 hr292 s hw => ?_) hw
  obtain ⟨n9, h, l8⟩ := s
  try dsimp only
  dsimp only [w_L_build_292_F] at hw
  intro hn9
  refine xr_iload S 7 dL_build_292 rfl ?_
  refine xr_aload S 6 dL_build_294 rfl ?_
  refine xr_iconst S (1) dL_build_296 (by decide) ?_
  refine xw_iald S 2 dL_build_297 (Or.inr rfl) hw (fun v67 hw => ?_)
  refine xw_icmp_ge S 393 dL_build_298 (by decide) hw (fun c hw => ?_) (fun c hw => ?_)
  · refine xr_iconst S (0) dL_build_393 (by decide) ?_
    refine xr_istore S [(8, .int 0), (0, .ref l0), (1, .ref l1), (2, .int l2), (4, .ref l4), (5, .ref l5), (6, .ref l6), (7, .ref l7)] dL_build_394 (by decide) rfl ?_
    refine xr_widen S (k := (44 + 5 * 0)) (n := (430 + 86 * 0)) (by omega) (by omega) ?_
    refine xr_sub S [(0, .ref l0), (1, .ref l1), (2, .int l2), (5, .ref l5), (6, .ref l6), (7, .ref l7), (8, .int 0)] [1, 2, 3, 5, 6, 7, 0] rfl ?_
    exact k_L_build_396 hfl S h l0 l1 l2 l5 l6 l7 Po E (0, h, 0) hw (Nat.zero_le _)
  · refine xr_aload S 3 dL_build_301 rfl ?_
    refine xr_iconst S (2) dL_build_303 (by decide) ?_
    refine xr_iload S 7 dL_build_304 rfl ?_
    refine xr_imul S dL_build_306 ?_
    refine xr_bipush S (80) dL_build_307 (by decide) ?_
    refine xr_aload_n S 1 dL_build_309 rfl ?_
    refine xr_iload_n S 2 dL_build_310 rfl ?_
    refine xr_iconst S (5) dL_build_311 (by decide) ?_
    refine xr_iadd S dL_build_312 ?_
    refine xr_callS S [.ref l1, .int (l2 + 5)] [.int 80, .int (2 * l8), .ref l4] dL_build_313 (k_L_cell l (xdc X) h l1 (l2 + 5) _ hw) gL_build_L_cell rfl pd_L_cell ⟨Nat.le_of_ble_eq_true rfl, Nat.le_of_ble_eq_true rfl⟩ rfl (Nat.le_of_ble_eq_true rfl) ⟨by show _ ≤ 91; omega, by show _ ≤ 1266; omega⟩ (fun v9 h120 hv => ?_)
    obtain ⟨r118, rfl, rfl, hw⟩ := hv
    refine xr_iconst S (3) dL_build_316 (by decide) ?_
    refine xr_iload S 7 dL_build_317 rfl ?_
    refine xr_imul S dL_build_319 ?_
    refine xr_ishr S dL_build_320 ?_
    refine xr_sipush S (200) dL_build_321 (by decide) ?_
    refine xr_callS S [.int (r118 >>> ((3 * l8) &&& 31)), .int 200] [.int 80, .int (2 * l8), .ref l4] dL_build_324 (k_L_below l (xdc X) h (r118 >>> ((3 * l8) &&& 31)) 200 _ hw) gL_build_L_below rfl pd_L_below ⟨Nat.le_of_ble_eq_true rfl, Nat.le_of_ble_eq_true rfl⟩ rfl (Nat.le_of_ble_eq_true rfl) ⟨by show _ ≤ 91; omega, by show _ ≤ 1266; omega⟩ (fun v9 h123 hv => ?_)
    obtain ⟨r121, rfl, rfl, hw⟩ := hv
    refine xr_iadd S dL_build_327 ?_
    refine xw_iast S 2 dL_build_328 (Or.inr rfl) hw (fun h124 hw => ?_)
    refine xr_aload S 3 dL_build_329 rfl ?_
    refine xr_iconst S (2) dL_build_331 (by decide) ?_
    refine xr_iload S 7 dL_build_332 rfl ?_
    refine xr_imul S dL_build_334 ?_
    refine xr_iconst S (1) dL_build_335 (by decide) ?_
    refine xr_iadd S dL_build_336 ?_
    refine xr_sipush S (600) dL_build_337 (by decide) ?_
    refine xr_aload_n S 1 dL_build_340 rfl ?_
    refine xr_iload_n S 2 dL_build_341 rfl ?_
    refine xr_iconst S (5) dL_build_342 (by decide) ?_
    refine xr_iadd S dL_build_343 ?_
    refine xr_callS S [.ref l1, .int (l2 + 5)] [.int 600, .int ((2 * l8) + 1), .ref l4] dL_build_344 (k_L_cell l (xdc X) h124 l1 (l2 + 5) _ hw) gL_build_L_cell rfl pd_L_cell ⟨Nat.le_of_ble_eq_true rfl, Nat.le_of_ble_eq_true rfl⟩ rfl (Nat.le_of_ble_eq_true rfl) ⟨by show _ ≤ 91; omega, by show _ ≤ 1266; omega⟩ (fun v9 h127 hv => ?_)
    obtain ⟨r125, rfl, rfl, hw⟩ := hv
    refine xr_iconst S (4) dL_build_347 (by decide) ?_
    refine xr_iload S 7 dL_build_348 rfl ?_
    refine xr_imul S dL_build_350 ?_
    refine xr_ishr S dL_build_351 ?_
    refine xr_sipush S (700) dL_build_352 (by decide) ?_
    refine xr_callS S [.int (r125 >>> ((4 * l8) &&& 31)), .int 700] [.int 600, .int ((2 * l8) + 1), .ref l4] dL_build_355 (k_L_below l (xdc X) h124 (r125 >>> ((4 * l8) &&& 31)) 700 _ hw) gL_build_L_below rfl pd_L_below ⟨Nat.le_of_ble_eq_true rfl, Nat.le_of_ble_eq_true rfl⟩ rfl (Nat.le_of_ble_eq_true rfl) ⟨by show _ ≤ 91; omega, by show _ ≤ 1266; omega⟩ (fun v9 h130 hv => ?_)
    obtain ⟨r128, rfl, rfl, hw⟩ := hv
    refine xr_iadd S dL_build_358 ?_
    refine xw_iast S 2 dL_build_359 (Or.inr rfl) hw (fun h131 hw => ?_)
    refine xr_aload_n S 0 dL_build_360 rfl ?_
    refine xr_aload S 3 dL_build_361 rfl ?_
    refine xr_iconst S (2) dL_build_363 (by decide) ?_
    refine xr_iload S 7 dL_build_364 rfl ?_
    refine xr_imul S dL_build_366 ?_
    refine xw_iald S 2 dL_build_367 (Or.inr rfl) hw (fun v132 hw => ?_)
    refine xr_aload S 3 dL_build_368 rfl ?_
    refine xr_iconst S (2) dL_build_370 (by decide) ?_
    refine xr_iload S 7 dL_build_371 rfl ?_
    refine xr_imul S dL_build_373 ?_
    refine xr_iconst S (1) dL_build_374 (by decide) ?_
    refine xr_iadd S dL_build_375 ?_
    refine xw_iald S 2 dL_build_376 (Or.inr rfl) hw (fun v133 hw => ?_)
    obtain ⟨e134, hw⟩ := hw
    obtain ⟨f135, f135x⟩ := id e134
    refine xr_callV0 S 7 [.int v132, .int v133] [] dL_build_377 (k_X6_addBerth l hfl (xdc X) h131 l0 v132 v133 _ _ hw) gL_build_X6_addBerth rfl pd_X6_addBerth ⟨Nat.le_of_ble_eq_true rfl, Nat.le_of_ble_eq_true rfl⟩ rfl (Nat.le_of_ble_eq_true rfl) ⟨by show _ ≤ 91; omega, by show _ ≤ 1266; omega⟩ f135x rfl (fun E1 h9 hx => hx) (fun v9 h137 hv => ?_)
    obtain ⟨r136, rfl, hw⟩ := hv
    refine xr_iload S 7 dL_build_380 rfl ?_
    refine xw_icmp_eq S 387 dL_build_382 (by decide) hw (fun c hw => ?_) (fun c hw => ?_)
    · refine xr_iinc S 7 ((l8 + 1)) [(8, .int (l8 + 1)), (0, .ref l0), (1, .ref l1), (2, .int l2), (4, .ref l4), (5, .ref l5), (6, .ref l6), (7, .ref l7)] dL_build_387 rfl rfl (by decide) rfl ?_
      refine xr_goto S (tgt := 292) dL_build_390 (by decide) ?_
      obtain ⟨hn8, hw⟩ := hw
      refine xr_widen S (k := (29 + 5 * (n9 + 1))) (n := (175 + 85 * (n9 + 1))) (by omega) (by omega) ?_
      refine xr_sub S [(0, .ref l0), (1, .ref l1), (2, .int l2), (4, .ref l4), (5, .ref l5), (6, .ref l6), (7, .ref l7), (8, .int (l8 + 1))] [1, 2, 3, 4, 5, 6, 7, 0] rfl ?_
      exact hr292 (n9 + 1, h137, (l8 + 1)) hw hn8
    · refine xr_null S dL_build_385 ?_
      exact E.2.2.2.1 _ _ _ _ _ _ none rfl (Or.inr ⟨_, rfl⟩) dL_build_386 ⟨none, rfl, hw⟩ (by show _ ≤ 91; omega) (by show _ ≤ 1266; omega)
def w_L_build_215_F (dc : Nat × Nat) (l0 : Nat) (l1 : Nat) (l2 : Int32) (l3 : Nat) (l4 : Nat) (l5 : Nat) (l6 : Nat) (l7 : Nat) (Po : Option Nat → XH → Prop) (rec215 : Nat × XH × Int32 → Prop) : Nat × XH × Int32 → Prop := fun s => match s with
  | (n9, h, l8) =>
  wIf (l8 < 0) (wAI h 2 l7 5 (fun v54 => wAI h 2 l7 6 (fun v55 => wO h l0 7 ( w_X6_setWater dc h l0 v54 v55 (fun r58 h59 => wIf (r58 = 1000) (wAI h59 2 l7 4 (fun v61 => wO h59 l0 7 ( w_X6_setTugs dc h59 l0 v61 (fun r64 h65 => wIf (r64 = 4) (w_L_build_292 dc l0 l1 l2 l4 l5 l6 l7 Po (0, h65, 0)) (Po none h65)) (fun _ _ => False)))) (Po none h59)) (fun _ _ => False))))) (wAI h 2 l3 (2 * l8) (fun v139 => wAI h 2 l3 ((2 * l8) + 1) (fun v140 => wO h l0 7 ( w_X6_addTide dc h l0 v139 v140 (fun r143 h144 => wAI h144 2 l7 0 (fun v146 => wIf (r143 = (v146 - l8)) ((n9 + 1 ≤ 8 ∧ rec215 (n9 + 1, h144, (l8 + (-1))))) (Po none h144))) (fun _ _ => False)))))
def w_L_build_215 (dc : Nat × Nat) (l0 : Nat) (l1 : Nat) (l2 : Int32) (l3 : Nat) (l4 : Nat) (l5 : Nat) (l6 : Nat) (l7 : Nat) (Po : Option Nat → XH → Prop) : Nat × XH × Int32 → Prop := xloop (w_L_build_215_F dc l0 l1 l2 l3 l4 l5 l6 l7 Po)
set_option maxRecDepth 100000 in
set_option maxHeartbeats 4000000 in
theorem k_L_build_215 {V : XVT} {X : XC} {l : Launch} (hfl : l.stackTraces = false) (S : xS V X l RL yL_build.name cL_build 10 wsL_build (xRm 9 194 91 1266)) (h : XH) (l0 : Nat) (l1 : Nat) (l2 : Int32) (l3 : Nat) (l4 : Nat) (l5 : Nat) (l6 : Nat) (l7 : Nat) (Po : Option Nat → XH → Prop) (E : xEnd V cL_build (some (.array .int)) 91 1266 (xPq Po)) (s0 : Nat × XH × Int32) (hw : w_L_build_215 (xdc X) l0 l1 l2 l3 l4 l5 l6 l7 Po s0) : s0.1 ≤ 8 → V (1 + 3 * s0.1) (7 + 18 * s0.1) s0.2.1 215 [(0, .ref l0), (1, .ref l1), (2, .int l2), (3, .ref l3), (4, .ref l4), (5, .ref l5), (6, .ref l6), (7, .ref l7), (8, .int s0.2.2)] [] := by
  refine xloop_use (P := fun s : Nat × XH × Int32 => s.1 ≤ 8 → V (1 + 3 * s.1) (7 + 18 * s.1) s.2.1 215 [(0, .ref l0), (1, .ref l1), (2, .int l2), (3, .ref l3), (4, .ref l4), (5, .ref l5), (6, .ref l6), (7, .ref l7), (8, .int s.2.2)] []) (fun rec215 hr215 s hw => ?_) hw
  obtain ⟨n9, h, l8⟩ := s
  try dsimp only
  dsimp only [w_L_build_215_F] at hw
  intro hn9
  refine xr_iload S 8 dL_build_215 rfl ?_
  refine xw_if_lt S 256 dL_build_217 (by decide) hw (fun c hw => ?_) (fun c hw => ?_)
  · refine xr_aload_n S 0 dL_build_256 rfl ?_
    refine xr_aload S 7 dL_build_257 rfl ?_
    refine xr_iconst S (5) dL_build_259 (by decide) ?_
    refine xw_iald S 2 dL_build_260 (Or.inr rfl) hw (fun v54 hw => ?_)
    refine xr_aload S 7 dL_build_261 rfl ?_
    refine xr_bipush S (6) dL_build_263 (by decide) ?_
    refine xw_iald S 2 dL_build_265 (Or.inr rfl) hw (fun v55 hw => ?_)
    obtain ⟨e56, hw⟩ := hw
    obtain ⟨f57, f57x⟩ := id e56
    refine xr_callV0 S 7 [.int v54, .int v55] [] dL_build_266 (k_X6_setWater l hfl (xdc X) h l0 v54 v55 _ _ hw) gL_build_X6_setWater rfl pd_X6_setWater ⟨Nat.le_of_ble_eq_true rfl, Nat.le_of_ble_eq_true rfl⟩ rfl (Nat.le_of_ble_eq_true rfl) ⟨by show _ ≤ 91; omega, by show _ ≤ 1266; omega⟩ f57x rfl (fun E1 h9 hx => hx) (fun v9 h59 hv => ?_)
    obtain ⟨r58, rfl, hw⟩ := hv
    refine xr_sipush S (1000) dL_build_269 (by decide) ?_
    refine xw_icmp_ne S 287 dL_build_272 (by decide) hw (fun c hw => ?_) (fun c hw => ?_)
    · refine xr_null S dL_build_287 ?_
      exact E.2.2.2.1 _ _ _ _ _ _ none rfl (Or.inr ⟨_, rfl⟩) dL_build_288 ⟨none, rfl, hw⟩ (by show _ ≤ 91; omega) (by show _ ≤ 1266; omega)
    · refine xr_aload_n S 0 dL_build_275 rfl ?_
      refine xr_aload S 7 dL_build_276 rfl ?_
      refine xr_iconst S (4) dL_build_278 (by decide) ?_
      refine xw_iald S 2 dL_build_279 (Or.inr rfl) hw (fun v61 hw => ?_)
      obtain ⟨e62, hw⟩ := hw
      obtain ⟨f63, f63x⟩ := id e62
      refine xr_callV0 S 7 [.int v61] [] dL_build_280 (k_X6_setTugs l hfl (xdc X) h59 l0 v61 _ _ hw) gL_build_X6_setTugs rfl pd_X6_setTugs ⟨Nat.le_of_ble_eq_true rfl, Nat.le_of_ble_eq_true rfl⟩ rfl (Nat.le_of_ble_eq_true rfl) ⟨by show _ ≤ 91; omega, by show _ ≤ 1266; omega⟩ f63x rfl (fun E1 h9 hx => hx) (fun v9 h65 hv => ?_)
      obtain ⟨r64, rfl, hw⟩ := hv
      refine xr_iconst S (4) dL_build_283 (by decide) ?_
      refine xw_icmp_eq S 289 dL_build_284 (by decide) hw (fun c hw => ?_) (fun c hw => ?_)
      · refine xr_iconst S (0) dL_build_289 (by decide) ?_
        refine xr_istore S [(8, .int 0), (0, .ref l0), (1, .ref l1), (2, .int l2), (3, .ref l3), (4, .ref l4), (5, .ref l5), (6, .ref l6), (7, .ref l7)] dL_build_290 (by decide) rfl ?_
        refine xr_widen S (k := (29 + 5 * 0)) (n := (175 + 85 * 0)) (by omega) (by omega) ?_
        refine xr_sub S [(0, .ref l0), (1, .ref l1), (2, .int l2), (4, .ref l4), (5, .ref l5), (6, .ref l6), (7, .ref l7), (8, .int 0)] [1, 2, 3, 5, 6, 7, 8, 0] rfl ?_
        exact k_L_build_292 hfl S h65 l0 l1 l2 l4 l5 l6 l7 Po E (0, h65, 0) hw (Nat.zero_le _)
      · refine xr_null S dL_build_287 ?_
        exact E.2.2.2.1 _ _ _ _ _ _ none rfl (Or.inr ⟨_, rfl⟩) dL_build_288 ⟨none, rfl, hw⟩ (by show _ ≤ 91; omega) (by show _ ≤ 1266; omega)
  · refine xr_aload_n S 0 dL_build_220 rfl ?_
    refine xr_aload_n S 3 dL_build_221 rfl ?_
    refine xr_iconst S (2) dL_build_222 (by decide) ?_
    refine xr_iload S 8 dL_build_223 rfl ?_
    refine xr_imul S dL_build_225 ?_
    refine xw_iald S 2 dL_build_226 (Or.inr rfl) hw (fun v139 hw => ?_)
    refine xr_aload_n S 3 dL_build_227 rfl ?_
    refine xr_iconst S (2) dL_build_228 (by decide) ?_
    refine xr_iload S 8 dL_build_229 rfl ?_
    refine xr_imul S dL_build_231 ?_
    refine xr_iconst S (1) dL_build_232 (by decide) ?_
    refine xr_iadd S dL_build_233 ?_
    refine xw_iald S 2 dL_build_234 (Or.inr rfl) hw (fun v140 hw => ?_)
    obtain ⟨e141, hw⟩ := hw
    obtain ⟨f142, f142x⟩ := id e141
    refine xr_callV0 S 7 [.int v139, .int v140] [] dL_build_235 (k_X6_addTide l hfl (xdc X) h l0 v139 v140 _ _ hw) gL_build_X6_addTide rfl pd_X6_addTide ⟨Nat.le_of_ble_eq_true rfl, Nat.le_of_ble_eq_true rfl⟩ rfl (Nat.le_of_ble_eq_true rfl) ⟨by show _ ≤ 91; omega, by show _ ≤ 1266; omega⟩ f142x rfl (fun E1 h9 hx => hx) (fun v9 h144 hv => ?_)
    obtain ⟨r143, rfl, hw⟩ := hv
    refine xr_aload S 7 dL_build_238 rfl ?_
    refine xr_iconst S (0) dL_build_240 (by decide) ?_
    refine xw_iald S 2 dL_build_241 (Or.inr rfl) hw (fun v146 hw => ?_)
    refine xr_iload S 8 dL_build_242 rfl ?_
    refine xr_isub S dL_build_244 ?_
    refine xw_icmp_eq S 250 dL_build_245 (by decide) hw (fun c hw => ?_) (fun c hw => ?_)
    · refine xr_iinc S 8 ((l8 + (-1))) [(8, .int (l8 + (-1))), (0, .ref l0), (1, .ref l1), (2, .int l2), (3, .ref l3), (4, .ref l4), (5, .ref l5), (6, .ref l6), (7, .ref l7)] dL_build_250 rfl rfl (by decide) rfl ?_
      refine xr_goto S (tgt := 215) dL_build_253 (by decide) ?_
      obtain ⟨hn8, hw⟩ := hw
      refine xr_widen S (k := (1 + 3 * (n9 + 1))) (n := (7 + 18 * (n9 + 1))) (by omega) (by omega) ?_
      refine xr_sub S [(0, .ref l0), (1, .ref l1), (2, .int l2), (3, .ref l3), (4, .ref l4), (5, .ref l5), (6, .ref l6), (7, .ref l7), (8, .int (l8 + (-1)))] [1, 2, 3, 4, 5, 6, 7, 8, 0] rfl ?_
      exact hr215 (n9 + 1, h144, (l8 + (-1))) hw hn8
    · refine xr_null S dL_build_248 ?_
      exact E.2.2.2.1 _ _ _ _ _ _ none rfl (Or.inr ⟨_, rfl⟩) dL_build_249 ⟨none, rfl, hw⟩ (by show _ ≤ 91; omega) (by show _ ≤ 1266; omega)
def w_L_build_127_F (dc : Nat × Nat) (l0 : Nat) (l1 : Nat) (l2 : Int32) (l3 : Nat) (l4 : Nat) (l5 : Nat) (l6 : Nat) (l7 : Nat) (Po : Option Nat → XH → Prop) (rec127 : XH × Int32 → Prop) : XH × Int32 → Prop := fun s => match s with
  | (h, l8) =>
  wAI h 2 l7 0 (fun v52 => wIf (v52 ≤ l8) (wAI h 2 l7 0 (fun v53 => (w_L_build_215 dc l0 l1 l2 l3 l4 l5 l6 l7 Po (0, h, (v53 - 1))))) (wDiv 3 ( w_L_cell dc h l1 ((l2 + 2) + (l8 - l8 / 3 * 3)) (fun r148 => wDiv 3 ( w_L_below dc h (r148 >>> (((l8 / 3) * 8) &&& 31)) 250 (fun r152 => wSI h 2 l3 (2 * l8) ((300 * l8) + r152) (fun h155 => w_L_below dc h155 ((r148 >>> (((l8 / 3) * 8) &&& 31)) >>> (3 &&& 31)) 700 (fun r156 => wSI h155 2 l3 ((2 * l8) + 1) (r156 - 200) (fun h159 => (rec127 (h159, (l8 + 1))))))))))))
def w_L_build_127 (dc : Nat × Nat) (l0 : Nat) (l1 : Nat) (l2 : Int32) (l3 : Nat) (l4 : Nat) (l5 : Nat) (l6 : Nat) (l7 : Nat) (Po : Option Nat → XH → Prop) : XH × Int32 → Prop := xloop (w_L_build_127_F dc l0 l1 l2 l3 l4 l5 l6 l7 Po)
set_option maxRecDepth 100000 in
set_option maxHeartbeats 4000000 in
theorem k_L_build_127 {V : XVT} {X : XC} {l : Launch} (hfl : l.stackTraces = false) (S : xS V X l RL yL_build.name cL_build 10 wsL_build (xRm 9 194 91 1266)) (h : XH) (l0 : Nat) (l1 : Nat) (l2 : Int32) (l3 : Nat) (l4 : Nat) (l5 : Nat) (l6 : Nat) (l7 : Nat) (Po : Option Nat → XH → Prop) (E : xEnd V cL_build (some (.array .int)) 91 1266 (xPq Po)) (s0 : XH × Int32) (hw : w_L_build_127 (xdc X) l0 l1 l2 l3 l4 l5 l6 l7 Po s0) : V 1 7 s0.1 127 [(0, .ref l0), (1, .ref l1), (2, .int l2), (3, .ref l3), (4, .ref l4), (5, .ref l5), (6, .ref l6), (7, .ref l7), (8, .int s0.2)] [] := by
  refine xloop_use (P := fun s : XH × Int32 => V 1 7 s.1 127 [(0, .ref l0), (1, .ref l1), (2, .int l2), (3, .ref l3), (4, .ref l4), (5, .ref l5), (6, .ref l6), (7, .ref l7), (8, .int s.2)] []) (fun rec127 hr127 s hw => ?_) hw
  obtain ⟨h, l8⟩ := s
  try dsimp only
  dsimp only [w_L_build_127_F] at hw
  refine xr_iload S 8 dL_build_127 rfl ?_
  refine xr_aload S 7 dL_build_129 rfl ?_
  refine xr_iconst S (0) dL_build_131 (by decide) ?_
  refine xw_iald S 2 dL_build_132 (Or.inr rfl) hw (fun v52 hw => ?_)
  refine xw_icmp_ge S 207 dL_build_133 (by decide) hw (fun c hw => ?_) (fun c hw => ?_)
  · refine xr_aload S 7 dL_build_207 rfl ?_
    refine xr_iconst S (0) dL_build_209 (by decide) ?_
    refine xw_iald S 2 dL_build_210 (Or.inr rfl) hw (fun v53 hw => ?_)
    refine xr_iconst S (1) dL_build_211 (by decide) ?_
    refine xr_isub S dL_build_212 ?_
    refine xr_istore S [(8, .int (v53 - 1)), (0, .ref l0), (1, .ref l1), (2, .int l2), (3, .ref l3), (4, .ref l4), (5, .ref l5), (6, .ref l6), (7, .ref l7)] dL_build_213 (by decide) rfl ?_
    refine xr_widen S (k := (1 + 3 * 0)) (n := (7 + 18 * 0)) (Nat.le_of_ble_eq_true rfl) (Nat.le_of_ble_eq_true rfl) ?_
    refine xr_sub S [(0, .ref l0), (1, .ref l1), (2, .int l2), (3, .ref l3), (4, .ref l4), (5, .ref l5), (6, .ref l6), (7, .ref l7), (8, .int (v53 - 1))] [1, 2, 3, 4, 5, 6, 7, 8, 0] rfl ?_
    exact k_L_build_215 hfl S h l0 l1 l2 l3 l4 l5 l6 l7 Po E (0, h, (v53 - 1)) hw (Nat.zero_le _)
  · refine xr_aload_n S 1 dL_build_136 rfl ?_
    refine xr_iload_n S 2 dL_build_137 rfl ?_
    refine xr_iconst S (2) dL_build_138 (by decide) ?_
    refine xr_iadd S dL_build_139 ?_
    refine xr_iload S 8 dL_build_140 rfl ?_
    refine xr_iconst S (3) dL_build_142 (by decide) ?_
    obtain ⟨hn147, hw⟩ := hw
    refine xr_irem S dL_build_143 hn147 ?_
    refine xr_iadd S dL_build_144 ?_
    refine xr_callS S [.ref l1, .int ((l2 + 2) + (l8 - l8 / 3 * 3))] [] dL_build_145 (k_L_cell l (xdc X) h l1 ((l2 + 2) + (l8 - l8 / 3 * 3)) _ hw) gL_build_L_cell rfl pd_L_cell ⟨Nat.le_of_ble_eq_true rfl, Nat.le_of_ble_eq_true rfl⟩ rfl (Nat.le_of_ble_eq_true rfl) ⟨Nat.le_of_ble_eq_true rfl, Nat.le_of_ble_eq_true rfl⟩ (fun v9 h150 hv => ?_)
    obtain ⟨r148, rfl, rfl, hw⟩ := hv
    refine xr_iload S 8 dL_build_148 rfl ?_
    refine xr_iconst S (3) dL_build_150 (by decide) ?_
    obtain ⟨hn151, hw⟩ := hw
    refine xr_idiv S dL_build_151 hn151 ?_
    refine xr_bipush S (8) dL_build_152 (by decide) ?_
    refine xr_imul S dL_build_154 ?_
    refine xr_ishr S dL_build_155 ?_
    refine xr_istore S [(9, .int (r148 >>> (((l8 / 3) * 8) &&& 31))), (0, .ref l0), (1, .ref l1), (2, .int l2), (3, .ref l3), (4, .ref l4), (5, .ref l5), (6, .ref l6), (7, .ref l7), (8, .int l8)] dL_build_156 (by decide) rfl ?_
    refine xr_aload_n S 4 dL_build_158 rfl ?_
    refine xr_iconst S (2) dL_build_159 (by decide) ?_
    refine xr_iload S 9 dL_build_160 rfl ?_
    refine xr_imul S dL_build_162 ?_
    refine xr_sipush S (300) dL_build_163 (by decide) ?_
    refine xr_iload S 9 dL_build_166 rfl ?_
    refine xr_imul S dL_build_168 ?_
    refine xr_iload S 0 dL_build_169 rfl ?_
    refine xr_sipush S (250) dL_build_171 (by decide) ?_
    refine xr_callS S [.int (r148 >>> (((l8 / 3) * 8) &&& 31)), .int 250] [.int (300 * l8), .int (2 * l8), .ref l3] dL_build_174 (k_L_below l (xdc X) h (r148 >>> (((l8 / 3) * 8) &&& 31)) 250 _ hw) gL_build_L_below rfl pd_L_below ⟨Nat.le_of_ble_eq_true rfl, Nat.le_of_ble_eq_true rfl⟩ rfl (Nat.le_of_ble_eq_true rfl) ⟨Nat.le_of_ble_eq_true rfl, Nat.le_of_ble_eq_true rfl⟩ (fun v9 h154 hv => ?_)
    obtain ⟨r152, rfl, rfl, hw⟩ := hv
    refine xr_iadd S dL_build_177 ?_
    refine xw_iast S 2 dL_build_178 (Or.inr rfl) hw (fun h155 hw => ?_)
    refine xr_aload_n S 4 dL_build_179 rfl ?_
    refine xr_iconst S (2) dL_build_180 (by decide) ?_
    refine xr_iload S 9 dL_build_181 rfl ?_
    refine xr_imul S dL_build_183 ?_
    refine xr_iconst S (1) dL_build_184 (by decide) ?_
    refine xr_iadd S dL_build_185 ?_
    refine xr_iload S 0 dL_build_186 rfl ?_
    refine xr_iconst S (3) dL_build_188 (by decide) ?_
    refine xr_ishr S dL_build_189 ?_
    refine xr_sipush S (700) dL_build_190 (by decide) ?_
    refine xr_callS S [.int ((r148 >>> (((l8 / 3) * 8) &&& 31)) >>> (3 &&& 31)), .int 700] [.int ((2 * l8) + 1), .ref l3] dL_build_193 (k_L_below l (xdc X) h155 ((r148 >>> (((l8 / 3) * 8) &&& 31)) >>> (3 &&& 31)) 700 _ hw) gL_build_L_below rfl pd_L_below ⟨Nat.le_of_ble_eq_true rfl, Nat.le_of_ble_eq_true rfl⟩ rfl (Nat.le_of_ble_eq_true rfl) ⟨Nat.le_of_ble_eq_true rfl, Nat.le_of_ble_eq_true rfl⟩ (fun v9 h158 hv => ?_)
    obtain ⟨r156, rfl, rfl, hw⟩ := hv
    refine xr_sipush S (200) dL_build_196 (by decide) ?_
    refine xr_isub S dL_build_199 ?_
    refine xw_iast S 2 dL_build_200 (Or.inr rfl) hw (fun h159 hw => ?_)
    refine xr_iinc S 9 ((l8 + 1)) [(8, .int (l8 + 1)), (9, .int (r148 >>> (((l8 / 3) * 8) &&& 31))), (0, .ref l0), (1, .ref l1), (2, .int l2), (3, .ref l3), (4, .ref l4), (5, .ref l5), (6, .ref l6), (7, .ref l7)] dL_build_201 rfl rfl (by decide) rfl ?_
    refine xr_goto S (tgt := 127) dL_build_204 (by decide) ?_
    refine xr_sub S [(0, .ref l0), (1, .ref l1), (2, .int l2), (3, .ref l3), (4, .ref l4), (5, .ref l5), (6, .ref l6), (7, .ref l7), (8, .int (l8 + 1))] [2, 3, 4, 5, 6, 7, 8, 9, 0] rfl ?_
    exact hr127 (h159, (l8 + 1)) hw
def w_L_build (dc : Nat × Nat) (h : XH) (l0 : Nat) (l1 : Nat) (l2 : Int32) (l3 : Nat) (l4 : Nat) (l5 : Nat) (l6 : Nat) (Po : Option Nat → XH → Prop) : Prop :=
  wNewI h 2 7 (fun q1 h2 => w_L_cell dc h2 l1 l2 (fun r3 => w_L_below dc h2 r3 9 (fun r6 => wSI h2 2 q1 0 r6 (fun h9 => w_L_cell dc h9 l1 l2 (fun r10 => w_L_below dc h9 (r10 >>> (4 &&& 31)) 3 (fun r13 => wSI h9 2 q1 1 (1 + r13) (fun h16 => w_L_cell dc h16 l1 l2 (fun r17 => w_L_below dc h16 (r17 >>> (6 &&& 31)) 6 (fun r20 => wSI h16 2 q1 2 (1 + r20) (fun h23 => w_L_cell dc h23 l1 l2 (fun r24 => w_L_below dc h23 (r24 >>> (9 &&& 31)) 3 (fun r27 => wSI h23 2 q1 3 (1 + r27) (fun h30 => w_L_cell dc h30 l1 l2 (fun r31 => w_L_below dc h30 (r31 >>> (11 &&& 31)) 6 (fun r34 => wSI h30 2 q1 4 r34 (fun h37 => w_L_cell dc h37 l1 (l2 + 1) (fun r38 => w_L_below dc h37 r38 500 (fun r41 => wSI h37 2 q1 5 (700 + r41) (fun h44 => w_L_cell dc h44 l1 (l2 + 1) (fun r45 => w_L_below dc h44 (r45 >>> (5 &&& 31)) 100 (fun r48 => wSI h44 2 q1 6 r48 (fun h51 => (w_L_build_127 dc l0 l1 l2 l3 l4 l5 l6 q1 Po (h51, 0))))))))))))))))))))))))
set_option maxRecDepth 100000 in
set_option maxHeartbeats 4000000 in
theorem k_L_build (l : Launch) (hfl : l.stackTraces = false) (dc : Nat × Nat) (h : XH) (l0 : Nat) (l1 : Nat) (l2 : Int32) (l3 : Nat) (l4 : Nat) (l5 : Nat) (l6 : Nat) (Po : Option Nat → XH → Prop) (hw : w_L_build dc h l0 l1 l2 l3 l4 l5 l6 Po) : xM l dc yL_build wsL_build 9 194 91 1266 [.ref l0, .ref l1, .int l2, .ref l3, .ref l4, .ref l5, .ref l6] h (xPq Po) := by
  refine xM_of [(0, .ref l0), (1, .ref l1), (2, .int l2), (3, .ref l3), (4, .ref l4), (5, .ref l5), (6, .ref l6)] (own := RL) (cc := cL_build) (nL := 10) (ret := (some (.array .int))) (by decide +kernel) rfl rfl (Nat.le_of_ble_eq_true rfl) rfl ?_
  intro X V hX S E
  subst hX
  refine xr_bipush S (7) dL_build_0 (by decide) ?_
  refine xr_newi S 2 dL_build_2 (Or.inr rfl) m_L_build_0 (by decide) (N := 7) (by decide) (by decide) (Nat.le_of_ble_eq_true rfl) (Nat.le_of_ble_eq_true rfl) (fun q1 hq => ?_)
  have hw := hw q1 hq
  generalize xup h q1 (.inl (2, 7, .inl (fun _ => 0))) = h2 at hw ⊢
  refine xr_dup S dL_build_4 rfl ?_
  refine xr_iconst S (0) dL_build_5 (by decide) ?_
  refine xr_aload_n S 1 dL_build_6 rfl ?_
  refine xr_iload_n S 2 dL_build_7 rfl ?_
  refine xr_callS S [.ref l1, .int l2] [.int 0, .ref q1, .ref q1] dL_build_8 (k_L_cell l (xdc X) h2 l1 l2 _ hw) gL_build_L_cell rfl pd_L_cell ⟨Nat.le_of_ble_eq_true rfl, Nat.le_of_ble_eq_true rfl⟩ rfl (Nat.le_of_ble_eq_true rfl) ⟨Nat.le_of_ble_eq_true rfl, Nat.le_of_ble_eq_true rfl⟩ (fun v9 h5 hv => ?_)
  obtain ⟨r3, rfl, rfl, hw⟩ := hv
  refine xr_bipush S (9) dL_build_11 (by decide) ?_
  refine xr_callS S [.int r3, .int 9] [.int 0, .ref q1, .ref q1] dL_build_13 (k_L_below l (xdc X) h2 r3 9 _ hw) gL_build_L_below rfl pd_L_below ⟨Nat.le_of_ble_eq_true rfl, Nat.le_of_ble_eq_true rfl⟩ rfl (Nat.le_of_ble_eq_true rfl) ⟨Nat.le_of_ble_eq_true rfl, Nat.le_of_ble_eq_true rfl⟩ (fun v9 h8 hv => ?_)
  obtain ⟨r6, rfl, rfl, hw⟩ := hv
  refine xw_iast S 2 dL_build_16 (Or.inr rfl) hw (fun h9 hw => ?_)
  refine xr_dup S dL_build_17 rfl ?_
  refine xr_iconst S (1) dL_build_18 (by decide) ?_
  refine xr_iconst S (1) dL_build_19 (by decide) ?_
  refine xr_aload_n S 1 dL_build_20 rfl ?_
  refine xr_iload_n S 2 dL_build_21 rfl ?_
  refine xr_callS S [.ref l1, .int l2] [.int 1, .int 1, .ref q1, .ref q1] dL_build_22 (k_L_cell l (xdc X) h9 l1 l2 _ hw) gL_build_L_cell rfl pd_L_cell ⟨Nat.le_of_ble_eq_true rfl, Nat.le_of_ble_eq_true rfl⟩ rfl (Nat.le_of_ble_eq_true rfl) ⟨Nat.le_of_ble_eq_true rfl, Nat.le_of_ble_eq_true rfl⟩ (fun v9 h12 hv => ?_)
  obtain ⟨r10, rfl, rfl, hw⟩ := hv
  refine xr_iconst S (4) dL_build_25 (by decide) ?_
  refine xr_ishr S dL_build_26 ?_
  refine xr_iconst S (3) dL_build_27 (by decide) ?_
  refine xr_callS S [.int (r10 >>> (4 &&& 31)), .int 3] [.int 1, .int 1, .ref q1, .ref q1] dL_build_28 (k_L_below l (xdc X) h9 (r10 >>> (4 &&& 31)) 3 _ hw) gL_build_L_below rfl pd_L_below ⟨Nat.le_of_ble_eq_true rfl, Nat.le_of_ble_eq_true rfl⟩ rfl (Nat.le_of_ble_eq_true rfl) ⟨Nat.le_of_ble_eq_true rfl, Nat.le_of_ble_eq_true rfl⟩ (fun v9 h15 hv => ?_)
  obtain ⟨r13, rfl, rfl, hw⟩ := hv
  refine xr_iadd S dL_build_31 ?_
  refine xw_iast S 2 dL_build_32 (Or.inr rfl) hw (fun h16 hw => ?_)
  refine xr_dup S dL_build_33 rfl ?_
  refine xr_iconst S (2) dL_build_34 (by decide) ?_
  refine xr_iconst S (1) dL_build_35 (by decide) ?_
  refine xr_aload_n S 1 dL_build_36 rfl ?_
  refine xr_iload_n S 2 dL_build_37 rfl ?_
  refine xr_callS S [.ref l1, .int l2] [.int 1, .int 2, .ref q1, .ref q1] dL_build_38 (k_L_cell l (xdc X) h16 l1 l2 _ hw) gL_build_L_cell rfl pd_L_cell ⟨Nat.le_of_ble_eq_true rfl, Nat.le_of_ble_eq_true rfl⟩ rfl (Nat.le_of_ble_eq_true rfl) ⟨Nat.le_of_ble_eq_true rfl, Nat.le_of_ble_eq_true rfl⟩ (fun v9 h19 hv => ?_)
  obtain ⟨r17, rfl, rfl, hw⟩ := hv
  refine xr_bipush S (6) dL_build_41 (by decide) ?_
  refine xr_ishr S dL_build_43 ?_
  refine xr_bipush S (6) dL_build_44 (by decide) ?_
  refine xr_callS S [.int (r17 >>> (6 &&& 31)), .int 6] [.int 1, .int 2, .ref q1, .ref q1] dL_build_46 (k_L_below l (xdc X) h16 (r17 >>> (6 &&& 31)) 6 _ hw) gL_build_L_below rfl pd_L_below ⟨Nat.le_of_ble_eq_true rfl, Nat.le_of_ble_eq_true rfl⟩ rfl (Nat.le_of_ble_eq_true rfl) ⟨Nat.le_of_ble_eq_true rfl, Nat.le_of_ble_eq_true rfl⟩ (fun v9 h22 hv => ?_)
  obtain ⟨r20, rfl, rfl, hw⟩ := hv
  refine xr_iadd S dL_build_49 ?_
  refine xw_iast S 2 dL_build_50 (Or.inr rfl) hw (fun h23 hw => ?_)
  refine xr_dup S dL_build_51 rfl ?_
  refine xr_iconst S (3) dL_build_52 (by decide) ?_
  refine xr_iconst S (1) dL_build_53 (by decide) ?_
  refine xr_aload_n S 1 dL_build_54 rfl ?_
  refine xr_iload_n S 2 dL_build_55 rfl ?_
  refine xr_callS S [.ref l1, .int l2] [.int 1, .int 3, .ref q1, .ref q1] dL_build_56 (k_L_cell l (xdc X) h23 l1 l2 _ hw) gL_build_L_cell rfl pd_L_cell ⟨Nat.le_of_ble_eq_true rfl, Nat.le_of_ble_eq_true rfl⟩ rfl (Nat.le_of_ble_eq_true rfl) ⟨Nat.le_of_ble_eq_true rfl, Nat.le_of_ble_eq_true rfl⟩ (fun v9 h26 hv => ?_)
  obtain ⟨r24, rfl, rfl, hw⟩ := hv
  refine xr_bipush S (9) dL_build_59 (by decide) ?_
  refine xr_ishr S dL_build_61 ?_
  refine xr_iconst S (3) dL_build_62 (by decide) ?_
  refine xr_callS S [.int (r24 >>> (9 &&& 31)), .int 3] [.int 1, .int 3, .ref q1, .ref q1] dL_build_63 (k_L_below l (xdc X) h23 (r24 >>> (9 &&& 31)) 3 _ hw) gL_build_L_below rfl pd_L_below ⟨Nat.le_of_ble_eq_true rfl, Nat.le_of_ble_eq_true rfl⟩ rfl (Nat.le_of_ble_eq_true rfl) ⟨Nat.le_of_ble_eq_true rfl, Nat.le_of_ble_eq_true rfl⟩ (fun v9 h29 hv => ?_)
  obtain ⟨r27, rfl, rfl, hw⟩ := hv
  refine xr_iadd S dL_build_66 ?_
  refine xw_iast S 2 dL_build_67 (Or.inr rfl) hw (fun h30 hw => ?_)
  refine xr_dup S dL_build_68 rfl ?_
  refine xr_iconst S (4) dL_build_69 (by decide) ?_
  refine xr_aload_n S 1 dL_build_70 rfl ?_
  refine xr_iload_n S 2 dL_build_71 rfl ?_
  refine xr_callS S [.ref l1, .int l2] [.int 4, .ref q1, .ref q1] dL_build_72 (k_L_cell l (xdc X) h30 l1 l2 _ hw) gL_build_L_cell rfl pd_L_cell ⟨Nat.le_of_ble_eq_true rfl, Nat.le_of_ble_eq_true rfl⟩ rfl (Nat.le_of_ble_eq_true rfl) ⟨Nat.le_of_ble_eq_true rfl, Nat.le_of_ble_eq_true rfl⟩ (fun v9 h33 hv => ?_)
  obtain ⟨r31, rfl, rfl, hw⟩ := hv
  refine xr_bipush S (11) dL_build_75 (by decide) ?_
  refine xr_ishr S dL_build_77 ?_
  refine xr_bipush S (6) dL_build_78 (by decide) ?_
  refine xr_callS S [.int (r31 >>> (11 &&& 31)), .int 6] [.int 4, .ref q1, .ref q1] dL_build_80 (k_L_below l (xdc X) h30 (r31 >>> (11 &&& 31)) 6 _ hw) gL_build_L_below rfl pd_L_below ⟨Nat.le_of_ble_eq_true rfl, Nat.le_of_ble_eq_true rfl⟩ rfl (Nat.le_of_ble_eq_true rfl) ⟨Nat.le_of_ble_eq_true rfl, Nat.le_of_ble_eq_true rfl⟩ (fun v9 h36 hv => ?_)
  obtain ⟨r34, rfl, rfl, hw⟩ := hv
  refine xw_iast S 2 dL_build_83 (Or.inr rfl) hw (fun h37 hw => ?_)
  refine xr_dup S dL_build_84 rfl ?_
  refine xr_iconst S (5) dL_build_85 (by decide) ?_
  refine xr_sipush S (700) dL_build_86 (by decide) ?_
  refine xr_aload_n S 1 dL_build_89 rfl ?_
  refine xr_iload_n S 2 dL_build_90 rfl ?_
  refine xr_iconst S (1) dL_build_91 (by decide) ?_
  refine xr_iadd S dL_build_92 ?_
  refine xr_callS S [.ref l1, .int (l2 + 1)] [.int 700, .int 5, .ref q1, .ref q1] dL_build_93 (k_L_cell l (xdc X) h37 l1 (l2 + 1) _ hw) gL_build_L_cell rfl pd_L_cell ⟨Nat.le_of_ble_eq_true rfl, Nat.le_of_ble_eq_true rfl⟩ rfl (Nat.le_of_ble_eq_true rfl) ⟨Nat.le_of_ble_eq_true rfl, Nat.le_of_ble_eq_true rfl⟩ (fun v9 h40 hv => ?_)
  obtain ⟨r38, rfl, rfl, hw⟩ := hv
  refine xr_sipush S (500) dL_build_96 (by decide) ?_
  refine xr_callS S [.int r38, .int 500] [.int 700, .int 5, .ref q1, .ref q1] dL_build_99 (k_L_below l (xdc X) h37 r38 500 _ hw) gL_build_L_below rfl pd_L_below ⟨Nat.le_of_ble_eq_true rfl, Nat.le_of_ble_eq_true rfl⟩ rfl (Nat.le_of_ble_eq_true rfl) ⟨Nat.le_of_ble_eq_true rfl, Nat.le_of_ble_eq_true rfl⟩ (fun v9 h43 hv => ?_)
  obtain ⟨r41, rfl, rfl, hw⟩ := hv
  refine xr_iadd S dL_build_102 ?_
  refine xw_iast S 2 dL_build_103 (Or.inr rfl) hw (fun h44 hw => ?_)
  refine xr_dup S dL_build_104 rfl ?_
  refine xr_bipush S (6) dL_build_105 (by decide) ?_
  refine xr_aload_n S 1 dL_build_107 rfl ?_
  refine xr_iload_n S 2 dL_build_108 rfl ?_
  refine xr_iconst S (1) dL_build_109 (by decide) ?_
  refine xr_iadd S dL_build_110 ?_
  refine xr_callS S [.ref l1, .int (l2 + 1)] [.int 6, .ref q1, .ref q1] dL_build_111 (k_L_cell l (xdc X) h44 l1 (l2 + 1) _ hw) gL_build_L_cell rfl pd_L_cell ⟨Nat.le_of_ble_eq_true rfl, Nat.le_of_ble_eq_true rfl⟩ rfl (Nat.le_of_ble_eq_true rfl) ⟨Nat.le_of_ble_eq_true rfl, Nat.le_of_ble_eq_true rfl⟩ (fun v9 h47 hv => ?_)
  obtain ⟨r45, rfl, rfl, hw⟩ := hv
  refine xr_iconst S (5) dL_build_114 (by decide) ?_
  refine xr_ishr S dL_build_115 ?_
  refine xr_bipush S (100) dL_build_116 (by decide) ?_
  refine xr_callS S [.int (r45 >>> (5 &&& 31)), .int 100] [.int 6, .ref q1, .ref q1] dL_build_118 (k_L_below l (xdc X) h44 (r45 >>> (5 &&& 31)) 100 _ hw) gL_build_L_below rfl pd_L_below ⟨Nat.le_of_ble_eq_true rfl, Nat.le_of_ble_eq_true rfl⟩ rfl (Nat.le_of_ble_eq_true rfl) ⟨Nat.le_of_ble_eq_true rfl, Nat.le_of_ble_eq_true rfl⟩ (fun v9 h50 hv => ?_)
  obtain ⟨r48, rfl, rfl, hw⟩ := hv
  refine xw_iast S 2 dL_build_121 (Or.inr rfl) hw (fun h51 hw => ?_)
  refine xr_astore S [(7, .ref q1), (0, .ref l0), (1, .ref l1), (2, .int l2), (3, .ref l3), (4, .ref l4), (5, .ref l5), (6, .ref l6)] dL_build_122 (by decide) rfl ?_
  refine xr_iconst S (0) dL_build_124 (by decide) ?_
  refine xr_istore S [(8, .int 0), (7, .ref q1), (0, .ref l0), (1, .ref l1), (2, .int l2), (3, .ref l3), (4, .ref l4), (5, .ref l5), (6, .ref l6)] dL_build_125 (by decide) rfl ?_
  refine xr_sub S [(0, .ref l0), (1, .ref l1), (2, .int l2), (3, .ref l3), (4, .ref l4), (5, .ref l5), (6, .ref l6), (7, .ref q1), (8, .int 0)] [2, 3, 4, 5, 6, 7, 8, 1, 0] rfl ?_
  exact k_L_build_127 hfl S h51 l0 l1 l2 l3 l4 l5 l6 q1 Po E (h51, 0) hw
def w_L_height_21_F (dc : Nat × Nat) (h : XH) (l0 : Nat) (l1 : Nat) (l2 : Int32) (Po : Int32 → Prop) (rec21 : Int32 → Prop) : Int32 → Prop := fun l3 =>
  wAI h 2 l0 0 (fun v3 => wIf (v3 ≤ l3) (wAI h 2 l0 0 (fun v4 => wAI h 2 l1 ((2 * v4) - 1) (fun v5 => Po v5))) (wAI h 2 l1 (2 * l3) (fun v6 => wIf (l2 ≤ v6) (wAI h 2 l1 ((2 * l3) - 2) (fun v7 => wAI h 2 l1 ((2 * l3) - 1) (fun v8 => wAI h 2 l1 ((2 * l3) + 1) (fun v9 => wAI h 2 l1 ((2 * l3) - 1) (fun v10 => wAI h 2 l1 (2 * l3) (fun v11 => wAI h 2 l1 ((2 * l3) - 2) (fun v12 => wDiv (v11 - v12) ( Po (v8 + (((v9 - v10) * (l2 - v7)) / (v11 - v12))))))))))) (rec21 (l3 + 1)))))
def w_L_height_21 (dc : Nat × Nat) (h : XH) (l0 : Nat) (l1 : Nat) (l2 : Int32) (Po : Int32 → Prop) : Int32 → Prop := xloop (w_L_height_21_F dc h l0 l1 l2 Po)
set_option maxRecDepth 100000 in
set_option maxHeartbeats 4000000 in
theorem k_L_height_21 {V : XVT} {X : XC} {l : Launch} (S : xS V X l RL yL_height.name cL_height 5 wsL_height (xRm 0 0 0 0)) (h : XH) (l0 : Nat) (l1 : Nat) (l2 : Int32) (Po : Int32 → Prop) (E : xEnd V cL_height (some .int) 0 0 (xRi h Po)) (s0 : Int32) (hw : w_L_height_21 (xdc X) h l0 l1 l2 Po s0) : V 0 0 h 21 [(0, .ref l0), (1, .ref l1), (2, .int l2), (3, .int s0)] [] := by
  refine xloop_use (P := fun s : Int32 => V 0 0 h 21 [(0, .ref l0), (1, .ref l1), (2, .int l2), (3, .int s)] []) (fun rec21 hr21 s hw => ?_) hw
  obtain ⟨l3, rfl⟩ : ∃ z, z = s := ⟨s, rfl⟩
  refine xr_iload_n S 3 dL_height_21 rfl ?_
  refine xr_aload_n S 0 dL_height_22 rfl ?_
  refine xr_iconst S (0) dL_height_23 (by decide) ?_
  refine xw_iald S 2 dL_height_24 (Or.inr rfl) hw (fun v3 hw => ?_)
  refine xw_icmp_ge S 98 dL_height_25 (by decide) hw (fun c hw => ?_) (fun c hw => ?_)
  · refine xr_aload_n S 1 dL_height_98 rfl ?_
    refine xr_iconst S (2) dL_height_99 (by decide) ?_
    refine xr_aload_n S 0 dL_height_100 rfl ?_
    refine xr_iconst S (0) dL_height_101 (by decide) ?_
    refine xw_iald S 2 dL_height_102 (Or.inr rfl) hw (fun v4 hw => ?_)
    refine xr_imul S dL_height_103 ?_
    refine xr_iconst S (1) dL_height_104 (by decide) ?_
    refine xr_isub S dL_height_105 ?_
    refine xw_iald S 2 dL_height_106 (Or.inr rfl) hw (fun v5 hw => ?_)
    exact E.1 _ _ _ _ _ _ rfl dL_height_107 ⟨_, rfl, rfl, hw⟩ (Nat.le_of_ble_eq_true rfl) (Nat.le_of_ble_eq_true rfl)
  · refine xr_iload_n S 2 dL_height_28 rfl ?_
    refine xr_aload_n S 1 dL_height_29 rfl ?_
    refine xr_iconst S (2) dL_height_30 (by decide) ?_
    refine xr_iload_n S 3 dL_height_31 rfl ?_
    refine xr_imul S dL_height_32 ?_
    refine xw_iald S 2 dL_height_33 (Or.inr rfl) hw (fun v6 hw => ?_)
    refine xw_icmp_le S 40 dL_height_34 (by decide) hw (fun c hw => ?_) (fun c hw => ?_)
    · refine xr_iload_n S 2 dL_height_40 rfl ?_
      refine xr_aload_n S 1 dL_height_41 rfl ?_
      refine xr_iconst S (2) dL_height_42 (by decide) ?_
      refine xr_iload_n S 3 dL_height_43 rfl ?_
      refine xr_imul S dL_height_44 ?_
      refine xr_iconst S (2) dL_height_45 (by decide) ?_
      refine xr_isub S dL_height_46 ?_
      refine xw_iald S 2 dL_height_47 (Or.inr rfl) hw (fun v7 hw => ?_)
      refine xr_isub S dL_height_48 ?_
      refine xr_istore S [(4, .int (l2 - v7)), (0, .ref l0), (1, .ref l1), (2, .int l2), (3, .int l3)] dL_height_49 (by decide) rfl ?_
      refine xr_aload_n S 2 dL_height_51 rfl ?_
      refine xr_iconst S (2) dL_height_52 (by decide) ?_
      refine xr_iload_n S 4 dL_height_53 rfl ?_
      refine xr_imul S dL_height_54 ?_
      refine xr_iconst S (1) dL_height_55 (by decide) ?_
      refine xr_isub S dL_height_56 ?_
      refine xw_iald S 2 dL_height_57 (Or.inr rfl) hw (fun v8 hw => ?_)
      refine xr_aload_n S 2 dL_height_58 rfl ?_
      refine xr_iconst S (2) dL_height_59 (by decide) ?_
      refine xr_iload_n S 4 dL_height_60 rfl ?_
      refine xr_imul S dL_height_61 ?_
      refine xr_iconst S (1) dL_height_62 (by decide) ?_
      refine xr_iadd S dL_height_63 ?_
      refine xw_iald S 2 dL_height_64 (Or.inr rfl) hw (fun v9 hw => ?_)
      refine xr_aload_n S 2 dL_height_65 rfl ?_
      refine xr_iconst S (2) dL_height_66 (by decide) ?_
      refine xr_iload_n S 4 dL_height_67 rfl ?_
      refine xr_imul S dL_height_68 ?_
      refine xr_iconst S (1) dL_height_69 (by decide) ?_
      refine xr_isub S dL_height_70 ?_
      refine xw_iald S 2 dL_height_71 (Or.inr rfl) hw (fun v10 hw => ?_)
      refine xr_isub S dL_height_72 ?_
      refine xr_iload S 0 dL_height_73 rfl ?_
      refine xr_imul S dL_height_75 ?_
      refine xr_aload_n S 2 dL_height_76 rfl ?_
      refine xr_iconst S (2) dL_height_77 (by decide) ?_
      refine xr_iload_n S 4 dL_height_78 rfl ?_
      refine xr_imul S dL_height_79 ?_
      refine xw_iald S 2 dL_height_80 (Or.inr rfl) hw (fun v11 hw => ?_)
      refine xr_aload_n S 2 dL_height_81 rfl ?_
      refine xr_iconst S (2) dL_height_82 (by decide) ?_
      refine xr_iload_n S 4 dL_height_83 rfl ?_
      refine xr_imul S dL_height_84 ?_
      refine xr_iconst S (2) dL_height_85 (by decide) ?_
      refine xr_isub S dL_height_86 ?_
      refine xw_iald S 2 dL_height_87 (Or.inr rfl) hw (fun v12 hw => ?_)
      refine xr_isub S dL_height_88 ?_
      obtain ⟨hn13, hw⟩ := hw
      refine xr_idiv S dL_height_89 hn13 ?_
      refine xr_iadd S dL_height_90 ?_
      exact E.1 _ _ _ _ _ _ rfl dL_height_91 ⟨_, rfl, rfl, hw⟩ (Nat.le_of_ble_eq_true rfl) (Nat.le_of_ble_eq_true rfl)
    · refine xr_goto S (tgt := 92) dL_height_37 (by decide) ?_
      refine xr_iinc S 3 ((l3 + 1)) [(3, .int (l3 + 1)), (0, .ref l0), (1, .ref l1), (2, .int l2)] dL_height_92 rfl rfl (by decide) rfl ?_
      refine xr_goto S (tgt := 21) dL_height_95 (by decide) ?_
      refine xr_sub S [(0, .ref l0), (1, .ref l1), (2, .int l2), (3, .int (l3 + 1))] [1, 2, 3, 0] rfl ?_
      exact hr21 (l3 + 1) hw
def w_L_height (dc : Nat × Nat) (h : XH) (l0 : Nat) (l1 : Nat) (l2 : Int32) (Po : Int32 → Prop) : Prop :=
  wAI h 2 l0 0 (fun v1 => wIf (v1 = 0) (Po 0) (wAI h 2 l1 0 (fun v2 => wIf (v2 < l2) (w_L_height_21 dc h l0 l1 l2 Po 1) (wAI h 2 l1 1 (fun v14 => Po v14)))))
set_option maxRecDepth 100000 in
set_option maxHeartbeats 4000000 in
theorem k_L_height (l : Launch) (dc : Nat × Nat) (h : XH) (l0 : Nat) (l1 : Nat) (l2 : Int32) (Po : Int32 → Prop) (hw : w_L_height dc h l0 l1 l2 Po) : xM l dc yL_height wsL_height 0 0 0 0 [.ref l0, .ref l1, .int l2] h (xRi h Po) := by
  refine xM_of [(0, .ref l0), (1, .ref l1), (2, .int l2)] (own := RL) (cc := cL_height) (nL := 5) (ret := (some .int)) (by decide +kernel) rfl rfl (Nat.le_of_ble_eq_true rfl) rfl ?_
  intro X V hX S E
  subst hX
  refine xr_aload_n S 0 dL_height_0 rfl ?_
  refine xr_iconst S (0) dL_height_1 (by decide) ?_
  refine xw_iald S 2 dL_height_2 (Or.inr rfl) hw (fun v1 hw => ?_)
  refine xw_if_ne S 8 dL_height_3 (by decide) hw (fun c hw => ?_) (fun c hw => ?_)
  · refine xr_iload_n S 2 dL_height_8 rfl ?_
    refine xr_aload_n S 1 dL_height_9 rfl ?_
    refine xr_iconst S (0) dL_height_10 (by decide) ?_
    refine xw_iald S 2 dL_height_11 (Or.inr rfl) hw (fun v2 hw => ?_)
    refine xw_icmp_gt S 19 dL_height_12 (by decide) hw (fun c hw => ?_) (fun c hw => ?_)
    · refine xr_iconst S (1) dL_height_19 (by decide) ?_
      refine xr_istore_n S [(3, .int 1), (0, .ref l0), (1, .ref l1), (2, .int l2)] dL_height_20 (by decide) rfl ?_
      refine xr_sub S [(0, .ref l0), (1, .ref l1), (2, .int l2), (3, .int 1)] [1, 2, 3, 0] rfl ?_
      exact k_L_height_21 S h l0 l1 l2 Po E 1 hw
    · refine xr_aload_n S 1 dL_height_15 rfl ?_
      refine xr_iconst S (1) dL_height_16 (by decide) ?_
      refine xw_iald S 2 dL_height_17 (Or.inr rfl) hw (fun v14 hw => ?_)
      exact E.1 _ _ _ _ _ _ rfl dL_height_18 ⟨_, rfl, rfl, hw⟩ (Nat.le_of_ble_eq_true rfl) (Nat.le_of_ble_eq_true rfl)
  · refine xr_iconst S (0) dL_height_6 (by decide) ?_
    exact E.1 _ _ _ _ _ _ rfl dL_height_7 ⟨_, rfl, rfl, hw⟩ (Nat.le_of_ble_eq_true rfl) (Nat.le_of_ble_eq_true rfl)
def w_L_need (dc : Nat × Nat) (h : XH) (l0 : Nat) (l1 : Int32) (Po : Int32 → Prop) : Prop :=
  wDiv 10 ( wAI h 2 l0 6 (fun v2 => Po ((l1 + (l1 / 10)) + v2)))
set_option maxRecDepth 100000 in
set_option maxHeartbeats 4000000 in
theorem k_L_need (l : Launch) (dc : Nat × Nat) (h : XH) (l0 : Nat) (l1 : Int32) (Po : Int32 → Prop) (hw : w_L_need dc h l0 l1 Po) : xM l dc yL_need wsL_need 0 0 0 0 [.ref l0, .int l1] h (xRi h Po) := by
  refine xM_of [(0, .ref l0), (1, .int l1)] (own := RL) (cc := cL_need) (nL := 2) (ret := (some .int)) (by decide +kernel) rfl rfl (Nat.le_of_ble_eq_true rfl) rfl ?_
  intro X V hX S E
  subst hX
  refine xr_iload_n S 1 dL_need_0 rfl ?_
  refine xr_iload_n S 1 dL_need_1 rfl ?_
  refine xr_bipush S (10) dL_need_2 (by decide) ?_
  obtain ⟨hn1, hw⟩ := hw
  refine xr_idiv S dL_need_4 hn1 ?_
  refine xr_iadd S dL_need_5 ?_
  refine xr_aload_n S 0 dL_need_6 rfl ?_
  refine xr_bipush S (6) dL_need_7 (by decide) ?_
  refine xw_iald S 2 dL_need_9 (Or.inr rfl) hw (fun v2 hw => ?_)
  refine xr_iadd S dL_need_10 ?_
  exact E.1 _ _ _ _ _ _ rfl dL_need_11 ⟨_, rfl, rfl, hw⟩ (Nat.le_of_ble_eq_true rfl) (Nat.le_of_ble_eq_true rfl)
def w_L_tugs (dc : Nat × Nat) (h : XH) (l0 : Int32) (Po : Int32 → Prop) : Prop :=
  wIf (l0 < 220) (wIf (l0 < 160) (wIf (l0 < 100) (Po 0) (Po 1)) (Po 2)) (Po 3)
set_option maxRecDepth 100000 in
set_option maxHeartbeats 4000000 in
theorem k_L_tugs (l : Launch) (dc : Nat × Nat) (h : XH) (l0 : Int32) (Po : Int32 → Prop) (hw : w_L_tugs dc h l0 Po) : xM l dc yL_tugs wsL_tugs 0 0 0 0 [.int l0] h (xRi h Po) := by
  refine xM_of [(0, .int l0)] (own := RL) (cc := cL_tugs) (nL := 1) (ret := (some .int)) (by decide +kernel) rfl rfl (Nat.le_of_ble_eq_true rfl) rfl ?_
  intro X V hX S E
  subst hX
  refine xr_iload_n S 0 dL_tugs_0 rfl ?_
  refine xr_sipush S (220) dL_tugs_1 (by decide) ?_
  refine xw_icmp_lt S 11 dL_tugs_4 (by decide) hw (fun c hw => ?_) (fun c hw => ?_)
  · refine xr_iload_n S 0 dL_tugs_11 rfl ?_
    refine xr_sipush S (160) dL_tugs_12 (by decide) ?_
    refine xw_icmp_lt S 22 dL_tugs_15 (by decide) hw (fun c hw => ?_) (fun c hw => ?_)
    · refine xr_iload_n S 0 dL_tugs_22 rfl ?_
      refine xr_bipush S (100) dL_tugs_23 (by decide) ?_
      refine xw_icmp_lt S 32 dL_tugs_25 (by decide) hw (fun c hw => ?_) (fun c hw => ?_)
      · refine xr_iconst S (0) dL_tugs_32 (by decide) ?_
        exact E.1 _ _ _ _ _ _ rfl dL_tugs_33 ⟨_, rfl, rfl, hw⟩ (Nat.le_of_ble_eq_true rfl) (Nat.le_of_ble_eq_true rfl)
      · refine xr_iconst S (1) dL_tugs_28 (by decide) ?_
        refine xr_goto S (tgt := 33) dL_tugs_29 (by decide) ?_
        exact E.1 _ _ _ _ _ _ rfl dL_tugs_33 ⟨_, rfl, rfl, hw⟩ (Nat.le_of_ble_eq_true rfl) (Nat.le_of_ble_eq_true rfl)
    · refine xr_iconst S (2) dL_tugs_18 (by decide) ?_
      refine xr_goto S (tgt := 33) dL_tugs_19 (by decide) ?_
      exact E.1 _ _ _ _ _ _ rfl dL_tugs_33 ⟨_, rfl, rfl, hw⟩ (Nat.le_of_ble_eq_true rfl) (Nat.le_of_ble_eq_true rfl)
  · refine xr_iconst S (3) dL_tugs_7 (by decide) ?_
    refine xr_goto S (tgt := 33) dL_tugs_8 (by decide) ?_
    exact E.1 _ _ _ _ _ _ rfl dL_tugs_33 ⟨_, rfl, rfl, hw⟩ (Nat.le_of_ble_eq_true rfl) (Nat.le_of_ble_eq_true rfl)
def w_L_tugsAt_69 (dc : Nat × Nat) (h : XH) (l0 : Int32) (l1 : Nat) (l2 : Int32) (l3 : Int32) (l4 : Int32) (Po : Int32 → Prop) (rec5 : Int32 × Int32 → Prop) : Prop :=
  rec5 (l3, (l4 + 1))
set_option maxRecDepth 100000 in
set_option maxHeartbeats 4000000 in
theorem k_L_tugsAt_69 {V : XVT} {X : XC} {l : Launch} (S : xS V X l RL yL_tugsAt.name cL_tugsAt 6 wsL_tugsAt (xRm 0 0 0 0)) (h : XH) (l0 : Int32) (l1 : Nat) (l2 : Int32) (l3 : Int32) (l4 : Int32) (Po : Int32 → Prop) (E : xEnd V cL_tugsAt (some .int) 0 0 (xRi h Po)) (rec5 : Int32 × Int32 → Prop) (hr5 : ∀ s : Int32 × Int32, rec5 s → V 0 0 h 5 [(0, .int l0), (1, .ref l1), (2, .int l2), (3, .int s.1), (4, .int s.2)] []) (hw : w_L_tugsAt_69 (xdc X) h l0 l1 l2 l3 l4 Po rec5) : V 0 0 h 69 [(0, .int l0), (1, .ref l1), (2, .int l2), (3, .int l3), (4, .int l4)] [] := by
  refine xr_iinc S 4 ((l4 + 1)) [(4, .int (l4 + 1)), (0, .int l0), (1, .ref l1), (2, .int l2), (3, .int l3)] dL_tugsAt_69 rfl rfl (by decide) rfl ?_
  refine xr_goto S (tgt := 5) dL_tugsAt_72 (by decide) ?_
  refine xr_sub S [(0, .int l0), (1, .ref l1), (2, .int l2), (3, .int l3), (4, .int (l4 + 1))] [1, 2, 3, 4, 0] rfl ?_
  exact hr5 (l3, (l4 + 1)) hw
def w_L_tugsAt_60 (dc : Nat × Nat) (h : XH) (l0 : Int32) (l1 : Nat) (l2 : Int32) (l3 : Int32) (l4 : Int32) (Po : Int32 → Prop) (rec5 : Int32 × Int32 → Prop) : Prop :=
  wA2 h l1 l4 (fun r7 => wDer r7 (fun q8 => wAI h 2 q8 3 (fun v9 => (w_L_tugsAt_69 dc h l0 l1 l2 (l3 + v9) l4 Po rec5))))
set_option maxRecDepth 100000 in
set_option maxHeartbeats 4000000 in
theorem k_L_tugsAt_60 {V : XVT} {X : XC} {l : Launch} (S : xS V X l RL yL_tugsAt.name cL_tugsAt 6 wsL_tugsAt (xRm 0 0 0 0)) (h : XH) (l0 : Int32) (l1 : Nat) (l2 : Int32) (l3 : Int32) (l4 : Int32) (Po : Int32 → Prop) (E : xEnd V cL_tugsAt (some .int) 0 0 (xRi h Po)) (rec5 : Int32 × Int32 → Prop) (hr5 : ∀ s : Int32 × Int32, rec5 s → V 0 0 h 5 [(0, .int l0), (1, .ref l1), (2, .int l2), (3, .int s.1), (4, .int s.2)] []) (hw : w_L_tugsAt_60 (xdc X) h l0 l1 l2 l3 l4 Po rec5) : V 0 0 h 60 [(0, .int l0), (1, .ref l1), (2, .int l2), (3, .int l3), (4, .int l4)] [] := by
  refine xr_iload_n S 3 dL_tugsAt_60 rfl ?_
  refine xr_aload_n S 1 dL_tugsAt_61 rfl ?_
  refine xr_iload S 4 dL_tugsAt_62 rfl ?_
  refine xw_ald2 S dL_tugsAt_64 hw (fun r7 hw => ?_)
  refine xr_iconst S (3) dL_tugsAt_65 (by decide) ?_
  obtain ⟨q8, hrq8, hwq8⟩ := hw
  subst hrq8
  have hw := hwq8
  refine xw_iald S 2 dL_tugsAt_66 (Or.inr rfl) hw (fun v9 hw => ?_)
  refine xr_iadd S dL_tugsAt_67 ?_
  refine xr_istore_n S [(3, .int (l3 + v9)), (0, .int l0), (1, .ref l1), (2, .int l2), (4, .int l4)] dL_tugsAt_68 (by decide) rfl ?_
  refine xr_sub S [(0, .int l0), (1, .ref l1), (2, .int l2), (3, .int (l3 + v9)), (4, .int l4)] [1, 2, 3, 0, 4] rfl ?_
  exact k_L_tugsAt_69 S h l0 l1 l2 (l3 + v9) l4 Po E rec5 hr5 hw
def w_L_tugsAt_5_F (dc : Nat × Nat) (h : XH) (l0 : Int32) (l1 : Nat) (l2 : Int32) (Po : Int32 → Prop) (rec5 : Int32 × Int32 → Prop) : Int32 × Int32 → Prop := fun s => match s with
  | (l3, l4) =>
  wIf (l0 ≤ l4) (Po l3) (wA2 h l1 l4 (fun r1 => wDer r1 (fun q2 => wAI h 2 q2 1 (fun v3 => wA2 h l1 l4 (fun r4 => wDer r4 (fun q5 => wAI h 2 q5 5 (fun v6 => wIf (v6 = 1) (wIf ((l2 - v3) < 0) (w_L_tugsAt_69 dc h l0 l1 l2 l3 l4 Po rec5) (wIf (40 ≤ (l2 - v3)) (w_L_tugsAt_69 dc h l0 l1 l2 l3 l4 Po rec5) (w_L_tugsAt_60 dc h l0 l1 l2 l3 l4 Po rec5))) (wIf ((l2 - v3) < 20) (w_L_tugsAt_69 dc h l0 l1 l2 l3 l4 Po rec5) (wIf (60 ≤ (l2 - v3)) (w_L_tugsAt_69 dc h l0 l1 l2 l3 l4 Po rec5) (w_L_tugsAt_60 dc h l0 l1 l2 l3 l4 Po rec5))))))))))
def w_L_tugsAt_5 (dc : Nat × Nat) (h : XH) (l0 : Int32) (l1 : Nat) (l2 : Int32) (Po : Int32 → Prop) : Int32 × Int32 → Prop := xloop (w_L_tugsAt_5_F dc h l0 l1 l2 Po)
set_option maxRecDepth 100000 in
set_option maxHeartbeats 4000000 in
theorem k_L_tugsAt_5 {V : XVT} {X : XC} {l : Launch} (S : xS V X l RL yL_tugsAt.name cL_tugsAt 6 wsL_tugsAt (xRm 0 0 0 0)) (h : XH) (l0 : Int32) (l1 : Nat) (l2 : Int32) (Po : Int32 → Prop) (E : xEnd V cL_tugsAt (some .int) 0 0 (xRi h Po)) (s0 : Int32 × Int32) (hw : w_L_tugsAt_5 (xdc X) h l0 l1 l2 Po s0) : V 0 0 h 5 [(0, .int l0), (1, .ref l1), (2, .int l2), (3, .int s0.1), (4, .int s0.2)] [] := by
  refine xloop_use (P := fun s : Int32 × Int32 => V 0 0 h 5 [(0, .int l0), (1, .ref l1), (2, .int l2), (3, .int s.1), (4, .int s.2)] []) (fun rec5 hr5 s hw => ?_) hw
  obtain ⟨l3, l4⟩ := s
  try dsimp only
  dsimp only [w_L_tugsAt_5_F] at hw
  refine xr_iload S 4 dL_tugsAt_5 rfl ?_
  refine xr_iload_n S 0 dL_tugsAt_7 rfl ?_
  refine xw_icmp_ge S 75 dL_tugsAt_8 (by decide) hw (fun c hw => ?_) (fun c hw => ?_)
  · refine xr_iload_n S 3 dL_tugsAt_75 rfl ?_
    exact E.1 _ _ _ _ _ _ rfl dL_tugsAt_76 ⟨_, rfl, rfl, hw⟩ (Nat.le_of_ble_eq_true rfl) (Nat.le_of_ble_eq_true rfl)
  · refine xr_iload_n S 2 dL_tugsAt_11 rfl ?_
    refine xr_aload_n S 1 dL_tugsAt_12 rfl ?_
    refine xr_iload S 4 dL_tugsAt_13 rfl ?_
    refine xw_ald2 S dL_tugsAt_15 hw (fun r1 hw => ?_)
    refine xr_iconst S (1) dL_tugsAt_16 (by decide) ?_
    obtain ⟨q2, hrq2, hwq2⟩ := hw
    subst hrq2
    have hw := hwq2
    refine xw_iald S 2 dL_tugsAt_17 (Or.inr rfl) hw (fun v3 hw => ?_)
    refine xr_isub S dL_tugsAt_18 ?_
    refine xr_istore S [(5, .int (l2 - v3)), (0, .int l0), (1, .ref l1), (2, .int l2), (3, .int l3), (4, .int l4)] dL_tugsAt_19 (by decide) rfl ?_
    refine xr_aload_n S 2 dL_tugsAt_21 rfl ?_
    refine xr_iload S 5 dL_tugsAt_22 rfl ?_
    refine xw_ald2 S dL_tugsAt_24 hw (fun r4 hw => ?_)
    refine xr_iconst S (5) dL_tugsAt_25 (by decide) ?_
    obtain ⟨q5, hrq5, hwq5⟩ := hw
    subst hrq5
    have hw := hwq5
    refine xw_iald S 2 dL_tugsAt_26 (Or.inr rfl) hw (fun v6 hw => ?_)
    refine xr_iconst S (1) dL_tugsAt_27 (by decide) ?_
    refine xw_icmp_ne S 46 dL_tugsAt_28 (by decide) hw (fun c hw => ?_) (fun c hw => ?_)
    · refine xr_iload S 0 dL_tugsAt_46 rfl ?_
      refine xr_bipush S (20) dL_tugsAt_48 (by decide) ?_
      refine xw_icmp_lt S 69 dL_tugsAt_50 (by decide) hw (fun c hw => ?_) (fun c hw => ?_)
      · refine xr_sub S [(0, .int l0), (1, .ref l1), (2, .int l2), (3, .int l3), (4, .int l4)] [1, 2, 3, 4, 5] rfl ?_
        exact k_L_tugsAt_69 S h l0 l1 l2 l3 l4 Po E rec5 hr5 hw
      · refine xr_iload S 0 dL_tugsAt_53 rfl ?_
        refine xr_bipush S (60) dL_tugsAt_55 (by decide) ?_
        refine xw_icmp_ge S 69 dL_tugsAt_57 (by decide) hw (fun c hw => ?_) (fun c hw => ?_)
        · refine xr_sub S [(0, .int l0), (1, .ref l1), (2, .int l2), (3, .int l3), (4, .int l4)] [1, 2, 3, 4, 5] rfl ?_
          exact k_L_tugsAt_69 S h l0 l1 l2 l3 l4 Po E rec5 hr5 hw
        · refine xr_sub S [(0, .int l0), (1, .ref l1), (2, .int l2), (3, .int l3), (4, .int l4)] [1, 2, 3, 4, 5] rfl ?_
          exact k_L_tugsAt_60 S h l0 l1 l2 l3 l4 Po E rec5 hr5 hw
    · refine xr_iload S 0 dL_tugsAt_31 rfl ?_
      refine xw_if_lt S 69 dL_tugsAt_33 (by decide) hw (fun c hw => ?_) (fun c hw => ?_)
      · refine xr_sub S [(0, .int l0), (1, .ref l1), (2, .int l2), (3, .int l3), (4, .int l4)] [1, 2, 3, 4, 5] rfl ?_
        exact k_L_tugsAt_69 S h l0 l1 l2 l3 l4 Po E rec5 hr5 hw
      · refine xr_iload S 0 dL_tugsAt_36 rfl ?_
        refine xr_bipush S (40) dL_tugsAt_38 (by decide) ?_
        refine xw_icmp_ge S 69 dL_tugsAt_40 (by decide) hw (fun c hw => ?_) (fun c hw => ?_)
        · refine xr_sub S [(0, .int l0), (1, .ref l1), (2, .int l2), (3, .int l3), (4, .int l4)] [1, 2, 3, 4, 5] rfl ?_
          exact k_L_tugsAt_69 S h l0 l1 l2 l3 l4 Po E rec5 hr5 hw
        · refine xr_goto S (tgt := 60) dL_tugsAt_43 (by decide) ?_
          refine xr_sub S [(0, .int l0), (1, .ref l1), (2, .int l2), (3, .int l3), (4, .int l4)] [1, 2, 3, 4, 5] rfl ?_
          exact k_L_tugsAt_60 S h l0 l1 l2 l3 l4 Po E rec5 hr5 hw
def w_L_tugsAt (dc : Nat × Nat) (h : XH) (l0 : Int32) (l1 : Nat) (l2 : Int32) (Po : Int32 → Prop) : Prop :=
  w_L_tugsAt_5 dc h l0 l1 l2 Po (0, 0)
set_option maxRecDepth 100000 in
set_option maxHeartbeats 4000000 in
theorem k_L_tugsAt (l : Launch) (dc : Nat × Nat) (h : XH) (l0 : Int32) (l1 : Nat) (l2 : Int32) (Po : Int32 → Prop) (hw : w_L_tugsAt dc h l0 l1 l2 Po) : xM l dc yL_tugsAt wsL_tugsAt 0 0 0 0 [.int l0, .ref l1, .int l2] h (xRi h Po) := by
  refine xM_of [(0, .int l0), (1, .ref l1), (2, .int l2)] (own := RL) (cc := cL_tugsAt) (nL := 6) (ret := (some .int)) (by decide +kernel) rfl rfl (Nat.le_of_ble_eq_true rfl) rfl ?_
  intro X V hX S E
  subst hX
  refine xr_iconst S (0) dL_tugsAt_0 (by decide) ?_
  refine xr_istore_n S [(3, .int 0), (0, .int l0), (1, .ref l1), (2, .int l2)] dL_tugsAt_1 (by decide) rfl ?_
  refine xr_iconst S (0) dL_tugsAt_2 (by decide) ?_
  refine xr_istore S [(4, .int 0), (3, .int 0), (0, .int l0), (1, .ref l1), (2, .int l2)] dL_tugsAt_3 (by decide) rfl ?_
  refine xr_sub S [(0, .int l0), (1, .ref l1), (2, .int l2), (3, .int 0), (4, .int 0)] [2, 3, 4, 1, 0] rfl ?_
  exact k_L_tugsAt_5 S h l0 l1 l2 Po E (0, 0) hw
theorem m_L_leaves_0 : Cond.constant RL 44 100000 ∈ wsL_leaves := by decide +kernel
def w_L_leaves_40 (dc : Nat × Nat) (h : XH) (l0 : Int32) (l1 : Nat) (l2 : Int32) (l3 : Int32) (Po : Int32 → Prop) (rec4 : Int32 → Prop) : Prop :=
  rec4 (l3 + 1)
set_option maxRecDepth 100000 in
set_option maxHeartbeats 4000000 in
theorem k_L_leaves_40 {V : XVT} {X : XC} {l : Launch} (S : xS V X l RL yL_leaves.name cL_leaves 4 wsL_leaves (xRm 0 0 0 0)) (h : XH) (l0 : Int32) (l1 : Nat) (l2 : Int32) (l3 : Int32) (Po : Int32 → Prop) (E : xEnd V cL_leaves (some .int) 0 0 (xRi h Po)) (rec4 : Int32 → Prop) (hr4 : ∀ s : Int32, rec4 s → V 0 0 h 4 [(0, .int l0), (1, .ref l1), (2, .int l2), (3, .int s)] []) (hw : w_L_leaves_40 (xdc X) h l0 l1 l2 l3 Po rec4) : V 0 0 h 40 [(0, .int l0), (1, .ref l1), (2, .int l2), (3, .int l3)] [] := by
  refine xr_iinc S 3 ((l3 + 1)) [(3, .int (l3 + 1)), (0, .int l0), (1, .ref l1), (2, .int l2)] dL_leaves_40 rfl rfl (by decide) rfl ?_
  refine xr_goto S (tgt := 4) dL_leaves_43 (by decide) ?_
  refine xr_sub S [(0, .int l0), (1, .ref l1), (2, .int l2), (3, .int (l3 + 1))] [1, 2, 3, 0] rfl ?_
  exact hr4 (l3 + 1) hw
def w_L_leaves_4_F (dc : Nat × Nat) (h : XH) (l0 : Int32) (l1 : Nat) (l2 : Int32) (Po : Int32 → Prop) (rec4 : Int32 → Prop) : Int32 → Prop := fun l3 =>
  wIf (l0 ≤ l3) (Po 100000) (wA2 h l1 l3 (fun r1 => wDer r1 (fun q2 => wAI h 2 q2 0 (fun v3 => wA2 h l1 l2 (fun r4 => wDer r4 (fun q5 => wAI h 2 q5 0 (fun v6 => wIf (v3 = v6) (wA2 h l1 l3 (fun r7 => wDer r7 (fun q8 => wAI h 2 q8 5 (fun v9 => wIf (v9 = 1) (wA2 h l1 l3 (fun r10 => wDer r10 (fun q11 => wAI h 2 q11 1 (fun v12 => Po (v12 + 60))))) (w_L_leaves_40 dc h l0 l1 l2 l3 Po rec4))))) (w_L_leaves_40 dc h l0 l1 l2 l3 Po rec4))))))))
def w_L_leaves_4 (dc : Nat × Nat) (h : XH) (l0 : Int32) (l1 : Nat) (l2 : Int32) (Po : Int32 → Prop) : Int32 → Prop := xloop (w_L_leaves_4_F dc h l0 l1 l2 Po)
set_option maxRecDepth 100000 in
set_option maxHeartbeats 4000000 in
theorem k_L_leaves_4 {V : XVT} {X : XC} {l : Launch} (S : xS V X l RL yL_leaves.name cL_leaves 4 wsL_leaves (xRm 0 0 0 0)) (h : XH) (l0 : Int32) (l1 : Nat) (l2 : Int32) (Po : Int32 → Prop) (E : xEnd V cL_leaves (some .int) 0 0 (xRi h Po)) (s0 : Int32) (hw : w_L_leaves_4 (xdc X) h l0 l1 l2 Po s0) : V 0 0 h 4 [(0, .int l0), (1, .ref l1), (2, .int l2), (3, .int s0)] [] := by
  refine xloop_use (P := fun s : Int32 => V 0 0 h 4 [(0, .int l0), (1, .ref l1), (2, .int l2), (3, .int s)] []) (fun rec4 hr4 s hw => ?_) hw
  obtain ⟨l3, rfl⟩ : ∃ z, z = s := ⟨s, rfl⟩
  refine xr_iload_n S 3 dL_leaves_4 rfl ?_
  refine xr_iload_n S 0 dL_leaves_5 rfl ?_
  refine xw_icmp_ge S 46 dL_leaves_6 (by decide) hw (fun c hw => ?_) (fun c hw => ?_)
  · refine xr_ldc S 100000 dL_leaves_46 m_L_leaves_0 ?_
    exact E.1 _ _ _ _ _ _ rfl dL_leaves_48 ⟨_, rfl, rfl, hw⟩ (Nat.le_of_ble_eq_true rfl) (Nat.le_of_ble_eq_true rfl)
  · refine xr_aload_n S 1 dL_leaves_9 rfl ?_
    refine xr_iload_n S 3 dL_leaves_10 rfl ?_
    refine xw_ald2 S dL_leaves_11 hw (fun r1 hw => ?_)
    refine xr_iconst S (0) dL_leaves_12 (by decide) ?_
    obtain ⟨q2, hrq2, hwq2⟩ := hw
    subst hrq2
    have hw := hwq2
    refine xw_iald S 2 dL_leaves_13 (Or.inr rfl) hw (fun v3 hw => ?_)
    refine xr_aload_n S 1 dL_leaves_14 rfl ?_
    refine xr_iload_n S 2 dL_leaves_15 rfl ?_
    refine xw_ald2 S dL_leaves_16 hw (fun r4 hw => ?_)
    refine xr_iconst S (0) dL_leaves_17 (by decide) ?_
    obtain ⟨q5, hrq5, hwq5⟩ := hw
    subst hrq5
    have hw := hwq5
    refine xw_iald S 2 dL_leaves_18 (Or.inr rfl) hw (fun v6 hw => ?_)
    refine xw_icmp_ne S 40 dL_leaves_19 (by decide) hw (fun c hw => ?_) (fun c hw => ?_)
    · exact k_L_leaves_40 S h l0 l1 l2 l3 Po E rec4 hr4 hw
    · refine xr_aload_n S 1 dL_leaves_22 rfl ?_
      refine xr_iload_n S 3 dL_leaves_23 rfl ?_
      refine xw_ald2 S dL_leaves_24 hw (fun r7 hw => ?_)
      refine xr_iconst S (5) dL_leaves_25 (by decide) ?_
      obtain ⟨q8, hrq8, hwq8⟩ := hw
      subst hrq8
      have hw := hwq8
      refine xw_iald S 2 dL_leaves_26 (Or.inr rfl) hw (fun v9 hw => ?_)
      refine xr_iconst S (1) dL_leaves_27 (by decide) ?_
      refine xw_icmp_ne S 40 dL_leaves_28 (by decide) hw (fun c hw => ?_) (fun c hw => ?_)
      · exact k_L_leaves_40 S h l0 l1 l2 l3 Po E rec4 hr4 hw
      · refine xr_aload_n S 1 dL_leaves_31 rfl ?_
        refine xr_iload_n S 3 dL_leaves_32 rfl ?_
        refine xw_ald2 S dL_leaves_33 hw (fun r10 hw => ?_)
        refine xr_iconst S (1) dL_leaves_34 (by decide) ?_
        obtain ⟨q11, hrq11, hwq11⟩ := hw
        subst hrq11
        have hw := hwq11
        refine xw_iald S 2 dL_leaves_35 (Or.inr rfl) hw (fun v12 hw => ?_)
        refine xr_bipush S (60) dL_leaves_36 (by decide) ?_
        refine xr_iadd S dL_leaves_38 ?_
        exact E.1 _ _ _ _ _ _ rfl dL_leaves_39 ⟨_, rfl, rfl, hw⟩ (Nat.le_of_ble_eq_true rfl) (Nat.le_of_ble_eq_true rfl)
def w_L_leaves (dc : Nat × Nat) (h : XH) (l0 : Int32) (l1 : Nat) (l2 : Int32) (Po : Int32 → Prop) : Prop :=
  w_L_leaves_4 dc h l0 l1 l2 Po (l2 + 1)
set_option maxRecDepth 100000 in
set_option maxHeartbeats 4000000 in
theorem k_L_leaves (l : Launch) (dc : Nat × Nat) (h : XH) (l0 : Int32) (l1 : Nat) (l2 : Int32) (Po : Int32 → Prop) (hw : w_L_leaves dc h l0 l1 l2 Po) : xM l dc yL_leaves wsL_leaves 0 0 0 0 [.int l0, .ref l1, .int l2] h (xRi h Po) := by
  refine xM_of [(0, .int l0), (1, .ref l1), (2, .int l2)] (own := RL) (cc := cL_leaves) (nL := 4) (ret := (some .int)) (by decide +kernel) rfl rfl (Nat.le_of_ble_eq_true rfl) rfl ?_
  intro X V hX S E
  subst hX
  refine xr_iload_n S 2 dL_leaves_0 rfl ?_
  refine xr_iconst S (1) dL_leaves_1 (by decide) ?_
  refine xr_iadd S dL_leaves_2 ?_
  refine xr_istore_n S [(3, .int (l2 + 1)), (0, .int l0), (1, .ref l1), (2, .int l2)] dL_leaves_3 (by decide) rfl ?_
  refine xr_sub S [(0, .int l0), (1, .ref l1), (2, .int l2), (3, .int (l2 + 1))] [1, 2, 3, 0] rfl ?_
  exact k_L_leaves_4 S h l0 l1 l2 Po E (l2 + 1) hw
def w_L_pilot_239 (dc : Nat × Nat) (h : XH) (l0 : Int32) (l1 : Int32) (l2 : Int32) (l3 : Int32) (l4 : Nat) (l5 : Nat) (l6 : Nat) (l7 : Int32) (l8 : Int32) (l9 : Int32) (Po : Int32 → Prop) (rec9 : Int32 × Int32 × Int32 → Prop) : Prop :=
  rec9 (l7, l8, (l9 + 1))
set_option maxRecDepth 100000 in
set_option maxHeartbeats 4000000 in
theorem k_L_pilot_239 {V : XVT} {X : XC} {l : Launch} (S : xS V X l RL yL_pilot.name cL_pilot 15 wsL_pilot (xRm 0 0 0 0)) (h : XH) (l0 : Int32) (l1 : Int32) (l2 : Int32) (l3 : Int32) (l4 : Nat) (l5 : Nat) (l6 : Nat) (l7 : Int32) (l8 : Int32) (l9 : Int32) (Po : Int32 → Prop) (E : xEnd V cL_pilot (some .int) 0 0 (xRi h Po)) (rec9 : Int32 × Int32 × Int32 → Prop) (hr9 : ∀ s : Int32 × Int32 × Int32, rec9 s → V 0 0 h 9 [(0, .int l0), (1, .int l1), (2, .int l2), (3, .int l3), (4, .ref l4), (5, .ref l5), (6, .ref l6), (7, .int s.1), (8, .int s.2.1), (9, .int s.2.2)] []) (hw : w_L_pilot_239 (xdc X) h l0 l1 l2 l3 l4 l5 l6 l7 l8 l9 Po rec9) : V 0 0 h 239 [(0, .int l0), (1, .int l1), (2, .int l2), (3, .int l3), (4, .ref l4), (5, .ref l5), (6, .ref l6), (7, .int l7), (8, .int l8), (9, .int l9)] [] := by
  refine xr_iinc S 9 ((l9 + 1)) [(9, .int (l9 + 1)), (0, .int l0), (1, .int l1), (2, .int l2), (3, .int l3), (4, .ref l4), (5, .ref l5), (6, .ref l6), (7, .int l7), (8, .int l8)] dL_pilot_239 rfl rfl (by decide) rfl ?_
  refine xr_goto S (tgt := 9) dL_pilot_242 (by decide) ?_
  refine xr_sub S [(0, .int l0), (1, .int l1), (2, .int l2), (3, .int l3), (4, .ref l4), (5, .ref l5), (6, .ref l6), (7, .int l7), (8, .int l8), (9, .int (l9 + 1))] [1, 2, 3, 4, 5, 6, 7, 8, 9, 0] rfl ?_
  exact hr9 (l7, l8, (l9 + 1)) hw
def w_L_pilot_231 (dc : Nat × Nat) (h : XH) (l0 : Int32) (l1 : Int32) (l2 : Int32) (l3 : Int32) (l4 : Nat) (l5 : Nat) (l6 : Nat) (l9 : Int32) (l10 : Int32) (Po : Int32 → Prop) (rec9 : Int32 × Int32 × Int32 → Prop) : Prop :=
  w_L_pilot_239 dc h l0 l1 l2 l3 l4 l5 l6 l9 l10 l9 Po rec9
set_option maxRecDepth 100000 in
set_option maxHeartbeats 4000000 in
theorem k_L_pilot_231 {V : XVT} {X : XC} {l : Launch} (S : xS V X l RL yL_pilot.name cL_pilot 15 wsL_pilot (xRm 0 0 0 0)) (h : XH) (l0 : Int32) (l1 : Int32) (l2 : Int32) (l3 : Int32) (l4 : Nat) (l5 : Nat) (l6 : Nat) (l9 : Int32) (l10 : Int32) (Po : Int32 → Prop) (E : xEnd V cL_pilot (some .int) 0 0 (xRi h Po)) (rec9 : Int32 × Int32 × Int32 → Prop) (hr9 : ∀ s : Int32 × Int32 × Int32, rec9 s → V 0 0 h 9 [(0, .int l0), (1, .int l1), (2, .int l2), (3, .int l3), (4, .ref l4), (5, .ref l5), (6, .ref l6), (7, .int s.1), (8, .int s.2.1), (9, .int s.2.2)] []) (hw : w_L_pilot_231 (xdc X) h l0 l1 l2 l3 l4 l5 l6 l9 l10 Po rec9) : V 0 0 h 231 [(0, .int l0), (1, .int l1), (2, .int l2), (3, .int l3), (4, .ref l4), (5, .ref l5), (6, .ref l6), (9, .int l9), (10, .int l10)] [] := by
  refine xr_iload S 7 dL_pilot_231 rfl ?_
  refine xr_istore S [(7, .int l9), (0, .int l0), (1, .int l1), (2, .int l2), (3, .int l3), (4, .ref l4), (5, .ref l5), (6, .ref l6), (9, .int l9), (10, .int l10)] dL_pilot_233 (by decide) rfl ?_
  refine xr_iload S 9 dL_pilot_235 rfl ?_
  refine xr_istore S [(8, .int l10), (7, .int l9), (0, .int l0), (1, .int l1), (2, .int l2), (3, .int l3), (4, .ref l4), (5, .ref l5), (6, .ref l6), (9, .int l9), (10, .int l10)] dL_pilot_237 (by decide) rfl ?_
  refine xr_sub S [(0, .int l0), (1, .int l1), (2, .int l2), (3, .int l3), (4, .ref l4), (5, .ref l5), (6, .ref l6), (7, .int l9), (8, .int l10), (9, .int l9)] [2, 3, 4, 5, 6, 7, 8, 1, 0, 9] rfl ?_
  exact k_L_pilot_239 S h l0 l1 l2 l3 l4 l5 l6 l9 l10 l9 Po E rec9 hr9 hw
def w_L_pilot_209 (dc : Nat × Nat) (h : XH) (l0 : Int32) (l1 : Int32) (l2 : Int32) (l3 : Int32) (l4 : Nat) (l5 : Nat) (l6 : Nat) (l7 : Int32) (l8 : Int32) (l9 : Int32) (l10 : Int32) (t0 : Int32) (Po : Int32 → Prop) (rec9 : Int32 × Int32 × Int32 → Prop) : Prop :=
  wIf (t0 = 0) (w_L_pilot_239 dc h l0 l1 l2 l3 l4 l5 l6 l7 l8 l9 Po rec9) (wIf (l7 < 0) (w_L_pilot_231 dc h l0 l1 l2 l3 l4 l5 l6 l9 l10 Po rec9) (wIf (l10 < l8) (w_L_pilot_231 dc h l0 l1 l2 l3 l4 l5 l6 l9 l10 Po rec9) (w_L_pilot_239 dc h l0 l1 l2 l3 l4 l5 l6 l7 l8 l9 Po rec9)))
set_option maxRecDepth 100000 in
set_option maxHeartbeats 4000000 in
theorem k_L_pilot_209 {V : XVT} {X : XC} {l : Launch} (S : xS V X l RL yL_pilot.name cL_pilot 15 wsL_pilot (xRm 0 0 0 0)) (h : XH) (l0 : Int32) (l1 : Int32) (l2 : Int32) (l3 : Int32) (l4 : Nat) (l5 : Nat) (l6 : Nat) (l7 : Int32) (l8 : Int32) (l9 : Int32) (l10 : Int32) (t0 : Int32) (Po : Int32 → Prop) (E : xEnd V cL_pilot (some .int) 0 0 (xRi h Po)) (rec9 : Int32 × Int32 × Int32 → Prop) (hr9 : ∀ s : Int32 × Int32 × Int32, rec9 s → V 0 0 h 9 [(0, .int l0), (1, .int l1), (2, .int l2), (3, .int l3), (4, .ref l4), (5, .ref l5), (6, .ref l6), (7, .int s.1), (8, .int s.2.1), (9, .int s.2.2)] []) (hw : w_L_pilot_209 (xdc X) h l0 l1 l2 l3 l4 l5 l6 l7 l8 l9 l10 t0 Po rec9) : V 0 0 h 209 [(0, .int l0), (1, .int l1), (2, .int l2), (3, .int l3), (4, .ref l4), (5, .ref l5), (6, .ref l6), (7, .int l7), (8, .int l8), (9, .int l9), (10, .int l10)] [.int t0] := by
  refine xr_istore S [(14, .int t0), (0, .int l0), (1, .int l1), (2, .int l2), (3, .int l3), (4, .ref l4), (5, .ref l5), (6, .ref l6), (7, .int l7), (8, .int l8), (9, .int l9), (10, .int l10)] dL_pilot_209 (by decide) rfl ?_
  refine xr_iload S 0 dL_pilot_211 rfl ?_
  refine xw_if_eq S 239 dL_pilot_213 (by decide) hw (fun c hw => ?_) (fun c hw => ?_)
  · refine xr_sub S [(0, .int l0), (1, .int l1), (2, .int l2), (3, .int l3), (4, .ref l4), (5, .ref l5), (6, .ref l6), (7, .int l7), (8, .int l8), (9, .int l9)] [1, 2, 3, 4, 5, 6, 7, 8, 9, 10] rfl ?_
    exact k_L_pilot_239 S h l0 l1 l2 l3 l4 l5 l6 l7 l8 l9 Po E rec9 hr9 hw
  · refine xr_iload S 8 dL_pilot_216 rfl ?_
    refine xw_if_lt S 231 dL_pilot_218 (by decide) hw (fun c hw => ?_) (fun c hw => ?_)
    · refine xr_sub S [(0, .int l0), (1, .int l1), (2, .int l2), (3, .int l3), (4, .ref l4), (5, .ref l5), (6, .ref l6), (9, .int l9), (10, .int l10)] [1, 2, 3, 4, 5, 6, 7, 10, 11] rfl ?_
      exact k_L_pilot_231 S h l0 l1 l2 l3 l4 l5 l6 l9 l10 Po E rec9 hr9 hw
    · refine xr_iload S 11 dL_pilot_221 rfl ?_
      refine xr_iload S 9 dL_pilot_223 rfl ?_
      refine xw_icmp_lt S 231 dL_pilot_225 (by decide) hw (fun c hw => ?_) (fun c hw => ?_)
      · refine xr_sub S [(0, .int l0), (1, .int l1), (2, .int l2), (3, .int l3), (4, .ref l4), (5, .ref l5), (6, .ref l6), (9, .int l9), (10, .int l10)] [1, 2, 3, 4, 5, 6, 7, 10, 11] rfl ?_
        exact k_L_pilot_231 S h l0 l1 l2 l3 l4 l5 l6 l9 l10 Po E rec9 hr9 hw
      · refine xr_goto S (tgt := 239) dL_pilot_228 (by decide) ?_
        refine xr_sub S [(0, .int l0), (1, .int l1), (2, .int l2), (3, .int l3), (4, .ref l4), (5, .ref l5), (6, .ref l6), (7, .int l7), (8, .int l8), (9, .int l9)] [1, 2, 3, 4, 5, 6, 7, 8, 9, 10] rfl ?_
        exact k_L_pilot_239 S h l0 l1 l2 l3 l4 l5 l6 l7 l8 l9 Po E rec9 hr9 hw
def w_L_pilot_208 (dc : Nat × Nat) (h : XH) (l0 : Int32) (l1 : Int32) (l2 : Int32) (l3 : Int32) (l4 : Nat) (l5 : Nat) (l6 : Nat) (l7 : Int32) (l8 : Int32) (l9 : Int32) (l10 : Int32) (Po : Int32 → Prop) (rec9 : Int32 × Int32 × Int32 → Prop) : Prop :=
  w_L_pilot_209 dc h l0 l1 l2 l3 l4 l5 l6 l7 l8 l9 l10 0 Po rec9
set_option maxRecDepth 100000 in
set_option maxHeartbeats 4000000 in
theorem k_L_pilot_208 {V : XVT} {X : XC} {l : Launch} (S : xS V X l RL yL_pilot.name cL_pilot 15 wsL_pilot (xRm 0 0 0 0)) (h : XH) (l0 : Int32) (l1 : Int32) (l2 : Int32) (l3 : Int32) (l4 : Nat) (l5 : Nat) (l6 : Nat) (l7 : Int32) (l8 : Int32) (l9 : Int32) (l10 : Int32) (Po : Int32 → Prop) (E : xEnd V cL_pilot (some .int) 0 0 (xRi h Po)) (rec9 : Int32 × Int32 × Int32 → Prop) (hr9 : ∀ s : Int32 × Int32 × Int32, rec9 s → V 0 0 h 9 [(0, .int l0), (1, .int l1), (2, .int l2), (3, .int l3), (4, .ref l4), (5, .ref l5), (6, .ref l6), (7, .int s.1), (8, .int s.2.1), (9, .int s.2.2)] []) (hw : w_L_pilot_208 (xdc X) h l0 l1 l2 l3 l4 l5 l6 l7 l8 l9 l10 Po rec9) : V 0 0 h 208 [(0, .int l0), (1, .int l1), (2, .int l2), (3, .int l3), (4, .ref l4), (5, .ref l5), (6, .ref l6), (7, .int l7), (8, .int l8), (9, .int l9), (10, .int l10)] [] := by
  refine xr_iconst S (0) dL_pilot_208 (by decide) ?_
  exact k_L_pilot_209 S h l0 l1 l2 l3 l4 l5 l6 l7 l8 l9 l10 0 Po E rec9 hr9 hw
def w_L_pilot_204 (dc : Nat × Nat) (h : XH) (l0 : Int32) (l1 : Int32) (l2 : Int32) (l3 : Int32) (l4 : Nat) (l5 : Nat) (l6 : Nat) (l7 : Int32) (l8 : Int32) (l9 : Int32) (l10 : Int32) (Po : Int32 → Prop) (rec9 : Int32 × Int32 × Int32 → Prop) : Prop :=
  w_L_pilot_209 dc h l0 l1 l2 l3 l4 l5 l6 l7 l8 l9 l10 1 Po rec9
set_option maxRecDepth 100000 in
set_option maxHeartbeats 4000000 in
theorem k_L_pilot_204 {V : XVT} {X : XC} {l : Launch} (S : xS V X l RL yL_pilot.name cL_pilot 15 wsL_pilot (xRm 0 0 0 0)) (h : XH) (l0 : Int32) (l1 : Int32) (l2 : Int32) (l3 : Int32) (l4 : Nat) (l5 : Nat) (l6 : Nat) (l7 : Int32) (l8 : Int32) (l9 : Int32) (l10 : Int32) (Po : Int32 → Prop) (E : xEnd V cL_pilot (some .int) 0 0 (xRi h Po)) (rec9 : Int32 × Int32 × Int32 → Prop) (hr9 : ∀ s : Int32 × Int32 × Int32, rec9 s → V 0 0 h 9 [(0, .int l0), (1, .int l1), (2, .int l2), (3, .int l3), (4, .ref l4), (5, .ref l5), (6, .ref l6), (7, .int s.1), (8, .int s.2.1), (9, .int s.2.2)] []) (hw : w_L_pilot_204 (xdc X) h l0 l1 l2 l3 l4 l5 l6 l7 l8 l9 l10 Po rec9) : V 0 0 h 204 [(0, .int l0), (1, .int l1), (2, .int l2), (3, .int l3), (4, .ref l4), (5, .ref l5), (6, .ref l6), (7, .int l7), (8, .int l8), (9, .int l9), (10, .int l10)] [] := by
  refine xr_iconst S (1) dL_pilot_204 (by decide) ?_
  refine xr_goto S (tgt := 209) dL_pilot_205 (by decide) ?_
  exact k_L_pilot_209 S h l0 l1 l2 l3 l4 l5 l6 l7 l8 l9 l10 1 Po E rec9 hr9 hw
def w_L_pilot_201 (dc : Nat × Nat) (h : XH) (l0 : Int32) (l1 : Int32) (l2 : Int32) (l3 : Int32) (l4 : Nat) (l5 : Nat) (l6 : Nat) (l7 : Int32) (l8 : Int32) (l9 : Int32) (l10 : Int32) (t0 : Int32) (t1 : Int32) (Po : Int32 → Prop) (rec9 : Int32 × Int32 × Int32 → Prop) : Prop :=
  wIf (t0 < t1) (w_L_pilot_208 dc h l0 l1 l2 l3 l4 l5 l6 l7 l8 l9 l10 Po rec9) (w_L_pilot_204 dc h l0 l1 l2 l3 l4 l5 l6 l7 l8 l9 l10 Po rec9)
set_option maxRecDepth 100000 in
set_option maxHeartbeats 4000000 in
theorem k_L_pilot_201 {V : XVT} {X : XC} {l : Launch} (S : xS V X l RL yL_pilot.name cL_pilot 15 wsL_pilot (xRm 0 0 0 0)) (h : XH) (l0 : Int32) (l1 : Int32) (l2 : Int32) (l3 : Int32) (l4 : Nat) (l5 : Nat) (l6 : Nat) (l7 : Int32) (l8 : Int32) (l9 : Int32) (l10 : Int32) (t0 : Int32) (t1 : Int32) (Po : Int32 → Prop) (E : xEnd V cL_pilot (some .int) 0 0 (xRi h Po)) (rec9 : Int32 × Int32 × Int32 → Prop) (hr9 : ∀ s : Int32 × Int32 × Int32, rec9 s → V 0 0 h 9 [(0, .int l0), (1, .int l1), (2, .int l2), (3, .int l3), (4, .ref l4), (5, .ref l5), (6, .ref l6), (7, .int s.1), (8, .int s.2.1), (9, .int s.2.2)] []) (hw : w_L_pilot_201 (xdc X) h l0 l1 l2 l3 l4 l5 l6 l7 l8 l9 l10 t0 t1 Po rec9) : V 0 0 h 201 [(0, .int l0), (1, .int l1), (2, .int l2), (3, .int l3), (4, .ref l4), (5, .ref l5), (6, .ref l6), (7, .int l7), (8, .int l8), (9, .int l9), (10, .int l10)] [.int t1, .int t0] := by
  refine xw_icmp_lt S 208 dL_pilot_201 (by decide) hw (fun c hw => ?_) (fun c hw => ?_)
  · exact k_L_pilot_208 S h l0 l1 l2 l3 l4 l5 l6 l7 l8 l9 l10 Po E rec9 hr9 hw
  · exact k_L_pilot_204 S h l0 l1 l2 l3 l4 l5 l6 l7 l8 l9 l10 Po E rec9 hr9 hw
def w_L_pilot_148 (dc : Nat × Nat) (h : XH) (l0 : Int32) (l1 : Int32) (l2 : Int32) (l3 : Int32) (l4 : Nat) (l5 : Nat) (l6 : Nat) (l7 : Int32) (l8 : Int32) (l9 : Int32) (l10 : Int32) (l12 : Int32) (t0 : Int32) (Po : Int32 → Prop) (rec9 : Int32 × Int32 × Int32 → Prop) : Prop :=
  wAI h 2 l6 (2 * l9) (fun v3 => wIf (v3 < l0) (w_L_pilot_208 dc h l0 l1 l2 l3 l4 l5 l6 l7 l8 l9 l10 Po rec9) (wIf (l12 = 0) (wIf (0 ≤ l10) (wIf (t0 = 0) (w_L_pilot_201 dc h l0 l1 l2 l3 l4 l5 l6 l7 l8 l9 l10 (l2 - l10) 90 Po rec9) (w_L_pilot_201 dc h l0 l1 l2 l3 l4 l5 l6 l7 l8 l9 l10 (l2 - l10) 30 Po rec9)) (wIf (t0 = 0) (wIf (l2 < 60) (w_L_pilot_208 dc h l0 l1 l2 l3 l4 l5 l6 l7 l8 l9 l10 Po rec9) (w_L_pilot_204 dc h l0 l1 l2 l3 l4 l5 l6 l7 l8 l9 l10 Po rec9)) (w_L_pilot_204 dc h l0 l1 l2 l3 l4 l5 l6 l7 l8 l9 l10 Po rec9))) (w_L_pilot_208 dc h l0 l1 l2 l3 l4 l5 l6 l7 l8 l9 l10 Po rec9)))
set_option maxRecDepth 100000 in
set_option maxHeartbeats 4000000 in
theorem k_L_pilot_148 {V : XVT} {X : XC} {l : Launch} (S : xS V X l RL yL_pilot.name cL_pilot 15 wsL_pilot (xRm 0 0 0 0)) (h : XH) (l0 : Int32) (l1 : Int32) (l2 : Int32) (l3 : Int32) (l4 : Nat) (l5 : Nat) (l6 : Nat) (l7 : Int32) (l8 : Int32) (l9 : Int32) (l10 : Int32) (l12 : Int32) (t0 : Int32) (Po : Int32 → Prop) (E : xEnd V cL_pilot (some .int) 0 0 (xRi h Po)) (rec9 : Int32 × Int32 × Int32 → Prop) (hr9 : ∀ s : Int32 × Int32 × Int32, rec9 s → V 0 0 h 9 [(0, .int l0), (1, .int l1), (2, .int l2), (3, .int l3), (4, .ref l4), (5, .ref l5), (6, .ref l6), (7, .int s.1), (8, .int s.2.1), (9, .int s.2.2)] []) (hw : w_L_pilot_148 (xdc X) h l0 l1 l2 l3 l4 l5 l6 l7 l8 l9 l10 l12 t0 Po rec9) : V 0 0 h 148 [(0, .int l0), (1, .int l1), (2, .int l2), (3, .int l3), (4, .ref l4), (5, .ref l5), (6, .ref l6), (7, .int l7), (8, .int l8), (9, .int l9), (10, .int l10), (12, .int l12)] [.int t0] := by
  refine xr_istore S [(13, .int t0), (0, .int l0), (1, .int l1), (2, .int l2), (3, .int l3), (4, .ref l4), (5, .ref l5), (6, .ref l6), (7, .int l7), (8, .int l8), (9, .int l9), (10, .int l10), (12, .int l12)] dL_pilot_148 (by decide) rfl ?_
  refine xr_aload S 7 dL_pilot_150 rfl ?_
  refine xr_iconst S (2) dL_pilot_152 (by decide) ?_
  refine xr_iload S 10 dL_pilot_153 rfl ?_
  refine xr_imul S dL_pilot_155 ?_
  refine xw_iald S 2 dL_pilot_156 (Or.inr rfl) hw (fun v3 hw => ?_)
  refine xr_iload_n S 1 dL_pilot_157 rfl ?_
  refine xw_icmp_lt S 208 dL_pilot_158 (by decide) hw (fun c hw => ?_) (fun c hw => ?_)
  · refine xr_sub S [(0, .int l0), (1, .int l1), (2, .int l2), (3, .int l3), (4, .ref l4), (5, .ref l5), (6, .ref l6), (7, .int l7), (8, .int l8), (9, .int l9), (10, .int l10)] [1, 2, 3, 4, 5, 6, 7, 8, 9, 10, 11] rfl ?_
    exact k_L_pilot_208 S h l0 l1 l2 l3 l4 l5 l6 l7 l8 l9 l10 Po E rec9 hr9 hw
  · refine xr_iload S 12 dL_pilot_161 rfl ?_
    refine xw_if_ne S 208 dL_pilot_163 (by decide) hw (fun c hw => ?_) (fun c hw => ?_)
    · refine xr_sub S [(0, .int l0), (1, .int l1), (2, .int l2), (3, .int l3), (4, .ref l4), (5, .ref l5), (6, .ref l6), (7, .int l7), (8, .int l8), (9, .int l9), (10, .int l10)] [1, 2, 3, 4, 5, 6, 7, 8, 9, 10, 11] rfl ?_
      exact k_L_pilot_208 S h l0 l1 l2 l3 l4 l5 l6 l7 l8 l9 l10 Po E rec9 hr9 hw
    · refine xr_iload S 11 dL_pilot_166 rfl ?_
      refine xw_if_ge S 185 dL_pilot_168 (by decide) hw (fun c hw => ?_) (fun c hw => ?_)
      · refine xr_iload_n S 3 dL_pilot_185 rfl ?_
        refine xr_iload S 11 dL_pilot_186 rfl ?_
        refine xr_isub S dL_pilot_188 ?_
        refine xr_iload S 0 dL_pilot_189 rfl ?_
        refine xw_if_eq S 199 dL_pilot_191 (by decide) hw (fun c hw => ?_) (fun c hw => ?_)
        · refine xr_bipush S (90) dL_pilot_199 (by decide) ?_
          refine xr_sub S [(0, .int l0), (1, .int l1), (2, .int l2), (3, .int l3), (4, .ref l4), (5, .ref l5), (6, .ref l6), (7, .int l7), (8, .int l8), (9, .int l9), (10, .int l10)] [1, 2, 3, 4, 5, 6, 7, 8, 9, 10, 11] rfl ?_
          exact k_L_pilot_201 S h l0 l1 l2 l3 l4 l5 l6 l7 l8 l9 l10 (l2 - l10) 90 Po E rec9 hr9 hw
        · refine xr_bipush S (30) dL_pilot_194 (by decide) ?_
          refine xr_goto S (tgt := 201) dL_pilot_196 (by decide) ?_
          refine xr_sub S [(0, .int l0), (1, .int l1), (2, .int l2), (3, .int l3), (4, .ref l4), (5, .ref l5), (6, .ref l6), (7, .int l7), (8, .int l8), (9, .int l9), (10, .int l10)] [1, 2, 3, 4, 5, 6, 7, 8, 9, 10, 11] rfl ?_
          exact k_L_pilot_201 S h l0 l1 l2 l3 l4 l5 l6 l7 l8 l9 l10 (l2 - l10) 30 Po E rec9 hr9 hw
      · refine xr_iload S 0 dL_pilot_171 rfl ?_
        refine xw_if_ne S 204 dL_pilot_173 (by decide) hw (fun c hw => ?_) (fun c hw => ?_)
        · refine xr_sub S [(0, .int l0), (1, .int l1), (2, .int l2), (3, .int l3), (4, .ref l4), (5, .ref l5), (6, .ref l6), (7, .int l7), (8, .int l8), (9, .int l9), (10, .int l10)] [1, 2, 3, 4, 5, 6, 7, 8, 9, 10, 11] rfl ?_
          exact k_L_pilot_204 S h l0 l1 l2 l3 l4 l5 l6 l7 l8 l9 l10 Po E rec9 hr9 hw
        · refine xr_iload_n S 3 dL_pilot_176 rfl ?_
          refine xr_bipush S (60) dL_pilot_177 (by decide) ?_
          refine xw_icmp_lt S 208 dL_pilot_179 (by decide) hw (fun c hw => ?_) (fun c hw => ?_)
          · refine xr_sub S [(0, .int l0), (1, .int l1), (2, .int l2), (3, .int l3), (4, .ref l4), (5, .ref l5), (6, .ref l6), (7, .int l7), (8, .int l8), (9, .int l9), (10, .int l10)] [1, 2, 3, 4, 5, 6, 7, 8, 9, 10, 11] rfl ?_
            exact k_L_pilot_208 S h l0 l1 l2 l3 l4 l5 l6 l7 l8 l9 l10 Po E rec9 hr9 hw
          · refine xr_goto S (tgt := 204) dL_pilot_182 (by decide) ?_
            refine xr_sub S [(0, .int l0), (1, .int l1), (2, .int l2), (3, .int l3), (4, .ref l4), (5, .ref l5), (6, .ref l6), (7, .int l7), (8, .int l8), (9, .int l9), (10, .int l10)] [1, 2, 3, 4, 5, 6, 7, 8, 9, 10, 11] rfl ?_
            exact k_L_pilot_204 S h l0 l1 l2 l3 l4 l5 l6 l7 l8 l9 l10 Po E rec9 hr9 hw
def w_L_pilot_140 (dc : Nat × Nat) (h : XH) (l0 : Int32) (l1 : Int32) (l2 : Int32) (l3 : Int32) (l4 : Nat) (l5 : Nat) (l6 : Nat) (l7 : Int32) (l8 : Int32) (l9 : Int32) (l10 : Int32) (l12 : Int32) (t0 : Int32) (t1 : Int32) (Po : Int32 → Prop) (rec9 : Int32 × Int32 × Int32 → Prop) : Prop :=
  wIf (t0 = t1) (w_L_pilot_148 dc h l0 l1 l2 l3 l4 l5 l6 l7 l8 l9 l10 l12 1 Po rec9) (w_L_pilot_148 dc h l0 l1 l2 l3 l4 l5 l6 l7 l8 l9 l10 l12 0 Po rec9)
set_option maxRecDepth 100000 in
set_option maxHeartbeats 4000000 in
theorem k_L_pilot_140 {V : XVT} {X : XC} {l : Launch} (S : xS V X l RL yL_pilot.name cL_pilot 15 wsL_pilot (xRm 0 0 0 0)) (h : XH) (l0 : Int32) (l1 : Int32) (l2 : Int32) (l3 : Int32) (l4 : Nat) (l5 : Nat) (l6 : Nat) (l7 : Int32) (l8 : Int32) (l9 : Int32) (l10 : Int32) (l12 : Int32) (t0 : Int32) (t1 : Int32) (Po : Int32 → Prop) (E : xEnd V cL_pilot (some .int) 0 0 (xRi h Po)) (rec9 : Int32 × Int32 × Int32 → Prop) (hr9 : ∀ s : Int32 × Int32 × Int32, rec9 s → V 0 0 h 9 [(0, .int l0), (1, .int l1), (2, .int l2), (3, .int l3), (4, .ref l4), (5, .ref l5), (6, .ref l6), (7, .int s.1), (8, .int s.2.1), (9, .int s.2.2)] []) (hw : w_L_pilot_140 (xdc X) h l0 l1 l2 l3 l4 l5 l6 l7 l8 l9 l10 l12 t0 t1 Po rec9) : V 0 0 h 140 [(0, .int l0), (1, .int l1), (2, .int l2), (3, .int l3), (4, .ref l4), (5, .ref l5), (6, .ref l6), (7, .int l7), (8, .int l8), (9, .int l9), (10, .int l10), (12, .int l12)] [.int t1, .int t0] := by
  refine xw_icmp_ne S 147 dL_pilot_140 (by decide) hw (fun c hw => ?_) (fun c hw => ?_)
  · refine xr_iconst S (0) dL_pilot_147 (by decide) ?_
    exact k_L_pilot_148 S h l0 l1 l2 l3 l4 l5 l6 l7 l8 l9 l10 l12 0 Po E rec9 hr9 hw
  · refine xr_iconst S (1) dL_pilot_143 (by decide) ?_
    refine xr_goto S (tgt := 148) dL_pilot_144 (by decide) ?_
    exact k_L_pilot_148 S h l0 l1 l2 l3 l4 l5 l6 l7 l8 l9 l10 l12 1 Po E rec9 hr9 hw
def w_L_pilot_123 (dc : Nat × Nat) (h : XH) (l0 : Int32) (l1 : Int32) (l2 : Int32) (l3 : Int32) (l4 : Nat) (l5 : Nat) (l6 : Nat) (l7 : Int32) (l8 : Int32) (l9 : Int32) (l10 : Int32) (l11 : Int32) (l12 : Int32) (l13 : Int32) (Po : Int32 → Prop) (rec9 : Int32 × Int32 × Int32 → Prop) (rec38 : Int32 × Int32 × Int32 × Int32 → Prop) : Prop :=
  rec38 (l10, l11, l12, (l13 + 1))
set_option maxRecDepth 100000 in
set_option maxHeartbeats 4000000 in
theorem k_L_pilot_123 {V : XVT} {X : XC} {l : Launch} (S : xS V X l RL yL_pilot.name cL_pilot 15 wsL_pilot (xRm 0 0 0 0)) (h : XH) (l0 : Int32) (l1 : Int32) (l2 : Int32) (l3 : Int32) (l4 : Nat) (l5 : Nat) (l6 : Nat) (l7 : Int32) (l8 : Int32) (l9 : Int32) (l10 : Int32) (l11 : Int32) (l12 : Int32) (l13 : Int32) (Po : Int32 → Prop) (E : xEnd V cL_pilot (some .int) 0 0 (xRi h Po)) (rec9 : Int32 × Int32 × Int32 → Prop) (rec38 : Int32 × Int32 × Int32 × Int32 → Prop) (hr9 : ∀ s : Int32 × Int32 × Int32, rec9 s → V 0 0 h 9 [(0, .int l0), (1, .int l1), (2, .int l2), (3, .int l3), (4, .ref l4), (5, .ref l5), (6, .ref l6), (7, .int s.1), (8, .int s.2.1), (9, .int s.2.2)] []) (hr38 : ∀ s : Int32 × Int32 × Int32 × Int32, rec38 s → V 0 0 h 38 [(0, .int l0), (1, .int l1), (2, .int l2), (3, .int l3), (4, .ref l4), (5, .ref l5), (6, .ref l6), (7, .int l7), (8, .int l8), (9, .int l9), (10, .int s.1), (11, .int s.2.1), (12, .int s.2.2.1), (13, .int s.2.2.2)] []) (hw : w_L_pilot_123 (xdc X) h l0 l1 l2 l3 l4 l5 l6 l7 l8 l9 l10 l11 l12 l13 Po rec9 rec38) : V 0 0 h 123 [(0, .int l0), (1, .int l1), (2, .int l2), (3, .int l3), (4, .ref l4), (5, .ref l5), (6, .ref l6), (7, .int l7), (8, .int l8), (9, .int l9), (10, .int l10), (11, .int l11), (12, .int l12), (13, .int l13)] [] := by
  refine xr_iinc S 13 ((l13 + 1)) [(13, .int (l13 + 1)), (0, .int l0), (1, .int l1), (2, .int l2), (3, .int l3), (4, .ref l4), (5, .ref l5), (6, .ref l6), (7, .int l7), (8, .int l8), (9, .int l9), (10, .int l10), (11, .int l11), (12, .int l12)] dL_pilot_123 rfl rfl (by decide) rfl ?_
  refine xr_goto S (tgt := 38) dL_pilot_126 (by decide) ?_
  refine xr_sub S [(0, .int l0), (1, .int l1), (2, .int l2), (3, .int l3), (4, .ref l4), (5, .ref l5), (6, .ref l6), (7, .int l7), (8, .int l8), (9, .int l9), (10, .int l10), (11, .int l11), (12, .int l12), (13, .int (l13 + 1))] [1, 2, 3, 4, 5, 6, 7, 8, 9, 10, 11, 12, 13, 0] rfl ?_
  exact hr38 (l10, l11, l12, (l13 + 1)) hw
def w_L_pilot_80 (dc : Nat × Nat) (h : XH) (l0 : Int32) (l1 : Int32) (l2 : Int32) (l3 : Int32) (l4 : Nat) (l5 : Nat) (l6 : Nat) (l7 : Int32) (l8 : Int32) (l9 : Int32) (l10 : Int32) (l11 : Int32) (l13 : Int32) (t0 : Int32) (Po : Int32 → Prop) (rec9 : Int32 × Int32 × Int32 → Prop) (rec38 : Int32 × Int32 × Int32 × Int32 → Prop) : Prop :=
  wA2 h l4 l13 (fun r7 => wDer r7 (fun q8 => wAI h 2 q8 1 (fun v9 => wIf (l10 < (v9 + 60)) (wA2 h l4 l13 (fun r10 => wDer r10 (fun q11 => wAI h 2 q11 1 (fun v12 => wA2 h l4 l13 (fun r13 => wDer r13 (fun q14 => wAI h 2 q14 5 (fun v15 => (w_L_pilot_123 dc h l0 l1 l2 l3 l4 l5 l6 l7 l8 l9 (v12 + 60) (1 - v15) t0 l13 Po rec9 rec38)))))))) (w_L_pilot_123 dc h l0 l1 l2 l3 l4 l5 l6 l7 l8 l9 l10 l11 t0 l13 Po rec9 rec38))))
set_option maxRecDepth 100000 in
set_option maxHeartbeats 4000000 in
theorem k_L_pilot_80 {V : XVT} {X : XC} {l : Launch} (S : xS V X l RL yL_pilot.name cL_pilot 15 wsL_pilot (xRm 0 0 0 0)) (h : XH) (l0 : Int32) (l1 : Int32) (l2 : Int32) (l3 : Int32) (l4 : Nat) (l5 : Nat) (l6 : Nat) (l7 : Int32) (l8 : Int32) (l9 : Int32) (l10 : Int32) (l11 : Int32) (l13 : Int32) (t0 : Int32) (Po : Int32 → Prop) (E : xEnd V cL_pilot (some .int) 0 0 (xRi h Po)) (rec9 : Int32 × Int32 × Int32 → Prop) (rec38 : Int32 × Int32 × Int32 × Int32 → Prop) (hr9 : ∀ s : Int32 × Int32 × Int32, rec9 s → V 0 0 h 9 [(0, .int l0), (1, .int l1), (2, .int l2), (3, .int l3), (4, .ref l4), (5, .ref l5), (6, .ref l6), (7, .int s.1), (8, .int s.2.1), (9, .int s.2.2)] []) (hr38 : ∀ s : Int32 × Int32 × Int32 × Int32, rec38 s → V 0 0 h 38 [(0, .int l0), (1, .int l1), (2, .int l2), (3, .int l3), (4, .ref l4), (5, .ref l5), (6, .ref l6), (7, .int l7), (8, .int l8), (9, .int l9), (10, .int s.1), (11, .int s.2.1), (12, .int s.2.2.1), (13, .int s.2.2.2)] []) (hw : w_L_pilot_80 (xdc X) h l0 l1 l2 l3 l4 l5 l6 l7 l8 l9 l10 l11 l13 t0 Po rec9 rec38) : V 0 0 h 80 [(0, .int l0), (1, .int l1), (2, .int l2), (3, .int l3), (4, .ref l4), (5, .ref l5), (6, .ref l6), (7, .int l7), (8, .int l8), (9, .int l9), (10, .int l10), (11, .int l11), (13, .int l13)] [.int t0] := by
  refine xr_istore S [(12, .int t0), (0, .int l0), (1, .int l1), (2, .int l2), (3, .int l3), (4, .ref l4), (5, .ref l5), (6, .ref l6), (7, .int l7), (8, .int l8), (9, .int l9), (10, .int l10), (11, .int l11), (13, .int l13)] dL_pilot_80 (by decide) rfl ?_
  refine xr_aload S 5 dL_pilot_82 rfl ?_
  refine xr_iload S 13 dL_pilot_84 rfl ?_
  refine xw_ald2 S dL_pilot_86 hw (fun r7 hw => ?_)
  refine xr_iconst S (1) dL_pilot_87 (by decide) ?_
  obtain ⟨q8, hrq8, hwq8⟩ := hw
  subst hrq8
  have hw := hwq8
  refine xw_iald S 2 dL_pilot_88 (Or.inr rfl) hw (fun v9 hw => ?_)
  refine xr_bipush S (60) dL_pilot_89 (by decide) ?_
  refine xr_iadd S dL_pilot_91 ?_
  refine xr_iload S 11 dL_pilot_92 rfl ?_
  refine xw_icmp_gt S 100 dL_pilot_94 (by decide) hw (fun c hw => ?_) (fun c hw => ?_)
  · refine xr_aload S 5 dL_pilot_100 rfl ?_
    refine xr_iload S 13 dL_pilot_102 rfl ?_
    refine xw_ald2 S dL_pilot_104 hw (fun r10 hw => ?_)
    refine xr_iconst S (1) dL_pilot_105 (by decide) ?_
    obtain ⟨q11, hrq11, hwq11⟩ := hw
    subst hrq11
    have hw := hwq11
    refine xw_iald S 2 dL_pilot_106 (Or.inr rfl) hw (fun v12 hw => ?_)
    refine xr_bipush S (60) dL_pilot_107 (by decide) ?_
    refine xr_iadd S dL_pilot_109 ?_
    refine xr_istore S [(10, .int (v12 + 60)), (12, .int t0), (0, .int l0), (1, .int l1), (2, .int l2), (3, .int l3), (4, .ref l4), (5, .ref l5), (6, .ref l6), (7, .int l7), (8, .int l8), (9, .int l9), (11, .int l11), (13, .int l13)] dL_pilot_110 (by decide) rfl ?_
    refine xr_iconst S (1) dL_pilot_112 (by decide) ?_
    refine xr_aload S 6 dL_pilot_113 rfl ?_
    refine xr_iload S 13 dL_pilot_115 rfl ?_
    refine xw_ald2 S dL_pilot_117 hw (fun r13 hw => ?_)
    refine xr_iconst S (5) dL_pilot_118 (by decide) ?_
    obtain ⟨q14, hrq14, hwq14⟩ := hw
    subst hrq14
    have hw := hwq14
    refine xw_iald S 2 dL_pilot_119 (Or.inr rfl) hw (fun v15 hw => ?_)
    refine xr_isub S dL_pilot_120 ?_
    refine xr_istore S [(11, .int (1 - v15)), (10, .int (v12 + 60)), (12, .int t0), (0, .int l0), (1, .int l1), (2, .int l2), (3, .int l3), (4, .ref l4), (5, .ref l5), (6, .ref l6), (7, .int l7), (8, .int l8), (9, .int l9), (13, .int l13)] dL_pilot_121 (by decide) rfl ?_
    refine xr_sub S [(0, .int l0), (1, .int l1), (2, .int l2), (3, .int l3), (4, .ref l4), (5, .ref l5), (6, .ref l6), (7, .int l7), (8, .int l8), (9, .int l9), (10, .int (v12 + 60)), (11, .int (1 - v15)), (12, .int t0), (13, .int l13)] [3, 4, 5, 6, 7, 8, 9, 10, 11, 12, 1, 0, 2, 13] rfl ?_
    exact k_L_pilot_123 S h l0 l1 l2 l3 l4 l5 l6 l7 l8 l9 (v12 + 60) (1 - v15) t0 l13 Po E rec9 rec38 hr9 hr38 hw
  · refine xr_goto S (tgt := 123) dL_pilot_97 (by decide) ?_
    refine xr_sub S [(0, .int l0), (1, .int l1), (2, .int l2), (3, .int l3), (4, .ref l4), (5, .ref l5), (6, .ref l6), (7, .int l7), (8, .int l8), (9, .int l9), (10, .int l10), (11, .int l11), (12, .int t0), (13, .int l13)] [1, 2, 3, 4, 5, 6, 7, 8, 9, 10, 11, 12, 0, 13] rfl ?_
    exact k_L_pilot_123 S h l0 l1 l2 l3 l4 l5 l6 l7 l8 l9 l10 l11 t0 l13 Po E rec9 rec38 hr9 hr38 hw
def w_L_pilot_75 (dc : Nat × Nat) (h : XH) (l0 : Int32) (l1 : Int32) (l2 : Int32) (l3 : Int32) (l4 : Nat) (l5 : Nat) (l6 : Nat) (l7 : Int32) (l8 : Int32) (l9 : Int32) (l10 : Int32) (l11 : Int32) (l13 : Int32) (Po : Int32 → Prop) (rec9 : Int32 × Int32 × Int32 → Prop) (rec38 : Int32 × Int32 × Int32 × Int32 → Prop) : Prop :=
  w_L_pilot_80 dc h l0 l1 l2 l3 l4 l5 l6 l7 l8 l9 l10 l11 l13 1 Po rec9 rec38
set_option maxRecDepth 100000 in
set_option maxHeartbeats 4000000 in
theorem k_L_pilot_75 {V : XVT} {X : XC} {l : Launch} (S : xS V X l RL yL_pilot.name cL_pilot 15 wsL_pilot (xRm 0 0 0 0)) (h : XH) (l0 : Int32) (l1 : Int32) (l2 : Int32) (l3 : Int32) (l4 : Nat) (l5 : Nat) (l6 : Nat) (l7 : Int32) (l8 : Int32) (l9 : Int32) (l10 : Int32) (l11 : Int32) (l13 : Int32) (Po : Int32 → Prop) (E : xEnd V cL_pilot (some .int) 0 0 (xRi h Po)) (rec9 : Int32 × Int32 × Int32 → Prop) (rec38 : Int32 × Int32 × Int32 × Int32 → Prop) (hr9 : ∀ s : Int32 × Int32 × Int32, rec9 s → V 0 0 h 9 [(0, .int l0), (1, .int l1), (2, .int l2), (3, .int l3), (4, .ref l4), (5, .ref l5), (6, .ref l6), (7, .int s.1), (8, .int s.2.1), (9, .int s.2.2)] []) (hr38 : ∀ s : Int32 × Int32 × Int32 × Int32, rec38 s → V 0 0 h 38 [(0, .int l0), (1, .int l1), (2, .int l2), (3, .int l3), (4, .ref l4), (5, .ref l5), (6, .ref l6), (7, .int l7), (8, .int l8), (9, .int l9), (10, .int s.1), (11, .int s.2.1), (12, .int s.2.2.1), (13, .int s.2.2.2)] []) (hw : w_L_pilot_75 (xdc X) h l0 l1 l2 l3 l4 l5 l6 l7 l8 l9 l10 l11 l13 Po rec9 rec38) : V 0 0 h 75 [(0, .int l0), (1, .int l1), (2, .int l2), (3, .int l3), (4, .ref l4), (5, .ref l5), (6, .ref l6), (7, .int l7), (8, .int l8), (9, .int l9), (10, .int l10), (11, .int l11), (13, .int l13)] [] := by
  refine xr_iconst S (1) dL_pilot_75 (by decide) ?_
  refine xr_goto S (tgt := 80) dL_pilot_76 (by decide) ?_
  exact k_L_pilot_80 S h l0 l1 l2 l3 l4 l5 l6 l7 l8 l9 l10 l11 l13 1 Po E rec9 rec38 hr9 hr38 hw
def w_L_pilot_38_F (dc : Nat × Nat) (h : XH) (l0 : Int32) (l1 : Int32) (l2 : Int32) (l3 : Int32) (l4 : Nat) (l5 : Nat) (l6 : Nat) (l7 : Int32) (l8 : Int32) (l9 : Int32) (Po : Int32 → Prop) (rec9 : Int32 × Int32 × Int32 → Prop) (rec38 : Int32 × Int32 × Int32 × Int32 → Prop) : Int32 × Int32 × Int32 × Int32 → Prop := fun s => match s with
  | (l10, l11, l12, l13) =>
  wIf (l3 ≤ l13) (wIf (l1 = 0) (w_L_pilot_140 dc h l0 l1 l2 l3 l4 l5 l6 l7 l8 l9 l10 l12 l11 0 Po rec9) (w_L_pilot_140 dc h l0 l1 l2 l3 l4 l5 l6 l7 l8 l9 l10 l12 l11 1 Po rec9)) (wA2 h l4 l13 (fun r4 => wDer r4 (fun q5 => wAI h 2 q5 2 (fun v6 => wIf (v6 = l9) (wIf (l12 = 0) (wA2 h l4 l13 (fun r16 => wDer r16 (fun q17 => wAI h 2 q17 1 (fun v18 => wIf (v18 < l2) (w_L_pilot_80 dc h l0 l1 l2 l3 l4 l5 l6 l7 l8 l9 l10 l11 l13 0 Po rec9 rec38) (w_L_pilot_75 dc h l0 l1 l2 l3 l4 l5 l6 l7 l8 l9 l10 l11 l13 Po rec9 rec38))))) (w_L_pilot_75 dc h l0 l1 l2 l3 l4 l5 l6 l7 l8 l9 l10 l11 l13 Po rec9 rec38)) (w_L_pilot_123 dc h l0 l1 l2 l3 l4 l5 l6 l7 l8 l9 l10 l11 l12 l13 Po rec9 rec38)))))
def w_L_pilot_38 (dc : Nat × Nat) (h : XH) (l0 : Int32) (l1 : Int32) (l2 : Int32) (l3 : Int32) (l4 : Nat) (l5 : Nat) (l6 : Nat) (l7 : Int32) (l8 : Int32) (l9 : Int32) (Po : Int32 → Prop) (rec9 : Int32 × Int32 × Int32 → Prop) : Int32 × Int32 × Int32 × Int32 → Prop := xloop (w_L_pilot_38_F dc h l0 l1 l2 l3 l4 l5 l6 l7 l8 l9 Po rec9)
set_option maxRecDepth 100000 in
set_option maxHeartbeats 4000000 in
theorem k_L_pilot_38 {V : XVT} {X : XC} {l : Launch} (S : xS V X l RL yL_pilot.name cL_pilot 15 wsL_pilot (xRm 0 0 0 0)) (h : XH) (l0 : Int32) (l1 : Int32) (l2 : Int32) (l3 : Int32) (l4 : Nat) (l5 : Nat) (l6 : Nat) (l7 : Int32) (l8 : Int32) (l9 : Int32) (Po : Int32 → Prop) (E : xEnd V cL_pilot (some .int) 0 0 (xRi h Po)) (rec9 : Int32 × Int32 × Int32 → Prop) (hr9 : ∀ s : Int32 × Int32 × Int32, rec9 s → V 0 0 h 9 [(0, .int l0), (1, .int l1), (2, .int l2), (3, .int l3), (4, .ref l4), (5, .ref l5), (6, .ref l6), (7, .int s.1), (8, .int s.2.1), (9, .int s.2.2)] []) (s0 : Int32 × Int32 × Int32 × Int32) (hw : w_L_pilot_38 (xdc X) h l0 l1 l2 l3 l4 l5 l6 l7 l8 l9 Po rec9 s0) : V 0 0 h 38 [(0, .int l0), (1, .int l1), (2, .int l2), (3, .int l3), (4, .ref l4), (5, .ref l5), (6, .ref l6), (7, .int l7), (8, .int l8), (9, .int l9), (10, .int s0.1), (11, .int s0.2.1), (12, .int s0.2.2.1), (13, .int s0.2.2.2)] [] := by
  refine xloop_use (P := fun s : Int32 × Int32 × Int32 × Int32 => V 0 0 h 38 [(0, .int l0), (1, .int l1), (2, .int l2), (3, .int l3), (4, .ref l4), (5, .ref l5), (6, .ref l6), (7, .int l7), (8, .int l8), (9, .int l9), (10, .int s.1), (11, .int s.2.1), (12, .int s.2.2.1), (13, .int s.2.2.2)] []) (fun rec38 hr38 s hw => ?_) hw
  obtain ⟨l10, l11, l12, l13⟩ := s
  try dsimp only
  dsimp only [w_L_pilot_38_F] at hw
  refine xr_iload S 13 dL_pilot_38 rfl ?_
  refine xr_iload_n S 3 dL_pilot_40 rfl ?_
  refine xw_icmp_ge S 129 dL_pilot_41 (by decide) hw (fun c hw => ?_) (fun c hw => ?_)
  · refine xr_iload S 11 dL_pilot_129 rfl ?_
    refine xr_iload_n S 1 dL_pilot_131 rfl ?_
    refine xw_if_eq S 139 dL_pilot_132 (by decide) hw (fun c hw => ?_) (fun c hw => ?_)
    · refine xr_iconst S (0) dL_pilot_139 (by decide) ?_
      refine xr_sub S [(0, .int l0), (1, .int l1), (2, .int l2), (3, .int l3), (4, .ref l4), (5, .ref l5), (6, .ref l6), (7, .int l7), (8, .int l8), (9, .int l9), (10, .int l10), (12, .int l12)] [0, 1, 2, 3, 4, 5, 6, 7, 8, 9, 10, 12] rfl ?_
      exact k_L_pilot_140 S h l0 l1 l2 l3 l4 l5 l6 l7 l8 l9 l10 l12 l11 0 Po E rec9 hr9 hw
    · refine xr_iconst S (1) dL_pilot_135 (by decide) ?_
      refine xr_goto S (tgt := 140) dL_pilot_136 (by decide) ?_
      refine xr_sub S [(0, .int l0), (1, .int l1), (2, .int l2), (3, .int l3), (4, .ref l4), (5, .ref l5), (6, .ref l6), (7, .int l7), (8, .int l8), (9, .int l9), (10, .int l10), (12, .int l12)] [0, 1, 2, 3, 4, 5, 6, 7, 8, 9, 10, 12] rfl ?_
      exact k_L_pilot_140 S h l0 l1 l2 l3 l4 l5 l6 l7 l8 l9 l10 l12 l11 1 Po E rec9 hr9 hw
  · refine xr_aload S 4 dL_pilot_44 rfl ?_
    refine xr_iload S 13 dL_pilot_46 rfl ?_
    refine xw_ald2 S dL_pilot_48 hw (fun r4 hw => ?_)
    refine xr_iconst S (2) dL_pilot_49 (by decide) ?_
    obtain ⟨q5, hrq5, hwq5⟩ := hw
    subst hrq5
    have hw := hwq5
    refine xw_iald S 2 dL_pilot_50 (Or.inr rfl) hw (fun v6 hw => ?_)
    refine xr_iload S 9 dL_pilot_51 rfl ?_
    refine xw_icmp_eq S 59 dL_pilot_53 (by decide) hw (fun c hw => ?_) (fun c hw => ?_)
    · refine xr_iload S 12 dL_pilot_59 rfl ?_
      refine xw_if_ne S 75 dL_pilot_61 (by decide) hw (fun c hw => ?_) (fun c hw => ?_)
      · refine xr_sub S [(0, .int l0), (1, .int l1), (2, .int l2), (3, .int l3), (4, .ref l4), (5, .ref l5), (6, .ref l6), (7, .int l7), (8, .int l8), (9, .int l9), (10, .int l10), (11, .int l11), (13, .int l13)] [0, 1, 2, 3, 4, 5, 6, 7, 8, 9, 10, 11, 13] rfl ?_
        exact k_L_pilot_75 S h l0 l1 l2 l3 l4 l5 l6 l7 l8 l9 l10 l11 l13 Po E rec9 rec38 hr9 hr38 hw
      · refine xr_aload S 4 dL_pilot_64 rfl ?_
        refine xr_iload S 13 dL_pilot_66 rfl ?_
        refine xw_ald2 S dL_pilot_68 hw (fun r16 hw => ?_)
        refine xr_iconst S (1) dL_pilot_69 (by decide) ?_
        obtain ⟨q17, hrq17, hwq17⟩ := hw
        subst hrq17
        have hw := hwq17
        refine xw_iald S 2 dL_pilot_70 (Or.inr rfl) hw (fun v18 hw => ?_)
        refine xr_iload_n S 2 dL_pilot_71 rfl ?_
        refine xw_icmp_lt S 79 dL_pilot_72 (by decide) hw (fun c hw => ?_) (fun c hw => ?_)
        · refine xr_iconst S (0) dL_pilot_79 (by decide) ?_
          refine xr_sub S [(0, .int l0), (1, .int l1), (2, .int l2), (3, .int l3), (4, .ref l4), (5, .ref l5), (6, .ref l6), (7, .int l7), (8, .int l8), (9, .int l9), (10, .int l10), (11, .int l11), (13, .int l13)] [0, 1, 2, 3, 4, 5, 6, 7, 8, 9, 10, 11, 13] rfl ?_
          exact k_L_pilot_80 S h l0 l1 l2 l3 l4 l5 l6 l7 l8 l9 l10 l11 l13 0 Po E rec9 rec38 hr9 hr38 hw
        · refine xr_sub S [(0, .int l0), (1, .int l1), (2, .int l2), (3, .int l3), (4, .ref l4), (5, .ref l5), (6, .ref l6), (7, .int l7), (8, .int l8), (9, .int l9), (10, .int l10), (11, .int l11), (13, .int l13)] [0, 1, 2, 3, 4, 5, 6, 7, 8, 9, 10, 11, 13] rfl ?_
          exact k_L_pilot_75 S h l0 l1 l2 l3 l4 l5 l6 l7 l8 l9 l10 l11 l13 Po E rec9 rec38 hr9 hr38 hw
    · refine xr_goto S (tgt := 123) dL_pilot_56 (by decide) ?_
      exact k_L_pilot_123 S h l0 l1 l2 l3 l4 l5 l6 l7 l8 l9 l10 l11 l12 l13 Po E rec9 rec38 hr9 hr38 hw
def w_L_pilot_9_F (dc : Nat × Nat) (h : XH) (l0 : Int32) (l1 : Int32) (l2 : Int32) (l3 : Int32) (l4 : Nat) (l5 : Nat) (l6 : Nat) (Po : Int32 → Prop) (rec9 : Int32 × Int32 × Int32 → Prop) : Int32 × Int32 × Int32 → Prop := fun s => match s with
  | (l7, l8, l9) =>
  wAI h 2 l5 3 (fun v1 => wIf (v1 ≤ l9) (Po l7) (wAI h 2 l6 ((2 * l9) + 1) (fun v2 => (w_L_pilot_38 dc h l0 l1 l2 l3 l4 l5 l6 l7 l8 l9 Po rec9 ((-1), v2, 0, 0)))))
def w_L_pilot_9 (dc : Nat × Nat) (h : XH) (l0 : Int32) (l1 : Int32) (l2 : Int32) (l3 : Int32) (l4 : Nat) (l5 : Nat) (l6 : Nat) (Po : Int32 → Prop) : Int32 × Int32 × Int32 → Prop := xloop (w_L_pilot_9_F dc h l0 l1 l2 l3 l4 l5 l6 Po)
set_option maxRecDepth 100000 in
set_option maxHeartbeats 4000000 in
theorem k_L_pilot_9 {V : XVT} {X : XC} {l : Launch} (S : xS V X l RL yL_pilot.name cL_pilot 15 wsL_pilot (xRm 0 0 0 0)) (h : XH) (l0 : Int32) (l1 : Int32) (l2 : Int32) (l3 : Int32) (l4 : Nat) (l5 : Nat) (l6 : Nat) (Po : Int32 → Prop) (E : xEnd V cL_pilot (some .int) 0 0 (xRi h Po)) (s0 : Int32 × Int32 × Int32) (hw : w_L_pilot_9 (xdc X) h l0 l1 l2 l3 l4 l5 l6 Po s0) : V 0 0 h 9 [(0, .int l0), (1, .int l1), (2, .int l2), (3, .int l3), (4, .ref l4), (5, .ref l5), (6, .ref l6), (7, .int s0.1), (8, .int s0.2.1), (9, .int s0.2.2)] [] := by
  refine xloop_use (P := fun s : Int32 × Int32 × Int32 => V 0 0 h 9 [(0, .int l0), (1, .int l1), (2, .int l2), (3, .int l3), (4, .ref l4), (5, .ref l5), (6, .ref l6), (7, .int s.1), (8, .int s.2.1), (9, .int s.2.2)] []) (fun rec9 hr9 s hw => ?_) hw
  obtain ⟨l7, l8, l9⟩ := s
  try dsimp only
  dsimp only [w_L_pilot_9_F] at hw
  refine xr_iload S 9 dL_pilot_9 rfl ?_
  refine xr_aload S 5 dL_pilot_11 rfl ?_
  refine xr_iconst S (3) dL_pilot_13 (by decide) ?_
  refine xw_iald S 2 dL_pilot_14 (Or.inr rfl) hw (fun v1 hw => ?_)
  refine xw_icmp_ge S 245 dL_pilot_15 (by decide) hw (fun c hw => ?_) (fun c hw => ?_)
  · refine xr_iload S 7 dL_pilot_245 rfl ?_
    exact E.1 _ _ _ _ _ _ rfl dL_pilot_247 ⟨_, rfl, rfl, hw⟩ (Nat.le_of_ble_eq_true rfl) (Nat.le_of_ble_eq_true rfl)
  · refine xr_iconst S (-1) dL_pilot_18 (by decide) ?_
    refine xr_istore S [(10, .int (-1)), (0, .int l0), (1, .int l1), (2, .int l2), (3, .int l3), (4, .ref l4), (5, .ref l5), (6, .ref l6), (7, .int l7), (8, .int l8), (9, .int l9)] dL_pilot_19 (by decide) rfl ?_
    refine xr_aload S 7 dL_pilot_21 rfl ?_
    refine xr_iconst S (2) dL_pilot_23 (by decide) ?_
    refine xr_iload S 10 dL_pilot_24 rfl ?_
    refine xr_imul S dL_pilot_26 ?_
    refine xr_iconst S (1) dL_pilot_27 (by decide) ?_
    refine xr_iadd S dL_pilot_28 ?_
    refine xw_iald S 2 dL_pilot_29 (Or.inr rfl) hw (fun v2 hw => ?_)
    refine xr_istore S [(11, .int v2), (10, .int (-1)), (0, .int l0), (1, .int l1), (2, .int l2), (3, .int l3), (4, .ref l4), (5, .ref l5), (6, .ref l6), (7, .int l7), (8, .int l8), (9, .int l9)] dL_pilot_30 (by decide) rfl ?_
    refine xr_iconst S (0) dL_pilot_32 (by decide) ?_
    refine xr_istore S [(12, .int 0), (11, .int v2), (10, .int (-1)), (0, .int l0), (1, .int l1), (2, .int l2), (3, .int l3), (4, .ref l4), (5, .ref l5), (6, .ref l6), (7, .int l7), (8, .int l8), (9, .int l9)] dL_pilot_33 (by decide) rfl ?_
    refine xr_iconst S (0) dL_pilot_35 (by decide) ?_
    refine xr_istore S [(13, .int 0), (12, .int 0), (11, .int v2), (10, .int (-1)), (0, .int l0), (1, .int l1), (2, .int l2), (3, .int l3), (4, .ref l4), (5, .ref l5), (6, .ref l6), (7, .int l7), (8, .int l8), (9, .int l9)] dL_pilot_36 (by decide) rfl ?_
    refine xr_sub S [(0, .int l0), (1, .int l1), (2, .int l2), (3, .int l3), (4, .ref l4), (5, .ref l5), (6, .ref l6), (7, .int l7), (8, .int l8), (9, .int l9), (10, .int (-1)), (11, .int v2), (12, .int 0), (13, .int 0)] [4, 5, 6, 7, 8, 9, 10, 11, 12, 13, 3, 2, 1, 0] rfl ?_
    exact k_L_pilot_38 S h l0 l1 l2 l3 l4 l5 l6 l7 l8 l9 Po E rec9 hr9 ((-1), v2, 0, 0) hw
def w_L_pilot (dc : Nat × Nat) (h : XH) (l0 : Int32) (l1 : Int32) (l2 : Int32) (l3 : Int32) (l4 : Nat) (l5 : Nat) (l6 : Nat) (Po : Int32 → Prop) : Prop :=
  w_L_pilot_9 dc h l0 l1 l2 l3 l4 l5 l6 Po ((-1), 0, 0)
set_option maxRecDepth 100000 in
set_option maxHeartbeats 4000000 in
theorem k_L_pilot (l : Launch) (dc : Nat × Nat) (h : XH) (l0 : Int32) (l1 : Int32) (l2 : Int32) (l3 : Int32) (l4 : Nat) (l5 : Nat) (l6 : Nat) (Po : Int32 → Prop) (hw : w_L_pilot dc h l0 l1 l2 l3 l4 l5 l6 Po) : xM l dc yL_pilot wsL_pilot 0 0 0 0 [.int l0, .int l1, .int l2, .int l3, .ref l4, .ref l5, .ref l6] h (xRi h Po) := by
  refine xM_of [(0, .int l0), (1, .int l1), (2, .int l2), (3, .int l3), (4, .ref l4), (5, .ref l5), (6, .ref l6)] (own := RL) (cc := cL_pilot) (nL := 15) (ret := (some .int)) (by decide +kernel) rfl rfl (Nat.le_of_ble_eq_true rfl) rfl ?_
  intro X V hX S E
  subst hX
  refine xr_iconst S (-1) dL_pilot_0 (by decide) ?_
  refine xr_istore S [(7, .int (-1)), (0, .int l0), (1, .int l1), (2, .int l2), (3, .int l3), (4, .ref l4), (5, .ref l5), (6, .ref l6)] dL_pilot_1 (by decide) rfl ?_
  refine xr_iconst S (0) dL_pilot_3 (by decide) ?_
  refine xr_istore S [(8, .int 0), (7, .int (-1)), (0, .int l0), (1, .int l1), (2, .int l2), (3, .int l3), (4, .ref l4), (5, .ref l5), (6, .ref l6)] dL_pilot_4 (by decide) rfl ?_
  refine xr_iconst S (0) dL_pilot_6 (by decide) ?_
  refine xr_istore S [(9, .int 0), (8, .int 0), (7, .int (-1)), (0, .int l0), (1, .int l1), (2, .int l2), (3, .int l3), (4, .ref l4), (5, .ref l5), (6, .ref l6)] dL_pilot_7 (by decide) rfl ?_
  refine xr_sub S [(0, .int l0), (1, .int l1), (2, .int l2), (3, .int l3), (4, .ref l4), (5, .ref l5), (6, .ref l6), (7, .int (-1)), (8, .int 0), (9, .int 0)] [3, 4, 5, 6, 7, 8, 9, 2, 1, 0] rfl ?_
  exact k_L_pilot_9 S h l0 l1 l2 l3 l4 l5 l6 Po E ((-1), 0, 0) hw
