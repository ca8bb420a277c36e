/-! PURE ROWS: the script's cells, and the day that the law builds -/
/-- the law's rows of ints: 0 n, 1 points, 2 berths, 3 ships, 4 pilots -/
def aN (j : Nat) : Nat := if j = 0 then 7 else if j = 1 then 20 else if j = 3 then 12 else 6
def isR (h : XH) (A : Nat → Nat) (F : Nat → Nat → Int32) : Prop := (∀ j, j < 5 → h (A j) = some (rI (aN j) (F j))) ∧ ∀ i j, i < 5 → j < 5 → A i = A j → i = j
def fU (F : Nat → Nat → Int32) (k : Nat) (f : Nat → Int32) : Nat → Nat → Int32 := fun j => if j = k then f else F j
theorem fU_s {F : Nat → Nat → Int32} {k : Nat} {f : Nat → Int32} : fU F k f k = f := if_pos rfl
theorem fU_o {F : Nat → Nat → Int32} {k j : Nat} {f : Nat → Int32} (c : j ≠ k) : fU F k f j = F j := if_neg c
def isZ (dc : Nat × Nat) (x b L : Nat) (xs : Nat → Int32) (A : Nat → Nat) (h : XH) (F : Nat → Nat → Int32) (M : MS) : Prop := (∃ g, isB dc h x g M) ∧ h b = some (.inl (3, L, .inl xs)) ∧ isR h A F
section
variable {dc : Nat × Nat} {h : XH} {x b L : Nat} {xs : Nat → Int32} {A : Nat → Nat} {F : Nat → Nat → Int32} {M : MS} {Po : Int32 → Prop} {K : Int32 → Prop}
theorem ll_cell (hS : h b = some (.inl (3, L, .inl xs))) (hL : L ≤ 260) (k : Nat) (hk : k < 2 ^ 30) {y : Int32} (hy : y = nI k) (hh : ∀ v : Int32, Po v) : w_L_cell dc h b y Po := by
  subst hy
  exact ⟨L, xs, hS, wIf_d (L ≤ k) (n_le (by omega) (by omega)) (fun _ => hh _) (fun c => wAI_i k hS (by omega) rfl (by omega) (hh _))⟩
theorem and_pos (v : Int32) : ∃ m : Nat, m < 2 ^ 31 ∧ v &&& 2147483647 = nI m := by
  have h0 : 0 ≤ (v &&& 2147483647).toInt := by
    have hm : (v &&& 2147483647).toBitVec.msb = false := by
      rw [Int32.toBitVec_and, BitVec.msb_and]
      have : (2147483647 : Int32).toBitVec.msb = false := by decide
      rw [this, Bool.and_false]
    have h1 := BitVec.msb_eq_toInt (x := (v &&& 2147483647).toBitVec)
    rw [hm] at h1
    have h2 := of_decide_eq_false h1.symm
    exact Int.not_lt.mp h2
  have h1 := Int32.toInt_lt (v &&& 2147483647)
  refine ⟨(v &&& 2147483647).toInt.toNat, by omega, ?_⟩
  apply Int32.toInt_inj.mp
  rw [nI_toInt (by omega)]
  omega
theorem ll_below (n : Nat) (h0 : 0 < n) (hn : n < 2 ^ 31) {v y : Int32} (hy : y = nI n) (hh : ∀ j : Nat, j < n → Po (nI j)) : w_L_below dc h v y Po := by
  subst hy
  obtain ⟨m, hm, e⟩ := and_pos v
  refine ⟨nI_ne0 h0 hn, ?_⟩
  rw [e, pk_div hm h0 hn, pk_mul, pk_sub (Nat.div_mul_le_self m n)]
  have h1 := Nat.div_add_mod m n
  rw [Nat.mul_comm] at h1
  rw [show m - m / n * n = m % n by omega]
  exact hh _ (Nat.mod_lt _ h0)
theorem z_ld (hZ : isZ dc x b L xs A h F M) (j : Nat) (hj : j < 5) (i : Nat) (hi : i < aN j) {y : Int32} (hy : y = nI i) (hk : K (F j i)) : wAI h 2 (A j) y K := by
  have : aN j ≤ 20 := by unfold aN; split <;> (try split) <;> (try split) <;> omega
  exact wAI_i i (hZ.2.2.1 j hj) hi hy (by omega) hk
theorem z_st {K : XH → Prop} (hZ : isZ dc x b L xs A h F M) (j : Nat) (hj : j < 5) (i : Nat) (hi : i < aN j) {y v : Int32} (hy : y = nI i) (hk : ∀ h', isZ dc x b L xs A h' (fU F j (upd (F j) i v)) M → K h') : wSI h 2 (A j) y v K := by
  have : aN j ≤ 20 := by unfold aN; split <;> (try split) <;> (try split) <;> omega
  obtain ⟨⟨g, hB⟩, hS, hR1, hR2⟩ := hZ
  refine wSI_i i (hR1 j hj) hi hy (by omega) (hk _ ⟨⟨g, ?_⟩, ?_, fun k hk9 => ?_, hR2⟩)
  · refine isB_kept (n := 1) (by decide) (fun a e h1 h2 => ?_) hB
    rw [xup_o (fun z => by rw [z, hR1 j hj] at h1; cases h1; exact h2 rfl)]; exact h1
  · rw [xup_o (fun z => by rw [z, hR1 j hj] at hS; cases hS)]; exact hS
  · by_cases c : k = j
    · subst c; rw [xup_s, fU_s]
    · rw [xup_o (fun z => c (hR2 k j hk9 hj z)), fU_o c]; exact hR1 k hk9
theorem z_kM {h' : XH} {M' : MS} {g' : Nat → Nat → Nat} (hZ : isZ dc x b L xs A h F M) (hB : isB dc h' x g' M') (k : kM h h') : isZ dc x b L xs A h' F M' :=
  ⟨⟨g', hB⟩, k _ _ hZ.2.1 rfl, fun j hj => k _ _ (hZ.2.2.1 j hj) rfl, hZ.2.2.2⟩
/-- two places of a row, written one behind the other -/
theorem two_F (F : Nat → Nat → Int32) (j k : Nat) (u v : Int32) : ∃ G, G = fU (fU F j (upd (F j) (2 * k) u)) j (upd (fU F j (upd (F j) (2 * k) u) j) (2 * k + 1) v) ∧ (∀ i, i ≠ j → G i = F i) ∧ G j (2 * k) = u ∧ G j (2 * k + 1) = v ∧ ∀ i, i < k → G j (2 * i) = F j (2 * i) ∧ G j (2 * i + 1) = F j (2 * i + 1) := by
  refine ⟨_, rfl, fun i hi => by rw [fU_o hi, fU_o hi], ?_, ?_, fun i hi => ⟨?_, ?_⟩⟩
  · rw [fU_s, fU_s]; unfold upd; rw [if_neg (by omega), if_pos rfl]
  · rw [fU_s]; unfold upd; rw [if_pos rfl]
  · rw [fU_s, fU_s]; unfold upd; rw [if_neg (by omega), if_neg (by omega)]
  · rw [fU_s, fU_s]; unfold upd; rw [if_neg (by omega), if_neg (by omega)]
/-- how many there are of each -/
def nOk (F : Nat → Nat → Int32) (c : Nat → Nat) : Prop := ∀ k, k < 7 → F 0 k = nI (c k)
def cOk (c : Nat → Nat) : Prop := c 0 ≤ 8 ∧ (1 ≤ c 1 ∧ c 1 ≤ 3) ∧ (1 ≤ c 2 ∧ c 2 ≤ 6) ∧ (1 ≤ c 3 ∧ c 3 ≤ 3) ∧ c 4 ≤ 5 ∧ (700 ≤ c 5 ∧ c 5 ≤ 1199) ∧ c 6 ≤ 99
def ptOk (F : Nat → Nat → Int32) (i : Nat) : Prop := ∃ T : Nat, 300 * i ≤ T ∧ T < 300 * i + 250 ∧ F 1 (2 * i) = nI T ∧ -200 ≤ (F 1 (2 * i + 1)).toInt ∧ (F 1 (2 * i + 1)).toInt ≤ 499
/-- what the rows hold and what the book holds -/
def Lk (F : Nat → Nat → Int32) (M : MS) (c : Nat → Nat) (k1 k2 k3 : Nat) : Prop :=
  nOk F c ∧ (mn M 0 = c 0 ∧ mn M 1 = k1 ∧ mn M 2 = k2 ∧ mn M 3 = k3 ∧ mn M 4 = 0 ∧ mn M 5 = c 5 ∧ mn M 6 = c 6 ∧ mn M 7 = c 4) ∧
  (∀ i, i < c 0 → F 1 (2 * i) = nI (mt M 0 i) ∧ F 1 (2 * i + 1) = mg M i) ∧ (∀ i, i < k1 → F 2 (2 * i) = nI (mt M 1 i) ∧ F 2 (2 * i + 1) = nI (mt M 2 i)) ∧
  (∀ i, i < k2 → F 3 (2 * i) = nI (mt M 3 i) ∧ F 3 (2 * i + 1) = nI (mt M 4 i)) ∧ (∀ i, i < k3 → F 4 (2 * i) = nI (mt M 5 i) ∧ F 4 (2 * i + 1) = nI (mt M 6 i))
/-- the counts are told as they are -/
theorem lb_611 {Po : Option Nat → XH → Prop} {c : Nat → Nat} (hZ : isZ dc x b L xs A h F M) (hK : Lk F M c (c 1) (c 2) (c 3)) (hh : Po (some (A 0)) h) : w_L_build_611 dc h x (A 0) Po (0, 0) := by
  obtain ⟨g, hB⟩ := hZ.1
  refine xloop_up (fun k => (k, nI k)) (fun _ => True) 4 0 (by decide) trivial (fun rec k _ hk _ hr => ?_) (fun rec _ => ?_)
  · have hr := hr trivial
    dsimp only [w_L_build_611_F]
    rw [nI_succ] at hr
    refine wIf_f (nI_ge hk (by decide)) (wO_i hB.1 (sb_count0 hB k (by omega) rfl (z_ld hZ 0 (by decide) k (show k < 7 by omega) rfl ?_)))
    rw [hK.1 k (by omega)]
    refine wIf_t ?_ ⟨by omega, hr⟩
    congr 1
    obtain ⟨h0, h1, h2, h3, -⟩ := hK.2.1
    rcases (show k = 0 ∨ k = 1 ∨ k = 2 ∨ k = 3 by omega) with z | z | z | z <;> subst z <;> assumption
  · dsimp only [w_L_build_611_F]
    exact wIf_t (by decide) hh
theorem lb_502 {Po : Option Nat → XH → Prop} {c : Nat → Nat} (hc : cOk c) (hL : L ≤ 260) (hZ : isZ dc x b L xs A h F M) (hI : Inv M) (hK : Lk F M c (c 1) (c 2) 0) (hh : ∀ h' F' M', isZ dc x b L xs A h' F' M' → Inv M' → Lk F' M' c (c 1) (c 2) (c 3) → Po (some (A 0)) h') : w_L_build_502 dc x b 0 (A 4) (A 0) Po (0, h, 0) := by
  refine xloop_of (fun s : Nat × XH × Int32 => ∃ F' M', s.1 ≤ c 3 ∧ s.2.2 = nI s.1 ∧ isZ dc x b L xs A s.2.1 F' M' ∧ Inv M' ∧ Lk F' M' c (c 1) (c 2) s.1) (fun s => c 3 - s.1) (fun rec s hs hr => ?_) _ ⟨F, M, Nat.zero_le _, rfl, hZ, hI, hK⟩
  obtain ⟨k, h, l8⟩ := s
  dsimp only at hs hr
  obtain ⟨F, M, hk, rfl, hZ, hI, hK⟩ := hs
  dsimp only [w_L_build_502_F]
  have hK3 := hK.1 3 (by decide)
  unfold cOk at hc
  refine z_ld hZ 0 (by decide) 3 (by decide) rfl ?_
  rw [hK3]
  refine wIf_d (c 3 ≤ k) (n_le (by omega) (by omega)) (fun c9 => ?_) (fun c9 => ?_)
  · have e : k = c 3 := by omega
    subst e
    exact lb_611 hZ hK (hh h F M hZ hI hK)
  refine ll_cell hZ.2.1 hL 8 (by decide) rfl (fun v1 => ll_below 250 (by decide) (by decide) rfl (fun j1 hj1 => ?_))
  refine z_st hZ 4 (by decide) (2 * k) (show 2 * k < 6 by omega) (nI_2 k) (fun h2 hZ2 => ?_)
  refine ll_cell hZ2.2.1 hL 8 (by decide) rfl (fun v2 => ll_below 2 (by decide) (by decide) rfl (fun j2 hj2 => ?_))
  refine z_st hZ2 4 (by decide) (2 * k + 1) (show 2 * k + 1 < 6 by omega) (by rw [nI_2]; exact nI_1 _) (fun h3 hZ3 => ?_)
  obtain ⟨G, hG, g1, g2, g3, g4⟩ := two_F F 4 k (100 + nI j1) (nI j2)
  rw [← hG] at hZ3
  have e1 : (100 : Int32) + nI j1 = nI (100 + j1) := nI_add 100 j1
  rw [e1] at g2
  refine z_ld hZ3 4 (by decide) (2 * k) (show 2 * k < 6 by omega) (nI_2 k) (z_ld hZ3 4 (by decide) (2 * k + 1) (show 2 * k + 1 < 6 by omega) (by rw [nI_2]; exact nI_1 _) ?_)
  rw [g2, g3]
  obtain ⟨q0, ⟨q1, q2, q3, q4, q5, q6, q7, q8⟩, q9, q10, q11, q12⟩ := hK
  have h592 : ∀ z : Int32, z = nI j2 → w_L_build_592 dc h3 k x b 0 (A 4) (A 0) (nI k) x (nI (100 + j1)) z Po rec := fun z hz => by
    obtain ⟨g, hB⟩ := hZ3.1
    refine wO_i hB.1 (sb_addPilot0 hB hI (100 + j1) j2 (by omega) (by omega) (by omega) rfl hz (fun h4 g' hB4 k4 => ?_))
    refine wIf_t (by rw [q4]) ⟨by omega, ?_⟩
    have hi := inv_addPilot hI (nI (100 + j1)) j2 (by omega)
    unfold oc_addPilot at hi
    rw [cI_f (fun z => z ⟨100 + j1, by omega, by omega, rfl⟩), cI_f (by omega), nt_nI (by omega)] at hi
    rw [show nI k + 1 = nI (k + 1) from nI_1 k]
    refine hr (k + 1, h4, nI (k + 1)) ⟨G, _, by show k + 1 ≤ c 3; omega, rfl, z_kM hZ3 hB4 k4, hi, ?_⟩ (by show c 3 - (k + 1) < c 3 - k; omega)
    have t9 : ∀ a i, (a ≠ 5 ∧ a ≠ 6) ∨ i ≠ mn M 3 → mt (sN (sT (sT M 5 (mn M 3) (100 + j1)) 6 (mn M 3) j2) 3 (mn M 3 + 1)) a i = mt M a i := fun a i w => by
      show (if a = 6 ∧ i = mn M 3 then j2 else if a = 5 ∧ i = mn M 3 then 100 + j1 else mt M a i) = _
      rw [if_neg (by omega), if_neg (by omega)]
    have m9 : ∀ a, a ≠ 3 → mn (sN (sT (sT M 5 (mn M 3) (100 + j1)) 6 (mn M 3) j2) 3 (mn M 3 + 1)) a = mn M a := fun a w => if_neg w
    have n5 : mt (sN (sT (sT M 5 (mn M 3) (100 + j1)) 6 (mn M 3) j2) 3 (mn M 3 + 1)) 5 (mn M 3) = 100 + j1 := by
      show (if 5 = 6 ∧ mn M 3 = mn M 3 then j2 else if 5 = 5 ∧ mn M 3 = mn M 3 then 100 + j1 else mt M 5 (mn M 3)) = _
      rw [if_neg (by omega), if_pos ⟨rfl, rfl⟩]
    have n6 : mt (sN (sT (sT M 5 (mn M 3) (100 + j1)) 6 (mn M 3) j2) 3 (mn M 3 + 1)) 6 (mn M 3) = j2 := if_pos ⟨rfl, rfl⟩
    refine ⟨fun i hi => by rw [g1 0 (by decide)]; exact q0 i hi, ⟨by rw [m9 0 (by decide)]; exact q1, by rw [m9 1 (by decide)]; exact q2, by rw [m9 2 (by decide)]; exact q3, by show mn M 3 + 1 = k + 1; rw [q4], by rw [m9 4 (by decide)]; exact q5, by rw [m9 5 (by decide)]; exact q6, by rw [m9 6 (by decide)]; exact q7, by rw [m9 7 (by decide)]; exact q8⟩, fun i hi => ?_, fun i hi => ?_, fun i hi => ?_, fun i hi => ?_⟩
    · rw [g1 1 (by decide), t9 0 i (Or.inl (by omega))]; exact q9 i hi
    · rw [g1 2 (by decide), t9 1 i (Or.inl (by omega)), t9 2 i (Or.inl (by omega))]; exact q10 i hi
    · rw [g1 3 (by decide), t9 3 i (Or.inl (by omega)), t9 4 i (Or.inl (by omega))]; exact q11 i hi
    · have hi : i < k + 1 := hi
      by_cases e : i = k
      · rw [e, g2, g3, ← q4, n5, n6]; exact ⟨rfl, rfl⟩
      · rw [(g4 i (by omega)).1, (g4 i (by omega)).2, t9 5 i (Or.inr (by omega)), t9 6 i (Or.inr (by omega))]; exact q12 i (by omega)
  exact wIf_d (j2 = 1) (nI_eq (b := 1) (by omega) (by decide)) (fun d => h592 1 (by rw [d]; rfl)) (fun d => h592 0 (by rw [show j2 = 0 by omega]; rfl))
theorem lb_396 {Po : Option Nat → XH → Prop} {c : Nat → Nat} (hc : cOk c) (hL : L ≤ 260) (hZ : isZ dc x b L xs A h F M) (hI : Inv M) (hK : Lk F M c (c 1) 0 0) (hh : ∀ h' F' M', isZ dc x b L xs A h' F' M' → Inv M' → Lk F' M' c (c 1) (c 2) (c 3) → Po (some (A 0)) h') : w_L_build_396 dc x b 0 (A 3) (A 4) (A 0) Po (0, h, 0) := by
  refine xloop_of (fun s : Nat × XH × Int32 => ∃ F' M', s.1 ≤ c 2 ∧ s.2.2 = nI s.1 ∧ isZ dc x b L xs A s.2.1 F' M' ∧ Inv M' ∧ Lk F' M' c (c 1) s.1 0) (fun s => c 2 - s.1) (fun rec s hs hr => ?_) _ ⟨F, M, Nat.zero_le _, rfl, hZ, hI, hK⟩
  obtain ⟨k, h, l8⟩ := s
  dsimp only at hs hr
  obtain ⟨F, M, hk, rfl, hZ, hI, hK⟩ := hs
  dsimp only [w_L_build_396_F]
  have hK3 := hK.1 2 (by decide)
  have hc0 := hc
  unfold cOk at hc
  refine z_ld hZ 0 (by decide) 2 (by decide) rfl ?_
  rw [hK3]
  refine wIf_d (c 2 ≤ k) (n_le (by omega) (by omega)) (fun c9 => ?_) (fun c9 => ?_)
  · have e : k = c 2 := by omega
    subst e
    exact lb_502 hc0 hL hZ hI hK hh
  refine ll_cell hZ.2.1 hL 6 (by decide) rfl (fun v1 => ll_below 220 (by decide) (by decide) rfl (fun j1 hj1 => ?_))
  refine z_st hZ 3 (by decide) (2 * k) (show 2 * k < 12 by omega) (nI_2 k) (fun h2 hZ2 => ?_)
  refine ll_cell hZ2.2.1 hL 7 (by decide) rfl (fun v2 => ll_below 600 (by decide) (by decide) rfl (fun j2 hj2 => ?_))
  refine z_st hZ2 3 (by decide) (2 * k + 1) (show 2 * k + 1 < 12 by omega) (by rw [nI_2]; exact nI_1 _) (fun h3 hZ3 => ?_)
  obtain ⟨G, hG, g1, g2, g3, g4⟩ := two_F F 3 k (40 + nI j1) (300 + nI j2)
  rw [← hG] at hZ3
  have e1 : (40 : Int32) + nI j1 = nI (40 + j1) := nI_add 40 j1
  have e2 : (300 : Int32) + nI j2 = nI (300 + j2) := nI_add 300 j2
  rw [e1] at g2
  rw [e2] at g3
  refine z_ld hZ3 3 (by decide) (2 * k) (show 2 * k < 12 by omega) (nI_2 k) (z_ld hZ3 3 (by decide) (2 * k + 1) (show 2 * k + 1 < 12 by omega) (by rw [nI_2]; exact nI_1 _) ?_)
  rw [g2, g3]
  obtain ⟨q0, ⟨q1, q2, q3, q4, q5, q6, q7, q8⟩, q9, q10, q11, q12⟩ := hK
  obtain ⟨g, hB⟩ := hZ3.1
  refine wO_i hB.1 (sb_addShip0 hB hI (40 + j1) (300 + j2) (by omega) (by omega) (by omega) rfl rfl (fun h4 g' hB4 k4 => ?_))
  refine wIf_t (by rw [q3]) ⟨by omega, ?_⟩
  have hi := inv_addShip hI (nI (40 + j1)) (nI (300 + j2))
  unfold oc_addShip at hi
  rw [cI_f (fun z => z ⟨⟨40 + j1, by omega, by omega, rfl⟩, ⟨300 + j2, by omega, by omega, rfl⟩⟩), cI_f (by omega), nt_nI (by omega), nt_nI (by omega)] at hi
  rw [show nI k + 1 = nI (k + 1) from nI_1 k]
  refine hr (k + 1, h4, nI (k + 1)) ⟨G, _, by show k + 1 ≤ c 2; omega, rfl, z_kM hZ3 hB4 k4, hi, ?_⟩ (by show c 2 - (k + 1) < c 2 - k; omega)
  have t9 : ∀ a i, (a ≠ 3 ∧ a ≠ 4) ∨ i ≠ mn M 2 → mt (sN (sT (sT M 3 (mn M 2) (40 + j1)) 4 (mn M 2) (300 + j2)) 2 (mn M 2 + 1)) a i = mt M a i := fun a i w => by
    show (if a = 4 ∧ i = mn M 2 then 300 + j2 else if a = 3 ∧ i = mn M 2 then 40 + j1 else mt M a i) = _
    rw [if_neg (by omega), if_neg (by omega)]
  have m9 : ∀ a, a ≠ 2 → mn (sN (sT (sT M 3 (mn M 2) (40 + j1)) 4 (mn M 2) (300 + j2)) 2 (mn M 2 + 1)) a = mn M a := fun a w => if_neg w
  have n5 : mt (sN (sT (sT M 3 (mn M 2) (40 + j1)) 4 (mn M 2) (300 + j2)) 2 (mn M 2 + 1)) 3 (mn M 2) = 40 + j1 := by
    show (if 3 = 4 ∧ mn M 2 = mn M 2 then 300 + j2 else if 3 = 3 ∧ mn M 2 = mn M 2 then 40 + j1 else mt M 3 (mn M 2)) = _
    rw [if_neg (by omega), if_pos ⟨rfl, rfl⟩]
  have n6 : mt (sN (sT (sT M 3 (mn M 2) (40 + j1)) 4 (mn M 2) (300 + j2)) 2 (mn M 2 + 1)) 4 (mn M 2) = 300 + j2 := if_pos ⟨rfl, rfl⟩
  refine ⟨fun i hi => by rw [g1 0 (by decide)]; exact q0 i hi, ⟨by rw [m9 0 (by decide)]; exact q1, by rw [m9 1 (by decide)]; exact q2, by show mn M 2 + 1 = k + 1; rw [q3], by rw [m9 3 (by decide)]; exact q4, by rw [m9 4 (by decide)]; exact q5, by rw [m9 5 (by decide)]; exact q6, by rw [m9 6 (by decide)]; exact q7, by rw [m9 7 (by decide)]; exact q8⟩, fun i hi => ?_, fun i hi => ?_, fun i hi => ?_, fun i hi => absurd hi (Nat.not_lt_zero i)⟩
  · rw [g1 1 (by decide), t9 0 i (Or.inl (by omega))]; exact q9 i hi
  · rw [g1 2 (by decide), t9 1 i (Or.inl (by omega)), t9 2 i (Or.inl (by omega))]; exact q10 i hi
  · have hi : i < k + 1 := hi
    by_cases e : i = k
    · rw [e, g2, g3, ← q3, n5, n6]; exact ⟨rfl, rfl⟩
    · rw [(g4 i (by omega)).1, (g4 i (by omega)).2, t9 3 i (Or.inr (by omega)), t9 4 i (Or.inr (by omega))]; exact q11 i (by omega)
theorem lb_292 {Po : Option Nat → XH → Prop} {c : Nat → Nat} (hc : cOk c) (hL : L ≤ 260) (hZ : isZ dc x b L xs A h F M) (hI : Inv M) (hK : Lk F M c 0 0 0) (hh : ∀ h' F' M', isZ dc x b L xs A h' F' M' → Inv M' → Lk F' M' c (c 1) (c 2) (c 3) → Po (some (A 0)) h') : w_L_build_292 dc x b 0 (A 2) (A 3) (A 4) (A 0) Po (0, h, 0) := by
  refine xloop_of (fun s : Nat × XH × Int32 => ∃ F' M', s.1 ≤ c 1 ∧ s.2.2 = nI s.1 ∧ isZ dc x b L xs A s.2.1 F' M' ∧ Inv M' ∧ Lk F' M' c s.1 0 0) (fun s => c 1 - s.1) (fun rec s hs hr => ?_) _ ⟨F, M, Nat.zero_le _, rfl, hZ, hI, hK⟩
  obtain ⟨k, h, l8⟩ := s
  dsimp only at hs hr
  obtain ⟨F, M, hk, rfl, hZ, hI, hK⟩ := hs
  dsimp only [w_L_build_292_F]
  have hK3 := hK.1 1 (by decide)
  have hc0 := hc
  unfold cOk at hc
  refine z_ld hZ 0 (by decide) 1 (by decide) rfl ?_
  rw [hK3]
  refine wIf_d (c 1 ≤ k) (n_le (by omega) (by omega)) (fun c9 => ?_) (fun c9 => ?_)
  · have e : k = c 1 := by omega
    subst e
    exact lb_396 hc0 hL hZ hI hK hh
  refine ll_cell hZ.2.1 hL 5 (by decide) rfl (fun v1 => ll_below 200 (by decide) (by decide) rfl (fun j1 hj1 => ?_))
  refine z_st hZ 2 (by decide) (2 * k) (show 2 * k < 6 by omega) (nI_2 k) (fun h2 hZ2 => ?_)
  refine ll_cell hZ2.2.1 hL 5 (by decide) rfl (fun v2 => ll_below 700 (by decide) (by decide) rfl (fun j2 hj2 => ?_))
  refine z_st hZ2 2 (by decide) (2 * k + 1) (show 2 * k + 1 < 6 by omega) (by rw [nI_2]; exact nI_1 _) (fun h3 hZ3 => ?_)
  obtain ⟨G, hG, g1, g2, g3, g4⟩ := two_F F 2 k (80 + nI j1) (600 + nI j2)
  rw [← hG] at hZ3
  have e1 : (80 : Int32) + nI j1 = nI (80 + j1) := nI_add 80 j1
  have e2 : (600 : Int32) + nI j2 = nI (600 + j2) := nI_add 600 j2
  rw [e1] at g2
  rw [e2] at g3
  refine z_ld hZ3 2 (by decide) (2 * k) (show 2 * k < 6 by omega) (nI_2 k) (z_ld hZ3 2 (by decide) (2 * k + 1) (show 2 * k + 1 < 6 by omega) (by rw [nI_2]; exact nI_1 _) ?_)
  rw [g2, g3]
  obtain ⟨q0, ⟨q1, q2, q3, q4, q5, q6, q7, q8⟩, q9, q10, q11, q12⟩ := hK
  obtain ⟨g, hB⟩ := hZ3.1
  refine wO_i hB.1 (sb_addBerth0 hB hI (80 + j1) (600 + j2) (by omega) (by omega) (by omega) rfl rfl (fun h4 g' hB4 k4 => ?_))
  refine wIf_t (by rw [q2]) ⟨by omega, ?_⟩
  have hi := inv_addBerth hI (nI (80 + j1)) (nI (600 + j2))
  unfold oc_addBerth at hi
  rw [cI_f (fun z => z ⟨⟨80 + j1, by omega, by omega, rfl⟩, ⟨600 + j2, by omega, by omega, rfl⟩⟩), cI_f (by omega), nt_nI (by omega), nt_nI (by omega)] at hi
  rw [show nI k + 1 = nI (k + 1) from nI_1 k]
  refine hr (k + 1, h4, nI (k + 1)) ⟨G, _, by show k + 1 ≤ c 1; omega, rfl, z_kM hZ3 hB4 k4, hi, ?_⟩ (by show c 1 - (k + 1) < c 1 - k; omega)
  have t9 : ∀ a i, (a ≠ 1 ∧ a ≠ 2) ∨ i ≠ mn M 1 → mt (sN (sT (sT M 1 (mn M 1) (80 + j1)) 2 (mn M 1) (600 + j2)) 1 (mn M 1 + 1)) a i = mt M a i := fun a i w => by
    show (if a = 2 ∧ i = mn M 1 then 600 + j2 else if a = 1 ∧ i = mn M 1 then 80 + j1 else mt M a i) = _
    rw [if_neg (by omega), if_neg (by omega)]
  have m9 : ∀ a, a ≠ 1 → mn (sN (sT (sT M 1 (mn M 1) (80 + j1)) 2 (mn M 1) (600 + j2)) 1 (mn M 1 + 1)) a = mn M a := fun a w => if_neg w
  have n5 : mt (sN (sT (sT M 1 (mn M 1) (80 + j1)) 2 (mn M 1) (600 + j2)) 1 (mn M 1 + 1)) 1 (mn M 1) = 80 + j1 := by
    show (if 1 = 2 ∧ mn M 1 = mn M 1 then 600 + j2 else if 1 = 1 ∧ mn M 1 = mn M 1 then 80 + j1 else mt M 1 (mn M 1)) = _
    rw [if_neg (by omega), if_pos ⟨rfl, rfl⟩]
  have n6 : mt (sN (sT (sT M 1 (mn M 1) (80 + j1)) 2 (mn M 1) (600 + j2)) 1 (mn M 1 + 1)) 2 (mn M 1) = 600 + j2 := if_pos ⟨rfl, rfl⟩
  refine ⟨fun i hi => by rw [g1 0 (by decide)]; exact q0 i hi, ⟨by rw [m9 0 (by decide)]; exact q1, by show mn M 1 + 1 = k + 1; rw [q2], by rw [m9 2 (by decide)]; exact q3, by rw [m9 3 (by decide)]; exact q4, by rw [m9 4 (by decide)]; exact q5, by rw [m9 5 (by decide)]; exact q6, by rw [m9 6 (by decide)]; exact q7, by rw [m9 7 (by decide)]; exact q8⟩, fun i hi => ?_, fun i hi => ?_, fun i hi => absurd hi (Nat.not_lt_zero i), fun i hi => absurd hi (Nat.not_lt_zero i)⟩
  · rw [g1 1 (by decide), t9 0 i (Or.inl (by omega))]; exact q9 i hi
  · have hi : i < k + 1 := hi
    by_cases e : i = k
    · rw [e, g2, g3, ← q2, n5, n6]; exact ⟨rfl, rfl⟩
    · rw [(g4 i (by omega)).1, (g4 i (by omega)).2, t9 1 i (Or.inr (by omega)), t9 2 i (Or.inr (by omega))]; exact q10 i (by omega)
end
