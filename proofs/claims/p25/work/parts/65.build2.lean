/-! PURE ROWS: the tide of the law's day, and the day whole -/
section
variable {dc : Nat × Nat} {h : XH} {x b L : Nat} {xs : Nat → Int32} {A : Nat → Nat} {F : Nat → Nat → Int32} {M : MS}
theorem le_m300 {z : Int32} (h : -300 ≤ z.toInt) : -300 ≤ z := by
  rw [Int32.le_iff_toInt_le]; exact h
theorem le_p900 {z : Int32} (h : z.toInt ≤ 900) : z ≤ 900 := by
  rw [Int32.le_iff_toInt_le]; exact h
theorem lb_215 {Po : Option Nat → XH → Prop} {c : Nat → Nat} (hc : cOk c) (hL : L ≤ 260) (hZ : isZ dc x b L xs A h F M0) (hn : nOk F c) (hpt : ∀ i, i < c 0 → ptOk F i) (hh : ∀ h' F' M', isZ dc x b L xs A h' F' M' → Inv M' → Lk F' M' c (c 1) (c 2) (c 3) → Po (some (A 0)) h') : w_L_build_215 dc x b 0 (A 1) (A 2) (A 3) (A 4) (A 0) Po (0, h, nI (c 0) - 1) := by
  refine xloop_of (fun s : Nat × XH × Int32 => ∃ k M, k ≤ c 0 ∧ s.1 + k = c 0 ∧ s.2.2 = nI k - 1 ∧ isZ dc x b L xs A s.2.1 F M ∧ Inv M ∧ mn M 0 = c 0 - k ∧ (∀ a, a ≠ 0 → mn M a = mn M0 a) ∧ ∀ i, i < c 0 - k → F 1 (2 * (k + i)) = nI (mt M 0 i) ∧ F 1 (2 * (k + i) + 1) = mg M i) (fun s => c 0 - s.1) (fun rec s hs hr => ?_) _ ⟨c 0, M0, Nat.le_refl _, Nat.zero_add _, rfl, hZ, inv_M0, (Nat.sub_self _).symm, fun _ _ => rfl, fun i hi => by rw [Nat.sub_self] at hi; exact absurd hi (Nat.not_lt_zero i)⟩
  obtain ⟨n9, h, l8⟩ := s
  dsimp only at hs hr
  obtain ⟨k, M, hk, hk2, rfl, hZ, hI, m0, ma, hp⟩ := hs
  dsimp only [w_L_build_215_F]
  have hc0 := hc
  unfold cOk at hc
  obtain ⟨g, hB⟩ := hZ.1
  cases k with
  | zero =>
    refine wIf_t (by decide) (z_ld hZ 0 (by decide) 5 (by decide) rfl (z_ld hZ 0 (by decide) 6 (by decide) rfl ?_))
    rw [hn 5 (by decide), hn 6 (by decide)]
    refine wO_i hB.1 (sb_setWater0 hB hI (c 5) (c 6) (by omega) (by omega) rfl rfl (fun h2 hB2 k2 => ?_))
    refine wIf_t (by rw [ma 5 (by decide)]; rfl) ?_
    have hZ2 := z_kM hZ hB2 k2
    have hI2 := inv_setWater hI (nI (c 5)) (nI (c 6))
    unfold oc_setWater at hI2
    rw [cI_f (fun z => z ⟨⟨c 5, by omega, by omega, rfl⟩, ⟨c 6, by omega, by omega, rfl⟩⟩), nt_nI (by omega), nt_nI (by omega)] at hI2
    refine z_ld hZ2 0 (by decide) 4 (by decide) rfl ?_
    rw [hn 4 (by decide)]
    refine wO_i hB2.1 (sb_setTugs0 hB2 hI2 (c 4) (by omega) (show mn M 4 = 0 from ma 4 (by decide)) rfl (fun h3 hB3 k3 => ?_))
    refine wIf_t (show nI (mn M 7) = 4 by rw [ma 7 (by decide)]; rfl) ?_
    have hZ3 := z_kM hZ2 hB3 k3
    have hI3 := inv_setTugs hI2 (nI (c 4))
    unfold oc_setTugs at hI3
    rw [cI_f (fun z => z ⟨c 4, by omega, by omega, rfl⟩), cI_f (by show ¬ 0 < mn M 4; rw [ma 4 (by decide)]; decide), nt_nI (by omega)] at hI3
    refine lb_292 hc0 hL hZ3 hI3 ⟨hn, ⟨m0, ma 1 (by decide), ma 2 (by decide), ma 3 (by decide), ma 4 (by decide), rfl, rfl, rfl⟩, fun i hi => ?_, fun i hi => absurd hi (Nat.not_lt_zero i), fun i hi => absurd hi (Nat.not_lt_zero i), fun i hi => absurd hi (Nat.not_lt_zero i)⟩ hh
    have := hp i (by omega)
    rw [Nat.zero_add] at this
    exact this
  | succ k =>
    rw [nI_pred]
    obtain ⟨T, t1, t2, t3, t4, t5⟩ := hpt k (by omega)
    refine wIf_f (nI_pos (by omega)) (z_ld hZ 1 (by decide) (2 * k) (show 2 * k < 20 by omega) (nI_2 k) (z_ld hZ 1 (by decide) (2 * k + 1) (show 2 * k + 1 < 20 by omega) (by rw [nI_2]; exact nI_1 _) ?_))
    rw [t3]
    have hgt : ∀ j, j < mn M 0 → T < mt M 0 j := fun j hj => by
      obtain ⟨T2, u1, u2, u3, _, _⟩ := hpt (k + 1 + j) (by omega)
      have h1 := (hp j (by omega)).1
      have h2 := hI.tide hj
      rw [u3] at h1
      have := (nI_eq (a := T2) (b := mt M 0 j) (by omega) (by omega)).mp h1
      omega
    refine wO_i hB.1 (sb_addTide0 hB hI T (by omega) (F 1 (2 * k + 1)) ⟨le_m300 (by omega), le_p900 (by omega)⟩ (by omega) (ma 4 (by decide)) (fun j hj z => by have := hgt j hj; omega) rfl (fun h2 hB2 k2 => ?_))
    have hZ2 := z_kM hZ hB2 k2
    refine z_ld hZ2 0 (by decide) 0 (by decide) rfl ?_
    rw [hn 0 (by decide)]
    refine wIf_t (by rw [pk_sub (by omega)]; congr 1; omega) ⟨by omega, ?_⟩
    have hI2 := inv_addTide hI (nI T) (F 1 (2 * k + 1))
    unfold oc_addTide at hI2
    rw [nt_nI (by omega), cI_f (fun z => z ⟨⟨T, by omega, rfl⟩, le_m300 (by omega), le_p900 (by omega)⟩), cI_f (fun z => by
      rcases z with z | z | ⟨j, j1, j2⟩
      · omega
      · rw [ma 4 (by decide)] at z; exact absurd z (Nat.lt_irrefl _)
      · have := hgt j j1; omega)] at hI2
    have hf : fGe M T (mn M 0) 0 = 0 := isK_u (fGe_K M T) ⟨Nat.zero_le _, fun j hj => absurd hj (Nat.not_lt_zero j), fun z => Nat.le_of_lt (hgt 0 z)⟩
    have ht0 : mt (insT M T (F 1 (2 * k + 1))) 0 0 = T := by
      show (if 0 = 0 then (if 0 < fGe M T (mn M 0) 0 then mt M 0 0 else if 0 = fGe M T (mn M 0) 0 then T else mt M 0 (0 - 1)) else mt M 0 0) = T
      rw [hf, if_pos rfl, if_neg (by decide), if_pos rfl]
    have hg0 : mg (insT M T (F 1 (2 * k + 1))) 0 = F 1 (2 * k + 1) := by
      show (if 0 < fGe M T (mn M 0) 0 then mg M 0 else if 0 = fGe M T (mn M 0) 0 then F 1 (2 * k + 1) else mg M (0 - 1)) = _
      rw [hf, if_neg (by decide), if_pos rfl]
    have ht1 : ∀ j, mt (insT M T (F 1 (2 * k + 1))) 0 (j + 1) = mt M 0 j := fun j => by
      show (if 0 = 0 then (if j + 1 < fGe M T (mn M 0) 0 then mt M 0 (j + 1) else if j + 1 = fGe M T (mn M 0) 0 then T else mt M 0 (j + 1 - 1)) else mt M 0 (j + 1)) = _
      rw [hf, if_pos rfl, if_neg (by omega), if_neg (by omega)]; rfl
    have hg1 : ∀ j, mg (insT M T (F 1 (2 * k + 1))) (j + 1) = mg M j := fun j => by
      show (if j + 1 < fGe M T (mn M 0) 0 then mg M (j + 1) else if j + 1 = fGe M T (mn M 0) 0 then F 1 (2 * k + 1) else mg M (j + 1 - 1)) = _
      rw [hf, if_neg (by omega), if_neg (by omega)]; rfl
    rw [show nI k + (-1) = nI k - 1 from (Int32.sub_eq_add_neg (nI k) 1).symm]
    refine hr (n9 + 1, h2, nI k - 1) ⟨k, _, by omega, by show n9 + 1 + k = c 0; omega, rfl, hZ2, hI2, by show mn M 0 + 1 = c 0 - k; omega, fun a ha => (if_neg ha).trans (ma a ha), fun i hi => ?_⟩ (by show c 0 - (n9 + 1) < c 0 - n9; omega)
    cases i with
    | zero => rw [Nat.add_zero, ht0, hg0]; exact ⟨t3, rfl⟩
    | succ j =>
      rw [ht1, hg1]
      have := hp j (by omega)
      rw [show k + 1 + j = k + (j + 1) by omega] at this
      exact this
theorem lb_127 {Po : Option Nat → XH → Prop} {c : Nat → Nat} (hc : cOk c) (hL : L ≤ 260) (hZ : isZ dc x b L xs A h F M0) (hn : nOk F c) (hh : ∀ h' F' M', isZ dc x b L xs A h' F' M' → Inv M' → Lk F' M' c (c 1) (c 2) (c 3) → Po (some (A 0)) h') : w_L_build_127 dc x b 0 (A 1) (A 2) (A 3) (A 4) (A 0) Po (h, 0) := by
  refine xloop_of (fun s : XH × Int32 => ∃ k F, k ≤ c 0 ∧ s.2 = nI k ∧ isZ dc x b L xs A s.1 F M0 ∧ nOk F c ∧ ∀ i, i < k → ptOk F i) (fun s => c 0 - s.2.toNatClampNeg) (fun rec s hs hr => ?_) _ ⟨0, F, Nat.zero_le _, rfl, hZ, hn, fun i hi => absurd hi (Nat.not_lt_zero i)⟩
  obtain ⟨h, l8⟩ := s
  dsimp only at hs hr
  obtain ⟨k, F, hk, rfl, hZ, hn, hp⟩ := hs
  dsimp only [w_L_build_127_F]
  have hc0 := hc
  unfold cOk at hc
  refine z_ld hZ 0 (by decide) 0 (by decide) rfl ?_
  rw [hn 0 (by decide)]
  refine wIf_d (c 0 ≤ k) (n_le (by omega) (by omega)) (fun c9 => ?_) (fun c9 => ?_)
  · refine z_ld hZ 0 (by decide) 0 (by decide) rfl ?_
    rw [hn 0 (by decide)]
    exact lb_215 hc0 hL hZ hn (fun i hi => hp i (by omega)) hh
  have e3 : nI k / 3 = nI (k / 3) := pk_div (d := 3) (by omega) (by decide) (by decide)
  have ei : (0 : Int32) + 2 + (nI k - nI k / 3 * 3) = nI (2 + (k - k / 3 * 3)) := by
    rw [e3, show nI (k / 3) * 3 = nI (k / 3 * 3) from pk_mul (k / 3) 3, pk_sub (Nat.div_mul_le_self k 3)]
    exact nI_add 2 _
  refine ⟨by decide, ll_cell hZ.2.1 hL (2 + (k - k / 3 * 3)) (by omega) ei (fun v1 => ⟨by decide, ll_below 250 (by decide) (by decide) rfl (fun j1 hj1 => ?_)⟩)⟩
  refine z_st hZ 1 (by decide) (2 * k) (show 2 * k < 20 by omega) (nI_2 k) (fun h2 hZ2 => ?_)
  refine ll_below 700 (by decide) (by decide) rfl (fun j2 hj2 => ?_)
  refine z_st hZ2 1 (by decide) (2 * k + 1) (show 2 * k + 1 < 20 by omega) (by rw [nI_2]; exact nI_1 _) (fun h3 hZ3 => ?_)
  obtain ⟨G, hG, g1, g2, g3, g4⟩ := two_F F 1 k (300 * nI k + nI j1) (nI j2 - 200)
  rw [← hG] at hZ3
  have e1 : (300 : Int32) * nI k + nI j1 = nI (300 * k + j1) := by
    rw [show (300 : Int32) * nI k = nI (300 * k) from pk_mul 300 k]; exact nI_add _ _
  rw [e1] at g2
  have e2 := pk_sub_toInt (a := j2) (b := 200) (by omega) (by decide)
  rw [show nI k + 1 = nI (k + 1) from nI_1 k]
  refine hr (h3, nI (k + 1)) ⟨k + 1, G, by omega, rfl, hZ3, fun i hi => by rw [g1 0 (by decide)]; exact hn i hi, fun i hi => ?_⟩ (by show c 0 - (nI (k + 1)).toNatClampNeg < c 0 - (nI k).toNatClampNeg; rw [nI_clamp (by omega), nI_clamp (by omega)]; omega)
  by_cases e : i = k
  · rw [e]
    refine ⟨300 * k + j1, by omega, by omega, g2, ?_, ?_⟩
    · rw [g3]; exact (show -200 ≤ (nI j2 - nI 200).toInt by rw [e2]; omega)
    · rw [g3]; exact (show (nI j2 - nI 200).toInt ≤ 499 by rw [e2]; omega)
  · obtain ⟨T, u1, u2, u3, u4, u5⟩ := hp i (by omega)
    have := g4 i (by omega)
    exact ⟨T, u1, u2, by rw [this.1]; exact u3, by rw [this.2]; exact u4, by rw [this.2]; exact u5⟩
theorem z_n {K : XH → Prop} (hZ : isZ dc x b L xs A h F M) (i : Nat) (hi : i < 7) {y v : Int32} (hy : y = nI i) (hk : ∀ h' F', isZ dc x b L xs A h' F' M → F' 0 i = v → (∀ j, j ≠ i → F' 0 j = F 0 j) → K h') : wSI h 2 (A 0) y v K :=
  z_st hZ 0 (by decide) i hi hy (fun h' hZ' => hk h' _ hZ' (by rw [fU_s]; exact if_pos rfl) (fun j hj => by rw [fU_s]; exact if_neg hj))
theorem lb_build {Po : Option Nat → XH → Prop} {A1 : Nat → Nat} {g : Nat → Nat → Nat} (hL : L ≤ 260) (hB : isB dc h x g M0) (hS : h b = some (.inl (3, L, .inl xs))) (hA : ∀ j, 1 ≤ j → j < 5 → h (A1 j) = some (rI (aN j) (fun _ => 0))) (hA2 : ∀ i j, 1 ≤ i → 1 ≤ j → i < 5 → j < 5 → A1 i = A1 j → i = j)
    (hh : ∀ h' A F' M' c, cOk c → (∀ j, 1 ≤ j → A j = A1 j) → isZ dc x b L xs A h' F' M' → Inv M' → Lk F' M' c (c 1) (c 2) (c 3) → Po (some (A 0)) h') : w_L_build dc h x b 0 (A1 1) (A1 2) (A1 3) (A1 4) Po := by
  intro q hq
  obtain ⟨A, hAe⟩ : ∃ A : Nat → Nat, A = fun j => if j = 0 then q else A1 j := ⟨_, rfl⟩
  have a0 : A 0 = q := by rw [hAe]; rfl
  have aj : ∀ j, 1 ≤ j → A j = A1 j := fun j hj => by rw [hAe]; exact if_neg (by omega)
  have hZ0 : isZ dc x b L xs A (xup h q (rI 7 (fun _ => 0))) (fun _ _ => 0) M0 := by
    refine ⟨⟨g, isB_kept (n := 1) (by decide) (fun a e h1 h2 => ?_) hB⟩, ?_, fun j hj => ?_, fun i j hi hj e => ?_⟩
    · rw [xup_o (fun z => by rw [z, hq] at h1; cases h1)]; exact h1
    · rw [xup_o (fun z => by rw [z, hq] at hS; cases hS)]; exact hS
    · by_cases c : j = 0
      · subst c; rw [a0, xup_s]; rfl
      · rw [aj j (by omega), xup_o (fun z => by have := hA j (by omega) hj; rw [z, hq] at this; cases this)]
        exact hA j (by omega) hj
    · have ne : ∀ j, 1 ≤ j → j < 5 → A j ≠ q := fun j j1 j2 z => by
        have := hA j j1 j2
        rw [← aj j j1, z, hq] at this; cases this
      by_cases c : i = 0
      · subst c
        by_cases d : j = 0
        · exact d.symm
        · exact absurd (e.symm.trans a0) (ne j (by omega) hj)
      · by_cases d : j = 0
        · subst d; exact absurd (e.trans a0) (ne i (by omega) hi)
        · rw [aj i (by omega), aj j (by omega)] at e
          exact hA2 i j (by omega) (by omega) hi hj e
  rw [← aj 1 (by decide), ← aj 2 (by decide), ← aj 3 (by decide), ← aj 4 (by decide)]
  clear hAe
  rw [show (xup h q (.inl (2, 7, .inl fun _ => 0)) : XH) = xup h q (rI 7 (fun _ => 0)) from rfl]
  generalize xup h q (rI 7 (fun _ => 0)) = h0 at hZ0 ⊢
  subst a0
  refine ll_cell hZ0.2.1 hL 0 (by decide) rfl (fun _ => ll_below 9 (by decide) (by decide) rfl (fun j0 hj0 => z_n hZ0 0 (by decide) rfl (fun h1 F1 hZ1 u1 v1 => ?_)))
  refine ll_cell hZ1.2.1 hL 0 (by decide) rfl (fun _ => ll_below 3 (by decide) (by decide) rfl (fun j1 hj1 => z_n hZ1 1 (by decide) rfl (fun h2 F2 hZ2 u2 v2 => ?_)))
  refine ll_cell hZ2.2.1 hL 0 (by decide) rfl (fun _ => ll_below 6 (by decide) (by decide) rfl (fun j2 hj2 => z_n hZ2 2 (by decide) rfl (fun h3 F3 hZ3 u3 v3 => ?_)))
  refine ll_cell hZ3.2.1 hL 0 (by decide) rfl (fun _ => ll_below 3 (by decide) (by decide) rfl (fun j3 hj3 => z_n hZ3 3 (by decide) rfl (fun h4 F4 hZ4 u4 v4 => ?_)))
  refine ll_cell hZ4.2.1 hL 0 (by decide) rfl (fun _ => ll_below 6 (by decide) (by decide) rfl (fun j4 hj4 => z_n hZ4 4 (by decide) rfl (fun h5 F5 hZ5 u5 v5 => ?_)))
  refine ll_cell hZ5.2.1 hL 1 (by decide) rfl (fun _ => ll_below 500 (by decide) (by decide) rfl (fun j5 hj5 => z_n hZ5 5 (by decide) rfl (fun h6 F6 hZ6 u6 v6 => ?_)))
  refine ll_cell hZ6.2.1 hL 1 (by decide) rfl (fun _ => ll_below 100 (by decide) (by decide) rfl (fun j6 hj6 => z_n hZ6 6 (by decide) rfl (fun h7 F7 hZ7 u7 v7 => ?_)))
  have e2 : (1 : Int32) + nI j1 = nI (1 + j1) := nI_add 1 j1
  have e3 : (1 : Int32) + nI j2 = nI (1 + j2) := nI_add 1 j2
  have e4 : (1 : Int32) + nI j3 = nI (1 + j3) := nI_add 1 j3
  have e6 : (700 : Int32) + nI j5 = nI (700 + j5) := nI_add 700 j5
  rw [e2] at u2
  rw [e3] at u3
  rw [e4] at u4
  rw [e6] at u6
  obtain ⟨c, hc⟩ : ∃ c : Nat → Nat, c = fun k => if k = 0 then j0 else if k = 1 then 1 + j1 else if k = 2 then 1 + j2 else if k = 3 then 1 + j3 else if k = 4 then j4 else if k = 5 then 700 + j5 else j6 := ⟨_, rfl⟩
  have c0 : c 0 = j0 := by rw [hc]; rfl
  have c1 : c 1 = 1 + j1 := by rw [hc]; rfl
  have c2 : c 2 = 1 + j2 := by rw [hc]; rfl
  have c3 : c 3 = 1 + j3 := by rw [hc]; rfl
  have c4 : c 4 = j4 := by rw [hc]; rfl
  have c5 : c 5 = 700 + j5 := by rw [hc]; rfl
  have c6 : c 6 = j6 := by rw [hc]; rfl
  clear hc
  have hcO : cOk c := by
    unfold cOk
    rw [c0, c1, c2, c3, c4, c5, c6]; omega
  refine lb_127 hcO hL hZ7 (fun k hk => ?_) (fun h' F' M' q1 q2 q3 => hh h' A F' M' c hcO aj q1 q2 q3)
  rcases (show k = 0 ∨ k = 1 ∨ k = 2 ∨ k = 3 ∨ k = 4 ∨ k = 5 ∨ k = 6 by omega) with z | z | z | z | z | z | z <;> subst z
  · rw [v7 0 (by decide), v6 0 (by decide), v5 0 (by decide), v4 0 (by decide), v3 0 (by decide), v2 0 (by decide), u1, c0]
  · rw [v7 1 (by decide), v6 1 (by decide), v5 1 (by decide), v4 1 (by decide), v3 1 (by decide), u2, c1]
  · rw [v7 2 (by decide), v6 2 (by decide), v5 2 (by decide), v4 2 (by decide), u3, c2]
  · rw [v7 3 (by decide), v6 3 (by decide), v5 3 (by decide), u4, c3]
  · rw [v7 4 (by decide), v6 4 (by decide), u5, c4]
  · rw [v7 5 (by decide), u6, c5]
  · rw [u7, c6]
end
