/-! PURE ROWS: the law's addTide -/
/-- the tide's cells, whatever its rows hold -/
def isTC (h : XH) (g : Nat → Nat → Nat) (n : Nat) (T0 T1 : Nat → Int32) : Prop := h (g 0 0) = some (.inr (6, [.ref (g 0 5), .ref (g 0 6), .int (nI n)])) ∧ h (g 0 5) = some (.inl (0, 30, .inl T0)) ∧ h (g 0 6) = some (.inl (0, 30, .inl T1)) ∧ g 0 5 ≠ g 0 6
def tkept (g : Nat → Nat → Nat) (h h' : XH) : Prop := ∀ a e, h a = some e → a ≠ g 0 0 → a ≠ g 0 5 → a ≠ g 0 6 → h' a = some e
theorem tkept_t {g : Nat → Nat → Nat} {h h' h'' : XH} (p : tkept g h h') (q : tkept g h' h'') : tkept g h h'' := fun a e z z0 z5 z6 => q a e (p a e z z0 z5 z6) z0 z5 z6
/-- the rows while points make room at p -/
def tRB (M : MS) (T0 T1 : Nat → Int32) (p : Nat) : Prop :=
  p ≤ mn M 0 ∧ (∀ i, i < p → T0 i = nI (mt M 0 i) ∧ T1 i = mg M i) ∧ (∀ i, p < i → i ≤ mn M 0 → T0 i = nI (mt M 0 (i - 1)) ∧ T1 i = mg M (i - 1))
section
variable {dc : Nat × Nat} {h h0 : XH} {x o : Nat} {g : Nat → Nat → Nat} {M : MS} {Po : Int32 → XH → Prop}
theorem tc_row0 {n : Nat} {T0 T1 : Nat → Int32} (hC : isTC h g n T0 T1) (i : Nat) (hi : i < 30) {y v : Int32} (hy : y = nI i) {K : XH → Prop} (hh : ∀ h', isTC h' g n (upd T0 i v) T1 → tkept g h h' → K h') : wSI h 0 (g 0 5) y v K := by
  refine wSI_i i hC.2.1 hi hy (by decide) (hh _ ⟨?_, xup_s, ?_, hC.2.2.2⟩ ?_)
  · rw [xup_o (fun z => by have := hC.1; rw [z, hC.2.1] at this; cases this)]; exact hC.1
  · rw [xup_o (fun z => hC.2.2.2 z.symm)]; exact hC.2.2.1
  · intro a e q0 q1 q2 q3; rw [xup_o q2]; exact q0
theorem tc_row1 {n : Nat} {T0 T1 : Nat → Int32} (hC : isTC h g n T0 T1) (i : Nat) (hi : i < 30) {y v : Int32} (hy : y = nI i) {K : XH → Prop} (hh : ∀ h', isTC h' g n T0 (upd T1 i v) → tkept g h h' → K h') : wSI h 0 (g 0 6) y v K := by
  refine wSI_i i hC.2.2.1 hi hy (by decide) (hh _ ⟨?_, ?_, xup_s, hC.2.2.2⟩ ?_)
  · rw [xup_o (fun z => by have := hC.1; rw [z, hC.2.2.1] at this; cases this)]; exact hC.1
  · rw [xup_o hC.2.2.2]; exact hC.2.1
  · intro a e q0 q1 q2 q3; rw [xup_o q3]; exact q0
theorem tc_size {n m : Nat} {T0 T1 : Nat → Int32} (hC : isTC h g n T0 T1) {y : Int32} (hy : y = nI m) {K : XH → Prop} (hh : ∀ h', isTC h' g m T0 T1 → tkept g h h' → K h') : wP h (g 0 0) 6 2 (.int y) K := by
  subst hy
  refine wP_i hC.1 (by decide : 2 < 3) (hh _ ⟨xup_s, ?_, ?_, hC.2.2.2⟩ ?_)
  · rw [xup_o (fun z => by have := hC.2.1; rw [z, hC.1] at this; cases this)]; exact hC.2.1
  · rw [xup_o (fun z => by have := hC.2.2.1; rw [z, hC.1] at this; cases this)]; exact hC.2.2.1
  · intro a e q0 q1 q2 q3; rw [xup_o q1]; exact q0
theorem uP_no {M : MS} {a : Nat} (hna : ∀ j, j < mn M 0 → mt M 0 j ≠ a) : uP M a = fGe M a (mn M 0) 0 := by
  unfold uP
  exact if_neg (fun z => hna _ z.1 z.2)
theorem isB_tide {h' : XH} {a : Nat} {v : Int32} (hB : isB dc h x g M) (hI : Inv M) (hk : tkept g h h') (hT : isT h' g (insT M a v)) : isB dc h' x g (insT M a v) := by
  have sm : same M (insT M a v) := ⟨rfl, fun c i hc9 => if_neg (by omega)⟩
  obtain ⟨t1, t2, T0, T1, t3, t4, t5⟩ := hB.T
  have ne : ∀ a e, h a = some e → (∀ fs, e ≠ .inr (6, fs)) → (∀ b, e ≠ .inl (0, b)) → h' a = some e := fun a e ha he1 he2 => hk a e ha (fun z => by rw [z, t1] at ha; cases ha; exact he1 _ rfl) (fun z => by rw [z, t3] at ha; cases ha; exact he2 _ rfl) (fun z => by rw [z, t4] at ha; cases ha; exact he2 _ rfl)
  have ms : ∀ k, 1 ≤ k → mn (insT M a v) k = mn M k := fun k k1 => if_neg (by omega)
  have cc : ∀ k, 1 ≤ k → cn (insT M a v) k = cn M k := by
    intro k k1
    unfold cn
    by_cases c : k = 5
    · rw [if_pos c, if_pos c]; rfl
    · rw [if_neg c, if_neg c, ms k k1]
  refine ⟨?_, hT, fun k k1 k2 => ?_, fun k k1 k2 i hi => ?_, ne _ _ hB.D (fun fs z => by cases z) (fun b z => by cases z), hB.J, fun k k1 k2 i j hi hj => ?_⟩
  · exact ne _ _ hB.1 (fun fs z => by cases z) (fun b z => by cases z)
  · rw [ms k k1]
    exact isL_kept (fun fs w => ne _ _ w (fun fs z => by cases z) (fun b z => by cases z)) (fun c f _ w => ne _ _ w (fun fs z => by cases z) (fun b z => by cases z)) (hB.L k k1 k2)
  · rw [cc k k1] at hi
    rw [obj_old hI sm (fun _ _ _ _ _ => rfl) k k1 k2 i hi (fun c hc9 => if_neg (by omega))]
    refine ne _ _ (hB.O k k1 k2 hi) (fun fs z => ?_) (fun b z => by cases z)
    have q2 : (obj g M k i).1 = 6 := congrArg Prod.fst (Sum.inr.inj z)
    rw [obj_ci g M k i k1 k2] at q2
    split at q2 <;> (try split at q2) <;> (try split at q2) <;> (try split at q2) <;> omega
  · rw [cc k k1] at hi hj
    exact hB.I k k1 k2 i j hi hj
theorem sb_insert {Po : XH → Prop} (hB : isB dc h x g M) (hI : Inv M) (a : Nat) (ha : a < 2880) (v : Int32) (hn : mn M 0 < 30) (hna : ∀ j, j < mn M 0 → mt M 0 j ≠ a) {y : Int32} (hy : y = nI a) (hh : ∀ h', isB dc h' x g (insT M a v) → tkept g h h' → Po h') : w_X5_insert dc h (g 0 0) y v Po := by
  have hc := hI.c
  subst hy
  obtain ⟨t1, t2, T0, T1, t3, t4, t5⟩ := hB.T
  have hK := fGe_K M a
  refine wI_i t1 rfl (wIf_t ((n_lt (b := 30) (by omega) (by decide)).mpr hn) (wO_i t1 (st_pointsUpTo hB.T hI a ha rfl ?_)))
  rw [uP_no hna]
  refine wI_i t1 rfl ?_
  obtain ⟨k, hk⟩ : ∃ k, k = fGe M a (mn M 0) 0 := ⟨_, rfl⟩
  rw [← hk] at hK ⊢
  have hkn := hK.1
  refine xloop_of (fun s : XH × Int32 => ∃ p T0 T1, s.2 = nI p ∧ k ≤ p ∧ isTC s.1 g (mn M 0) T0 T1 ∧ tkept g h s.1 ∧ tRB M T0 T1 p) (fun s => nt s.2) (fun rec s hs hr => ?_) _ ⟨mn M 0, T0, T1, rfl, hkn, ⟨t1, t3, t4, t2⟩, fun a e q _ _ _ => q, Nat.le_refl _, fun i hi => t5 i hi, fun i hi hi2 => by omega⟩
  obtain ⟨h2, l4⟩ := s
  obtain ⟨p, S0, S1, e1, hkp, hC, hkk, hR⟩ := hs
  dsimp only at e1 hC hkk hr
  subst e1
  have hpn := hR.1
  refine wIf_d (p ≤ k) (n_le (by omega) (by omega)) (fun c => ?_) (fun c => ?_)
  · have hpk : p = k := by omega
    subst hpk
    refine wR_i hC.1 rfl (tc_row0 hC p (by omega) rfl (fun h3 C3 k3 => ?_))
    refine wR_i C3.1 rfl (tc_row1 C3 p (by omega) rfl (fun h4 C4 k4 => ?_))
    refine wI_i C4.1 rfl (tc_size (m := mn M 0 + 1) C4 (nI_s _) (fun h5 C5 k5 => ?_))
    have kk : tkept g h h5 := tkept_t hkk (tkept_t k3 (tkept_t k4 k5))
    refine hh h5 (isB_tide hB hI kk ⟨C5.1, C5.2.2.2, _, _, C5.2.1, C5.2.2.1, fun i hi => ?_⟩) kk
    have hi : i < mn M 0 + 1 := hi
    obtain ⟨_, r2, r3⟩ := hR
    show upd S0 p (nI a) i = nI (if i < fGe M a (mn M 0) 0 then mt M 0 i else if i = fGe M a (mn M 0) 0 then a else mt M 0 (i - 1)) ∧ upd S1 p v i = (if i < fGe M a (mn M 0) 0 then mg M i else if i = fGe M a (mn M 0) 0 then v else mg M (i - 1))
    rw [← hk]
    by_cases e : i = p
    · subst e
      rw [upd_s, upd_s, if_neg (by omega), if_pos rfl, if_neg (by omega), if_pos rfl]; exact ⟨rfl, rfl⟩
    · rw [upd_o e, upd_o e]
      by_cases e2 : i < p
      · rw [if_pos e2, if_pos e2]; exact r2 i e2
      · rw [if_neg e2, if_neg e, if_neg e2, if_neg e]; exact r3 i (by omega) (by omega)
  · have em : nI p - 1 = nI (p - 1) := pk_sub (a := p) (b := 1) (by omega)
    have em2 : nI p + (-1) = nI (p - 1) := by rw [← Int32.sub_eq_add_neg]; exact em
    refine wR_i hC.1 rfl (wR_i hC.1 rfl (wAI_i (p - 1) hC.2.1 (by omega) em (by decide) ?_))
    refine tc_row0 hC p (by omega) rfl (fun h3 C3 k3 => ?_)
    refine wR_i C3.1 rfl (wR_i C3.1 rfl (wAI_i (p - 1) C3.2.2.1 (by omega) em (by decide) ?_))
    refine tc_row1 C3 p (by omega) rfl (fun h4 C4 k4 => ?_)
    refine hr (h4, nI p + (-1)) ⟨p - 1, _, _, em2, by omega, C4, tkept_t hkk (tkept_t k3 k4), ?_⟩ ?_
    · obtain ⟨r1, r2, r3⟩ := hR
      refine ⟨by omega, fun i hi => ?_, fun i hi hi2 => ?_⟩
      · rw [upd_o (by omega), upd_o (by omega)]; exact r2 i (by omega)
      · by_cases e5 : i = p
        · subst e5; rw [upd_s, upd_s]; exact r2 _ (by omega)
        · rw [upd_o e5, upd_o e5]; exact r3 i (by omega) hi2
    · show nt (nI p + (-1)) < nt (nI p)
      rw [em2, nt_nI (by omega), nt_nI (by omega)]; omega
theorem sb_hasPointAt {Po : Int32 → Prop} (hB : isB dc h x g M) (hI : Inv M) (a : Nat) (ha : a < 2880) {y : Int32} (hy : y = nI a) (hh : Po (bI (∃ j, j < mn M 0 ∧ mt M 0 j = a))) : w_X5_hasPointAt dc h (g 0 0) y Po := by
  have hc := hI.c
  subst hy
  obtain ⟨t1, t2, T0, T1, t3, t4, t5⟩ := hB.T
  have hU := uP_U hI a
  refine wO_i t1 (st_pointsUpTo hB.T hI a ha rfl ?_)
  obtain ⟨u, hu⟩ : ∃ u, u = uP M a := ⟨_, rfl⟩
  rw [← hu] at hU ⊢
  have hun := hU.1
  have no : (u = 0 ∨ mt M 0 (u - 1) ≠ a) → ¬ ∃ j, j < mn M 0 ∧ mt M 0 j = a := by
    rintro hz ⟨j, hj, he⟩
    by_cases c : j < u
    · have h1 := hU.2.1 (u - 1) (by omega)
      by_cases d : j = u - 1
      · subst d; exact hz.elim (by omega) (fun z => z he)
      · have := hI.tup (i := j) (j := u - 1) (by omega) (by omega)
        omega
    · by_cases d : j = u
      · subst d; have := hU.2.2 hj; omega
      · have h1 := hU.2.2 (by omega)
        have := hI.tup (i := u) (j := j) (by omega) hj
        omega
  refine wIf_d (u = 0) ((n_le (b := 0) (by omega) (by decide)).trans (by omega)) (fun c => ?_) (fun c => ?_)
  · rw [bI_f (no (Or.inl c))] at hh; exact wZ_0 hh
  · have em : nI u - 1 = nI (u - 1) := pk_sub (a := u) (b := 1) (by omega)
    have hT := hI.tide (i := u - 1) (by omega)
    refine wR_i t1 rfl (wAI_i (u - 1) t3 (by omega) em (by decide) ?_)
    rw [(t5 (u - 1) (by omega)).1]
    refine wIf_d (mt M 0 (u - 1) = a) (nI_eq (by omega) (by omega)) (fun d => ?_) (fun d => ?_)
    · rw [bI_t ⟨u - 1, by omega, d⟩] at hh; exact wZ_1 hh
    · rw [bI_f (no (Or.inr d))] at hh; exact wZ_0 hh
end
