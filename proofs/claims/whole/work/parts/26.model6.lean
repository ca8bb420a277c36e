/-! PURE ROWS: what is kept; outcomes; the reference's operations, first part -/
noncomputable def cI {α : Type} (c : Prop) (a b : α) : α := @ite α c (Classical.propDecidable c) a b
theorem cI_t {α : Type} {c : Prop} {a b : α} (h : c) : cI c a b = a := if_pos h
theorem cI_f {α : Type} {c : Prop} {a b : α} (h : ¬ c) : cI c a b = b := if_neg h
/-- whose cell: 1 the reference's, 2 the out row, 0 the class's -/
def xk (e : XA) : Nat := match e with
  | .inr (c, _) => if c = 8 then 1 else 0
  | .inl (t, _) => if t = 2 ∨ t = 3 then 1 else if t = 4 then 2 else 0
def kept (n : Nat) (h h' : XH) : Prop := ∀ a e, h a = some e → xk e ≠ n → h' a = some e
theorem kept_r {n : Nat} {h : XH} : kept n h h := fun _ _ q _ => q
theorem kept_t {n : Nat} {h h' h'' : XH} (p : kept n h h') (q : kept n h' h'') : kept n h h'' := fun a e z z2 => q a e (p a e z z2) z2
theorem kept_u {n : Nat} {h : XH} {a : Nat} {e0 e : XA} (q : h a = some e0) (k : xk e0 = n) : kept n h (xup h a e) := by
  intro b e1 h1 h2
  unfold xup
  by_cases c : b = a
  · subst c; rw [q] at h1; cases h1; exact absurd k h2
  · rw [if_neg c]; exact h1
theorem kept_n {n : Nat} {h : XH} {a : Nat} {e : XA} (q : h a = none) : kept n h (xup h a e) := by
  intro b e1 h1 h2
  unfold xup
  by_cases c : b = a
  · subst c; rw [q] at h1; cases h1
  · rw [if_neg c]; exact h1
theorem xup_s {h : XH} {a : Nat} {e : XA} : xup h a e a = some e := if_pos rfl
theorem xup_o {h : XH} {a b : Nat} {e : XA} (c : b ≠ a) : xup h a e b = h b := if_neg c
theorem xk_row (k : Nat) (f : Nat → Int32) : xk (.inl ((mRow k).1, (mRow k).2, .inl f)) = 1 := by
  unfold mRow
  split <;> rfl
theorem isM_kept {n : Nat} {h h' : XH} {m : Nat} {ad : Nat → Nat} {F : Nat → Nat → Int32} {T : Int32} {M : MS} (hn : n ≠ 1) (q : kept n h h') (p : isM h m ad F T M) : isM h' m ad F T M :=
  ⟨q _ _ p.1 (fun z => hn z.symm), fun k hk => q _ _ (p.2.1 k hk) (by rw [xk_row]; exact fun z => hn z.symm), p.2.2⟩
def sN (M : MS) (k v : Nat) : MS := (fun j => if j = k then v else mn M j, M.2)
def sT (M : MS) (a i v : Nat) : MS := (M.1, fun b j => if b = a ∧ j = i then v else mt M b j, M.2.2)
def fU (F : Nat → Nat → Int32) (k : Nat) (f : Nat → Int32) : Nat → Nat → Int32 := fun j => if j = k then f else F j
abbrev nt (x : Int32) : Nat := x.toNatClampNeg
def inR (x : Int32) (a b : Nat) : Prop := ∃ j, a ≤ j ∧ j ≤ b ∧ x = nI j
theorem inR_iff {x : Int32} {a b : Nat} (hb : b < 2 ^ 30) (hab : a ≤ b) : (nI a ≤ x ∧ x ≤ nI b) ↔ inR x a b := by
  constructor
  · intro ⟨h1, h2⟩
    rcases pk_ix x (n := b + 1) (by omega) with q | q | q
    · exfalso
      rw [Int32.lt_iff_toInt_lt] at q
      rw [Int32.le_iff_toInt_le, nI_toInt (by omega)] at h1
      have h0 : (0 : Int32).toInt = 0 := rfl
      omega
    · exfalso
      rw [Int32.le_iff_toInt_le, nI_toInt (by omega)] at q
      rw [Int32.le_iff_toInt_le, nI_toInt (by omega)] at h2
      omega
    · obtain ⟨j, hj, rfl⟩ := q
      exact ⟨j, (n_le (by omega) (by omega)).mp h1, by omega, rfl⟩
  · rintro ⟨j, h1, h2, rfl⟩
    exact ⟨(n_le (by omega) (by omega)).mpr h1, (n_le (by omega) (by omega)).mpr h2⟩
theorem nt_nI {j : Nat} (h : j < 2 ^ 31) : nt (nI j) = j := nI_clamp h
section
variable {dc : Nat × Nat} {h : XH} {m : Nat} {ad : Nat → Nat} {F : Nat → Nat → Int32} {T : Int32} {M : MS} {Po : Int32 → XH → Prop}
/-- a field is written -/
theorem sm_put (hM : isM h m ad F T M) (k : Nat) (v : Value) (hk : k < 18) {M' : MS} {T' : Int32} (e : (mfs ad T M).set k v = mfs ad T' M') (hF : mF F M') {K : XH → Prop} (hh : ∀ h', isM h' m ad F T' M' → kept 1 h h' → K h') : wP h m 8 k v K := by
  refine wP_i hM.1 hk (hh _ ?_ (kept_u hM.1 rfl))
  rw [e]
  refine ⟨xup_s, fun j hj => ?_, hM.2.2.1, hF⟩
  rw [xup_o (fun z => by have h1 := hM.2.1 j hj; rw [z, hM.1] at h1; cases h1)]
  exact hM.2.1 j hj
theorem sm_put0 (hM : isM h m ad F T M) (v : Int32) {K : XH → Prop} (hh : ∀ h', isM h' m ad F v M → kept 1 h h' → K h') : wP h m 8 0 (.int v) K :=
  sm_put hM 0 (.int v) (by decide) rfl hM.2.2.2 hh
/-- a row is written -/
theorem isM_row (hM : isM h m ad F T M) (k : Nat) (hk : k ∈ mIx) (f : Nat → Int32) (hF : mF (fU F k f) M) : isM (xup h (ad k) (.inl ((mRow k).1, (mRow k).2, .inl f))) m ad (fU F k f) T M := by
  have h1 := hM.2.1 k hk
  refine ⟨?_, fun j hj => ?_, hM.2.2.1, hF⟩
  · rw [xup_o (fun z => by rw [← z, hM.1] at h1; cases h1)]; exact hM.1
  · by_cases c : j = k
    · subst c; rw [xup_s]; unfold fU; rw [if_pos rfl]
    · rw [xup_o (fun z => c (hM.2.2.1 j hj k hk z))]; unfold fU; rw [if_neg c]; exact hM.2.1 j hj
theorem sm_row (hM : isM h m ad F T M) (k : Nat) (hk : k ∈ mIx) (ht2 : (mRow k).1 = 2) (i : Nat) (hi : i < (mRow k).2) {x v : Int32} (hx : x = nI i) (hF : mF (fU F k (upd (F k) i v)) M) {K : XH → Prop} (hh : ∀ h', isM h' m ad (fU F k (upd (F k) i v)) T M → kept 1 h h' → K h') : wSI h 2 (ad k) x v K := by
  have h1 := hM.2.1 k hk
  have hn : (mRow k).2 < 2 ^ 31 := by
    unfold mRow
    split <;> decide
  have h2 := isM_row hM k hk (upd (F k) i v) hF
  rw [ht2] at h1 h2
  exact wSI_i i h1 hi hx hn (hh _ h2 (kept_u h1 rfl))
theorem wSZ_i {h : XH} {a n : Nat} {f : Nat → Int32} {x v : Int32} {K : XH → Prop} (i : Nat) (ha : h a = some (.inl (3, n, .inl f))) (hi : i < n) (hx : x = nI i) (hn : n < 2 ^ 31) (hv : vp_nar .boolean v = v) (hk : K (xup h a (.inl (3, n, .inl (upd f i v))))) : wSZ h a x v K := by
  subst hx
  exact ⟨n, f, ha, vp_in_nI hi hn, by rw [nI_clamp (by omega), hv]; exact hk⟩
theorem sm_fail (hM : isM h m ad F T M) {c : Int32} (hh : ∀ h', isM h' m ad F c M → kept 1 h h' → Po 0 h') : w_X7_fail dc h m c Po := sm_put0 hM c hh
theorem sm_thrown {Po : Int32 → Prop} (hM : isM h m ad F T M) (hh : Po T) : w_X7_thrown dc h m Po := wI_i hM.1 rfl hh
theorem sm_range {a b : Nat} (hb : b < 2 ^ 30) (hab : a ≤ b) {x y z : Int32} (hy : y = nI a) (hz : z = nI b) {Po : Int32 → Prop} (hh : Po (bI (inR x a b))) : w_X7_isIn dc h x y z Po := by
  subst hy hz
  refine sm_isIn ?_
  rw [bI_c (inR_iff hb hab)]; exact hh
theorem sm_why (hM : isM h m ad F T M) (hI : Inv M) (x y z : Int32) {Po : Int32 → Prop} (hh : Po (cI (¬ (isIx x (mn M 2) ∧ (y = -1 ∨ isIx y (mn M 1)))) 1 (cI (¬ isIx z 2880) 2 0))) : w_X7_why dc h m x y z Po := by
  have h25 : (isIx x (mn M 2) ∧ (y = -1 ∨ isIx y (mn M 1))) → w_X7_why_25 dc h m z Po := fun g => by
    rw [cI_f (fun q => q g)] at hh
    refine sm_isTime (wIf_d _ bI_0 (fun c => ?_) (fun c => ?_))
    · rw [cI_t c] at hh; exact hh
    · rw [cI_f c] at hh; exact hh
  refine wO_i hM.1 (sm_isShip hM hI (wIf_d _ bI_0 (fun c => ?_) (fun c => ?_)))
  · rw [cI_t (fun z => c z.1)] at hh; exact hh
  have c := Classical.byContradiction c
  refine wIf_i (fun d => h25 ⟨c, Or.inl d⟩) (fun d => sm_isBerth hM hI (wIf_d _ bI_0 (fun e => ?_) (fun e => h25 ⟨c, Or.inr (Classical.byContradiction e)⟩)))
  rw [cI_t (fun z => z.2.elim d e)] at hh; exact hh
end
