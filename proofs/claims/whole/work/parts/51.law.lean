/-! PURE ROWS: a new book; the law's steps; every script -/
theorem b64_t : FP.Core.b64.tails = 4503599627370496 := by decide +kernel
theorem b64_e : FP.Core.b64.exps = 2048 := by decide +kernel
theorem nan_num (n : Nat) (h : 9218868437227405312 < n % 9223372036854775808) : n / 4503599627370496 % 2048 = 2047 ∧ n % 4503599627370496 ≠ 0 := by omega
theorem and_63 (n : Nat) : n &&& 9223372036854775807 = n % 9223372036854775808 := Nat.and_two_pow_sub_one_eq_mod n 63
/-- the datum of a number's bits -/
def dval (a : UInt64) : FP.Core.Datum := FP.Core.decode FP.Core.b64 a.toNat
theorem nan_val {b : UInt64} (h : isNaN64 b = true) : dval b = FP.Core.Datum.nan := by
  rw [isNaN64_iff, and_63] at h
  obtain ⟨h2, h3⟩ := nan_num _ h
  unfold dval FP.Core.decode FP.Core.fieldE FP.Core.fieldT
  rw [b64_t, b64_e, if_pos h2, if_neg h3]
theorem cmp_i (a : Int) : compare a a = .eq := by simp [compare, compareOfLessAndEq]
theorem ord_self {x : FP.Core.Datum} (h : x ≠ FP.Core.Datum.nan) : FP.Core.order x x = some .eq := by
  cases x with
  | nan => exact absurd rfl h
  | inf s => exact congrArg some (cmp_i _)
  | fin s c q => exact congrArg some (cmp_i _)
theorem dcmp_d (a b : UInt64) : FP.dcmp a b = FP.Core.order (dval a) (dval b) := rfl
/-- two answers alike one number -/
theorem dcmp_alike {r r' d : UInt64} (h1 : alike64 r d = true) (h2 : alike64 r' d = true) : (Op.cmpValue (FP.dcmp r r') .l) = 0 ∨ (¬ (Op.cmpValue (FP.dcmp r r') .l) = 0 ∧ ¬ (Op.cmpValue (FP.dcmp r r) .l) = 0 ∧ ¬ (Op.cmpValue (FP.dcmp r' r') .l) = 0) := by
  unfold alike64 at h1 h2
  rw [Bool.or_eq_true, Bool.and_eq_true, decide_eq_true_eq] at h1 h2
  by_cases hn : dval r = FP.Core.Datum.nan ∨ dval r' = FP.Core.Datum.nan
  · have key : dval r = FP.Core.Datum.nan ∧ dval r' = FP.Core.Datum.nan := by
      rcases h1 with h1 | h1
      · rcases h2 with h2 | h2
        · rw [h1, h2] at hn ⊢; exact ⟨hn.elim id id, hn.elim id id⟩
        · rw [h1]; exact ⟨nan_val h2.2, nan_val h2.1⟩
      · rcases h2 with h2 | h2
        · rw [h2]; exact ⟨nan_val h1.1, nan_val h1.2⟩
        · exact ⟨nan_val h1.1, nan_val h2.1⟩
    have q : ∀ a b : UInt64, dval a = FP.Core.Datum.nan → ¬ (Op.cmpValue (FP.dcmp a b) .l) = 0 := by
      intro a b ha
      have e : FP.dcmp a b = none := by rw [dcmp_d, ha]; rfl
      rw [e]; decide
    exact Or.inr ⟨q _ _ key.1, q _ _ key.1, q _ _ key.2⟩
  · refine Or.inl ?_
    have n1 : dval r ≠ FP.Core.Datum.nan := fun z => hn (Or.inl z)
    have n2 : dval r' ≠ FP.Core.Datum.nan := fun z => hn (Or.inr z)
    have e1 : r = d := h1.elim id (fun z => absurd (nan_val z.1) n1)
    have e2 : r' = d := h2.elim id (fun z => absurd (nan_val z.1) n2)
    have e : FP.dcmp r r' = some .eq := by rw [e2, ← e1, dcmp_d]; exact ord_self n1
    rw [e]; rfl
def extx (x : Nat) (h h' : XH) : Prop := ∀ a e, h a = some e → a ≠ x → h' a = some e
theorem extx_t {x : Nat} {h h' h'' : XH} (p : extx x h h') (q : extx x h' h'') : extx x h h'' := fun a e z z2 => q a e (p a e z z2) z2
section
variable {dc : Nat × Nat} {h h0 : XH} {x m o : Nat} {g : Nat → Nat → Nat} {M : MS}
theorem ni_list {fs : List Value} {k : Nat} (hx : h x = some (.inr (7, fs))) (hk : k < fs.length) {K : XH → Prop} (hh : ∀ h' q, h' x = some (.inr (7, fs.set k (.ref q))) → h' q = some (.inr (0, [.int 0, .ref dc.1, .int 0])) → h q = none → q ≠ x → extx x h h' → K h') : wNew h 0 [.int 0, .null, .int 0] (fun q h8 => w_Jx4a65c_init_da8c8 dc h8 q (fun h10 => wP h10 x 7 k (.ref q) K)) := by
  intro q hq
  have hqx : x ≠ q := fun z => by rw [z, hq] at hx; cases hx
  refine wP_i xup_s (by decide : 0 < 3) (wP_i xup_s (by decide : 1 < 3) ?_)
  refine wP_i (by rw [xup_o hqx, xup_o hqx, xup_o hqx]; exact hx) hk (hh _ q xup_s (by rw [xup_o (fun z => hqx z.symm), xup_s]; rfl) hq (fun z => hqx z.symm) (fun a e q0 q1 => ?_))
  have : a ≠ q := fun z => by rw [z, hq] at q0; cases q0
  rw [xup_o q1, xup_o this, xup_o this, xup_o this]; exact q0
theorem ni_put {fs : List Value} {k : Nat} {v : Value} (hx : h x = some (.inr (7, fs))) (hk : k < fs.length) {K : XH → Prop} (hh : ∀ h', h' x = some (.inr (7, fs.set k v)) → extx x h h' → K h') : wP h x 7 k v K :=
  wP_i hx hk (hh _ xup_s (fun a e q0 q1 => by rw [xup_o q1]; exact q0))
theorem ni_tide {fs : List Value} (hx : h x = some (.inr (7, fs))) (hk : 0 < fs.length) {K : XH → Prop} (hh : ∀ h' q r0 r1, h' x = some (.inr (7, fs.set 0 (.ref q))) → h' q = some (.inr (6, [.ref r0, .ref r1, .int 0])) → h' r0 = some (.inl (0, 30, .inl (fun _ => 0))) → h' r1 = some (.inl (0, 30, .inl (fun _ => 0))) → r0 ≠ r1 → q ≠ x → r0 ≠ x → r1 ≠ x → extx x h h' → K h') : wNew h 6 [.null, .null, .int 0] (fun q1 h2 => w_X5_init dc h2 q1 (fun h4 => wP h4 x 7 0 (.ref q1) K)) := by
  intro q hq
  have hqx : x ≠ q := fun z => by rw [z, hq] at hx; cases hx
  intro r0 hr0
  have r0q : r0 ≠ q := fun z => by rw [z, xup_s] at hr0; cases hr0
  have r0x : r0 ≠ x := fun z => by rw [z, xup_o hqx, hx] at hr0; cases hr0
  have hr0' : h r0 = none := by rw [xup_o r0q] at hr0; exact hr0
  refine wP_i (fs := [.null, .null, .int 0]) (by rw [xup_o (fun z => r0q z.symm), xup_s]) (by decide : 0 < 3) (fun r1 hr1 => ?_)
  have r1q : r1 ≠ q := fun z => by rw [z, xup_s] at hr1; cases hr1
  have r1r : r1 ≠ r0 := fun z => by rw [z, xup_o r0q, xup_s] at hr1; cases hr1
  have r1x : r1 ≠ x := fun z => by rw [z, xup_o hqx, xup_o (fun y => r0x y.symm), xup_o hqx, hx] at hr1; cases hr1
  have hr1' : h r1 = none := by rw [xup_o r1q, xup_o r1r, xup_o r1q] at hr1; exact hr1
  refine wP_i (fs := [.ref r0, .null, .int 0]) (by rw [xup_o (fun z => r1q z.symm), xup_s]; rfl) (by decide : 1 < 3) (wP_i xup_s (by decide : 2 < 3) ?_)
  refine wP_i (by rw [xup_o hqx, xup_o hqx, xup_o (fun z => r1x z.symm), xup_o hqx, xup_o (fun z => r0x z.symm), xup_o hqx]; exact hx) hk (hh _ q r0 r1 xup_s ?_ ?_ ?_ (fun z => r1r z.symm) (fun z => hqx z.symm) r0x r1x (fun a e q0 q1 => ?_))
  · rw [xup_o (fun z => hqx z.symm), xup_s]; rfl
  · rw [xup_o r0x, xup_o r0q, xup_o r0q, xup_o (fun z => r1r z.symm), xup_o r0q, xup_s]
  · rw [xup_o r1x, xup_o r1q, xup_o r1q, xup_s]
  · have a1 : a ≠ q := fun z => by rw [z, hq] at q0; cases q0
    have a2 : a ≠ r0 := fun z => by rw [z, hr0'] at q0; cases q0
    have a3 : a ≠ r1 := fun z => by rw [z, hr1'] at q0; cases q0
    rw [xup_o q1, xup_o a1, xup_o a1, xup_o a3, xup_o a1, xup_o a2, xup_o a1]; exact q0
theorem sb_init {Po : XH → Prop} (hx : h x = some (.inr (7, [.null, .null, .null, .null, .null, .int 0, .int 0, .int 0]))) (hd : h dc.1 = some xro) (hh : ∀ h' g, isB dc h' x g M0 → Po h') : w_X6_init dc h x Po := by
  refine ni_tide hx (by decide) (fun h1 q0 r0 r1 x1 c1 c2 c3 n1 n2 n3 n4 e1 => ?_)
  refine ni_list x1 (by decide : 1 < 8) (fun h2 q1 x2 d1 f1 p1 e2 => ?_)
  refine ni_list x2 (by decide : 2 < 8) (fun h3 q2 x3 d2 f2 p2 e3 => ?_)
  refine ni_list x3 (by decide : 3 < 8) (fun h4 q3 x4 d3 f3 p3 e4 => ?_)
  refine ni_list x4 (by decide : 4 < 8) (fun h5 q4 x5 d4 f4 p4 e5 => ?_)
  refine ni_put x5 (by decide : 5 < 8) (fun h6 x6 e6 => ni_put x6 (by decide : 6 < 8) (fun h7 x7 e7 => ni_put x7 (by decide : 7 < 8) (fun h8 x8 e8 => ?_)))
  have E5 : extx x h5 h8 := extx_t e6 (extx_t e7 e8)
  have E4 : extx x h4 h8 := extx_t e5 E5
  have E3 : extx x h3 h8 := extx_t e4 E4
  have E2 : extx x h2 h8 := extx_t e3 E3
  have E1 : extx x h1 h8 := extx_t e2 E2
  have dx : dc.1 ≠ x := fun z => by rw [z, hx] at hd; cases hd
  have q12 : q1 ≠ q2 := fun z => by rw [z, f2] at d1; cases d1
  have q13 : q1 ≠ q3 := fun z => by have := e3 _ _ d1 p1; rw [z, f3] at this; cases this
  have q14 : q1 ≠ q4 := fun z => by have := e4 _ _ (e3 _ _ d1 p1) p1; rw [z, f4] at this; cases this
  have q23 : q2 ≠ q3 := fun z => by rw [z, f3] at d2; cases d2
  have q24 : q2 ≠ q4 := fun z => by have := e4 _ _ d2 p2; rw [z, f4] at this; cases this
  have q34 : q3 ≠ q4 := fun z => by rw [z, f4] at d3; cases d3
  refine hh h8 (fun k i => match i with
    | 0 => q0
    | 1 => q1
    | 2 => q2
    | 3 => q3
    | 4 => q4
    | 5 => r0
    | 6 => r1
    | _ => dc.1) ⟨x8, ⟨E1 _ _ c1 n2, n1, _, _, E1 _ _ c2 n3, E1 _ _ c3 n4, fun i hi => absurd hi (Nat.not_lt_zero i)⟩, fun k k1 k2 => ?_, fun k k1 k2 i hi => ?_, extx_t e1 E1 _ _ hd dx, fun j k j1 j2 k1 k2 hjk => ⟨?_, ?_⟩, fun k k1 k2 i j hi _ _ => ?_⟩
  · rcases (show k = 1 ∨ k = 2 ∨ k = 3 ∨ k = 4 by omega) with z | z | z | z
    · subst z; exact ⟨⟨0, E2 _ _ d1 p1⟩, Or.inl ⟨rfl, rfl⟩⟩
    · subst z; exact ⟨⟨0, E3 _ _ d2 p2⟩, Or.inl ⟨rfl, rfl⟩⟩
    · subst z; exact ⟨⟨0, E4 _ _ d3 p3⟩, Or.inl ⟨rfl, rfl⟩⟩
    · subst z; exact ⟨⟨0, E5 _ _ d4 p4⟩, Or.inl ⟨rfl, rfl⟩⟩
  · exfalso
    rcases (show k = 1 ∨ k = 2 ∨ k = 3 ∨ k = 4 ∨ k = 5 by omega) with z | z | z | z | z <;> subst z <;> exact absurd hi (Nat.not_lt_zero i)
  · rcases (show j = 1 ∨ j = 2 ∨ j = 3 ∨ j = 4 by omega) with z | z | z | z <;> rcases (show k = 1 ∨ k = 2 ∨ k = 3 ∨ k = 4 by omega) with w | w | w | w <;> subst z w <;> first | exact absurd rfl hjk | assumption | exact fun y => q12 y.symm | exact fun y => q13 y.symm | exact fun y => q14 y.symm | exact fun y => q23 y.symm | exact fun y => q24 y.symm | exact fun y => q34 y.symm
  · rcases (show j = 1 ∨ j = 2 ∨ j = 3 ∨ j = 4 by omega) with z | z | z | z <;> subst z <;> exact fun _ => rfl
  · exfalso
    rcases (show k = 1 ∨ k = 2 ∨ k = 3 ∨ k = 4 ∨ k = 5 by omega) with z | z | z | z | z <;> subst z <;> exact absurd hi (Nat.not_lt_zero i)
/-- between two calls -/
def isJ (dc : Nat × Nat) (x m o : Nat) (h : XH) : Prop := ∃ M, (∃ g, isB dc h x g M) ∧ (∃ ad F T, isM h m ad F T M) ∧ isO h o ∧ Inv M
theorem isM_kM {h' : XH} {ad : Nat → Nat} {F : Nat → Nat → Int32} {T : Int32} (k : kM h h') (q : isM h m ad F T M) : isM h' m ad F T M := ⟨k _ _ q.1 rfl, fun j hj => k _ _ (q.2.1 j hj) (xk_row _ _), q.2.2⟩
theorem outv_k {h' : XH} {c r : Int32} (k : kept 1 h h') (q : outv h o c r) : outv h' o c r := q.elim (fun f hf => ⟨f, k _ _ hf.1 (fun z => absurd (show (2 : Nat) = 1 from z) (by decide)), hf.2⟩)
theorem law_end {ad : Nat → Nat} {F : Nat → Nat → Int32} {c r : Int32} {M' : MS} (hM : isM h m ad F c M') (hv : outv h o c r) {rec : XH → Prop} (hr : rec h) : wO h m 8 (w_X7_thrown dc h m (fun r19 => wIf (r19 = c) (wIf (c = 0) (wAL h o 0 (fun v22 => wIf ((lg_cmp v22 r.toInt64) = 0) (rec h) False)) (rec h)) False)) := by
  refine wO_i hM.1 (sm_thrown hM (wIf_t rfl (wIf_i (fun d => ?_) (fun _ => hr))))
  obtain ⟨f, h1, h2⟩ := hv
  refine ⟨1, f, h1, (show vp_in (nI 0) 1 from vp_in_nI (by decide) (by decide)), ?_⟩
  refine wIf_t ?_ hr
  rw [lg_cmp_eq]
  exact h2 d
theorem law_step {R : Int32 × (Int32 × MS)} {ad : Nat → Nat} {F : Nat → Nat → Int32} {T : Int32} (hM : isM h m ad F T M) (hI' : Inv R.2.2) {CL : (Int32 → XH → Prop) → Prop} {CM : XH → (Int32 → XH → Prop) → Prop}
    (hC : ∀ Po : Int32 → XH → Prop, (∀ h' g', isB dc h' x g' R.2.2 → kM h h' → outv h' o R.1 R.2.1 → Po R.1 h') → CL Po) (hC2 : ∀ h', isM h' m ad F T M → ∀ Po : Int32 → XH → Prop, (∀ h'' F', isM h'' m ad F' R.1 R.2.2 → kept 1 h' h'' → Po R.2.1 h'') → CM h' Po)
    {rec : XH → Prop} (hr : ∀ h', isJ dc x m o h' → rec h') {Q : Int32 → XH → Prop} (hQ : ∀ r5 h6, wO h6 m 8 (CM h6 (fun r14 h15 => wO h15 m 8 (w_X7_thrown dc h15 m (fun r19 => wIf (r19 = r5) (wIf (r5 = 0) (wAL h15 o 0 (fun v22 => wIf ((lg_cmp v22 r14.toInt64) = 0) (rec h15) False)) (rec h15)) False)))) → Q r5 h6) : CL Q := by
  refine hC Q (fun h' g' w1 w2 w3 => hQ _ _ ?_)
  have hM2 := isM_kM w2 hM
  refine wO_i hM2.1 (hC2 h' hM2 _ (fun h'' F' w4 w5 => ?_))
  have hv := outv_k w5 w3
  exact law_end w4 hv (hr h'' ⟨R.2.2, ⟨g', isB_kept (n := 1) (by decide) w5 w1⟩, ⟨ad, F', _, w4⟩, hv.elim (fun f hf => ⟨f, hf.1⟩), hI'⟩)
theorem scr_i {L : Nat} {xs : Nat → Int32} {i : Nat} {y : Int32} {K : Int32 → Prop} (hy : y = nI i) (hi : i < L) (hL : L < 2 ^ 31) (hk : K (xs i)) : wScr L xs y K := by
  subst hy
  exact ⟨vp_in_nI hi hL, by rw [nI_clamp (by omega)]; exact hk⟩
end
