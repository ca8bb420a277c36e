/-! PURE ROWS: the reference's operations, fourth part: book, delay, digest, a new object -/
noncomputable def bkC (M : MS) (s : Nat) (w : Nat × Nat) (t z c : Nat) : Nat :=
  if c = 7 then s else if c = 8 then t else if c = 9 then (bestP M (mt M 3 s) (w.1 = 1) t (mn M 3)).getD 0 else if c = 10 then tugsFor (mt M 3 s) else if c = 11 then w.2 else if c = 12 then w.1 else z
noncomputable def bookM (M : MS) (s : Nat) (w : Nat × Nat) (t z : Nat) : MS := (fun j => if j = 4 then mn M 4 + 1 else mn M j, (fun c i => if 7 ≤ c ∧ i = mn M 4 then bkC M s w t z c else mt M c i), M.2.2)
noncomputable def bkR (M : MS) (s z : Nat) (rt : Option Nat) (rw_ : Option (Nat × Nat)) : Int32 × (Int32 × MS) := match rt, rw_ with
  | some t, some w => cI (mn M 4 = 40) (3, 0, M) (0, nI (mn M 4), bookM M s w t z)
  | _, _ => (3, 0, M)
noncomputable def oc_book (M : MS) (x y z : Int32) : Int32 × (Int32 × MS) := cI (¬ (isIx x (mn M 2) ∧ (y = -1 ∨ isIx y (mn M 1)))) (1, 0, M) (cI (¬ isIx z 2880) (2, 0, M) (bkR M (nt x) (nt z) (fst (beg M (nt x) (yO y)) (nt z) 2820) (way M (nt x) (yO y))))
def dsum (M : MS) : Nat → Int32
  | 0 => 0
  | n + 1 => dsum M n + (nI (pB M n) - nI (pQ M n))
def dgC (M : MS) : Nat → Int64
  | 0 => 307
  | n + 1 => dgC M n * 31 + (nI (mn M n)).toInt64
def dg1 (M : MS) : Int64 := ((dgC M 5 * 31 + (nI (mn M 5)).toInt64) * 31 + (nI (mn M 6)).toInt64) * 31 + (nI (mn M 7)).toInt64
def dgS (M : MS) : Nat → Int64
  | 0 => dg1 M
  | n + 1 => (dgS M n * 31 + (nI (mt M 4 n)).toInt64) * 31 + (need M n).toInt64
def dgP (M : MS) (d : Int64) (i : Nat) : Nat → Int64
  | 0 => d
  | k + 1 => dgP M d i k * 31 + (nI (mt M (7 + k) i)).toInt64
def dgA (M : MS) : Nat → Int64
  | 0 => dgS M (mn M 2)
  | n + 1 => dgP M (dgA M n) n 6
def M0 : MS := (fun k => match k with
  | 5 => 1000
  | 6 => 50
  | 7 => 4
  | _ => 0, fun _ _ => 0, fun _ => 0)
section
variable {dc : Nat × Nat} {h : XH} {m : Nat} {ad : Nat → Nat} {F : Nat → Nat → Int32} {T : Int32} {M : MS} {Po : Int32 → XH → Prop}
theorem isM_off (hM : isM h m ad F T M) {q : Nat} {e : XA} (h1 : m ≠ q) (h2 : ∀ k ∈ mIx, ad k ≠ q) : isM (xup h q e) m ad F T M :=
  ⟨by rw [xup_o h1]; exact hM.1, fun k hk => by rw [xup_o (h2 k hk)]; exact hM.2.1 k hk, hM.2.2⟩
/-- a row of its own: what a passage is said to be -/
def isQ (h : XH) (m : Nat) (ad : Nat → Nat) (F : Nat → Nat → Int32) (T : Int32) (M : MS) (q : Nat) (f : Nat → Int32) : Prop := isM h m ad F T M ∧ h q = some (.inl (2, 7, .inl f)) ∧ m ≠ q ∧ ∀ k ∈ mIx, ad k ≠ q
theorem sm_said {q : Nat} {f : Nat → Int32} (hQ : isQ h m ad F T M q f) (i : Nat) (hi : i < 7) {x v : Int32} (hx : x = nI i) {K : XH → Prop} (hh : ∀ h', isQ h' m ad F T M q (upd f i v) → kept 1 h h' → K h') : wSI h 2 q x v K :=
  wSI_i i hQ.2.1 hi hx (by decide) (hh _ ⟨isM_off hQ.1 hQ.2.2.1 hQ.2.2.2, xup_s, hQ.2.2⟩ (kept_u hQ.2.1 rfl))
theorem sm_book_139 {h0 : XH} {q : Nat} {f : Nat → Int32} (hI : Inv M) (s : Nat) (w : Nat × Nat) (t z : Nat) (hn : mn M 4 < 40) (hk : kept 1 h0 h) (hQ : isQ h m ad F 0 M q f) (o : Int32) (ho : o = nI w.1) (hf : ∀ c, c < 5 → f c = nI (bkC M s w t z (7 + c))) (hh : ∀ h' F', isM h' m ad F' 0 (bookM M s w t z) → kept 1 h0 h' → Po (nI (mn M 4)) h') : w_X7_book_139 dc h m (nI z) q q 5 o Po := by
  have hc := hI.c
  refine sm_said hQ 5 (by decide) rfl (fun h1 Q1 k1 => ?_)
  refine sm_said Q1 6 (by decide) rfl (fun h2 Q2 k2 => ?_)
  have hM2 := Q2.1
  refine wR_i hM2.1 rfl (wI_i hM2.1 rfl ?_)
  have e7 : (7 : Int32) * nI (mn M 4) = nI (7 * mn M 4) := pk_mul 7 (mn M 4)
  have n0 : (0 : Int32).toNatClampNeg = 0 := rfl
  have n7 : (7 : Int32).toNatClampNeg = 7 := rfl
  have nd : (7 * nI (mn M 4) : Int32).toNatClampNeg = 7 * mn M 4 := by rw [e7]; exact nI_clamp (by omega)
  refine ⟨7, 280, _, _, Q2.2.1, hM2.r17, ⟨by decide, by rw [e7]; exact nI_pos (by omega), by decide, by decide, by rw [nd, n7]; omega⟩, ?_⟩
  rw [n0, n7, nd]
  have C3 := (isM.C hM2)
  have hrow := hM2.r17
  have D3 : isC (xup h2 (ad 17) (.inl (2, 280, .inl (va_cpy (upd (upd f 5 o) 6 (nI z)) (F 17) 0 (7 * mn M 4) 7)))) m ad (fU F 17 (va_cpy (upd (upd f 5 o) 6 (nI z)) (F 17) 0 (7 * mn M 4) 7)) 0 M := by
    refine ⟨?_, fun j hj => ?_, C3.2.2⟩
    · rw [xup_o (fun z => by rw [← z, hM2.1] at hrow; cases hrow)]; exact hM2.1
    · by_cases c : j = 17
      · subst c; rw [xup_s]; unfold fU; rw [if_pos rfl]; rfl
      · rw [xup_o (fun z => c (C3.2.2 j hj 17 (by decide) z))]; unfold fU; rw [if_neg c]; exact C3.2.1 j hj
  have k3 : kept 1 h2 (xup h2 (ad 17) (.inl (2, 280, .inl (va_cpy (upd (upd f 5 o) 6 (nI z)) (F 17) 0 (7 * mn M 4) 7)))) := kept_u hrow rfl
  refine wI_i D3.1 rfl (sm_putC D3 16 _ (by decide) (M' := bookM M s w t z) (T' := 0) (by rw [nI_s]; rfl) (fun h4 C4 k4 => ?_))
  refine wI_i C4.1 rfl ?_
  show Po (nI (mn M 4 + 1) - 1) h4
  rw [nI_m1]
  refine hh h4 _ (C4.M ?_) (kept_t hk (kept_t k1 (kept_t k2 (kept_t k3 k4))))
  obtain ⟨m1, m2, m3, m4, m5, m6, m7, m8, m9⟩ := hQ.1.2.2.2
  refine ⟨m1, m2, m3, m4, m5, m6, m7, m8, fun i k hi hk2 => ?_⟩
  have hi : i < mn M 4 + 1 := hi
  show va_cpy (upd (upd f 5 o) 6 (nI z)) (F 17) 0 (7 * mn M 4) 7 (7 * i + k) = nI (if 7 ≤ 7 + k ∧ i = mn M 4 then bkC M s w t z (7 + k) else mt M (7 + k) i)
  unfold va_cpy
  by_cases c : i = mn M 4
  · subst c
    rw [if_pos (by omega), if_pos ⟨by omega, rfl⟩]
    rw [show 0 + (7 * mn M 4 + k - 7 * mn M 4) = k by omega]
    by_cases k5 : k = 6
    · subst k5; rw [upd_s]; rfl
    · rw [upd_o k5]
      by_cases k6 : k = 5
      · subst k6; rw [upd_s, ho]; rfl
      · rw [upd_o k6]; exact hf k (by omega)
  · rw [if_neg (by omega), if_neg (fun q => c q.2)]; exact m9 i k (by omega) hk2
theorem sm_book (hM : isM h m ad F T M) (hI : Inv M) (x y z : Int32) (hh : ∀ h' F', isM h' m ad F' (oc_book M x y z).1 (oc_book M x y z).2.2 → kept 1 h h' → Po (oc_book M x y z).2.1 h') : w_X7_book dc h m x y z Po := by
  have hc := hI.c
  unfold oc_book at hh
  refine wO_i hM.1 (sm_why hM hI x y z (sm_put0 hM _ (fun h1 hM1 k1 => wI_i hM1.1 rfl ?_)))
  by_cases c : ¬ (isIx x (mn M 2) ∧ (y = -1 ∨ isIx y (mn M 1)))
  · rw [cI_t c] at hh hM1
    rw [cI_t c]
    exact wIf_f (by decide) (hh h1 F hM1 k1)
  rw [cI_f c] at hh hM1
  rw [cI_f c]
  by_cases d : ¬ isIx z 2880
  · rw [cI_t d] at hh hM1
    rw [cI_t d]
    exact wIf_f (by decide) (hh h1 F hM1 k1)
  rw [cI_f d] at hh hM1
  rw [cI_f d]
  obtain ⟨⟨s, hs, rfl⟩, hy⟩ := Classical.byContradiction c
  obtain ⟨t0, ht0, rfl⟩ := Classical.byContradiction d
  rw [nt_nI (by omega), nt_nI (by omega)] at hh
  have hsh := hI.ship hs
  have hy1 : ∀ b, yO y = some b → b < mn M 1 := by
    intro b hb
    rcases hy with rfl | ⟨b2, hb2, rfl⟩
    · rw [yO_n] at hb; cases hb
    · rw [yO_s (by omega)] at hb; cases hb; exact hb2
  have hy2 : y = oN (yO y) := by
    rcases hy with rfl | ⟨b2, hb2, rfl⟩
    · rw [yO_n]; rfl
    · rw [yO_s (by omega)]; rfl
  have h44 : (∀ h3, isM h3 m ad F 3 M → kept 1 h h3 → Po 0 h3) → w_X7_book_44 dc h1 m Po := fun g => wO_i hM1.1 (sm_fail hM1 (fun h3 hM3 k3 => g h3 hM3 (kept_t k1 k3)))
  refine wIf_t rfl (wO_i hM1.1 (sm_earliestFor hM1 hI s hs (yO y) hy1 t0 ht0 rfl hy2 rfl ?_))
  cases hf : fst (beg M s (yO y)) t0 2820 with
  | none => rw [hf] at hh; exact wIf_t rfl (h44 (fun h3 hM3 k3 => hh h3 F hM3 k3))
  | some t =>
    obtain ⟨f1, f2, ⟨w, hw, f3, f4⟩⟩ := fst_in hf
    rw [hf, hw] at hh
    have hh : ∀ h' F', isM h' m ad F' (cI (mn M 4 = 40) ((3 : Int32), (0 : Int32), M) (0, nI (mn M 4), bookM M s w t t0)).1 (cI (mn M 4 = 40) ((3 : Int32), (0 : Int32), M) (0, nI (mn M 4), bookM M s w t t0)).2.2 → kept 1 h h' → Po (cI (mn M 4 = 40) ((3 : Int32), (0 : Int32), M) (0, nI (mn M 4), bookM M s w t t0)).2.1 h' := hh
    refine wIf_f (nI_ne_m1 (by omega)) (wI_i hM1.1 rfl (wIf_d (mn M 4 = 40) (nI_eq (b := 40) (by omega) (by decide)) (fun e => ?_) (fun e => ?_)))
    · rw [cI_t e] at hh; exact h44 (fun h3 hM3 k3 => hh h3 F hM3 k3)
    rw [cI_f e] at hh
    have e10 : F 10 s = nI (mt M 3 s) := hM.2.2.2.2.2.2.2.1 s hs
    have hbest := f4.2.2.2.2.2.1
    obtain ⟨p, hp⟩ : ∃ p, bestP M (mt M 3 s) (w.1 = 1) t (mn M 3) = some p := by
      cases hb : bestP M (mt M 3 s) (w.1 = 1) t (mn M 3) with
      | none => exact absurd hb hbest
      | some p => exact ⟨p, rfl⟩
    have h60 : ∀ (out : Int32), out = bI (w.1 = 1) → ((w.1 = 0 ∧ out = 0 ∧ y = nI w.2) ∨ (w.1 = 1 ∧ out = 1 ∧ ∃ i, lastS M s (mn M 4) = some i ∧ w.2 = pA M i)) → w_X7_book_60 dc h1 m (nI s) y (nI t0) (nI t) out Po := by
      intro out hout hcase
      intro q hq
      have Q0 : isQ (xup h1 q (.inl (2, 7, .inl (fun _ => 0)))) m ad F 0 M q (fun _ => 0) := by
        refine ⟨isM_off hM1 (fun z => ?_) (fun k hk z => ?_), xup_s, fun z => ?_, fun k hk z => ?_⟩
        · rw [← z, hM1.1] at hq; cases hq
        · rw [← z, hM1.2.1 k hk] at hq; cases hq
        · rw [← z, hM1.1] at hq; cases hq
        · rw [← z, hM1.2.1 k hk] at hq; cases hq
      have k2 : kept 1 h1 (xup h1 q (.inl (2, 7, .inl (fun _ => 0)))) := kept_n hq
      refine sm_said Q0 0 (by decide) rfl (fun h3 Q3 k3 => sm_said Q3 1 (by decide) rfl (fun h4 Q4 k4 => ?_))
      refine wR_i Q4.1.1 rfl (wAI_i s Q4.1.r10 (by omega) rfl (by decide) (wO_i Q4.1.1 ?_))
      rw [e10]
      refine sm_pilotFor Q4.1 hI (mt M 3 s) (by omega) (w.1 = 1) t (by omega) rfl hout rfl ?_
      rw [hp]
      refine sm_said Q4 2 (by decide) rfl (fun h5 Q5 k5 => ?_)
      refine wR_i Q5.1.1 rfl (wAI_i s Q5.1.r10 (by omega) rfl (by decide) ?_)
      rw [e10]
      refine sm_tugsFor (mt M 3 s) (by omega) rfl (sm_said Q5 3 (by decide) rfl (fun h6 Q6 k6 => ?_))
      have kk : kept 1 h h6 := kept_t k1 (kept_t k2 (kept_t k3 (kept_t k4 (kept_t k5 k6))))
      have cols : ∀ c, c < 5 → upd (upd (upd (upd (upd (fun _ => (0 : Int32)) 0 (nI s)) 1 (nI t)) 2 (nI p)) 3 (nI (tugsFor (mt M 3 s)))) 4 (nI w.2) c = nI (bkC M s w t t0 (7 + c)) := by
        intro c hc2
        have hg : (bestP M (mt M 3 s) (w.1 = 1) t (mn M 3)).getD 0 = p := by rw [hp]; rfl
        rcases (show c = 0 ∨ c = 1 ∨ c = 2 ∨ c = 3 ∨ c = 4 by omega) with z | z | z | z | z
        · subst z; rfl
        · subst z; rfl
        · subst z; show nI p = nI ((bestP M (mt M 3 s) (w.1 = 1) t (mn M 3)).getD 0); rw [hg]
        · subst z; rfl
        · subst z; rfl
      rcases hcase with ⟨w0, o0, y0⟩ | ⟨w1, o1, i, hl, wi⟩
      · refine wIf_t o0 ?_
        rw [y0]
        refine sm_said Q6 4 (by decide) rfl (fun h7 Q7 k7 => wIf_t o0 ?_)
        exact sm_book_139 (h0 := h) hI s w t t0 (by omega) (kept_t kk k7) Q7 0 (by rw [w0]; rfl) cols hh
      · refine wIf_f (by rw [o1]; decide) (wO_i Q6.1.1 (sm_latest Q6.1 hI s hs rfl ?_))
        rw [hl]
        have hi := (lastS_spec.1 i hl).1
        refine sm_get Q6.1 hI i 4 hi (by decide) rfl rfl ?_
        rw [show mt M (7 + 4) i = w.2 from wi.symm]
        refine sm_said Q6 4 (by decide) rfl (fun h7 Q7 k7 => wIf_f (by rw [o1]; decide) ?_)
        exact sm_book_139 (h0 := h) hI s w t t0 (by omega) (kept_t kk k7) Q7 1 (by rw [w1]; rfl) cols hh
    unfold way at hw
    rcases hy with rfl | ⟨b, hb, rfl⟩
    · rw [yO_n] at hw
      refine wIf_t rfl ?_
      cases hl : lastS M s (mn M 4) with
      | none => rw [hl] at hw; cases hw
      | some i =>
        rw [hl] at hw; dsimp only at hw
        by_cases o : pO M i = 0
        · rw [if_pos o] at hw; cases hw
          exact h60 1 (bI_t rfl).symm (Or.inr ⟨rfl, rfl, i, hl, rfl⟩)
        · rw [if_neg o] at hw; cases hw
    · rw [yO_s (by omega)] at hw
      refine wIf_f (nI_ne_m1 (by omega)) ?_
      have hw2 : w = (0, b) := by
        cases hl : lastS M s (mn M 4) with
        | none => rw [hl] at hw; cases hw; rfl
        | some i =>
          rw [hl] at hw; dsimp only at hw
          by_cases o : pO M i = 1
          · rw [if_pos o] at hw; cases hw; rfl
          · rw [if_neg o] at hw; cases hw
      subst hw2
      exact h60 0 (bI_f (c := (0 : Nat) = 1) (by decide)).symm (Or.inl ⟨rfl, rfl, rfl⟩)
theorem sm_delay {Po : UInt64 → XH → Prop} (hM : isM h m ad F T M) (hI : Inv M) (hh : ∀ h' F', isM h' m ad F' 0 M → kept 1 h h' → (mn M 4 = 0 → Po FP.dconst0 h') ∧ (mn M 4 ≠ 0 → ∀ r : UInt64, alike64 r (FP.ddiv (FP.i2d (dsum M (mn M 4))) (FP.i2d (nI (mn M 4)))) = true → Po r h')) : w_X7_delay dc h m Po := by
  have hc := hI.c
  refine sm_put0 hM 0 (fun h1 hM1 k1 => ?_)
  refine xloop_up (fun i => (dsum M i, nI i)) (fun _ => True) (mn M 4) 0 (Nat.zero_le _) trivial (fun rec i _ hi _ hr => ?_) (fun rec _ => ?_)
  · have hr := hr trivial
    rw [nI_succ] at hr
    exact wI_i hM1.1 rfl (wIf_f (nI_ge hi (by omega)) (wO_i hM1.1 (sm_begin hM1 hI i hi rfl (sm_get hM1 hI i 6 hi (by decide) rfl rfl hr))))
  · refine wI_i hM1.1 rfl (wIf_t (nI_le (Nat.le_refl _) (by omega)) (wI_i hM1.1 rfl (wIf_d (mn M 4 = 0) (nI_eq (b := 0) (by omega) (by decide)) (fun c => (hh h1 F hM1 k1).1 c) (fun c => wI_i hM1.1 rfl ((hh h1 F hM1 k1).2 c)))))
theorem sm_digest {Po : Int64 → XH → Prop} (hM : isM h m ad F T M) (hI : Inv M) (hh : ∀ h' F', isM h' m ad F' 0 M → kept 1 h h' → Po (dgA M (mn M 4)) h') : w_X7_digest dc h m Po := by
  have hc := hI.c
  refine sm_put0 hM 0 (fun h1 hM1 k1 => ?_)
  refine xloop_up (fun i => (dgC M i, nI i)) (fun _ => True) 5 0 (Nat.zero_le _) trivial (fun rec i _ hi _ hr => ?_) (fun rec _ => ?_)
  · have hr := hr trivial
    rw [nI_succ] at hr
    exact wIf_f (fun q => absurd ((n_le (a := 5) (by decide) (by omega)).mp q) (by omega)) (wO_i hM1.1 (sm_counted hM1 i hi rfl hr))
  · refine wIf_t (by decide) (wI_i hM1.1 rfl (wI_i hM1.1 rfl (wI_i hM1.1 rfl ?_)))
    refine xloop_up (fun i => (dgS M i, nI i)) (fun _ => True) (mn M 2) 0 (Nat.zero_le _) trivial (fun rec i _ hi _ hr => ?_) (fun rec _ => ?_)
    · have hr := hr trivial
      rw [nI_succ] at hr
      refine wI_i hM1.1 rfl (wIf_f (nI_ge hi (by omega)) (wR_i hM1.1 rfl (wAI_i i hM1.r11 (by omega) rfl (by decide) ?_)))
      rw [hM1.2.2.2.2.2.2.2.2.1 i hi]
      exact wO_i hM1.1 (sm_needOf hM1 hI i hi rfl hr)
    · refine wI_i hM1.1 rfl (wIf_t (nI_le (Nat.le_refl _) (by omega)) ?_)
      refine xloop_up (fun i => (dgA M i, nI i)) (fun _ => True) (mn M 4) 0 (Nat.zero_le _) trivial (fun rec i _ hi _ hr => ?_) (fun rec _ => ?_)
      · have hr := hr trivial
        refine wI_i hM1.1 rfl (wIf_f (nI_ge hi (by omega)) ?_)
        refine xloop_up (fun k => (dgP M (dgA M i) i k, nI k)) (fun _ => True) 6 0 (Nat.zero_le _) trivial (fun rec2 k _ hk _ hr2 => ?_) (fun rec2 _ => ?_)
        · have hr2 := hr2 trivial
          rw [nI_succ] at hr2
          exact wIf_f (fun q => absurd ((n_le (a := 6) (by decide) (by omega)).mp q) (by omega)) (wO_i hM1.1 (sm_get hM1 hI i k hi (by omega) rfl rfl hr2))
        · refine wIf_t (by decide) ?_
          rw [nI_succ] at hr; exact hr
      · exact wI_i hM1.1 rfl (wIf_t (nI_le (Nat.le_refl _) (by omega)) (hh h1 F hM1 k1))
/-- a new object on its way -/
def iP (h : XH) (m : Nat) (ks : List Nat) (ad : Nat → Nat) (fs : List Value) : Prop := h m = some (.inr (8, fs)) ∧ (∀ k ∈ ks, h (ad k) = some (.inl ((mRow k).1, (mRow k).2, .inl (fun _ => 0)))) ∧ (∀ j ∈ ks, ∀ k ∈ ks, ad j = ad k → j = k) ∧ fs.length = 18
theorem iP_put {ks : List Nat} {fs : List Value} (P : iP h m ks ad fs) (k : Nat) (v : Value) (hk : k < 18) {K : XH → Prop} (hh : ∀ h', iP h' m ks ad (fs.set k v) → kept 1 h h' → K h') : wP h m 8 k v K := by
  refine wP_i P.1 (by rw [P.2.2.2]; exact hk) (hh _ ⟨xup_s, fun j hj => ?_, P.2.2.1, by rw [List.length_set]; exact P.2.2.2⟩ (kept_u P.1 rfl))
  rw [xup_o (fun z => by have h1 := P.2.1 j hj; rw [z, P.1] at h1; cases h1)]
  exact P.2.1 j hj
theorem iP_new {ks : List Nat} {fs : List Value} (P : iP h m ks ad fs) (k : Nat) (hk : k ∉ ks) {t N : Nat} (e : mRow k = (t, N)) {K : Nat → XH → Prop} (hh : ∀ q h', iP h' m (k :: ks) (fun j => if j = k then q else ad j) fs → kept 1 h h' → K q h') : wNewI h t N K := by
  intro q hq
  refine hh q _ ⟨?_, fun j hj => ?_, fun i hi j hj z => ?_, P.2.2.2⟩ (kept_n hq)
  · rw [xup_o (fun z => by rw [← z, P.1] at hq; cases hq)]; exact P.1
  · dsimp only
    by_cases c : j = k
    · subst c; rw [if_pos rfl, xup_s, e]
    · rw [if_neg c]
      have hj2 : j ∈ ks := (List.mem_cons.mp hj).resolve_left c
      rw [xup_o (fun z => by have h1 := P.2.1 j hj2; rw [z, hq] at h1; cases h1)]
      exact P.2.1 j hj2
  · dsimp only at z
    by_cases c : i = k
    · by_cases d : j = k
      · exact c.trans d.symm
      · rw [if_pos c, if_neg d] at z
        have hj2 : j ∈ ks := (List.mem_cons.mp hj).resolve_left d
        have h1 := P.2.1 j hj2
        rw [← z, hq] at h1; cases h1
    · have hi2 : i ∈ ks := (List.mem_cons.mp hi).resolve_left c
      by_cases d : j = k
      · rw [if_neg c, if_pos d] at z
        have h1 := P.2.1 i hi2
        rw [z, hq] at h1; cases h1
      · rw [if_neg c, if_neg d] at z
        exact P.2.2.1 i hi2 j ((List.mem_cons.mp hj).resolve_left d) z
theorem sm_init {Po : XH → Prop} (h0 : h m = some (.inr (8, [.int 0, .int 0, .null, .null, .int 0, .int 0, .int 0, .null, .null, .int 0, .null, .null, .int 0, .null, .null, .int 0, .int 0, .null]))) (hh : ∀ h' ad F, isM h' m ad F 0 M0 → kept 1 h h' → Po h') : w_X7_init dc h m Po := by
  have P0 : iP h m [] (fun _ => 0) _ := ⟨h0, fun k hk => absurd hk List.not_mem_nil, fun k hk => absurd hk List.not_mem_nil, rfl⟩
  refine iP_new P0 2 (by decide) rfl (fun q2 g1 P1 k1 => iP_put P1 2 _ (by decide) (fun g2 P2 k2 => ?_))
  refine iP_new P2 3 (by decide) rfl (fun q3 g3 P3 k3 => iP_put P3 3 _ (by decide) (fun g4 P4 k4 => ?_))
  refine iP_put P4 4 _ (by decide) (fun g5 P5 k5 => iP_put P5 5 _ (by decide) (fun g6 P6 k6 => ?_))
  refine iP_new P6 7 (by decide) rfl (fun q7 g7 P7 k7 => iP_put P7 7 _ (by decide) (fun g8 P8 k8 => ?_))
  refine iP_new P8 8 (by decide) rfl (fun q8 g9 P9 k9 => iP_put P9 8 _ (by decide) (fun g10 P10 k10 => ?_))
  refine iP_new P10 10 (by decide) rfl (fun q10 g11 P11 k11 => iP_put P11 10 _ (by decide) (fun g12 P12 k12 => ?_))
  refine iP_new P12 11 (by decide) rfl (fun q11 g13 P13 k13 => iP_put P13 11 _ (by decide) (fun g14 P14 k14 => ?_))
  refine iP_new P14 13 (by decide) rfl (fun q13 g15 P15 k15 => iP_put P15 13 _ (by decide) (fun g16 P16 k16 => ?_))
  refine iP_new P16 14 (by decide) rfl (fun q14 g17 P17 k17 => iP_put P17 14 _ (by decide) (fun g18 P18 k18 => ?_))
  refine iP_put P18 15 _ (by decide) (fun g19 P19 k19 => ?_)
  refine iP_new P19 17 (by decide) rfl (fun q17 g20 P20 k20 => iP_put P20 17 _ (by decide) (fun g21 P21 k21 => ?_))
  refine hh g21 _ (fun _ _ => 0) ⟨?_, fun k hk => P21.2.1 k ?_, fun j hj k hk => P21.2.2.1 j ?_ k ?_, ?_⟩ (kept_t k1 (kept_t k2 (kept_t k3 (kept_t k4 (kept_t k5 (kept_t k6 (kept_t k7 (kept_t k8 (kept_t k9 (kept_t k10 (kept_t k11 (kept_t k12 (kept_t k13 (kept_t k14 (kept_t k15 (kept_t k16 (kept_t k17 (kept_t k18 (kept_t k19 (kept_t k20 k21))))))))))))))))))))
  · exact P21.1
  · exact (show ∀ k ∈ mIx, k ∈ [17, 14, 13, 11, 10, 8, 7, 3, 2] by decide) k hk
  · exact (show ∀ k ∈ mIx, k ∈ [17, 14, 13, 11, 10, 8, 7, 3, 2] by decide) j hj
  · exact (show ∀ k ∈ mIx, k ∈ [17, 14, 13, 11, 10, 8, 7, 3, 2] by decide) k hk
  · exact ⟨fun i hi => absurd hi (Nat.not_lt_zero i), fun i hi => absurd hi (Nat.not_lt_zero i), fun i hi => absurd hi (Nat.not_lt_zero i), fun i hi => absurd hi (Nat.not_lt_zero i), fun i hi => absurd hi (Nat.not_lt_zero i), fun i hi => absurd hi (Nat.not_lt_zero i), fun i hi => absurd hi (Nat.not_lt_zero i), fun i hi => absurd hi (Nat.not_lt_zero i), fun i _ hi => absurd hi (Nat.not_lt_zero i)⟩
end
