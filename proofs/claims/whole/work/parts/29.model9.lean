/-! PURE ROWS: the reference's operations, third part: least, earliest, cancel, passage, occupant, tugs, trips, ports -/
theorem i_add {x y : Int32} (h1 : -2147483648 ≤ x.toInt + y.toInt) (h2 : x.toInt + y.toInt < 2147483648) : (x + y).toInt = x.toInt + y.toInt := by
  rw [Int32.toInt_add]; exact Int.bmod_eq_of_le (by omega) (by omega)
theorem i_sub {x y : Int32} (h1 : -2147483648 ≤ x.toInt - y.toInt) (h2 : x.toInt - y.toInt < 2147483648) : (x - y).toInt = x.toInt - y.toInt := by
  rw [Int32.toInt_sub]; exact Int.bmod_eq_of_le (by omega) (by omega)
theorem i_mul {x y : Int32} (h1 : -2147483648 ≤ x.toInt * y.toInt) (h2 : x.toInt * y.toInt < 2147483648) : (x * y).toInt = x.toInt * y.toInt := by
  rw [Int32.toInt_mul]; exact Int.bmod_eq_of_le (by omega) (by omega)
theorem i_div {x y : Int32} (h1 : -2147483648 ≤ x.toInt.tdiv y.toInt) (h2 : x.toInt.tdiv y.toInt < 2147483648) : (x / y).toInt = x.toInt.tdiv y.toInt := by
  rw [Int32.toInt_div]; exact Int.bmod_eq_of_le (by omega) (by omega)
theorem tdiv_bd {d p s : Int} (hp : 0 ≤ p) (hs : p < s) : (0 ≤ d → 0 ≤ (d * p).tdiv s ∧ (d * p).tdiv s ≤ d) ∧ (d ≤ 0 → d ≤ (d * p).tdiv s ∧ (d * p).tdiv s ≤ 0) := by
  have pos : ∀ e : Int, 0 ≤ e → 0 ≤ (e * p).tdiv s ∧ (e * p).tdiv s ≤ e := by
    intro e he
    have h1 : 0 ≤ e * p := Int.mul_nonneg he hp
    rw [Int.tdiv_eq_ediv_of_nonneg h1]
    refine ⟨Int.ediv_nonneg h1 (by omega), ?_⟩
    have h2 : e * p ≤ e * s := Int.mul_le_mul_of_nonneg_left (by omega) he
    have h3 : e * p / s ≤ e * s / s := Int.ediv_le_ediv (by omega) h2
    rw [Int.mul_ediv_cancel _ (by omega)] at h3
    exact h3
  refine ⟨pos d, fun hd => ?_⟩
  have h := pos (-d) (by omega)
  rw [Int.neg_mul, Int.neg_tdiv] at h
  omega
theorem ht_bd {M : MS} (hI : Inv M) (t : Nat) (ht2 : t < 2880) : -300 ≤ (ht M t).toInt ∧ (ht M t).toInt ≤ 900 := by
  have hK := fGe_K M t
  have hc := hI.c
  unfold ht
  generalize fGe M t (mn M 0) 0 = k at hK
  have hk := hK.1
  unfold htv
  by_cases c0 : mn M 0 = 0
  · rw [if_pos c0]; decide
  rw [if_neg c0]
  by_cases c1 : k = mn M 0
  · rw [if_pos c1]; exact (hI.tide (by omega)).2
  rw [if_neg c1]
  by_cases c2 : k = 0 ∨ mt M 0 k = t
  · rw [if_pos c2]; exact (hI.tide (by omega)).2
  rw [if_neg c2]
  have a1 := hI.tide (i := k - 1) (by omega)
  have b1 := hI.tide (i := k) (by omega)
  have t1 := hK.2.1 (k - 1) (by omega)
  have t2 := hK.2.2 (by omega)
  have t3 : ¬ mt M 0 k = t := fun z => c2 (Or.inr z)
  have e1 : (mg M k - mg M (k - 1)).toInt = (mg M k).toInt - (mg M (k - 1)).toInt := i_sub (by omega) (by omega)
  have e2 : (nI t - nI (mt M 0 (k - 1))).toInt = (t : Int) - (mt M 0 (k - 1) : Int) := pk_sub_toInt (by omega) (by omega)
  have e3 : (nI (mt M 0 k) - nI (mt M 0 (k - 1))).toInt = (mt M 0 k : Int) - (mt M 0 (k - 1) : Int) := pk_sub_toInt (by omega) (by omega)
  have bd : ∀ d p : Int, -1200 ≤ d → d ≤ 1200 → 0 ≤ p → p ≤ 2880 → -3456000 ≤ d * p ∧ d * p ≤ 3456000 := by
    intro d p h1 h2 h3 h4
    have q1 : d * p ≤ 1200 * p := Int.mul_le_mul_of_nonneg_right h2 h3
    have q2 : -1200 * p ≤ d * p := Int.mul_le_mul_of_nonneg_right h1 h3
    omega
  have b2 := bd ((mg M k).toInt - (mg M (k - 1)).toInt) ((t : Int) - (mt M 0 (k - 1) : Int)) (by omega) (by omega) (by omega) (by omega)
  have e4 : ((mg M k - mg M (k - 1)) * (nI t - nI (mt M 0 (k - 1)))).toInt = ((mg M k).toInt - (mg M (k - 1)).toInt) * ((t : Int) - (mt M 0 (k - 1) : Int)) := by
    rw [i_mul (by rw [e1, e2]; omega) (by rw [e1, e2]; omega), e1, e2]
  have td := tdiv_bd (d := (mg M k).toInt - (mg M (k - 1)).toInt) (p := (t : Int) - (mt M 0 (k - 1) : Int)) (s := (mt M 0 k : Int) - (mt M 0 (k - 1) : Int)) (by omega) (by omega)
  have e5 : (((mg M k - mg M (k - 1)) * (nI t - nI (mt M 0 (k - 1)))) / (nI (mt M 0 k) - nI (mt M 0 (k - 1)))).toInt = (((mg M k).toInt - (mg M (k - 1)).toInt) * ((t : Int) - (mt M 0 (k - 1) : Int))).tdiv ((mt M 0 k : Int) - (mt M 0 (k - 1) : Int)) := by
    have : -2147483648 ≤ (((mg M k).toInt - (mg M (k - 1)).toInt) * ((t : Int) - (mt M 0 (k - 1) : Int))).tdiv ((mt M 0 k : Int) - (mt M 0 (k - 1) : Int)) ∧ (((mg M k).toInt - (mg M (k - 1)).toInt) * ((t : Int) - (mt M 0 (k - 1) : Int))).tdiv ((mt M 0 k : Int) - (mt M 0 (k - 1) : Int)) < 2147483648 := by
      rcases Int.le_total 0 ((mg M k).toInt - (mg M (k - 1)).toInt) with z | z
      · have := td.1 z; omega
      · have := td.2 z; omega
    rw [i_div (by rw [e4, e3]; exact this.1) (by rw [e4, e3]; exact this.2), e4, e3]
  rcases Int.le_total 0 ((mg M k).toInt - (mg M (k - 1)).toInt) with z | z
  · have := td.1 z
    rw [i_add (by rw [e5]; omega) (by rw [e5]; omega), e5]; omega
  · have := td.2 z
    rw [i_add (by rw [e5]; omega) (by rw [e5]; omega), e5]; omega
def mmin (M : MS) (a : Nat) : Nat → Int32
  | 0 => ht M a
  | n + 1 => if ht M (a + n + 1) < mmin M a n then ht M (a + n + 1) else mmin M a n
theorem mmin_bd {M : MS} (hI : Inv M) (a : Nat) : ∀ n, a + n < 2880 → -300 ≤ (mmin M a n).toInt ∧ (mmin M a n).toInt ≤ 900 := by
  intro n
  induction n with
  | zero => intro h; exact ht_bd hI a h
  | succ n ih =>
    intro h
    show -300 ≤ (if ht M (a + n + 1) < mmin M a n then ht M (a + n + 1) else mmin M a n).toInt ∧ (if ht M (a + n + 1) < mmin M a n then ht M (a + n + 1) else mmin M a n).toInt ≤ 900
    by_cases c : ht M (a + n + 1) < mmin M a n
    · rw [if_pos c]; exact ht_bd hI _ (by omega)
    · rw [if_neg c]; exact ih (by omega)
theorem shift_lt {d r : Nat} {x y : Int32} (hd : d ≤ 2500) (hr : r ≤ 2000) (hx : -300 ≤ x.toInt ∧ x.toInt ≤ 900) (hy : -300 ≤ y.toInt ∧ y.toInt ≤ 900) : ((nI d + x) - nI r < (nI d + y) - nI r) ↔ x < y := by
  have ed := nI_toInt (n := d) (by omega)
  have er := nI_toInt (n := r) (by omega)
  have e1 : (nI d + x).toInt = d + x.toInt := by rw [i_add (by rw [ed]; omega) (by rw [ed]; omega), ed]
  have e2 : (nI d + y).toInt = d + y.toInt := by rw [i_add (by rw [ed]; omega) (by rw [ed]; omega), ed]
  have e3 : ((nI d + x) - nI r).toInt = d + x.toInt - r := by rw [i_sub (by rw [e1, er]; omega) (by rw [e1, er]; omega), e1, er]
  have e4 : ((nI d + y) - nI r).toInt = d + y.toInt - r := by rw [i_sub (by rw [e2, er]; omega) (by rw [e2, er]; omega), e2, er]
  rw [Int32.lt_iff_toInt_lt, Int32.lt_iff_toInt_lt, e3, e4]
  omega
theorem shift_max {d r : Nat} {x : Int32} (hd : d ≤ 2500) (hr : r ≤ 2000) (hx : -300 ≤ x.toInt ∧ x.toInt ≤ 900) : (nI d + x) - nI r < 2147483647 := by
  have ed := nI_toInt (n := d) (by omega)
  have er := nI_toInt (n := r) (by omega)
  have e1 : (nI d + x).toInt = d + x.toInt := by rw [i_add (by rw [ed]; omega) (by rw [ed]; omega), ed]
  have e3 : ((nI d + x) - nI r).toInt = d + x.toInt - r := by rw [i_sub (by rw [e1, er]; omega) (by rw [e1, er]; omega), e1, er]
  have e4 : (2147483647 : Int32).toInt = 2147483647 := by decide
  rw [Int32.lt_iff_toInt_lt, e3, e4]
  omega
theorem buN_cases {M : MS} {i : Nat} : ∀ n, buN M i n = 2880 ∨ ∃ q, q < n ∧ i < q ∧ pS M q = pS M i ∧ pO M q = 1 ∧ buN M i n = pB M q + 60 := by
  intro n
  induction n with
  | zero => exact Or.inl rfl
  | succ n ih =>
    rw [buN_succ]
    split
    · rename_i z
      exact Or.inr ⟨n, by omega, z.2.1, z.2.2.1, z.2.2.2, rfl⟩
    · rcases ih with z | ⟨q, h1, h2⟩
      · exact Or.inl z
      · exact Or.inr ⟨q, by omega, h2⟩
def lsF (M : MS) (s i j : Nat) : Int32 := if j = pB M i + 60 then 2147483647 else (nI (mt M 2 (pA M i)) + mmin M (pB M i + 60) (j - (pB M i + 60) - 1)) - nI (mt M 4 s)
theorem lsF_0 {M : MS} {s i : Nat} : lsF M s i (pB M i + 60) = 2147483647 := if_pos rfl
theorem lsF_1 {M : MS} {s i j : Nat} (h : j ≠ pB M i + 60) : lsF M s i j = (nI (mt M 2 (pA M i)) + mmin M (pB M i + 60) (j - (pB M i + 60) - 1)) - nI (mt M 4 s) := if_neg h
/-- the last minute of a stay -/
def lastMin (M : MS) (i : Nat) : Nat := if buN M i (mn M 4) = 2880 then 2879 else buN M i (mn M 4) - 60
def lst (M : MS) (s i : Nat) : Int32 := (nI (mt M 2 (pA M i)) + mmin M (pB M i + 60) (lastMin M i - (pB M i + 60))) - nI (mt M 4 s)
noncomputable def oc_least (M : MS) (x : Int32) : Int32 × (Int32 × MS) := cI (¬ isIx x (mn M 2)) (1, 0, M) (match lastI M (nt x) (mn M 4) with
  | none => (2, 0, M)
  | some i => (0, lst M (nt x) i, M))
noncomputable def oc_earliest (M : MS) (x y z : Int32) : Int32 × (Int32 × MS) := cI (¬ (isIx x (mn M 2) ∧ (y = -1 ∨ isIx y (mn M 1)))) (1, 0, M) (cI (¬ isIx z 2880) (2, 0, M) (0, oN (fst (beg M (nt x) (yO y)) (nt z) 2820), M))
noncomputable def oc_cancel (M : MS) : Int32 × (Int32 × MS) := cI (mn M 4 = 0) (1, 0, M) (0, nI (pS M (mn M 4 - 1)), sN M 4 (mn M 4 - 1))
noncomputable def oc_passage (M : MS) (x y : Int32) : Int32 × (Int32 × MS) := cI (¬ (isIx x (mn M 4) ∧ isIx y 6)) (1, 0, M) (0, nI (mt M (7 + nt y) (nt x)), M)
def occP (M : MS) (b t p : Nat) : Prop := pO M p = 0 ∧ pA M p = b ∧ pB M p ≤ t ∧ t < buN M p (mn M 4)
def occR (M : MS) (r : Option Nat) : Int32 := match r with
  | none => -1
  | some p => nI (pS M p)
noncomputable def oc_occupant (M : MS) (x y : Int32) : Int32 × (Int32 × MS) := cI (¬ isIx x (mn M 1)) (1, 0, M) (cI (¬ isIx y 2880) (2, 0, M) (0, occR M (fst (occP M (nt x) (nt y)) 0 (mn M 4)), M))
noncomputable def oc_freeTugs (M : MS) (x : Int32) : Int32 × (Int32 × MS) := cI (¬ isIx x 2880) (1, 0, M) (0, nI (mn M 7) - nI (uAt M (nt x) (mn M 4)), M)
def trp (M : MS) (p : Nat) : Nat → Nat
  | 0 => 0
  | n + 1 => trp M p n + if pP M n = p then 1 else 0
noncomputable def oc_trips (M : MS) (x : Int32) : Int32 × (Int32 × MS) := cI (¬ isIx x (mn M 3)) (1, 0, M) (0, nI (trp M (nt x) (mn M 4)), M)
noncomputable def oc_isInPort (M : MS) (x : Int32) : Int32 × (Int32 × MS) := cI (¬ isIx x (mn M 3)) (1, 0, M) (0, bI (port M (nt x) (mn M 4)), M)
section
variable {dc : Nat × Nat} {h : XH} {m : Nat} {ad : Nat → Nat} {F : Nat → Nat → Int32} {T : Int32} {M : MS} {Po : Int32 → XH → Prop}
theorem sm_least_62 {h0 : XH} (hM : isM h m ad F T M) (hI : Inv M) (s : Nat) (hs : s < mn M 2) (i : Nat) (hi : i < mn M 4) (e : Nat) (he2 : pB M i + 60 ≤ e) (he3 : e < 2880) {z : Int32} (hz : z = nI e) (hh : Po ((nI (mt M 2 (pA M i)) + mmin M (pB M i + 60) (e - (pB M i + 60))) - nI (mt M 4 s)) h) : w_X7_least_62 dc h m (nI s) (nI i) z Po := by
  have hc := hI.c
  have hp := hI.pas hi
  have hb := hI.berth hp.2.2.2.1
  have hsh := hI.ship hs
  subst hz
  refine wO_i hM.1 (sm_end hM hI i hi rfl ?_)
  show xloop (w_X7_least_74_F dc h m (nI s) (nI i) (nI e) Po) (2147483647, nI (pB M i + 60))
  rw [← lsF_0 (M := M) (s := s) (i := i)]
  refine xloop_up (fun j => (lsF M s i j, nI j)) (fun _ => True) (e + 1) (pB M i + 60) (by omega) trivial (fun rec j h1 h2 _ hr => ?_) (fun rec _ => ?_)
  · have hr := hr trivial
    refine wIf_f (fun q => absurd ((n_lt (by omega) (by omega)).mp q) (by omega)) (wR_i hM.1 rfl (wO_i hM.1 (sm_get hM hI i 4 hi (by decide) rfl rfl ?_)))
    refine wAI_i (pA M i) hM.r8 (by omega) rfl (by decide) ?_
    refine sm_heightAt hM hI j (by omega) rfl (wR_i hM.1 rfl (wAI_i s hM.r11 (by omega) rfl (by decide) ?_))
    rw [hM.2.2.2.2.2.2.1 _ hp.2.2.2.1, hM.2.2.2.2.2.2.2.2.1 s hs]
    have hj := ht_bd hI j (by omega)
    rw [nI_succ] at hr
    by_cases c : j = pB M i + 60
    · rw [c, lsF_0, ← c, if_pos (shift_max (by omega) (by omega) hj)]
      rw [lsF_1 (by omega), show j + 1 - (pB M i + 60) - 1 = 0 by omega] at hr
      rw [show mmin M (pB M i + 60) 0 = ht M j by rw [c]; rfl] at hr
      exact hr
    · rw [lsF_1 c]
      have hm := mmin_bd hI (pB M i + 60) (j - (pB M i + 60) - 1) (by omega)
      rw [lsF_1 (by omega), show j + 1 - (pB M i + 60) - 1 = (j - (pB M i + 60) - 1) + 1 by omega] at hr
      rw [show mmin M (pB M i + 60) ((j - (pB M i + 60) - 1) + 1) = if ht M j < mmin M (pB M i + 60) (j - (pB M i + 60) - 1) then ht M j else mmin M (pB M i + 60) (j - (pB M i + 60) - 1) by
        show (if ht M (pB M i + 60 + (j - (pB M i + 60) - 1) + 1) < _ then ht M (pB M i + 60 + (j - (pB M i + 60) - 1) + 1) else _) = _
        rw [show pB M i + 60 + (j - (pB M i + 60) - 1) + 1 = j by omega]] at hr
      by_cases d : ht M j < mmin M (pB M i + 60) (j - (pB M i + 60) - 1)
      · rw [if_pos d] at hr
        rw [if_pos ((shift_lt (by omega) (by omega) hj hm).mpr d)]; exact hr
      · rw [if_neg d] at hr
        rw [if_neg (fun q => d ((shift_lt (by omega) (by omega) hj hm).mp q))]; exact hr
  · refine wIf_t ((n_lt (by omega) (by omega)).mpr (by omega)) ?_
    rw [lsF_1 (by omega), show e + 1 - (pB M i + 60) - 1 = e - (pB M i + 60) by omega]
    exact hh
theorem sm_least (hM : isM h m ad F T M) (hI : Inv M) (x : Int32) (hh : ∀ h' F', isM h' m ad F' (oc_least M x).1 (oc_least M x).2.2 → kept 1 h h' → Po (oc_least M x).2.1 h') : w_X7_least dc h m x Po := by
  have hc := hI.c
  unfold oc_least at hh
  refine sm_put0 hM 0 (fun h1 hM1 k1 => wO_i hM1.1 (sm_isShip hM1 hI (wIf_d _ bI_0 (fun c => ?_) (fun c => ?_))))
  · rw [cI_t c] at hh
    exact sm_fail hM1 (fun h3 hM3 k3 => hh h3 F hM3 (kept_t k1 k3))
  rw [cI_f c] at hh
  obtain ⟨s, hs, rfl⟩ := Classical.byContradiction c
  rw [nt_nI (by omega)] at hh
  refine sm_latest0 hM1 hI s hs rfl ?_
  cases hl : lastI M s (mn M 4) with
  | none =>
    rw [hl] at hh
    exact wIf_t rfl (sm_fail hM1 (fun h3 hM3 k3 => hh h3 F hM3 (kept_t k1 k3)))
  | some i =>
    rw [hl] at hh; dsimp only at hh
    obtain ⟨hi, h2, h3, -⟩ := lastI_spec.1 i hl
    have hp := hI.pas hi
    have hge := buN_ge hI hi (mn M 4) (Nat.le_refl _)
    have hle := buN_le hI (i := i) (mn M 4) (Nat.le_refl _)
    refine wIf_f (nI_ne_m1 (by omega)) (sm_leaves hM1 hI i hi h3 rfl (wIf_d (buN M i (mn M 4) ≤ 2879) (n_le (b := 2879) (by omega) (by decide)) (fun d => ?_) (fun d => ?_)))
    · refine sm_leaves hM1 hI i hi h3 rfl ?_
      rcases buN_cases (M := M) (i := i) (mn M 4) with z | ⟨q, q1, q2, q3, q4, q5⟩
      · omega
      · have hu := hI.sup q2 q1 q3.symm
        have hpq := hI.pas q1
        have el : lastMin M i = pB M q := by unfold lastMin; rw [if_neg (by omega), q5]; omega
        unfold lst at hh
        rw [el] at hh
        refine sm_least_62 (h0 := h) hM1 hI s hs i hi (pB M q) (by omega) (by omega) ?_ (hh h1 F hM1 k1)
        rw [q5]; exact pk_sub (a := pB M q + 60) (b := 60) (by omega)
    · have el : lastMin M i = 2879 := by unfold lastMin; rw [if_pos (by omega)]
      unfold lst at hh
      rw [el] at hh
      exact sm_least_62 (h0 := h) hM1 hI s hs i hi 2879 (by omega) (by omega) rfl (hh h1 F hM1 k1)
theorem sm_earliest (hM : isM h m ad F T M) (hI : Inv M) (x y z : Int32) (hh : ∀ h' F', isM h' m ad F' (oc_earliest M x y z).1 (oc_earliest M x y z).2.2 → kept 1 h h' → Po (oc_earliest M x y z).2.1 h') : w_X7_earliest dc h m x y z Po := by
  have hc := hI.c
  unfold oc_earliest at hh
  refine wO_i hM.1 (sm_why hM hI x y z (sm_put0 hM _ (fun h1 hM1 k1 => wI_i hM1.1 rfl ?_)))
  by_cases c : ¬ (isIx x (mn M 2) ∧ (y = -1 ∨ isIx y (mn M 1)))
  · rw [cI_t c] at hh hM1
    rw [cI_t c]
    exact wIf_f (by decide) (hh h1 F hM1 k1)
  rw [cI_f c] at hh hM1
  rw [cI_f c]
  by_cases d : ¬ isIx z 2880
  · rw [cI_t d] at hh hM1
    rw [cI_t d]
    exact wIf_f (by decide) (hh h1 F hM1 k1)
  rw [cI_f d] at hh hM1
  rw [cI_f d]
  obtain ⟨⟨s, hs, rfl⟩, hy⟩ := Classical.byContradiction c
  obtain ⟨t, ht2, rfl⟩ := Classical.byContradiction d
  rw [nt_nI (by omega), nt_nI (by omega)] at hh
  refine wIf_t rfl (wO_i hM1.1 (sm_earliestFor hM1 hI s hs (yO y) ?_ t ht2 rfl ?_ rfl (hh h1 F hM1 k1)))
  · intro b hb
    rcases hy with rfl | ⟨b2, hb2, rfl⟩
    · rw [yO_n] at hb; cases hb
    · rw [yO_s (by omega)] at hb; cases hb; exact hb2
  · rcases hy with rfl | ⟨b2, hb2, rfl⟩
    · rw [yO_n]; rfl
    · rw [yO_s (by omega)]; rfl
theorem sm_cancel (hM : isM h m ad F T M) (hI : Inv M) (hh : ∀ h' F', isM h' m ad F' (oc_cancel M).1 (oc_cancel M).2.2 → kept 1 h h' → Po (oc_cancel M).2.1 h') : w_X7_cancel dc h m Po := by
  have hc := hI.c
  unfold oc_cancel at hh
  refine sm_put0 hM 0 (fun h1 hM1 k1 => wI_i hM1.1 rfl (wIf_d (mn M 4 = 0) (nI_eq (b := 0) (by omega) (by decide)) (fun c => ?_) (fun c => ?_)))
  · rw [cI_t c] at hh
    exact wO_i hM1.1 (sm_fail hM1 (fun h3 hM3 k3 => hh h3 F hM3 (kept_t k1 k3)))
  rw [cI_f c] at hh
  have em : nI (mn M 4) - 1 = nI (mn M 4 - 1) := pk_sub (a := mn M 4) (b := 1) (by omega)
  obtain ⟨m1, m2, m3, m4, m5, m6, m7, m8, m9⟩ := hM.2.2.2
  have hF : mF F (sN M 4 (mn M 4 - 1)) := ⟨m1, m2, m3, m4, m5, m6, m7, m8, fun i k hi hk => m9 i k (by have : i < mn M 4 - 1 := hi; omega) hk⟩
  refine wI_i hM1.1 rfl (sm_put hM1 16 _ (by decide) (M' := sN M 4 (mn M 4 - 1)) (T' := 0) (by rw [em]; rfl) hF (fun h2 hM2 k2 => ?_))
  refine wI_i hM2.1 rfl (wO_i hM2.1 (wR_i hM2.1 rfl (wAI_i (7 * (mn M 4 - 1) + 0) hM2.r17 (by omega) ?_ (by decide) ?_)))
  · show 7 * nI (mn M 4 - 1) + 0 = _
    rw [show (7 : Int32) = nI 7 from rfl, pk_mul, show (0 : Int32) = nI 0 from rfl, nI_add]
  · rw [m9 (mn M 4 - 1) 0 (by omega) (by decide)]
    exact hh h2 F hM2 (kept_t k1 k2)
theorem sm_passage (hM : isM h m ad F T M) (hI : Inv M) (x y : Int32) (hh : ∀ h' F', isM h' m ad F' (oc_passage M x y).1 (oc_passage M x y).2.2 → kept 1 h h' → Po (oc_passage M x y).2.1 h') : w_X7_passage dc h m x y Po := by
  have hc := hI.c
  unfold oc_passage at hh
  refine sm_put0 hM 0 (fun h1 hM1 k1 => wI_i hM1.1 rfl ?_)
  have hf : ¬ (isIx x (mn M 4) ∧ isIx y 6) → w_X7_passage_37 dc h1 m Po := fun c => by
    rw [cI_t c] at hh
    exact wO_i hM1.1 (sm_fail hM1 (fun h3 hM3 k3 => hh h3 F hM3 (kept_t k1 k3)))
  refine sm_isIn ?_
  rw [bI_c (d := isIx x (mn M 4)) (ix_iff (n := mn M 4) (by omega))]
  refine wIf_d _ bI_0 (fun c => hf (fun z => c z.1)) (fun c => sm_isIn ?_)
  rw [show (5 : Int32) = nI 6 - 1 from by decide, bI_c (d := isIx y 6) (ix_iff (n := 6) (by decide))]
  refine wIf_d _ bI_0 (fun d => hf (fun z => d z.2)) (fun d => ?_)
  have c := Classical.byContradiction c
  have d := Classical.byContradiction d
  rw [cI_f (fun q => q ⟨c, d⟩)] at hh
  obtain ⟨p, hp, rfl⟩ := c
  obtain ⟨k, hk, rfl⟩ := d
  rw [nt_nI (by omega), nt_nI (by omega)] at hh
  exact wO_i hM1.1 (sm_get hM1 hI p k hp (by omega) rfl rfl (hh h1 F hM1 k1))
theorem sm_occupant (hM : isM h m ad F T M) (hI : Inv M) (x y : Int32) (hh : ∀ h' F', isM h' m ad F' (oc_occupant M x y).1 (oc_occupant M x y).2.2 → kept 1 h h' → Po (oc_occupant M x y).2.1 h') : w_X7_occupant dc h m x y Po := by
  have hc := hI.c
  unfold oc_occupant at hh
  refine sm_put0 hM 0 (fun h1 hM1 k1 => wO_i hM1.1 (sm_isBerth hM1 hI (wIf_d _ bI_0 (fun c => ?_) (fun c => ?_))))
  · rw [cI_t c] at hh
    exact sm_fail hM1 (fun h3 hM3 k3 => hh h3 F hM3 (kept_t k1 k3))
  rw [cI_f c] at hh
  refine sm_isTime (wIf_d _ bI_0 (fun d => ?_) (fun d => ?_))
  · rw [cI_t d] at hh
    exact sm_fail hM1 (fun h3 hM3 k3 => hh h3 F hM3 (kept_t k1 k3))
  rw [cI_f d] at hh
  obtain ⟨b, hb, rfl⟩ := Classical.byContradiction c
  obtain ⟨t, ht2, rfl⟩ := Classical.byContradiction d
  rw [nt_nI (by omega), nt_nI (by omega)] at hh
  refine xloop_up (fun i => nI i) (fun i => ∀ p, 0 ≤ p → p < i → ¬ occP M b t p) (mn M 4) 0 (Nat.zero_le _) (fun p _ hp => absurd hp (Nat.not_lt_zero p)) (fun rec i _ hi hP hr => ?_) (fun rec hP => ?_)
  · have hp := hI.pas hi
    have go : ¬ occP M b t i → w_X7_occupant_85 dc h1 m (nI b) (nI t) (nI i) Po rec := fun g => by
      have := hr (fun p hp0 hp => by
        by_cases e : p = i
        · subst e; exact g
        · exact hP p hp0 (by omega))
      rw [nI_succ] at this; exact this
    have hle := buN_le hI (i := i) (mn M 4) (Nat.le_refl _)
    refine wI_i hM1.1 rfl (wIf_f (nI_ge hi (by omega)) (wO_i hM1.1 (sm_isOut hM1 hI i hi rfl (wIf_d (¬ pO M i = 1) bI_0 (fun o => ?_) (fun o => go (fun z => absurd z.1 (by omega)))))))
    refine sm_get hM1 hI i 4 hi (by decide) rfl rfl (wIf_d (pA M i = b) (nI_eq (a := pA M i) (b := b) (by omega) (by omega)) (fun e => ?_) (fun e => go (fun z => e z.2.1)))
    refine sm_begin hM1 hI i hi rfl (wIf_d (t < pB M i) (n_lt (by omega) (by omega)) (fun g => go (fun z => absurd z.2.2.1 (by omega))) (fun g => ?_))
    refine sm_leaves hM1 hI i hi (by omega) rfl (wIf_d (buN M i (mn M 4) ≤ t) (n_le (by omega) (by omega)) (fun k => go (fun z => absurd z.2.2.2 (by omega))) (fun k => ?_))
    refine sm_get hM1 hI i 0 hi (by decide) rfl rfl ?_
    rw [fst_some (Nat.zero_le i) hi (show occP M b t i from ⟨by omega, e, by omega, by omega⟩) hP] at hh
    exact hh h1 F hM1 k1
  · refine wI_i hM1.1 rfl (wIf_t (nI_le (Nat.le_refl _) (by omega)) ?_)
    rw [fst_none hP] at hh
    exact hh h1 F hM1 k1
theorem sm_freeTugs (hM : isM h m ad F T M) (hI : Inv M) (x : Int32) (hh : ∀ h' F', isM h' m ad F' (oc_freeTugs M x).1 (oc_freeTugs M x).2.2 → kept 1 h h' → Po (oc_freeTugs M x).2.1 h') : w_X7_freeTugs dc h m x Po := by
  unfold oc_freeTugs at hh
  refine sm_put0 hM 0 (fun h1 hM1 k1 => sm_isTime (wIf_d _ bI_0 (fun c => ?_) (fun c => ?_)))
  · rw [cI_t c] at hh
    exact wO_i hM1.1 (sm_fail hM1 (fun h3 hM3 k3 => hh h3 F hM3 (kept_t k1 k3)))
  rw [cI_f c] at hh
  obtain ⟨t, ht2, rfl⟩ := Classical.byContradiction c
  rw [nt_nI (by omega)] at hh
  exact wI_i hM1.1 rfl (wO_i hM1.1 (sm_tugsAt hM1 hI t (by omega) rfl (hh h1 F hM1 k1)))
theorem sm_trips (hM : isM h m ad F T M) (hI : Inv M) (x : Int32) (hh : ∀ h' F', isM h' m ad F' (oc_trips M x).1 (oc_trips M x).2.2 → kept 1 h h' → Po (oc_trips M x).2.1 h') : w_X7_trips dc h m x Po := by
  have hc := hI.c
  unfold oc_trips at hh
  refine sm_put0 hM 0 (fun h1 hM1 k1 => wI_i hM1.1 rfl (sm_isIn ?_))
  rw [bI_c (d := isIx x (mn M 3)) (ix_iff (n := mn M 3) (by omega))]
  refine wIf_d _ bI_0 (fun c => ?_) (fun c => ?_)
  · rw [cI_t c] at hh
    exact wO_i hM1.1 (sm_fail hM1 (fun h3 hM3 k3 => hh h3 F hM3 (kept_t k1 k3)))
  rw [cI_f c] at hh
  obtain ⟨p, hp, rfl⟩ := Classical.byContradiction c
  rw [nt_nI (by omega)] at hh
  refine xloop_up (fun i => (nI (trp M p i), nI i)) (fun _ => True) (mn M 4) 0 (Nat.zero_le _) trivial (fun rec i _ hi _ hr => ?_) (fun rec _ => ?_)
  · have hr := hr trivial
    have hpi := hI.pas hi
    rw [nI_succ, show trp M p (i + 1) = trp M p i + if pP M i = p then 1 else 0 from rfl] at hr
    refine wI_i hM1.1 rfl (wIf_f (nI_ge hi (by omega)) (wO_i hM1.1 (sm_get hM1 hI i 2 hi (by decide) rfl rfl (wIf_d (pP M i = p) (nI_eq (a := pP M i) (b := p) (by omega) (by omega)) (fun e => ?_) (fun e => ?_)))))
    · rw [if_pos e] at hr
      show rec (nI (trp M p i) + 1, nI i + 1)
      rw [nI_s (trp M p i)]; exact hr
    · rw [if_neg e] at hr
      show rec (nI (trp M p i) + 0, nI i + 1)
      rw [show nI (trp M p i) + 0 = nI (trp M p i) from nI_add _ 0]; exact hr
  · exact wI_i hM1.1 rfl (wIf_t (nI_le (Nat.le_refl _) (by omega)) (hh h1 F hM1 k1))
theorem sm_isInPort (hM : isM h m ad F T M) (hI : Inv M) (x : Int32) (hh : ∀ h' F', isM h' m ad F' (oc_isInPort M x).1 (oc_isInPort M x).2.2 → kept 1 h h' → Po (oc_isInPort M x).2.1 h') : w_X7_isInPort dc h m x Po := by
  have hc := hI.c
  unfold oc_isInPort at hh
  refine wI_i hM.1 rfl (sm_isIn ?_)
  rw [bI_c (d := isIx x (mn M 3)) (ix_iff (n := mn M 3) (by omega))]
  refine wIf_d _ bI_0 (fun c => ?_) (fun c => ?_)
  · rw [cI_t c] at hh
    refine sm_put0 hM 1 (fun h1 hM1 k1 => wI_i hM1.1 rfl (wIf_f (by decide) (wZ_0 (hh h1 F hM1 k1))))
  · rw [cI_f c] at hh
    obtain ⟨p, hp, rfl⟩ := Classical.byContradiction c
    rw [nt_nI (by omega)] at hh
    refine sm_put0 hM 0 (fun h1 hM1 k1 => wI_i hM1.1 rfl (wIf_t rfl (wO_i hM1.1 (sm_isPortSide hM1 hI p hp rfl (wIf_d _ bI_0 (fun d => ?_) (fun d => ?_))))))
    · rw [bI_f d] at hh; exact wZ_0 (hh h1 F hM1 k1)
    · rw [bI_t (Classical.byContradiction d)] at hh; exact wZ_1 (hh h1 F hM1 k1)
end
