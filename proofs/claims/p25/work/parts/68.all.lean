/-! PURE ROWS: a new book beside the script; the law's loop; every script -/
section
variable {dc : Nat × Nat} {h : XH} {x : Nat}
theorem sb_init2 {Po : XH → Prop} (hx : h x = some (.inr (7, [.null, .null, .null, .null, .null, .int 0, .int 0, .int 0]))) (hd : h dc.1 = some xro) (hh : ∀ h' g, isB dc h' x g M0 → extx x h h' → Po h') : w_X6_init dc h x Po := by
  refine ni_tide hx (by decide) (fun h1 q0 r0 r1 x1 c1 c2 c3 n1 n2 n3 n4 e1 => ?_)
  refine ni_list x1 (by decide : 1 < 8) (fun h2 q1 x2 d1 f1 p1 e2 => ?_)
  refine ni_list x2 (by decide : 2 < 8) (fun h3 q2 x3 d2 f2 p2 e3 => ?_)
  refine ni_list x3 (by decide : 3 < 8) (fun h4 q3 x4 d3 f3 p3 e4 => ?_)
  refine ni_list x4 (by decide : 4 < 8) (fun h5 q4 x5 d4 f4 p4 e5 => ?_)
  refine ni_put x5 (by decide : 5 < 8) (fun h6 x6 e6 => ni_put x6 (by decide : 6 < 8) (fun h7 x7 e7 => ni_put x7 (by decide : 7 < 8) (fun h8 x8 e8 => ?_)))
  have E5 : extx x h5 h8 := extx_t e6 (extx_t e7 e8)
  have E4 : extx x h4 h8 := extx_t e5 E5
  have E3 : extx x h3 h8 := extx_t e4 E4
  have E2 : extx x h2 h8 := extx_t e3 E3
  have E1 : extx x h1 h8 := extx_t e2 E2
  have dx : dc.1 ≠ x := fun z => by rw [z, hx] at hd; cases hd
  have q12 : q1 ≠ q2 := fun z => by rw [z, f2] at d1; cases d1
  have q13 : q1 ≠ q3 := fun z => by have := e3 _ _ d1 p1; rw [z, f3] at this; cases this
  have q14 : q1 ≠ q4 := fun z => by have := e4 _ _ (e3 _ _ d1 p1) p1; rw [z, f4] at this; cases this
  have q23 : q2 ≠ q3 := fun z => by rw [z, f3] at d2; cases d2
  have q24 : q2 ≠ q4 := fun z => by have := e4 _ _ d2 p2; rw [z, f4] at this; cases this
  have q34 : q3 ≠ q4 := fun z => by rw [z, f4] at d3; cases d3
  refine hh h8 (fun k i => match i with
    | 0 => q0
    | 1 => q1
    | 2 => q2
    | 3 => q3
    | 4 => q4
    | 5 => r0
    | 6 => r1
    | _ => dc.1) ⟨x8, ⟨E1 _ _ c1 n2, n1, _, _, E1 _ _ c2 n3, E1 _ _ c3 n4, fun i hi => absurd hi (Nat.not_lt_zero i)⟩, fun k k1 k2 => ?_, fun k k1 k2 i hi => ?_, extx_t e1 E1 _ _ hd dx, fun j k j1 j2 k1 k2 hjk => ⟨?_, ?_⟩, fun k k1 k2 i j hi _ _ => ?_⟩ (extx_t e1 E1)
  · rcases (show k = 1 ∨ k = 2 ∨ k = 3 ∨ k = 4 by omega) with z | z | z | z
    · subst z; exact ⟨⟨0, E2 _ _ d1 p1⟩, Or.inl ⟨rfl, rfl⟩⟩
    · subst z; exact ⟨⟨0, E3 _ _ d2 p2⟩, Or.inl ⟨rfl, rfl⟩⟩
    · subst z; exact ⟨⟨0, E4 _ _ d3 p3⟩, Or.inl ⟨rfl, rfl⟩⟩
    · subst z; exact ⟨⟨0, E5 _ _ d4 p4⟩, Or.inl ⟨rfl, rfl⟩⟩
  · exfalso
    rcases (show k = 1 ∨ k = 2 ∨ k = 3 ∨ k = 4 ∨ k = 5 by omega) with z | z | z | z | z <;> subst z <;> exact absurd hi (Nat.not_lt_zero i)
  · rcases (show j = 1 ∨ j = 2 ∨ j = 3 ∨ j = 4 by omega) with z | z | z | z <;> rcases (show k = 1 ∨ k = 2 ∨ k = 3 ∨ k = 4 by omega) with w | w | w | w <;> subst z w <;> first | exact absurd rfl hjk | assumption | exact fun y => q12 y.symm | exact fun y => q13 y.symm | exact fun y => q14 y.symm | exact fun y => q23 y.symm | exact fun y => q24 y.symm | exact fun y => q34 y.symm
  · rcases (show j = 1 ∨ j = 2 ∨ j = 3 ∨ j = 4 by omega) with z | z | z | z <;> subst z <;> exact fun _ => rfl
  · exfalso
    rcases (show k = 1 ∨ k = 2 ∨ k = 3 ∨ k = 4 ∨ k = 5 by omega) with z | z | z | z | z <;> subst z <;> exact absurd hi (Nat.not_lt_zero i)
end
section
variable {dc : Nat × Nat} {h : XH} {x b L : Nat} {xs : Nat → Int32} {A : Nat → Nat} {aq tu : Nat} {M : MS} {q T : Nat → Nat} {Po : Int32 → XH → Prop}
theorem kM_t {h h' h'' : XH} (p : kM h h') (q : kM h' h'') : kM h h'' := fun a e z z2 => q a e (p a e z z2) z2
theorem lb_125 {k s : Nat} {y : Option Nat} {v : Int32} {rec70 : Nat × XH × Int32 × Int32 → Prop}
    (hB0 : ∃ g, isB dc h x g M) (hI : Inv M) (hX : InvX M) (hY : isY b L xs A aq tu h M q T) (hk : k < 10) (hn : mn M 4 ≤ k) (hs : s < mn M 2) (hy : ∀ c, y = some c → c < mn M 1) (hyo : y = none ↔ T s % 2 = 1)
    (hr : ∀ h' M' q' T', (∃ g, isB dc h' x g M') → Inv M' → InvX M' → isY b L xs A aq tu h' M' q' T' → mn M' 4 ≤ k + 1 → rec70 (k + 1, h', nI (mn M' 4), nI (k + 1))) :
    w_L_law_125 dc h k b x (A 1) (A 2) (A 3) (A 4) (A 0) aq (nI (mn M 4)) tu (nI k) v (nI s) (oN y) Po rec70 := by
  have hc := hI.c
  obtain ⟨g, hB⟩ := hB0
  refine ll_below 1000 (by decide) (by decide) rfl (fun z hz => ?_)
  refine wO_i hB.1 (sb_book0 hB hI hs (by omega) (by omega) hy rfl rfl rfl (fun hf h' hB' he => ⟨rfl, ?_⟩) (fun t w hf hw h' g' hB' km => ?_))
  · refine wIf_t rfl (wO_i hB'.1 (sb_earliest0 hB' hI hs (by omega) hy rfl rfl rfl (fun h2 hB2 he2 => wIf_t (by rw [hf]; rfl) ⟨by omega, ?_⟩)))
    rw [nI_1]
    exact hr h2 M q T ⟨g, hB2⟩ hI hX (isY_kM hY (kM_t (kM_e he) (kM_e he2))) (by omega)
  · obtain ⟨f1, f2, f3⟩ := fst_in hf
    have hI' := inv_bookM hI hs hy (by omega) hw f3 f1 f2
    refine wIf_f (nI_m3 (by omega)) (wO_i hB'.1 (sb_passage0 hB' hI' (mn M 4) (show mn M 4 < mn M 4 + 1 by omega) 1 (by decide) rfl rfl ?_))
    have e : mt (bookM M s w t z) (7 + 1) (mn M 4) = t := bk_B
    rw [e]
    refine wIf_t rfl (wIf_t (nI_le f1 (by omega)) (lb_203 hI hX hs hy (by omega) hyo hf hw hB' (isY_kM hY km) (fun h2 q2 T2 w1 w2 w3 w4 => ⟨by omega, ?_⟩)))
    rw [nI_1, nI_1]
    exact hr h2 _ q2 T2 w1 w3 w4 w2 (show mn M 4 + 1 ≤ k + 1 by omega)
theorem lb_70 (hL : L ≤ 260) (hB0 : ∃ g, isB dc h x g M) (hI : Inv M) (hX : InvX M) (hY : isY b L xs A aq tu h M q T) (hn : mn M 4 = 0) (hP : ∀ h', Po 1 h') : w_L_law_70 dc b x (A 1) (A 2) (A 3) (A 4) (A 0) aq tu Po (0, h, 0, 0) := by
  refine xloop_of (fun s : Nat × XH × Int32 × Int32 => ∃ M q T, s.1 ≤ 10 ∧ s.2.2.2 = nI s.1 ∧ s.2.2.1 = nI (mn M 4) ∧ mn M 4 ≤ s.1 ∧ (∃ g, isB dc s.2.1 x g M) ∧ Inv M ∧ InvX M ∧ isY b L xs A aq tu s.2.1 M q T) (fun s => 10 - s.1) (fun rec s hs hr => ?_) _ ⟨M, q, T, Nat.zero_le _, rfl, by show (0 : Int32) = nI (mn M 4); rw [hn]; rfl, by rw [hn]; exact Nat.le_refl _, hB0, hI, hX, hY⟩
  obtain ⟨k, h, l8, l10⟩ := s
  dsimp only at hs hr
  obtain ⟨M, q, T, hk, rfl, rfl, hn, hB0, hI, hX, hY⟩ := hs
  dsimp only [w_L_law_70_F]
  have hc := hI.c
  have hb := hY.2.2.2.1
  have hLw := hY.2.1
  obtain ⟨F, hF, hT⟩ := hY.2.2.1
  refine wIf_d (10 ≤ k) (n_le (a := 10) (by decide) (by omega)) (fun c => ?_) (fun c => ?_)
  · obtain ⟨g, hB⟩ := hB0
    exact lb_371 hB hI hX hb.2.2 hLw.1 hLw.2.2.2.2.2 (hP h)
  refine ll_cell hY.1 hL (6 + k) (by omega) (nI_add 6 k) (fun v => ns hLw.1 2 (by decide) rfl (ll_below (mn M 2) (by omega) (by omega) rfl (fun s hs => ?_)))
  refine wAI_i s hF (by omega) rfl (by decide) ⟨by decide, ?_⟩
  have hTs := hT s hs
  rw [hTs.1, nI_half (T s) (by omega)]
  have hrr : ∀ h' M' q' T', (∃ g, isB dc h' x g M') → Inv M' → InvX M' → isY b L xs A aq tu h' M' q' T' → mn M' 4 ≤ k + 1 → rec (k + 1, h', nI (mn M' 4), nI (k + 1)) := fun h' M' q' T' w1 w2 w3 w4 w5 =>
    hr (k + 1, h', nI (mn M' 4), nI (k + 1)) ⟨M', q', T', by omega, rfl, rfl, w5, w1, w2, w3, w4⟩ (by show 10 - (k + 1) < 10 - k; omega)
  refine wIf_d (T s % 2 = 1) (nI_eq (b := 1) (by omega) (by decide)) (fun d => ?_) (fun d => ?_)
  · exact lb_125 (y := none) hB0 hI hX hY (by omega) hn hs (fun c z => by cases z) ⟨fun _ => d, fun _ => rfl⟩ hrr
  · refine ns hLw.1 1 (by decide) rfl (ll_below (mn M 1) (by omega) (by omega) rfl (fun bb hbb => ?_))
    exact lb_125 (y := some bb) hB0 hI hX hY (by omega) hn hs (fun c z => by cases z; exact hbb) ⟨fun z => (by cases z), fun z => absurd z d⟩ hrr
/-- a new row of the law's: what was there stays -/
theorem new_i {h : XH} {N : Nat} {K : Nat → XH → Prop} (hk : ∀ c H, h c = none → H c = some (rI N (fun _ => 0)) → ext h H → K c H) : wNewI h 2 N K := fun c hc => hk c _ hc xup_s (ext_u hc)
theorem pure_law (dc : Nat × Nat) (b L : Nat) (xs : Nat → Int32) (h : XH) (hL : L ≤ 260) (hd : h dc.1 = some xro) (hS : h b = some (.inl (3, L, .inl xs))) (hP : ∀ h', Po 1 h') : w_L_law dc h b Po := by
  intro x hx
  have hx0 : xup h x (.inr (7, [.null, .null, .null, .null, .null, .int 0, .int 0, .int 0])) x = some (.inr (7, [.null, .null, .null, .null, .null, .int 0, .int 0, .int 0])) := xup_s
  have e0 := ext_u (e := .inr (7, [.null, .null, .null, .null, .null, .int 0, .int 0, .int 0])) hx
  refine sb_init2 hx0 (e0 _ _ hd) (fun h1 g hB e1 => ?_)
  have hS1 : h1 b = some (.inl (3, L, .inl xs)) := e1 _ _ (e0 _ _ hS) (fun z => by rw [z, hx] at hS; cases hS)
  refine new_i (fun a1 H1 n1 c1 e2 => new_i (fun a2 H2 n2 c2 e3 => new_i (fun a3 H3 n3 c3 e4 => new_i (fun a4 h2 n4 k4 e5 => ?_))))
  obtain ⟨A1, hA1⟩ : ∃ A1 : Nat → Nat, A1 = fun j => if j = 1 then a1 else if j = 2 then a2 else if j = 3 then a3 else a4 := ⟨_, rfl⟩
  have q1 : A1 1 = a1 := by rw [hA1]; rfl
  have q2 : A1 2 = a2 := by rw [hA1]; rfl
  have q3 : A1 3 = a3 := by rw [hA1]; rfl
  have q4 : A1 4 = a4 := by rw [hA1]; rfl
  clear hA1
  have k1 := e5 _ _ (e4 _ _ (e3 _ _ c1))
  have k2 := e5 _ _ (e4 _ _ c2)
  have k3 := e5 _ _ c3
  have d12 : a1 ≠ a2 := fun z => by rw [z, n2] at c1; cases c1
  have d13 : a1 ≠ a3 := fun z => by have := e3 _ _ c1; rw [z, n3] at this; cases this
  have d14 : a1 ≠ a4 := fun z => by have := e4 _ _ (e3 _ _ c1); rw [z, n4] at this; cases this
  have d23 : a2 ≠ a3 := fun z => by rw [z, n3] at c2; cases c2
  have d24 : a2 ≠ a4 := fun z => by have := e4 _ _ c2; rw [z, n4] at this; cases this
  have d34 : a3 ≠ a4 := fun z => by rw [z, n4] at c3; cases c3
  have E : ext h1 h2 := fun a e z => e5 _ _ (e4 _ _ (e3 _ _ (e2 _ _ z)))
  rw [← q1] at k1 d12 d13 d14 ⊢
  rw [← q2] at k2 d12 d23 d24 ⊢
  rw [← q3] at k3 d13 d23 d34 ⊢
  rw [← q4] at k4 d14 d24 d34 ⊢
  refine lb_build hL (isB_kept (n := 1) (by decide) (ext_k E) hB) (E _ _ hS1) (fun j j1 j2 => ?_) (fun i j i1 j1 i2 j2 e => ?_) (fun h3 A F M c hc hA hZ hI hK => wOpt_s ?_)
  · rcases (show j = 1 ∨ j = 2 ∨ j = 3 ∨ j = 4 by omega) with z | z | z | z <;> subst z
    · exact k1
    · exact k2
    · exact k3
    · exact k4
  · rcases (show i = 1 ∨ i = 2 ∨ i = 3 ∨ i = 4 by omega) with z | z | z | z <;> rcases (show j = 1 ∨ j = 2 ∨ j = 3 ∨ j = 4 by omega) with w | w | w | w <;> subst z w <;> first | rfl | exact absurd e (by assumption) | exact absurd e.symm (by assumption)
  rw [← hA 1 (by decide), ← hA 2 (by decide), ← hA 3 (by decide), ← hA 4 (by decide)]
  intro aq naq tu ntu
  have g1 := ext_u (e := rQ 40 (fun _ => none)) naq
  have g2 := ext_u (e := rI 6 (fun _ => 0)) ntu
  have G : ext h3 (xup (xup h3 aq (rQ 40 (fun _ => none))) tu (rI 6 (fun _ => 0))) := fun a e z => g2 _ _ (g1 _ _ z)
  have kq := g2 _ _ (xup_s (h := h3) (a := aq) (e := rQ 40 (fun _ => none)))
  have kt := xup_s (h := xup h3 aq (rQ 40 (fun _ => none))) (a := tu) (e := rI 6 (fun _ => 0))
  show w_L_law_70 dc b x (A 1) (A 2) (A 3) (A 4) (A 0) aq tu Po (0, xup (xup h3 aq (rQ 40 (fun _ => none))) tu (rI 6 (fun _ => 0)), 0, 0)
  have hZ2 := z_kM hZ (isB_kept (n := 1) (by decide) (ext_k G) hZ.1.choose_spec) (kM_e G)
  have ntu3 : h3 tu = none := by
    cases e : h3 tu with
    | none => rfl
    | some z => have := g1 _ _ e; rw [ntu] at this; cases this
  generalize xup (xup h3 aq (rQ 40 (fun _ => none))) tu (rI 6 (fun _ => 0)) = h4 at G kq kt hZ2 ⊢
  unfold cOk at hc
  obtain ⟨p0, ⟨m0, m1, m2, m3, m4, m5, m6, m7⟩, p1, p2, p3, p4⟩ := hK
  have hl : ∀ k, lastS M k (mn M 4) = none := fun k => by rw [m4]; rfl
  refine lb_70 (M := M) (q := fun _ => 0) (T := fun _ => 0) hL hZ2.1 hI (invX_0 m4) ⟨hZ2.2.1, ⟨⟨F 0, hZ2.2.2.1 0 (by decide), fun k hk => ?_⟩, ⟨by omega, by decide, F 1, hZ2.2.2.1 1 (by decide), fun i hi => p1 i (by omega)⟩, ⟨by omega, by decide, F 2, hZ2.2.2.1 2 (by decide), fun i hi => p2 i (by omega)⟩, ⟨by omega, by decide, F 3, hZ2.2.2.1 3 (by decide), fun i hi => p3 i (by omega)⟩, ⟨by omega, by decide, F 4, hZ2.2.2.1 4 (by decide), fun i hi => p4 i (by omega)⟩, by omega, _, kq, fun k hk => by rw [m4] at hk; exact absurd hk (Nat.not_lt_zero k)⟩, ⟨_, kt, fun s hs => ⟨rfl, Nat.zero_le _, fun z => absurd (show (0 : Nat) % 2 = 1 from z) (by decide), fun ⟨k, k1, _⟩ => by rw [hl] at k1; cases k1⟩⟩, ⟨by omega, by omega, by omega⟩, fun j hj z => (by have := hZ.2.2.1 j hj; rw [z, ntu3] at this; cases this), fun k hk => by rw [m4] at hk; exact absurd hk (Nat.not_lt_zero k)⟩ m4 hP
  rw [p0 k hk]
  unfold nF
  rcases (show k = 0 ∨ k = 1 ∨ k = 2 ∨ k = 3 ∨ k = 4 ∨ k = 5 ∨ k = 6 by omega) with z | z | z | z | z | z | z <;> subst z
  · rw [if_neg (by decide), m0]
  · rw [if_neg (by decide), m1]
  · rw [if_neg (by decide), m2]
  · rw [if_neg (by decide), m3]
  · rw [if_pos rfl, m7]
  · rw [if_neg (by decide), m5]
  · rw [if_neg (by decide), m6]
end
