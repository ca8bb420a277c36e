/-! PURE ROWS: the law's ten passages; every script -/
/-- how often each ship was booked -/
def isTu (h : XH) (a : Nat) (M : MS) (T : Nat → Nat) : Prop := ∃ F, h a = some (rI 6 F) ∧ ∀ s, s < mn M 2 → F s = nI (T s) ∧ T s ≤ mn M 4 ∧ (T s % 2 = 1 ↔ ∃ k, lastS M s (mn M 4) = some k ∧ pO M k = 0)
/-- the law's own cells -/
def isY (b L : Nat) (xs : Nat → Int32) (A : Nat → Nat) (aq tu : Nat) (h : XH) (M : MS) (q : Nat → Nat) (T : Nat → Nat) : Prop :=
  h b = some (.inl (3, L, .inl xs)) ∧ isLw h M (A 0) (A 1) (A 2) (A 3) (A 4) aq q ∧ isTu h tu M T ∧ (1 ≤ mn M 1 ∧ 1 ≤ mn M 2 ∧ mn M 2 ≤ 6) ∧ (∀ j, j < 5 → A j ≠ tu) ∧ (∀ k, k < mn M 4 → q k ≠ tu)
section
variable {dc : Nat × Nat} {h : XH} {x b L : Nat} {xs : Nat → Int32} {A : Nat → Nat} {aq tu : Nat} {M : MS} {q T : Nat → Nat} {Po : Int32 → XH → Prop}
theorem isPr_k {h' : XH} {a N n : Nat} {u v : Nat → Int32} (hp : isPr h a N n u v) (k : ∀ F, h a = some (rI N F) → h' a = some (rI N F)) : isPr h' a N n u v := by
  obtain ⟨h1, h2, F, hF, hv⟩ := hp
  exact ⟨h1, h2, F, k F hF, hv⟩
theorem isLw_kM {h' : XH} {an ap ab as_ api : Nat} (hL : isLw h M an ap ab as_ api aq q) (k : kM h h') : isLw h' M an ap ab as_ api aq q := by
  obtain ⟨⟨F, f1, f2⟩, h1, h2, h3, h4, ⟨h5, f, h6, h7⟩⟩ := hL
  refine ⟨⟨F, k _ _ f1 rfl, f2⟩, isPr_k h1 (fun F z => k _ _ z rfl), isPr_k h2 (fun F z => k _ _ z rfl), isPr_k h3 (fun F z => k _ _ z rfl), isPr_k h4 (fun F z => k _ _ z rfl), h5, f, k _ _ h6 rfl, fun i hi => ?_⟩
  obtain ⟨g1, G, g2, g3⟩ := h7 i hi
  exact ⟨g1, G, k _ _ g2 rfl, g3⟩
theorem isY_kM {h' : XH} (hY : isY b L xs A aq tu h M q T) (k : kM h h') : isY b L xs A aq tu h' M q T := by
  obtain ⟨h1, h2, ⟨F, h3, h4⟩, h5, h6, h7⟩ := hY
  exact ⟨k _ _ h1 rfl, isLw_kM h2 k, ⟨F, k _ _ h3 rfl, h4⟩, h5, h6, h7⟩
theorem nI_m3 {n : Nat} (h : n < 2 ^ 31) : ¬ nI n = -3 := by
  intro z
  have h1 : (nI n).toInt = (-3 : Int32).toInt := by rw [z]
  rw [nI_toInt h] at h1
  have h2 : (-3 : Int32).toInt = -3 := rfl
  omega
theorem nI_half (n : Nat) (hn : n < 2 ^ 31) : nI n - nI n / 2 * 2 = nI (n % 2) := by
  rw [show nI n / 2 = nI (n / 2) from pk_div (d := 2) hn (by decide) (by decide), show nI (n / 2) * 2 = nI (n / 2 * 2) from pk_mul (n / 2) 2, pk_sub (Nat.div_mul_le_self n 2)]
  congr 1; omega
/-- a row that is new: it is written place by place -/
theorem w_q {H : XH} {K : XH → Prop} {F : Nat → Int32} {c : Nat} (hc : h c = none) (he : ext h H) (hF : H c = some (rI 6 F)) (i : Nat) (hi : i < 6) {y v : Int32} (hy : y = nI i) (hk : ∀ H', ext h H' → H' c = some (rI 6 (upd F i v)) → K H') : wSI H 2 c y v K :=
  wSI_i i hF hi hy (by decide) (hk _ (ext_u2 hc he) xup_s)
/-- the class's passages are the book's, the law's rows are behind by one -/
theorem lb_203 {g' : Nat → Nat → Nat} {s t z : Nat} {y : Option Nat} {w : Nat × Nat} {n9 : Nat} {l10 : Int32} {rec70 : Nat × XH × Int32 × Int32 → Prop}
    (hI : Inv M) (hX : InvX M) (hs : s < mn M 2) (hy : ∀ c, y = some c → c < mn M 1) (hn : mn M 4 < 10) (hyo : y = none ↔ T s % 2 = 1) (hf : fst (beg M s y) z 2820 = some t) (hw : way M s y = some w)
    (hB : isB dc h x g' (bookM M s w t z)) (hY : isY b L xs A aq tu h M q T)
    (hr : ∀ h' q' T', (∃ g, isB dc h' x g (bookM M s w t z)) → isY b L xs A aq tu h' (bookM M s w t z) q' T' → Inv (bookM M s w t z) → InvX (bookM M s w t z) → n9 + 1 ≤ 10 ∧ rec70 (n9 + 1, h', nI (mn M 4) + 1, l10 + 1)) :
    w_L_law_203 dc h n9 b x (A 1) (A 2) (A 3) (A 4) (A 0) aq (nI (mn M 4)) tu l10 (nI s) (oN y) (nI t) Po rec70 (nI z) := by
  obtain ⟨hS, hLw, ⟨F9, hF9, hT⟩, hb, hA9, hq9⟩ := hY
  obtain ⟨f1, f2, f3⟩ := fst_in hf
  have hmin := fst_min hf
  have hc := hI.c
  have hI' := inv_bookM hI hs hy (by omega) hw f3 f1 f2
  have hX' := invX_bookM (z := z) hI hX hw f3
  refine xloop_up (fun k => nI k) (fun _ => True) t z f1 trivial (fun rec k hk1 hk _ hr9 => ?_) (fun rec _ => ?_)
  · have hr9 := hr9 trivial
    rw [nI_succ] at hr9
    refine wIf_f (nI_ge hk (by omega)) (ll_canBegin hLw hI s k hs (by omega) y hy rfl rfl rfl rfl (wIf_t (bI_f (hmin k hk1 hk)) hr9))
  refine wIf_t (nI_le (Nat.le_refl _) (by omega)) (ll_canBegin hLw hI s t hs (by omega) y hy rfl rfl rfl rfl (wIf_f (by rw [bI_t f3]; decide) (fun c hc0 => ?_)))
  have hpas : ∀ H, ext h H → ∀ k, k < 6 → ∀ P : Int32 → Prop, P (nI (mt (bookM M s w t z) (7 + k) (mn M 4))) → ∀ y : Int32, y = nI k → wO H x 7 (w_X6_passage dc H x (nI (mn M 4)) y P (fun _ => False)) := fun H he k hk P hP y hy9 => by
    have hBH : isB dc H x g' (bookM M s w t z) := isB_kept (n := 1) (by decide) (ext_k he) hB
    exact wO_i hBH.1 (sb_passage0 hBH hI' (mn M 4) (show mn M 4 < mn M 4 + 1 by omega) k hk rfl hy9 hP)
  refine w_q hc0 (ext_u hc0) xup_s 0 (by decide) rfl (fun H1 e1 q1 => w_q hc0 e1 q1 1 (by decide) rfl (fun H2 e2 q2 => ?_))
  refine hpas H2 e2 2 (by decide) _ (w_q hc0 e2 q2 2 (by decide) rfl (fun H3 e3 q3 => ?_)) 2 rfl
  refine hpas H3 e3 3 (by decide) _ (w_q hc0 e3 q3 3 (by decide) rfl (fun H4 e4 q4 => ?_)) 3 rfl
  refine hpas H4 e4 4 (by decide) _ (w_q hc0 e4 q4 4 (by decide) rfl (fun H5 e5 q5 => ?_)) 4 rfl
  refine hpas H5 e5 5 (by decide) _ (w_q hc0 e5 q5 5 (by decide) rfl (fun H6 e6 q6 => ?_)) 5 rfl
  obtain ⟨G, hG⟩ : ∃ G, G = upd (upd (upd (upd (upd (upd (fun _ => 0) 0 (nI s)) 1 (nI t)) 2 (nI (mt (bookM M s w t z) (7 + 2) (mn M 4)))) 3 (nI (mt (bookM M s w t z) (7 + 3) (mn M 4)))) 4 (nI (mt (bookM M s w t z) (7 + 4) (mn M 4)))) 5 (nI (mt (bookM M s w t z) (7 + 5) (mn M 4))) := ⟨_, rfl⟩
  rw [← hG] at q6
  have hGv : ∀ j, j < 6 → G j = nI (mt (bookM M s w t z) (7 + j) (mn M 4)) := fun j hj => by
    rcases (show j = 0 ∨ j = 1 ∨ j = 2 ∨ j = 3 ∨ j = 4 ∨ j = 5 by omega) with e | e | e | e | e | e <;> subst e <;> rw [hG] <;> simp only [upd]
    · show nI s = nI (pS (bookM M s w t z) (mn M 4)); rw [bk_S]
    · show nI t = nI (pB (bookM M s w t z) (mn M 4)); rw [bk_B]
    all_goals rfl
  clear hG q1 q2 q3 q4 q5 e1 e2 e3 e4 e5
  obtain ⟨hN, hP0, hP1, hP2, hP3, ⟨hQ0, f, hQ1, hQ2⟩⟩ := hLw
  -- the row is put into the law's table
  refine ⟨40, 6, f, G, e6 _ _ hQ1, vp_in_nI (by omega) (by decide), q6, ?_⟩
  rw [nI_clamp (by omega)]
  have hqt : c ≠ tu := fun w => by rw [w, hF9] at hc0; cases hc0
  have hqq : c ≠ aq := fun w => by rw [w, hQ1] at hc0; cases hc0
  have htq : tu ≠ aq := fun w => by rw [w, hQ1] at hF9; cases hF9
  have hT9 : xup H6 aq (rQ 40 (va_up f (mn M 4) (some c))) tu = some (rI 6 F9) := by rw [xup_o htq]; exact e6 _ _ hF9
  refine wAI_i s hT9 (by omega) rfl (by decide) ?_
  rw [(hT s hs).1]
  refine wSI_i s hT9 (by omega) rfl (by decide) ?_
  obtain ⟨Hf, hHf⟩ : ∃ Hf, Hf = xup (xup H6 aq (rQ 40 (va_up f (mn M 4) (some c)))) tu (rI 6 (upd F9 s (nI (T s) + 1))) := ⟨_, rfl⟩
  show wA2 (xup (xup H6 aq (rQ 40 (va_up f (mn M 4) (some c)))) tu (rI 6 (upd F9 s (nI (T s) + 1)))) aq ((nI (mn M 4) + 1) - 1) _
  rw [← hHf]
  have k0 : ∀ a e, h a = some e → a ≠ aq → a ≠ tu → Hf a = some e := fun a e z1 z2 z3 => by rw [hHf, xup_o z3, xup_o z2]; exact e6 _ _ z1
  have kq : Hf aq = some (rQ 40 (va_up f (mn M 4) (some c))) := by rw [hHf, xup_o (fun w => htq w.symm), xup_s]
  have kt : Hf tu = some (rI 6 (upd F9 s (nI (T s) + 1))) := by rw [hHf, xup_s]
  have kc : Hf c = some (rI 6 G) := by rw [hHf, xup_o hqt, xup_o hqq]; exact q6
  clear hHf hT9
  refine wA2_i (mn M 4) kq (by omega) (by rw [nI_1]; exact nI_pred _) (by decide) ?_
  rw [show va_up f (mn M 4) (some c) (mn M 4) = some c from if_pos rfl]
  refine wDer_i (wAI_i 5 kc (by decide) rfl (by decide) (wAI_i s kt (by omega) rfl (by decide) ⟨by decide, ?_⟩))
  rw [hGv 5 (by decide), show upd F9 s (nI (T s) + 1) s = nI (T s) + 1 from if_pos rfl, nI_1]
  have hTs := hT s hs
  have ho : mt (bookM M s w t z) (7 + 5) (mn M 4) = w.1 := bk_O
  rw [ho, nI_half (T s + 1) (by omega)]
  have hw1 : w.1 = 1 - (T s + 1) % 2 ∧ (w.1 = 0 ∨ w.1 = 1) := by
    obtain ⟨o, bb⟩ := w
    rcases way_01 hw with e | e
    · subst e
      obtain ⟨g1, _⟩ := way_sea hw
      have : ¬ T s % 2 = 1 := fun w9 => by rw [hyo.mpr w9] at g1; cases g1
      exact ⟨by show 0 = _; omega, Or.inl rfl⟩
    · subst e
      obtain ⟨g1, _⟩ := way_out hw
      have := hyo.mp g1
      exact ⟨by show 1 = _; omega, Or.inr rfl⟩
  refine wIf_t (by rw [show (1 : Int32) - nI ((T s + 1) % 2) = nI (1 - (T s + 1) % 2) from pk_sub (a := 1) (by omega), hw1.1]) ?_
  refine hr Hf (fun k => if k = mn M 4 then c else q k) (fun i => if i = s then T s + 1 else T i) ⟨g', isB_kept (n := 1) (by decide) (fun a e z1 z2 => k0 a e z1 (fun w => by rw [w, hQ1] at z1; cases z1; exact z2 rfl) (fun w => by rw [w, hF9] at z1; cases z1; exact z2 rfl)) hB⟩ ?_ hI' hX'
  have ot : ∀ c i, c < 7 → mt (bookM M s w t z) c i = mt M c i := fun c i h7 => bk_o (Or.inl h7)
  have op : ∀ c i, i < mn M 4 → mt (bookM M s w t z) c i = mt M c i := fun c i h7 => bk_o (Or.inr (by omega))
  have om : ∀ k, k ≠ 4 → mn (bookM M s w t z) k = mn M k := fun k hk => bk_m hk
  have m4 : mn (bookM M s w t z) 4 = mn M 4 + 1 := rfl
  have pr : ∀ j, j < 5 → ∀ N n u v, isPr h (A j) N n u v → isPr Hf (A j) N n u v := fun j hj N n u v hp => isPr_k hp (fun F z1 => k0 _ _ z1 (fun w => by rw [w, hQ1] at z1; cases z1) (hA9 j hj))
  refine ⟨k0 _ _ hS (fun w => by rw [w, hQ1] at hS; cases hS) (fun w => by rw [w, hF9] at hS; cases hS), ⟨?_, ?_, ?_, ?_, ?_, ?_⟩, ⟨upd F9 s (nI (T s) + 1), kt, fun i hi => ?_⟩, ?_, hA9, fun k hk => ?_⟩
  · obtain ⟨Fn, n1, n2⟩ := hN
    refine ⟨Fn, k0 _ _ n1 (fun w => by rw [w, hQ1] at n1; cases n1) (hA9 0 (by decide)), fun k hk => ?_⟩
    rw [n2 k hk]
    unfold nF
    by_cases c4 : k = 4
    · rw [if_pos c4, if_pos c4, om 7 (by decide)]
    · rw [if_neg c4, if_neg c4, om k c4]
  · have := pr 1 (by decide) _ _ _ _ hP0
    rw [om 0 (by decide)]
    rw [show (fun i => nI (mt (bookM M s w t z) 0 i)) = (fun i => nI (mt M 0 i)) from funext (fun i => by rw [ot 0 i (by decide)])]
    exact this
  · have := pr 2 (by decide) _ _ _ _ hP1
    rw [om 1 (by decide)]
    rw [show (fun i => nI (mt (bookM M s w t z) 1 i)) = (fun i => nI (mt M 1 i)) from funext (fun i => by rw [ot 1 i (by decide)]), show (fun i => nI (mt (bookM M s w t z) 2 i)) = (fun i => nI (mt M 2 i)) from funext (fun i => by rw [ot 2 i (by decide)])]
    exact this
  · have := pr 3 (by decide) _ _ _ _ hP2
    rw [om 2 (by decide)]
    rw [show (fun i => nI (mt (bookM M s w t z) 3 i)) = (fun i => nI (mt M 3 i)) from funext (fun i => by rw [ot 3 i (by decide)]), show (fun i => nI (mt (bookM M s w t z) 4 i)) = (fun i => nI (mt M 4 i)) from funext (fun i => by rw [ot 4 i (by decide)])]
    exact this
  · have := pr 4 (by decide) _ _ _ _ hP3
    rw [om 3 (by decide)]
    rw [show (fun i => nI (mt (bookM M s w t z) 5 i)) = (fun i => nI (mt M 5 i)) from funext (fun i => by rw [ot 5 i (by decide)]), show (fun i => nI (mt (bookM M s w t z) 6 i)) = (fun i => nI (mt M 6 i)) from funext (fun i => by rw [ot 6 i (by decide)])]
    exact this
  · refine ⟨by rw [m4]; omega, _, kq, fun k hk => ?_⟩
    rw [m4] at hk
    dsimp only
    by_cases e : k = mn M 4
    · subst e
      exact ⟨by rw [if_pos rfl]; exact if_pos rfl, G, by rw [if_pos rfl]; exact kc, hGv⟩
    · obtain ⟨g1, G2, g2, g3⟩ := hQ2 k (by omega)
      refine ⟨by rw [if_neg e]; exact (if_neg e).trans g1, G2, ?_, fun j hj => ?_⟩
      · rw [if_neg e]
        exact k0 _ _ g2 (fun w => by rw [w, hQ1] at g2; cases g2) (hq9 k (by omega))
      · rw [g3 j hj, op (7 + j) k (by omega)]
  · rw [om 2 (by decide)] at hi
    have hTi := hT i hi
    have hls : lastS (bookM M s w t z) i (mn M 4 + 1) = if s = i then some (mn M 4) else lastS M i (mn M 4) := by
      rw [lastS_succ, bk_S, bk_lS _ (Nat.le_refl _)]
    show upd F9 s (nI (T s) + 1) i = nI (if i = s then T s + 1 else T i) ∧ (if i = s then T s + 1 else T i) ≤ mn M 4 + 1 ∧ ((if i = s then T s + 1 else T i) % 2 = 1 ↔ ∃ k, lastS (bookM M s w t z) i (mn M 4 + 1) = some k ∧ pO (bookM M s w t z) k = 0)
    rw [hls]
    by_cases e : i = s
    · subst e
      rw [if_pos rfl, if_pos rfl]
      refine ⟨(if_pos rfl).trans (nI_1 _), by omega, ?_⟩
      refine ⟨fun z9 => ⟨mn M 4, rfl, by rw [show pO (bookM M i w t z) (mn M 4) = w.1 from bk_O]; omega⟩, fun ⟨k, k1, k2⟩ => ?_⟩
      cases k1
      rw [show pO (bookM M i w t z) (mn M 4) = w.1 from bk_O] at k2
      omega
    · rw [if_neg e, if_neg (fun w9 => e w9.symm)]
      refine ⟨(if_neg e).trans hTi.1, by omega, hTi.2.2.trans ?_⟩
      refine ⟨fun ⟨k, k1, k2⟩ => ⟨k, k1, (op 12 k (lastS_spec.1 k k1).1).trans k2⟩, fun ⟨k, k1, k2⟩ => ⟨k, k1, (op 12 k (lastS_spec.1 k k1).1).symm.trans k2⟩⟩
  · rw [om 1 (by decide), om 2 (by decide)]; exact hb
  · rw [m4] at hk
    dsimp only
    by_cases e : k = mn M 4
    · rw [if_pos e]; exact hqt
    · rw [if_neg e]; exact hq9 k (by omega)
end
