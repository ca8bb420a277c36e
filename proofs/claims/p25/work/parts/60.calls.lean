/-! PURE ROWS: the class's calls, as this law makes them: what is asked for is in its range -/
section
variable {dc : Nat × Nat} {h h0 : XH} {x : Nat} {g : Nat → Nat → Nat} {M : MS}
theorem kM_e {h h' : XH} (q : ext h h') : kM h h' := fun a e z _ => q a e z
theorem sb_count0 {Po : Int32 → Prop} {PX : String → Prop} (hB : isB dc h x g M) (k : Nat) (hk : k < 5) {y : Int32} (hy : y = nI k) (hh : Po (nI (mn M k))) : w_X6_count dc h x y Po PX :=
  sb_counted hB k hk hh hy
theorem sb_passage0 {Po : Int32 → Prop} {PX : String → Prop} (hB : isB dc h x g M) (hI : Inv M) (i : Nat) (hi : i < mn M 4) (k : Nat) (hk : k < 6) {y z : Int32} (hy : y = nI i) (hz : z = nI k) (hh : Po (nI (mt M (7 + k) i))) : w_X6_passage dc h x y z Po PX := by
  have hc := hI.c
  subst hy
  refine sb_size hB 4 (by decide) (by decide) (sb_checkNumber rfl (by omega) (fun c => ?_) (fun c => absurd ⟨i, hi, rfl⟩ c))
  exact sb_el hB hI 4 (by decide) (by decide) i hi rfl (wO_i (hB.pas hi) (sb_told hB hI i hi k hk hz hh))
theorem sb_occupant0 {Po : Int32 → Prop} (hB : isB dc h x g M) (hI : Inv M) (b : Nat) (hb : b < mn M 1) (t : Nat) (ht2 : t < 2880) {y z : Int32} (hy : y = nI b) (hz : z = nI t) (hh : Po (occR M (fst (occP M b t) 0 (mn M 4)))) : w_p_X6_occupant dc h x y z Po := by
  have hc := hI.c
  subst hy hz
  refine sb_size hB 1 (by decide) (by decide) ?_
  refine wIf_f (nI_pos (by omega)) (wIf_t ((n_lt (by omega) (by omega)).mpr hb) ?_)
  show w_p_X6_checkTime dc h (nI t) _
  refine wIf_f (fun q => nI_pos (by omega) q) (wIf_t ((n_le (b := 2879) (by omega) (by decide)).mpr (by omega)) ?_)
  refine xloop_up (fun i => nI i) (fun i => ∀ p, 0 ≤ p → p < i → ¬ occP M b t p) (mn M 4) 0 (Nat.zero_le _) (fun p _ hp => absurd hp (Nat.not_lt_zero p)) (fun rec i _ hi hP hr => ?_) (fun rec hP => ?_)
  · have hp := hI.pas hi
    have hbu := bU_le hI hi
    have go : ¬ occP M b t i → rec (nI i + 1) := fun g9 => by
      have := hr (fun p hp0 hp => by
        by_cases e : p = i
        · subst e; exact g9
        · exact hP p hp0 (by omega))
      rw [nI_succ] at this; exact this
    refine sb_size hB 4 (by decide) (by decide) (wIf_f (nI_ge hi (by omega)) (sb_el hB hI 4 (by decide) (by decide) i hi rfl (wO_i (hB.pas hi) ?_)))
    refine wR_i (hB.pas hi) rfl (wR_i (hB.way hi) rfl (wI_i (hB.berth hp.2.2.2.1) rfl (wIf_d (pA M i = b) (nI_eq (a := pA M i) (b := b) (by omega) (by omega)) (fun e => ?_) (fun e => go (fun q => e q.2.1)))))
    refine wI_i (hB.pas hi) rfl (wIf_d (t < pB M i) (n_lt (by omega) (by omega)) (fun k => wZ_0 (wIf_t rfl (go (fun q => absurd q.2.2.1 (by omega))))) (fun k => ?_))
    refine wI_i (hB.pas hi) rfl (wIf_d (bU M i ≤ t) (n_le (by omega) (by omega)) (fun k2 => wZ_0 (wIf_t rfl (go (fun q => ?_)))) (fun k2 => wZ_1 (wIf_f (by decide) ?_)))
    · have := q.2.2.2
      have e2 : bU M i = buN M i (mn M 4) := by unfold bU; rw [if_neg (by have := q.1; omega)]
      omega
    · have o0 : pO M i = 0 := by
        by_cases q : pO M i = 1
        · have e2 : bU M i = pB M i := by unfold bU; rw [if_pos q]
          omega
        · omega
      have e2 : bU M i = buN M i (mn M 4) := by unfold bU; rw [if_neg (by omega)]
      rw [fst_some (Nat.zero_le i) hi (show occP M b t i from ⟨o0, e, by omega, by omega⟩) hP] at hh
      exact wR_i (hB.pas hi) rfl (wR_i (hB.way hi) rfl (wI_i (hB.ship hp.1) rfl hh))
  · refine sb_size hB 4 (by decide) (by decide) (wIf_t (nI_le (Nat.le_refl _) (by omega)) ?_)
    rw [fst_none hP] at hh
    exact hh
/-- what is given to a call of earliest or book -/
theorem sb_asked (hI : Inv M) {s t : Nat} (hs : s < mn M 2) (ht2 : t < 2880) {y : Option Nat} (hy : ∀ c, y = some c → c < mn M 1) {x1 x2 x3 : Int32} (h1 : x1 = nI s) (h2 : x2 = oN y) (h3 : x3 = nI t) : (isIx x1 (mn M 2) ∧ (x2 = -1 ∨ isIx x2 (mn M 1))) ∧ isIx x3 2880 := by
  refine ⟨⟨⟨s, hs, h1⟩, ?_⟩, ⟨t, ht2, h3⟩⟩
  cases y with
  | none => exact Or.inl h2
  | some b => exact Or.inr ⟨b, hy b rfl, h2⟩
theorem sb_earliest0 {Po : Int32 → XH → Prop} {PX : String → XH → Prop} (hB : isB dc h x g M) (hI : Inv M) {s t : Nat} (hs : s < mn M 2) (ht2 : t < 2880) {y : Option Nat} (hy : ∀ c, y = some c → c < mn M 1) {x1 x2 x3 : Int32} (h1 : x1 = nI s) (h2 : x2 = oN y) (h3 : x3 = nI t) (hh : ∀ h', isB dc h' x g M → ext h h' → Po (oN (fst (beg M s y) t 2820)) h') : w_X6_earliest dc h x x1 x2 x3 Po PX := by
  have hc := hI.c
  have ha := sb_asked hI hs ht2 hy h1 h2 h3
  refine wO_i hB.1 (sb_checkCall hB hI x1 x2 x3 (fun c d => ?_) (fun c => absurd ha.1 c) (fun c d => absurd ha.2 d))
  refine sb_routeOf hB hI s hs y hy h1 h2 (fun hw => ?_) (fun oo b hw q h' hq hW he => ?_)
  · have e : fst (beg M s y) t 2820 = none := fst_none (fun t' _ _ ⟨w, w1, _⟩ => by rw [hw] at w1; cases w1)
    have := hh h hB (fun _ _ q => q)
    rw [e] at this
    exact wOpt_n this
  · have hb := way_b hI hy hw
    have hB2 : isB dc h' x g M := isB_kept (n := 1) (by decide) (ext_k he) hB
    have := hh h' hB2 he
    rw [fB_eq hI hw] at this
    exact wOpt_s (wO_i hB2.1 (sb_firstBegin hB2 hI s b oo q hW hs hb.1 hb.2 t ht2 h3 this))
theorem sb_book0 {Po : Int32 → XH → Prop} {PX : String → XH → Prop} (hB : isB dc h x g M) (hI : Inv M) {s t0 : Nat} (hs : s < mn M 2) (ht0 : t0 < 2880) (hn : mn M 4 < 40) {y : Option Nat} (hy : ∀ c, y = some c → c < mn M 1) {x1 x2 x3 : Int32} (h1 : x1 = nI s) (h2 : x2 = oN y) (h3 : x3 = nI t0)
    (hx : fst (beg M s y) t0 2820 = none → ∀ h', isB dc h' x g M → ext h h' → PX "java/lang/IllegalStateException" h')
    (hh : ∀ t w, fst (beg M s y) t0 2820 = some t → way M s y = some w → ∀ h' g', isB dc h' x g' (bookM M s w t t0) → kM h h' → Po (nI (mn M 4)) h') : w_X6_book dc h x x1 x2 x3 Po PX := by
  have hc := hI.c
  have ha := sb_asked hI hs ht0 hy h1 h2 h3
  have hsh := hI.ship hs
  refine wO_i hB.1 (sb_checkCall hB hI x1 x2 x3 (fun c d => ?_) (fun c => absurd ha.1 c) (fun c d => absurd ha.2 d))
  refine sb_size hB 4 (by decide) (by decide) (sb_checkRoom (m := 40) rfl rfl (by omega) (by decide) (fun e => ?_) (fun e => absurd hn e))
  refine sb_routeOf hB hI s hs y hy h1 h2 (fun hw => ?_) (fun oo b hw q h1' hq hW he => ?_)
  · have e : fst (beg M s y) t0 2820 = none := fst_none (fun t' _ _ ⟨w, w1, _⟩ => by rw [hw] at w1; cases w1)
    exact wOpt_n (hx e h hB (fun _ _ q => q))
  · have hb := way_b hI hy hw
    have hB1 : isB dc h1' x g M := isB_kept (n := 1) (by decide) (ext_k he) hB
    have kM1 : kM h h1' := kM_e he
    rw [fB_eq hI hw] at hx
    have hh := fun t => hh t (oo, b)
    rw [fB_eq hI hw, hw] at hh
    refine wOpt_s (wO_i hB1.1 (sb_firstBegin hB1 hI s b oo q hW hs hb.1 hb.2 t0 ht0 h3 ?_))
    cases hf : fB M s b oo t0 with
    | none => exact wIf_t rfl (wOpt_n (hx hf h1' hB1 he))
    | some t =>
      have hh := hh t hf rfl
      have hfe := hf
      unfold fB at hfe
      by_cases cl : mt M 3 s ≤ mt M 1 b
      · rw [if_pos cl] at hfe
        obtain ⟨f1, f2, f3⟩ := fst_in hfe
        obtain ⟨p, hp⟩ : ∃ p, bestP M (mt M 3 s) (oo = 1) t (mn M 3) = some p := by
          cases hbp : bestP M (mt M 3 s) (oo = 1) t (mn M 3) with
          | none => exact absurd hbp f3.2.2.2.2
          | some p => exact ⟨p, rfl⟩
        have hpl := bestP_lt _ _ hp
        refine wIf_f (nI_ne_m1 (by omega)) (sb_pilotFor hB1 hI s b oo q hW hs hb.2 t (by omega) rfl ?_)
        rw [hp]
        refine wOpt_s (fun q2 hq2 => ?_)
        refine sb_pasInit hB1 hI s b oo q2 p q t0 t hW hs hpl hb.2 hq2 h3 rfl (fun h2' hP he2 => ?_)
        have hB2 : isB dc h2' x g M := isB_kept (n := 1) (by decide) (ext_k he2) hB1
        refine wO_i hB2.1 (sb_enter hB2 hI s q2 p q t0 t (oo, b) e hs hpl hb.1 hb.2 hp (fun h9 => ?_) (by omega) (he2 _ _ hW) hP (fun k i k1 k2 hi z9 => ?_) (fun k i k1 k2 hi z9 => ?_) (fun h' g' w1 w2 => ?_))
        · have h9 : oo = 1 := h9
          subst h9
          obtain ⟨_, i, i1, i2, _⟩ := way_out hw
          exact ⟨i, i1, i2⟩
        · have := hB1.O k k1 k2 hi
          rw [z9, hq2] at this; cases this
        · have := hB.O k k1 k2 hi
          rw [z9, hq] at this; cases this
        · exact hh h' g' w1 (fun a e9 q1 q2 => w2 a e9 (he2 _ _ (he _ _ q1)) (xi_M (by omega)) (fun fs z => by subst z; exact absurd (show (0 : Nat) = 1 from q2) (by decide)) (fun fs z => by subst z; exact absurd (show (0 : Nat) = 1 from q2) (by decide)) (fun fs z => by subst z; exact absurd (show (0 : Nat) = 1 from q2) (by decide)))
      · rw [if_neg cl] at hfe; cases hfe
theorem kM_x {h' : XH} (hB : isB dc h x g M) (hk : ∀ a e, h a = some e → a ≠ x → h' a = some e) : kM h h' := fun a e h1 h2 =>
  hk a e h1 (fun z => by rw [z, hB.1] at h1; cases h1; exact absurd (show (0 : Nat) = 1 from h2) (by decide))
theorem sb_setWater0 {Po : Int32 → XH → Prop} {PX : String → XH → Prop} (hB : isB dc h x g M) (hI : Inv M) (a b : Nat) (ha : 300 ≤ a ∧ a ≤ 2500) (hb : b ≤ 500) {y z : Int32} (hy : y = nI a) (hz : z = nI b) (hh : ∀ h', isB dc h' x g (sN (sN M 5 a) 6 b) → kM h h' → Po (nI (mn M 5)) h') : w_X6_setWater dc h x y z Po PX := by
  subst hy hz
  refine sb_range (a := 300) (b := 2500) (by decide) (by decide) rfl rfl (fun c => sb_range (a := 0) (b := 500) (by decide) (by decide) rfl rfl (fun d => ?_) (fun d => absurd ⟨b, Nat.zero_le _, hb, rfl⟩ d)) (fun c => absurd ⟨a, ha.1, ha.2, rfl⟩ c)
  have hk : ∀ a9 e, h a9 = some e → a9 ≠ x → xup (xup h x (.inr (7, (bfs g M).set 5 (.int (nI a))))) x (.inr (7, ((bfs g M).set 5 (.int (nI a))).set 6 (.int (nI b)))) a9 = some e := fun a9 e h1 h2 => by rw [xup_o h2, xup_o h2]; exact h1
  refine wI_i hB.1 rfl (wP_i hB.1 (by decide : 5 < 8) (wP_i xup_s (by decide : 6 < 8) (hh _ ?_ (kM_x hB hk))))
  refine isB_x hB hI (M' := sN (sN M 5 a) 6 b) xup_s hk rfl (fun i hi => ?_)
  show (if i = 6 then b else if i = 5 then a else mn M i) = mn M i
  rw [if_neg (by omega), if_neg (by omega)]
theorem sb_setTugs0 {Po : Int32 → XH → Prop} {PX : String → XH → Prop} (hB : isB dc h x g M) (hI : Inv M) (a : Nat) (ha : a ≤ 8) (hn : mn M 4 = 0) {y : Int32} (hy : y = nI a) (hh : ∀ h', isB dc h' x g (sN M 7 a) → kM h h' → Po (nI (mn M 7)) h') : w_X6_setTugs dc h x y Po PX := by
  have hc := hI.c
  subst hy
  refine sb_range (a := 0) (b := 8) (by decide) (by decide) rfl rfl (fun c => ?_) (fun c => absurd ⟨a, Nat.zero_le _, ha, rfl⟩ c)
  refine sb_lst hB 4 (by decide) (by decide) (sl_isEmpty (hB.L 4 (by decide) (by decide)) (by omega) (wIf_d _ bI_0 (fun d => absurd hn d) (fun d => ?_)))
  have hk : ∀ a9 e, h a9 = some e → a9 ≠ x → xup h x (.inr (7, (bfs g M).set 7 (.int (nI a)))) a9 = some e := fun a9 e h1 h2 => by rw [xup_o h2]; exact h1
  refine wI_i hB.1 rfl (wP_i hB.1 (by decide : 7 < 8) (hh _ ?_ (kM_x hB hk)))
  refine isB_x hB hI (M' := sN M 7 a) xup_s hk rfl (fun i hi => ?_)
  show (if i = 7 then a else mn M i) = mn M i
  rw [if_neg (by omega)]
theorem sb_addBerth0 {Po : Int32 → XH → Prop} {PX : String → XH → Prop} (hB : isB dc h x g M) (hI : Inv M) (a b : Nat) (ha : 20 ≤ a ∧ a ≤ 400) (hb : 300 ≤ b ∧ b ≤ 2500) (hn : mn M 1 < 6) {y z : Int32} (hy : y = nI a) (hz : z = nI b) (hh : ∀ h' g', isB dc h' x g' (sN (sT (sT M 1 (mn M 1) a) 2 (mn M 1) b) 1 (mn M 1 + 1)) → kM h h' → Po (nI (mn M 1)) h') : w_X6_addBerth dc h x y z Po PX := by
  have hc := hI.c
  subst hy hz
  refine sb_range (a := 20) (b := 400) (by decide) (by decide) rfl rfl (fun c => sb_range (a := 300) (b := 2500) (by decide) (by decide) rfl rfl (fun d => sb_size hB 1 (by decide) (by decide) ?_) (fun d => absurd ⟨b, hb.1, hb.2, rfl⟩ d)) (fun c => absurd ⟨a, ha.1, ha.2, rfl⟩ c)
  refine sb_checkRoom (m := 6) rfl rfl (by omega) (by decide) (fun e => ?_) (fun e => absurd hn e)
  refine wR_i hB.1 rfl (fun q hq => wP_i xup_s (by decide : 0 < 3) (wP_i xup_s (by decide : 1 < 3) (wP_i xup_s (by decide : 2 < 3) ?_)))
  have he : ext h (xup (xup (xup (xup h q (.inr (1, [.int 0, .int 0, .int 0]))) q (.inr (1, [.int (nI (mn M 1)), .int 0, .int 0]))) q (.inr (1, [.int (nI (mn M 1)), .int (nI a), .int 0]))) q (.inr (1, [.int (nI (mn M 1)), .int (nI a), .int (nI b)]))) := ext_u2 hq (ext_u2 hq (ext_u2 hq (ext_u hq)))
  have hB2 := isB_kept (n := 1) (by decide) (ext_k he) hB
  refine sl_wO (hB2.L 1 (by decide) (by decide)) ?_
  refine sb_addObj (o := 0) (M' := sN (sT (sT M 1 (mn M 1) a) 2 (mn M 1) b) 1 (mn M 1 + 1)) hB hI he 1 (by decide) (by decide) (by omega) q hq ⟨rfl, fun c i hc9 => ?_⟩ rfl (fun i hi => if_neg hi) (fun c i hc9 => ?_) (fun _ => rfl) (fun c i hc9 => ?_) ?_ ⟨1, _, _, xup_s, rfl, by decide⟩ (fun h' g' w1 w2 w3 => hh h' g' w1 w2)
  · show (if c = 2 ∧ i = mn M 1 then b else if c = 1 ∧ i = mn M 1 then a else mt M c i) = mt M c i
    rw [if_neg (by omega), if_neg (by omega)]
  · show (if c = 2 ∧ i = mn M 1 then b else if c = 1 ∧ i = mn M 1 then a else mt M c i) = mt M c i
    rw [if_neg (by omega), if_neg (by omega)]
  · show (if c = 2 ∧ i = mn M 1 then b else if c = 1 ∧ i = mn M 1 then a else mt M c i) = mt M c i
    rw [if_neg (by omega), if_neg (by omega)]
  · rw [xup_s]
    show some (Sum.inr (1, [Value.int (nI (mn M 1)), .int (nI a), .int (nI b)])) = some (Sum.inr (1, [Value.int (nI (mn M 1)), .int (nI (if 1 = 2 ∧ mn M 1 = mn M 1 then b else if 1 = 1 ∧ mn M 1 = mn M 1 then a else mt M 1 (mn M 1))), .int (nI (if 2 = 2 ∧ mn M 1 = mn M 1 then b else if 2 = 1 ∧ mn M 1 = mn M 1 then a else mt M 2 (mn M 1)))]))
    rw [if_neg (fun z => absurd z.1 (by decide)), if_pos ⟨rfl, rfl⟩, if_pos ⟨rfl, rfl⟩]
theorem sb_addShip0 {Po : Int32 → XH → Prop} {PX : String → XH → Prop} (hB : isB dc h x g M) (hI : Inv M) (a b : Nat) (ha : 20 ≤ a ∧ a ≤ 400) (hb : 100 ≤ b ∧ b ≤ 2000) (hn : mn M 2 < 16) {y z : Int32} (hy : y = nI a) (hz : z = nI b) (hh : ∀ h' g', isB dc h' x g' (sN (sT (sT M 3 (mn M 2) a) 4 (mn M 2) b) 2 (mn M 2 + 1)) → kM h h' → Po (nI (mn M 2)) h') : w_X6_addShip dc h x y z Po PX := by
  have hc := hI.c
  subst hy hz
  refine sb_range (a := 20) (b := 400) (by decide) (by decide) rfl rfl (fun c => sb_range (a := 100) (b := 2000) (by decide) (by decide) rfl rfl (fun d => sb_size hB 2 (by decide) (by decide) ?_) (fun d => absurd ⟨b, hb.1, hb.2, rfl⟩ d)) (fun c => absurd ⟨a, ha.1, ha.2, rfl⟩ c)
  refine sb_checkRoom (m := 16) rfl rfl (by omega) (by decide) (fun e => ?_) (fun e => absurd hn e)
  refine wR_i hB.1 rfl (fun q hq => wP_i xup_s (by decide : 3 < 4) (wP_i xup_s (by decide : 0 < 4) (wP_i xup_s (by decide : 1 < 4) (wP_i xup_s (by decide : 2 < 4) ?_))))
  have he : ext h (xup (xup (xup (xup (xup h q (.inr (5, [.int 0, .int 0, .int 0, .null]))) q (.inr (5, [.int 0, .int 0, .int 0, va_rf none]))) q (.inr (5, [.int (nI (mn M 2)), .int 0, .int 0, va_rf none]))) q (.inr (5, [.int (nI (mn M 2)), .int (nI a), .int 0, va_rf none]))) q (.inr (5, [.int (nI (mn M 2)), .int (nI a), .int (nI b), va_rf none]))) := ext_u2 hq (ext_u2 hq (ext_u2 hq (ext_u2 hq (ext_u hq))))
  have hB2 := isB_kept (n := 1) (by decide) (ext_k he) hB
  refine sl_wO (hB2.L 2 (by decide) (by decide)) ?_
  have sm : same M (sN (sT (sT M 3 (mn M 2) a) 4 (mn M 2) b) 2 (mn M 2 + 1)) := ⟨rfl, fun c i hc9 => by
    show (if c = 4 ∧ i = mn M 2 then b else if c = 3 ∧ i = mn M 2 then a else mt M c i) = mt M c i
    rw [if_neg (by omega), if_neg (by omega)]⟩
  refine sb_addObj (o := 0) (M' := sN (sT (sT M 3 (mn M 2) a) 4 (mn M 2) b) 2 (mn M 2 + 1)) hB hI he 2 (by decide) (by decide) (by omega) q hq sm rfl (fun i hi => if_neg hi) (fun c i hc9 => ?_) (fun _ => rfl) (fun c i hc9 => ?_) ?_ ⟨5, _, _, xup_s, rfl, by decide⟩ (fun h' g' w1 w2 w3 => hh h' g' w1 w2)
  · show (if c = 4 ∧ i = mn M 2 then b else if c = 3 ∧ i = mn M 2 then a else mt M c i) = mt M c i
    rw [if_neg (by omega), if_neg (by omega)]
  · show (if c = 4 ∧ i = mn M 2 then b else if c = 3 ∧ i = mn M 2 then a else mt M c i) = mt M c i
    rw [if_neg (by omega), if_neg (by omega)]
  · rw [xup_s]
    show some (Sum.inr (5, [Value.int (nI (mn M 2)), .int (nI a), .int (nI b), va_rf none])) = some (Sum.inr (5, [Value.int (nI (mn M 2)), .int (nI (if 3 = 4 ∧ mn M 2 = mn M 2 then b else if 3 = 3 ∧ mn M 2 = mn M 2 then a else mt M 3 (mn M 2))), .int (nI (if 4 = 4 ∧ mn M 2 = mn M 2 then b else if 4 = 3 ∧ mn M 2 = mn M 2 then a else mt M 4 (mn M 2))), va_rf ((lastS (sN (sT (sT M 3 (mn M 2) a) 4 (mn M 2) b) 2 (mn M 2 + 1)) (mn M 2) (mn M 4)).map (gN g 2 (mn M 2) q 4))]))
    rw [if_neg (fun z => absurd z.1 (by decide)), if_pos ⟨rfl, rfl⟩, if_pos ⟨rfl, rfl⟩, sm.S, lastS_none hI (Nat.le_refl _)]; rfl
theorem sb_addPilot0 {Po : Int32 → XH → Prop} {PX : String → XH → Prop} (hB : isB dc h x g M) (hI : Inv M) (a b : Nat) (ha : 20 ≤ a ∧ a ≤ 400) (hb : b ≤ 1) (hn : mn M 3 < 6) {y z : Int32} (hy : y = nI a) (hz : z = nI b) (hh : ∀ h' g', isB dc h' x g' (sN (sT (sT M 5 (mn M 3) a) 6 (mn M 3) b) 3 (mn M 3 + 1)) → kM h h' → Po (nI (mn M 3)) h') : w_X6_addPilot dc h x y z Po PX := by
  have hc := hI.c
  subst hy hz
  refine sb_range (a := 20) (b := 400) (by decide) (by decide) rfl rfl (fun c => sb_size hB 3 (by decide) (by decide) ?_) (fun c => absurd ⟨a, ha.1, ha.2, rfl⟩ c)
  refine sb_checkRoom (m := 6) rfl rfl (by omega) (by decide) (fun e => ?_) (fun e => absurd hn e)
  refine wR_i hB.1 rfl (fun q hq => wP_i xup_s (by decide : 3 < 4) (wP_i xup_s (by decide : 0 < 4) (wP_i xup_s (by decide : 1 < 4) ⟨?_, wP_i xup_s (by decide : 2 < 4) ?_⟩)))
  · rcases (show b = 0 ∨ b = 1 by omega) with z | z
    · subst z; exact ⟨rfl, rfl⟩
    · subst z; exact ⟨rfl, rfl⟩
  have he : ext h (xup (xup (xup (xup (xup h q (.inr (3, [.int 0, .int 0, .int 0, .null]))) q (.inr (3, [.int 0, .int 0, .int 0, va_rf none]))) q (.inr (3, [.int (nI (mn M 3)), .int 0, .int 0, va_rf none]))) q (.inr (3, [.int (nI (mn M 3)), .int (nI a), .int 0, va_rf none]))) q (.inr (3, [.int (nI (mn M 3)), .int (nI a), .int (nI b), va_rf none]))) := ext_u2 hq (ext_u2 hq (ext_u2 hq (ext_u2 hq (ext_u hq))))
  have hB2 := isB_kept (n := 1) (by decide) (ext_k he) hB
  refine sl_wO (hB2.L 3 (by decide) (by decide)) ?_
  have sm : same M (sN (sT (sT M 5 (mn M 3) a) 6 (mn M 3) b) 3 (mn M 3 + 1)) := ⟨rfl, fun c i hc9 => by
    show (if c = 6 ∧ i = mn M 3 then b else if c = 5 ∧ i = mn M 3 then a else mt M c i) = mt M c i
    rw [if_neg (by omega), if_neg (by omega)]⟩
  refine sb_addObj (o := 0) (M' := sN (sT (sT M 5 (mn M 3) a) 6 (mn M 3) b) 3 (mn M 3 + 1)) hB hI he 3 (by decide) (by decide) (by omega) q hq sm rfl (fun i hi => if_neg hi) (fun c i hc9 => ?_) (fun _ => rfl) (fun c i hc9 => ?_) ?_ ⟨3, _, _, xup_s, rfl, by decide⟩ (fun h' g' w1 w2 w3 => hh h' g' w1 w2)
  · show (if c = 6 ∧ i = mn M 3 then b else if c = 5 ∧ i = mn M 3 then a else mt M c i) = mt M c i
    rw [if_neg (by omega), if_neg (by omega)]
  · show (if c = 6 ∧ i = mn M 3 then b else if c = 5 ∧ i = mn M 3 then a else mt M c i) = mt M c i
    rw [if_neg (by omega), if_neg (by omega)]
  · rw [xup_s]
    show some (Sum.inr (3, [Value.int (nI (mn M 3)), .int (nI a), .int (nI b), va_rf none])) = some (Sum.inr (3, [Value.int (nI (mn M 3)), .int (nI (if 5 = 6 ∧ mn M 3 = mn M 3 then b else if 5 = 5 ∧ mn M 3 = mn M 3 then a else mt M 5 (mn M 3))), .int (nI (if 6 = 6 ∧ mn M 3 = mn M 3 then b else if 6 = 5 ∧ mn M 3 = mn M 3 then a else mt M 6 (mn M 3))), va_rf ((lastP (sN (sT (sT M 5 (mn M 3) a) 6 (mn M 3) b) 3 (mn M 3 + 1)) (mn M 3) (mn M 4)).map (gN g 3 (mn M 3) q 4))]))
    rw [if_neg (fun z => absurd z.1 (by decide)), if_pos ⟨rfl, rfl⟩, if_pos ⟨rfl, rfl⟩, sm.P, lastP_none hI (Nat.le_refl _)]; rfl
theorem sb_addTide0 {Po : Int32 → XH → Prop} {PX : String → XH → Prop} (hB : isB dc h x g M) (hI : Inv M) (a : Nat) (ha : a < 2880) (z : Int32) (hz : -300 ≤ z ∧ z ≤ 900) (hn : mn M 0 < 30) (hn4 : mn M 4 = 0) (hna : ∀ j, j < mn M 0 → mt M 0 j ≠ a) {y : Int32} (hy : y = nI a) (hh : ∀ h', isB dc h' x g (insT M a z) → kM h h' → Po (nI (mn M 0 + 1)) h') : w_X6_addTide dc h x y z Po PX := by
  have hc := hI.c
  subst hy
  refine sb_checkTime (fun c => sb_checkRange rfl rfl (fun d => ?_) (fun d => absurd hz d)) (fun c => absurd ⟨a, ha, rfl⟩ c)
  refine sb_lst hB 4 (by decide) (by decide) (sl_isEmpty (hB.L 4 (by decide) (by decide)) (by omega) (wIf_d _ bI_0 (fun e => absurd hn4 e) (fun e => ?_)))
  have hT := hB.T
  refine wR_i hB.1 rfl (wI_i hT.1 rfl (wIf_d (mn M 0 = 30) ((n_le (a := 30) (by decide) (by omega)).trans (by omega)) (fun e2 => absurd e2 (by omega)) (fun e2 => ?_)))
  refine wR_i hB.1 rfl (wO_i hT.1 (sb_hasPointAt hB hI a ha rfl (wIf_d _ bI_0 (fun e3 => ?_) (fun e3 => absurd (fun ⟨j, j1, j2⟩ => hna j j1 j2) e3))))
  refine wR_i hB.1 rfl (wO_i hT.1 (sb_insert hB hI a ha z (by omega) hna rfl (fun h' w1 w2 => ?_)))
  obtain ⟨t1, t2, T0, T1, t3, t4, t5⟩ := hT
  refine wR_i w1.1 rfl (wI_i w1.T.1 rfl (hh h' w1 (fun a9 e9 q1 q2 => w2 a9 e9 q1 (fun q => ?_) (fun q => ?_) (fun q => ?_))))
  · rw [q, t1] at q1; cases q1; exact absurd (show (0 : Nat) = 1 from q2) (by decide)
  · rw [q, t3] at q1; cases q1; exact absurd (show (0 : Nat) = 1 from q2) (by decide)
  · rw [q, t4] at q1; cases q1; exact absurd (show (0 : Nat) = 1 from q2) (by decide)
end
