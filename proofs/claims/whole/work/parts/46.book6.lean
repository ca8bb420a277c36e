/-! PURE ROWS: the law's calls of the class that change something, second part -/
theorem obj_ci (g : Nat → Nat → Nat) (M : MS) (k i : Nat) (h1 : 1 ≤ k) (h2 : k ≤ 5) : (obj g M k i).1 = (if k = 1 then 1 else if k = 2 then 5 else if k = 3 then 3 else if k = 4 then 2 else 4) := by
  rcases (show k = 1 ∨ k = 2 ∨ k = 3 ∨ k = 4 ∨ k = 5 by omega) with z | z | z | z | z <;> subst z <;> rfl
section
variable {dc : Nat × Nat} {h h0 : XH} {x o : Nat} {g : Nat → Nat → Nat} {M : MS} {Po : Int32 → XH → Prop}
/-- the law's end of a call -/
theorem lb_fin {M' : MS} {r : Int32} (ho : isO h o) (hh : ∀ h' g', isB dc h' x g' M' → kM h h' → outv h' o 0 r → Po 0 h') {h1 : XH} {g1 : Nat → Nat → Nat} (hB1 : isB dc h1 x g1 M') (k1 : kM h h1) (o1 : ∀ f, h o = some (.inl (4, 1, .inr (.inl f))) → h1 o = some (.inl (4, 1, .inr (.inl f)))) : wSL h1 o 0 r.toInt64 (fun h6 => Po 0 h6) :=
  lb_ok hB1 (ho.elim (fun f hf => ⟨f, o1 f hf⟩)) k1 hh
/-- the class's own fields change -/
theorem isB_x {h' : XH} {M' : MS} (hB : isB dc h x g M) (hI : Inv M) (h1 : h' x = some (.inr (7, bfs g M'))) (hk : ∀ a e, h a = some e → a ≠ x → h' a = some e) (e2 : M'.2 = M.2) (en : ∀ i, i ≤ 4 → mn M' i = mn M i) : isB dc h' x g M' := by
  have sm : same M M' := ⟨en 4 (by decide), fun c i _ => by show M'.2.1 c i = M.2.1 c i; rw [e2]⟩
  have cc : ∀ k, k ≤ 5 → cn M' k = cn M k := by
    intro k hk
    unfold cn
    by_cases c : k = 5
    · rw [if_pos c, if_pos c, en 4 (by decide)]
    · rw [if_neg c, if_neg c, en k (by omega)]
  have ne : ∀ a e, h a = some e → (∀ fs, e ≠ .inr (7, fs)) → h' a = some e := fun a e ha he => hk a e ha (fun z => by
    rw [z, hB.1] at ha; cases ha; exact he _ rfl)
  obtain ⟨t1, t2, T0, T1, t3, t4, t5⟩ := hB.T
  refine ⟨h1, ⟨by rw [en 0 (by decide)]; exact ne _ _ t1 (fun fs z => by cases z), t2, T0, T1, ne _ _ t3 (fun fs z => by cases z), ne _ _ t4 (fun fs z => by cases z), fun i hi => ?_⟩, fun k k1 k2 => ?_, fun k k1 k2 i hi => ?_, ne _ _ hB.D (fun fs z => by cases z), hB.J, fun k k1 k2 i j hi hj => ?_⟩
  · have := t5 i (by rw [← en 0 (by decide)]; exact hi)
    show T0 i = nI (M'.2.1 0 i) ∧ T1 i = M'.2.2 i
    rw [e2]; exact this
  · rw [en k k2]
    exact isL_kept (fun fs w => ne _ _ w (fun fs z => by cases z)) (fun c f _ w => ne _ _ w (fun fs z => by cases z)) (hB.L k k1 k2)
  · rw [cc k k2] at hi
    rw [obj_old hI sm (fun _ _ _ _ _ => rfl) k k1 k2 i hi (fun c _ => by show M'.2.1 c i = M.2.1 c i; rw [e2])]
    refine ne _ _ (hB.O k k1 k2 hi) (fun fs z => ?_)
    have := obj_ci g M k i k1 k2
    have q2 : (obj g M k i).1 = 7 := congrArg Prod.fst (Sum.inr.inj z)
    rw [q2] at this
    split at this <;> (try split at this) <;> (try split at this) <;> (try split at this) <;> omega
  · rw [cc k k2] at hi hj
    exact hB.I k k1 k2 i j hi hj
theorem lb_setWater (hB : isB dc h x g M) (hI : Inv M) (ho : isO h o) (y z : Int32) (hh : ∀ h' g', isB dc h' x g' (oc_setWater M y z).2.2 → kM h h' → outv h' o (oc_setWater M y z).1 (oc_setWater M y z).2.1 → Po (oc_setWater M y z).1 h') : w_L_setWater dc h x y z o Po := by
  unfold oc_setWater at hh
  refine wO_i hB.1 (sb_range (a := 300) (b := 2500) (by decide) (by decide) rfl rfl (fun c => sb_range (a := 0) (b := 500) (by decide) (by decide) rfl rfl (fun d => ?_) (fun d => ?_)) (fun c => ?_))
  · rw [cI_f (fun q => q ⟨c, d⟩)] at hh
    obtain ⟨a, _, _, rfl⟩ := c
    obtain ⟨b, _, _, rfl⟩ := d
    rw [nt_nI (by omega), nt_nI (by omega)] at hh
    refine wI_i hB.1 rfl (wP_i hB.1 (by decide : 5 < 8) (wP_i xup_s (by decide : 6 < 8) ?_))
    refine lb_fin ho hh (isB_x hB hI (M' := sN (sN M 5 a) 6 b) xup_s (fun a e ha hne => by rw [xup_o hne, xup_o hne]; exact ha) rfl (fun i hi => ?_)) (fun a e h1 h2 => ?_) (fun f hf => ?_)
    · show (if i = 6 then b else if i = 5 then a else mn M i) = mn M i
      rw [if_neg (by omega), if_neg (by omega)]
    · have : a ≠ x := fun z => by rw [z, hB.1] at h1; cases h1; exact absurd (show (0 : Nat) = 1 from h2) (by decide)
      rw [xup_o this, xup_o this]; exact h1
    · have : o ≠ x := fun z => by rw [z, hB.1] at hf; cases hf
      rw [xup_o this, xup_o this]; exact hf
  · rw [cI_t (fun q => d q.2)] at hh; exact ⟨rfl, lb_er hB ho kM_r (by decide) hh⟩
  · rw [cI_t (fun q => c q.1)] at hh; exact ⟨rfl, lb_er hB ho kM_r (by decide) hh⟩
theorem lb_setTugs (hB : isB dc h x g M) (hI : Inv M) (ho : isO h o) (y : Int32) (hh : ∀ h' g', isB dc h' x g' (oc_setTugs M y).2.2 → kM h h' → outv h' o (oc_setTugs M y).1 (oc_setTugs M y).2.1 → Po (oc_setTugs M y).1 h') : w_L_setTugs dc h x y o Po := by
  have hc := hI.c
  unfold oc_setTugs at hh
  refine wO_i hB.1 (sb_range (a := 0) (b := 8) (by decide) (by decide) rfl rfl (fun c => ?_) (fun c => ?_))
  · rw [cI_f (fun q => q c)] at hh
    obtain ⟨a, _, _, rfl⟩ := c
    rw [nt_nI (by omega)] at hh
    refine sb_lst hB 4 (by decide) (by decide) (sl_isEmpty (hB.L 4 (by decide) (by decide)) (by omega) (wIf_d _ bI_0 (fun d => ?_) (fun d => ?_)))
    · rw [cI_t (by omega)] at hh; exact Or.inr ⟨rfl, lb_er hB ho kM_r (by decide) hh⟩
    · rw [cI_f (by have := Classical.byContradiction d; omega)] at hh
      refine wI_i hB.1 rfl (wP_i hB.1 (by decide : 7 < 8) ?_)
      refine lb_fin ho hh (isB_x hB hI (M' := sN M 7 a) xup_s (fun a e ha hne => by rw [xup_o hne]; exact ha) rfl (fun i hi => ?_)) (fun a e h1 h2 => ?_) (fun f hf => ?_)
      · show (if i = 7 then a else mn M i) = mn M i
        rw [if_neg (by omega)]
      · have : a ≠ x := fun z => by rw [z, hB.1] at h1; cases h1; exact absurd (show (0 : Nat) = 1 from h2) (by decide)
        rw [xup_o this]; exact h1
      · have : o ≠ x := fun z => by rw [z, hB.1] at hf; cases hf
        rw [xup_o this]; exact hf
  · rw [cI_t c] at hh; exact Or.inl ⟨rfl, lb_er hB ho kM_r (by decide) hh⟩
theorem lb_load (hB : isB dc h x g M) (hI : Inv M) (ho : isO h o) (y z : Int32) (hh : ∀ h' g', isB dc h' x g' (oc_load M y z).2.2 → kM h h' → outv h' o (oc_load M y z).1 (oc_load M y z).2.1 → Po (oc_load M y z).1 h') : w_L_load dc h x y z o Po := by
  have hc := hI.c
  unfold oc_load at hh
  refine wO_i hB.1 (sb_size hB 2 (by decide) (by decide) (sb_checkNumber rfl (by omega) (fun c => sb_range (a := 100) (b := 2000) (by decide) (by decide) rfl rfl (fun d => ?_) (fun d => ?_)) (fun c => ?_)))
  · rw [cI_f (fun q => q c), cI_f (fun q => q d)] at hh
    obtain ⟨s, hs, rfl⟩ := c
    obtain ⟨b, _, _, rfl⟩ := d
    rw [nt_nI (by omega), nt_nI (by omega)] at hh
    have hsh := hB.ship hs
    refine sb_el hB hI 2 (by decide) (by decide) s hs rfl (wO_i hsh (wI_i hsh rfl (wP_i hsh (by decide : 2 < 4) ?_)))
    have nx : ∀ a e, h a = some e → (∀ fs, e ≠ .inr (5, fs)) → a ≠ g 2 s := fun a e ha he z => by
      rw [z, hsh] at ha; cases ha; exact he _ rfl
    refine lb_fin ho hh (g1 := g) (M' := sT M 4 s b) ?_ (fun a e h1 h2 => ?_) (fun f hf => ?_)
    · have sm : same M (sT M 4 s b) := ⟨rfl, fun c i hc9 => if_neg (by omega)⟩
      obtain ⟨t1, t2, T0, T1, t3, t4, t5⟩ := hB.T
      refine ⟨by rw [xup_o (nx _ _ hB.1 (fun fs z => by cases z))]; exact hB.1, ⟨by rw [xup_o (nx _ _ t1 (fun fs z => by cases z))]; exact t1, t2, T0, T1, by rw [xup_o (nx _ _ t3 (fun fs z => by cases z))]; exact t3, by rw [xup_o (nx _ _ t4 (fun fs z => by cases z))]; exact t4, t5⟩, fun k k1 k2 => ?_, fun k k1 k2 i hi => ?_, by rw [xup_o (nx _ _ hB.D (fun fs z => by cases z))]; exact hB.D, hB.J, hB.I⟩
      · exact isL_kept (fun fs w => by rw [xup_o (nx _ _ w (fun fs z => by cases z))]; exact w) (fun c f _ w => by rw [xup_o (nx _ _ w (fun fs z => by cases z))]; exact w) (hB.L k k1 k2)
      · have hi : i < cn M k := hi
        by_cases c : k = 2 ∧ i = s
        · obtain ⟨c1, c2⟩ := c
          subst c1 c2
          rw [xup_s]
          show some (Sum.inr (5, [Value.int (nI i), .int (nI (mt M 3 i)), .int (nI b), va_rf ((lastS M i (mn M 4)).map (g 4))])) = some (Sum.inr (5, [Value.int (nI i), .int (nI (mt M 3 i)), .int (nI (if 4 = 4 ∧ i = i then b else mt M 4 i)), va_rf ((lastS (sT M 4 i b) i (mn M 4)).map (g 4))]))
          rw [if_pos ⟨rfl, rfl⟩, sm.S]
        · rw [obj_old hI sm (fun _ _ _ _ _ => rfl) k k1 k2 i hi (fun c9 hc9 => if_neg (fun z => c ⟨by omega, z.2⟩))]
          have hO := hB.O k k1 k2 hi
          rw [xup_o]; · exact hO
          intro z
          by_cases k5 : k = 2
          · subst k5
            exact c ⟨rfl, hB.I 2 (by decide) (by decide) i s hi hs z⟩
          · have := obj_ci g M k i k1 k2
            rw [z, hsh] at hO
            have q : (5 : Nat) = (obj g M k i).1 := by
              have := Option.some.inj hO
              have := Sum.inr.inj this
              rw [← this]
            rw [← q] at this
            rw [if_neg (show ¬ k = 2 from k5)] at this
            split at this <;> (try split at this) <;> (try split at this) <;> omega
    · rw [xup_o (nx _ _ h1 (fun fs z => by subst z; exact absurd (show (0 : Nat) = 1 from h2) (by decide)))]; exact h1
    · rw [xup_o (nx _ _ hf (fun fs z => by cases z))]; exact hf
  · rw [cI_f (fun q => q c), cI_t d] at hh; exact Or.inr ⟨rfl, lb_er hB ho kM_r (by decide) hh⟩
  · rw [cI_t c] at hh; exact Or.inl ⟨rfl, lb_er hB ho kM_r (by decide) hh⟩
theorem lb_addBerth (hB : isB dc h x g M) (hI : Inv M) (ho : isO h o) (y z : Int32) (hh : ∀ h' g', isB dc h' x g' (oc_addBerth M y z).2.2 → kM h h' → outv h' o (oc_addBerth M y z).1 (oc_addBerth M y z).2.1 → Po (oc_addBerth M y z).1 h') : w_L_addBerth dc h x y z o Po := by
  have hc := hI.c
  unfold oc_addBerth at hh
  refine wO_i hB.1 (sb_range (a := 20) (b := 400) (by decide) (by decide) rfl rfl (fun c => sb_range (a := 300) (b := 2500) (by decide) (by decide) rfl rfl (fun d => sb_size hB 1 (by decide) (by decide) ?_) (fun d => ?_)) (fun c => ?_))
  · rw [cI_f (fun q => q ⟨c, d⟩)] at hh
    obtain ⟨a, _, _, rfl⟩ := c
    obtain ⟨b, _, _, rfl⟩ := d
    rw [nt_nI (by omega), nt_nI (by omega)] at hh
    refine sb_checkRoom (m := 6) rfl rfl (by omega) (by decide) (fun e => ?_) (fun e => ?_)
    · rw [cI_f (by omega)] at hh
      refine wR_i hB.1 rfl (fun q hq => wP_i xup_s (by decide : 0 < 3) (wP_i xup_s (by decide : 1 < 3) (wP_i xup_s (by decide : 2 < 3) ?_)))
      have he : ext h (xup (xup (xup (xup h q (.inr (1, [.int 0, .int 0, .int 0]))) q (.inr (1, [.int (nI (mn M 1)), .int 0, .int 0]))) q (.inr (1, [.int (nI (mn M 1)), .int (nI a), .int 0]))) q (.inr (1, [.int (nI (mn M 1)), .int (nI a), .int (nI b)]))) := ext_u2 hq (ext_u2 hq (ext_u2 hq (ext_u hq)))
      have hB2 := isB_kept (n := 1) (by decide) (ext_k he) hB
      refine sl_wO (hB2.L 1 (by decide) (by decide)) ?_
      refine sb_addObj (o := o) (M' := sN (sT (sT M 1 (mn M 1) a) 2 (mn M 1) b) 1 (mn M 1 + 1)) hB hI he 1 (by decide) (by decide) (by omega) q hq ⟨rfl, fun c i hc9 => ?_⟩ rfl (fun i hi => if_neg hi) (fun c i hc9 => ?_) (fun _ => rfl) (fun c i hc9 => ?_) ?_ ⟨1, _, _, xup_s, rfl, by decide⟩ (fun h' g' w1 w2 w3 => lb_fin ho hh w1 w2 w3)
      · show (if c = 2 ∧ i = mn M 1 then b else if c = 1 ∧ i = mn M 1 then a else mt M c i) = mt M c i
        rw [if_neg (by omega), if_neg (by omega)]
      · show (if c = 2 ∧ i = mn M 1 then b else if c = 1 ∧ i = mn M 1 then a else mt M c i) = mt M c i
        rw [if_neg (by omega), if_neg (by omega)]
      · show (if c = 2 ∧ i = mn M 1 then b else if c = 1 ∧ i = mn M 1 then a else mt M c i) = mt M c i
        rw [if_neg (by omega), if_neg (by omega)]
      · rw [xup_s]
        show some (Sum.inr (1, [Value.int (nI (mn M 1)), .int (nI a), .int (nI b)])) = some (Sum.inr (1, [Value.int (nI (mn M 1)), .int (nI (if 1 = 2 ∧ mn M 1 = mn M 1 then b else if 1 = 1 ∧ mn M 1 = mn M 1 then a else mt M 1 (mn M 1))), .int (nI (if 2 = 2 ∧ mn M 1 = mn M 1 then b else if 2 = 1 ∧ mn M 1 = mn M 1 then a else mt M 2 (mn M 1)))]))
        rw [if_neg (fun z => absurd z.1 (by decide)), if_pos ⟨rfl, rfl⟩, if_pos ⟨rfl, rfl⟩]
    · rw [cI_t (by omega)] at hh; exact Or.inr ⟨rfl, lb_er hB ho kM_r (by decide) hh⟩
  · rw [cI_t (fun q => d q.2)] at hh; exact Or.inl ⟨rfl, lb_er hB ho kM_r (by decide) hh⟩
  · rw [cI_t (fun q => c q.1)] at hh; exact Or.inl ⟨rfl, lb_er hB ho kM_r (by decide) hh⟩
/-- none of the passages is of the new ship, of the new pilot -/
theorem lastS_none {M : MS} (hI : Inv M) {s : Nat} (hs : mn M 2 ≤ s) : lastS M s (mn M 4) = none := by
  cases hl : lastS M s (mn M 4) with
  | none => rfl
  | some i =>
    obtain ⟨h1, h2, -⟩ := lastS_spec.1 i hl
    have := hI.pas h1
    omega
theorem lastP_none {M : MS} (hI : Inv M) {s : Nat} (hs : mn M 3 ≤ s) : lastP M s (mn M 4) = none := by
  cases hl : lastP M s (mn M 4) with
  | none => rfl
  | some i =>
    obtain ⟨h1, h2, -⟩ := lastP_spec.1 i hl
    have := hI.pas h1
    omega
theorem lb_addShip (hB : isB dc h x g M) (hI : Inv M) (ho : isO h o) (y z : Int32) (hh : ∀ h' g', isB dc h' x g' (oc_addShip M y z).2.2 → kM h h' → outv h' o (oc_addShip M y z).1 (oc_addShip M y z).2.1 → Po (oc_addShip M y z).1 h') : w_L_addShip dc h x y z o Po := by
  have hc := hI.c
  unfold oc_addShip at hh
  refine wO_i hB.1 (sb_range (a := 20) (b := 400) (by decide) (by decide) rfl rfl (fun c => sb_range (a := 100) (b := 2000) (by decide) (by decide) rfl rfl (fun d => sb_size hB 2 (by decide) (by decide) ?_) (fun d => ?_)) (fun c => ?_))
  · rw [cI_f (fun q => q ⟨c, d⟩)] at hh
    obtain ⟨a, _, _, rfl⟩ := c
    obtain ⟨b, _, _, rfl⟩ := d
    rw [nt_nI (by omega), nt_nI (by omega)] at hh
    refine sb_checkRoom (m := 16) rfl rfl (by omega) (by decide) (fun e => ?_) (fun e => ?_)
    · rw [cI_f (by omega)] at hh
      refine wR_i hB.1 rfl (fun q hq => wP_i xup_s (by decide : 3 < 4) (wP_i xup_s (by decide : 0 < 4) (wP_i xup_s (by decide : 1 < 4) (wP_i xup_s (by decide : 2 < 4) ?_))))
      have he : ext h (xup (xup (xup (xup (xup h q (.inr (5, [.int 0, .int 0, .int 0, .null]))) q (.inr (5, [.int 0, .int 0, .int 0, va_rf none]))) q (.inr (5, [.int (nI (mn M 2)), .int 0, .int 0, va_rf none]))) q (.inr (5, [.int (nI (mn M 2)), .int (nI a), .int 0, va_rf none]))) q (.inr (5, [.int (nI (mn M 2)), .int (nI a), .int (nI b), va_rf none]))) := ext_u2 hq (ext_u2 hq (ext_u2 hq (ext_u2 hq (ext_u hq))))
      have hB2 := isB_kept (n := 1) (by decide) (ext_k he) hB
      refine sl_wO (hB2.L 2 (by decide) (by decide)) ?_
      have sm : same M (sN (sT (sT M 3 (mn M 2) a) 4 (mn M 2) b) 2 (mn M 2 + 1)) := ⟨rfl, fun c i hc9 => by
        show (if c = 4 ∧ i = mn M 2 then b else if c = 3 ∧ i = mn M 2 then a else mt M c i) = mt M c i
        rw [if_neg (by omega), if_neg (by omega)]⟩
      refine sb_addObj (o := o) (M' := sN (sT (sT M 3 (mn M 2) a) 4 (mn M 2) b) 2 (mn M 2 + 1)) hB hI he 2 (by decide) (by decide) (by omega) q hq sm rfl (fun i hi => if_neg hi) (fun c i hc9 => ?_) (fun _ => rfl) (fun c i hc9 => ?_) ?_ ⟨5, _, _, xup_s, rfl, by decide⟩ (fun h' g' w1 w2 w3 => lb_fin ho hh w1 w2 w3)
      · show (if c = 4 ∧ i = mn M 2 then b else if c = 3 ∧ i = mn M 2 then a else mt M c i) = mt M c i
        rw [if_neg (by omega), if_neg (by omega)]
      · show (if c = 4 ∧ i = mn M 2 then b else if c = 3 ∧ i = mn M 2 then a else mt M c i) = mt M c i
        rw [if_neg (by omega), if_neg (by omega)]
      · rw [xup_s]
        show some (Sum.inr (5, [Value.int (nI (mn M 2)), .int (nI a), .int (nI b), va_rf none])) = some (Sum.inr (5, [Value.int (nI (mn M 2)), .int (nI (if 3 = 4 ∧ mn M 2 = mn M 2 then b else if 3 = 3 ∧ mn M 2 = mn M 2 then a else mt M 3 (mn M 2))), .int (nI (if 4 = 4 ∧ mn M 2 = mn M 2 then b else if 4 = 3 ∧ mn M 2 = mn M 2 then a else mt M 4 (mn M 2))), va_rf ((lastS (sN (sT (sT M 3 (mn M 2) a) 4 (mn M 2) b) 2 (mn M 2 + 1)) (mn M 2) (mn M 4)).map (gN g 2 (mn M 2) q 4))]))
        rw [if_neg (fun z => absurd z.1 (by decide)), if_pos ⟨rfl, rfl⟩, if_pos ⟨rfl, rfl⟩, sm.S, lastS_none hI (Nat.le_refl _)]; rfl
    · rw [cI_t (by omega)] at hh; exact Or.inr ⟨rfl, lb_er hB ho kM_r (by decide) hh⟩
  · rw [cI_t (fun q => d q.2)] at hh; exact Or.inl ⟨rfl, lb_er hB ho kM_r (by decide) hh⟩
  · rw [cI_t (fun q => c q.1)] at hh; exact Or.inl ⟨rfl, lb_er hB ho kM_r (by decide) hh⟩
theorem lb_addPilot (hB : isB dc h x g M) (hI : Inv M) (ho : isO h o) (y : Int32) (b : Nat) (hb : b ≤ 1) {z : Int32} (hz : z = nI b) (hh : ∀ h' g', isB dc h' x g' (oc_addPilot M y b).2.2 → kM h h' → outv h' o (oc_addPilot M y b).1 (oc_addPilot M y b).2.1 → Po (oc_addPilot M y b).1 h') : w_L_addPilot dc h x y z o Po := by
  have hc := hI.c
  subst hz
  unfold oc_addPilot at hh
  refine wO_i hB.1 (sb_range (a := 20) (b := 400) (by decide) (by decide) rfl rfl (fun c => sb_size hB 3 (by decide) (by decide) ?_) (fun c => ?_))
  · rw [cI_f (fun q => q c)] at hh
    obtain ⟨a, _, _, rfl⟩ := c
    rw [nt_nI (by omega)] at hh
    refine sb_checkRoom (m := 6) rfl rfl (by omega) (by decide) (fun e => ?_) (fun e => ?_)
    · rw [cI_f (by omega)] at hh
      refine wR_i hB.1 rfl (fun q hq => wP_i xup_s (by decide : 3 < 4) (wP_i xup_s (by decide : 0 < 4) (wP_i xup_s (by decide : 1 < 4) ⟨?_, wP_i xup_s (by decide : 2 < 4) ?_⟩)))
      · rcases (show b = 0 ∨ b = 1 by omega) with z | z
        · subst z; exact ⟨rfl, rfl⟩
        · subst z; exact ⟨rfl, rfl⟩
      have he : ext h (xup (xup (xup (xup (xup h q (.inr (3, [.int 0, .int 0, .int 0, .null]))) q (.inr (3, [.int 0, .int 0, .int 0, va_rf none]))) q (.inr (3, [.int (nI (mn M 3)), .int 0, .int 0, va_rf none]))) q (.inr (3, [.int (nI (mn M 3)), .int (nI a), .int 0, va_rf none]))) q (.inr (3, [.int (nI (mn M 3)), .int (nI a), .int (nI b), va_rf none]))) := ext_u2 hq (ext_u2 hq (ext_u2 hq (ext_u2 hq (ext_u hq))))
      have hB2 := isB_kept (n := 1) (by decide) (ext_k he) hB
      refine sl_wO (hB2.L 3 (by decide) (by decide)) ?_
      have sm : same M (sN (sT (sT M 5 (mn M 3) a) 6 (mn M 3) b) 3 (mn M 3 + 1)) := ⟨rfl, fun c i hc9 => by
        show (if c = 6 ∧ i = mn M 3 then b else if c = 5 ∧ i = mn M 3 then a else mt M c i) = mt M c i
        rw [if_neg (by omega), if_neg (by omega)]⟩
      refine sb_addObj (o := o) (M' := sN (sT (sT M 5 (mn M 3) a) 6 (mn M 3) b) 3 (mn M 3 + 1)) hB hI he 3 (by decide) (by decide) (by omega) q hq sm rfl (fun i hi => if_neg hi) (fun c i hc9 => ?_) (fun _ => rfl) (fun c i hc9 => ?_) ?_ ⟨3, _, _, xup_s, rfl, by decide⟩ (fun h' g' w1 w2 w3 => lb_fin ho hh w1 w2 w3)
      · show (if c = 6 ∧ i = mn M 3 then b else if c = 5 ∧ i = mn M 3 then a else mt M c i) = mt M c i
        rw [if_neg (by omega), if_neg (by omega)]
      · show (if c = 6 ∧ i = mn M 3 then b else if c = 5 ∧ i = mn M 3 then a else mt M c i) = mt M c i
        rw [if_neg (by omega), if_neg (by omega)]
      · rw [xup_s]
        show some (Sum.inr (3, [Value.int (nI (mn M 3)), .int (nI a), .int (nI b), va_rf none])) = some (Sum.inr (3, [Value.int (nI (mn M 3)), .int (nI (if 5 = 6 ∧ mn M 3 = mn M 3 then b else if 5 = 5 ∧ mn M 3 = mn M 3 then a else mt M 5 (mn M 3))), .int (nI (if 6 = 6 ∧ mn M 3 = mn M 3 then b else if 6 = 5 ∧ mn M 3 = mn M 3 then a else mt M 6 (mn M 3))), va_rf ((lastP (sN (sT (sT M 5 (mn M 3) a) 6 (mn M 3) b) 3 (mn M 3 + 1)) (mn M 3) (mn M 4)).map (gN g 3 (mn M 3) q 4))]))
        rw [if_neg (fun z => absurd z.1 (by decide)), if_pos ⟨rfl, rfl⟩, if_pos ⟨rfl, rfl⟩, sm.P, lastP_none hI (Nat.le_refl _)]; rfl
    · rw [cI_t (by omega)] at hh; exact Or.inr ⟨rfl, lb_er hB ho kM_r (by decide) hh⟩
  · rw [cI_t c] at hh; exact Or.inl ⟨rfl, lb_er hB ho kM_r (by decide) hh⟩
end
