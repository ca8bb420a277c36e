/-- the class ids and slots of all the claim's classes -/
theorem ws_K {s : State} {args : Array Value} (hts : ∀ w ∈ lw_tbl, w.before args s = true) : ∃ D : va_G, ∀ (k : Nat) (q : vw_C), vwCl[k]? = some q → u_Kn s q.1 q.2.1 q.2.2 (D.1 k) (D.2 k) := by
  obtain ⟨c0, i0, h0⟩ := u_known (C := RJx4a65c) (T := TJx4a65c) (N := 3) (n := 3) hts inJx4a65c (hts _ (wsL_law_in (.instantiable RJx4a65c 3) (by decide +kernel)))
  obtain ⟨c1, i1, h1⟩ := u_known (C := RX0) (T := TX0) (N := 3) (n := 3) hts inX0 (hts _ (wsL_law_in (.instantiable RX0 3) (by decide +kernel)))
  obtain ⟨c2, i2, h2⟩ := u_known (C := RX1) (T := TX1) (N := 7) (n := 7) hts inX1 (hts _ (wsL_law_in (.instantiable RX1 7) (by decide +kernel)))
  obtain ⟨c3, i3, h3⟩ := u_known (C := RX2) (T := TX2) (N := 4) (n := 4) hts inX2 (hts _ (wsL_law_in (.instantiable RX2 4) (by decide +kernel)))
  obtain ⟨c4, i4, h4⟩ := u_known (C := RX3) (T := TX3) (N := 4) (n := 4) hts inX3 (hts _ (wsL_law_in (.instantiable RX3 4) (by decide +kernel)))
  obtain ⟨c5, i5, h5⟩ := u_known (C := RX4) (T := TX4) (N := 4) (n := 4) hts inX4 (hts _ (wsL_law_in (.instantiable RX4 4) (by decide +kernel)))
  obtain ⟨c6, i6, h6⟩ := u_known (C := RX5) (T := TX5) (N := 3) (n := 3) hts inX5 (hts _ (wsL_law_in (.instantiable RX5 3) (by decide +kernel)))
  obtain ⟨c7, i7, h7⟩ := u_known (C := RX6) (T := TX6) (N := 8) (n := 8) hts inX6 (hts _ (wsL_law_in (.instantiable RX6 8) (by decide +kernel)))
  refine ⟨(fun k => match k with | 0 => c0 | 1 => c1 | 2 => c2 | 3 => c3 | 4 => c4 | 5 => c5 | 6 => c6 | _ => c7, fun k => match k with | 0 => i0 | 1 => i1 | 2 => i2 | 3 => i3 | 4 => i4 | 5 => i5 | 6 => i6 | _ => i7), ?_⟩
  intro k q hq
  match k, hq with
  | 0, hq => cases hq; exact h0
  | 1, hq => cases hq; exact h1
  | 2, hq => cases hq; exact h2
  | 3, hq => cases hq; exact h3
  | 4, hq => cases hq; exact h4
  | 5, hq => cases hq; exact h5
  | 6, hq => cases hq; exact h6
  | 7, hq => cases hq; exact h7
  | k + 8, hq => simp [vwCl] at hq
theorem ws_arr {s : State} {args : Array Value} {ty : FieldType} (h : (Cond.arrayClass ty).before args s = true) : ∃ cA : ClassId, ArrOfT s cA ty ∧ s.vm.findClass ("[" ++ ty.toString) = some cA := by
  obtain ⟨c, k, comp, h1, h2, h3⟩ := Cond.arrayClass_spec h
  exact ⟨c, fun n z => ⟨fun _ g => (by cases g), k, h2, comp, h3⟩, h1⟩
theorem ws_obj {s : State} (h : va_AO "java/lang/Object" s) : ∃ cA : ClassId, ArrOfT s cA (.object "java/lang/Object") ∧ va_RA s cA (.object "java/lang/Object") := by
  obtain ⟨comp, c, k, h1, h2, h3, h4, h5⟩ := Cond.arrayOver_spec h
  exact ⟨c, fun n z => ⟨fun _ g => (by cases g), k, h3, comp, h4⟩, k, comp, h3, h4, h1, h5⟩
set_option maxHeartbeats 4000000 in
set_option maxRecDepth 100000 in
theorem whole_start {p : Program} {e : Env} {s : State} {m : MethodId} {below : List Frame} {meth : Method} {c : Code} (l : Launch) (hflags : l.flags = flags0) {b L : Nat} {xs : Nat → Int32} (hL : L ≤ 260) (C0 : lw_At p s m meth c b L xs) : W p l e room_1 s m #[Value.ref b] below meth c s.heap [] 0 0 (lw_Z below #[Value.ref b] s) (entryFrame m ([Value.ref b] : List Value).toArray 18) := by
  obtain ⟨hx, hb, hr, hml, hown, hts, hX, hbl, hlk, hgv⟩ := id C0
  have hs := flat_of_before _ hgv
  have hfl : l.stackTraces = false := by unfold Launch.stackTraces; rw [hflags]; decide
  have hA : ∀ a : Nat, a < s.heap.size → ¬ s.heap.size ≤ a := fun a h => Nat.not_le.mpr h
  obtain ⟨D, hKc⟩ := ws_K hts
  obtain ⟨cI, hI1, hI2⟩ := ws_arr (hts (.arrayClass .int) (wsL_law_in _ (by decide +kernel)))
  have hAA : va_AA .int s := hts (.arrayOver (.array .int)) (by decide +kernel)
  obtain ⟨comp2, c2, k2, hA1, -, hA3, hA4, hA5⟩ := arrayOverA_spec hAA
  have hJ1 : ArrOfT s c2 (.array .int) := fun n z => ⟨fun _ g => (by cases g), k2, hA3, comp2, hA4⟩
  have hAO : va_AO "java/lang/Object" s := hts (.arrayOver (.object "java/lang/Object")) (by decide +kernel)
  obtain ⟨cO, hO1, hO2⟩ := ws_obj hAO
  have hlay : (Cond.laysStatic RJx4a65c "DEFAULTCAPACITY_EMPTY_ELEMENTDATA" "[Ljava/lang/Object;").before #[Value.ref b] s = true := hts _ (by decide +kernel)
  have hini : (Cond.initialized RJx4a65c).before #[Value.ref b] s = true := hts _ (by decide +kernel)
  have hexa : (Cond.exactly (.static "java/util/ArrayList" "DEFAULTCAPACITY_EMPTY_ELEMENTDATA" "[Ljava/lang/Object;") "[Ljava/lang/Object;").before #[Value.ref b] s = true := hs _ (by decide +kernel)
  have harr : (Cond.arrayOf (.static "java/util/ArrayList" "DEFAULTCAPACITY_EMPTY_ELEMENTDATA" "[Ljava/lang/Object;") (.object "java/lang/Object")).before #[Value.ref b] s = true := hs _ (by decide +kernel)
  have hlen : (Cond.eq (.length (.static "java/util/ArrayList" "DEFAULTCAPACITY_EMPTY_ELEMENTDATA" "[Ljava/lang/Object;")) (.int 0)).before #[Value.ref b] s = true := hs _ (by decide +kernel)
  have hmi : (Cond.isRef (.mirror "[Ljava/lang/Object;")).before #[Value.ref b] s = true := hs _ (by decide +kernel)
  obtain ⟨mi, hmi⟩ := va_Mi.of hmi
  obtain ⟨v9, hv1, hv2⟩ := Cond.eq_one hlen
  have hlen2 : (Term.length (.static "java/util/ArrayList" "DEFAULTCAPACITY_EMPTY_ELEMENTDATA" "[Ljava/lang/Object;")).eval #[Value.ref b] s none [] s = some (.int (Int32.ofNat 0)) := by
    rw [hv1, ← hv2]; rfl
  obtain ⟨t, ht1, ht2⟩ := va_Tof (A := fun q => s.heap.size ≤ q) (N := 0) (f := fun _ => .null) (by decide) harr hlen2 (fun j hj => absurd hj (Nat.not_lt_zero j)) hA
  obtain ⟨X, hXe⟩ : ∃ X : XC, X = (D, (fun k => match k with | 0 => cI | 1 => cO | 2 => cI | 3 => cI | _ => c2), s.heap, (t, mi), b, L, xs) := ⟨_, rfl⟩
  have hG : xG X = s.heap := by rw [hXe]
  have hxA : xA X = fun q => s.heap.size ≤ q := by rw [hXe]
  have hdcv : xdc X = (t, mi) := by rw [hXe]
  have hscv : xsc X = (b, L, xs) := by rw [hXe]
  have hK : va_K X.1 vwCl (xT X) s := by
    rw [hXe]
    refine ⟨hKc, fun k q hq => ?_⟩
    match k, hq with
    | 0, hq => cases hq; exact ⟨hI1, hI2⟩
    | 1, hq => cases hq; exact ⟨hO1, hO2⟩
    | 2, hq => cases hq; exact ⟨hI1, hI2⟩
    | 3, hq => cases hq; exact ⟨hI1, hI2⟩
    | 4, hq => cases hq; exact ⟨hJ1, hA5⟩
    | k + 5, hq => simp [xT] at hq
  have hZ : xZ X s := by
    unfold xZ
    rw [hG, hxA, hdcv, hscv]
    refine ⟨va_Zof hlay hini ht1 hA, vx_Zqof (hts _ (by decide +kernel)) (hts _ (by decide +kernel)) (hs _ (by decide +kernel)) hA, vx_Zqof (hts _ (by decide +kernel)) (hts _ (by decide +kernel)) (hs _ (by decide +kernel)) hA, hmi, va_Dc.of (hts _ (by decide +kernel)), hAO, ?_, ?_, ?_, ?_, ?_, ht2, hAA, hX⟩
    · intro q hq
      have h1 : (Cond.stringRef RX6 q.1 q.2).before #[Value.ref b] s = true := hts _ ((show ∀ q ∈ xStr, Cond.stringRef RX6 q.1 q.2 ∈ lw_tbl by decide +kernel) q hq)
      have h2 : (Cond.exactly (.string RX6 q.1) "java/lang/String").before #[Value.ref b] s = true := hs _ ((show ∀ q ∈ xStr, Cond.exactly (.string RX6 q.1) "java/lang/String" ∈ flatC (Jvm.Cond.and given_1 narrow_1) by decide +kernel) q hq)
      obtain ⟨a, -, -, -, ha, -⟩ := Cond.exactly_spec h2
      exact ⟨a, vk_R.of h1 ((Term.string_eval_of_vm (args := #[]) rfl).trans ha)⟩
    · intro q hq
      exact va_Nw.of rfl (hts _ ((show ∀ q ∈ xCast, Cond.castable q.1 q.2 ∈ lw_tbl by decide +kernel) q hq))
    · intro q hq
      exact va_Nc.of (hs _ ((show ∀ q ∈ xNot, Cond.not (Cond.castable q.1 q.2) ∈ flatC (Jvm.Cond.and given_1 narrow_1) by decide +kernel) q hq))
    · intro q hq
      exact va_Nw.of rfl (hts _ ((show ∀ q ∈ xNest, Cond.fieldLinkNest q.1 q.2.1 q.2.2.1 q.2.2.2.1 q.2.2.2.2 "PilotBook" ∈ lw_tbl by decide +kernel) q hq))
    · intro q hq
      exact va_Nw.of rfl (hts _ ((show ∀ q ∈ xDecl, Cond.declares q ∈ lw_tbl by decide +kernel) q hq))
  have htl : t < s.heap.size := by
    obtain ⟨cell, hc, -⟩ := ht2
    exact (Array.getElem?_eq_some_iff.mp hc).1
  have hbt : b ≠ t := by
    intro z
    obtain ⟨cell, g1, g2, -⟩ := ht2
    obtain ⟨scr, g3, g4, -⟩ := hX
    rw [z, g1] at g3
    cases g3
    obtain ⟨-, ka, ha, ca, ea⟩ := g2
    obtain ⟨-, kb, hb9, cb, eb⟩ := g4
    rw [ha] at hb9
    cases hb9
    rw [ea] at eb
    cases eb
  have hR : xR X (fun a => if a = (xdc X).1 then some xro else if a = b then some (.inl (3, L, .inl xs)) else none) s.heap := by
    intro a e he
    dsimp only at he
    by_cases ha : a = (xdc X).1
    · rw [if_pos ha] at he
      cases he
      exact Or.inr ⟨Or.inl ⟨rfl, ha⟩, by rw [ha, hG, hdcv]; exact htl⟩
    · rw [if_neg ha] at he
      by_cases hb9 : a = b
      · rw [if_pos hb9] at he
        cases he
        refine Or.inr ⟨Or.inr ⟨?_, ?_⟩, by rw [hb9, hG]; exact hbl⟩
        · show _ = (.inl (3, (xsc X).2.1, .inl (xsc X).2.2) : XA)
          rw [hscv]
        · rw [hscv]; exact hb9
      · rw [if_neg hb9] at he; cases he
  exact xlaw_start l C0 _ X hG hK hZ hR (fun V nm S E => k_L_law hfl S (xdc X) rfl _ b (fun r _ => r = 1) E (pure_law _ b L xs _ hL (by rw [if_pos rfl]) (by rw [if_neg (by rw [hdcv]; exact hbt), if_pos rfl]) (fun _ => rfl)))
