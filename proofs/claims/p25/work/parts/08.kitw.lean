/-! methods with a table of handlers; the law's own rows -/
def xMW (l : Launch) (dc : Nat × Nat) (y : MethodName) (ws : List Cond) (fr lo mc ms : Nat) (As : List Value) (h : XH) (Po : Option Value → XH → Prop) : Prop :=
  ∀ X : XC, xdc X = dc → vx_Met l y ws (xRm fr lo mc ms) (va_Pc As (xI X h)) (xQ X Po) (fun _ _ _ => False) mc ms (xA X)
abbrev xH4 : Type := Nat × (Nat × (Nat × Nat))
def xCat (V : XVT) (VX : XWT) (own : String) (ws : List Cond) (hh : List xH4) : Prop :=
  ∀ (cells slots : Nat) (h : XH) (pc : Nat) (lv : List (Nat × Value)) (E name : String) (pre suf : List xH4) (x : xH4), hh = pre ++ x :: suf → (∀ z ∈ pre, z.2.2.2 ≠ 0 ∧ ∃ nm, Cond.classLink own z.2.2.2 nm ∈ ws ∧ (E, nm) ∈ xNot) → (x.1 ≤ pc ∧ pc < x.2.1) → x.2.2.2 ≠ 0 → Cond.classLink own x.2.2.2 name ∈ ws → (E, name) ∈ xCast → (∀ q : Nat, V cells slots h x.2.2.1 lv [.ref q]) → VX cells slots h pc lv E
theorem xMW_of {l : Launch} {dc : Nat × Nat} {y : MethodName} {wsy ws' : List Cond} {own : String} {cc : ByteArray} {nL : Nat} {ret : Option FieldType} {hh : List xH4} {fr lo mc ms : Nat} {As : List Value} (lv0 : List (Nat × Value)) {h : XH} {Po : Option Value → XH → Prop}
    (hy : plainName y.cls = true) (hown : y.cls = own) (hw : wsy = Cond.codeWith y cc nL ret hh :: ws') (hlen : (lg_sl As).length ≤ nL) (hlv : lv_args 0 As = lv0)
    (body : ∀ (X : XC) (V : XVT) (VX : XWT), xdc X = dc → xSX V VX X l own y.name cc nL wsy (xRm fr lo mc ms) → xEnd V cc ret mc ms Po → xCat V VX own wsy hh → V 0 0 h 0 lv0 []) : xMW l dc y wsy fr lo mc ms As h Po := by
  intro X hX
  refine vx_ofWH (cc := cc) (maxL := nL) (ret := ret) hy hw ?_
  intro p e s m args below meth c s₁ B hml hv
  obtain ⟨rfl, ⟨hK, hZ⟩, hR, hSG⟩ := hv
  have hl := lv_entry As (n := nL) hlen
  rw [hlv] at hl
  rw [lg_entry_eq]
  generalize (lg_sl As ++ List.replicate (nL - (lg_sl As).length) Slot.unset).toArray = ls at hl ⊢
  have hfc : s.vm.findClass own = some m.cls := by rw [← hown]; exact findClass_of_methodNamed B.named
  have hts := atoms_spec (ws := wsy) B.pre
  have htab : c.exceptionTable.toList = hh.map (fun q => ⟨q.1, q.2.1, q.2.2.1, q.2.2.2⟩) := vx_table (x := y) B (hts _ (by rw [hw]; exact List.mem_cons_self))
  refine body X (XV X (fun d => d = s.drawn) nL p l e (xRm fr lo mc ms) s m As.toArray below meth c (vx_MQ below (xQ X Po) (fun _ _ _ => False) As.toArray s mc ms (xA X))) (XVX X (fun d => d = s.drawn) nL p l e (xRm fr lo mc ms) s m As.toArray below meth c (vx_MQ below (xQ X Po) (fun _ _ _ => False) As.toArray s mc ms (xA X))) hX
    ⟨_, p, e, s, m, _, below, meth, c, _, rfl, rfl, B.exec, B.bytes, hml, hfc, hts, hK, hZ, B.notSynchronized, hSG, (name_of_methodNamed B.named B.method).1⟩
    (xEnd_of B.exec B.bytes B.returns B.notSynchronized hSG (fun d H locs g hd k => by subst hd; exact vx_ret k)) ?_ s.drawn s.heap [] ls rfl hR va_S.rf hl
  intro cells slots h pc lv E name pre suf x hsplit hpre hcov h0 hlink hcast kk d H locs ls rest q ce hd hR hS hl hcell hvm hcl
  subst hd
  subst hsplit
  rw [List.map_append, List.map_cons] at htab
  refine vx_catch hfc _ _ _ htab (fun z hz => ?_) (by simp [covers, hcov.1, hcov.2]) h0 (hts _ hlink) ((hZ.2.2.2.2.2.2.2.1 _ hcast).use rfl) hcell hvm hcl (kk q s.drawn H locs ls rfl hR hS hl)
  obtain ⟨z0, hz0, rfl⟩ := List.mem_map.mp hz
  obtain ⟨g0, nm, g1, g2⟩ := hpre z0 hz0
  exact Or.inr ⟨g0, nm, hts _ g1, hZ.2.2.2.2.2.2.2.2.1 _ g2⟩
section
variable {V : XVT} {X : XC} {l : Launch} {own nm : String} {cc : ByteArray} {nL : Nat} {ws : List Cond} {R : Room} {cells slots pc : Nat} {h : XH} {lv : List (Nat × Value)} {st : List Value}
  {index maxL : Nat} {y : MethodName} {bytes : ByteArray} {ret : Option FieldType} {wsy ws' : List Cond} {fr lo mc ms : Nat} {Po : Option Value → XH → Prop}
theorem xr_callSW (S : xS V X l own nm cc nL ws R) {hh : List xH4} (As rest : List Value) (hdg : decode cc pc = .ok (.invokestatic index, 3)) (hM : xMW l (xdc X) y wsy fr lo mc ms As h Po) (hG : GoodIn ws (va_wsS own index y wsy)) (hw : wsy = Cond.codeWith y bytes maxL ret hh :: ws')
    (hd1 : y.cls ≠ "java/lang/invoke/MethodHandle" ∧ y.cls ≠ "java/lang/invoke/VarHandle" ∧ (parseMethodDescriptor y.desc).map (fun d => d.parameters.length) = some As.length) (hRm : fr + 1 ≤ R.frames ∧ 8 + (maxL + 11) + lo ≤ R.locals) (hst : st = As.reverse ++ rest) (hrest : (rest.map fun v => v.category).sum ≤ 8) (hcs : cells + mc ≤ R.cells ∧ slots + ms ≤ R.slots)
    (k : ∀ (v : Option Value) (h' : XH), Po v h' → V (cells + mc) (slots + ms) h' (pc + 3) lv (v.toList ++ rest)) : V cells slots h pc lv st := by
  obtain ⟨ok, p, e, s, m, args, below, meth, c, Q, rfl, hx, hb, hml, hown, hts, hK, hZ, hlk, hGs, hnm⟩ := S
  intro d H locs ls hd hR hS hl T0 hT X0
  rcases vx_runSX (s := s) (As := As) (rest := rest) (g := F0 m pc ls st) ⟨hx, hb, hml, hown, hts⟩ (hM X rfl) (vx_cwSW As.length hts hG hw rfl rfl hd1 hRm) ⟨xPre, fun U hU hW => ⟨rfl, xI_of hK hZ hR (xS_tr hGs hS) hU hW⟩⟩ rfl rfl hl.1 hst (lv_room hrest) hdg hcs T0 hT X0 with ⟨v, st₀, t, T', L, h0, X', hL, e1, e2, ⟨v', h', ho, hPo, hR', hSG', hz⟩, stp⟩ | ⟨q, st₀, t, T', L, E, ce, h0, X', hL, e1, e2, hx9, -⟩
  · cases ho
    rw [h0] at hz
    obtain ⟨t2, a1, b1⟩ := k v h' hPo d T'.heap (locs ++ L) ls hd (by rw [e1]; exact hR') (by rw [e1]; exact xS_after hGs hS hz hSG' hL) hl T' rfl X'
    exact ⟨t2, stp t2 a1, b1⟩
  · exact hx9.elim
end
section
variable {V : XVT} {X : XC} {l : Launch} {own nm : String} {cc : ByteArray} {nL : Nat} {ws : List Cond} {R : Room} {cells slots pc : Nat} {h : XH} {lv : List (Nat × Value)} {st : List Value}
  {index maxL : Nat} {y : MethodName} {bytes : ByteArray} {ret : Option FieldType} {wsy ws' : List Cond} {fr lo mc ms : Nat} {Po : Option Value → XH → Prop} {PX : String → XH → Prop}
/-- a call that could throw, and doesn't -/
theorem xr_callV0 (S : xS V X l own nm cc nL ws R) {C : String} {T : u_T} {N b : Nat} {fs : List Value} (ci : Nat) (As rest : List Value) (hdg : decode cc pc = .ok (.invokevirtual index, 3)) (hM : xMX l (xdc X) y wsy fr lo mc ms (.ref b :: As) h Po PX) (hG : GoodIn ws (wsV own index C y wsy)) (hw : wsy = Cond.code y bytes maxL ret :: ws')
    (hd1 : y.cls = C ∧ y.cls ≠ "java/lang/invoke/MethodHandle" ∧ y.cls ≠ "java/lang/invoke/VarHandle" ∧ (parseMethodDescriptor y.desc).map (fun d => d.parameters.length) = some As.length) (hRm : fr + 1 ≤ R.frames ∧ 8 + (maxL + 11) + lo ≤ R.locals) (hst : st = As.reverse ++ .ref b :: rest) (hrest : (rest.map fun v => v.category).sum ≤ 8) (hcs : cells + mc ≤ R.cells ∧ slots + ms ≤ R.slots) (hb1 : h b = some (.inr (ci, fs))) (hc : vwCl[ci]? = some (C, T, N))
    (kx : ∀ (E : String) (h' : XH), PX E h' → False)
    (k : ∀ (v : Option Value) (h' : XH), Po v h' → V (cells + mc) (slots + ms) h' (pc + 3) lv (v.toList ++ rest)) : V cells slots h pc lv st := by
  obtain ⟨ok, p, e, s, m, args, below, meth, c, Q, rfl, hx, hb, hml, hown, hts, hK, hZ, hlk, hGs, hnm⟩ := S
  intro d H locs ls hd hR hS hl T0 hT X0
  rcases vx_runV (s := s) (As := As) (rest := rest) (g := F0 m pc ls st) ⟨hx, hb, hml, hown, hts⟩ (hM X rfl) (cwV As.length hts hG hw rfl rfl hd1 hRm) ⟨xPre, va_recv hK (xR_one hR hb1) (ci := ci) (q0 := 0) hc rfl, fun U hU hW => ⟨rfl, xI_of hK hZ hR (xS_tr hGs hS) hU hW⟩⟩ rfl rfl hl.1 hst (lv_room hrest) hdg hcs T0 hT X0 with ⟨v, st₀, t, T', L, h0, X', hL, e1, e2, ⟨v', h', ho, hPo, hR', hSG', hz⟩, stp⟩ | ⟨q, st₀, t, T', L, E, ce, h0, X', hL, e1, e2, ⟨h', hPX, hR', hSG', hz⟩, -⟩
  · cases ho
    rw [h0] at hz
    obtain ⟨t2, a1, b1⟩ := k v h' hPo d T'.heap (locs ++ L) ls hd (by rw [e1]; exact hR') (by rw [e1]; exact xS_after hGs hS hz hSG' hL) hl T' rfl X'
    exact ⟨t2, stp t2 a1, b1⟩
  · exact (kx E h' hPX).elim
end
/-- the law from its entry, out of the judgement -/
theorem xlaw_start {p : Program} {e : Env} {s : State} {m : MethodId} {below : List Frame} {meth : Method} {c : Code} (l : Launch) {b L : Nat} {xs : Nat → Int32} (C0 : lw_At p s m meth c b L xs) (h : XH) (X : XC) (hG : xG X = s.heap) (hK : va_K X.1 vwCl (xT X) s) (hZ : xZ X s) (hR : xR X h s.heap)
    (body : ∀ (V : XVT) (nm : String), xS V X l RL nm code 18 wsL_law room_1 → xEnd V code (some .boolean) 600130 7301080 (xPi (fun r _ => r = 1)) → V 0 0 h 0 [(0, .ref b)] []) : W p l e room_1 s m #[Value.ref b] below meth c s.heap [] 0 0 (lw_Z below #[Value.ref b] s) (entryFrame m ([Value.ref b] : List Value).toArray 18) := by
  obtain ⟨hx, hb, hr, hml, hown, hts, hX, hbl, hlk, hgv⟩ := C0
  have hS0 : va_S (xA X) (xG X) s.heap [] := by rw [hG]; exact ⟨Nat.le_refl _, fun _ _ _ => rfl, fun _ q => absurd q List.not_mem_nil⟩
  have hl := lv_entry ([.ref b]) (n := 18) (Nat.le_of_ble_eq_true rfl)
  rw [lg_entry_eq]
  generalize (lg_sl ([.ref b]) ++ List.replicate (18 - (lg_sl ([.ref b])).length) Slot.unset).toArray = ls at hl ⊢
  have hl : lv_has ls 18 [(0, .ref b)] := hl
  have hts1 : ∀ w ∈ wsL_law, w.before #[Value.ref b] s = true := fun w hw => hts w (wsL_law_in w hw)
  have hnr : ret ≠ some .int ∧ ret = some .boolean := ⟨by decide, rfl⟩
  refine body (XV X (fun d => d = s.drawn) 18 p l e room_1 s m #[Value.ref b] below meth c (lw_Z below #[Value.ref b] s)) meth.name ⟨_, p, e, s, m, _, below, meth, c, _, rfl, hx, hb, hml, hown, hts1, hK, hZ, hlk, hS0, rfl⟩ ⟨?_, ?_, ?_, ?_, ?_, ?_⟩ s.drawn s.heap [] ls rfl hR va_S.rf hl
  · intro cells slots h pc lv x hret; cases hret
  · intro cells slots h pc lv x hret hn hdg hP hc hs d H locs ls hd hR hS hl
    subst hd
    obtain ⟨r, hr1, hr2⟩ := hP
    cases hr1
    subst hr2
    refine va_forget (fun q hq => by have h1 : (xG X).size ≤ q.base := hS.2.2 q hq; rw [hG] at h1; exact h1) ?_
    exact W.widen hc hs (lw_ret hx hb hr hlk hdg)
  · intro cells slots h pc lv hret; cases hret
  · intro cells slots h pc lv rt r hret hrt
    cases hret
    rcases hrt with ⟨n, h1⟩ | ⟨n, h1⟩ <;> cases h1
  · intro cells slots h pc lv x hret; cases hret
  · intro cells slots h pc lv x hret; cases hret
