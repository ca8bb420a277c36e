/-! exceptions: a second judgement, for what has been thrown -/
abbrev XWT : Type := Nat → Nat → XH → Nat → List (Nat × Value) → String → Prop
def XVX (X : XC) (ok : Drawn → Prop) (nL : Nat) (p : Program) (l : Launch) (e : Env) (R : Room) (s : State) (m : MethodId) (args : Array Value) (below : List Frame) (meth : Method) (c : Code) (Q : State → Prop) : XWT := fun cells slots h pc lv E =>
  ∀ (d : Drawn) (H : Heap) (locs : List Loc) (ls : Array Slot) (rest : List Value) (q : Addr) (ce : Cell), ok d → xR X h H → va_S (xA X) s.heap H locs → lv_has ls nL lv → H[q]? = some ce → ce.vm = .none → s.vm.findClass E = some ce.cls → vx_W p l e R s m args below meth c H locs cells slots Q (F0 m pc ls rest) q
def xSX (V : XVT) (VX : XWT) (X : XC) (l : Launch) (own nm : String) (cc : ByteArray) (nL : Nat) (ws : List Cond) (R : Room) : Prop :=
  ∃ (ok : Drawn → Prop) (p : Program) (e : Env) (s : State) (m : MethodId) (args : Array Value) (below : List Frame) (meth : Method) (c : Code) (Q : State → Prop), V = XV X ok nL p l e R s m args below meth c Q ∧ VX = XVX X ok nL p l e R s m args below meth c Q ∧ xF X own nm cc nL ws p s m args meth c
theorem xSX.S {V : XVT} {VX : XWT} {X : XC} {l : Launch} {own nm : String} {cc : ByteArray} {nL : Nat} {ws : List Cond} {R : Room} (S : xSX V VX X l own nm cc nL ws R) : xS V X l own nm cc nL ws R := by
  obtain ⟨ok, p, e, s, m, args, below, meth, c, Q, h1, -, F⟩ := S
  exact ⟨ok, p, e, s, m, args, below, meth, c, Q, h1, F⟩
def xEndX (VX : XWT) (mc ms : Nat) (PX : String → XH → Prop) : Prop := ∀ (cells slots : Nat) (h : XH) (pc : Nat) (lv : List (Nat × Value)) (E : String), PX E h → cells ≤ mc → slots ≤ ms → VX cells slots h pc lv E
abbrev xNms : List String := ["java/lang/RuntimeException", "java/lang/Exception"]
/-- throw new E("..") -/
def xThr (V : XVT) (own : String) (cc : ByteArray) (ws : List Cond) (R : Room) (mc ms : Nat) (PX : String → XH → Prop) : Prop :=
  ∀ (cells slots : Nat) (h : XH) (pc : Nat) (lv : List (Nat × Value)) (st : List Value) (cls text : String) (ik is ic : Nat), decode cc pc = .ok (.new ik, 3) → decode cc (pc + 3) = .ok (.dup, 1) → decode cc (pc + 4) = .ok (.ldc is, 2) → decode cc (pc + 6) = .ok (.invokespecial ic, 3) → decode cc (pc + 9) = .ok (.athrow, 1) →
    own = RX6 → (is, text) ∈ xStr → Bundle.fit cls = true → (cls, cls) ∈ xCast → Cond.classLink own ik cls ∈ ws → Cond.initialized cls ∈ ws → (∀ w ∈ (vx_atS own ic cls xNms).filter goodWord, w ∈ ws) → (∀ w ∈ (vx_atS own ic cls xNms).filter (fun w => !goodWord w), w ∈ Cond.castable cls cls :: xDecl.map Cond.declares) → (∀ w ∈ Cond.classLink own ik cls :: Cond.initialized cls :: vx_atS own ic cls xNms, vx_ot w = true) →
    (st.map fun v => v.category).sum + 82 ≤ R.locals → 5 < R.frames → cells + 1 ≤ R.cells → slots + 6 ≤ R.slots → PX cls h → cells + 1 ≤ mc → slots + 6 ≤ ms → V cells slots h pc lv st
theorem xMX_of {l : Launch} (hfl : l.stackTraces = false) {dc : Nat × Nat} {y : MethodName} {wsy ws' : List Cond} {own : String} {cc : ByteArray} {nL : Nat} {ret : Option FieldType} {fr lo mc ms : Nat} {As : List Value} (lv0 : List (Nat × Value)) {h : XH} {Po : Option Value → XH → Prop} {PX : String → XH → Prop}
    (hy : plainName y.cls = true) (hown : y.cls = own) (hw : wsy = Cond.code y cc nL ret :: ws') (hlen : (lg_sl As).length ≤ nL) (hlv : lv_args 0 As = lv0)
    (body : ∀ (X : XC) (V : XVT) (VX : XWT), xdc X = dc → xSX V VX X l own y.name cc nL wsy (xRm fr lo mc ms) → xEnd V cc ret mc ms Po → xEndX VX mc ms PX → xThr V own cc wsy (xRm fr lo mc ms) mc ms PX → V 0 0 h 0 lv0 []) : xMX l dc y wsy fr lo mc ms As h Po PX := by
  intro X hX
  refine vx_ofW (cc := cc) (maxL := nL) (ret := ret) hy hw ?_
  intro p e s m args below meth c s₁ B hml htab hv
  obtain ⟨rfl, ⟨hK, hZ⟩, hR, hSG⟩ := hv
  have hl := lv_entry As (n := nL) hlen
  rw [hlv] at hl
  rw [lg_entry_eq]
  generalize (lg_sl As ++ List.replicate (nL - (lg_sl As).length) Slot.unset).toArray = ls at hl ⊢
  have hfc : s.vm.findClass own = some m.cls := by rw [← hown]; exact findClass_of_methodNamed B.named
  have hts := atoms_spec (ws := wsy) B.pre
  refine body X (XV X (fun d => d = s.drawn) nL p l e (xRm fr lo mc ms) s m As.toArray below meth c (vx_MQ below (xQ X Po) (xQX X PX) As.toArray s mc ms (xA X))) (XVX X (fun d => d = s.drawn) nL p l e (xRm fr lo mc ms) s m As.toArray below meth c (vx_MQ below (xQ X Po) (xQX X PX) As.toArray s mc ms (xA X))) hX
    ⟨_, p, e, s, m, _, below, meth, c, _, rfl, rfl, B.exec, B.bytes, hml, hfc, hts, hK, hZ, B.notSynchronized, hSG, (name_of_methodNamed B.named B.method).1⟩
    (xEnd_of B.exec B.bytes B.returns B.notSynchronized hSG (fun d H locs g hd k => by subst hd; exact vx_ret k)) ?_ ?_ s.drawn s.heap [] ls rfl hR va_S.rf hl
  · intro cells slots h pc lv E hPX hc hs d H locs ls rest q ce hd hR hS hl hcell hvm hcl
    subst hd
    refine vx_out (fun x hx => (htab x hx).elim) B.notSynchronized hcell hvm hcl (fun t ht hW => ?_) (fun z hz => hS.2.2 z hz) hc hs
    have hG := xS_tr hSG hS
    subst ht
    exact ⟨h, hPX, hR, ⟨hG.1, hG.2.1, fun _ q => absurd q List.not_mem_nil⟩, hS.1⟩
  · intro cells slots h pc lv st cls text ik is ic d0 d3 d4 d6 d9 ho hstr hfit hcast hk hini hgd hbad hot hlo hfr hce hsl hPX hc hs d H locs ls hd hR hS hl
    subst hd
    subst ho
    obtain ⟨sa, hsa⟩ := hZ.2.2.2.2.2.2.1 _ hstr
    have hG := xS_tr hSG hS
    refine vx_throwS (names := xNms) (A := xA X) B.exec B.bytes hfl hfc hfit (by decide +kernel) (hts _ hk) (hts _ hini) hsa (vx_hat (B := Cond.castable cls cls :: xDecl.map Cond.declares) (fun w hw => hts w (hgd w hw)) hbad (fun w hw => by
      rcases List.mem_cons.mp hw with rfl | hw
      · exact (hZ.2.2.2.2.2.2.2.1 _ hcast).use rfl
      · obtain ⟨x, hx, rfl⟩ := List.mem_map.mp hw
        exact (hZ.2.2.2.2.2.2.2.2.2.2.1 _ hx).use rfl)) hot (hZ.2.1.kept (fun a h1 h2 => hSG.2.1 a h1 h2)) (hZ.2.2.1.kept (fun a h1 h2 => hSG.2.1 a h1 h2)) hS (hl.1.trans hml.symm) d0 d3 d4 d6 d9 (fun x hx => (htab x hx).elim) hfr hlo hce hsl B.notSynchronized (fun t hal hz hq => ?_) (fun z hz => hS.2.2 z hz) hc hs
    refine ⟨h, hPX, fun a e ha => (hR a e ha).elim (fun g => Or.inl ⟨g.1.kept (hq a (xR_lt hR ha g.2)), g.2⟩) Or.inr, ⟨Nat.le_trans hG.1 hz, fun q h1 h2 => ?_, fun _ q => absurd q List.not_mem_nil⟩, Nat.le_trans hS.1 hz⟩
    rw [hq q (Nat.lt_of_lt_of_le h1 hG.1)]
    exact hG.2.1 q h1 h2
section
variable {V : XVT} {VX : XWT} {X : XC} {l : Launch} {own nm : String} {cc : ByteArray} {nL : Nat} {ws : List Cond} {R : Room} {cells slots pc : Nat} {h : XH} {lv : List (Nat × Value)} {st : List Value}
  {index maxL : Nat} {y : MethodName} {bytes : ByteArray} {ret : Option FieldType} {wsy ws' : List Cond} {fr lo mc ms : Nat} {Po : Option Value → XH → Prop} {PX : String → XH → Prop}
theorem xr_callVX (S : xSX V VX X l own nm cc nL ws R) {C : String} {T : u_T} {N b : Nat} {fs : List Value} (ci : Nat) (As rest : List Value) (hdg : decode cc pc = .ok (.invokevirtual index, 3)) (hM : xMX l (xdc X) y wsy fr lo mc ms (.ref b :: As) h Po PX) (hG : GoodIn ws (wsV own index C y wsy)) (hw : wsy = Cond.code y bytes maxL ret :: ws')
    (hd1 : y.cls = C ∧ y.cls ≠ "java/lang/invoke/MethodHandle" ∧ y.cls ≠ "java/lang/invoke/VarHandle" ∧ (parseMethodDescriptor y.desc).map (fun d => d.parameters.length) = some As.length) (hRm : fr + 1 ≤ R.frames ∧ 8 + (maxL + 11) + lo ≤ R.locals) (hst : st = As.reverse ++ .ref b :: rest) (hrest : (rest.map fun v => v.category).sum ≤ 8) (hcs : cells + mc ≤ R.cells ∧ slots + ms ≤ R.slots) (hb1 : h b = some (.inr (ci, fs))) (hc : vwCl[ci]? = some (C, T, N))
    (kx : ∀ (E : String) (h' : XH), PX E h' → VX (cells + mc) (slots + ms) h' pc lv E)
    (k : ∀ (v : Option Value) (h' : XH), Po v h' → V (cells + mc) (slots + ms) h' (pc + 3) lv (v.toList ++ rest)) : V cells slots h pc lv st := by
  obtain ⟨ok, p, e, s, m, args, below, meth, c, Q, rfl, rfl, hx, hb, hml, hown, hts, hK, hZ, hlk, hGs, hnm⟩ := S
  intro d H locs ls hd hR hS hl T0 hT X0
  rcases vx_runV (s := s) (As := As) (rest := rest) (g := F0 m pc ls st) ⟨hx, hb, hml, hown, hts⟩ (hM X rfl) (cwV As.length hts hG hw rfl rfl hd1 hRm) ⟨xPre, va_recv hK (xR_one hR hb1) (ci := ci) (q0 := 0) hc rfl, fun U hU hW => ⟨rfl, xI_of hK hZ hR (xS_tr hGs hS) hU hW⟩⟩ rfl rfl hl.1 hst (lv_room hrest) hdg hcs T0 hT X0 with ⟨v, st₀, t, T', L, h0, X', hL, e1, e2, ⟨v', h', ho, hPo, hR', hSG', hz⟩, stp⟩ | ⟨q, st₀, t, T', L, E, ce, h0, X', hL, e1, e2, ⟨h', hPX, hR', hSG', hz⟩, hce, hcv, hcl, stp⟩
  · cases ho
    rw [h0] at hz
    obtain ⟨t2, a1, b1⟩ := k v h' hPo d T'.heap (locs ++ L) ls hd (by rw [e1]; exact hR') (by rw [e1]; exact xS_after hGs hS hz hSG' hL) hl T' rfl X'
    exact ⟨t2, stp t2 a1, b1⟩
  · rw [h0] at hz
    obtain ⟨t2, a1, b1⟩ := kx E h' hPX d T'.heap (locs ++ L) ls rest q ce hd (by rw [e1]; exact hR') (by rw [e1]; exact xS_after hGs hS hz hSG' hL) hl (by rw [e1]; exact hce) hcv hcl T' rfl X'
    exact ⟨t2, stp.trans a1, b1⟩
theorem xr_callSX (S : xSX V VX X l own nm cc nL ws R) (As rest : List Value) (hdg : decode cc pc = .ok (.invokestatic index, 3)) (hM : xMX l (xdc X) y wsy fr lo mc ms As h Po PX) (hG : GoodIn ws (va_wsS own index y wsy)) (hw : wsy = Cond.code y bytes maxL ret :: ws')
    (hd1 : y.cls ≠ "java/lang/invoke/MethodHandle" ∧ y.cls ≠ "java/lang/invoke/VarHandle" ∧ (parseMethodDescriptor y.desc).map (fun d => d.parameters.length) = some As.length) (hRm : fr + 1 ≤ R.frames ∧ 8 + (maxL + 11) + lo ≤ R.locals) (hst : st = As.reverse ++ rest) (hrest : (rest.map fun v => v.category).sum ≤ 8) (hcs : cells + mc ≤ R.cells ∧ slots + ms ≤ R.slots)
    (kx : ∀ (E : String) (h' : XH), PX E h' → VX (cells + mc) (slots + ms) h' pc lv E)
    (k : ∀ (v : Option Value) (h' : XH), Po v h' → V (cells + mc) (slots + ms) h' (pc + 3) lv (v.toList ++ rest)) : V cells slots h pc lv st := by
  obtain ⟨ok, p, e, s, m, args, below, meth, c, Q, rfl, rfl, hx, hb, hml, hown, hts, hK, hZ, hlk, hGs, hnm⟩ := S
  intro d H locs ls hd hR hS hl T0 hT X0
  rcases vx_runS (s := s) (As := As) (rest := rest) (g := F0 m pc ls st) ⟨hx, hb, hml, hown, hts⟩ (hM X rfl) (va_cwS As.length hts hG hw rfl rfl hd1 hRm) ⟨xPre, fun U hU hW => ⟨rfl, xI_of hK hZ hR (xS_tr hGs hS) hU hW⟩⟩ rfl rfl hl.1 hst (lv_room hrest) hdg hcs T0 hT X0 with ⟨v, st₀, t, T', L, h0, X', hL, e1, e2, ⟨v', h', ho, hPo, hR', hSG', hz⟩, stp⟩ | ⟨q, st₀, t, T', L, E, ce, h0, X', hL, e1, e2, ⟨h', hPX, hR', hSG', hz⟩, hce, hcv, hcl, stp⟩
  · cases ho
    rw [h0] at hz
    obtain ⟨t2, a1, b1⟩ := k v h' hPo d T'.heap (locs ++ L) ls hd (by rw [e1]; exact hR') (by rw [e1]; exact xS_after hGs hS hz hSG' hL) hl T' rfl X'
    exact ⟨t2, stp t2 a1, b1⟩
  · rw [h0] at hz
    obtain ⟨t2, a1, b1⟩ := kx E h' hPX d T'.heap (locs ++ L) ls rest q ce hd (by rw [e1]; exact hR') (by rw [e1]; exact xS_after hGs hS hz hSG' hL) hl (by rw [e1]; exact hce) hcv hcl T' rfl X'
    exact ⟨t2, stp.trans a1, b1⟩
end
/-! copies, the class of an Object row -/
def xElem (h : XH) (y : Nat) : Prop := ∃ (ci : Nat) (fs : List Value) (r : vw_C), h y = some (.inr (ci, fs)) ∧ vwCl[ci]? = some r ∧ (r.1, "java/lang/Object") ∈ xCast
section
variable {V : XVT} {X : XC} {l : Launch} {own nm : String} {cc : ByteArray} {nL : Nat} {ws : List Cond} {R : Room} {cells slots pc : Nat} {h : XH} {lv : List (Nat × Value)} {st : List Value}
theorem xr_aastE (S : xS V X l own nm cc nL ws R) {a n v : Nat} {i : Int32} {f : Nat → Option Nat} (hdg : decode cc pc = .ok (.aastore, 1)) (ha : h a = some (.inl (1, n, .inr (.inr (.inr (.inr f)))))) (hi : vp_in i n) (hv : xElem h v) (kz : V cells slots (xup h a (.inl (1, n, .inr (.inr (.inr (.inr (va_up f i.toNatClampNeg (some v)))))))) (pc + 1) lv st) : V cells slots h pc lv (.ref v :: .int i :: .ref a :: st) := by
  obtain ⟨ci, fs, r, h1, h2, h3⟩ := hv
  exact xr_aast S ci hdg ha hi h1 h2 h3 kz
theorem xr_copyq (S : xS V X l own nm cc nL ws R) {index a0 a n0 n1 : Nat} {f g : Nat → Option Nat} {sp dp n : Int32} (hdg : decode cc pc = .ok (.invokestatic index, 3)) (hlink : Cond.methodLink own index arraycopyName ∈ ws) (hnat : Cond.native arraycopyName ∈ ws) (hstat : Cond.static arraycopyName ∈ ws) (hini : Cond.initialized "java/lang/System" ∈ ws)
    (ha0 : h a0 = some (.inl (1, n0, .inr (.inr (.inr (.inr f)))))) (ha1 : h a = some (.inl (1, n1, .inr (.inr (.inr (.inr g)))))) (hp0 : 0 < n0) (hp1 : 0 < n1) (h1 : ¬ sp < 0) (h2 : ¬ dp < 0) (h3 : ¬ n < 0) (h4 : sp.toNatClampNeg + n.toNatClampNeg ≤ n0) (h5 : dp.toNatClampNeg + n.toNatClampNeg ≤ n1) (hel : ∀ i : Nat, i < n.toNatClampNeg → ∀ y : Nat, f (sp.toNatClampNeg + i) = some y → xElem h y) (hf : 1 ≤ R.frames) (hlo : (st.map fun v => v.category).sum + (nativeFrameWords "java/lang/System" "arraycopy" 5 + 11) ≤ R.locals)
    (kz : V cells slots (xup h a (.inl (1, n1, .inr (.inr (.inr (.inr (va_cpy f g sp.toNatClampNeg dp.toNatClampNeg n.toNatClampNeg))))))) (pc + 3) lv st) : V cells slots h pc lv (.int n :: .int dp :: .ref a :: .int sp :: .ref a0 :: st) := by
  obtain ⟨ok, p, e, s, m, args, below, meth, c, Q, rfl, hx, hb, hml, hown, hts, hK, hZ, hlk, hGs, hnm⟩ := S
  intro d H locs ls hd hR hS hl
  have ht := hts
  have l0 := xR_lo hR ha0 (fun z => by cases z; exact absurd hp0 (by decide))
  have l1 := xR_lo hR ha1 (fun z => by cases z; exact absurd hp1 (by decide))
  obtain ⟨q0, hq0⟩ := xL_get (X := X) (n := H.size) ha0 l0 (xR_lt hR ha0 l0)
  obtain ⟨q1, hq1⟩ := xL_get (X := X) (n := H.size) ha1 l1 (xR_lt hR ha1 l1)
  exact va_copyM (D := X.1) (A := xA X) (s := s) hx hb (hml.trans hl.1.symm) hown (ht _ hlink) (ht _ hnat) (ht _ hstat) (ht _ hini) hK (xL_P hR) xL_D hS q0 q1 1 1 hq0 hq1 rfl rfl h1 h2 h3 h4 h5 (fun i hi y hy => by
    obtain ⟨ci, fs, r, g1, g2, g3⟩ := hel i hi y hy
    exact va_rAny hK (xR_one hR g1) (q0 := 0) rfl g2 (fun comp c0 k1 k2 => vb_asgC (hZ.2.2.2.2.2.2.2.1 _ g3) comp c0 k1 k2)) hf hlo hdg (fun H1 locs1 hP1 hD1 hS1 => kz d H1 locs1 ls hd (xR_set hR (xS_tr hGs hS) hq1 (e1 := .inl (1, n1, .inr (.inr (.inr (.inr (va_cpy f g sp.toNatClampNeg dp.toNatClampNeg n.toNatClampNeg)))))) hP1 (xS_tr hGs hS1)) hS1 hl)
theorem xr_copyi (S : xS V X l own nm cc nL ws R) {index a0 a n0 n1 : Nat} {f g : Nat → Int32} {sp dp n : Int32} (t : Nat) (hdg : decode cc pc = .ok (.invokestatic index, 3)) (hlink : Cond.methodLink own index arraycopyName ∈ ws) (hnat : Cond.native arraycopyName ∈ ws) (hstat : Cond.static arraycopyName ∈ ws) (hini : Cond.initialized "java/lang/System" ∈ ws) (htt : t = 0 ∨ t = 2)
    (ha0 : h a0 = some (.inl (t, n0, .inl f))) (ha1 : h a = some (.inl (t, n1, .inl g))) (h1 : ¬ sp < 0) (h2 : ¬ dp < 0) (h3 : ¬ n < 0) (h4 : sp.toNatClampNeg + n.toNatClampNeg ≤ n0) (h5 : dp.toNatClampNeg + n.toNatClampNeg ≤ n1) (hf : 1 ≤ R.frames) (hlo : (st.map fun v => v.category).sum + (nativeFrameWords "java/lang/System" "arraycopy" 5 + 11) ≤ R.locals)
    (kz : V cells slots (xup h a (.inl (t, n1, .inl (va_cpy f g sp.toNatClampNeg dp.toNatClampNeg n.toNatClampNeg)))) (pc + 3) lv st) : V cells slots h pc lv (.int n :: .int dp :: .ref a :: .int sp :: .ref a0 :: st) := by
  obtain ⟨ok, p, e, s, m, args, below, meth, c, Q, rfl, hx, hb, hml, hown, hts, hK, hZ, hlk, hGs, hnm⟩ := S
  intro d H locs ls hd hR hS hl
  have ht := hts
  have l0 := xR_lo hR ha0 (fun z => by cases z) (fun _ _ z => by cases z; omega)
  have l1 := xR_lo hR ha1 (fun z => by cases z) (fun _ _ z => by cases z; omega)
  obtain ⟨q0, hq0⟩ := xL_get (X := X) (n := H.size) ha0 l0 (xR_lt hR ha0 l0)
  obtain ⟨q1, hq1⟩ := xL_get (X := X) (n := H.size) ha1 l1 (xR_lt hR ha1 l1)
  have hty : (xT X)[t]? = some (xC X t, .int) := by rcases htt with rfl | rfl <;> rfl
  exact va_copyi (D := X.1) (A := xA X) (s := s) hx hb (hml.trans hl.1.symm) hown (ht _ hlink) (ht _ hnat) (ht _ hstat) (ht _ hini) hK (xL_P hR) xL_D hS q0 q1 t t hq0 hq1 hty hty rfl h1 h2 h3 h4 h5 (fun i hi => rfl) hf hlo hdg (fun H1 locs1 hP1 hD1 hS1 => kz d H1 locs1 ls hd (xR_set hR (xS_tr hGs hS) hq1 (e1 := .inl (t, n1, .inl (va_cpy f g sp.toNatClampNeg dp.toNatClampNeg n.toNatClampNeg))) hP1 (xS_tr hGs hS1)) hS1 hl)
theorem xr_ldcM (S : xS V X l own nm cc nL ws R) {index : Nat} (hdg : decode cc pc = .ok (.ldc index, 2)) (hlink : Cond.classLink own index "[Ljava/lang/Object;" ∈ ws) (k : V cells slots h (pc + 2) lv (.ref (xdc X).2 :: st)) : V cells slots h pc lv st :=
  xr_step S (fun p e s m args below meth c Q H locs ls F hR hl k => by
    obtain ⟨hx, hb, hml, hown, hts, hK, hZ, hlk, hGs, hnm⟩ := F
    exact va_ldcM hx hb hown (hts _ hlink) hZ.2.2.2.1 hdg (k ls hl)) k
abbrev xgc : MethodName := ⟨"java/lang/Object", "getClass", "()Ljava/lang/Class;"⟩
theorem xr_getC (S : xS V X l own nm cc nL ws R) {index a : Nat} {b : vp_A} (hdg : decode cc pc = .ok (.invokevirtual index, 3)) (hlink : Cond.methodLink own index xgc ∈ ws) (hsel : Cond.selects "[Ljava/lang/Object;" xgc xgc ∈ ws) (hinst : Cond.instanceMethod xgc ∈ ws) (hnat : Cond.native xgc ∈ ws) (ha : 0 < b.1 ∧ h a = some (.inl (1, b))) (hf : 1 ≤ R.frames) (hlo : (st.map fun v => v.category).sum + 14 ≤ R.locals) (k : V cells slots h (pc + 3) lv (.ref (xdc X).2 :: st)) : V cells slots h pc lv (.ref a :: st) :=
  xr_step S (fun p e s m args below meth c Q H locs ls F hR hl k => by
    obtain ⟨hx, hb, hml, hown, hts, hK, hZ, hlk, hGs, hnm⟩ := F
    obtain ⟨hb0, ha⟩ := ha
    have hcell : H[a]? = some (vp_cell (xC X 1) b) := xR_at hR ha (xR_lo hR ha (fun z => by cases z; exact absurd hb0 (by decide)))
    have hcl : (vp_cell (xC X 1) b).cls = xC X 1 ∧ (vp_cell (xC X 1) b).vm.isStatics = false := by
      obtain ⟨n, f⟩ := b
      rcases f with f | f | f | f | f <;> exact ⟨rfl, rfl⟩
    exact va_getC hx hb (hml.trans hl.1.symm) hown (hts _ hlink) hZ.2.2.2.2.1 (hts _ hsel) (hts _ hinst) (hts _ hnat) hZ.2.2.2.1 ⟨_, hcell, hcl.2, by rw [hcl.1]; exact va_nmO (hK.2 1 _ rfl).2 rfl⟩ hf hlo hdg (k ls hl)) k
end
