/-! methods with a table of handlers; the law's own rows -/
def xMW (l : Launch) (dc : Nat × Nat) (y : MethodName) (ws : List Cond) (fr lo mc ms : Nat) (As : List Value) (h : XH) (Po : Option Value → XH → Prop) : Prop :=
  ∀ X : XC, xdc X = dc → vx_Met l y ws (xRm fr lo mc ms) (va_Pc As (xI X h)) (xQ X Po) (fun _ _ _ => False) mc ms (xA X)
abbrev xH4 : Type := Nat × (Nat × (Nat × Nat))
def xCat (V : XVT) (VX : XWT) (own : String) (ws : List Cond) (hh : List xH4) : Prop :=
  ∀ (cells slots : Nat) (h : XH) (pc : Nat) (lv : List (Nat × Value)) (E name : String) (pre suf : List xH4) (x : xH4), hh = pre ++ x :: suf → (∀ z ∈ pre, z.2.2.2 ≠ 0 ∧ ∃ nm, Cond.classLink own z.2.2.2 nm ∈ ws ∧ (E, nm) ∈ xNot) → (x.1 ≤ pc ∧ pc < x.2.1) → x.2.2.2 ≠ 0 → Cond.classLink own x.2.2.2 name ∈ ws → (E, name) ∈ xCast → (∀ q : Nat, V cells slots h x.2.2.1 lv [.ref q]) → VX cells slots h pc lv E
theorem xMW_of {l : Launch} {dc : Nat × Nat} {y : MethodName} {wsy ws' : List Cond} {own : String} {cc : ByteArray} {nL : Nat} {ret : Option FieldType} {hh : List xH4} {fr lo mc ms : Nat} {As : List Value} (lv0 : List (Nat × Value)) {h : XH} {Po : Option Value → XH → Prop}
    (hy : plainName y.cls = true) (hown : y.cls = own) (hw : wsy = Cond.codeWith y cc nL ret hh :: ws') (hlen : (lg_sl As).length ≤ nL) (hlv : lv_args 0 As = lv0)
    (body : ∀ (X : XC) (V : XVT) (VX : XWT), xdc X = dc → xSX V VX X l own y.name cc nL wsy (xRm fr lo mc ms) → xEnd V cc ret mc ms Po → xCat V VX own wsy hh → V 0 0 h 0 lv0 []) : xMW l dc y wsy fr lo mc ms As h Po := by
  intro X hX
  refine vx_ofWH (cc := cc) (maxL := nL) (ret := ret) hy hw ?_
  intro p e s m args below meth c s₁ B hml hv
  obtain ⟨rfl, ⟨hK, hZ⟩, hR, hSG⟩ := hv
  have hl := lv_entry As (n := nL) hlen
  rw [hlv] at hl
  rw [lg_entry_eq]
  generalize (lg_sl As ++ List.replicate (nL - (lg_sl As).length) Slot.unset).toArray = ls at hl ⊢
  have hfc : s.vm.findClass own = some m.cls := by rw [← hown]; exact findClass_of_methodNamed B.named
  have hts := atoms_spec (ws := wsy) B.pre
  have htab : c.exceptionTable.toList = hh.map (fun q => ⟨q.1, q.2.1, q.2.2.1, q.2.2.2⟩) := vx_table (x := y) B (hts _ (by rw [hw]; exact List.mem_cons_self))
  refine body X (XV X (fun d => d = s.drawn) nL p l e (xRm fr lo mc ms) s m As.toArray below meth c (vx_MQ below (xQ X Po) (fun _ _ _ => False) As.toArray s mc ms (xA X))) (XVX X (fun d => d = s.drawn) nL p l e (xRm fr lo mc ms) s m As.toArray below meth c (vx_MQ below (xQ X Po) (fun _ _ _ => False) As.toArray s mc ms (xA X))) hX
    ⟨_, p, e, s, m, _, below, meth, c, _, rfl, rfl, B.exec, B.bytes, hml, hfc, hts, hK, hZ, B.notSynchronized, hSG, (name_of_methodNamed B.named B.method).1⟩
    (xEnd_of B.exec B.bytes B.returns B.notSynchronized hSG (fun d H locs g hd k => by subst hd; exact vx_ret k)) ?_ s.drawn s.heap [] ls rfl hR va_S.rf hl
  intro cells slots h pc lv E name pre suf x hsplit hpre hcov h0 hlink hcast kk d H locs ls rest q ce hd hR hS hl hcell hvm hcl
  subst hd
  subst hsplit
  rw [List.map_append, List.map_cons] at htab
  refine vx_catch hfc _ _ _ htab (fun z hz => ?_) (by simp [covers, hcov.1, hcov.2]) h0 (hts _ hlink) ((hZ.2.2.2.2.2.2.2.1 _ hcast).use rfl) hcell hvm hcl (kk q s.drawn H locs ls rfl hR hS hl)
  obtain ⟨z0, hz0, rfl⟩ := List.mem_map.mp hz
  obtain ⟨g0, nm, g1, g2⟩ := hpre z0 hz0
  exact Or.inr ⟨g0, nm, hts _ g1, hZ.2.2.2.2.2.2.2.2.1 _ g2⟩
section
variable {V : XVT} {X : XC} {l : Launch} {own nm : String} {cc : ByteArray} {nL : Nat} {ws : List Cond} {R : Room} {cells slots pc : Nat} {h : XH} {lv : List (Nat × Value)} {st : List Value}
  {index maxL : Nat} {y : MethodName} {bytes : ByteArray} {ret : Option FieldType} {wsy ws' : List Cond} {fr lo mc ms : Nat} {Po : Option Value → XH → Prop}
theorem xr_callSW (S : xS V X l own nm cc nL ws R) {hh : List xH4} (As rest : List Value) (hdg : decode cc pc = .ok (.invokestatic index, 3)) (hM : xMW l (xdc X) y wsy fr lo mc ms As h Po) (hG : GoodIn ws (va_wsS own index y wsy)) (hw : wsy = Cond.codeWith y bytes maxL ret hh :: ws')
    (hd1 : y.cls ≠ "java/lang/invoke/MethodHandle" ∧ y.cls ≠ "java/lang/invoke/VarHandle" ∧ (parseMethodDescriptor y.desc).map (fun d => d.parameters.length) = some As.length) (hRm : fr + 1 ≤ R.frames ∧ 8 + (maxL + 11) + lo ≤ R.locals) (hst : st = As.reverse ++ rest) (hrest : (rest.map fun v => v.category).sum ≤ 8) (hcs : cells + mc ≤ R.cells ∧ slots + ms ≤ R.slots)
    (k : ∀ (v : Option Value) (h' : XH), Po v h' → V (cells + mc) (slots + ms) h' (pc + 3) lv (v.toList ++ rest)) : V cells slots h pc lv st := by
  obtain ⟨ok, p, e, s, m, args, below, meth, c, Q, rfl, hx, hb, hml, hown, hts, hK, hZ, hlk, hGs, hnm⟩ := S
  intro d H locs ls hd hR hS hl T0 hT X0
  rcases vx_runSX (s := s.setDrawn d) (As := As) (rest := rest) (g := F0 m pc ls st) ⟨hx, hb, hml, hown, dr_words hts d⟩ (hM X rfl) (vx_cwSW As.length (dr_words hts d) hG hw rfl rfl hd1 hRm) ⟨xPre, fun U hU hW => ⟨rfl, xI_of hK hZ hR (xS_tr hGs hS) hU hW⟩⟩ rfl rfl hl.1 hst (lv_room hrest) hdg hcs T0 hT X0 with ⟨v, st₀, t, T', L, h0, X', hL, e1, e2, ⟨v', h', ho, hPo, hR', hSG', hz⟩, stp⟩ | ⟨q, st₀, t, T', L, E, ce, h0, X', hL, e1, e2, hx9, -⟩
  · cases ho
    rw [h0] at hz
    obtain ⟨t2, a1, b1⟩ := k v h' hPo d T'.heap (locs ++ L) ls hd (by rw [e1]; exact hR') (by rw [e1]; exact xS_after hGs hS hz hSG' hL) hl T' rfl X'
    exact ⟨t2, stp t2 a1, b1⟩
  · exact hx9.elim
end
/-- the law's body: its judgement draws, its script lies outside the abstract heap -/
def xLaw (V : XVT) (X : XC) (l : Launch) (nm : String) (ws : List Cond) (b L : Nat) (xs : Nat → Int32) : Prop :=
  xS V X l RL nm code 9 ws room_1 ∧
  (∀ (cells slots : Nat) (h : XH) (pc : Nat) (lv : List (Nat × Value)), decode code pc = .ok (.ireturn, 1) → cells ≤ 601024 → slots ≤ 7293034 → V cells slots h pc lv [.int 1]) ∧
  (∀ (cells slots : Nat) (h : XH) (pc : Nat) (lv : List (Nat × Value)) (st : List Value), decode code pc = .ok (.arraylength, 1) → V cells slots h (pc + 1) lv (.int (Int32.ofNat L) :: st) → V cells slots h pc lv (.ref b :: st)) ∧
  (∀ (cells slots : Nat) (h : XH) (pc : Nat) (lv : List (Nat × Value)) (st : List Value) (i : Int32), decode code pc = .ok (.iaload, 1) → vp_in i L → V cells slots h (pc + 1) lv (.int (xs i.toNatClampNeg) :: st) → V cells slots h pc lv (.int i :: .ref b :: st)) ∧
  (∀ (cells slots : Nat) (h : XH) (pc : Nat) (lv : List (Nat × Value)) (st : List Value) (index maxL : Nat) (C : String) (T : u_T) (N a : Nat) (fs : List Value) (ci : Nat) (y : MethodName) (bytes : ByteArray) (wsy ws' : List Cond) (fr lo mc ms : Nat) (Po : Option Value → XH → Prop), decode code pc = .ok (.invokevirtual index, 3) → xMD l (xdc X) y wsy fr lo mc ms [.ref a] h Po → GoodIn ws (wsV RL index C y wsy) → wsy = Cond.code y bytes maxL (some .double) :: ws' →
    (y.cls = C ∧ y.cls ≠ "java/lang/invoke/MethodHandle" ∧ y.cls ≠ "java/lang/invoke/VarHandle" ∧ (parseMethodDescriptor y.desc).map (fun d => d.parameters.length) = some 0) → (fr + 1 ≤ room_1.frames ∧ 8 + (maxL + 11) + lo ≤ room_1.locals) → (st.map fun v => v.category).sum ≤ 8 → (cells + mc ≤ room_1.cells ∧ slots + ms ≤ room_1.slots) → h a = some (.inr (ci, fs)) → vwCl[ci]? = some (C, T, N) →
    (∀ (v : Option Value) (h' : XH), Po v h' → V (cells + mc) (slots + ms) h' (pc + 3) lv (v.toList ++ st)) → V cells slots h pc lv (.ref a :: st))
theorem xLaw_words {w : Cond} (h : w ∈ wsL_law) : w ∈ lw_tbl := wsL_law_in w h
/-- the law from its entry, out of the judgement -/
theorem xlaw_start {p : Program} {e : Env} {s : State} {m : MethodId} {below : List Frame} {meth : Method} {c : Code} (l : Launch) {b L : Nat} {xs : Nat → Int32} (C0 : lw_At p s m meth c b L xs) (h : XH) (X : XC) (hG : xG X = s.heap) (hK : va_K X.1 vwCl (xT X) s) (hZ : xZ X s) (hR : xR X h s.heap)
    (body : ∀ (V : XVT) (nm : String), xLaw V X l nm wsL_law b L xs → V 0 0 h 0 [(0, .ref b)] []) : W p l e room_1 s m #[Value.ref b] below meth c s.heap [] 0 0 (lw_Z below #[Value.ref b] s) (entryFrame m ([Value.ref b] : List Value).toArray 9) := by
  obtain ⟨hx, hb, hr, hml, hown, hts, hX, hbl, hlk, hgv⟩ := C0
  have hS0 : va_S (xA X) (xG X) s.heap [] := by rw [hG]; exact ⟨Nat.le_refl _, fun _ _ _ => rfl, fun _ q => absurd q List.not_mem_nil⟩
  have hl := lv_entry ([.ref b]) (n := 9) (Nat.le_of_ble_eq_true rfl)
  rw [lg_entry_eq]
  generalize (lg_sl ([.ref b]) ++ List.replicate (9 - (lg_sl ([.ref b])).length) Slot.unset).toArray = ls at hl ⊢
  have hl : lv_has ls 9 [(0, .ref b)] := hl
  have hbA : ¬ xA X b := by show ¬ (xG X).size ≤ b; rw [hG]; exact Nat.not_le.mpr hbl
  have hts1 : ∀ w ∈ wsL_law, w.before #[Value.ref b] s = true := fun w hw => hts w (wsL_law_in w hw)
  refine body (XV X (fun d => s.drawn.sameBut d lw_cs) 9 p l e room_1 s m #[Value.ref b] below meth c (lw_Z below #[Value.ref b] s)) meth.name ⟨⟨_, p, e, s, m, _, below, meth, c, _, rfl, hx, hb, hml, hown, hts1, hK, hZ, hlk, hS0, rfl⟩, ?_, ?_, ?_, ?_⟩ s.drawn s.heap [] ls (Drawn.sameBut.refl _ _) hR va_S.rf hl
  · intro cells slots h pc lv hdg hc hs d H locs ls hd hR hS hl
    refine va_forget (fun q hq => by have h1 : (xG X).size ≤ q.base := hS.2.2 q hq; rw [hG] at h1; exact h1) ?_
    exact W.widen hc hs (lw_ret hd hx hb hr hlk hdg)
  · intro cells slots h pc lv st hdg k d H locs ls hd hR hS hl
    exact va_slen (s := s.setDrawn d) hx hb hX hbl hbA hS hdg (k d H locs ls hd hR hS hl)
  · intro cells slots h pc lv st i hdg hi k d H locs ls hd hR hS hl
    exact va_sld (s := s.setDrawn d) hx hb hX hbl hbA hS hi hdg (k d H locs ls hd hR hS hl)
  · intro cells slots h pc lv st index maxL C T N a fs ci y bytes wsy ws' fr lo mc ms Po hdg hM hGd hw hd1 hRm hrest hcs ha hc k d H locs ls hd hR hS hl T0 hT X0
    obtain ⟨v, st₀, t, T', L', d', hd', h0, X', hL, e1, e2, ⟨v', h', ho, hPo, hR', hSG', hz⟩, stp⟩ := va_runV_D (s := s.setDrawn d) (cs := lw_cs) (As := []) (rest := st) (g := F0 m pc ls (.ref a :: st)) ⟨hx, hb, hml, hown, dr_words hts1 d⟩ (hM X rfl) (cwV 0 (dr_words hts1 d) hGd hw rfl rfl hd1 hRm) ⟨xPre, va_recv hK (xR_one hR ha) (ci := ci) (q0 := 0) hc rfl, fun U hU hW => ⟨rfl, xI_of hK hZ hR (xS_tr hS0 hS) hU hW⟩⟩ rfl rfl hl.1 rfl (lv_room hrest) hdg hcs T0 hT X0
    cases ho
    rw [h0] at hz
    obtain ⟨t2, a1, b1⟩ := k v h' hPo d' T'.heap (locs ++ L') ls (hd.trans hd') (by rw [e1]; exact hR') (by rw [e1]; exact xS_after hS0 hS hz hSG' hL) hl T' rfl X'
    exact ⟨t2, stp t2 a1, b1⟩
def wScr (L : Nat) (xs : Nat → Int32) (i : Int32) (K : Int32 → Prop) : Prop := vp_in i L ∧ K (xs i.toNatClampNeg)
theorem law_n {L n : Nat} {x : Int32} (hL : L ≤ 2048) (hx : x = nI (4 * n)) (hn : n ≤ 512) (c : ¬ Int32.ofNat L - 4 < x) : n + 1 ≤ 512 ∧ 4 * n + 4 ≤ L := by
  subst hx
  rw [Int32.lt_iff_toInt_lt] at c
  have h1 : (Int32.ofNat L - 4).toInt = (L : Int) - 4 := by
    have := pk_sub_toInt (a := L) (b := 4) (by omega) (by omega)
    exact this
  rw [h1, nI_toInt (by omega)] at c
  omega
theorem law_i4 (n : Nat) : nI (4 * n) + 4 = nI (4 * (n + 1)) := by
  have := nI_add (4 * n) 4
  exact this
