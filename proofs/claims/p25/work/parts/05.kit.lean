/-! MY KIT: an abstract heap (a function from addresses to cells), and a judgement V over it: what runs from (pc, locals, stack) comes to the method's end. -/
abbrev XA : Type := (Nat × vp_A) ⊕ (Nat × List Value)
abbrev XH : Type := Nat → Option XA
/-- what a run keeps: the classes' numbers, the arrays' classes by kind (0 int of the class, 1 Object, 2 int of the law, 3 the script, 4 int[][]), the heap at the start, the address of ArrayList's empty row, of the mirror of Object[], the script: its address, its length, its ints -/
abbrev XC : Type := va_G × ((Nat → ClassId) × (Heap × ((Nat × Nat) × (Nat × (Nat × (Nat → Int32))))))
abbrev xG (X : XC) : Heap := X.2.2.1
abbrev xC (X : XC) : Nat → ClassId := X.2.1
abbrev xdc (X : XC) : Nat × Nat := X.2.2.2.1
abbrev xsc (X : XC) : Nat × (Nat × (Nat → Int32)) := X.2.2.2.2
def xE (C : Nat → ClassId) (e : XA) : va_E := match e with
  | .inl q => .inl (C q.1, q.2)
  | .inr o => .inr o
def xro : XA := .inl (1, 0, .inr (.inr (.inr (.inr (fun _ => none)))))
abbrev xscE (X : XC) : XA := .inl (3, (xsc X).2.1, .inl (xsc X).2.2)
def xRO (X : XC) (a : Nat) (e : XA) : Prop := (e = xro ∧ a = (xdc X).1) ∨ (e = xscE X ∧ a = (xsc X).1)
def xR (X : XC) (h : XH) (H : Heap) : Prop := ∀ (a : Nat) (e : XA), h a = some e → (va_at X.1 vwCl (a, xE (xC X) e) H ∧ (xG X).size ≤ a) ∨ (xRO X a e ∧ a < (xG X).size)
abbrev xA (X : XC) : Nat → Prop := fun q => (xG X).size ≤ q
abbrev xT (X : XC) : List (ClassId × FieldType) := [(xC X 0, .int), (xC X 1, .object "java/lang/Object"), (xC X 2, .int), (xC X 3, .int), (xC X 4, .array .int)]
def xStr : List (Nat × String) := [(245, "there is no room for one more"), (243, "there is nothing with this number"), (240, "a value is out of its range"), (213, "what is not 0 to 5"), (174, "there is no minute for the passage"), (168, "the ship can't go that way now"), (112, "what is not 0 to 4"), (108, "a passage is booked"), (63, "the point can't be added now")]
def xCast : List (String × String) := [("PilotBook$Berth", "java/lang/Object"), ("PilotBook$Ship", "java/lang/Object"), ("PilotBook$Pilot", "java/lang/Object"), ("PilotBook$Passage", "java/lang/Object"), ("java/lang/IllegalArgumentException", "java/lang/IllegalArgumentException"), ("java/lang/IllegalStateException", "java/lang/IllegalStateException"), ("java/lang/IndexOutOfBoundsException", "java/lang/IndexOutOfBoundsException")]
def xNot : List (String × String) := [("java/lang/IllegalArgumentException", "java/lang/IllegalStateException"), ("java/lang/IndexOutOfBoundsException", "java/lang/IllegalStateException")]
def xNest : List (String × Nat × String × String × String) := [("PilotBook", 54, "PilotBook$Tide", "size", "I"), ("PilotBook", 100, "PilotBook$Ship", "draft", "I"), ("PilotBook", 122, "PilotBook$Berth", "depth", "I"), ("PilotBook", 129, "PilotBook$Ship", "latest", "LPilotBook$Passage;"), ("PilotBook", 133, "PilotBook$Passage", "route", "LPilotBook$Route;"), ("PilotBook", 139, "PilotBook$Route", "isOutbound", "Z"), ("PilotBook", 145, "PilotBook$Passage", "shipBefore", "LPilotBook$Passage;"), ("PilotBook", 153, "PilotBook$Passage", "begin", "I"), ("PilotBook", 188, "PilotBook$Route", "ship", "LPilotBook$Ship;"), ("PilotBook", 192, "PilotBook$Passage", "pilot", "LPilotBook$Pilot;"), ("PilotBook", 199, "PilotBook$Pilot", "latest", "LPilotBook$Passage;"), ("PilotBook", 200, "PilotBook$Passage", "berthUntil", "I"), ("PilotBook", 203, "PilotBook$Ship", "number", "I"), ("PilotBook", 206, "PilotBook$Pilot", "number", "I"), ("PilotBook", 207, "PilotBook$Route", "tugs", "I"), ("PilotBook", 208, "PilotBook$Route", "berth", "LPilotBook$Berth;"), ("PilotBook", 212, "PilotBook$Berth", "number", "I"), ("PilotBook", 255, "PilotBook$Ship", "length", "I"), ("PilotBook", 258, "PilotBook$Berth", "length", "I"), ("PilotBook$Passage", 26, "PilotBook$Route", "ship", "LPilotBook$Ship;"), ("PilotBook$Passage", 32, "PilotBook$Ship", "latest", "LPilotBook$Passage;"), ("PilotBook$Passage", 41, "PilotBook$Pilot", "latest", "LPilotBook$Passage;"), ("PilotBook$Passage", 47, "PilotBook$Route", "isOutbound", "Z"), ("PilotBook$Pilot", 26, "PilotBook$Passage", "route", "LPilotBook$Route;"), ("PilotBook$Pilot", 32, "PilotBook$Route", "isOutbound", "Z"), ("PilotBook$Pilot", 41, "PilotBook$Route", "ship", "LPilotBook$Ship;"), ("PilotBook$Pilot", 45, "PilotBook$Ship", "length", "I"), ("PilotBook$Route", 23, "PilotBook$Ship", "length", "I")]
def xDecl : List MethodName := [⟨"java/lang/RuntimeException", "<init>", "(Ljava/lang/String;)V"⟩, ⟨"java/lang/Exception", "<init>", "(Ljava/lang/String;)V"⟩, ⟨"java/lang/Throwable", "<init>", "(Ljava/lang/String;)V"⟩]
def va_AA (t : FieldType) (U : State) : Prop := (Cond.arrayOver (.array t)).before #[] U = true
theorem va_AA.moved {t : FieldType} {u U : State} (hvm : u.vm.Alike U.vm) (h : va_AA t u) : va_AA t U := by
  obtain ⟨comp, c, k, h1, h2, h3, h4, h5⟩ := arrayOverA_spec h
  obtain ⟨k', hk', he⟩ := hvm.2.2 _ _ h3
  have hi : (U.vm.classes.findIdx? fun (x : Class) => match x.kind with | .array component _ => component == comp | _ => false) = some c := by
    rw [hvm.findIdx?_eq _ (fun _ => rfl)]
    exact h2
  have hkind : k'.kind = .array comp (.array t) := by rw [he]; exact h4
  have f1 : U.vm.findClass (FieldType.array t).toString = some comp := by rw [hvm.findClass]; exact h1
  have f2 : U.vm.findClass ("[" ++ (FieldType.array t).toString) = some c := by rw [hvm.findClass]; exact h5
  unfold va_AA Cond.before Cond.holds
  simp only [Cond.value]
  rw [f1, Option.bind_some]
  refine (congrArg (fun o : Option Nat => (o.bind (fun c => (U.vm.classes[c]?).map fun (k : Class) => match k.kind with | .array _ ty => decide (ty = FieldType.array t) && decide (U.vm.findClass ("[" ++ (FieldType.array t).toString) = some c) | _ => false) == some true)) hi).trans ?_
  simp [hk', hkind, f2]
/-- what the start gives that no class of the program writes -/
def xZ (X : XC) (U : State) : Prop :=
  va_Z RJx4a65c "DEFAULTCAPACITY_EMPTY_ELEMENTDATA" "[Ljava/lang/Object;" (.ref (xdc X).1) (xA X) U (xG X) ∧
  vx_Zq Bundle.tN "UNASSIGNED_STACK" Bundle.steD (xA X) U (xG X) ∧ vx_Zq Bundle.tN "SUPPRESSED_SENTINEL" Bundle.listD (xA X) U (xG X) ∧
  va_Mi "[Ljava/lang/Object;" (xdc X).2 U ∧ va_Dc U ∧ va_AO "java/lang/Object" U ∧
  (∀ q ∈ xStr, ∃ sa, vk_R RX6 q.1 q.2 sa U) ∧ (∀ q ∈ xCast, va_Nw (.castable q.1 q.2) U) ∧ (∀ q ∈ xNot, va_Nc q.1 q.2 U) ∧ (∀ q ∈ xNest, va_Nw (.fieldLinkNest q.1 q.2.1 q.2.2.1 q.2.2.2.1 q.2.2.2.2 "PilotBook") U) ∧ (∀ q ∈ xDecl, va_Nw (.declares q) U) ∧ va_T (.object "java/lang/Object") (xdc X).1 0 (fun _ => .null) (xA X) U (xG X) ∧ va_AA .int U ∧ va_X (xsc X).1 (xsc X).2.1 (xsc X).2.2 U (xG X)
theorem xZ.warm {X : XC} {s U : State} (hW : s.WarmedH U.vm) (h : xZ X s) : xZ X U := by
  obtain ⟨h1, h2, h3, h4, h5, h6, h7, h8, h9, h10, h11, h12, h13, h14⟩ := h
  exact ⟨h1.moved hW.alike, h2.moved hW.alike, h3.moved hW.alike, h4.moved hW.alike, h5.moved hW.alike, h6.moved hW.alike, fun q hq => by obtain ⟨sa, h⟩ := h7 q hq; exact ⟨sa, h.warm hW⟩, fun q hq => (h8 q hq).warmC hW, fun q hq => (h9 q hq).moved hW.alike, fun q hq => (h10 q hq).warmF hW, fun q hq => (h11 q hq).warmD hW, h12.moved hW.alike, h13.moved hW.alike, by
    obtain ⟨scr, g1, g2, g3, g4, g5⟩ := h14
    exact ⟨scr, g1, State.isArrayOf_alike hW.alike g2, g3, g4, g5⟩⟩
def xI (X : XC) (h : XH) (U : State) : Prop := (va_K X.1 vwCl (xT X) U ∧ xZ X U) ∧ xR X h U.heap ∧ va_S (xA X) (xG X) U.heap []
theorem xI.blind {X : XC} {h : XH} {U : State} {g : JFrame} {mk : MethodId} {a : Array Value} (q : xI X h U) : xI X h (U.calling g mk a) := by
  obtain ⟨⟨k, z⟩, r, sS⟩ := q
  exact ⟨⟨va_K.moved (u := U) (U := U.calling g mk a) (Vm.Alike.refl U.vm) k, xZ.warm (s := U) (U := U.calling g mk a) (State.WarmedH.refl U) z⟩, r, sS⟩
/-- how a method ends: it returns v over the heap h' -/
def xQ (X : XC) (Po : Option Value → XH → Prop) : Array Value → State → Outcome → State → Prop := fun _ st o t =>
  ∃ (v : Option Value) (h' : XH), o = .returned v ∧ Po v h' ∧ xR X h' t.heap ∧ va_S (xA X) (xG X) t.heap [] ∧ st.heap.size ≤ t.heap.size
def xQX (X : XC) (PX : String → XH → Prop) : String → State → State → Prop := fun E st t =>
  ∃ h' : XH, PX E h' ∧ xR X h' t.heap ∧ va_S (xA X) (xG X) t.heap [] ∧ st.heap.size ≤ t.heap.size
abbrev xRm (fr lo mc ms : Nat) : Room := { frames := fr, cells := mc, slots := ms, locals := lo }
/-- contracts: returning, returning or throwing, drawing -/
def xM (l : Launch) (dc : Nat × Nat) (y : MethodName) (ws : List Cond) (fr lo mc ms : Nat) (As : List Value) (h : XH) (Po : Option Value → XH → Prop) : Prop :=
  ∀ X : XC, xdc X = dc → Met l y ws (xRm fr lo mc ms) (va_Pc As (xI X h)) (xQ X Po) mc ms (xA X)
def xMX (l : Launch) (dc : Nat × Nat) (y : MethodName) (ws : List Cond) (fr lo mc ms : Nat) (As : List Value) (h : XH) (Po : Option Value → XH → Prop) (PX : String → XH → Prop) : Prop :=
  ∀ X : XC, xdc X = dc → vx_Met l y ws (xRm fr lo mc ms) (va_Pc As (xI X h)) (xQ X Po) (xQX X PX) mc ms (xA X)
abbrev xPi (P : Int32 → XH → Prop) : Option Value → XH → Prop := fun v h => ∃ r : Int32, v = some (.int r) ∧ P r h
abbrev xPl (P : Int64 → XH → Prop) : Option Value → XH → Prop := fun v h => ∃ r : Int64, v = some (.long r) ∧ P r h
abbrev xPd (P : UInt64 → XH → Prop) : Option Value → XH → Prop := fun v h => ∃ r : UInt64, v = some (.double r) ∧ P r h
abbrev xPq (P : Option Nat → XH → Prop) : Option Value → XH → Prop := fun v h => ∃ r : Option Nat, v = some (va_rf r) ∧ P r h
abbrev xPv (P : XH → Prop) : Option Value → XH → Prop := fun v h => v = none ∧ P h
/-! the judgement -/
abbrev XVT : Type := Nat → Nat → XH → Nat → List (Nat × Value) → List Value → Prop
def XV (X : XC) (ok : Drawn → Prop) (nL : Nat) (p : Program) (l : Launch) (e : Env) (R : Room) (s : State) (m : MethodId) (args : Array Value) (below : List Frame) (meth : Method) (c : Code) (Q : State → Prop) : XVT := fun cells slots h pc lv st =>
  ∀ (d : Drawn) (H : Heap) (locs : List Loc) (ls : Array Slot), ok d → xR X h H → va_S (xA X) s.heap H locs → lv_has ls nL lv → W p l e R s m args below meth c H locs cells slots Q (F0 m pc ls st)
def xF (X : XC) (own nm : String) (cc : ByteArray) (nL : Nat) (ws : List Cond) (p : Program) (s : State) (m : MethodId) (args : Array Value) (meth : Method) (c : Code) : Prop :=
  p.tables.exec = Jvm.exec ∧ c.code = cc ∧ c.maxLocals = nL ∧ s.vm.findClass own = some m.cls ∧ (∀ w ∈ ws, w.before args s = true) ∧ va_K X.1 vwCl (xT X) s ∧ xZ X s ∧ meth.locks = false ∧ va_S (xA X) (xG X) s.heap [] ∧ meth.name = nm
def xS (V : XVT) (X : XC) (l : Launch) (own nm : String) (cc : ByteArray) (nL : Nat) (ws : List Cond) (R : Room) : Prop :=
  ∃ (ok : Drawn → Prop) (p : Program) (e : Env) (s : State) (m : MethodId) (args : Array Value) (below : List Frame) (meth : Method) (c : Code) (Q : State → Prop), V = XV X ok nL p l e R s m args below meth c Q ∧ xF X own nm cc nL ws p s m args meth c
theorem xr_step {V : XVT} {X : XC} {l : Launch} {own nm : String} {cc : ByteArray} {nL : Nat} {ws : List Cond} {R : Room} {cells slots pc pc' : Nat} {h : XH} {lv lv' : List (Nat × Value)} {st st' : List Value} (S : xS V X l own nm cc nL ws R)
    (f : ∀ (p : Program) (e : Env) (s : State) (m : MethodId) (args : Array Value) (below : List Frame) (meth : Method) (c : Code) (Q : State → Prop) (H : Heap) (locs : List Loc) (ls : Array Slot), xF X own nm cc nL ws p s m args meth c → xR X h H → lv_has ls nL lv → (∀ ls', lv_has ls' nL lv' → W p l e R s m args below meth c H locs cells slots Q (F0 m pc' ls' st')) → W p l e R s m args below meth c H locs cells slots Q (F0 m pc ls st))
    (k : V cells slots h pc' lv' st') : V cells slots h pc lv st := by
  obtain ⟨ok, p, e, s, m, args, below, meth, c, Q, rfl, F⟩ := S
  intro d H locs ls hd hR hS hl
  refine f p e s m args below meth c Q H locs ls ?_ hR hl (fun ls' hl' => k d H locs ls' hd hR hS hl')
  obtain ⟨f1, f2, f3, f4, f5, f6, f7, f8, f9, f10⟩ := F
  exact ⟨f1, f2, f3, f4, f5, f6, f7, f8, f9, f10⟩
/-! the abstract heap as one list of cells -/
def xup (h : XH) (a : Nat) (e : XA) : XH := fun q => if q = a then some e else h q
theorem xup_self (h : XH) (a : Nat) (e : XA) : xup h a e a = some e := if_pos rfl
theorem xup_ne {h : XH} {a q : Nat} {e : XA} (n : q ≠ a) : xup h a e q = h q := if_neg n
def xL (X : XC) (h : XH) (n : Nat) : va_W := (List.range n).filterMap (fun q => if (xG X).size ≤ q then (h q).map (fun e => (q, xE (xC X) e)) else none)
theorem xL_mem {X : XC} {h : XH} {n : Nat} {x : Nat × va_E} (hx : x ∈ xL X h n) : (xG X).size ≤ x.1 ∧ ∃ e, h x.1 = some e ∧ x.2 = xE (xC X) e := by
  obtain ⟨q, -, hq⟩ := List.mem_filterMap.mp hx
  by_cases hc : (xG X).size ≤ q
  · rw [if_pos hc] at hq
    cases he : h q with
    | none => rw [he] at hq; cases hq
    | some e => rw [he] at hq; cases hq; exact ⟨hc, e, he, rfl⟩
  · rw [if_neg hc] at hq; cases hq
theorem xL_get {X : XC} {h : XH} {n a : Nat} {e : XA} (ha : h a = some e) (hl : (xG X).size ≤ a) (hn : a < n) : ∃ k : Nat, (xL X h n)[k]? = some (a, xE (xC X) e) := by
  have hm : (a, xE (xC X) e) ∈ xL X h n := List.mem_filterMap.mpr ⟨a, List.mem_range.mpr hn, by rw [if_pos hl, ha]; rfl⟩
  exact List.getElem?_of_mem hm
theorem xL_inj {X : XC} {h : XH} {n i j : Nat} {p q : Nat × va_E} (hp : (xL X h n)[i]? = some p) (hq : (xL X h n)[j]? = some q) (e : p.1 = q.1) : i = j := by
  have hw : (xL X h n).Pairwise (fun x y => x.1 < y.1) := by
    refine List.Pairwise.filterMap _ ?_ (List.pairwise_lt_range)
    intro a b hab x hx y hy
    have h1 : x.1 = a := by
      by_cases hc : (xG X).size ≤ a
      · rw [if_pos hc] at hx
        cases he : h a with
        | none => rw [he] at hx; cases hx
        | some e => rw [he] at hx; cases hx; rfl
      · rw [if_neg hc] at hx; cases hx
    have h2 : y.1 = b := by
      by_cases hc : (xG X).size ≤ b
      · rw [if_pos hc] at hy
        cases he : h b with
        | none => rw [he] at hy; cases hy
        | some e => rw [he] at hy; cases hy; rfl
      · rw [if_neg hc] at hy; cases hy
    rw [h1, h2]; exact hab
  obtain ⟨hi, hpi⟩ := List.getElem?_eq_some_iff.mp hp
  obtain ⟨hj, hqj⟩ := List.getElem?_eq_some_iff.mp hq
  rcases Nat.lt_trichotomy i j with c | c | c
  · have := List.pairwise_iff_getElem.mp hw i j hi hj c
    rw [hpi, hqj] at this; omega
  · exact c
  · have := List.pairwise_iff_getElem.mp hw j i hj hi c
    rw [hpi, hqj] at this; omega
theorem xR_at {X : XC} {h : XH} {H : Heap} {a : Nat} {e : XA} (hR : xR X h H) (ha : h a = some e) (hl : (xG X).size ≤ a) : va_at X.1 vwCl (a, xE (xC X) e) H := by
  rcases hR a e ha with h1 | h1
  · exact h1.1
  · exact absurd h1.2 (Nat.not_lt.mpr hl)
theorem xL_P {X : XC} {h : XH} {H : Heap} (hR : xR X h H) : va_P X.1 vwCl (xL X h H.size) H := by
  intro k q hk
  obtain ⟨-, e, he, h2⟩ := xL_mem (List.mem_of_getElem? hk)
  obtain ⟨a, v⟩ := q
  dsimp only at he h2
  subst h2
  exact xR_at hR he (xL_mem (List.mem_of_getElem? hk)).1
theorem xL_D {X : XC} {h : XH} {n : Nat} : va_D (xA X) (xL X h n) :=
  ⟨fun _ _ _ _ hp hq e => xL_inj hp hq e, fun _ _ hk => (xL_mem (List.mem_of_getElem? hk)).1⟩
theorem xR_lt {X : XC} {h : XH} {H : Heap} {a : Nat} {e : XA} (hR : xR X h H) (ha : h a = some e) (hl : (xG X).size ≤ a) : a < H.size := (xR_at hR ha hl).lt
theorem xR_lo {X : XC} {h : XH} {H : Heap} {a : Nat} {e : XA} (hR : xR X h H) (ha : h a = some e) (hne : e ≠ xro) (hn3 : ∀ (L : Nat) (f : Nat → Int32), e ≠ .inl (3, L, .inl f) := by intro _ _ z; cases z) : (xG X).size ≤ a := (hR a e ha).elim (fun q => q.2) (fun q => q.1.elim (fun w => absurd w.1 hne) (fun w => absurd w.1 (hn3 _ _)))
theorem xS_keep {X : XC} {H H1 : Heap} {locs locs1 : List Loc} (hS : va_S (xA X) (xG X) H locs) (hS1 : va_S (xA X) (xG X) H1 locs1) {q : Nat} (hq : q < (xG X).size) : H1[q]? = H[q]? :=
  (hS1.2.1 q hq (Nat.not_le.mpr hq)).trans (hS.2.1 q hq (Nat.not_le.mpr hq)).symm
theorem xR_keep {X : XC} {h : XH} {H H1 : Heap} {locs locs1 : List Loc} (hR : xR X h H) (hS : va_S (xA X) (xG X) H locs) (hS1 : va_S (xA X) (xG X) H1 locs1) {q : Nat} {e : XA} (he : h q = some e) (hq : q < (xG X).size) : (va_at X.1 vwCl (q, xE (xC X) e) H1 ∧ (xG X).size ≤ q) ∨ (xRO X q e ∧ q < (xG X).size) := by
  rcases hR q e he with h1 | h1
  · exact absurd hq (Nat.not_lt.mpr h1.2)
  · exact Or.inr h1
theorem xR_set {X : XC} {h : XH} {H H1 : Heap} {locs locs1 : List Loc} {k a : Nat} {e e1 : XA} (hR : xR X h H) (hS : va_S (xA X) (xG X) H locs) (hk : (xL X h H.size)[k]? = some (a, xE (xC X) e)) (hP1 : va_P X.1 vwCl ((xL X h H.size).set k (a, xE (xC X) e1)) H1) (hS1 : va_S (xA X) (xG X) H1 locs1) : xR X (xup h a e1) H1 := by
  have hlt : k < (xL X h H.size).length := (List.getElem?_eq_some_iff.mp hk).1
  have hlo : (xG X).size ≤ a := (xL_mem (List.mem_of_getElem? hk)).1
  intro q e0 he
  by_cases hq : q = a
  · subst hq
    rw [xup_self] at he
    cases he
    exact Or.inl ⟨hP1 k _ (by rw [List.getElem?_set_self hlt]), hlo⟩
  · rw [xup_ne hq] at he
    by_cases hl : (xG X).size ≤ q
    · obtain ⟨j, hj⟩ := xL_get (X := X) (n := H.size) he hl (xR_lt hR he hl)
      have hjk : k ≠ j := fun c => hq (by subst c; exact congrArg Prod.fst (Option.some.inj (hj.symm.trans hk)))
      exact Or.inl ⟨hP1 j _ (by rw [List.getElem?_set_ne hjk]; exact hj), hl⟩
    · exact xR_keep hR hS hS1 he (Nat.lt_of_not_le hl)
theorem xR_push {X : XC} {h : XH} {H H1 : Heap} {locs locs1 : List Loc} {q : Nat} {e1 : XA} (hR : xR X h H) (hS : va_S (xA X) (xG X) H locs) (hP1 : va_P X.1 vwCl (xL X h H.size ++ [(q, xE (xC X) e1)]) H1) (hD1 : va_D (xA X) (xL X h H.size ++ [(q, xE (xC X) e1)])) (hS1 : va_S (xA X) (xG X) H1 locs1) : h q = none ∧ xR X (xup h q e1) H1 := by
  have hlast : (xL X h H.size ++ [(q, xE (xC X) e1)])[(xL X h H.size).length]? = some (q, xE (xC X) e1) := by simp
  have hlo : (xG X).size ≤ q := hD1.2 _ _ hlast
  have hn : h q = none := by
    cases he : h q with
    | none => rfl
    | some e0 =>
      obtain ⟨j, hj⟩ := xL_get (X := X) (n := H.size) he hlo (xR_lt hR he hlo)
      have hjl : j < (xL X h H.size).length := (List.getElem?_eq_some_iff.mp hj).1
      have := hD1.1 j _ (q, xE (xC X) e0) _ (by rw [List.getElem?_append_left hjl]; exact hj) hlast rfl
      omega
  refine ⟨hn, fun z e0 he => ?_⟩
  by_cases hz : z = q
  · subst hz
    rw [xup_self] at he
    cases he
    exact Or.inl ⟨hP1 _ _ hlast, hlo⟩
  · rw [xup_ne hz] at he
    by_cases hl : (xG X).size ≤ z
    · obtain ⟨j, hj⟩ := xL_get (X := X) (n := H.size) he hl (xR_lt hR he hl)
      have hjl : j < (xL X h H.size).length := (List.getElem?_eq_some_iff.mp hj).1
      exact Or.inl ⟨hP1 j _ (by rw [List.getElem?_append_left hjl]; exact hj), hl⟩
    · exact xR_keep hR hS hS1 he (Nat.lt_of_not_le hl)
theorem xR_one {X : XC} {h : XH} {H : Heap} {a : Nat} {e : XA} (hR : xR X h H) (ha : h a = some e) (hne : e ≠ xro := by intro z; cases z) (hn3 : ∀ (L : Nat) (f : Nat → Int32), e ≠ .inl (3, L, .inl f) := by intro _ _ z; cases z) : va_P X.1 vwCl [(a, xE (xC X) e)] H := by
  intro k q hk
  have hz : k < 1 := (List.getElem?_eq_some_iff.mp hk).1
  rw [show k = 0 by omega] at hk
  cases hk
  exact xR_at hR ha (xR_lo hR ha hne hn3)
theorem xK_eq {D : va_G} {X : XC} {s : State} {cA : ClassId} {ty : FieldType} (hK : va_K D vwCl (xT X ++ [(cA, ty)]) s) (k : Nat) {c0 : ClassId} (hk : (xT X)[k]? = some (c0, ty)) : cA = c0 := by
  have h1 := (hK.2 5 (cA, ty) rfl).2
  have hk5 : k < 5 := (List.getElem?_eq_some_iff.mp hk).1
  have h2 := (hK.2 k (c0, ty) (by rw [List.getElem?_append_left hk5]; exact hk)).2
  cases ty <;> first
    | (obtain ⟨-, -, -, -, -, e1⟩ := h1; obtain ⟨-, -, -, -, -, e2⟩ := h2; exact Option.some.inj (e1.symm.trans e2))
    | exact Option.some.inj (Eq.trans (Eq.symm h1) h2)
theorem xasg (s : State) (c : ClassId) : s.vm.assignable c c = true := by
  unfold Vm.assignable Vm.assignableAux
  simp
theorem xS_tr {X : XC} {s : State} {H : Heap} {locs : List Loc} (hG : va_S (xA X) (xG X) s.heap []) (hS : va_S (xA X) s.heap H locs) : va_S (xA X) (xG X) H locs :=
  ⟨Nat.le_trans hG.1 hS.1, fun q h1 h2 => (hS.2.1 q (Nat.lt_of_lt_of_le h1 hG.1) h2).trans (hG.2.1 q h1 h2), hS.2.2⟩
section
variable {V : XVT} {X : XC} {l : Launch} {own nm : String} {cc : ByteArray} {nL : Nat} {ws : List Cond} {R : Room} {cells slots pc : Nat} {h : XH} {lv : List (Nat × Value)} {st : List Value}

theorem xr_iadd (S : xS V X l own nm cc nL ws R) {x y : Int32} (hdg : decode cc pc = .ok (.iadd, 1))  (k : V cells slots h (pc + 1) lv (.int (x + y) :: st)) : V cells slots h pc lv (.int y :: .int x :: st) :=
  xr_step S (fun p e s m args below meth c Q H locs ls F hR hl k => by obtain ⟨hx, hb, hml, hown, hts, hK, hZ, hlk, hGs, hnm⟩ := F; exact lv_iadd hx hb hdg (k ls hl)) k
theorem xr_isub (S : xS V X l own nm cc nL ws R) {x y : Int32} (hdg : decode cc pc = .ok (.isub, 1))  (k : V cells slots h (pc + 1) lv (.int (x - y) :: st)) : V cells slots h pc lv (.int y :: .int x :: st) :=
  xr_step S (fun p e s m args below meth c Q H locs ls F hR hl k => by obtain ⟨hx, hb, hml, hown, hts, hK, hZ, hlk, hGs, hnm⟩ := F; exact lv_isub hx hb hdg (k ls hl)) k
theorem xr_imul (S : xS V X l own nm cc nL ws R) {x y : Int32} (hdg : decode cc pc = .ok (.imul, 1))  (k : V cells slots h (pc + 1) lv (.int (x * y) :: st)) : V cells slots h pc lv (.int y :: .int x :: st) :=
  xr_step S (fun p e s m args below meth c Q H locs ls F hR hl k => by obtain ⟨hx, hb, hml, hown, hts, hK, hZ, hlk, hGs, hnm⟩ := F; exact lv_imul hx hb hdg (k ls hl)) k
theorem xr_iand (S : xS V X l own nm cc nL ws R) {x y : Int32} (hdg : decode cc pc = .ok (.iand, 1))  (k : V cells slots h (pc + 1) lv (.int (x &&& y) :: st)) : V cells slots h pc lv (.int y :: .int x :: st) :=
  xr_step S (fun p e s m args below meth c Q H locs ls F hR hl k => by obtain ⟨hx, hb, hml, hown, hts, hK, hZ, hlk, hGs, hnm⟩ := F; exact lv_iand hx hb hdg (k ls hl)) k
theorem xr_ishr (S : xS V X l own nm cc nL ws R) {x y : Int32} (hdg : decode cc pc = .ok (.ishr, 1))  (k : V cells slots h (pc + 1) lv (.int (x >>> (y &&& 31)) :: st)) : V cells slots h pc lv (.int y :: .int x :: st) :=
  xr_step S (fun p e s m args below meth c Q H locs ls F hR hl k => by obtain ⟨hx, hb, hml, hown, hts, hK, hZ, hlk, hGs, hnm⟩ := F; exact lv_ishr hx hb hdg (k ls hl)) k
theorem xr_ior (S : xS V X l own nm cc nL ws R) {x y : Int32} (hdg : decode cc pc = .ok (.ior, 1))  (k : V cells slots h (pc + 1) lv (.int (x ||| y) :: st)) : V cells slots h pc lv (.int y :: .int x :: st) :=
  xr_step S (fun p e s m args below meth c Q H locs ls F hR hl k => by obtain ⟨hx, hb, hml, hown, hts, hK, hZ, hlk, hGs, hnm⟩ := F; exact lv_ior hx hb hdg (k ls hl)) k
theorem xr_ishl (S : xS V X l own nm cc nL ws R) {x y : Int32} (hdg : decode cc pc = .ok (.ishl, 1))  (k : V cells slots h (pc + 1) lv (.int (x <<< (y &&& 31)) :: st)) : V cells slots h pc lv (.int y :: .int x :: st) :=
  xr_step S (fun p e s m args below meth c Q H locs ls F hR hl k => by obtain ⟨hx, hb, hml, hown, hts, hK, hZ, hlk, hGs, hnm⟩ := F; exact lv_ishl hx hb hdg (k ls hl)) k
theorem xr_irem (S : xS V X l own nm cc nL ws R) {x y : Int32} (hdg : decode cc pc = .ok (.irem, 1)) (hne : ¬ y = 0) (k : V cells slots h (pc + 1) lv (.int (x - x / y * y) :: st)) : V cells slots h pc lv (.int y :: .int x :: st) :=
  xr_step S (fun p e s m args below meth c Q H locs ls F hR hl k => by obtain ⟨hx, hb, hml, hown, hts, hK, hZ, hlk, hGs, hnm⟩ := F; exact lv_irem hx hb hdg hne (k ls hl)) k
theorem xr_dup2 (S : xS V X l own nm cc nL ws R) {va vb : Value} (hdg : decode cc pc = .ok (.dup2, 1)) (hva : va.category = 1) (hvb : vb.category = 1) (k : V cells slots h (pc + 1) lv (va :: vb :: va :: vb :: st)) : V cells slots h pc lv (va :: vb :: st) :=
  xr_step S (fun p e s m args below meth c Q H locs ls F hR hl k => by obtain ⟨hx, hb, hml, hown, hts, hK, hZ, hlk, hGs, hnm⟩ := F; exact lv_dup2_11 hx hb hdg hva hvb (k ls hl)) k
theorem xr_idiv (S : xS V X l own nm cc nL ws R) {x y : Int32} (hdg : decode cc pc = .ok (.idiv, 1)) (hne : ¬ y = 0) (k : V cells slots h (pc + 1) lv (.int (x / y) :: st)) : V cells slots h pc lv (.int y :: .int x :: st) :=
  xr_step S (fun p e s m args below meth c Q H locs ls F hR hl k => by obtain ⟨hx, hb, hml, hown, hts, hK, hZ, hlk, hGs, hnm⟩ := F; exact lv_idiv hx hb hdg hne (k ls hl)) k
theorem xr_i2l (S : xS V X l own nm cc nL ws R) {x : Int32} (hdg : decode cc pc = .ok (.i2l, 1))  (k : V cells slots h (pc + 1) lv (.long x.toInt64 :: st)) : V cells slots h pc lv (.int x :: st) :=
  xr_step S (fun p e s m args below meth c Q H locs ls F hR hl k => by obtain ⟨hx, hb, hml, hown, hts, hK, hZ, hlk, hGs, hnm⟩ := F; exact lv_i2l hx hb hdg rfl (k ls hl)) k
theorem xr_i2d (S : xS V X l own nm cc nL ws R) {x : Int32} (hdg : decode cc pc = .ok (.i2d, 1))  (k : V cells slots h (pc + 1) lv (.double (FP.i2d x) :: st)) : V cells slots h pc lv (.int x :: st) :=
  xr_step S (fun p e s m args below meth c Q H locs ls F hR hl k => by obtain ⟨hx, hb, hml, hown, hts, hK, hZ, hlk, hGs, hnm⟩ := F; exact lv_i2d hx hb hdg (k ls hl)) k
theorem xr_ladd (S : xS V X l own nm cc nL ws R) {x y : Int64} (hdg : decode cc pc = .ok (.ladd, 1))  (k : V cells slots h (pc + 1) lv (.long (x + y) :: st)) : V cells slots h pc lv (.long y :: .long x :: st) :=
  xr_step S (fun p e s m args below meth c Q H locs ls F hR hl k => by obtain ⟨hx, hb, hml, hown, hts, hK, hZ, hlk, hGs, hnm⟩ := F; exact lv_ladd hx hb hdg (k ls hl)) k
theorem xr_lmul (S : xS V X l own nm cc nL ws R) {x y : Int64} (hdg : decode cc pc = .ok (.lmul, 1))  (k : V cells slots h (pc + 1) lv (.long (x * y) :: st)) : V cells slots h pc lv (.long y :: .long x :: st) :=
  xr_step S (fun p e s m args below meth c Q H locs ls F hR hl k => by obtain ⟨hx, hb, hml, hown, hts, hK, hZ, hlk, hGs, hnm⟩ := F; exact lv_lmul hx hb hdg (k ls hl)) k
theorem xr_lcmp (S : xS V X l own nm cc nL ws R) {x y : Int64} (hdg : decode cc pc = .ok (.lcmp, 1))  (k : V cells slots h (pc + 1) lv (.int (lg_cmp x y) :: st)) : V cells slots h pc lv (.long y :: .long x :: st) :=
  xr_step S (fun p e s m args below meth c Q H locs ls F hR hl k => by obtain ⟨hx, hb, hml, hown, hts, hK, hZ, hlk, hGs, hnm⟩ := F; exact W.lcmp hx hb hdg (k ls hl)) k
theorem xr_dcmp (S : xS V X l own nm cc nL ws R) {x y : UInt64} {op : CmpOp} (hdg : decode cc pc = .ok (.dcmp op, 1))  (k : V cells slots h (pc + 1) lv (.int (Op.cmpValue (FP.dcmp x y) op) :: st)) : V cells slots h pc lv (.double y :: .double x :: st) :=
  xr_step S (fun p e s m args below meth c Q H locs ls F hR hl k => by obtain ⟨hx, hb, hml, hown, hts, hK, hZ, hlk, hGs, hnm⟩ := F; exact lv_dcmp hx hb hdg (k ls hl)) k
theorem xr_iconst (S : xS V X l own nm cc nL ws R) {n : Int} (v : Int32) (hdg : decode cc pc = .ok (.iconst n, 1)) (hv : Int32.ofInt n = v) (k : V cells slots h (pc + 1) lv (.int v :: st)) : V cells slots h pc lv (st) :=
  xr_step S (fun p e s m args below meth c Q H locs ls F hR hl k => by obtain ⟨hx, hb, hml, hown, hts, hK, hZ, hlk, hGs, hnm⟩ := F; exact lv_iconst hx hb hdg hv (k ls hl)) k
theorem xr_bipush (S : xS V X l own nm cc nL ws R) {n : Int} (v : Int32) (hdg : decode cc pc = .ok (.bipush n, 2)) (hv : (Int8.ofInt n).toInt32 = v) (k : V cells slots h (pc + 2) lv (.int v :: st)) : V cells slots h pc lv (st) :=
  xr_step S (fun p e s m args below meth c Q H locs ls F hR hl k => by obtain ⟨hx, hb, hml, hown, hts, hK, hZ, hlk, hGs, hnm⟩ := F; exact lv_bipush hx hb hdg hv (k ls hl)) k
theorem xr_sipush (S : xS V X l own nm cc nL ws R) {n : Int} (v : Int32) (hdg : decode cc pc = .ok (.sipush n, 3)) (hv : (Int16.ofInt n).toInt32 = v) (k : V cells slots h (pc + 3) lv (.int v :: st)) : V cells slots h pc lv (st) :=
  xr_step S (fun p e s m args below meth c Q H locs ls F hR hl k => by obtain ⟨hx, hb, hml, hown, hts, hK, hZ, hlk, hGs, hnm⟩ := F; exact lv_sipush hx hb hdg hv (k ls hl)) k
theorem xr_lconst (S : xS V X l own nm cc nL ws R) {n : Fin 2} (v : Int64) (hdg : decode cc pc = .ok (.lconst n, 1)) (hv : Int64.ofNat (n : Nat) = v) (k : V cells slots h (pc + 1) lv (.long v :: st)) : V cells slots h pc lv (st) :=
  xr_step S (fun p e s m args below meth c Q H locs ls F hR hl k => by obtain ⟨hx, hb, hml, hown, hts, hK, hZ, hlk, hGs, hnm⟩ := F; exact lv_lconst hx hb hdg hv (k ls hl)) k
theorem xr_dconst0 (S : xS V X l own nm cc nL ws R)  (hdg : decode cc pc = .ok (.dconst 0, 1))  (k : V cells slots h (pc + 1) lv (.double FP.dconst0 :: st)) : V cells slots h pc lv (st) :=
  xr_step S (fun p e s m args below meth c Q H locs ls F hR hl k => by obtain ⟨hx, hb, hml, hown, hts, hK, hZ, hlk, hGs, hnm⟩ := F; exact lv_dconst0 hx hb hdg (k ls hl)) k
theorem xr_ldc (S : xS V X l own nm cc nL ws R) {index : Nat} (v : Int32) (hdg : decode cc pc = .ok (.ldc index, 2)) (hc : Cond.constant own index v ∈ ws) (k : V cells slots h (pc + 2) lv (.int v :: st)) : V cells slots h pc lv (st) :=
  xr_step S (fun p e s m args below meth c Q H locs ls F hR hl k => by obtain ⟨hx, hb, hml, hown, hts, hK, hZ, hlk, hGs, hnm⟩ := F; exact lv_ldc hx hb hown (hts _ hc) hdg (k ls hl)) k
theorem xr_ldc2 (S : xS V X l own nm cc nL ws R) {index : Nat} (v : Int64) (hdg : decode cc pc = .ok (.ldc2_w index, 3)) (hc : Cond.constantLong own index v ∈ ws) (k : V cells slots h (pc + 3) lv (.long v :: st)) : V cells slots h pc lv (st) :=
  xr_step S (fun p e s m args below meth c Q H locs ls F hR hl k => by obtain ⟨hx, hb, hml, hown, hts, hK, hZ, hlk, hGs, hnm⟩ := F; exact lv_ldc2 hx hb hown (hts _ hc) hdg (k ls hl)) k
theorem xr_dup (S : xS V X l own nm cc nL ws R) {va : Value} (hdg : decode cc pc = .ok (.dup, 1)) (hva : va.category = 1) (k : V cells slots h (pc + 1) lv (va :: va :: st)) : V cells slots h pc lv (va :: st) :=
  xr_step S (fun p e s m args below meth c Q H locs ls F hR hl k => by obtain ⟨hx, hb, hml, hown, hts, hK, hZ, hlk, hGs, hnm⟩ := F; exact lv_dup hx hb hdg hva (k ls hl)) k
theorem xr_dup_x1 (S : xS V X l own nm cc nL ws R) {va vb : Value} (hdg : decode cc pc = .ok (.dup_x1, 1)) (hva : va.category = 1) (hvb : vb.category = 1) (k : V cells slots h (pc + 1) lv (va :: vb :: va :: st)) : V cells slots h pc lv (va :: vb :: st) :=
  xr_step S (fun p e s m args below meth c Q H locs ls F hR hl k => by obtain ⟨hx, hb, hml, hown, hts, hK, hZ, hlk, hGs, hnm⟩ := F; exact lv_dup_x1 hx hb hdg hva hvb (k ls hl)) k
theorem xr_pop (S : xS V X l own nm cc nL ws R) {va : Value} (hdg : decode cc pc = .ok (.pop, 1)) (hva : va.category = 1) (k : V cells slots h (pc + 1) lv (st)) : V cells slots h pc lv (va :: st) :=
  xr_step S (fun p e s m args below meth c Q H locs ls F hR hl k => by obtain ⟨hx, hb, hml, hown, hts, hK, hZ, hlk, hGs, hnm⟩ := F; exact lv_pop hx hb hdg hva (k ls hl)) k
theorem xr_null (S : xS V X l own nm cc nL ws R)  (hdg : decode cc pc = .ok (.aconst_null, 1))  (k : V cells slots h (pc + 1) lv (va_rf none :: st)) : V cells slots h pc lv (st) :=
  xr_step S (fun p e s m args below meth c Q H locs ls F hR hl k => by obtain ⟨hx, hb, hml, hown, hts, hK, hZ, hlk, hGs, hnm⟩ := F; exact lv_null hx hb hdg (k ls hl)) k
theorem xr_iload_n (S : xS V X l own nm cc nL ws R) {kf : Fin 4} (kk : Nat) {x : Int32} (hdg : decode cc pc = .ok (.iload_n kf, 1)) (hk : lv[kk]? = some ((kf : Nat), .int x)) (k : V cells slots h (pc + 1) lv (.int x :: st)) : V cells slots h pc lv (st) :=
  xr_step S (fun p e s m args below meth c Q H locs ls F hR hl k => by obtain ⟨hx, hb, hml, hown, hts, hK, hZ, hlk, hGs, hnm⟩ := F; exact lv_iload_n hx hb hdg rfl (lv_at hl kk hk) (k ls hl)) k
theorem xr_iload (S : xS V X l own nm cc nL ws R) {i : Nat} (kk : Nat) {x : Int32} (hdg : decode cc pc = .ok (.iload i, 2)) (hk : lv[kk]? = some (i, .int x)) (k : V cells slots h (pc + 2) lv (.int x :: st)) : V cells slots h pc lv (st) :=
  xr_step S (fun p e s m args below meth c Q H locs ls F hR hl k => by obtain ⟨hx, hb, hml, hown, hts, hK, hZ, hlk, hGs, hnm⟩ := F; exact lv_iload hx hb hdg (lv_at hl kk hk) (k ls hl)) k
theorem xr_lload_n (S : xS V X l own nm cc nL ws R) {kf : Fin 4} (kk : Nat) {x : Int64} (hdg : decode cc pc = .ok (.lload_n kf, 1)) (hk : lv[kk]? = some ((kf : Nat), .long x)) (k : V cells slots h (pc + 1) lv (.long x :: st)) : V cells slots h pc lv (st) :=
  xr_step S (fun p e s m args below meth c Q H locs ls F hR hl k => by obtain ⟨hx, hb, hml, hown, hts, hK, hZ, hlk, hGs, hnm⟩ := F; exact lv_lload_n hx hb hdg rfl (lv_at hl kk hk) (k ls hl)) k
theorem xr_lload (S : xS V X l own nm cc nL ws R) {i : Nat} (kk : Nat) {x : Int64} (hdg : decode cc pc = .ok (.lload i, 2)) (hk : lv[kk]? = some (i, .long x)) (k : V cells slots h (pc + 2) lv (.long x :: st)) : V cells slots h pc lv (st) :=
  xr_step S (fun p e s m args below meth c Q H locs ls F hR hl k => by obtain ⟨hx, hb, hml, hown, hts, hK, hZ, hlk, hGs, hnm⟩ := F; exact lv_lload hx hb hdg (lv_at hl kk hk) (k ls hl)) k
theorem xr_dload_n (S : xS V X l own nm cc nL ws R) {kf : Fin 4} (kk : Nat) {x : UInt64} (hdg : decode cc pc = .ok (.dload_n kf, 1)) (hk : lv[kk]? = some ((kf : Nat), .double x)) (k : V cells slots h (pc + 1) lv (.double x :: st)) : V cells slots h pc lv (st) :=
  xr_step S (fun p e s m args below meth c Q H locs ls F hR hl k => by obtain ⟨hx, hb, hml, hown, hts, hK, hZ, hlk, hGs, hnm⟩ := F; exact lv_dload_n hx hb hdg rfl (lv_at hl kk hk) (k ls hl)) k
theorem xr_dload (S : xS V X l own nm cc nL ws R) {i : Nat} (kk : Nat) {x : UInt64} (hdg : decode cc pc = .ok (.dload i, 2)) (hk : lv[kk]? = some (i, .double x)) (k : V cells slots h (pc + 2) lv (.double x :: st)) : V cells slots h pc lv (st) :=
  xr_step S (fun p e s m args below meth c Q H locs ls F hR hl k => by obtain ⟨hx, hb, hml, hown, hts, hK, hZ, hlk, hGs, hnm⟩ := F; exact lv_dload hx hb hdg (lv_at hl kk hk) (k ls hl)) k
theorem xr_aload_n (S : xS V X l own nm cc nL ws R) {kf : Fin 4} (kk : Nat) {x : Nat} (hdg : decode cc pc = .ok (.aload_n kf, 1)) (hk : lv[kk]? = some ((kf : Nat), .ref x)) (k : V cells slots h (pc + 1) lv (.ref x :: st)) : V cells slots h pc lv (st) :=
  xr_step S (fun p e s m args below meth c Q H locs ls F hR hl k => by obtain ⟨hx, hb, hml, hown, hts, hK, hZ, hlk, hGs, hnm⟩ := F; exact lv_aload_n hx hb hdg rfl (lv_at hl kk hk) (k ls hl)) k
theorem xr_aload (S : xS V X l own nm cc nL ws R) {i : Nat} (kk : Nat) {x : Nat} (hdg : decode cc pc = .ok (.aload i, 2)) (hk : lv[kk]? = some (i, .ref x)) (k : V cells slots h (pc + 2) lv (.ref x :: st)) : V cells slots h pc lv (st) :=
  xr_step S (fun p e s m args below meth c Q H locs ls F hR hl k => by obtain ⟨hx, hb, hml, hown, hts, hK, hZ, hlk, hGs, hnm⟩ := F; exact lv_aload hx hb hdg (lv_at hl kk hk) (k ls hl)) k
theorem xr_aloadq_n (S : xS V X l own nm cc nL ws R) {kf : Fin 4} (kk : Nat) {r : Option Nat} (hdg : decode cc pc = .ok (.aload_n kf, 1)) (hk : lv[kk]? = some ((kf : Nat), va_rf r)) (k : V cells slots h (pc + 1) lv (va_rf r :: st)) : V cells slots h pc lv (st) :=
  xr_step S (fun p e s m args below meth c Q H locs ls F hR hl k => by obtain ⟨hx, hb, hml, hown, hts, hK, hZ, hlk, hGs, hnm⟩ := F; exact (match r, hk, k with | none, hk, k => lv_aload_nN hx hb hdg rfl (lv_at hl kk hk) (k ls hl) | some a, hk, k => lv_aload_n hx hb hdg rfl (lv_at hl kk hk) (k ls hl))) k
theorem xr_aloadq (S : xS V X l own nm cc nL ws R) {i : Nat} (kk : Nat) {r : Option Nat} (hdg : decode cc pc = .ok (.aload i, 2)) (hk : lv[kk]? = some (i, va_rf r)) (k : V cells slots h (pc + 2) lv (va_rf r :: st)) : V cells slots h pc lv (st) :=
  xr_step S (fun p e s m args below meth c Q H locs ls F hR hl k => by obtain ⟨hx, hb, hml, hown, hts, hK, hZ, hlk, hGs, hnm⟩ := F; exact (match r, hk, k with | none, hk, k => lv_aloadN hx hb hdg (lv_at hl kk hk) (k ls hl) | some a, hk, k => lv_aload hx hb hdg (lv_at hl kk hk) (k ls hl))) k
theorem xr_istore_n (S : xS V X l own nm cc nL ws R) {kf : Fin 4} {x : Int32} (lv' : List (Nat × Value)) (hdg : decode cc pc = .ok (.istore_n kf, 1)) (hn : (kf : Nat) < nL) (he : ((kf : Nat), Value.int x) :: lv.filter (fun q => !(q.1 == (kf : Nat)) && !(q.1 + 1 == (kf : Nat) && q.2.category == 2)) = lv') (k : V cells slots h (pc + 1) lv' st) : V cells slots h pc lv (Value.int x :: st) :=
  xr_step S (fun p e s m args below meth c Q H locs ls F hR hl k => by obtain ⟨hx, hb, -⟩ := F; exact lv_istore_n hx hb hdg rfl hl hn he k) k
theorem xr_istore (S : xS V X l own nm cc nL ws R) {i : Nat} {x : Int32} (lv' : List (Nat × Value)) (hdg : decode cc pc = .ok (.istore i, 2)) (hn : i < nL) (he : (i, Value.int x) :: lv.filter (fun q => !(q.1 == i) && !(q.1 + 1 == i && q.2.category == 2)) = lv') (k : V cells slots h (pc + 2) lv' st) : V cells slots h pc lv (Value.int x :: st) :=
  xr_step S (fun p e s m args below meth c Q H locs ls F hR hl k => by obtain ⟨hx, hb, -⟩ := F; exact lv_istore hx hb hdg hl hn he k) k
theorem xr_lstore_n (S : xS V X l own nm cc nL ws R) {kf : Fin 4} {x : Int64} (lv' : List (Nat × Value)) (hdg : decode cc pc = .ok (.lstore_n kf, 1)) (hn : (kf : Nat) + 1 < nL) (he : ((kf : Nat), Value.long x) :: lv.filter (fun q => !(q.1 == (kf : Nat)) && (!(q.1 == (kf : Nat) + 1) && !(q.1 + 1 == (kf : Nat) && q.2.category == 2))) = lv') (k : V cells slots h (pc + 1) lv' st) : V cells slots h pc lv (Value.long x :: st) :=
  xr_step S (fun p e s m args below meth c Q H locs ls F hR hl k => by obtain ⟨hx, hb, -⟩ := F; exact lv_lstore_n hx hb hdg rfl hl hn he k) k
theorem xr_lstore (S : xS V X l own nm cc nL ws R) {i : Nat} {x : Int64} (lv' : List (Nat × Value)) (hdg : decode cc pc = .ok (.lstore i, 2)) (hn : i + 1 < nL) (he : (i, Value.long x) :: lv.filter (fun q => !(q.1 == i) && (!(q.1 == i + 1) && !(q.1 + 1 == i && q.2.category == 2))) = lv') (k : V cells slots h (pc + 2) lv' st) : V cells slots h pc lv (Value.long x :: st) :=
  xr_step S (fun p e s m args below meth c Q H locs ls F hR hl k => by obtain ⟨hx, hb, -⟩ := F; exact lv_lstore hx hb hdg hl hn he k) k
theorem xr_dstore_n (S : xS V X l own nm cc nL ws R) {kf : Fin 4} {x : UInt64} (lv' : List (Nat × Value)) (hdg : decode cc pc = .ok (.dstore_n kf, 1)) (hn : (kf : Nat) + 1 < nL) (he : ((kf : Nat), Value.double x) :: lv.filter (fun q => !(q.1 == (kf : Nat)) && (!(q.1 == (kf : Nat) + 1) && !(q.1 + 1 == (kf : Nat) && q.2.category == 2))) = lv') (k : V cells slots h (pc + 1) lv' st) : V cells slots h pc lv (Value.double x :: st) :=
  xr_step S (fun p e s m args below meth c Q H locs ls F hR hl k => by obtain ⟨hx, hb, -⟩ := F; exact lv_dstore_n hx hb hdg rfl hl hn he k) k
theorem xr_dstore (S : xS V X l own nm cc nL ws R) {i : Nat} {x : UInt64} (lv' : List (Nat × Value)) (hdg : decode cc pc = .ok (.dstore i, 2)) (hn : i + 1 < nL) (he : (i, Value.double x) :: lv.filter (fun q => !(q.1 == i) && (!(q.1 == i + 1) && !(q.1 + 1 == i && q.2.category == 2))) = lv') (k : V cells slots h (pc + 2) lv' st) : V cells slots h pc lv (Value.double x :: st) :=
  xr_step S (fun p e s m args below meth c Q H locs ls F hR hl k => by obtain ⟨hx, hb, -⟩ := F; exact lv_dstore hx hb hdg hl hn he k) k
theorem xr_astore_n (S : xS V X l own nm cc nL ws R) {kf : Fin 4} {x : Nat} (lv' : List (Nat × Value)) (hdg : decode cc pc = .ok (.astore_n kf, 1)) (hn : (kf : Nat) < nL) (he : ((kf : Nat), Value.ref x) :: lv.filter (fun q => !(q.1 == (kf : Nat)) && !(q.1 + 1 == (kf : Nat) && q.2.category == 2)) = lv') (k : V cells slots h (pc + 1) lv' st) : V cells slots h pc lv (Value.ref x :: st) :=
  xr_step S (fun p e s m args below meth c Q H locs ls F hR hl k => by obtain ⟨hx, hb, -⟩ := F; exact lv_astore_n hx hb hdg rfl hl hn he k) k
theorem xr_astore (S : xS V X l own nm cc nL ws R) {i : Nat} {x : Nat} (lv' : List (Nat × Value)) (hdg : decode cc pc = .ok (.astore i, 2)) (hn : i < nL) (he : (i, Value.ref x) :: lv.filter (fun q => !(q.1 == i) && !(q.1 + 1 == i && q.2.category == 2)) = lv') (k : V cells slots h (pc + 2) lv' st) : V cells slots h pc lv (Value.ref x :: st) :=
  xr_step S (fun p e s m args below meth c Q H locs ls F hR hl k => by obtain ⟨hx, hb, -⟩ := F; exact lv_astore hx hb hdg hl hn he k) k
theorem xr_astoreq_n (S : xS V X l own nm cc nL ws R) {kf : Fin 4} {r : Option Nat} (lv' : List (Nat × Value)) (hdg : decode cc pc = .ok (.astore_n kf, 1)) (hn : (kf : Nat) < nL) (he : ((kf : Nat), va_rf r) :: lv.filter (fun q => !(q.1 == (kf : Nat)) && !(q.1 + 1 == (kf : Nat) && q.2.category == 2)) = lv') (k : V cells slots h (pc + 1) lv' st) : V cells slots h pc lv (va_rf r :: st) :=
  xr_step S (fun p e s m args below meth c Q H locs ls F hR hl k => by obtain ⟨hx, hb, -⟩ := F; exact (match r, he with | none, he => lv_astore_nN hx hb hdg rfl hl hn he k | some a, he => lv_astore_n hx hb hdg rfl hl hn he k)) k
theorem xr_astoreq (S : xS V X l own nm cc nL ws R) {i : Nat} {r : Option Nat} (lv' : List (Nat × Value)) (hdg : decode cc pc = .ok (.astore i, 2)) (hn : i < nL) (he : (i, va_rf r) :: lv.filter (fun q => !(q.1 == i) && !(q.1 + 1 == i && q.2.category == 2)) = lv') (k : V cells slots h (pc + 2) lv' st) : V cells slots h pc lv (va_rf r :: st) :=
  xr_step S (fun p e s m args below meth c Q H locs ls F hR hl k => by obtain ⟨hx, hb, -⟩ := F; exact (match r, he with | none, he => lv_astoreN hx hb hdg hl hn he k | some a, he => lv_astore hx hb hdg hl hn he k)) k
theorem xr_iinc (S : xS V X l own nm cc nL ws R) {i : Nat} {n : Int} {x : Int32} (kk : Nat) (v : Int32) (lv' : List (Nat × Value)) (hdg : decode cc pc = .ok (.iinc i n, 3)) (hk : lv[kk]? = some (i, .int x)) (hv : x + Int32.ofInt n = v) (hn : i < nL) (he : (i, Value.int v) :: lv.filter (fun q => !(q.1 == i) && !(q.1 + 1 == i && q.2.category == 2)) = lv') (k : V cells slots h (pc + 3) lv' st) : V cells slots h pc lv st :=
  xr_step S (fun p e s m args below meth c Q H locs ls F hR hl k => by obtain ⟨hx, hb, -⟩ := F; exact lv_iinc hx hb hdg hl hk hv hn he k) k
theorem xr_if_eq (S : xS V X l own nm cc nL ws R) {x : Int32} {off : Int} {tgt : Nat} (hdg : decode cc pc = .ok (.ifCond .eq off, 3)) (ht : (pc : Int) + off = (tgt : Int)) (kt : x = 0 → V cells slots h tgt lv st) (kf : ¬ x = 0 → V cells slots h (pc + 3) lv st) : V cells slots h pc lv (.int x :: st) := by
  obtain ⟨ok, p, e, s, m, args, below, meth, c, Q, rfl, hx, hb, hml, hown, hts, hK, hZ, hlk, hGs, hnm⟩ := S
  intro d H locs ls hd hR hS hl
  exact lv_if_eq hx hb hdg ht (fun z => kt z d H locs ls hd hR hS hl) (fun z => kf z d H locs ls hd hR hS hl)
theorem xr_icmp_eq (S : xS V X l own nm cc nL ws R) {x y : Int32} {off : Int} {tgt : Nat} (hdg : decode cc pc = .ok (.if_icmp .eq off, 3)) (ht : (pc : Int) + off = (tgt : Int)) (kt : x = y → V cells slots h tgt lv st) (kf : ¬ x = y → V cells slots h (pc + 3) lv st) : V cells slots h pc lv (.int y :: .int x :: st) := by
  obtain ⟨ok, p, e, s, m, args, below, meth, c, Q, rfl, hx, hb, hml, hown, hts, hK, hZ, hlk, hGs, hnm⟩ := S
  intro d H locs ls hd hR hS hl
  exact lv_icmp_eq hx hb hdg ht (fun z => kt z d H locs ls hd hR hS hl) (fun z => kf z d H locs ls hd hR hS hl)
theorem xr_if_ne (S : xS V X l own nm cc nL ws R) {x : Int32} {off : Int} {tgt : Nat} (hdg : decode cc pc = .ok (.ifCond .ne off, 3)) (ht : (pc : Int) + off = (tgt : Int)) (kt : ¬ x = 0 → V cells slots h tgt lv st) (kf : x = 0 → V cells slots h (pc + 3) lv st) : V cells slots h pc lv (.int x :: st) := by
  obtain ⟨ok, p, e, s, m, args, below, meth, c, Q, rfl, hx, hb, hml, hown, hts, hK, hZ, hlk, hGs, hnm⟩ := S
  intro d H locs ls hd hR hS hl
  exact lv_if_ne hx hb hdg ht (fun z => kt z d H locs ls hd hR hS hl) (fun z => kf z d H locs ls hd hR hS hl)
theorem xr_icmp_ne (S : xS V X l own nm cc nL ws R) {x y : Int32} {off : Int} {tgt : Nat} (hdg : decode cc pc = .ok (.if_icmp .ne off, 3)) (ht : (pc : Int) + off = (tgt : Int)) (kt : ¬ x = y → V cells slots h tgt lv st) (kf : x = y → V cells slots h (pc + 3) lv st) : V cells slots h pc lv (.int y :: .int x :: st) := by
  obtain ⟨ok, p, e, s, m, args, below, meth, c, Q, rfl, hx, hb, hml, hown, hts, hK, hZ, hlk, hGs, hnm⟩ := S
  intro d H locs ls hd hR hS hl
  exact lv_icmp_ne hx hb hdg ht (fun z => kt z d H locs ls hd hR hS hl) (fun z => kf z d H locs ls hd hR hS hl)
theorem xr_if_lt (S : xS V X l own nm cc nL ws R) {x : Int32} {off : Int} {tgt : Nat} (hdg : decode cc pc = .ok (.ifCond .lt off, 3)) (ht : (pc : Int) + off = (tgt : Int)) (kt : x < 0 → V cells slots h tgt lv st) (kf : ¬ x < 0 → V cells slots h (pc + 3) lv st) : V cells slots h pc lv (.int x :: st) := by
  obtain ⟨ok, p, e, s, m, args, below, meth, c, Q, rfl, hx, hb, hml, hown, hts, hK, hZ, hlk, hGs, hnm⟩ := S
  intro d H locs ls hd hR hS hl
  exact lv_if_lt hx hb hdg ht (fun z => kt z d H locs ls hd hR hS hl) (fun z => kf z d H locs ls hd hR hS hl)
theorem xr_icmp_lt (S : xS V X l own nm cc nL ws R) {x y : Int32} {off : Int} {tgt : Nat} (hdg : decode cc pc = .ok (.if_icmp .lt off, 3)) (ht : (pc : Int) + off = (tgt : Int)) (kt : x < y → V cells slots h tgt lv st) (kf : ¬ x < y → V cells slots h (pc + 3) lv st) : V cells slots h pc lv (.int y :: .int x :: st) := by
  obtain ⟨ok, p, e, s, m, args, below, meth, c, Q, rfl, hx, hb, hml, hown, hts, hK, hZ, hlk, hGs, hnm⟩ := S
  intro d H locs ls hd hR hS hl
  exact lv_icmp_lt hx hb hdg ht (fun z => kt z d H locs ls hd hR hS hl) (fun z => kf z d H locs ls hd hR hS hl)
theorem xr_if_ge (S : xS V X l own nm cc nL ws R) {x : Int32} {off : Int} {tgt : Nat} (hdg : decode cc pc = .ok (.ifCond .ge off, 3)) (ht : (pc : Int) + off = (tgt : Int)) (kt : 0 ≤ x → V cells slots h tgt lv st) (kf : ¬ 0 ≤ x → V cells slots h (pc + 3) lv st) : V cells slots h pc lv (.int x :: st) := by
  obtain ⟨ok, p, e, s, m, args, below, meth, c, Q, rfl, hx, hb, hml, hown, hts, hK, hZ, hlk, hGs, hnm⟩ := S
  intro d H locs ls hd hR hS hl
  exact lv_if_ge hx hb hdg ht (fun z => kt z d H locs ls hd hR hS hl) (fun z => kf z d H locs ls hd hR hS hl)
theorem xr_icmp_ge (S : xS V X l own nm cc nL ws R) {x y : Int32} {off : Int} {tgt : Nat} (hdg : decode cc pc = .ok (.if_icmp .ge off, 3)) (ht : (pc : Int) + off = (tgt : Int)) (kt : y ≤ x → V cells slots h tgt lv st) (kf : ¬ y ≤ x → V cells slots h (pc + 3) lv st) : V cells slots h pc lv (.int y :: .int x :: st) := by
  obtain ⟨ok, p, e, s, m, args, below, meth, c, Q, rfl, hx, hb, hml, hown, hts, hK, hZ, hlk, hGs, hnm⟩ := S
  intro d H locs ls hd hR hS hl
  exact lv_icmp_ge hx hb hdg ht (fun z => kt z d H locs ls hd hR hS hl) (fun z => kf z d H locs ls hd hR hS hl)
theorem xr_if_gt (S : xS V X l own nm cc nL ws R) {x : Int32} {off : Int} {tgt : Nat} (hdg : decode cc pc = .ok (.ifCond .gt off, 3)) (ht : (pc : Int) + off = (tgt : Int)) (kt : 0 < x → V cells slots h tgt lv st) (kf : ¬ 0 < x → V cells slots h (pc + 3) lv st) : V cells slots h pc lv (.int x :: st) := by
  obtain ⟨ok, p, e, s, m, args, below, meth, c, Q, rfl, hx, hb, hml, hown, hts, hK, hZ, hlk, hGs, hnm⟩ := S
  intro d H locs ls hd hR hS hl
  exact lv_if_gt hx hb hdg ht (fun z => kt z d H locs ls hd hR hS hl) (fun z => kf z d H locs ls hd hR hS hl)
theorem xr_icmp_gt (S : xS V X l own nm cc nL ws R) {x y : Int32} {off : Int} {tgt : Nat} (hdg : decode cc pc = .ok (.if_icmp .gt off, 3)) (ht : (pc : Int) + off = (tgt : Int)) (kt : y < x → V cells slots h tgt lv st) (kf : ¬ y < x → V cells slots h (pc + 3) lv st) : V cells slots h pc lv (.int y :: .int x :: st) := by
  obtain ⟨ok, p, e, s, m, args, below, meth, c, Q, rfl, hx, hb, hml, hown, hts, hK, hZ, hlk, hGs, hnm⟩ := S
  intro d H locs ls hd hR hS hl
  exact lv_icmp_gt hx hb hdg ht (fun z => kt z d H locs ls hd hR hS hl) (fun z => kf z d H locs ls hd hR hS hl)
theorem xr_if_le (S : xS V X l own nm cc nL ws R) {x : Int32} {off : Int} {tgt : Nat} (hdg : decode cc pc = .ok (.ifCond .le off, 3)) (ht : (pc : Int) + off = (tgt : Int)) (kt : x ≤ 0 → V cells slots h tgt lv st) (kf : ¬ x ≤ 0 → V cells slots h (pc + 3) lv st) : V cells slots h pc lv (.int x :: st) := by
  obtain ⟨ok, p, e, s, m, args, below, meth, c, Q, rfl, hx, hb, hml, hown, hts, hK, hZ, hlk, hGs, hnm⟩ := S
  intro d H locs ls hd hR hS hl
  exact lv_if_le hx hb hdg ht (fun z => kt z d H locs ls hd hR hS hl) (fun z => kf z d H locs ls hd hR hS hl)
theorem xr_icmp_le (S : xS V X l own nm cc nL ws R) {x y : Int32} {off : Int} {tgt : Nat} (hdg : decode cc pc = .ok (.if_icmp .le off, 3)) (ht : (pc : Int) + off = (tgt : Int)) (kt : x ≤ y → V cells slots h tgt lv st) (kf : ¬ x ≤ y → V cells slots h (pc + 3) lv st) : V cells slots h pc lv (.int y :: .int x :: st) := by
  obtain ⟨ok, p, e, s, m, args, below, meth, c, Q, rfl, hx, hb, hml, hown, hts, hK, hZ, hlk, hGs, hnm⟩ := S
  intro d H locs ls hd hR hS hl
  exact lv_icmp_le hx hb hdg ht (fun z => kt z d H locs ls hd hR hS hl) (fun z => kf z d H locs ls hd hR hS hl)
theorem xr_acmp_eq (S : xS V X l own nm cc nL ws R) {rx ry : Option Nat} {off : Int} {tgt : Nat} (hdg : decode cc pc = .ok (.if_acmp .eq off, 3)) (ht : (pc : Int) + off = (tgt : Int)) (kt : rx = ry → V cells slots h tgt lv st) (kf : ¬ rx = ry → V cells slots h (pc + 3) lv st) : V cells slots h pc lv (va_rf ry :: va_rf rx :: st) := by
  obtain ⟨ok, p, e, s, m, args, below, meth, c, Q, rfl, hx, hb, hml, hown, hts, hK, hZ, hlk, hGs, hnm⟩ := S
  intro d H locs ls hd hR hS hl
  exact lv_acmp_eq hx hb hdg ht (fun z => kt z d H locs ls hd hR hS hl) (fun z => kf z d H locs ls hd hR hS hl)
theorem xr_acmp_ne (S : xS V X l own nm cc nL ws R) {rx ry : Option Nat} {off : Int} {tgt : Nat} (hdg : decode cc pc = .ok (.if_acmp .ne off, 3)) (ht : (pc : Int) + off = (tgt : Int)) (kt : ¬ rx = ry → V cells slots h tgt lv st) (kf : rx = ry → V cells slots h (pc + 3) lv st) : V cells slots h pc lv (va_rf ry :: va_rf rx :: st) := by
  obtain ⟨ok, p, e, s, m, args, below, meth, c, Q, rfl, hx, hb, hml, hown, hts, hK, hZ, hlk, hGs, hnm⟩ := S
  intro d H locs ls hd hR hS hl
  exact lv_acmp_ne hx hb hdg ht (fun z => kt z d H locs ls hd hR hS hl) (fun z => kf z d H locs ls hd hR hS hl)
theorem xr_goto (S : xS V X l own nm cc nL ws R) {off : Int} {tgt : Nat} (hdg : decode cc pc = .ok (.goto off, 3)) (ht : (pc : Int) + off = (tgt : Int)) (k : V cells slots h tgt lv st) : V cells slots h pc lv st :=
  xr_step S (fun p e s m args below meth c Q H locs ls F hR hl k => by obtain ⟨hx, hb, -⟩ := F; exact lv_goto hx hb hdg ht (k ls hl)) k
theorem xr_ifnull (S : xS V X l own nm cc nL ws R) {r : Option Nat} {off : Int} {tgt : Nat} (hdg : decode cc pc = .ok (.ifnull off, 3)) (ht : (pc : Int) + off = (tgt : Int)) (kt : r = none → V cells slots h tgt lv st) (kf : ∀ a, r = some a → V cells slots h (pc + 3) lv st) : V cells slots h pc lv (va_rf r :: st) := by
  obtain ⟨ok, p, e, s, m, args, below, meth, c, Q, rfl, hx, hb, hml, hown, hts, hK, hZ, hlk, hGs, hnm⟩ := S
  intro d H locs ls hd hR hS hl
  cases r with
  | none => exact lv_ifnullN hx hb hdg ht (kt rfl d H locs ls hd hR hS hl)
  | some a => exact lv_ifnull hx hb hdg (kf a rfl d H locs ls hd hR hS hl)
theorem xr_ifnonnull (S : xS V X l own nm cc nL ws R) {r : Option Nat} {off : Int} {tgt : Nat} (hdg : decode cc pc = .ok (.ifnonnull off, 3)) (ht : (pc : Int) + off = (tgt : Int)) (kt : ∀ a, r = some a → V cells slots h tgt lv st) (kf : r = none → V cells slots h (pc + 3) lv st) : V cells slots h pc lv (va_rf r :: st) := by
  obtain ⟨ok, p, e, s, m, args, below, meth, c, Q, rfl, hx, hb, hml, hown, hts, hK, hZ, hlk, hGs, hnm⟩ := S
  intro d H locs ls hd hR hS hl
  cases r with
  | none => exact lv_ifnonnullN hx hb hdg (kf rfl d H locs ls hd hR hS hl)
  | some a => exact lv_ifnonnull hx hb hdg ht (kt a rfl d H locs ls hd hR hS hl)
theorem xr_swIn (S : xS V X l own nm cc nL ws R) {dflt lo hi : Int} {offs : Array Int} {len : Nat} {x : Int32} {off : Int} {tgt : Nat} (v : Int) (hdg : decode cc pc = .ok (.tableswitch dflt lo hi offs, len)) (hv : x.toInt = v) (h1 : ¬ v < lo) (h2 : ¬ hi < v) (ho : offs[(v - lo).toNat]? = some off) (ht : (pc : Int) + off = (tgt : Int)) (k : V cells slots h tgt lv st) : V cells slots h pc lv (.int x :: st) :=
  xr_step S (fun p e s m args below meth c Q H locs ls F hR hl k => by obtain ⟨hx, hb, -⟩ := F; subst hv; exact lv_tableIn hx hb hdg h1 h2 ho ht (k ls hl)) k
theorem xr_swOut (S : xS V X l own nm cc nL ws R) {dflt lo hi : Int} {offs : Array Int} {len : Nat} {x : Int32} {tgt : Nat} (hdg : decode cc pc = .ok (.tableswitch dflt lo hi offs, len)) (hv : x.toInt < lo ∨ hi < x.toInt) (ht : (pc : Int) + dflt = (tgt : Int)) (k : V cells slots h tgt lv st) : V cells slots h pc lv (.int x :: st) :=
  xr_step S (fun p e s m args below meth c Q H locs ls F hR hl k => by obtain ⟨hx, hb, -⟩ := F; exact lv_tableOut hx hb hdg hv ht (k ls hl)) k
/-- fewer locals -/
theorem xr_sub (S : xS V X l own nm cc nL ws R) (lv' : List (Nat × Value)) (is : List Nat) (he : is.filterMap (fun i => lv[i]?) = lv') (k : V cells slots h pc lv' st) : V cells slots h pc lv st :=
  xr_step S (fun p e s m args below meth c Q H locs ls F hR hl k => k ls (lv_sub hl is he)) k
theorem xr_widen (S : xS V X l own nm cc nL ws R) {k n : Nat} (h1 : cells ≤ k) (h2 : slots ≤ n) (kk : V k n h pc lv st) : V cells slots h pc lv st := by
  obtain ⟨ok, p, e, s, m, args, below, meth, c, Q, rfl, hx, hb, hml, hown, hts, hK, hZ, hlk, hGs, hnm⟩ := S
  intro d H locs ls hd hR hS hl
  exact W.widen h1 h2 (kk d H locs ls hd hR hS hl)
/-- an abstract heap with fewer cells -/
theorem xr_less (S : xS V X l own nm cc nL ws R) {h' : XH} (he : ∀ a e, h' a = some e → h a = some e) (kk : V cells slots h' pc lv st) : V cells slots h pc lv st := by
  obtain ⟨ok, p, e, s, m, args, below, meth, c, Q, rfl, hx, hb, hml, hown, hts, hK, hZ, hlk, hGs, hnm⟩ := S
  intro d H locs ls hd hR hS hl
  exact kk d H locs ls hd (fun a e q => hR a e (he a e q)) hS hl

theorem xsame {args : Array Value} {s : State} {ref o n d : String} (hts : ∀ w ∈ ws, w.before args s = true) (hsame : ref = o ∨ Cond.sameField ref o n d ∈ ws) : ∀ x, s.fieldFound? o n d = some x → s.fieldFound? ref n d = some x := by
  rcases hsame with rfl | h
  · exact fun _ q => q
  · intro x hx
    have h0 := hts _ h
    cases hr : s.fieldFound? ref n d with
    | none => simp [Cond.before, Cond.holds, Cond.value, hr] at h0
    | some y =>
      obtain ⟨c, k, i, f⟩ := y
      have h1 := Cond.sameField_spec hr h0
      rw [h1] at hx
      exact hx
theorem xr_get (S : xS V X l own nm cc nL ws R) {a index : Nat} {ref C : String} {T : u_T} {N : Nat} {fs : List Value} {v : Value} (ci k : Nat) (hdg : decode cc pc = .ok (.getfield index, 3)) (hin : ∀ w ∈ u_ws C T N, w ∈ ws) (hc : vwCl[ci]? = some (C, T, N)) (hk : k < N) (hlink : Cond.fieldLink own index ref (T k).2.1 (T k).2.2.1 ∈ ws ∨ (own, index, ref, (T k).2.1, (T k).2.2.1) ∈ xNest) (hsame : ref = (T k).1 ∨ Cond.sameField ref (T k).1 (T k).2.1 (T k).2.2.1 ∈ ws) (ha : h a = some (.inr (ci, fs))) (hv : fs[k]? = some v) (kz : V cells slots h (pc + 3) lv (v :: st)) : V cells slots h pc lv (.ref a :: st) :=
  xr_step S (fun p e s m args below meth c Q H locs ls F hR hl kz => by obtain ⟨hx, hb, hml, hown, hts, hK, hZ, hlk, hGs, hnm⟩ := F; rcases hlink with hlink | hlink; exact va_get (D := X.1) (ci := ci) (v := v) hx hb hts hin hown hK (xR_one hR ha) 0 rfl hc k hk (hts _ hlink) (xsame hts hsame) hv hdg (kz ls hl); exact va_getN (D := X.1) (ci := ci) (v := v) hx hb hts hin hown hK (xR_one hR ha) 0 rfl hc k hk ((hZ.2.2.2.2.2.2.2.2.2.1 _ hlink).use rfl) (xsame hts hsame) hv hdg (kz ls hl)) kz
theorem xr_iald (S : xS V X l own nm cc nL ws R) {a n : Nat} {i : Int32} {f : Nat → Int32} (t : Nat) (hdg : decode cc pc = .ok (.iaload, 1)) (ht : t = 0 ∨ t = 2) (ha : h a = some (.inl (t, n, .inl f))) (hi : vp_in i n) (kz : V cells slots h (pc + 1) lv (.int (f i.toNatClampNeg) :: st)) : V cells slots h pc lv (.int i :: .ref a :: st) :=
  xr_step S (fun p e s m args below meth c Q H locs ls F hR hl kz => by obtain ⟨hx, hb, hml, hown, hts, hK, hZ, hlk, hGs, hnm⟩ := F; exact va_iald (D := X.1) hx hb hK (xR_one hR ha (fun z => by cases z) (fun _ _ z => by cases z; omega)) 0 t rfl (by rcases ht with rfl | rfl <;> rfl) hi hdg (kz ls hl)) kz
theorem xr_aald (S : xS V X l own nm cc nL ws R) {a n : Nat} {i : Int32} {f : Nat → Option Nat} (hdg : decode cc pc = .ok (.aaload, 1)) (ha : h a = some (.inl (1, n, .inr (.inr (.inr (.inr f)))))) (hi : vp_in i n) (kz : V cells slots h (pc + 1) lv (va_rf (f i.toNatClampNeg) :: st)) : V cells slots h pc lv (.int i :: .ref a :: st) :=
  xr_step S (fun p e s m args below meth c Q H locs ls F hR hl kz => by obtain ⟨hx, hb, hml, hown, hts, hK, hZ, hlk, hGs, hnm⟩ := F; exact va_aldq (D := X.1) hx hb hK (xR_one hR ha (fun z => by cases z; exact hi (Or.inr (Nat.zero_le _)))) 0 1 rfl rfl hi hdg (kz ls hl)) kz
theorem xr_alen (S : xS V X l own nm cc nL ws R) {a t : Nat} {b : vp_A} {ty : FieldType} (hdg : decode cc pc = .ok (.arraylength, 1)) (ht : ∀ X : XC, ∃ q, (xT X)[t]? = some (q, ty) ∧ q = xC X t) (ha : h a = some (.inl (t, b))) (kz : V cells slots h (pc + 1) lv (.int (Int32.ofNat b.1) :: st)) (h3 : t ≠ 3 := by decide) : V cells slots h pc lv (.ref a :: st) := by
  obtain ⟨ok, p, e, s, m, args, below, meth, c, Q, rfl, hx, hb, hml, hown, hts, hK, hZ, hlk, hGs, hnm⟩ := S
  intro d H locs ls hd hR hS hl
  by_cases hne : (.inl (t, b) : XA) = xro
  · cases hne
    rcases hR a _ ha with h1 | h1
    · have hP1 : va_P X.1 vwCl [(a, xE (xC X) xro)] H := by
        intro k q hk
        have hz : k < 1 := (List.getElem?_eq_some_iff.mp hk).1
        rw [show k = 0 by omega] at hk
        cases hk
        exact h1.1
      exact va_alen (D := X.1) (ty := .object "java/lang/Object") (s := s) hx hb hK hP1 0 1 rfl rfl rfl hdg (kz d H locs ls hd hR hS hl)
    · obtain ⟨h1, -⟩ := h1
      rcases h1 with h1 | h1
      · obtain ⟨-, rfl⟩ := h1
        exact va_tlen (s := s) hx hb ((hZ.2.2.2.2.2.2.2.2.2.2.2.1).kept (fun a h1 h2 => hGs.2.1 a h1 h2)) hS rfl hdg (kz d H locs ls hd hR hS hl)
      · exact absurd h1.1 (fun z => by cases z)
  · exact va_alen (D := X.1) (ty := ty) (s := s) hx hb hK (xR_one hR ha hne (fun _ _ z => by cases z; exact h3 rfl)) 0 t rfl (by obtain ⟨q, h1, h2⟩ := ht X; rw [h1, h2]) rfl hdg (kz d H locs ls hd hR hS hl)
/-- the script -/
theorem xr_sld (S : xS V X l own nm cc nL ws R) {a n : Nat} {i : Int32} {f : Nat → Int32} (hdg : decode cc pc = .ok (.iaload, 1)) (ha : h a = some (.inl (3, n, .inl f))) (hi : vp_in i n) (kz : V cells slots h (pc + 1) lv (.int (f i.toNatClampNeg) :: st)) : V cells slots h pc lv (.int i :: .ref a :: st) := by
  obtain ⟨ok, p, e, s, m, args, below, meth, c, Q, rfl, hx, hb, hml, hown, hts, hK, hZ, hlk, hGs, hnm⟩ := S
  intro d H locs ls hd hR hS hl
  rcases hR a _ ha with h1 | h1
  · have hP1 : va_P X.1 vwCl [(a, xE (xC X) (.inl (3, n, .inl f)))] H := by
      intro k q hk
      have hz : k < 1 := (List.getElem?_eq_some_iff.mp hk).1
      rw [show k = 0 by omega] at hk
      cases hk
      exact h1.1
    exact va_iald (D := X.1) (s := s) hx hb hK hP1 0 3 rfl rfl hi hdg (kz d H locs ls hd hR hS hl)
  · obtain ⟨h1 | h1, hlt⟩ := h1
    · exact absurd h1.1 (fun z => by cases z)
    · obtain ⟨h1, rfl⟩ := h1
      cases h1
      exact va_sld (s := s) (A := xA X) hx hb hZ.2.2.2.2.2.2.2.2.2.2.2.2.2 hlt (Nat.not_le.mpr hlt) (xS_tr hGs hS) hi hdg (kz d H locs ls hd hR hS hl)
theorem xr_slen (S : xS V X l own nm cc nL ws R) {a n : Nat} {f : Nat → Int32} (hdg : decode cc pc = .ok (.arraylength, 1)) (ha : h a = some (.inl (3, n, .inl f))) (kz : V cells slots h (pc + 1) lv (.int (Int32.ofNat n) :: st)) : V cells slots h pc lv (.ref a :: st) := by
  obtain ⟨ok, p, e, s, m, args, below, meth, c, Q, rfl, hx, hb, hml, hown, hts, hK, hZ, hlk, hGs, hnm⟩ := S
  intro d H locs ls hd hR hS hl
  rcases hR a _ ha with h1 | h1
  · have hP1 : va_P X.1 vwCl [(a, xE (xC X) (.inl (3, n, .inl f)))] H := by
      intro k q hk
      have hz : k < 1 := (List.getElem?_eq_some_iff.mp hk).1
      rw [show k = 0 by omega] at hk
      cases hk
      exact h1.1
    exact va_alen (D := X.1) (ty := .int) (s := s) hx hb hK hP1 0 3 rfl rfl rfl hdg (kz d H locs ls hd hR hS hl)
  · obtain ⟨h1 | h1, hlt⟩ := h1
    · exact absurd h1.1 (fun z => by cases z)
    · obtain ⟨h1, rfl⟩ := h1
      cases h1
      exact va_slen (s := s) (A := xA X) hx hb hZ.2.2.2.2.2.2.2.2.2.2.2.2.2 hlt (Nat.not_le.mpr hlt) (xS_tr hGs hS) hdg (kz d H locs ls hd hR hS hl)
theorem xr_put (S : xS V X l own nm cc nL ws R) {a index : Nat} {ref C : String} {T : u_T} {N : Nat} {fs : List Value} {v : Value} (ci k : Nat) {ty : FieldType} (ty0 : Nat → FieldType) (hdg : decode cc pc = .ok (.putfield index, 3)) (hin : ∀ w ∈ u_ws C T N, w ∈ ws) (hc : vwCl[ci]? = some (C, T, N)) (hk : k < N) (hlink : Cond.fieldLink own index ref (T k).2.1 (T k).2.2.1 ∈ ws ∨ (own, index, ref, (T k).2.1, (T k).2.2.1) ∈ xNest) (hsame : ref = (T k).1 ∨ Cond.sameField ref (T k).1 (T k).2.1 (T k).2.2.1 ∈ ws) (ha : h a = some (.inr (ci, fs))) (hty : ∀ k, k < N → parseFieldDescriptor (T k).2.2.1 = some (ty0 k)) (hnm1 : ∀ a, a < N → ∀ b, b < N → a ≠ b → (T a).2.1 ≠ (T b).2.1) (hfin : (T k).2.2.2 = false) (hd1 : parseFieldDescriptor (T k).2.2.1 = some ty) (hn : narrow ty v = v) (hfit : fits ty v = true) (hlen : k < fs.length) (kz : V cells slots (xup h a (.inr (ci, fs.set k v))) (pc + 3) lv st) : V cells slots h pc lv (v :: .ref a :: st) := by
  obtain ⟨ok, p, e, s, m, args, below, meth, c, Q, rfl, hx, hb, hml, hown, hts, hK, hZ, hlk, hGs, hnm⟩ := S
  intro d H locs ls hd hR hS hl
  have hlo := xR_lo hR ha (fun z => by cases z)
  obtain ⟨q0, hq0⟩ := xL_get (X := X) (n := H.size) ha hlo (xR_lt hR ha hlo)
  rcases hlink with hlink | hlink
  · exact va_put (D := X.1) (A := xA X) (ci := ci) (v := v) (ty := ty) (s := s) hx hb hts hin ty0 hty hnm1 hown hK (xL_P hR) xL_D hS q0 hq0 hc k hk (hts _ hlink) (xsame hts hsame) hfin hd1 hn hfit hlen hdg (fun H1 locs1 hP1 hD1 hS1 => kz d H1 locs1 ls hd (xR_set hR (xS_tr hGs hS) hq0 (e1 := .inr (ci, fs.set k v)) hP1 (xS_tr hGs hS1)) hS1 hl)
  · exact va_putN (D := X.1) (A := xA X) (ci := ci) (v := v) (ty := ty) (s := s) hx hb hts hin ty0 hty hnm1 hown hK (xL_P hR) xL_D hS q0 hq0 hc k hk (((hZ.2.2.2.2.2.2.2.2.2.1 _ hlink).use (A := args) rfl)) (xsame hts hsame) hfin hd1 hn hfit hlen hdg (fun H1 locs1 hP1 hD1 hS1 => kz d H1 locs1 ls hd (xR_set hR (xS_tr hGs hS) hq0 (e1 := .inr (ci, fs.set k v)) hP1 (xS_tr hGs hS1)) hS1 hl)
theorem xr_putF (S : xS V X l own nm cc nL ws R) {a index : Nat} {ref C : String} {T : u_T} {N : Nat} {fs : List Value} {v : Value} (ci k : Nat) {ty : FieldType} (ty0 : Nat → FieldType) (hdg : decode cc pc = .ok (.putfield index, 3)) (hin : ∀ w ∈ u_ws C T N, w ∈ ws) (hc : vwCl[ci]? = some (C, T, N)) (hk : k < N) (hlink : Cond.fieldLink own index ref (T k).2.1 (T k).2.2.1 ∈ ws) (hsame : ref = (T k).1 ∨ Cond.sameField ref (T k).1 (T k).2.1 (T k).2.2.1 ∈ ws) (ha : h a = some (.inr (ci, fs))) (hty : ∀ k, k < N → parseFieldDescriptor (T k).2.2.1 = some (ty0 k)) (hnm1 : ∀ a, a < N → ∀ b, b < N → a ≠ b → (T a).2.1 ≠ (T b).2.1) (hfin : (T k).2.2.2 = true) (hin2 : nm = "<init>") (hdecl : (T k).1 = own) (hd1 : parseFieldDescriptor (T k).2.2.1 = some ty) (hn : narrow ty v = v) (hfit : fits ty v = true) (hlen : k < fs.length) (kz : V cells slots (xup h a (.inr (ci, fs.set k v))) (pc + 3) lv st) : V cells slots h pc lv (v :: .ref a :: st) := by
  obtain ⟨ok, p, e, s, m, args, below, meth, c, Q, rfl, hx, hb, hml, hown, hts, hK, hZ, hlk, hGs, hnm⟩ := S
  intro d H locs ls hd hR hS hl
  have hlo := xR_lo hR ha (fun z => by cases z)
  obtain ⟨q0, hq0⟩ := xL_get (X := X) (n := H.size) ha hlo (xR_lt hR ha hlo)
  exact va_putF (D := X.1) (A := xA X) (ci := ci) (v := v) (ty := ty) (s := s) hx hb hts hin ty0 hty hnm1 hown hK (xL_P hR) xL_D hS q0 hq0 hc k hk (hts _ hlink) (xsame hts hsame) hfin (hnm.trans hin2) hdecl hd1 hn hfit hlen hdg (fun H1 locs1 hP1 hD1 hS1 => kz d H1 locs1 ls hd (xR_set hR (xS_tr hGs hS) hq0 (e1 := .inr (ci, fs.set k v)) hP1 (xS_tr hGs hS1)) hS1 hl)
theorem xr_iast (S : xS V X l own nm cc nL ws R) {a n : Nat} {i : Int32} {f : Nat → Int32} {x : Int32} (t : Nat) (hdg : decode cc pc = .ok (.iastore, 1)) (ht : t = 0 ∨ t = 2) (ha : h a = some (.inl (t, n, .inl f))) (hi : vp_in i n) (kz : V cells slots (xup h a (.inl (t, n, .inl (upd f i.toNatClampNeg x)))) (pc + 1) lv st) : V cells slots h pc lv (.int x :: .int i :: .ref a :: st) := by
  obtain ⟨ok, p, e, s, m, args, below, meth, c, Q, rfl, hx, hb, hml, hown, hts, hK, hZ, hlk, hGs, hnm⟩ := S
  intro d H locs ls hd hR hS hl
  have hlo := xR_lo hR ha (fun z => by cases z <;> exact hi (Or.inr (Nat.zero_le _))) (fun _ _ z => by cases z; omega)
  obtain ⟨q0, hq0⟩ := xL_get (X := X) (n := H.size) ha hlo (xR_lt hR ha hlo)
  exact va_iast (D := X.1) (A := xA X) (s := s) hx hb hK (xL_P hR) xL_D hS q0 t hq0 (by rcases ht with rfl | rfl <;> rfl) hi hdg (fun H1 locs1 hP1 hD1 hS1 => kz d H1 locs1 ls hd (xR_set hR (xS_tr hGs hS) hq0 (e1 := (.inl (t, n, .inl (upd f i.toNatClampNeg x)))) hP1 (xS_tr hGs hS1)) hS1 hl)
theorem xr_aast (S : xS V X l own nm cc nL ws R) {a n : Nat} {i : Int32} {f : Nat → Option Nat} {v : Nat} {r : vw_C} {fs : List Value} (ci : Nat) (hdg : decode cc pc = .ok (.aastore, 1))  (ha : h a = some (.inl (1, n, .inr (.inr (.inr (.inr f)))))) (hi : vp_in i n) (hv : h v = some (.inr (ci, fs))) (hr : vwCl[ci]? = some r) (hcast : (r.1, "java/lang/Object") ∈ xCast) (kz : V cells slots (xup h a (.inl (1, n, .inr (.inr (.inr (.inr (va_up f i.toNatClampNeg (some v)))))))) (pc + 1) lv st) : V cells slots h pc lv (.ref v :: .int i :: .ref a :: st) := by
  obtain ⟨ok, p, e, s, m, args, below, meth, c, Q, rfl, hx, hb, hml, hown, hts, hK, hZ, hlk, hGs, hnm⟩ := S
  intro d H locs ls hd hR hS hl
  have hlo := xR_lo hR ha (fun z => by cases z <;> exact hi (Or.inr (Nat.zero_le _)))
  obtain ⟨q0, hq0⟩ := xL_get (X := X) (n := H.size) ha hlo (xR_lt hR ha hlo)
  exact va_astqM (D := X.1) (A := xA X) (s := s) hx hb hK (xL_P hR) xL_D hS q0 1 hq0 rfl (va_rAny hK (xR_one hR hv) (q0 := 0) rfl hr (fun comp c0 h1 h2 => vb_asgC (hZ.2.2.2.2.2.2.2.1 _ hcast) comp c0 h1 h2)) hi hdg (fun H1 locs1 hP1 hD1 hS1 => kz d H1 locs1 ls hd (xR_set hR (xS_tr hGs hS) hq0 (e1 := (.inl (1, n, .inr (.inr (.inr (.inr (va_up f i.toNatClampNeg (some v)))))))) hP1 (xS_tr hGs hS1)) hS1 hl)
theorem xr_aastN (S : xS V X l own nm cc nL ws R) {a n : Nat} {i : Int32} {f : Nat → Option Nat} (hdg : decode cc pc = .ok (.aastore, 1))  (ha : h a = some (.inl (1, n, .inr (.inr (.inr (.inr f)))))) (hi : vp_in i n) (kz : V cells slots (xup h a (.inl (1, n, .inr (.inr (.inr (.inr (va_up f i.toNatClampNeg none))))))) (pc + 1) lv st) : V cells slots h pc lv (va_rf none :: .int i :: .ref a :: st) := by
  obtain ⟨ok, p, e, s, m, args, below, meth, c, Q, rfl, hx, hb, hml, hown, hts, hK, hZ, hlk, hGs, hnm⟩ := S
  intro d H locs ls hd hR hS hl
  have hlo := xR_lo hR ha (fun z => by cases z <;> exact hi (Or.inr (Nat.zero_le _)))
  obtain ⟨q0, hq0⟩ := xL_get (X := X) (n := H.size) ha hlo (xR_lt hR ha hlo)
  exact va_astqN (D := X.1) (A := xA X) (s := s) hx hb hK (xL_P hR) xL_D hS q0 1 hq0 rfl hi hdg (fun H1 locs1 hP1 hD1 hS1 => kz d H1 locs1 ls hd (xR_set hR (xS_tr hGs hS) hq0 (e1 := (.inl (1, n, .inr (.inr (.inr (.inr (va_up f i.toNatClampNeg none))))))) hP1 (xS_tr hGs hS1)) hS1 hl)
theorem xr_new (S : xS V X l own nm cc nL ws R) {index : Nat} {C : String} {T : u_T} {N : Nat} (ci : Nat) (ty0 : Nat → FieldType) (fs : List Value) (hdg : decode cc pc = .ok (.new index, 3)) (hin : ∀ w ∈ u_ws C T N, w ∈ ws) (hty : ∀ k, k < N → parseFieldDescriptor (T k).2.2.1 = some (ty0 k)) (hcl : Cond.classLink own index C ∈ ws) (hinst : Cond.instantiable C N ∈ ws) (hini : Cond.initialized C ∈ ws) (hc : vwCl[ci]? = some (C, T, N)) (hfs : ∀ j, j < N → defaultValue (ty0 j) = vp_V fs j) (hcells : cells + 1 ≤ R.cells) (hslots : slots + N ≤ R.slots) (kz : ∀ q : Nat, h q = none → V (cells + 1) (slots + N) (xup h q (.inr (ci, fs))) (pc + 3) lv (.ref q :: st)) : V cells slots h pc lv (st) := by
  obtain ⟨ok, p, e, s, m, args, below, meth, c, Q, rfl, hx, hb, hml, hown, hts, hK, hZ, hlk, hGs, hnm⟩ := S
  intro d H locs ls hd hR hS hl
  exact va_new (D := X.1) (A := xA X) (ci := ci) (s := s) hx hb hts hin ty0 hty hown (hts _ hcl) (hts _ hinst) (hts _ hini) hK (xL_P hR) xL_D hS (fun q hq => Nat.le_trans hGs.1 hq) hc hfs hcells hslots hdg (fun q H1 hP1 hD1 hS1 => by
    obtain ⟨hn, hR1⟩ := xR_push (e1 := .inr (ci, fs)) hR (xS_tr hGs hS) hP1 hD1 (xS_tr hGs hS1)
    exact kz q hn d H1 locs ls hd hR1 hS1 hl)
theorem xr_newi (S : xS V X l own nm cc nL ws R) {x : Int32} {N : Nat} (t : Nat) (hdg : decode cc pc = .ok (.newarray .int, 2)) (ht : t = 0 ∨ t = 2) (harr : Cond.arrayClass .int ∈ ws) (hn : ¬ x < 0) (hN : x.toNatClampNeg = N) (hbytes : N * componentBytes .int ≤ 536870912) (hcells : cells + 1 ≤ R.cells) (hslots : slots + N ≤ R.slots) (kz : ∀ q : Nat, h q = none → V (cells + 1) (slots + N) (xup h q (.inl (t, N, .inl (fun _ => 0)))) (pc + 2) lv (.ref q :: st)) : V cells slots h pc lv (.int x :: st) := by
  obtain ⟨ok, p, e, s, m, args, below, meth, c, Q, rfl, hx, hb, hml, hown, hts, hK, hZ, hlk, hGs, hnm⟩ := S
  intro d H locs ls hd hR hS hl
  exact va_newa (D := X.1) (A := xA X) (atype := .int) (ty := .int) (s := s) (a0 := (N, .inl (fun _ => 0))) hx hb (hts _ harr) rfl hK (xL_P hR) xL_D hS (fun q hq => Nat.le_trans hGs.1 hq) (fun cA => rfl) hn hN hbytes hcells hslots hdg (fun q cA H1 hK1 hP1 hD1 hS1 => by
    have hcA : cA = xC X t := xK_eq hK1 t (by rcases ht with rfl | rfl <;> rfl)
    subst hcA
    obtain ⟨hn, hR1⟩ := xR_push (e1 := .inl (t, N, .inl (fun _ => 0))) hR (xS_tr hGs hS) hP1 hD1 (xS_tr hGs hS1)
    exact kz q hn d H1 locs ls hd hR1 hS1 hl)
theorem xr_newq (S : xS V X l own nm cc nL ws R) {x : Int32} {N index : Nat} (hdg : decode cc pc = .ok (.anewarray index, 3)) (hcl : Cond.classLink own index "java/lang/Object" ∈ ws) (hn : ¬ x < 0) (hN : x.toNatClampNeg = N) (hbytes : N * 4 ≤ 536870912) (hcells : cells + 1 ≤ R.cells) (hslots : slots + N ≤ R.slots) (kz : ∀ q : Nat, h q = none → V (cells + 1) (slots + N) (xup h q (.inl (1, N, .inr (.inr (.inr (.inr (fun _ => none))))))) (pc + 3) lv (.ref q :: st)) : V cells slots h pc lv (.int x :: st) := by
  obtain ⟨ok, p, e, s, m, args, below, meth, c, Q, rfl, hx, hb, hml, hown, hts, hK, hZ, hlk, hGs, hnm⟩ := S
  intro d H locs ls hd hR hS hl
  exact va_newq (D := X.1) (A := xA X) (s := s) hx hb hown (hts _ hcl) hZ.2.2.2.2.2.1 hK (xL_P hR) xL_D hS (fun q hq => Nat.le_trans hGs.1 hq) hn hN hbytes hcells hslots hdg (fun q cA H1 hK1 hP1 hD1 hS1 => by
    have hcA : cA = xC X 1 := xK_eq hK1 1 rfl
    subst hcA
    obtain ⟨hn, hR1⟩ := xR_push (e1 := .inl (1, N, .inr (.inr (.inr (.inr (fun _ => none)))))) hR (xS_tr hGs hS) hP1 hD1 (xS_tr hGs hS1)
    exact kz q hn d H1 locs ls hd hR1 hS1 hl)
/-- rows of rows of ints -/
theorem xr_ald2 (S : xS V X l own nm cc nL ws R) {a n : Nat} {i : Int32} {f : Nat → Option Nat} (hdg : decode cc pc = .ok (.aaload, 1)) (ha : h a = some (.inl (4, n, .inr (.inr (.inr (.inr f)))))) (hi : vp_in i n) (kz : V cells slots h (pc + 1) lv (va_rf (f i.toNatClampNeg) :: st)) : V cells slots h pc lv (.int i :: .ref a :: st) :=
  xr_step S (fun p e s m args below meth c Q H locs ls F hR hl kz => by
    obtain ⟨hx, hb, hml, hown, hts, hK, hZ, hlk, hGs, hnm⟩ := F
    have hlt : i.toNatClampNeg < n := Nat.not_le.mp fun q => hi (Or.inr q)
    exact W.aald (v := va_rf (f i.toNatClampNeg)) (ty := .array .int) hx hb ((xR_one hR ha) 0 _ rfl) ((hK.2 4 _ rfl).1 n (fun j => va_rf (f j))) rfl (fun q => by cases q) (by show ¬ (i < 0 ∨ (arrV _ _ _).slots.size ≤ _); rw [arrV_size]; exact hi) (by show (arrV _ _ _).slots[_]? = _; rw [arrV_read _ _ hlt]) rfl rfl hdg (kz ls hl)) kz
theorem xr_ast2 (S : xS V X l own nm cc nL ws R) {a n v m2 : Nat} {g : Nat → Int32} {i : Int32} {f : Nat → Option Nat} (hdg : decode cc pc = .ok (.aastore, 1)) (ha : h a = some (.inl (4, n, .inr (.inr (.inr (.inr f)))))) (hi : vp_in i n) (hv : h v = some (.inl (2, m2, .inl g))) (kz : V cells slots (xup h a (.inl (4, n, .inr (.inr (.inr (.inr (va_up f i.toNatClampNeg (some v)))))))) (pc + 1) lv st) : V cells slots h pc lv (.ref v :: .int i :: .ref a :: st) := by
  obtain ⟨ok, p, e, s, m, args, below, meth, c, Q, rfl, hx, hb, hml, hown, hts, hK, hZ, hlk, hGs, hnm⟩ := S
  intro d H locs ls hd hR hS hl
  have hlo := xR_lo hR ha (fun z => by cases z)
  obtain ⟨q0, hq0⟩ := xL_get (X := X) (n := H.size) ha hlo (xR_lt hR ha hlo)
  have hlt : i.toNatClampNeg < n := Nat.not_le.mp fun q => hi (Or.inr q)
  have h0 : ¬ i < 0 := fun q => hi (Or.inl q)
  obtain ⟨comp, cA, kA, f1, f2, f3, f4, f5⟩ := arrayOverA_spec hZ.2.2.2.2.2.2.2.2.2.2.2.2.1
  have hcA : cA = xC X 4 := Option.some.inj (f5.symm.trans (hK.2 4 _ rfl).2)
  have hcI : comp = xC X 2 := Option.some.inj (f1.symm.trans (hK.2 2 _ rfl).2)
  subst hcA hcI
  obtain ⟨kI, hkI, -⟩ := Vm.findClass_spec f1
  have hvc : H[v]? = some (vp_cell (xC X 2) (m2, .inl g)) := (xR_one hR hv) 0 _ rfl
  refine W.aast (s := s) hx hb ((xR_one hR ha) 0 _ rfl) (fun q h => by cases h) (fun h => by cases h) f3 f4 rfl hkI ⟨h0, by show _ < (arrV _ _ _).slots.size; rw [arrV_size]; exact hlt⟩ hvc (fun q h => by cases h) hkI (xasg _ _) rfl rfl hdg fun H1 e z oq => ?_
  have hP0 := xL_P hR
  have hD0 := xL_D (X := X) (h := h) (n := H.size)
  have hcell : H1[a]? = some (vp_cell (xC X 4) (n, .inr (.inr (.inr (.inr (va_up f i.toNatClampNeg (some v))))))) := by
    rw [e]
    show some ((vp_cell _ _).setSlot _ _) = _
    rw [vp_cell_q, vp_cell_q, arrV_store]
    congr 2
    funext q
    by_cases hq : q = i.toNatClampNeg
    · subst hq
      simp [updV, va_up, va_rf]
    · simp [updV, va_up, hq]
  have hS1 : va_S (xA X) s.heap H1 (locs ++ [⟨a, i.toNatClampNeg⟩]) := hS.put z oq (hD0.2 q0 _ hq0)
  exact kz d H1 _ ls hd (xR_set hR (xS_tr hGs hS) hq0 (e1 := (.inl (4, n, .inr (.inr (.inr (.inr (va_up f i.toNatClampNeg (some v)))))))) (hP0.set hD0 hq0 hcell oq) (xS_tr hGs hS1)) hS1 hl
theorem xr_new2 (S : xS V X l own nm cc nL ws R) {x : Int32} {N index : Nat} (hdg : decode cc pc = .ok (.anewarray index, 3)) (hcl : Cond.classLink own index "[I" ∈ ws) (hn : ¬ x < 0) (hN : x.toNatClampNeg = N) (hbytes : N * 4 ≤ 536870912) (hcells : cells + 1 ≤ R.cells) (hslots : slots + N ≤ R.slots) (kz : ∀ q : Nat, h q = none → V (cells + 1) (slots + N) (xup h q (.inl (4, N, .inr (.inr (.inr (.inr (fun _ => none))))))) (pc + 3) lv (.ref q :: st)) : V cells slots h pc lv (.int x :: st) := by
  obtain ⟨ok, p, e, s, m, args, below, meth, c, Q, rfl, hx, hb, hml, hown, hts, hK, hZ, hlk, hGs, hnm⟩ := S
  intro d H locs ls hd hR hS hl
  subst hN
  refine W.anewA (s := s) (t := .int) hx hb hown (hts _ hcl) (show (Cond.arrayOver (.array .int)).before args s = true from hZ.2.2.2.2.2.2.2.2.2.2.2.2.1) rfl hdg rfl hn hbytes hcells hslots fun cA kA comp f1 f2 f3 f4 => ?_
  have hcA : cA = xC X 4 := Option.some.inj (f1.symm.trans (hK.2 4 _ rfl).2)
  subst hcA
  generalize hH1 : H.push ({ cls := xC X 4, slots := Array.replicate x.toNatClampNeg .null, vm := .none } : Cell) = H1
  have z1 : H1.size = H.size + 1 := by rw [← hH1, Array.size_push]
  have e1 : H1[H.size]? = some (arrV (xC X 4) x.toNatClampNeg (fun _ => .null)) := by rw [← hH1, Array.getElem?_push_size, ← arrV_new]
  have o1 : ∀ q : Nat, q < H.size → H1[q]? = H[q]? := fun q hq => by rw [← hH1, Array.getElem?_push, if_neg (Nat.ne_of_lt hq)]
  have hP := xL_P hR
  have hk : ∀ (k : Nat) (y : Nat × va_E), (xL X h H.size)[k]? = some y → H1[y.1]? = H[y.1]? := fun k y hy => o1 y.1 ((hP k y hy).lt)
  have hS1 : va_S (xA X) s.heap H1 locs := ⟨Nat.le_trans hS.1 (by omega), fun y h1 h2 => (o1 y (Nat.lt_of_lt_of_le h1 hS.1)).trans (hS.2.1 y h1 h2), hS.2.2⟩
  have hP1 : va_P X.1 vwCl (xL X h H.size ++ [(H.size, xE (xC X) (.inl (4, x.toNatClampNeg, .inr (.inr (.inr (.inr (fun _ => none)))))))]) H1 := (hP.kept hk).app (fun k y hy => by
    have hz : k < 1 := (List.getElem?_eq_some_iff.mp hy).1
    rw [show k = 0 by omega] at hy
    cases hy
    show H1[H.size]? = some (vp_cell _ _)
    rw [vp_cell_q]
    exact e1)
  obtain ⟨hnn, hR1⟩ := xR_push (e1 := .inl (4, x.toNatClampNeg, .inr (.inr (.inr (.inr (fun _ => none)))))) hR (xS_tr hGs hS) hP1 (xL_D.push hP rfl (show (xG X).size ≤ H.size from Nat.le_trans hGs.1 hS.1)) (xS_tr hGs hS1)
  exact kz H.size hnn d H1 locs ls hd hR1 hS1 hl
end
/-! ends, calls, throws, contracts -/
def xEnd (V : XVT) (cc : ByteArray) (ret : Option FieldType) (mc ms : Nat) (Po : Option Value → XH → Prop) : Prop :=
  (∀ (cells slots : Nat) (h : XH) (pc : Nat) (lv : List (Nat × Value)) (x : Int32), ret = some .int → decode cc pc = .ok (.ireturn, 1) → Po (some (.int x)) h → cells ≤ mc → slots ≤ ms → V cells slots h pc lv [.int x]) ∧
  (∀ (cells slots : Nat) (h : XH) (pc : Nat) (lv : List (Nat × Value)) (x : Int32), ret = some .boolean → narrow .boolean (.int x) = .int x → decode cc pc = .ok (.ireturn, 1) → Po (some (.int x)) h → cells ≤ mc → slots ≤ ms → V cells slots h pc lv [.int x]) ∧
  (∀ (cells slots : Nat) (h : XH) (pc : Nat) (lv : List (Nat × Value)), ret = none → decode cc pc = .ok (.return_, 1) → Po none h → cells ≤ mc → slots ≤ ms → V cells slots h pc lv []) ∧
  (∀ (cells slots : Nat) (h : XH) (pc : Nat) (lv : List (Nat × Value)) (rt : FieldType) (r : Option Nat), ret = some rt → ((∃ n, rt = .object n) ∨ ∃ t, rt = .array t) → decode cc pc = .ok (.areturn, 1) → Po (some (va_rf r)) h → cells ≤ mc → slots ≤ ms → V cells slots h pc lv [va_rf r]) ∧
  (∀ (cells slots : Nat) (h : XH) (pc : Nat) (lv : List (Nat × Value)) (x : Int64), ret = some .long → decode cc pc = .ok (.lreturn, 1) → Po (some (.long x)) h → cells ≤ mc → slots ≤ ms → V cells slots h pc lv [.long x]) ∧
  (∀ (cells slots : Nat) (h : XH) (pc : Nat) (lv : List (Nat × Value)) (x : UInt64), ret = some .double → decode cc pc = .ok (.dreturn, 1) → Po (some (.double x)) h → cells ≤ mc → slots ≤ ms → V cells slots h pc lv [.double x])
theorem xQ_end {X : XC} {Po : Option Value → XH → Prop} {args : Array Value} {s t : State} {H : Heap} {locs : List Loc} {h : XH} {v : Option Value} (hGs : va_S (xA X) (xG X) s.heap []) (hR : xR X h H) (hS : va_S (xA X) s.heap H locs) (hP : Po v h) (ht : t.heap = H) : xQ X Po args s (.returned v) t := by
  subst ht
  have hG := xS_tr hGs hS
  exact ⟨v, h, rfl, hP, hR, ⟨hG.1, hG.2.1, fun _ q => absurd q List.not_mem_nil⟩, hS.1⟩
theorem xEnd_of {X : XC} {ok : Drawn → Prop} {nL : Nat} {p : Program} {l : Launch} {e : Env} {R : Room} {s : State} {m : MethodId} {args : Array Value} {below : List Frame} {meth : Method} {c : Code} {Q : State → Prop} {cc : ByteArray} {ret : Option FieldType} {mc ms : Nat} {Po : Option Value → XH → Prop}
    (hx : p.tables.exec = Jvm.exec) (hb : c.code = cc) (hr : meth.sig.returnType = ret) (hlk : meth.locks = false) (hGs : va_S (xA X) (xG X) s.heap [])
    (lift : ∀ (d : Drawn) (H : Heap) (locs : List Loc) (g : JFrame), ok d → W p l e R s m args below meth c H locs mc ms (MQ below (xQ X Po) args s mc ms (xA X)) g → W p l e R s m args below meth c H locs mc ms Q g) :
    xEnd (XV X ok nL p l e R s m args below meth c Q) cc ret mc ms Po := by
  refine ⟨?_, ?_, ?_, ?_, ?_, ?_⟩
  · intro cells slots h pc lv x hret hdg hP hc hs d H locs ls hd hR hS hl
    exact W.widen hc hs (lift d H locs _ hd (W.iret (s := s) hx hb (hr.trans hret) (fun t ht hW => xQ_end (s := s) hGs hR hS hP ht) (fun q hq => hS.2.2 q hq) hdg hlk))
  · intro cells slots h pc lv x hret hn hdg hP hc hs d H locs ls hd hR hS hl
    exact W.widen hc hs (lift d H locs _ hd (W.zret (s := s) hx hb (hr.trans hret) hn (fun t ht hW => xQ_end (s := s) hGs hR hS hP ht) (fun q hq => hS.2.2 q hq) hdg hlk))
  · intro cells slots h pc lv hret hdg hP hc hs d H locs ls hd hR hS hl
    exact W.widen hc hs (lift d H locs _ hd (W.vret (s := s) hx hb (hr.trans hret) (fun t ht hW => xQ_end (s := s) hGs hR hS hP ht) (fun q hq => hS.2.2 q hq) hdg hlk))
  · intro cells slots h pc lv rt r hret hrt hdg hP hc hs d H locs ls hd hR hS hl
    exact W.widen hc hs (lift d H locs _ hd (W.aret (s := s) hx hb (hr.trans hret) hrt (by cases r with | none => exact Or.inl rfl | some a => exact Or.inr ⟨a, rfl⟩) (fun t ht hW => xQ_end (s := s) hGs hR hS hP ht) (fun q hq => hS.2.2 q hq) hdg hlk))
  · intro cells slots h pc lv x hret hdg hP hc hs d H locs ls hd hR hS hl
    exact W.widen hc hs (lift d H locs _ hd (W.lret (s := s) hx hb (hr.trans hret) (fun t ht hW => xQ_end (s := s) hGs hR hS hP ht) (fun q hq => hS.2.2 q hq) hdg hlk))
  · intro cells slots h pc lv x hret hdg hP hc hs d H locs ls hd hR hS hl
    exact W.widen hc hs (lift d H locs _ hd (W.dret (s := s) hx hb (hr.trans hret) (fun t ht hW => xQ_end (s := s) hGs hR hS hP ht) (fun q hq => hS.2.2 q hq) hdg hlk))
theorem xM_of {l : Launch} {dc : Nat × Nat} {y : MethodName} {wsy ws' : List Cond} {own : String} {cc : ByteArray} {nL : Nat} {ret : Option FieldType} {fr lo mc ms : Nat} {As : List Value} (lv0 : List (Nat × Value)) {h : XH} {Po : Option Value → XH → Prop}
    (hy : plainName y.cls = true) (hown : y.cls = own) (hw : wsy = Cond.code y cc nL ret :: ws') (hlen : (lg_sl As).length ≤ nL) (hlv : lv_args 0 As = lv0)
    (body : ∀ (X : XC) (V : XVT), xdc X = dc → xS V X l own y.name cc nL wsy (xRm fr lo mc ms) → xEnd V cc ret mc ms Po → V 0 0 h 0 lv0 []) : xM l dc y wsy fr lo mc ms As h Po := by
  intro X hX
  refine Met.ofW (cc := cc) (maxL := nL) (ret := ret) hy hw ?_
  intro p e s m args below meth c s₁ B hml hv
  obtain ⟨rfl, ⟨hK, hZ⟩, hR, hSG⟩ := hv
  have hl := lv_entry As (n := nL) hlen
  rw [hlv] at hl
  rw [lg_entry_eq]
  generalize (lg_sl As ++ List.replicate (nL - (lg_sl As).length) Slot.unset).toArray = ls at hl ⊢
  have hfc : s.vm.findClass own = some m.cls := by rw [← hown]; exact findClass_of_methodNamed B.named
  exact body X (XV X (fun d => d = s.drawn) nL p l e (xRm fr lo mc ms) s m As.toArray below meth c (MQ below (xQ X Po) As.toArray s mc ms (xA X))) hX
    ⟨_, p, e, s, m, _, below, meth, c, _, rfl, B.exec, B.bytes, hml, hfc, atoms_spec (ws := wsy) B.pre, hK, hZ, B.notSynchronized, hSG, (name_of_methodNamed B.named B.method).1⟩
    (xEnd_of B.exec B.bytes B.returns B.notSynchronized hSG (fun d H locs g hd k => by subst hd; exact k)) s.drawn s.heap [] ls rfl hR va_S.rf hl
theorem xS_after {X : XC} {s : State} {H H1 : Heap} {locs L : List Loc} (hGs : va_S (xA X) (xG X) s.heap []) (hS : va_S (xA X) s.heap H locs) (hz : H.size ≤ H1.size) (h1 : va_S (xA X) (xG X) H1 []) (hL : ∀ z ∈ L, xA X z.base) : va_S (xA X) s.heap H1 (locs ++ L) := by
  refine ⟨Nat.le_trans hS.1 hz, fun q hq hn => ?_, fun z hz' => (List.mem_append.mp hz').elim (hS.2.2 z) (hL z)⟩
  have hlt : q < (xG X).size := Nat.lt_of_not_le hn
  rw [h1.2.1 q hlt hn, hGs.2.1 q hlt hn]
theorem xI_of {X : XC} {h : XH} {s U : State} {H : Heap} {locs : List Loc} (hK : va_K X.1 vwCl (xT X) s) (hZ : xZ X s) (hR : xR X h H) (hSG : va_S (xA X) (xG X) H locs) (hU : U.heap = H) (hW : s.WarmedH U.vm) : xI X h U := by
  subst hU
  exact ⟨⟨hK.moved hW.alike, hZ.warm hW⟩, hR, hSG.1, hSG.2.1, fun _ q => absurd q List.not_mem_nil⟩
theorem xPre {X : XC} {h : XH} {As : List Value} : FrameBlind (va_Pc As (xI X h)) := fun a U g mk q => ⟨q.1, q.2.blind⟩
section
variable {V : XVT} {X : XC} {l : Launch} {own nm : String} {cc : ByteArray} {nL : Nat} {ws : List Cond} {R : Room} {cells slots pc : Nat} {h : XH} {lv : List (Nat × Value)} {st : List Value}
  {index maxL : Nat} {y : MethodName} {bytes : ByteArray} {ret : Option FieldType} {wsy ws' : List Cond} {fr lo mc ms : Nat} {Po : Option Value → XH → Prop}
theorem xr_callV (S : xS V X l own nm cc nL ws R) {C : String} {T : u_T} {N b : Nat} {fs : List Value} (ci : Nat) (As rest : List Value) (hdg : decode cc pc = .ok (.invokevirtual index, 3)) (hM : xM l (xdc X) y wsy fr lo mc ms (.ref b :: As) h Po) (hG : GoodIn ws (wsV own index C y wsy)) (hw : wsy = Cond.code y bytes maxL ret :: ws')
    (hd1 : y.cls = C ∧ y.cls ≠ "java/lang/invoke/MethodHandle" ∧ y.cls ≠ "java/lang/invoke/VarHandle" ∧ (parseMethodDescriptor y.desc).map (fun d => d.parameters.length) = some As.length) (hRm : fr + 1 ≤ R.frames ∧ 8 + (maxL + 11) + lo ≤ R.locals) (hst : st = As.reverse ++ .ref b :: rest) (hrest : (rest.map fun v => v.category).sum ≤ 8) (hcs : cells + mc ≤ R.cells ∧ slots + ms ≤ R.slots) (hb1 : h b = some (.inr (ci, fs))) (hc : vwCl[ci]? = some (C, T, N))
    (k : ∀ (v : Option Value) (h' : XH), Po v h' → V (cells + mc) (slots + ms) h' (pc + 3) lv (v.toList ++ rest)) : V cells slots h pc lv st := by
  obtain ⟨ok, p, e, s, m, args, below, meth, c, Q, rfl, hx, hb, hml, hown, hts, hK, hZ, hlk, hGs, hnm⟩ := S
  intro d H locs ls hd hR hS hl T0 hT X0
  obtain ⟨v, st₀, t, T', L, h0, X', hL, e1, e2, ⟨v', h', ho, hPo, hR', hSG', hz⟩, stp⟩ := va_runV (s := s) (As := As) (rest := rest) (g := F0 m pc ls st) ⟨hx, hb, hml, hown, hts⟩ (hM X rfl) (cwV As.length hts hG hw rfl rfl hd1 hRm) ⟨xPre, va_recv hK (xR_one hR hb1) (ci := ci) (q0 := 0) hc rfl, fun U hU hW => ⟨rfl, xI_of hK hZ hR (xS_tr hGs hS) hU hW⟩⟩ rfl rfl hl.1 hst (lv_room hrest) hdg hcs T0 hT X0
  cases ho
  rw [h0] at hz
  obtain ⟨t2, a1, b1⟩ := k v h' hPo d T'.heap (locs ++ L) ls hd (by rw [e1]; exact hR') (by rw [e1]; exact xS_after hGs hS hz hSG' hL) hl T' rfl X'
  exact ⟨t2, stp t2 a1, b1⟩
theorem xr_callS (S : xS V X l own nm cc nL ws R) (As rest : List Value) (hdg : decode cc pc = .ok (.invokestatic index, 3)) (hM : xM l (xdc X) y wsy fr lo mc ms As h Po) (hG : GoodIn ws (va_wsS own index y wsy)) (hw : wsy = Cond.code y bytes maxL ret :: ws')
    (hd1 : y.cls ≠ "java/lang/invoke/MethodHandle" ∧ y.cls ≠ "java/lang/invoke/VarHandle" ∧ (parseMethodDescriptor y.desc).map (fun d => d.parameters.length) = some As.length) (hRm : fr + 1 ≤ R.frames ∧ 8 + (maxL + 11) + lo ≤ R.locals) (hst : st = As.reverse ++ rest) (hrest : (rest.map fun v => v.category).sum ≤ 8) (hcs : cells + mc ≤ R.cells ∧ slots + ms ≤ R.slots)
    (k : ∀ (v : Option Value) (h' : XH), Po v h' → V (cells + mc) (slots + ms) h' (pc + 3) lv (v.toList ++ rest)) : V cells slots h pc lv st := by
  obtain ⟨ok, p, e, s, m, args, below, meth, c, Q, rfl, hx, hb, hml, hown, hts, hK, hZ, hlk, hGs, hnm⟩ := S
  intro d H locs ls hd hR hS hl T0 hT X0
  obtain ⟨v, st₀, t, T', L, h0, X', hL, e1, e2, ⟨v', h', ho, hPo, hR', hSG', hz⟩, stp⟩ := va_runS (s := s) (As := As) (rest := rest) (g := F0 m pc ls st) ⟨hx, hb, hml, hown, hts⟩ (hM X rfl) (va_cwS As.length hts hG hw rfl rfl hd1 hRm) ⟨xPre, fun U hU hW => ⟨rfl, xI_of hK hZ hR (xS_tr hGs hS) hU hW⟩⟩ rfl rfl hl.1 hst (lv_room hrest) hdg hcs T0 hT X0
  cases ho
  rw [h0] at hz
  obtain ⟨t2, a1, b1⟩ := k v h' hPo d T'.heap (locs ++ L) ls hd (by rw [e1]; exact hR') (by rw [e1]; exact xS_after hGs hS hz hSG' hL) hl T' rfl X'
  exact ⟨t2, stp t2 a1, b1⟩
theorem xr_callI (S : xS V X l own nm cc nL ws R) {b : Nat} (As rest : List Value) (hdg : decode cc pc = .ok (.invokespecial index, 3)) (hM : xM l (xdc X) y wsy fr lo mc ms (.ref b :: As) h Po) (hG : GoodIn ws wsy) (hw : wsy = Cond.code y bytes maxL none :: ws') (hini : Cond.initialized y.cls ∈ ws) (hlink : Cond.methodLink own index y ∈ ws) (hinst : Cond.instanceMethod y ∈ ws) (hy1 : y.name = "<init>")
    (hd1 : y.cls ≠ "java/lang/invoke/MethodHandle" ∧ y.cls ≠ "java/lang/invoke/VarHandle" ∧ (parseMethodDescriptor y.desc).map (fun d => d.parameters.length) = some As.length) (hRm : fr + 1 ≤ R.frames ∧ 8 + (maxL + 11) + lo ≤ R.locals) (hst : st = As.reverse ++ .ref b :: rest) (hrest : (rest.map fun v => v.category).sum ≤ 8) (hcs : cells + mc ≤ R.cells ∧ slots + ms ≤ R.slots)
    (k : ∀ (v : Option Value) (h' : XH), Po v h' → V (cells + mc) (slots + ms) h' (pc + 3) lv (v.toList ++ rest)) : V cells slots h pc lv st := by
  obtain ⟨ok, p, e, s, m, args, below, meth, c, Q, rfl, hx, hb, hml, hown, hts, hK, hZ, hlk, hGs, hnm⟩ := S
  intro d H locs ls hd hR hS hl T0 hT X0
  have ht := hts
  obtain ⟨v, st₀, t, T', L, h0, X', hL, e1, e2, ⟨v', h', ho, hPo, hR', hSG', hz⟩, stp⟩ := va_runI (s := s) (As := As) (rest := rest) (b := b) (g := F0 m pc ls st) ⟨hx, hb, hml, hown, ht⟩ (hM X rfl) (cwI As.length ht hG hw rfl rfl (ht _ hini) (ht _ hlink) (ht _ hinst) hy1 hd1 hRm) ⟨xPre, fun U hU hW => ⟨rfl, xI_of hK hZ hR (xS_tr hGs hS) hU hW⟩⟩ rfl rfl hl.1 hst (lv_room hrest) hdg hcs T0 hT X0
  cases ho
  rw [h0] at hz
  obtain ⟨t2, a1, b1⟩ := k v h' hPo d T'.heap (locs ++ L) ls hd (by rw [e1]; exact hR') (by rw [e1]; exact xS_after hGs hS hz hSG' hL) hl T' rfl X'
  exact ⟨t2, stp t2 a1, b1⟩
end
section
variable {V : XVT} {X : XC} {l : Launch} {own nm : String} {cc : ByteArray} {nL : Nat} {ws : List Cond} {R : Room} {cells slots pc : Nat} {h : XH} {lv : List (Nat × Value)} {st : List Value}
theorem xr_objInit (S : xS V X l own nm cc nL ws R) {index a : Nat} (hdg : decode cc pc = .ok (.invokespecial index, 3)) (hlink : Cond.methodLink own index objectInit ∈ ws) (hinst : Cond.instanceMethod objectInit ∈ ws) (hcode : Cond.code objectInit ⟨#[0xb1]⟩ 1 none ∈ ws) (hf : 1 ≤ R.frames) (hlo : (st.map fun v => v.category).sum + 12 ≤ R.locals) (k : V cells slots h (pc + 3) lv st) : V cells slots h pc lv (.ref a :: st) :=
  xr_step S (fun p e s m args below meth c Q H locs ls F hR hl k => by
    obtain ⟨hx, hb, hml, hown, hts, hK, hZ, hlk, hGs, hnm⟩ := F
    exact W.objInit hx hb hown (hts _ hlink) (hts _ hinst) (hts _ hcode) rfl (by rw [hml]; exact hl.1) rfl hdg hf (by show 2 * 0 + _ + 12 ≤ _; omega) (k ls hl)) k
theorem xr_mmax (S : xS V X l own nm cc nL ws R) {index : Nat} {x y : Int32} (hdg : decode cc pc = .ok (.invokestatic index, 3)) (hlink : Cond.methodLink own index Lib.Math.max.name ∈ ws) (hstat : Cond.static Lib.Math.max.name ∈ ws) (hini : Cond.initialized "java/lang/Math" ∈ ws) (hcode : Cond.code Lib.Math.max.name Lib.Math.max.code 2 (some .int) ∈ ws) (hf : 1 ≤ R.frames) (hlo : (st.map fun v => v.category).sum + 13 ≤ R.locals) (hcs : cells ≤ R.cells ∧ slots ≤ R.slots) (k : V cells slots h (pc + 3) lv (.int (if x < y then y else x) :: st)) : V cells slots h pc lv (.int y :: .int x :: st) :=
  xr_step S (fun p e s m args below meth c Q H locs ls F hR hl k => by
    obtain ⟨hx, hb, hml, hown, hts, hK, hZ, hlk, hGs, hnm⟩ := F
    exact va_mmax hx hb (hml.trans hl.1.symm) hown (hts _ hlink) (hts _ hstat) (hts _ hini) (hts _ hcode) hf hlo hcs.1 hcs.2 hdg (k ls hl)) k
theorem xr_mmin (S : xS V X l own nm cc nL ws R) {index : Nat} {x y : Int32} (hdg : decode cc pc = .ok (.invokestatic index, 3)) (hlink : Cond.methodLink own index Lib.Math.min.name ∈ ws) (hstat : Cond.static Lib.Math.min.name ∈ ws) (hini : Cond.initialized "java/lang/Math" ∈ ws) (hcode : Cond.code Lib.Math.min.name Lib.Math.min.code 2 (some .int) ∈ ws) (hf : 1 ≤ R.frames) (hlo : (st.map fun v => v.category).sum + 13 ≤ R.locals) (hcs : cells ≤ R.cells ∧ slots ≤ R.slots) (k : V cells slots h (pc + 3) lv (.int (if y < x then y else x) :: st)) : V cells slots h pc lv (.int y :: .int x :: st) :=
  xr_step S (fun p e s m args below meth c Q H locs ls F hR hl k => by
    obtain ⟨hx, hb, hml, hown, hts, hK, hZ, hlk, hGs, hnm⟩ := F
    exact va_mmin hx hb (hml.trans hl.1.symm) hown (hts _ hlink) (hts _ hstat) (hts _ hini) (hts _ hcode) hf hlo hcs.1 hcs.2 hdg (k ls hl)) k
theorem xr_mabs (S : xS V X l own nm cc nL ws R) {index : Nat} {x : Int32} (hdg : decode cc pc = .ok (.invokestatic index, 3)) (hlink : Cond.methodLink own index Lib.Math.abs.name ∈ ws) (hstat : Cond.static Lib.Math.abs.name ∈ ws) (hini : Cond.initialized "java/lang/Math" ∈ ws) (hcode : Cond.code Lib.Math.abs.name Lib.Math.abs.code 1 (some .int) ∈ ws) (hf : 1 ≤ R.frames) (hlo : (st.map fun v => v.category).sum + 13 ≤ R.locals) (hcs : cells ≤ R.cells ∧ slots ≤ R.slots) (k : V cells slots h (pc + 3) lv (.int (if 0 ≤ x then x else 0 - x) :: st)) : V cells slots h pc lv (.int x :: st) :=
  xr_step S (fun p e s m args below meth c Q H locs ls F hR hl k => by
    obtain ⟨hx, hb, hml, hown, hts, hK, hZ, hlk, hGs, hnm⟩ := F
    exact va_mabs hx hb (hml.trans hl.1.symm) hown (hts _ hlink) (hts _ hstat) (hts _ hini) (hts _ hcode) hf hlo hcs.1 hcs.2 hdg (k ls hl)) k
/-- a cast to the object's own class -/
theorem xr_cast (S : xS V X l own nm cc nL ws R) {index a : Nat} {C : String} {T : u_T} {N : Nat} {fs : List Value} (ci : Nat) (hdg : decode cc pc = .ok (.checkcast index, 3)) (hlink : Cond.classLink own index C ∈ ws) (ha : h a = some (.inr (ci, fs))) (hc : vwCl[ci]? = some (C, T, N)) (k : V cells slots h (pc + 3) lv (.ref a :: st)) : V cells slots h pc lv (.ref a :: st) :=
  xr_step S (fun p e s m args below meth c Q H locs ls F hR hl k => by
    obtain ⟨hx, hb, hml, hown, hts, hK, hZ, hlk, hGs, hnm⟩ := F
    exact va_castS hx hb hown (hts _ hlink) (hK.1 ci _ hc).2 (va_recv hK (xR_one hR ha) (ci := ci) (q0 := 0) hc rfl) hdg (k ls hl)) k
/-- ArrayList's static empty row -/
theorem xr_getsE (S : xS V X l own nm cc nL ws R) {index : Nat} (hdg : decode cc pc = .ok (.getstatic index, 3)) (hlink : Cond.fieldLink own index RJx4a65c "DEFAULTCAPACITY_EMPTY_ELEMENTDATA" "[Ljava/lang/Object;" ∈ ws) (k : V cells slots h (pc + 3) lv (.ref (xdc X).1 :: st)) : V cells slots h pc lv st := by
  obtain ⟨ok, p, e, s, m, args, below, meth, c, Q, rfl, hx, hb, hml, hown, hts, hK, hZ, hlk, hGs, hnm⟩ := S
  intro d H locs ls hd hR hS hl
  have hZ0 : va_Z RJx4a65c "DEFAULTCAPACITY_EMPTY_ELEMENTDATA" "[Ljava/lang/Object;" (.ref (xdc X).1) (xA X) s s.heap := hZ.1.kept (fun a h1 h2 => hGs.2.1 a h1 h2)
  exact va_gets (s := s) hx hb hZ0 hS hown (hts _ hlink) (fun _ q => q) hdg (k d H locs ls hd hR hS hl)
end
