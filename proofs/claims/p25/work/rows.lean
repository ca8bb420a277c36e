section
-- ===== PART A: goes FIRST, ahead of the names: the tables' words, and 'selects' of the private methods out of them =====
/-- a private method of a class that the tables say can be made, by its rows of tables_1 -/
def lw_okq (q : MethodName × Nat) : Prop := (q.1.cls ≠ "java/lang/invoke/MethodHandle" ∧ q.1.cls ≠ "java/lang/invoke/VarHandle") ∧ Cond.instantiable q.1.cls q.2 ∈ tables_1 ∧ Cond.privateMethod q.1 ∈ tables_1 ∧ Cond.instanceMethod q.1 ∈ tables_1
theorem lw_p0 : lw_okq (⟨"java/lang/Throwable", "fillInStackTrace", "(I)Ljava/lang/Throwable;"⟩, 6) := ⟨⟨by decide +kernel, by decide +kernel⟩, List.mem_of_getElem? (i := 147) (by decide +kernel), List.mem_of_getElem? (i := 145) (by decide +kernel), List.mem_of_getElem? (i := 146) (by decide +kernel)⟩
theorem lw_p1 : lw_okq (⟨"PilotBook", "checkCall", "(III)V"⟩, 8) := ⟨⟨by decide +kernel, by decide +kernel⟩, List.mem_of_getElem? (i := 24) (by decide +kernel), List.mem_of_getElem? (i := 181) (by decide +kernel), List.mem_of_getElem? (i := 182) (by decide +kernel)⟩
theorem lw_p2 : lw_okq (⟨"PilotBook", "routeOf", "(II)LPilotBook$Route;"⟩, 8) := ⟨⟨by decide +kernel, by decide +kernel⟩, List.mem_of_getElem? (i := 24) (by decide +kernel), List.mem_of_getElem? (i := 211) (by decide +kernel), List.mem_of_getElem? (i := 212) (by decide +kernel)⟩
theorem lw_p3 : lw_okq (⟨"PilotBook", "firstBegin", "(LPilotBook$Route;I)I"⟩, 8) := ⟨⟨by decide +kernel, by decide +kernel⟩, List.mem_of_getElem? (i := 24) (by decide +kernel), List.mem_of_getElem? (i := 261) (by decide +kernel), List.mem_of_getElem? (i := 262) (by decide +kernel)⟩
theorem lw_p4 : lw_okq (⟨"PilotBook", "freeFrom", "(LPilotBook$Route;)I"⟩, 8) := ⟨⟨by decide +kernel, by decide +kernel⟩, List.mem_of_getElem? (i := 24) (by decide +kernel), List.mem_of_getElem? (i := 265) (by decide +kernel), List.mem_of_getElem? (i := 266) (by decide +kernel)⟩
theorem lw_p5 : lw_okq (⟨"PilotBook", "canBegin", "(LPilotBook$Route;I)Z"⟩, 8) := ⟨⟨by decide +kernel, by decide +kernel⟩, List.mem_of_getElem? (i := 24) (by decide +kernel), List.mem_of_getElem? (i := 277) (by decide +kernel), List.mem_of_getElem? (i := 278) (by decide +kernel)⟩
theorem lw_p6 : lw_okq (⟨"PilotBook", "hasClearWay", "(LPilotBook$Route;I)Z"⟩, 8) := ⟨⟨by decide +kernel, by decide +kernel⟩, List.mem_of_getElem? (i := 24) (by decide +kernel), List.mem_of_getElem? (i := 281) (by decide +kernel), List.mem_of_getElem? (i := 282) (by decide +kernel)⟩
theorem lw_p7 : lw_okq (⟨"PilotBook", "hasWater", "(LPilotBook$Ship;II)Z"⟩, 8) := ⟨⟨by decide +kernel, by decide +kernel⟩, List.mem_of_getElem? (i := 24) (by decide +kernel), List.mem_of_getElem? (i := 292) (by decide +kernel), List.mem_of_getElem? (i := 293) (by decide +kernel)⟩
theorem lw_p8 : lw_okq (⟨"PilotBook", "waterNeed", "(LPilotBook$Ship;)I"⟩, 8) := ⟨⟨by decide +kernel, by decide +kernel⟩, List.mem_of_getElem? (i := 24) (by decide +kernel), List.mem_of_getElem? (i := 304) (by decide +kernel), List.mem_of_getElem? (i := 305) (by decide +kernel)⟩
theorem lw_p9 : lw_okq (⟨"PilotBook", "hasTugs", "(LPilotBook$Route;I)Z"⟩, 8) := ⟨⟨by decide +kernel, by decide +kernel⟩, List.mem_of_getElem? (i := 24) (by decide +kernel), List.mem_of_getElem? (i := 312) (by decide +kernel), List.mem_of_getElem? (i := 313) (by decide +kernel)⟩
theorem lw_p10 : lw_okq (⟨"PilotBook", "tugsInUse", "(I)I"⟩, 8) := ⟨⟨by decide +kernel, by decide +kernel⟩, List.mem_of_getElem? (i := 24) (by decide +kernel), List.mem_of_getElem? (i := 320) (by decide +kernel), List.mem_of_getElem? (i := 321) (by decide +kernel)⟩
theorem lw_p11 : lw_okq (⟨"PilotBook", "pilotFor", "(LPilotBook$Route;I)LPilotBook$Pilot;"⟩, 8) := ⟨⟨by decide +kernel, by decide +kernel⟩, List.mem_of_getElem? (i := 24) (by decide +kernel), List.mem_of_getElem? (i := 329) (by decide +kernel), List.mem_of_getElem? (i := 330) (by decide +kernel)⟩
theorem lw_p12 : lw_okq (⟨"java/util/ArrayList", "add", "(Ljava/lang/Object;[Ljava/lang/Object;I)V"⟩, 3) := ⟨⟨by decide +kernel, by decide +kernel⟩, List.mem_of_getElem? (i := 50) (by decide +kernel), List.mem_of_getElem? (i := 442) (by decide +kernel), List.mem_of_getElem? (i := 443) (by decide +kernel)⟩
theorem lw_p13 : lw_okq (⟨"java/util/ArrayList", "grow", "()[Ljava/lang/Object;"⟩, 3) := ⟨⟨by decide +kernel, by decide +kernel⟩, List.mem_of_getElem? (i := 50) (by decide +kernel), List.mem_of_getElem? (i := 446) (by decide +kernel), List.mem_of_getElem? (i := 447) (by decide +kernel)⟩
theorem lw_p14 : lw_okq (⟨"java/util/ArrayList", "grow", "(I)[Ljava/lang/Object;"⟩, 3) := ⟨⟨by decide +kernel, by decide +kernel⟩, List.mem_of_getElem? (i := 50) (by decide +kernel), List.mem_of_getElem? (i := 450) (by decide +kernel), List.mem_of_getElem? (i := 451) (by decide +kernel)⟩
theorem lw_p15 : lw_okq (⟨"PilotBook", "enter", "(LPilotBook$Passage;)V"⟩, 8) := ⟨⟨by decide +kernel, by decide +kernel⟩, List.mem_of_getElem? (i := 24) (by decide +kernel), List.mem_of_getElem? (i := 614) (by decide +kernel), List.mem_of_getElem? (i := 615) (by decide +kernel)⟩
def lw_privs_1 : List (MethodName × Nat) := [(⟨"java/lang/Throwable", "fillInStackTrace", "(I)Ljava/lang/Throwable;"⟩, 6), (⟨"PilotBook", "checkCall", "(III)V"⟩, 8), (⟨"PilotBook", "routeOf", "(II)LPilotBook$Route;"⟩, 8), (⟨"PilotBook", "firstBegin", "(LPilotBook$Route;I)I"⟩, 8), (⟨"PilotBook", "freeFrom", "(LPilotBook$Route;)I"⟩, 8), (⟨"PilotBook", "canBegin", "(LPilotBook$Route;I)Z"⟩, 8), (⟨"PilotBook", "hasClearWay", "(LPilotBook$Route;I)Z"⟩, 8), (⟨"PilotBook", "hasWater", "(LPilotBook$Ship;II)Z"⟩, 8), (⟨"PilotBook", "waterNeed", "(LPilotBook$Ship;)I"⟩, 8), (⟨"PilotBook", "hasTugs", "(LPilotBook$Route;I)Z"⟩, 8), (⟨"PilotBook", "tugsInUse", "(I)I"⟩, 8), (⟨"PilotBook", "pilotFor", "(LPilotBook$Route;I)LPilotBook$Pilot;"⟩, 8), (⟨"java/util/ArrayList", "add", "(Ljava/lang/Object;[Ljava/lang/Object;I)V"⟩, 3), (⟨"java/util/ArrayList", "grow", "()[Ljava/lang/Object;"⟩, 3), (⟨"java/util/ArrayList", "grow", "(I)[Ljava/lang/Object;"⟩, 3), (⟨"PilotBook", "enter", "(LPilotBook$Passage;)V"⟩, 8)]
theorem lw_r1 : ∀ q ∈ lw_privs_1, lw_okq q := List.forall_mem_cons.mpr ⟨lw_p0, List.forall_mem_cons.mpr ⟨lw_p1, List.forall_mem_cons.mpr ⟨lw_p2, List.forall_mem_cons.mpr ⟨lw_p3, List.forall_mem_cons.mpr ⟨lw_p4, List.forall_mem_cons.mpr ⟨lw_p5, List.forall_mem_cons.mpr ⟨lw_p6, List.forall_mem_cons.mpr ⟨lw_p7, List.forall_mem_cons.mpr ⟨lw_p8, List.forall_mem_cons.mpr ⟨lw_p9, List.forall_mem_cons.mpr ⟨lw_p10, List.forall_mem_cons.mpr ⟨lw_p11, List.forall_mem_cons.mpr ⟨lw_p12, List.forall_mem_cons.mpr ⟨lw_p13, List.forall_mem_cons.mpr ⟨lw_p14, List.forall_mem_cons.mpr ⟨lw_p15, fun _ h => absurd h List.not_mem_nil⟩⟩⟩⟩⟩⟩⟩⟩⟩⟩⟩⟩⟩⟩⟩⟩
def lw_privs : List (MethodName × Nat) := lw_privs_1
def lw_tbl : List Cond := k2_sels lw_privs ++ tables_1
theorem lw_privs_ok : ∀ q ∈ lw_privs, lw_okq q := lw_r1
end
section
/-! ===== BEGIN words of one list among another's, by their places ===== -/
theorem goodIn_r {big : List Cond} (ws : List Cond) (ps : List Nat) (hp : ws = ps.filterMap (fun i => big[i]?)) (h : ws.all goodWord = true) : GoodIn big ws := by
  intro w hw
  have h1 := List.all_eq_true.mp h w hw
  rw [hp] at hw
  obtain ⟨i, -, hi⟩ := List.mem_filterMap.mp hw
  have hm : w ∈ big := by first | exact List.mem_of_getElem? hi | exact List.getElem?_mem hi
  exact ⟨hm, good_of_word h1⟩
theorem goodIn_app {big a b : List Cond} (ha : GoodIn big a) (hb : GoodIn big b) : GoodIn big (a ++ b) := fun w h => (List.mem_append.mp h).elim (ha w) (hb w)
theorem goodIn_ca {big a b : List Cond} {c : Cond} (ha : GoodIn big (c :: a)) (hb : GoodIn big b) : GoodIn big (c :: (a ++ b)) := fun w h => (List.mem_cons.mp h).elim (fun e => ha w (List.mem_cons.mpr (Or.inl e))) (fun h => (List.mem_append.mp h).elim (fun h => ha w (List.mem_cons.mpr (Or.inr h))) (hb w))
theorem goodIn_sub {big ws : List Cond} (hm : ∀ w ∈ ws, w ∈ big) (h : ws.all goodWord = true) : GoodIn big ws := fun w hw => ⟨hm w hw, good_of_word (List.all_eq_true.mp h w hw)⟩
/-! ===== END ===== -/

/-! ===== BEGIN exceptions that leave a method, and their catching by the caller (launches without stack traces) ===== -/
section VXA
/-! The laws vx_back, vx_callV, vx_callS, vx_callSW, vx_throw0, vx_throwS follow proofs of the library, with one case more: JvmDerived/Free/Laws.lean (Back.of_free), Shelf42/LK1.lean (callV, callS), Shelf/KitTraced.lean (throwNew0V, throwNewS). -/
/-- where a method has thrown q: the class by its name, the cell, what was written, the world -/
def vx_T (XC : String → State → State → Prop) (st : State) (q : Addr) (t : State) (mc ms : Nat) (free : Addr → Prop) : Prop :=
  ∃ (E : String) (ce : Cell) (L : List Loc), XC E st t ∧ t.heap[q]? = some ce ∧ ce.vm = .none ∧ st.vm.findClass E = some ce.cls ∧ st.WarmedH t.vm ∧ st.sameButNew ({ t with vm := st.vm } : State) L mc ms ∧ ∀ z ∈ L, free z.base
def vx_Q (Qc : Array Value → State → Outcome → State → Prop) (XC : String → State → State → Prop) (mc ms : Nat) (free : Addr → Prop) : Array Value → State → Outcome → State → Prop := fun a st o t =>
  (Qc a st o t ∧ ∃ L, FrameEnd st o t L mc ms ∧ ∀ q ∈ L, free q.base) ∨ ∃ q, o = .threw q ∧ vx_T XC st q t mc ms free
/-- a callee that returns or throws -/
def vx_Met (l : Launch) (y : MethodName) (ws : List Cond) (rm : Room) (Pc : Array Value → State → Prop) (Qc : Array Value → State → Outcome → State → Prop) (XC : String → State → State → Prop) (mc ms : Nat) (free : Addr → Prop) : Prop :=
  MetFree l y (headSpec ws rm) Pc (fun _ _ _ _ _ => True) (vx_Q Qc XC mc ms free)
def vx_Post (XC : String → State → State → Prop) (mc ms : Nat) (free : Addr → Prop) : Pt → Array Value → Addr → Pt → Prop := fun A a q B =>
  ∃ (g : JFrame) (mk : MethodId) (t : State) (L : List Loc) (E : String) (ce : Cell), B.U.heap = t.heap ∧ B.U.vm = t.vm ∧ XC E (A.U.calling g mk a) t ∧ t.heap[q]? = some ce ∧ ce.vm = .none ∧ A.U.vm.findClass E = some ce.cls ∧ B.locs = A.locs ++ L ∧ (∀ z ∈ L, free z.base) ∧ B.cells = A.cells + mc ∧ B.slots = A.slots + ms
def vx_Back (l : Launch) (R : Room) (p : Program) (e : Env) (below : List Frame) (s : State) (sargs : Array Value) (y : MethodName) (len W9 : Nat)
    (Pre : Pt → Array Value → Prop) (Post : Pt → Array Value → Option Value → Pt → Prop) (PostX : Pt → Array Value → Addr → Pt → Prop) : Prop :=
  ∀ (m : MethodId) (meth : Method) (c : Code) (A : Pt) (g : JFrame) (ig : Instr) (mk : MethodId) (a : Array Value),
    Stand p l e R s m sargs below meth c A.U A.locs A.cells A.slots → g.method = m → g.locals.size = c.maxLocals → decode c.code g.pc = .ok (ig, len) →
    2 * g.monitorRoom + (g.stack.map fun v => v.category).sum ≤ W9 → A.U.methodNamed? y = some mk → Pre A a →
    (∃ (v : Option Value) (B : Pt), Stand p l e R s m sargs below meth c B.U B.locs B.cells B.slots ∧ Post A a v B ∧
      Steps p.tables e below (doInvoke e (A.U.setTop g) [] mk a).1 (B.U.setTop { g with pc := g.pc + len, stack := v.toList ++ g.stack })) ∨
    (∃ (q : Addr) (B : Pt), Stand p l e R s m sargs below meth c B.U B.locs B.cells B.slots ∧ PostX A a q B ∧
      Steps p.tables e below (doInvoke e (A.U.setTop g) [] mk a).1 ((B.U.setTop g).pushFrame (.throwing q)))
section Payer
variable {l : Launch} {R : Room} {p : Program} {e : Env} {below : List Frame} {s : State} {sargs : Array Value} {y : MethodName} {len W9 : Nat}
theorem vx_back {ws : List Cond} {rm : Room} {Pc : Array Value → State → Prop} {Qc : Array Value → State → Outcome → State → Prop} {XC : String → State → State → Prop} {mc ms : Nat} {free : Addr → Prop} {bytes : ByteArray} {maxL : Nat} {ret : Option FieldType}
    (hM : vx_Met l y ws rm Pc Qc XC mc ms free) (hblind : FrameBlind Pc) (hrc : rm.cells = mc) (hrs : rm.slots = ms)
    (hframes : rm.frames + 1 ≤ R.frames) (hlocals : W9 + (maxL + 11) + rm.locals ≤ R.locals)
    (hws : ∀ w ∈ ws, ∀ a' U, s.WarmedH U.vm → w.before a' U = true) (hcode : Cond.code y bytes maxL ret ∈ ws) (hinit : ∀ a' U, s.WarmedH U.vm → (Cond.initialized y.cls).before a' U = true) :
    vx_Back l R p e below s sargs y len W9 (PreOf R mc ms Pc) (PostOf Qc mc ms free) (vx_Post XC mc ms free) := by
  intro m meth c A g ig mk a X hg hsize hdg hW hn hp
  have h1 : (headSpec ws rm).pre.before a A.U = true := atoms_intro fun w hw => hws w hw _ _ X.warmed
  have h2 : (Cond.code y bytes maxL ret).before a A.U = true := hws _ hcode _ _ X.warmed
  have h3 : (Cond.initialized y.cls).before a A.U = true := hinit _ _ X.warmed
  have h4 : A.cells + (headSpec ws rm).room.cells ≤ R.cells := by rw [show (headSpec ws rm).room.cells = mc from hrc]; exact hp.1
  have h5 : A.slots + (headSpec ws rm).room.slots ≤ R.slots := by rw [show (headSpec ws rm).room.slots = ms from hrs]; exact hp.2.1
  have hPc : Pc a (A.U.calling g mk a) := hblind _ _ _ _ hp.2.2
  obtain ⟨U, Ls, c0, s0⟩ := A
  dsimp only [Pt.U, Pt.locs, Pt.cells, Pt.slots] at h1 h2 h3 h4 h5 X hn hPc ⊢
  obtain ⟨methY, cY, hmY, hcY, -, hlY, -, -, -, -⟩ := Cond.code_spec hn h2
  obtain ⟨kY, hkY, -⟩ := className_of_methodNamed hn
  have hinitY : kY.init = .initialized := Cond.initialized_spec (findClass_of_methodNamed hn) hkY h3
  have h : At U g.method c below := by rw [hg]; exact X.here
  have hlocals9 : W9 + (maxL + 11) + (headSpec ws rm).room.locals ≤ R.locals := hlocals
  have happ : (headSpec ws rm).appliesLoose y e.platform (U.calling g mk a) = true :=
    Spec.appliesLoose_calling (g := g) h hdg hn hkY hinitY
      (X.room_calling (g := g) (R' := (headSpec ws rm).room) hsize hmY hcY hframes (by rw [hlY]; omega) h4 h5) h1
  obtain ⟨mid, hmid⟩ := h.above
  have hfr : (U.setTop g).frames = (.java g :: mid) ++ below := by rw [State.frames_setTop' g h.top, hmid]; rfl
  obtain ⟨o, s₂, hsteps, -, hend, hq⟩ := Steps.callFree hM p X.admits X.cas X.clock (acts := []) hfr happ hPc trivial
  have hq' : vx_Q Qc XC mc ms free a (U.calling g mk a) o s₂ := hq
  rw [State.frames_setTop' g h.top] at hend
  obtain ⟨g₀, hg0⟩ := Option.isSome_iff_exists.mp h.top
  obtain ⟨r, hr⟩ := State.topJava?_eq_some.mp hg0
  have hr' : (({ U with heap := s₂.heap, slotsUsed := s₂.slotsUsed } : State).setVm s₂.vm).frames = .java g₀ :: r := hr
  rcases hq' with ⟨hqc, L, hfe, hL⟩ | ⟨q, rfl, E, ce, L, hx, hce, hcv, hcl, hW₂, hsm, hL⟩
  · obtain ⟨⟨v, rfl⟩, hW₂, e2, q2, q3, q4, q5, q6⟩ := id hfe
    have e3 : s₂ = ({ (U.calling g mk a).setFrames s₂.frames with heap := s₂.heap, slotsUsed := s₂.slotsUsed } : State).setVm s₂.vm := by
      have : s₂ = ({ s₂ with vm := (U.calling g mk a).vm } : State).setVm s₂.vm := rfl
      rw [e2] at this
      exact this
    obtain ⟨c₂, i₂, len₂, hc₂, hd₂, hf₂⟩ := hend
    have hW' : U.WarmedH s₂.vm := hW₂
    have hcc : c₂ = c := by
      have h1 : s₂.code? g.method = U.code? g.method := by
        rw [State.code?_eq, State.code?_eq, hW'.alike.method?]
      exact Option.some.inj (hc₂.symm.trans (h1.trans h.code))
    subst hcc
    have hlen : len₂ = len := by rw [hdg] at hd₂; cases hd₂; rfl
    subst hlen
    have hs₂ : s₂ = (({ U with heap := s₂.heap, slotsUsed := s₂.slotsUsed } : State).setVm s₂.vm).setTop { g with pc := g.pc + len₂, stack := v.toList ++ g.stack } := by
      refine e3.trans ?_
      rw [hf₂, State.calling_eq h.top, State.setFrames_setFrames, State.setTop_of_frames _ hr', hr]
      rfl
    have hsame : U.sameButNew ({ U with heap := s₂.heap, slotsUsed := s₂.slotsUsed } : State) L mc ms := by
      refine ⟨?_, q2, q3, q4, q5, q6⟩
      obtain ⟨t, ht, -⟩ := State.frames_cons hr
      show ({ U with heap := s₂.heap, slotsUsed := s₂.slotsUsed } : State) = { U.setFrames U.frames with heap := s₂.heap, slotsUsed := s₂.slotsUsed }
      rw [State.setFrames_self ht]
    subst hg
    refine Or.inl ⟨v, ⟨(({ U with heap := s₂.heap, slotsUsed := s₂.slotsUsed } : State).setVm s₂.vm), Ls ++ L, c0 + mc, s0 + ms⟩,
      ⟨X.admits, X.cas, X.clock, X.frames, X.room, X.hears, X.method, X.code, (X.here.setHeapUsed s₂.heap s₂.slotsUsed).setVm hW'.alike, X.tail, State.WarmedH.trans X.warmed hW', X.limits, X.bytes, X.same.trans (hsame.setVm s.vm)⟩,
      ⟨g, mk, s₂, L, rfl, rfl, hqc, rfl, hL, rfl, rfl⟩, ?_⟩
    show Steps p.tables e below _ ((({ U with heap := s₂.heap, slotsUsed := s₂.slotsUsed } : State).setVm s₂.vm).setTop { g with pc := g.pc + len₂, stack := v.toList ++ g.stack })
    rw [← hs₂]
    exact hsteps
  · obtain ⟨e2, q2, q3, q4, q5, q6⟩ := id hsm
    have e3 : s₂ = ({ (U.calling g mk a).setFrames s₂.frames with heap := s₂.heap, slotsUsed := s₂.slotsUsed } : State).setVm s₂.vm := by
      have : s₂ = ({ s₂ with vm := (U.calling g mk a).vm } : State).setVm s₂.vm := rfl
      rw [e2] at this
      exact this
    have hf₂ : s₂.frames = .throwing q :: .java g :: U.frames.tail := hend
    have hW' : U.WarmedH s₂.vm := hW₂
    have hs₂ : s₂ = ((({ U with heap := s₂.heap, slotsUsed := s₂.slotsUsed } : State).setVm s₂.vm).setTop g).pushFrame (.throwing q) := by
      refine e3.trans ?_
      rw [hf₂, State.calling_eq h.top, State.setFrames_setFrames, State.pushFrame, State.frames_setTop _ hr', State.setTop_of_frames _ hr', State.setFrames_setFrames, hr]
      rfl
    have hsame : U.sameButNew ({ U with heap := s₂.heap, slotsUsed := s₂.slotsUsed } : State) L mc ms := by
      refine ⟨?_, q2, q3, q4, q5, q6⟩
      obtain ⟨t, ht, -⟩ := State.frames_cons hr
      show ({ U with heap := s₂.heap, slotsUsed := s₂.slotsUsed } : State) = { U.setFrames U.frames with heap := s₂.heap, slotsUsed := s₂.slotsUsed }
      rw [State.setFrames_self ht]
    subst hg
    refine Or.inr ⟨q, ⟨(({ U with heap := s₂.heap, slotsUsed := s₂.slotsUsed } : State).setVm s₂.vm), Ls ++ L, c0 + mc, s0 + ms⟩,
      ⟨X.admits, X.cas, X.clock, X.frames, X.room, X.hears, X.method, X.code, (X.here.setHeapUsed s₂.heap s₂.slotsUsed).setVm hW'.alike, X.tail, State.WarmedH.trans X.warmed hW', X.limits, X.bytes, X.same.trans (hsame.setVm s.vm)⟩,
      ⟨g, mk, s₂, L, E, ce, rfl, rfl, hx, hce, hcv, hcl, rfl, hL, rfl, rfl⟩, ?_⟩
    show Steps p.tables e below _ (((({ U with heap := s₂.heap, slotsUsed := s₂.slotsUsed } : State).setVm s₂.vm).setTop g).pushFrame (.throwing q))
    rw [← hs₂]
    exact hsteps
end Payer
section Calls
variable {p : Program} {l : Launch} {e : Env} {R : Room} {s : State} {m : MethodId} {args : Array Value} {below : List Frame} {meth : Method} {c : Code} {T : State} {locs : List Loc} {cells slots : Nat}
theorem vx_callV (X : Stand p l e R s m args below meth c T locs cells slots) (hexec : p.tables.exec = Jvm.exec) {own C : String} {index : Nat} {y : MethodName} {bytes : ByteArray} {maxL : Nat} {ret : Option FieldType}
    (hown : s.vm.findClass own = some m.cls) (hlink : (Cond.methodLink own index y).before args s = true) (hinst : (Cond.instanceMethod y).before args s = true) (hsel : (Cond.selects C y y).before args s = true)
    (hcode : (Cond.code y bytes maxL ret).before args s = true) (hy : y.cls ≠ "java/lang/invoke/MethodHandle" ∧ y.cls ≠ "java/lang/invoke/VarHandle")
    {W9 : Nat} {Pre : Pt → Array Value → Prop} {Post : Pt → Array Value → Option Value → Pt → Prop} {PostX : Pt → Array Value → Addr → Pt → Prop} (hK : vx_Back l R p e below s args y 3 W9 Pre Post PostX)
    {b : Addr} {cellB : Cell} (hcell : T.heap[b]? = some cellB) (hobj : cellB.vm.isStatics = false) (hcls : s.vm.findClass C = some cellB.cls)
    {g : JFrame} (hg : g.method = m) (hsize : g.locals.size = c.maxLocals) {argsL rest : List Value} (hlen : ∀ sig, parseMethodDescriptor y.desc = some sig → argsL.length = sig.parameters.length)
    (hstack : g.stack = argsL.reverse ++ .ref b :: rest) (hW : 2 * g.monitorRoom + (rest.map fun v => v.category).sum ≤ W9) (hdg : decode c.code g.pc = .ok (.invokevirtual index, 3))
    (hpre : ∀ vm₁, s.WarmedH vm₁ → Pre ⟨T.setVm vm₁, locs, cells, slots⟩ (Value.ref b :: argsL).toArray) :
    (∃ (v : Option Value) (vm₁ : Vm) (B : Pt), s.WarmedH vm₁ ∧ Stand p l e R s m args below meth c B.U B.locs B.cells B.slots ∧ Post ⟨T.setVm vm₁, locs, cells, slots⟩ (Value.ref b :: argsL).toArray v B ∧
      ∀ target, Steps p.tables e below (B.U.setTop { g with pc := g.pc + 3, stack := v.toList ++ rest }) target → Steps p.tables e below (T.setTop g) target) ∨
    (∃ (q : Addr) (vm₁ : Vm) (B : Pt), s.WarmedH vm₁ ∧ Stand p l e R s m args below meth c B.U B.locs B.cells B.slots ∧ PostX ⟨T.setVm vm₁, locs, cells, slots⟩ (Value.ref b :: argsL).toArray q B ∧
      Steps p.tables e below (T.setTop g) ((B.U.setTop { g with stack := rest }).pushFrame (.throwing q))) := by
  obtain ⟨mk, methM, hnamed, hmethM, hstM, habM⟩ := Cond.instanceMethod_spec hinst
  obtain ⟨methM', cM, hmethM', -, -, -, -, -, -, hsigM⟩ := Cond.code_spec hnamed hcode
  cases hmethM.symm.trans hmethM'
  obtain ⟨c2, r2, m2, q1, q2, q3, q4, kP, hkP, hkPi⟩ := Cond.selects_spec hsel
  cases hcls.symm.trans q1
  cases (State.methodFound?_of_named hnamed hy).symm.trans q2
  cases hnamed.symm.trans q3
  have hselP : selectMethod e.platform s.vm cellB.cls mk = .method mk := by rw [Launch.admits_selectMethod X.admits]; exact q4
  obtain ⟨vm₁, X₁, hstep₁⟩ := X.invokevirtual hexec hown hlink hnamed hmethM hstM hkP hkPi hy (a := b) (cell := cellB) hcell
    (fun z h => by rw [h] at hobj; cases hobj) hselP hmethM habM hkP hkPi (g := g) hg (argsL := argsL) (rest := rest) (hlen _ hsigM) hstack hdg
  rcases hK m meth c ⟨T.setVm vm₁, locs, cells, slots⟩ { g with stack := rest } (.invokevirtual index) mk (Value.ref b :: argsL).toArray X₁ hg hsize hdg hW (X₁.named hnamed) (hpre vm₁ X₁.warmed) with ⟨v, B, X', hpost, hsteps⟩ | ⟨q, B, X', hpost, hsteps⟩
  · exact Or.inl ⟨v, vm₁, B, X₁.warmed, X', hpost, fun target h => hstep₁ _ fun acts => by rw [doInvoke_state]; exact hsteps.trans h⟩
  · exact Or.inr ⟨q, vm₁, B, X₁.warmed, X', hpost, hstep₁ _ fun acts => by rw [doInvoke_state]; exact hsteps⟩
theorem vx_callS (X : Stand p l e R s m args below meth c T locs cells slots) (hexec : p.tables.exec = Jvm.exec) {own : String} {index : Nat} {y : MethodName} {bytes : ByteArray} {maxL : Nat} {ret : Option FieldType}
    (hown : s.vm.findClass own = some m.cls) (hlink : (Cond.methodLink own index y).before args s = true) (hstat : (Cond.static y).before args s = true) (hinit : (Cond.initialized y.cls).before args s = true)
    (hcode : (Cond.code y bytes maxL ret).before args s = true) (hy : y.cls ≠ "java/lang/invoke/MethodHandle" ∧ y.cls ≠ "java/lang/invoke/VarHandle")
    {W9 : Nat} {Pre : Pt → Array Value → Prop} {Post : Pt → Array Value → Option Value → Pt → Prop} {PostX : Pt → Array Value → Addr → Pt → Prop} (hK : vx_Back l R p e below s args y 3 W9 Pre Post PostX)
    {g : JFrame} (hg : g.method = m) (hsize : g.locals.size = c.maxLocals) {argsL rest : List Value} (hlen : ∀ sig, parseMethodDescriptor y.desc = some sig → argsL.length = sig.parameters.length)
    (hstack : g.stack = argsL.reverse ++ rest) (hW : 2 * g.monitorRoom + (rest.map fun v => v.category).sum ≤ W9) (hdg : decode c.code g.pc = .ok (.invokestatic index, 3))
    (hpre : ∀ vm₁, s.WarmedH vm₁ → Pre ⟨T.setVm vm₁, locs, cells, slots⟩ argsL.toArray) :
    (∃ (v : Option Value) (vm₁ : Vm) (B : Pt), s.WarmedH vm₁ ∧ Stand p l e R s m args below meth c B.U B.locs B.cells B.slots ∧ Post ⟨T.setVm vm₁, locs, cells, slots⟩ argsL.toArray v B ∧
      ∀ target, Steps p.tables e below (B.U.setTop { g with pc := g.pc + 3, stack := v.toList ++ rest }) target → Steps p.tables e below (T.setTop g) target) ∨
    (∃ (q : Addr) (vm₁ : Vm) (B : Pt), s.WarmedH vm₁ ∧ Stand p l e R s m args below meth c B.U B.locs B.cells B.slots ∧ PostX ⟨T.setVm vm₁, locs, cells, slots⟩ argsL.toArray q B ∧
      Steps p.tables e below (T.setTop g) ((B.U.setTop { g with stack := rest }).pushFrame (.throwing q))) := by
  obtain ⟨mk, hnamed⟩ := Cond.code_named hcode
  obtain ⟨methM, cM, hmethM, -, -, -, -, -, -, hsigM⟩ := Cond.code_spec hnamed hcode
  have hstatic : methM.isStatic = true := Cond.static_spec hnamed hmethM hstat
  obtain ⟨kP, hkP, -⟩ := className_of_methodNamed hnamed
  have hinitP : kP.init = .initialized := Cond.initialized_spec (findClass_of_methodNamed hnamed) hkP hinit
  obtain ⟨vm₁, X₁, hstep₁⟩ := X.invokestatic hexec hown hlink hnamed hmethM hstatic hkP hinitP hy (g := g) hg (argsL := argsL) (rest := rest) (hlen _ hsigM) hstack hdg
  rcases hK m meth c ⟨T.setVm vm₁, locs, cells, slots⟩ { g with stack := rest } (.invokestatic index) mk argsL.toArray X₁ hg hsize hdg hW (X₁.named hnamed) (hpre vm₁ X₁.warmed) with ⟨v, B, X', hpost, hsteps⟩ | ⟨q, B, X', hpost, hsteps⟩
  · exact Or.inl ⟨v, vm₁, B, X₁.warmed, X', hpost, fun target h => hstep₁ _ fun acts => by rw [doInvoke_state]; exact hsteps.trans h⟩
  · exact Or.inr ⟨q, vm₁, B, X₁.warmed, X', hpost, hstep₁ _ fun acts => by rw [doInvoke_state]; exact hsteps⟩
end Calls
theorem vx_cls {s : State} {T : State} {vm₁ : Vm} {E : String} {k : ClassId} (hW : s.WarmedH vm₁) (h : (T.setVm vm₁).vm.findClass E = some k) : s.vm.findClass E = some k := by
  have h1 : vm₁.findClass E = some k := h
  rw [hW.alike.findClass] at h1
  exact h1
/-- the method's frame g, with q thrown over it -/
def vx_W (p : Program) (l : Launch) (e : Env) (R : Room) (s : State) (m : MethodId) (args : Array Value) (below : List Frame) (meth : Method) (c : Code) (H : Heap) (locs : List Loc) (cells slots : Nat) (Q : State → Prop) (g : JFrame) (q : Addr) : Prop :=
  ∀ T : State, T.heap = H → Stand p l e R s m args below meth c T locs cells slots → ∃ t, Steps p.tables e below ((T.setTop g).pushFrame (.throwing q)) t ∧ Q t
def vx_Run (p : Program) (l : Launch) (e : Env) (R : Room) (s : State) (m : MethodId) (args : Array Value) (below : List Frame) (meth : Method) (c : Code) (H : Heap) (locs : List Loc) (cells slots mc ms : Nat) (g : JFrame) (rest : List Value) (Qa : State → Outcome → State → Prop) (XC : String → State → State → Prop) (free : Addr → Prop) : Prop :=
  ∀ T : State, T.heap = H → Stand p l e R s m args below meth c T locs cells slots →
    (∃ (v : Option Value) (st₀ t T' : State) (L : List Loc), st₀.heap = H ∧ Stand p l e R s m args below meth c T' (locs ++ L) (cells + mc) (slots + ms) ∧ (∀ q ∈ L, free q.base) ∧ T'.heap = t.heap ∧ T'.vm = t.vm ∧ Qa st₀ (.returned v) t ∧
      Goes p e below T g T' { g with pc := g.pc + 3, stack := v.toList ++ rest }) ∨
    (∃ (q : Addr) (st₀ t T' : State) (L : List Loc) (E : String) (ce : Cell), st₀.heap = H ∧ Stand p l e R s m args below meth c T' (locs ++ L) (cells + mc) (slots + ms) ∧ (∀ z ∈ L, free z.base) ∧ T'.heap = t.heap ∧ T'.vm = t.vm ∧ XC E st₀ t ∧ t.heap[q]? = some ce ∧ ce.vm = .none ∧ s.vm.findClass E = some ce.cls ∧
      Steps p.tables e below (T.setTop g) ((T'.setTop { g with stack := rest }).pushFrame (.throwing q)))
def vx_X {S : Type} (px : S → Prop) (B : String → S → State → Prop) (A : Nat → Prop) : String → State → State → Prop := fun E st t => ∃ u : S, px u ∧ B E u t ∧ va_F A st t
section Runs
variable {p : Program} {l : Launch} {e : Env} {R : Room} {s : State} {m : MethodId} {args : Array Value} {below : List Frame} {meth : Method} {c : Code} {H : Heap} {locs : List Loc} {cells slots : Nat}
variable {y : MethodName} {bytes cc : ByteArray} {maxL nL mc ms n index : Nat} {ret : Option FieldType} {ws : List Cond} {rm : Room} {Pc : Array Value → State → Prop} {Qc : Array Value → State → Outcome → State → Prop} {XC : String → State → State → Prop} {free : Addr → Prop} {Ts : List Cond} {own C : String} {b : Addr} {As rest : List Value} {g : JFrame}
theorem vx_callBack (cb : CallB R s args own index y bytes maxL ret ws rm mc ms n) (hM : vx_Met l y ws rm Pc Qc XC mc ms free) (hbl : FrameBlind Pc) : vx_Back l R p e below s args y 3 8 (PreOf R mc ms Pc) (PostOf Qc mc ms free) (vx_Post XC mc ms free) := by
  obtain ⟨hrc, hrs, hfr, hlo, hws, hcw, -, hini, -⟩ := cb
  exact vx_back (bytes := bytes) (maxL := maxL) (ret := ret) hM hbl hrc hrs hfr hlo hws hcw (fun a' U hW => word_at hW (Or.inl (by first | rfl | simp [Cond.onTables, Cond.keeps, Cond.steady])) hini)
theorem vx_runV (S : CallFix p m c cc nL s args Ts own) (hM : vx_Met l y ws rm Pc Qc XC mc ms free) (cw : CallW R s args own C index y bytes maxL ret ws rm mc ms n) (hp : PreV s H C b Pc As)
    (hg : g.method = m) (hn : As.length = n) (hsize : g.locals.size = nL) (hstack : g.stack = As.reverse ++ .ref b :: rest) (hW : 2 * g.monitorRoom + (rest.map fun v => v.category).sum ≤ 8) (hdg : decode cc g.pc = .ok (.invokevirtual index, 3)) (hf : cells + mc ≤ R.cells ∧ slots + ms ≤ R.slots) :
    vx_Run p l e R s m args below meth c H locs cells slots mc ms g rest (Qc (Value.ref b :: As).toArray) XC free := by
  have hK : vx_Back l R p e below s args y 3 8 (PreOf R mc ms Pc) (PostOf Qc mc ms free) (vx_Post XC mc ms free) := vx_callBack cw.1 hM hp.1
  obtain ⟨⟨-, -, -, -, -, -, hcode, -, hy, hlen, hl⟩, hin, hse⟩ := cw
  obtain ⟨hx, hb, hml, ho, -⟩ := S
  obtain ⟨-, ⟨cellB, hcB, hoB, hclB⟩, hPc⟩ := hp
  intro T hT X
  rcases vx_callV X hx (C := C) (bytes := bytes) (maxL := maxL) (ret := ret) ho hl hin hse hcode hy hK (by rw [hT]; exact hcB) hoB hclB hg (hsize.trans hml.symm) (argsL := As) (rest := rest) (fun sig h => hn.trans (hlen sig h)) hstack hW (by rw [hb]; exact hdg)
    (fun vm₁ hW₁ => ⟨hf.1, hf.2, hPc (T.setVm vm₁) hT hW₁⟩) with ⟨v, vm₁, ⟨U', l2, c2, s2⟩, hW₁, X', ⟨g', mk, t, L, e1, e2, hq, h1, hL, h2, h3⟩, st⟩ | ⟨q, vm₁, ⟨U', l2, c2, s2⟩, hW₁, X', ⟨g', mk, t, L, E, ce, e1, e2, hq, hce, hcv, hcl, h1, hL, h2, h3⟩, st⟩
  · dsimp only [Pt.U, Pt.locs, Pt.cells, Pt.slots] at X' e1 e2 h1 h2 h3 st
    subst h1; subst h2; subst h3
    exact Or.inl ⟨v, (T.setVm vm₁).calling g' mk (Value.ref b :: As).toArray, t, U', L, hT, X', hL, e1, e2, hq, st⟩
  · dsimp only [Pt.U, Pt.locs, Pt.cells, Pt.slots] at X' e1 e2 h1 h2 h3 st hcl
    subst h1; subst h2; subst h3
    exact Or.inr ⟨q, (T.setVm vm₁).calling g' mk (Value.ref b :: As).toArray, t, U', L, E, ce, hT, X', hL, e1, e2, hq, hce, hcv, vx_cls hW₁ hcl, st⟩
theorem vx_runS (S : CallFix p m c cc nL s args Ts own) (hM : vx_Met l y ws rm Pc Qc XC mc ms free) (cw : CallB R s args own index y bytes maxL ret ws rm mc ms n ∧ (Cond.static y).before args s = true) (hp : PreS s H Pc As)
    (hg : g.method = m) (hn : As.length = n) (hsize : g.locals.size = nL) (hstack : g.stack = As.reverse ++ rest) (hW : 2 * g.monitorRoom + (rest.map fun v => v.category).sum ≤ 8) (hdg : decode cc g.pc = .ok (.invokestatic index, 3)) (hf : cells + mc ≤ R.cells ∧ slots + ms ≤ R.slots) :
    vx_Run p l e R s m args below meth c H locs cells slots mc ms g rest (Qc As.toArray) XC free := by
  have hK : vx_Back l R p e below s args y 3 8 (PreOf R mc ms Pc) (PostOf Qc mc ms free) (vx_Post XC mc ms free) := vx_callBack cw.1 hM hp.1
  obtain ⟨⟨-, -, -, -, -, -, hcode, hini, hy, hlen, hl⟩, hstt⟩ := cw
  obtain ⟨hx, hb, hml, ho, -⟩ := S
  intro T hT X
  rcases vx_callS X hx (bytes := bytes) (maxL := maxL) (ret := ret) ho hl hstt hini hcode hy hK hg (hsize.trans hml.symm) (argsL := As) (rest := rest) (fun sig h => hn.trans (hlen sig h)) hstack hW (by rw [hb]; exact hdg)
    (fun vm₁ hW₁ => ⟨hf.1, hf.2, hp.2 (T.setVm vm₁) hT hW₁⟩) with ⟨v, vm₁, ⟨U', l2, c2, s2⟩, hW₁, X', ⟨g', mk, t, L, e1, e2, hq, h1, hL, h2, h3⟩, st⟩ | ⟨q, vm₁, ⟨U', l2, c2, s2⟩, hW₁, X', ⟨g', mk, t, L, E, ce, e1, e2, hq, hce, hcv, hcl, h1, hL, h2, h3⟩, st⟩
  · dsimp only [Pt.U, Pt.locs, Pt.cells, Pt.slots] at X' e1 e2 h1 h2 h3 st
    subst h1; subst h2; subst h3
    exact Or.inl ⟨v, (T.setVm vm₁).calling g' mk As.toArray, t, U', L, hT, X', hL, e1, e2, hq, st⟩
  · dsimp only [Pt.U, Pt.locs, Pt.cells, Pt.slots] at X' e1 e2 h1 h2 h3 st hcl
    subst h1; subst h2; subst h3
    exact Or.inr ⟨q, (T.setVm vm₁).calling g' mk As.toArray, t, U', L, E, ce, hT, X', hL, e1, e2, hq, hce, hcv, vx_cls hW₁ hcl, st⟩
end Runs
section Rows
variable {p : Program} {l : Launch} {e : Env} {R : Room} {s : State} {m : MethodId} {args : Array Value} {below : List Frame} {meth : Method} {c : Code} {H : Heap} {locs : List Loc} {cells slots : Nat} {Q : State → Prop}
variable {mc ms : Nat} {free : Addr → Prop} {A0 A1 : Nat → Prop} {H0 : Heap} {a : Array Value} {pc : Nat} {ls : Array Slot} {st0 rest : List Value}
theorem vx_keep {st₀ t T' : State} {L : List Loc} (h0 : st₀.heap = H) (e1 : T'.heap = t.heap) (hS : va_S A0 H0 H locs) (hA : ∀ q, q < H.size → A1 q → A0 q) (hf : ∀ q, free q → A0 q) (hL : ∀ q ∈ L, free q.base) (hF : va_F A1 st₀ t) :
    H.size ≤ T'.heap.size ∧ (∀ q : Nat, q < H.size → ¬ A1 q → T'.heap[q]? = H[q]?) ∧ va_S A0 H0 T'.heap (locs ++ L) := by
  obtain ⟨hz, hk⟩ := hF
  rw [h0] at hz hk
  exact ⟨by rw [e1]; exact hz, fun q h1 h2 => by rw [e1]; exact hk q h1 h2,
    ⟨Nat.le_trans hS.1 (by rw [e1]; exact hz), fun q h1 h2 => by rw [e1, hk q (Nat.lt_of_lt_of_le h1 hS.1) (fun z => h2 (hA q (Nat.lt_of_lt_of_le h1 hS.1) z))]; exact hS.2.1 q h1 h2, fun q hq => by
      rcases List.mem_append.mp hq with h | h
      · exact hS.2.2 q h
      · exact hf _ (hL q h)⟩⟩
theorem vx_calli {S SX : Type} {post : Int32 → S → Prop} {px : SX → Prop} {B : S → State → Prop} {BX : String → SX → State → Prop} {AX : Nat → Prop} (hr : vx_Run p l e R s m args below meth c H locs cells slots mc ms (F0 m pc ls st0) rest (va_Qi post B A1 a) (vx_X px BX AX) free) (hS : va_S A0 H0 H locs) (hA : ∀ q, q < H.size → A1 q → A0 q) (hf : ∀ q, free q → A0 q) (hAX : ∀ q, q < H.size → AX q → A0 q)
    (kx : ∀ (E : String) (ce : Cell) (q9 : Addr) (u : SX) (t : State) (H1 : Heap) (locs1 : List Loc), t.heap = H1 → s.vm.Alike t.vm → px u → BX E u t → H.size ≤ H1.size → (∀ q : Nat, q < H.size → ¬ AX q → H1[q]? = H[q]?) → va_S A0 H0 H1 locs1 → H1[q9]? = some ce → ce.vm = .none → s.vm.findClass E = some ce.cls → vx_W p l e R s m args below meth c H1 locs1 (cells + mc) (slots + ms) Q (F0 m pc ls rest) q9)
    (kk : ∀ (r : Int32) (u : S) (t : State) (H1 : Heap) (locs1 : List Loc), t.heap = H1 → s.vm.Alike t.vm → post r u → B u t → H.size ≤ H1.size → (∀ q : Nat, q < H.size → ¬ A1 q → H1[q]? = H[q]?) → va_S A0 H0 H1 locs1 → W p l e R s m args below meth c H1 locs1 (cells + mc) (slots + ms) Q (F0 m (pc + 3) ls (.int r :: rest))) : W p l e R s m args below meth c H locs cells slots Q (F0 m pc ls st0) := by
  intro T hT X
  rcases hr T hT X with ⟨v, st₀, t, T', L, h0, X', hL, e1, e2, ⟨⟨r, u, hv, hp, hb⟩, hF⟩, st⟩ | ⟨q, st₀, t, T', L, E, ce, h0, X', hL, e1, e2, ⟨u, hp, hb, hF⟩, hce, hcv, hcl, st⟩
  · cases hv
    obtain ⟨k1, k2, k3⟩ := vx_keep h0 e1 hS hA hf hL hF
    obtain ⟨t2, a1, b1⟩ := kk r u t T'.heap (locs ++ L) e1.symm (by rw [← e2]; exact X'.warmed.alike) hp hb k1 k2 k3 T' rfl X'
    exact ⟨t2, st t2 a1, b1⟩
  · obtain ⟨k1, k2, k3⟩ := vx_keep h0 e1 hS hAX hf hL hF
    obtain ⟨t2, a1, b1⟩ := kx E ce q u t T'.heap (locs ++ L) e1.symm (by rw [← e2]; exact X'.warmed.alike) hp hb k1 k2 k3 (by rw [e1]; exact hce) hcv hcl T' rfl X'
    exact ⟨t2, st.trans a1, b1⟩
theorem vx_calll {S SX : Type} {post : Int64 → S → Prop} {px : SX → Prop} {B : S → State → Prop} {BX : String → SX → State → Prop} {AX : Nat → Prop} (hr : vx_Run p l e R s m args below meth c H locs cells slots mc ms (F0 m pc ls st0) rest (va_Ql post B A1 a) (vx_X px BX AX) free) (hS : va_S A0 H0 H locs) (hA : ∀ q, q < H.size → A1 q → A0 q) (hf : ∀ q, free q → A0 q) (hAX : ∀ q, q < H.size → AX q → A0 q)
    (kx : ∀ (E : String) (ce : Cell) (q9 : Addr) (u : SX) (t : State) (H1 : Heap) (locs1 : List Loc), t.heap = H1 → s.vm.Alike t.vm → px u → BX E u t → H.size ≤ H1.size → (∀ q : Nat, q < H.size → ¬ AX q → H1[q]? = H[q]?) → va_S A0 H0 H1 locs1 → H1[q9]? = some ce → ce.vm = .none → s.vm.findClass E = some ce.cls → vx_W p l e R s m args below meth c H1 locs1 (cells + mc) (slots + ms) Q (F0 m pc ls rest) q9)
    (kk : ∀ (r : Int64) (u : S) (t : State) (H1 : Heap) (locs1 : List Loc), t.heap = H1 → s.vm.Alike t.vm → post r u → B u t → H.size ≤ H1.size → (∀ q : Nat, q < H.size → ¬ A1 q → H1[q]? = H[q]?) → va_S A0 H0 H1 locs1 → W p l e R s m args below meth c H1 locs1 (cells + mc) (slots + ms) Q (F0 m (pc + 3) ls (.long r :: rest))) : W p l e R s m args below meth c H locs cells slots Q (F0 m pc ls st0) := by
  intro T hT X
  rcases hr T hT X with ⟨v, st₀, t, T', L, h0, X', hL, e1, e2, ⟨⟨r, u, hv, hp, hb⟩, hF⟩, st⟩ | ⟨q, st₀, t, T', L, E, ce, h0, X', hL, e1, e2, ⟨u, hp, hb, hF⟩, hce, hcv, hcl, st⟩
  · cases hv
    obtain ⟨k1, k2, k3⟩ := vx_keep h0 e1 hS hA hf hL hF
    obtain ⟨t2, a1, b1⟩ := kk r u t T'.heap (locs ++ L) e1.symm (by rw [← e2]; exact X'.warmed.alike) hp hb k1 k2 k3 T' rfl X'
    exact ⟨t2, st t2 a1, b1⟩
  · obtain ⟨k1, k2, k3⟩ := vx_keep h0 e1 hS hAX hf hL hF
    obtain ⟨t2, a1, b1⟩ := kx E ce q u t T'.heap (locs ++ L) e1.symm (by rw [← e2]; exact X'.warmed.alike) hp hb k1 k2 k3 (by rw [e1]; exact hce) hcv hcl T' rfl X'
    exact ⟨t2, st.trans a1, b1⟩
theorem vx_callf {S SX : Type} {post : UInt32 → S → Prop} {px : SX → Prop} {B : S → State → Prop} {BX : String → SX → State → Prop} {AX : Nat → Prop} (hr : vx_Run p l e R s m args below meth c H locs cells slots mc ms (F0 m pc ls st0) rest (va_Qf post B A1 a) (vx_X px BX AX) free) (hS : va_S A0 H0 H locs) (hA : ∀ q, q < H.size → A1 q → A0 q) (hf : ∀ q, free q → A0 q) (hAX : ∀ q, q < H.size → AX q → A0 q)
    (kx : ∀ (E : String) (ce : Cell) (q9 : Addr) (u : SX) (t : State) (H1 : Heap) (locs1 : List Loc), t.heap = H1 → s.vm.Alike t.vm → px u → BX E u t → H.size ≤ H1.size → (∀ q : Nat, q < H.size → ¬ AX q → H1[q]? = H[q]?) → va_S A0 H0 H1 locs1 → H1[q9]? = some ce → ce.vm = .none → s.vm.findClass E = some ce.cls → vx_W p l e R s m args below meth c H1 locs1 (cells + mc) (slots + ms) Q (F0 m pc ls rest) q9)
    (kk : ∀ (r : UInt32) (u : S) (t : State) (H1 : Heap) (locs1 : List Loc), t.heap = H1 → s.vm.Alike t.vm → post r u → B u t → H.size ≤ H1.size → (∀ q : Nat, q < H.size → ¬ A1 q → H1[q]? = H[q]?) → va_S A0 H0 H1 locs1 → W p l e R s m args below meth c H1 locs1 (cells + mc) (slots + ms) Q (F0 m (pc + 3) ls (.float r :: rest))) : W p l e R s m args below meth c H locs cells slots Q (F0 m pc ls st0) := by
  intro T hT X
  rcases hr T hT X with ⟨v, st₀, t, T', L, h0, X', hL, e1, e2, ⟨⟨r, u, hv, hp, hb⟩, hF⟩, st⟩ | ⟨q, st₀, t, T', L, E, ce, h0, X', hL, e1, e2, ⟨u, hp, hb, hF⟩, hce, hcv, hcl, st⟩
  · cases hv
    obtain ⟨k1, k2, k3⟩ := vx_keep h0 e1 hS hA hf hL hF
    obtain ⟨t2, a1, b1⟩ := kk r u t T'.heap (locs ++ L) e1.symm (by rw [← e2]; exact X'.warmed.alike) hp hb k1 k2 k3 T' rfl X'
    exact ⟨t2, st t2 a1, b1⟩
  · obtain ⟨k1, k2, k3⟩ := vx_keep h0 e1 hS hAX hf hL hF
    obtain ⟨t2, a1, b1⟩ := kx E ce q u t T'.heap (locs ++ L) e1.symm (by rw [← e2]; exact X'.warmed.alike) hp hb k1 k2 k3 (by rw [e1]; exact hce) hcv hcl T' rfl X'
    exact ⟨t2, st.trans a1, b1⟩
theorem vx_calld {S SX : Type} {post : UInt64 → S → Prop} {px : SX → Prop} {B : S → State → Prop} {BX : String → SX → State → Prop} {AX : Nat → Prop} (hr : vx_Run p l e R s m args below meth c H locs cells slots mc ms (F0 m pc ls st0) rest (va_Qd post B A1 a) (vx_X px BX AX) free) (hS : va_S A0 H0 H locs) (hA : ∀ q, q < H.size → A1 q → A0 q) (hf : ∀ q, free q → A0 q) (hAX : ∀ q, q < H.size → AX q → A0 q)
    (kx : ∀ (E : String) (ce : Cell) (q9 : Addr) (u : SX) (t : State) (H1 : Heap) (locs1 : List Loc), t.heap = H1 → s.vm.Alike t.vm → px u → BX E u t → H.size ≤ H1.size → (∀ q : Nat, q < H.size → ¬ AX q → H1[q]? = H[q]?) → va_S A0 H0 H1 locs1 → H1[q9]? = some ce → ce.vm = .none → s.vm.findClass E = some ce.cls → vx_W p l e R s m args below meth c H1 locs1 (cells + mc) (slots + ms) Q (F0 m pc ls rest) q9)
    (kk : ∀ (r : UInt64) (u : S) (t : State) (H1 : Heap) (locs1 : List Loc), t.heap = H1 → s.vm.Alike t.vm → post r u → B u t → H.size ≤ H1.size → (∀ q : Nat, q < H.size → ¬ A1 q → H1[q]? = H[q]?) → va_S A0 H0 H1 locs1 → W p l e R s m args below meth c H1 locs1 (cells + mc) (slots + ms) Q (F0 m (pc + 3) ls (.double r :: rest))) : W p l e R s m args below meth c H locs cells slots Q (F0 m pc ls st0) := by
  intro T hT X
  rcases hr T hT X with ⟨v, st₀, t, T', L, h0, X', hL, e1, e2, ⟨⟨r, u, hv, hp, hb⟩, hF⟩, st⟩ | ⟨q, st₀, t, T', L, E, ce, h0, X', hL, e1, e2, ⟨u, hp, hb, hF⟩, hce, hcv, hcl, st⟩
  · cases hv
    obtain ⟨k1, k2, k3⟩ := vx_keep h0 e1 hS hA hf hL hF
    obtain ⟨t2, a1, b1⟩ := kk r u t T'.heap (locs ++ L) e1.symm (by rw [← e2]; exact X'.warmed.alike) hp hb k1 k2 k3 T' rfl X'
    exact ⟨t2, st t2 a1, b1⟩
  · obtain ⟨k1, k2, k3⟩ := vx_keep h0 e1 hS hAX hf hL hF
    obtain ⟨t2, a1, b1⟩ := kx E ce q u t T'.heap (locs ++ L) e1.symm (by rw [← e2]; exact X'.warmed.alike) hp hb k1 k2 k3 (by rw [e1]; exact hce) hcv hcl T' rfl X'
    exact ⟨t2, st.trans a1, b1⟩
theorem vx_callv {S SX : Type} {post : S → Prop} {px : SX → Prop} {B : S → State → Prop} {BX : String → SX → State → Prop} {AX : Nat → Prop} (hr : vx_Run p l e R s m args below meth c H locs cells slots mc ms (F0 m pc ls st0) rest (va_Qv post B A1 a) (vx_X px BX AX) free) (hS : va_S A0 H0 H locs) (hA : ∀ q, q < H.size → A1 q → A0 q) (hf : ∀ q, free q → A0 q) (hAX : ∀ q, q < H.size → AX q → A0 q)
    (kx : ∀ (E : String) (ce : Cell) (q9 : Addr) (u : SX) (t : State) (H1 : Heap) (locs1 : List Loc), t.heap = H1 → s.vm.Alike t.vm → px u → BX E u t → H.size ≤ H1.size → (∀ q : Nat, q < H.size → ¬ AX q → H1[q]? = H[q]?) → va_S A0 H0 H1 locs1 → H1[q9]? = some ce → ce.vm = .none → s.vm.findClass E = some ce.cls → vx_W p l e R s m args below meth c H1 locs1 (cells + mc) (slots + ms) Q (F0 m pc ls rest) q9)
    (kk : ∀ (u : S) (t : State) (H1 : Heap) (locs1 : List Loc), t.heap = H1 → s.vm.Alike t.vm → post u → B u t → H.size ≤ H1.size → (∀ q : Nat, q < H.size → ¬ A1 q → H1[q]? = H[q]?) → va_S A0 H0 H1 locs1 → W p l e R s m args below meth c H1 locs1 (cells + mc) (slots + ms) Q (F0 m (pc + 3) ls (rest))) : W p l e R s m args below meth c H locs cells slots Q (F0 m pc ls st0) := by
  intro T hT X
  rcases hr T hT X with ⟨v, st₀, t, T', L, h0, X', hL, e1, e2, ⟨⟨u, hv, hp, hb⟩, hF⟩, st⟩ | ⟨q, st₀, t, T', L, E, ce, h0, X', hL, e1, e2, ⟨u, hp, hb, hF⟩, hce, hcv, hcl, st⟩
  · cases hv
    obtain ⟨k1, k2, k3⟩ := vx_keep h0 e1 hS hA hf hL hF
    obtain ⟨t2, a1, b1⟩ := kk u t T'.heap (locs ++ L) e1.symm (by rw [← e2]; exact X'.warmed.alike) hp hb k1 k2 k3 T' rfl X'
    exact ⟨t2, st t2 a1, b1⟩
  · obtain ⟨k1, k2, k3⟩ := vx_keep h0 e1 hS hAX hf hL hF
    obtain ⟨t2, a1, b1⟩ := kx E ce q u t T'.heap (locs ++ L) e1.symm (by rw [← e2]; exact X'.warmed.alike) hp hb k1 k2 k3 (by rw [e1]; exact hce) hcv hcl T' rfl X'
    exact ⟨t2, st.trans a1, b1⟩
/-- caught by the row x of this method's table; the rows ahead don't take it -/
theorem vx_catch {own name : String} {E : String} {ce : Cell} {q : Addr} (hown : s.vm.findClass own = some m.cls) (pre : List ExceptionTableEntry) (x : ExceptionTableEntry) (suf : List ExceptionTableEntry) (hsplit : c.exceptionTable.toList = pre ++ x :: suf)
    (hpass : ∀ z ∈ pre, covers z pc = false ∨ (z.catchType ≠ 0 ∧ ∃ nm : String, (Cond.classLink own z.catchType nm).before args s = true ∧ va_Nc E nm s)) (hx : covers x pc = true) (h0 : x.catchType ≠ 0)
    (hlink : (Cond.classLink own x.catchType name).before args s = true) (hcast : (Cond.castable E name).before args s = true) (hcell : H[q]? = some ce) (hv : ce.vm = .none) (hcl : s.vm.findClass E = some ce.cls)
    (kk : W p l e R s m args below meth c H locs cells slots Q (F0 m x.handlerPc ls [.ref q])) : vx_W p l e R s m args below meth c H locs cells slots Q (F0 m pc ls rest) q := by
  intro T hT X
  have hpl : e.platform.magicAccessors = ({} : Platform).magicAccessors := by rw [X.admits.platform]
  obtain ⟨c3, c4, hc3, hc4, hasg⟩ := Cond.castable_spec hcast
  cases Option.some.inj (hc3.symm.trans hcl)
  obtain ⟨c5, hc5, hcl5⟩ := Cond.classLink_spec hown hlink e.platform hpl
  cases Option.some.inj (hc4.symm.trans hc5)
  obtain ⟨vm', X', st⟩ := X.thenCaughtThrough q (g := F0 m pc ls rest) rfl (Steps.refl _) (by rw [hT]; exact hcell) (by rw [hv]; rfl) (by obtain ⟨k9, h9, -⟩ := Vm.findClass_spec hcl; exact ⟨k9, h9⟩) pre x suf hsplit
    (fun z hz => by
      rcases hpass z hz with h | ⟨hz0, nm, hl1, hn1⟩
      · exact Or.inl h
      · obtain ⟨c6, hc6, hcl6⟩ := Cond.classLink_spec hown hl1 e.platform hpl
        obtain ⟨a8, b8, h1, h2, h3⟩ := hn1
        cases Option.some.inj (h1.symm.trans hcl)
        cases Option.some.inj (h2.symm.trans hc6)
        exact Or.inr ⟨hz0, _, hcl6, h3⟩) hx (Or.inr ⟨h0, c4, hcl5, hasg⟩)
  obtain ⟨t, a1, b1⟩ := kk (T.setVm vm') hT X'
  exact ⟨t, st.trans a1, b1⟩
end Rows
section Ends
variable {p : Program} {l : Launch} {e : Env} {R : Room} {s : State} {m : MethodId} {args : Array Value} {below : List Frame} {meth : Method} {c : Code} {H : Heap} {locs : List Loc} {cells slots : Nat} {Q : State → Prop}
variable {mc ms : Nat} {free : Addr → Prop} {A0 A1 : Nat → Prop} {H0 : Heap} {a : Array Value} {ls : Array Slot} {st0 rest : List Value}
variable {Qc : Array Value → State → Outcome → State → Prop} {XC : String → State → State → Prop}
/-- what a body that may throw owes at its end -/
def vx_MQ (below : List Frame) (Qc : Array Value → State → Outcome → State → Prop) (XC : String → State → State → Prop) (a : Array Value) (s : State) (mc ms : Nat) (free : Addr → Prop) : State → Prop := fun t =>
  ∃ o, t.status = .running ∧ Ended t below o ∧ vx_Q Qc XC mc ms free a s o t
theorem vx_ret {g : JFrame} {mc ms : Nat} (k : W p l e R s m args below meth c H locs cells slots (MQ below Qc args s mc ms free) g) : W p l e R s m args below meth c H locs cells slots (vx_MQ below Qc XC args s mc ms free) g := by
  intro T hT X
  obtain ⟨t, a1, o, b1, b2, b3, b4⟩ := k T hT X
  exact ⟨t, a1, o, b1, b2, Or.inl ⟨b3, b4⟩⟩
/-- not caught here: it goes on to the caller -/
theorem vx_widen {g : JFrame} {q : Addr} {k n : Nat} (h1 : cells ≤ k) (h2 : slots ≤ n) (kk : vx_W p l e R s m args below meth c H locs k n Q g q) : vx_W p l e R s m args below meth c H locs cells slots Q g q := fun T hT X => kk T hT (stand_widen X h1 h2)
theorem vx_out {pc : Nat} {E : String} {ce : Cell} {q : Addr} {mc ms : Nat} (hout : ∀ x ∈ c.exceptionTable.toList, covers x pc = false) (hlocks : meth.locks = false) (hcell : H[q]? = some ce) (hv : ce.vm = .none) (hcl : s.vm.findClass E = some ce.cls)
    (hx : ∀ t : State, t.heap = H → s.vm.Alike t.vm → XC E s t) (hf : ∀ z ∈ locs, free z.base) (hc : cells ≤ mc) (hs : slots ≤ ms) :
    vx_W p l e R s m args below meth c H locs cells slots (vx_MQ below Qc XC args s mc ms free) (F0 m pc ls rest) q := by
  intro T hT X
  obtain ⟨st1, hrun, hend, hW, hsm⟩ := X.leaveThrown q (g := F0 m pc ls rest) rfl rfl rfl hout hlocks
  have hcell9 : (T.setFrames (.throwing q :: below)).heap[q]? = some ce := by
    show T.heap[q]? = some ce
    rw [hT]; exact hcell
  exact ⟨_, st1, .threw q, hrun, hend, Or.inr ⟨q, rfl, E, ce, locs, hx _ hT hW.alike, hcell9, hv, hcl, hW, hsm.mono hc hs, hf⟩⟩
theorem vx_frame {U : State} {k n : Nat} (h : s.sameButNew ({ U with vm := s.vm } : State) locs k n) : s.heap.size ≤ U.heap.size ∧ ∀ q : Nat, q < s.heap.size → (∀ z ∈ locs, z.base ≠ q) → U.heap[q]? = s.heap[q]? := by
  obtain ⟨-, h2, -, -, -, h6⟩ := h
  refine ⟨h2, fun q hq hz => ?_⟩
  obtain ⟨c9, e1, e2, e3, e4⟩ := h6 q _ (Array.getElem?_eq_getElem hq)
  have hs : c9.slots = (s.heap[q]).slots := Array.ext_getElem? fun i => e4 i fun hm => hz _ hm rfl
  have h9 : c9 = s.heap[q] := by
    rw [hs] at e2
    exact e2
  have e5 : U.heap[q]? = some c9 := e1
  rw [e5, h9, Array.getElem?_eq_getElem hq]
/-- the words of a throw but the four that speak of the heap -/
def vx_no (w : Cond) : Bool := decide (w ≠ .isRef (.static Bundle.tN "UNASSIGNED_STACK" Bundle.steD)) && decide (w ≠ .isRef (.static Bundle.tN "SUPPRESSED_SENTINEL" Bundle.listD)) && decide (w ≠ .laysStatic Bundle.tN "UNASSIGNED_STACK" Bundle.steD) && decide (w ≠ .laysStatic Bundle.tN "SUPPRESSED_SENTINEL" Bundle.listD)
def vx_at0 (own : String) (ic : Nat) (X : String) (names : List String) : List Cond := (Bundle.ownAtoms0 own ic X names).filter vx_no
def vx_atS (own : String) (ic : Nat) (X : String) (names : List String) : List Cond := (Bundle.ownAtoms own ic X names).filter vx_no
/-- a word that the tables alone decide, or a good one -/
def vx_ot (w : Cond) : Bool := w.onTables || goodWord w
theorem vx_ot_at {args a' : Array Value} {s U : State} {w : Cond} (hW : s.WarmedH U.vm) (hvm : s.vm = U.vm) (hg : vx_ot w = true) (h : w.before args s = true) : w.before a' U = true := by
  simp only [vx_ot, Bool.or_eq_true] at hg
  rcases hg with hg | hg
  · exact va_tabs hg hvm h
  · exact word_at hW (good_of_word hg) h
/-- a list's words: the good ones out of the method's own list, the others by premises of their own -/
theorem vx_hat {args : Array Value} {s : State} {L B : List Cond} (h1 : ∀ w ∈ L.filter goodWord, w.before args s = true) (h2 : ∀ w ∈ L.filter (fun w => !goodWord w), w ∈ B) (h3 : ∀ w ∈ B, w.before args s = true) : ∀ w ∈ L, w.before args s = true := by
  intro w hw
  by_cases g : goodWord w = true
  · exact h1 w (List.mem_filter.mpr ⟨hw, g⟩)
  · refine h3 w (h2 w (List.mem_filter.mpr ⟨hw, ?_⟩))
    show (!goodWord w) = true
    cases hgw : goodWord w
    · rfl
    · exact absurd hgw g
theorem vx_c {args : Array Value} {s : State} {w : Cond} {B : List Cond} (h : w.before args s = true) (t : ∀ w ∈ B, w.before args s = true) : ∀ w' ∈ w :: B, w'.before args s = true := fun w' h' => (List.mem_cons.mp h').elim (fun e => by rw [e]; exact h) (t w')
theorem vx_n {args : Array Value} {s : State} : ∀ w ∈ ([] : List Cond), w.before args s = true := fun _ h => nomatch h
theorem vx_own {args : Array Value} {s : State} {L : List Cond} (h1 : ∀ w ∈ L.filter vx_no, w.before args s = true)
    (hU : (Cond.isRef (.static Bundle.tN "UNASSIGNED_STACK" Bundle.steD)).before args s = true) (hN : (Cond.isRef (.static Bundle.tN "SUPPRESSED_SENTINEL" Bundle.listD)).before args s = true)
    (lU : (Cond.laysStatic Bundle.tN "UNASSIGNED_STACK" Bundle.steD).before args s = true) (lN : (Cond.laysStatic Bundle.tN "SUPPRESSED_SENTINEL" Bundle.listD).before args s = true) : ∀ w ∈ L, w.before args s = true := by
  intro w hw
  by_cases e1 : w = .isRef (.static Bundle.tN "UNASSIGNED_STACK" Bundle.steD)
  · rw [e1]; exact hU
  · by_cases e2 : w = .isRef (.static Bundle.tN "SUPPRESSED_SENTINEL" Bundle.listD)
    · rw [e2]; exact hN
    · by_cases e3 : w = .laysStatic Bundle.tN "UNASSIGNED_STACK" Bundle.steD
      · rw [e3]; exact lU
      · by_cases e4 : w = .laysStatic Bundle.tN "SUPPRESSED_SENTINEL" Bundle.listD
        · rw [e4]; exact lN
        · exact h1 w (List.mem_filter.mpr ⟨hw, by unfold vx_no; rw [decide_eq_true e1, decide_eq_true e2, decide_eq_true e3, decide_eq_true e4]; rfl⟩)
/-- where a static field lies, its class's statics cell in H -/
def vx_L (C n d : String) (A : Nat → Prop) (U : State) (H : Heap) : Prop := ∃ (c : ClassId) (k : Class) (i : Nat) (f : Field) (a : Nat) (cell : Cell), U.vm.findClass C = some c ∧ U.fieldFound? C n d = some (c, k, i, f) ∧ f.isStatic = true ∧ k.statics = some a ∧ H[a]? = some cell ∧ cell.vm.isStatics = true ∧ cell.cls = c ∧ f.slot < cell.slots.size ∧ k.staticTypes[f.slot]? = some f.type ∧ ¬ A a
theorem vx_L.moved {C n d : String} {A : Nat → Prop} {u U : State} {H : Heap} (hvm : u.vm.Alike U.vm) (h : vx_L C n d A u H) : vx_L C n d A U H := by
  obtain ⟨c, k, i, f, a, cell, h1, h2, h3, h4, h5, h6, h7, h8, h9, h10⟩ := h
  obtain ⟨k', hi', he⟩ := State.fieldFound?_setVm hvm h2
  exact ⟨c, k', i, f, a, cell, by rw [hvm.findClass]; exact h1, hi', h3, by rw [he]; exact h4, h5, h6, h7, h8, by rw [he]; exact h9, h10⟩
theorem vx_L.kept {C n d : String} {A : Nat → Prop} {U : State} {H H1 : Heap} (h : vx_L C n d A U H) (hq : ∀ a : Nat, a < H.size → ¬ A a → H1[a]? = H[a]?) : vx_L C n d A U H1 := by
  obtain ⟨c, k, i, f, a, cell, h1, h2, h3, h4, h5, h6, h7, h8, h9, h10⟩ := h
  exact ⟨c, k, i, f, a, cell, h1, h2, h3, h4, by rw [hq a (Array.getElem?_eq_some_iff.mp h5).1 h10]; exact h5, h6, h7, h8, h9, h10⟩
theorem vx_L.narrow {C n d : String} {A B : Nat → Prop} {U : State} {H : Heap} (h : vx_L C n d A U H) (hAB : ∀ q, B q → A q) : vx_L C n d B U H := by
  obtain ⟨c, k, i, f, a, cell, h1, h2, h3, h4, h5, h6, h7, h8, h9, h10⟩ := h
  exact ⟨c, k, i, f, a, cell, h1, h2, h3, h4, h5, h6, h7, h8, h9, fun z => h10 (hAB _ z)⟩
theorem vx_L.word {C n d : String} {A : Nat → Prop} {s : State} {args : Array Value} (h : vx_L C n d A s s.heap) : (Cond.laysStatic C n d).before args s = true := by
  obtain ⟨c, k, i, f, a, cell, h1, h2, h3, h4, h5, h6, h7, h8, h9, -⟩ := h
  show (Cond.laysStatic C n d).holds args s none s [] = true
  exact Cond.laysStatic_of h1 h2 h3 h4 h5 h6 h7 h8 h9
/-- .. and what it holds: null or some reference -/
def vx_Zq (C n d : String) (A : Nat → Prop) (U : State) (H : Heap) : Prop := va_Zq C n d A U H ∧ vx_L C n d A U H
theorem vx_Zq.moved {C n d : String} {A : Nat → Prop} {u U : State} {H : Heap} (hvm : u.vm.Alike U.vm) (h : vx_Zq C n d A u H) : vx_Zq C n d A U H := ⟨va_Zq.moved hvm h.1, vx_L.moved hvm h.2⟩
theorem vx_Zq.kept {C n d : String} {A : Nat → Prop} {U : State} {H H1 : Heap} (h : vx_Zq C n d A U H) (hq : ∀ a : Nat, a < H.size → ¬ A a → H1[a]? = H[a]?) : vx_Zq C n d A U H1 := ⟨va_Zq.kept h.1 hq, vx_L.kept h.2 hq⟩
theorem vx_Zq.narrow {C n d : String} {A B : Nat → Prop} {U : State} {H : Heap} (h : vx_Zq C n d A U H) (hAB : ∀ q, B q → A q) : vx_Zq C n d B U H := ⟨va_Zq.narrow h.1 hAB, vx_L.narrow h.2 hAB⟩
theorem vx_Zqof {args : Array Value} {s : State} {C n d : String} {A : Nat → Prop} (hl : (Cond.laysStatic C n d).before args s = true) (hini : (Cond.initialized C).before args s = true) (h : (Cond.isRef (.static C n d)).before args s = true) (hA : ∀ a : Nat, a < s.heap.size → ¬ A a) : vx_Zq C n d A s s.heap := by
  refine ⟨va_Zqof hl hini h hA, ?_⟩
  obtain ⟨c, k, i, f, a, cell, h1, h2, h3, h4, h5, h6, h7, h8, h9⟩ := Cond.laysStatic_spec hl
  exact ⟨c, k, i, f, a, cell, h1, h2, h3, h4, h5, h6, h7, h8, h9, hA a (Array.getElem?_eq_some_iff.mp h5).1⟩
theorem vx_isRef {C n d : String} {v : Value} {A : Nat → Prop} {s : State} {args : Array Value} (h : va_Z C n d v A s s.heap) (hv : v.isRef = true) : (Cond.isRef (.static C n d)).before args s = true := by
  obtain ⟨cf, kf, fi, f, a, cell, h1, h2, h3, h4, h5, h6, h7, -⟩ := h
  have he : (Term.static C n d).eval args s none [] s = some v := by
    simp [Term.eval, State.fieldNamed?, h1, h2, h4, h5, h6, h7]
  simp only [Cond.before, Cond.holds, Cond.value, he]
  cases v <;> simp_all [Value.isRef]
theorem vx_isRefq {C n d : String} {A : Nat → Prop} {s : State} {args : Array Value} (h : va_Zq C n d A s s.heap) : (Cond.isRef (.static C n d)).before args s = true := by
  rcases h with h | ⟨t, h⟩
  · exact vx_isRef h rfl
  · exact vx_isRef h rfl
/-- the same frame, seen from here: as if the method were called anew in this heap -/
theorem vx_rebase {T : State} (X : Stand p l e R s m args below meth c T locs cells slots) {R' : Room} (hf : R'.frames ≤ R.frames) (hl : R'.locals ≤ R.locals) (hc : cells + R'.cells ≤ R.cells) (hs : slots + R'.slots ≤ R.slots) :
    Stand p l e R' ((T.setVm s.vm).setFrames (.invoking m args :: below)) m args below meth c T [] 0 0 := by
  have htop : (T.setVm s.vm).topJava?.isSome := X.here.top
  have hF : ((T.setVm s.vm).setFrames (.invoking m args :: below)).frames = .invoking m args :: below := State.frames_setFrames _ (State.cur_lt_of_top htop)
  obtain ⟨g₀, hg0⟩ := Option.isSome_iff_exists.mp htop
  obtain ⟨r, hr⟩ := State.topJava?_eq_some.mp hg0
  have hl9 : e.platform.stackLimits (T.setVm s.vm).me = e.platform.stackLimits s.me := X.limits
  have hb9 : (T.setVm s.vm).me.stackBytes = s.me.stackBytes := X.bytes
  refine ⟨X.admits, X.cas, X.clock, hF, ?_, X.hears, X.method, X.code, X.here, X.tail, X.warmed, ?_, ?_, ?_⟩
  · have h := X.room
    have hU : ((T.setVm s.vm).setFrames (.invoking m args :: below)).localsInUse = s.localsInUse := by
      rw [State.localsInUse_invoking hF (meth := meth) (c := c) X.method X.code, State.localsInUse_invoking X.frames X.method X.code]
    simp only [State.hasRoom, Bool.and_eq_true, decide_eq_true_eq] at h ⊢
    obtain ⟨⟨⟨⟨h1, h2, h3, h4, h5, h6⟩, h7⟩, h8⟩, h9⟩ := h
    rw [X.frames, List.length_cons] at h2 h3
    have q1 := X.heapSize
    have q2 := X.used
    simp only [hF, hU, List.length_cons, State.stackLimits_setFrames, State.stackBytes_setFrames, hl9, hb9]
    refine ⟨⟨⟨⟨by omega, by omega, by omega, by omega, by omega, h6⟩, ?_⟩, ?_⟩, X.book⟩
    · show T.heap.size + R'.cells ≤ e.platform.maxCells
      omega
    · show T.slotsUsed + R'.slots ≤ e.platform.maxSlots
      omega
  · rw [State.stackLimits_setFrames]; rfl
  · rw [State.stackBytes_setFrames]; rfl
  · refine ⟨?_, Nat.le_refl _, Nat.le_refl _, ?_, ?_, fun a c9 h9 => ⟨c9, h9, rfl, rfl, fun _ _ => rfl⟩⟩
    · obtain ⟨t, ht, -⟩ := State.frames_cons hr
      show T.setVm s.vm = { ((T.setVm s.vm).setFrames (.invoking m args :: below)).setFrames (T.setVm s.vm).frames with heap := T.heap, slotsUsed := T.slotsUsed }
      rw [State.setFrames_setFrames, State.setFrames_self ht]
      rfl
    · show T.slotsUsed = T.slotsUsed + ((T.heap.toList.drop T.heap.size).map (·.slots.size)).sum
      rw [List.drop_eq_nil_of_le (Nat.le_of_eq Array.length_toList)]
      rfl
    · show ((T.heap.toList.drop T.heap.size).map (·.slots.size)).sum ≤ 0
      rw [List.drop_eq_nil_of_le (Nat.le_of_eq Array.length_toList)]
      exact Nat.le_refl _
/-- 'throw new E()': new; dup; invokespecial; athrow -/
theorem vx_throw0 {cc : ByteArray} {pc : Nat} (hexec : p.tables.exec = Jvm.exec) (hb : c.code = cc) (hl : l.stackTraces = false) {own cls : String} {names : List String} {ik ic mc ms : Nat} {A : Nat → Prop}
    (hown : s.vm.findClass own = some m.cls) (hcls : Bundle.fit cls = true) (hnames : ∀ n ∈ names, Bundle.fit n = true)
    (hk : (Cond.classLink own ik cls).before args s = true) (hini : (Cond.initialized cls).before args s = true) (hat : ∀ w ∈ vx_at0 own ic cls names, w.before args s = true)
    (hgood : ∀ w ∈ Cond.classLink own ik cls :: Cond.initialized cls :: vx_at0 own ic cls names, vx_ot w = true)
    (hU : vx_Zq Bundle.tN "UNASSIGNED_STACK" Bundle.steD A s s.heap) (hN : vx_Zq Bundle.tN "SUPPRESSED_SENTINEL" Bundle.listD A s s.heap) (hS : va_S A s.heap H locs) (hsize : ls.size = c.maxLocals)
    (d0 : decode cc pc = .ok (.new ik, 3)) (d3 : decode cc (pc + 3) = .ok (.dup, 1)) (d4 : decode cc (pc + 4) = .ok (.invokespecial ic, 3)) (d7 : decode cc (pc + 7) = .ok (.athrow, 1))
    (hout : ∀ x ∈ c.exceptionTable.toList, covers x (pc + 7) = false)
    (hRframes : names.length + 3 < R.frames) (hRlocals : (rest.map fun v => v.category).sum + (13 * (names.length + 1) + 42) ≤ R.locals) (hRcells : cells + 1 ≤ R.cells) (hRslots : slots + 6 ≤ R.slots) (hlocks : meth.locks = false)
    (hx : ∀ t : State, s.vm.Alike t.vm → H.size ≤ t.heap.size → (∀ q : Nat, q < H.size → t.heap[q]? = H[q]?) → XC cls s t)
    (hf : ∀ z ∈ locs, free z.base) (hc : cells + 1 ≤ mc) (hs : slots + 6 ≤ ms) :
    W p l e R s m args below meth c H locs cells slots (vx_MQ below Qc XC args s mc ms free) (F0 m pc ls rest) := by
  intro T hT X
  have htr : e.platform.stackTraces = false := (show e.platform.stackTraces = l.stackTraces by rw [X.admits.platform]).trans hl
  have Y := vx_rebase X (R' := { frames := R.frames, locals := R.locals, cells := 1, slots := 6 }) (Nat.le_refl _) (Nat.le_refl _) hRcells hRslots
  obtain ⟨s', hA⟩ : ∃ z, z = (T.setVm s.vm).setFrames (.invoking m args :: below) := ⟨_, rfl⟩
  rw [← hA] at Y
  have hvm : s'.vm = s.vm := by rw [hA]; rfl
  have hhp : s'.heap = H := by rw [hA]; exact hT
  have hW0 : s.WarmedH s'.vm := by rw [hvm]; exact State.WarmedH.refl s
  have hat' : ∀ w ∈ vx_at0 own ic cls names, w.before args s' = true := fun w hw => vx_ot_at hW0 hvm.symm (hgood w (List.mem_cons_of_mem _ (List.mem_cons_of_mem _ hw))) (hat w hw)
  have hk' : (Cond.classLink own ik cls).before args s' = true := vx_ot_at hW0 hvm.symm (hgood _ List.mem_cons_self) hk
  have hini' : (Cond.initialized cls).before args s' = true := vx_ot_at hW0 hvm.symm (hgood _ (List.mem_cons_of_mem _ List.mem_cons_self)) hini
  have hU' : vx_Zq Bundle.tN "UNASSIGNED_STACK" Bundle.steD A s' s'.heap := by rw [hhp]; exact vx_Zq.moved hW0.alike (hU.kept hS.2.1)
  have hN' : vx_Zq Bundle.tN "SUPPRESSED_SENTINEL" Bundle.listD A s' s'.heap := by rw [hhp]; exact vx_Zq.moved hW0.alike (hN.kept hS.2.1)
  have h : ∀ w ∈ Bundle.ownAtoms0 own ic cls names, w.before args s' = true := vx_own hat' (vx_isRefq hU'.1) (vx_isRefq hN'.1) hU'.2.word hN'.2.word
  have hown' : s'.vm.findClass own = some m.cls := by rw [hvm]; exact hown
  have hins : (Cond.instantiable cls 6).before args s' = true := h _ (by simp [Bundle.ownAtoms0])
  obtain ⟨vm₁, cX, kX, hfX, hkX, -, -, X₁, st1⟩ := Y.newCold hexec (own := own) (C := cls) (index := ik) (n := 6) hown' hk' hins hini'
    (g := F0 m pc ls rest) rfl (by rw [hb]; exact d0) (Nat.le_refl _) (Nat.le_refl _)
  generalize hT1 : (T.setVm vm₁).pushCell { cls := cX, slots := kX.instanceTypes.map defaultValue, vm := .none } = T1 at X₁ st1
  have hcat : (Value.ref T.heap.size).category = 1 := rfl
  have hcellA : T1.heap[T.heap.size]? = some (freshCell cX kX) := by rw [← hT1]; exact State.heap_pushCell_size _ _
  have d3' : decode c.code (pc + 3) = .ok (.dup, 1) := by rw [hb]; exact d3
  obtain ⟨U, hsteps, hrun, hend, hW, hsame, ce, hce, hO⟩ := X₁.ctorThrow0 hexec htr (own := own) (cls := cls) (names := names) (ic := ic) hown' hcls hnames h (fun x hx => nomatch hx) hfX hkX hcellA (by rw [hhp, hT]; exact Nat.le_refl _)
    (g := { method := m, pc := pc + 4, locals := ls, stack := .ref T.heap.size :: .ref T.heap.size :: rest, locked := none }) rfl hsize rfl rfl (rest := rest) rfl
    (by rw [hb]; exact d4) (by rw [hb]; exact d7) hout hRframes (by simp only [List.map_cons, List.sum_cons, hcat]; omega) hlocks
  obtain ⟨f1, f2⟩ := vx_frame hsame
  rw [hhp] at f1 f2
  have hWs : s.WarmedH U.vm := State.WarmedH.trans hW0 hW
  have hcl : s.vm.findClass cls = some ce.cls := by
    have h9 := hO.cls
    rw [hvm] at h9
    exact h9
  have hall : s.sameButNew ({ U with vm := s.vm } : State) locs mc ms := by
    subst hA
    obtain ⟨e1, e2⟩ := hsame
    rw [State.setFrames_setFrames] at e1
    have h2 : (T.setVm s.vm).sameButNew ({ U with vm := s.vm } : State) [] (0 + 1) (0 + 6) := ⟨e1, e2⟩
    have h3 := X.same.trans h2
    rw [List.append_nil] at h3
    exact h3.mono hc hs
  refine ⟨U, ?_, .threw T.heap.size, hrun, hend, Or.inr ⟨T.heap.size, rfl, cls, ce, locs, hx U hWs.alike f1 (fun q hq => f2 q hq (fun z hz => nomatch hz)), hce, hO.vm, hcl, hWs, hall, hf⟩⟩
  refine st1 _ ?_
  show Steps p.tables e below (T1.setTop { method := m, pc := pc + 3, locals := ls, stack := .ref T.heap.size :: rest, locked := none }) _
  jvm_step X₁.here [X₁.here.top, hexec, d3', Value.category]
  exact hsteps
/-- 'throw new E("text")': new; dup; ldc; invokespecial; athrow -/
theorem vx_throwS {cc : ByteArray} {pc : Nat} (hexec : p.tables.exec = Jvm.exec) (hb : c.code = cc) (hl : l.stackTraces = false) {own cls text : String} {names : List String} {ik is ic mc ms sa : Nat} {A : Nat → Prop}
    (hown : s.vm.findClass own = some m.cls) (hcls : Bundle.fit cls = true) (hnames : ∀ n ∈ names, Bundle.fit n = true)
    (hk : (Cond.classLink own ik cls).before args s = true) (hini : (Cond.initialized cls).before args s = true) (hstr : vk_R own is text sa s) (hat : ∀ w ∈ vx_atS own ic cls names, w.before args s = true)
    (hgood : ∀ w ∈ Cond.classLink own ik cls :: Cond.initialized cls :: vx_atS own ic cls names, vx_ot w = true)
    (hU : vx_Zq Bundle.tN "UNASSIGNED_STACK" Bundle.steD A s s.heap) (hN : vx_Zq Bundle.tN "SUPPRESSED_SENTINEL" Bundle.listD A s s.heap) (hS : va_S A s.heap H locs) (hsize : ls.size = c.maxLocals)
    (d0 : decode cc pc = .ok (.new ik, 3)) (d3 : decode cc (pc + 3) = .ok (.dup, 1)) (d4 : decode cc (pc + 4) = .ok (.ldc is, 2)) (d6 : decode cc (pc + 6) = .ok (.invokespecial ic, 3)) (d9 : decode cc (pc + 9) = .ok (.athrow, 1))
    (hout : ∀ x ∈ c.exceptionTable.toList, covers x (pc + 9) = false)
    (hRframes : names.length + 3 < R.frames) (hRlocals : (rest.map fun v => v.category).sum + (13 * (names.length + 1) + 43) ≤ R.locals) (hRcells : cells + 1 ≤ R.cells) (hRslots : slots + 6 ≤ R.slots) (hlocks : meth.locks = false)
    (hx : ∀ t : State, s.vm.Alike t.vm → H.size ≤ t.heap.size → (∀ q : Nat, q < H.size → t.heap[q]? = H[q]?) → XC cls s t)
    (hf : ∀ z ∈ locs, free z.base) (hc : cells + 1 ≤ mc) (hs : slots + 6 ≤ ms) :
    W p l e R s m args below meth c H locs cells slots (vx_MQ below Qc XC args s mc ms free) (F0 m pc ls rest) := by
  intro T hT X
  have htr : e.platform.stackTraces = false := (show e.platform.stackTraces = l.stackTraces by rw [X.admits.platform]).trans hl
  have Y := vx_rebase X (R' := { frames := R.frames, locals := R.locals, cells := 1, slots := 6 }) (Nat.le_refl _) (Nat.le_refl _) hRcells hRslots
  obtain ⟨s', hA⟩ : ∃ z, z = (T.setVm s.vm).setFrames (.invoking m args :: below) := ⟨_, rfl⟩
  rw [← hA] at Y
  have hvm : s'.vm = s.vm := by rw [hA]; rfl
  have hhp : s'.heap = H := by rw [hA]; exact hT
  have hW0 : s.WarmedH s'.vm := by rw [hvm]; exact State.WarmedH.refl s
  have hat' : ∀ w ∈ vx_atS own ic cls names, w.before args s' = true := fun w hw => vx_ot_at hW0 hvm.symm (hgood w (List.mem_cons_of_mem _ (List.mem_cons_of_mem _ hw))) (hat w hw)
  have hk' : (Cond.classLink own ik cls).before args s' = true := vx_ot_at hW0 hvm.symm (hgood _ List.mem_cons_self) hk
  have hini' : (Cond.initialized cls).before args s' = true := vx_ot_at hW0 hvm.symm (hgood _ (List.mem_cons_of_mem _ List.mem_cons_self)) hini
  have hU' : vx_Zq Bundle.tN "UNASSIGNED_STACK" Bundle.steD A s' s'.heap := by rw [hhp]; exact vx_Zq.moved hW0.alike (hU.kept hS.2.1)
  have hN' : vx_Zq Bundle.tN "SUPPRESSED_SENTINEL" Bundle.listD A s' s'.heap := by rw [hhp]; exact vx_Zq.moved hW0.alike (hN.kept hS.2.1)
  have h : ∀ w ∈ Bundle.ownAtoms own ic cls names, w.before args s' = true := vx_own hat' (vx_isRefq hU'.1) (vx_isRefq hN'.1) hU'.2.word hN'.2.word
  have hown' : s'.vm.findClass own = some m.cls := by rw [hvm]; exact hown
  have hins : (Cond.instantiable cls 6).before args s' = true := h _ (by simp [Bundle.ownAtoms])
  obtain ⟨vm₁, cX, kX, hfX, hkX, -, -, X₁, st1⟩ := Y.newCold hexec (own := own) (C := cls) (index := ik) (n := 6) hown' hk' hins hini'
    (g := F0 m pc ls rest) rfl (by rw [hb]; exact d0) (Nat.le_refl _) (Nat.le_refl _)
  generalize hT1 : (T.setVm vm₁).pushCell { cls := cX, slots := kX.instanceTypes.map defaultValue, vm := .none } = T1 at X₁ st1
  have hcat : (Value.ref T.heap.size).category = 1 := rfl
  have hcellA : T1.heap[T.heap.size]? = some (freshCell cX kX) := by rw [← hT1]; exact State.heap_pushCell_size _ _
  have d3' : decode c.code (pc + 3) = .ok (.dup, 1) := by rw [hb]; exact d3
  have d4' : decode c.code (pc + 4) = .ok (.ldc is, 2) := by rw [hb]; exact d4
  have hstr' : vk_R own is text sa s' := vk_R.warm hW0 hstr
  obtain ⟨U, hsteps, hrun, hend, hW, hsame, ce, hce, hO⟩ := X₁.ctorThrowS hexec htr (own := own) (cls := cls) (names := names) (ic := ic) hown' hcls hnames h (fun x hx => nomatch hx) hfX hkX hcellA (by rw [hhp, hT]; exact Nat.le_refl _) (msg := .ref sa) rfl
    (g := { method := m, pc := pc + 6, locals := ls, stack := .ref sa :: .ref T.heap.size :: .ref T.heap.size :: rest, locked := none }) rfl hsize rfl rfl (rest := rest) rfl
    (by rw [hb]; exact d6) (by rw [hb]; exact d9) hout hRframes (by simp only [List.map_cons, List.sum_cons, hcat]; omega) hlocks
  obtain ⟨f1, f2⟩ := vx_frame hsame
  rw [hhp] at f1 f2
  have hWs : s.WarmedH U.vm := State.WarmedH.trans hW0 hW
  have hcl : s.vm.findClass cls = some ce.cls := by
    have h9 := hO.cls
    rw [hvm] at h9
    exact h9
  have hall : s.sameButNew ({ U with vm := s.vm } : State) locs mc ms := by
    subst hA
    obtain ⟨e1, e2⟩ := hsame
    rw [State.setFrames_setFrames] at e1
    have h2 : (T.setVm s.vm).sameButNew ({ U with vm := s.vm } : State) [] (0 + 1) (0 + 6) := ⟨e1, e2⟩
    have h3 := X.same.trans h2
    rw [List.append_nil] at h3
    exact h3.mono hc hs
  refine ⟨U, ?_, .threw T.heap.size, hrun, hend, Or.inr ⟨T.heap.size, rfl, cls, ce, locs, hx U hWs.alike f1 (fun q hq => f2 q hq (fun z hz => nomatch hz)), hce, hO.vm, hcl, hWs, hall, hf⟩⟩
  refine st1 _ ?_
  show Steps p.tables e below (T1.setTop { method := m, pc := pc + 3, locals := ls, stack := .ref T.heap.size :: rest, locked := none }) _
  jvm_step X₁.here [X₁.here.top, hexec, d3', Value.category]
  exact X₁.ldcString hexec (own := own) (text := text) (index := is) (a := sa) hown' hstr'.1 hstr'.2
    (g := { method := m, pc := pc + 4, locals := ls, stack := .ref T.heap.size :: .ref T.heap.size :: rest, locked := none }) rfl d4' _ hsteps
/-- 'throw new E("text")', the text by a wide index -/
theorem vx_throwSW {cc : ByteArray} {pc : Nat} (hexec : p.tables.exec = Jvm.exec) (hb : c.code = cc) (hl : l.stackTraces = false) {own cls text : String} {names : List String} {ik is ic mc ms sa : Nat} {A : Nat → Prop}
    (hown : s.vm.findClass own = some m.cls) (hcls : Bundle.fit cls = true) (hnames : ∀ n ∈ names, Bundle.fit n = true)
    (hk : (Cond.classLink own ik cls).before args s = true) (hini : (Cond.initialized cls).before args s = true) (hstr : vk_R own is text sa s) (hat : ∀ w ∈ vx_atS own ic cls names, w.before args s = true)
    (hgood : ∀ w ∈ Cond.classLink own ik cls :: Cond.initialized cls :: vx_atS own ic cls names, vx_ot w = true)
    (hU : vx_Zq Bundle.tN "UNASSIGNED_STACK" Bundle.steD A s s.heap) (hN : vx_Zq Bundle.tN "SUPPRESSED_SENTINEL" Bundle.listD A s s.heap) (hS : va_S A s.heap H locs) (hsize : ls.size = c.maxLocals)
    (d0 : decode cc pc = .ok (.new ik, 3)) (d3 : decode cc (pc + 3) = .ok (.dup, 1)) (d4 : decode cc (pc + 4) = .ok (.ldc_w is, 3)) (d7 : decode cc (pc + 7) = .ok (.invokespecial ic, 3)) (d10 : decode cc (pc + 10) = .ok (.athrow, 1))
    (hout : ∀ x ∈ c.exceptionTable.toList, covers x (pc + 10) = false)
    (hRframes : names.length + 3 < R.frames) (hRlocals : (rest.map fun v => v.category).sum + (13 * (names.length + 1) + 43) ≤ R.locals) (hRcells : cells + 1 ≤ R.cells) (hRslots : slots + 6 ≤ R.slots) (hlocks : meth.locks = false)
    (hx : ∀ t : State, s.vm.Alike t.vm → H.size ≤ t.heap.size → (∀ q : Nat, q < H.size → t.heap[q]? = H[q]?) → XC cls s t)
    (hf : ∀ z ∈ locs, free z.base) (hc : cells + 1 ≤ mc) (hs : slots + 6 ≤ ms) :
    W p l e R s m args below meth c H locs cells slots (vx_MQ below Qc XC args s mc ms free) (F0 m pc ls rest) := by
  intro T hT X
  have htr : e.platform.stackTraces = false := (show e.platform.stackTraces = l.stackTraces by rw [X.admits.platform]).trans hl
  have Y := vx_rebase X (R' := { frames := R.frames, locals := R.locals, cells := 1, slots := 6 }) (Nat.le_refl _) (Nat.le_refl _) hRcells hRslots
  obtain ⟨s', hA⟩ : ∃ z, z = (T.setVm s.vm).setFrames (.invoking m args :: below) := ⟨_, rfl⟩
  rw [← hA] at Y
  have hvm : s'.vm = s.vm := by rw [hA]; rfl
  have hhp : s'.heap = H := by rw [hA]; exact hT
  have hW0 : s.WarmedH s'.vm := by rw [hvm]; exact State.WarmedH.refl s
  have hat' : ∀ w ∈ vx_atS own ic cls names, w.before args s' = true := fun w hw => vx_ot_at hW0 hvm.symm (hgood w (List.mem_cons_of_mem _ (List.mem_cons_of_mem _ hw))) (hat w hw)
  have hk' : (Cond.classLink own ik cls).before args s' = true := vx_ot_at hW0 hvm.symm (hgood _ List.mem_cons_self) hk
  have hini' : (Cond.initialized cls).before args s' = true := vx_ot_at hW0 hvm.symm (hgood _ (List.mem_cons_of_mem _ List.mem_cons_self)) hini
  have hU' : vx_Zq Bundle.tN "UNASSIGNED_STACK" Bundle.steD A s' s'.heap := by rw [hhp]; exact vx_Zq.moved hW0.alike (hU.kept hS.2.1)
  have hN' : vx_Zq Bundle.tN "SUPPRESSED_SENTINEL" Bundle.listD A s' s'.heap := by rw [hhp]; exact vx_Zq.moved hW0.alike (hN.kept hS.2.1)
  have h : ∀ w ∈ Bundle.ownAtoms own ic cls names, w.before args s' = true := vx_own hat' (vx_isRefq hU'.1) (vx_isRefq hN'.1) hU'.2.word hN'.2.word
  have hown' : s'.vm.findClass own = some m.cls := by rw [hvm]; exact hown
  have hins : (Cond.instantiable cls 6).before args s' = true := h _ (by simp [Bundle.ownAtoms])
  obtain ⟨vm₁, cX, kX, hfX, hkX, -, -, X₁, st1⟩ := Y.newCold hexec (own := own) (C := cls) (index := ik) (n := 6) hown' hk' hins hini'
    (g := F0 m pc ls rest) rfl (by rw [hb]; exact d0) (Nat.le_refl _) (Nat.le_refl _)
  generalize hT1 : (T.setVm vm₁).pushCell { cls := cX, slots := kX.instanceTypes.map defaultValue, vm := .none } = T1 at X₁ st1
  have hcat : (Value.ref T.heap.size).category = 1 := rfl
  have hcellA : T1.heap[T.heap.size]? = some (freshCell cX kX) := by rw [← hT1]; exact State.heap_pushCell_size _ _
  have d3' : decode c.code (pc + 3) = .ok (.dup, 1) := by rw [hb]; exact d3
  have d4' : decode c.code (pc + 4) = .ok (.ldc_w is, 3) := by rw [hb]; exact d4
  have hstr' : vk_R own is text sa s' := vk_R.warm hW0 hstr
  obtain ⟨U, hsteps, hrun, hend, hW, hsame, ce, hce, hO⟩ := X₁.ctorThrowS hexec htr (own := own) (cls := cls) (names := names) (ic := ic) hown' hcls hnames h (fun x hx => nomatch hx) hfX hkX hcellA (by rw [hhp, hT]; exact Nat.le_refl _) (msg := .ref sa) rfl
    (g := { method := m, pc := pc + 7, locals := ls, stack := .ref sa :: .ref T.heap.size :: .ref T.heap.size :: rest, locked := none }) rfl hsize rfl rfl (rest := rest) rfl
    (by rw [hb]; exact d7) (by rw [hb]; exact d10) hout hRframes (by simp only [List.map_cons, List.sum_cons, hcat]; omega) hlocks
  obtain ⟨f1, f2⟩ := vx_frame hsame
  rw [hhp] at f1 f2
  have hWs : s.WarmedH U.vm := State.WarmedH.trans hW0 hW
  have hcl : s.vm.findClass cls = some ce.cls := by
    have h9 := hO.cls
    rw [hvm] at h9
    exact h9
  have hall : s.sameButNew ({ U with vm := s.vm } : State) locs mc ms := by
    subst hA
    obtain ⟨e1, e2⟩ := hsame
    rw [State.setFrames_setFrames] at e1
    have h2 : (T.setVm s.vm).sameButNew ({ U with vm := s.vm } : State) [] (0 + 1) (0 + 6) := ⟨e1, e2⟩
    have h3 := X.same.trans h2
    rw [List.append_nil] at h3
    exact h3.mono hc hs
  refine ⟨U, ?_, .threw T.heap.size, hrun, hend, Or.inr ⟨T.heap.size, rfl, cls, ce, locs, hx U hWs.alike f1 (fun q hq => f2 q hq (fun z hz => nomatch hz)), hce, hO.vm, hcl, hWs, hall, hf⟩⟩
  refine st1 _ ?_
  show Steps p.tables e below (T1.setTop { method := m, pc := pc + 3, locals := ls, stack := .ref T.heap.size :: rest, locked := none }) _
  jvm_step X₁.here [X₁.here.top, hexec, d3', Value.category]
  exact X₁.ldcStringW hexec (own := own) (text := text) (index := is) (a := sa) hown' hstr'.1 hstr'.2
    (g := { method := m, pc := pc + 4, locals := ls, stack := .ref T.heap.size :: .ref T.heap.size :: rest, locked := none }) rfl d4' _ hsteps
end Ends
section Bodies
variable {l : Launch}
theorem vx_ofW {y : MethodName} {ws ws' : List Cond} {rm : Room} {Pc : Array Value → State → Prop} {Qc : Array Value → State → Outcome → State → Prop} {XC : String → State → State → Prop} {mc ms : Nat} {free : Addr → Prop} {cc : ByteArray} {maxL : Nat} {ret : Option FieldType}
    (hy : plainName y.cls = true) (hw : ws = Cond.code y cc maxL ret :: ws')
    (body : ∀ p e s m args below meth c s₁, BodyLoose p l y (headSpec ws rm) cc maxL ret e s m args below meth c s₁ → c.maxLocals = maxL → (∀ x ∈ c.exceptionTable.toList, False) → Pc args s →
      W p l e (headSpec ws rm).room s m args below meth c s.heap [] 0 0 (vx_MQ below Qc XC args s mc ms free) (entryFrame m args maxL)) : vx_Met l y ws rm Pc Qc XC mc ms free := by
  refine MetFree.of_bodyS (code := cc) (maxLocals := maxL) (ret := ret) hy ?_ ?_
  · intro args s m h hn
    obtain ⟨meth, c, h1, h2, h3, h4, h5, h6, -, -⟩ := Cond.code_spec hn (atoms_spec (ws := ws) h _ (by rw [hw]; exact List.mem_cons_self))
    exact ⟨meth, c, h1, h2, h3, h4, h5, h6⟩
  · intro p e s m args below meth c s₁ B hml hP _
    have hh0 : s₁.heap = s.heap := by rw [B.state]; rfl
    have ht : ∀ x ∈ c.exceptionTable.toList, False := by
      obtain ⟨meth9, c9, h1, h2, -, -, -, -, h7, -⟩ := Cond.code_spec B.named (atoms_spec (ws := ws) B.pre _ (by rw [hw]; exact List.mem_cons_self))
      cases Option.some.inj (h1.symm.trans B.method)
      cases Option.some.inj (h2.symm.trans (Stand.of_body B).code)
      intro x hx
      rw [Array.isEmpty_iff.mp h7] at hx
      cases hx
    obtain ⟨t, a1, o, b1, b2, b3⟩ := body p e s m args below meth c s₁ B hml ht hP s₁ hh0 (Stand.of_body B)
    exact ⟨t, o, a1, b1, b2, b3⟩
/-- the table of a body with handlers -/
theorem vx_table {p : Program} {x y : MethodName} {S : Spec} {cc bytes : ByteArray} {maxL maxL' : Nat} {ret ret' : Option FieldType} {e : Env} {s s₁ : State} {m : MethodId} {args : Array Value} {below : List Frame} {meth : Method} {c : Code} {hh : List (Nat × Nat × Nat × Nat)}
    (B : BodyLoose p l y S cc maxL ret e s m args below meth c s₁) (h : (Cond.codeWith y bytes maxL' ret' hh).before args s = true) : c.exceptionTable.toList = tableOf hh := by
  obtain ⟨m9, meth9, c9, hn9, h1, h2, -, -, h6, -⟩ := Cond.codeWith_spec h
  cases Option.some.inj (hn9.symm.trans B.named)
  cases Option.some.inj (h1.symm.trans B.method)
  cases Option.some.inj (h2.symm.trans (Stand.of_body B).code)
  rw [← h6, table_eq]
end Bodies
end VXA
/-! ===== END ===== -/
/-! ===== BEGIN a static call of a method with an exception table ===== -/
section VXS
variable {p : Program} {l : Launch} {e : Env} {R : Room} {s : State} {m : MethodId} {args : Array Value} {below : List Frame} {meth : Method} {c : Code} {T : State} {H : Heap} {locs : List Loc} {cells slots : Nat}
abbrev vx_CSW (R : Room) (s : State) (args : Array Value) (own : String) (index : Nat) (y : MethodName) (bytes : ByteArray) (maxL : Nat) (ret : Option FieldType) (hh : List (Nat × Nat × Nat × Nat)) (ws : List Cond) (rm : Room) (mc ms n : Nat) : Prop :=
  (rm.cells = mc ∧ rm.slots = ms ∧ rm.frames + 1 ≤ R.frames ∧ 8 + (maxL + 11) + rm.locals ≤ R.locals ∧ (∀ w ∈ ws, ∀ (a' : Array Value) (U : State), s.WarmedH U.vm → w.before a' U = true) ∧ Cond.codeWith y bytes maxL ret hh ∈ ws) ∧
  (Cond.codeWith y bytes maxL ret hh).before args s = true ∧ (Cond.initialized y.cls).before args s = true ∧ (y.cls ≠ "java/lang/invoke/MethodHandle" ∧ y.cls ≠ "java/lang/invoke/VarHandle") ∧
  (∀ sig, parseMethodDescriptor y.desc = some sig → n = sig.parameters.length) ∧ (Cond.methodLink own index y).before args s = true ∧ (Cond.static y).before args s = true
theorem vx_cwSW {own : String} {index maxL mc ms : Nat} {y : MethodName} {bytes : ByteArray} {ret : Option FieldType} {hh : List (Nat × Nat × Nat × Nat)} {Ts ws ws' : List Cond} {rm : Room} (n : Nat) (ht : ∀ w ∈ Ts, w.before args s = true) (hT : GoodIn Ts (va_wsS own index y ws)) (hw : ws = Cond.codeWith y bytes maxL ret hh :: ws') (hrc : rm.cells = mc) (hrs : rm.slots = ms)
    (hd : y.cls ≠ "java/lang/invoke/MethodHandle" ∧ y.cls ≠ "java/lang/invoke/VarHandle" ∧ (parseMethodDescriptor y.desc).map (fun d => d.parameters.length) = some n) (hR : rm.frames + 1 ≤ R.frames ∧ 8 + (maxL + 11) + rm.locals ≤ R.locals) :
    vx_CSW R s args own index y bytes maxL ret hh ws rm mc ms n := by
  have ok : ∀ w ∈ va_wsS own index y ws, w.before args s = true := fun w h => ht w (hT w h).1
  have hG : GoodIn Ts ws := fun w h => hT w (by unfold va_wsS; exact List.mem_append_right _ h)
  have hc : Cond.codeWith y bytes maxL ret hh ∈ ws := by rw [hw]; exact List.mem_cons_self
  refine ⟨⟨hrc, hrs, hR.1, hR.2, pay_in ht hG, hc⟩, ht _ (hG _ hc).1, ok _ (by simp [va_wsS]), ⟨hd.1, hd.2.1⟩, fun sig h => ?_, ok _ (by simp [va_wsS]), ok _ (by simp [va_wsS])⟩
  have h2 := hd.2.2
  rw [h] at h2
  exact (Option.some.inj h2).symm
theorem vx_callSW (X : Stand p l e R s m args below meth c T locs cells slots) (hexec : p.tables.exec = Jvm.exec) {own : String} {index : Nat} {y : MethodName} {bytes : ByteArray} {maxL : Nat} {ret : Option FieldType} {hh : List (Nat × Nat × Nat × Nat)}
    (hown : s.vm.findClass own = some m.cls) (hlink : (Cond.methodLink own index y).before args s = true) (hstat : (Cond.static y).before args s = true) (hinit : (Cond.initialized y.cls).before args s = true)
    (hcode : (Cond.codeWith y bytes maxL ret hh).before args s = true) (hy : y.cls ≠ "java/lang/invoke/MethodHandle" ∧ y.cls ≠ "java/lang/invoke/VarHandle")
    {W9 : Nat} {Pre : Pt → Array Value → Prop} {Post : Pt → Array Value → Option Value → Pt → Prop} (hK : Back l R p e below s args y 3 W9 Pre Post)
    {g : JFrame} (hg : g.method = m) (hsize : g.locals.size = c.maxLocals) {argsL rest : List Value} (hlen : ∀ sig, parseMethodDescriptor y.desc = some sig → argsL.length = sig.parameters.length)
    (hstack : g.stack = argsL.reverse ++ rest) (hW : 2 * g.monitorRoom + (rest.map fun v => v.category).sum ≤ W9) (hdg : decode c.code g.pc = .ok (.invokestatic index, 3))
    (hpre : ∀ vm₁, s.WarmedH vm₁ → Pre ⟨T.setVm vm₁, locs, cells, slots⟩ argsL.toArray) :
    ∃ (v : Option Value) (vm₁ : Vm) (B : Pt), s.WarmedH vm₁ ∧ Stand p l e R s m args below meth c B.U B.locs B.cells B.slots ∧ Post ⟨T.setVm vm₁, locs, cells, slots⟩ argsL.toArray v B ∧
      ∀ target, Steps p.tables e below (B.U.setTop { g with pc := g.pc + 3, stack := v.toList ++ rest }) target → Steps p.tables e below (T.setTop g) target := by
  obtain ⟨mk, methM, cM, hnamed, hmethM, -, -, -, -, -, -, hsigM⟩ := Cond.codeWith_spec hcode
  have hstatic : methM.isStatic = true := Cond.static_spec hnamed hmethM hstat
  obtain ⟨kP, hkP, -⟩ := className_of_methodNamed hnamed
  have hinitP : kP.init = .initialized := Cond.initialized_spec (findClass_of_methodNamed hnamed) hkP hinit
  obtain ⟨vm₁, X₁, hstep₁⟩ := X.invokestatic hexec hown hlink hnamed hmethM hstatic hkP hinitP hy (g := g) hg (argsL := argsL) (rest := rest) (hlen _ hsigM) hstack hdg
  obtain ⟨v, B, X', hpost, hsteps⟩ := hK m meth c ⟨T.setVm vm₁, locs, cells, slots⟩ { g with stack := rest } (.invokestatic index) mk argsL.toArray X₁ hg hsize hdg hW (X₁.named hnamed) (hpre vm₁ X₁.warmed)
  exact ⟨v, vm₁, B, X₁.warmed, X', hpost, fun target h => hstep₁ _ fun acts => by rw [doInvoke_state]; exact hsteps.trans h⟩
theorem vx_runSW {y : MethodName} {bytes cc : ByteArray} {maxL nL mc ms n index : Nat} {ret : Option FieldType} {hh : List (Nat × Nat × Nat × Nat)} {ws : List Cond} {rm : Room} {Pc : Array Value → State → Prop} {Qc : Array Value → State → Outcome → State → Prop} {free : Addr → Prop} {Ts : List Cond} {own : String} {As rest : List Value} {g : JFrame}
    (S : CallFix p m c cc nL s args Ts own) (hM : Met l y ws rm Pc Qc mc ms free) (cw : vx_CSW R s args own index y bytes maxL ret hh ws rm mc ms n) (hp : PreS s H Pc As)
    (hg : g.method = m) (hn : As.length = n) (hsize : g.locals.size = nL) (hstack : g.stack = As.reverse ++ rest) (hW : 2 * g.monitorRoom + (rest.map fun v => v.category).sum ≤ 8) (hdg : decode cc g.pc = .ok (.invokestatic index, 3)) (hf : cells + mc ≤ R.cells ∧ slots + ms ≤ R.slots) :
    va_Run p l e R s m args below meth c H locs cells slots mc ms g rest (Qc As.toArray) (free) := by
  obtain ⟨⟨hrc, hrs, hfr, hlo, hws, hcw⟩, hcode, hini, hy, hlen, hl, hstt⟩ := cw
  have hK : Back l R p e below s args y 3 8 (PreOf R mc ms Pc) (PostOf Qc mc ms free) := va_backW (hh := hh) (bytes := bytes) (maxL := maxL) (ret := ret) hM hp.1 hrc hrs hfr hlo hws hcw (fun a' U hW => word_at hW (Or.inl (by first | rfl | simp [Cond.onTables, Cond.keeps, Cond.steady])) hini)
  obtain ⟨hx, hb, hml, ho, -⟩ := S
  intro T hT X
  obtain ⟨v, vm₁, ⟨U', l2, c2, s2⟩, hW₁, X', ⟨g', mk, t, L, e1, e2, hq, h1, hL, h2, h3⟩, st⟩ := vx_callSW X hx (hh := hh) (bytes := bytes) (maxL := maxL) (ret := ret) ho hl hstt hini hcode hy hK hg (hsize.trans hml.symm) (argsL := As) (rest := rest) (fun sig h => hn.trans (hlen sig h)) hstack hW (by rw [hb]; exact hdg)
    (fun vm₁ hW₁ => ⟨hf.1, hf.2, hp.2 (T.setVm vm₁) hT hW₁⟩)
  dsimp only [Pt.U, Pt.locs, Pt.cells, Pt.slots] at X' e1 e2 h1 h2 h3 st
  subst h1; subst h2; subst h3
  exact ⟨v, (T.setVm vm₁).calling g' mk As.toArray, t, U', L, hT, X', hL, e1, e2, hq, st⟩
/-- not caught here, past rows that name other classes: it goes on to the caller -/
theorem vx_outP {p : Program} {l : Launch} {e : Env} {R : Room} {s : State} {m : MethodId} {args : Array Value} {below : List Frame} {meth : Method} {c : Code} {H : Heap} {locs : List Loc} {cells slots : Nat} {free : Addr → Prop} {ls : Array Slot} {rest : List Value} {Qc : Array Value → State → Outcome → State → Prop} {XC : String → State → State → Prop}
    {pc : Nat} {own E : String} {ce : Cell} {q : Addr} {mc ms : Nat} (hown : s.vm.findClass own = some m.cls) (hlocks : meth.locks = false)
    (hpass : ∀ z ∈ c.exceptionTable.toList, covers z pc = false ∨ (z.catchType ≠ 0 ∧ ∃ nm : String, (Cond.classLink own z.catchType nm).before args s = true ∧ va_Nc E nm s)) (hcell : H[q]? = some ce) (hv : ce.vm = .none) (hcl : s.vm.findClass E = some ce.cls)
    (hx : ∀ t : State, t.heap = H → s.vm.Alike t.vm → XC E s t) (hf : ∀ z ∈ locs, free z.base) (hc : cells ≤ mc) (hs : slots ≤ ms) :
    vx_W p l e R s m args below meth c H locs cells slots (vx_MQ below Qc XC args s mc ms free) (F0 m pc ls rest) q := by
  intro T hT X
  have hpl : e.platform.magicAccessors = ({} : Platform).magicAccessors := by rw [X.admits.platform]
  obtain ⟨vm', hW', X', st⟩ := X.outThrough hlocks q (g := F0 m pc ls rest) rfl rfl rfl (cell := ce) (by rw [hT]; exact hcell) (by rw [hv]; rfl)
    (by obtain ⟨k9, h9, -⟩ := Vm.findClass_spec hcl; exact ⟨k9, h9⟩) (fun z hz => by
      rcases hpass z hz with h | ⟨hz0, nm, hl1, hn1⟩
      · exact Or.inl h
      · obtain ⟨c6, hc6, hcl6⟩ := Cond.classLink_spec hown hl1 e.platform hpl
        obtain ⟨a8, b8, h1, h2, h3⟩ := hn1
        cases Option.some.inj (h1.symm.trans hcl)
        cases Option.some.inj (h2.symm.trans hc6)
        exact Or.inr ⟨hz0, _, hcl6, h3⟩)
  obtain ⟨g₀, hfr⟩ := X'.frames_eq
  have hcell9 : ((T.setVm vm').setFrames (.throwing q :: below)).heap[q]? = some ce := by
    show T.heap[q]? = some ce
    rw [hT]; exact hcell
  have hend : Ended ((T.setVm vm').setFrames (.throwing q :: below)) below (.threw q) := State.frames_setFrames _ (State.cur_lt_of_frames hfr)
  refine ⟨(T.setVm vm').setFrames (.throwing q :: below), ?_, .threw q, X'.here.running, hend, Or.inr ⟨q, rfl, E, ce, locs, hx _ hT (X'.ends _).1.alike, hcell9, hv, hcl, (X'.ends _).1, (X'.ends _).2.mono hc hs, hf⟩⟩
  rw [X.pushThrowing_eq]
  exact st
/-- a thing of a world lies in the heap -/
theorem vx_lt {D : va_G} {cl : List vw_C} {ws : va_W} {H1 : Heap} (h : va_P D cl ws H1) {k : Nat} {q : Nat × va_E} (hk : ws[k]? = some q) : q.1 < H1.size := (h k q hk).lt
end VXS
/-! ===== END ===== -/
/-! ===== BEGIN methods with a table of their own: called by a name, returning or throwing ===== -/
section VXH
/-! vx_backW, vx_callVX, vx_callSX, vx_callVW, vx_runVW, vx_runVX, vx_runSX, vx_ofWH follow the same proofs as their sisters above (Free/Laws.lean, Shelf42/LK1.lean); vx_outP calls Shelf42/NT130.lean (outThrough). -/
section
variable {l : Launch} {R : Room} {p : Program} {e : Env} {below : List Frame} {s : State} {sargs : Array Value} {y : MethodName} {len W9 : Nat}
theorem vx_backW {ws : List Cond} {rm : Room} {Pc : Array Value → State → Prop} {Qc : Array Value → State → Outcome → State → Prop} {XC : String → State → State → Prop} {mc ms : Nat} {free : Addr → Prop} {bytes : ByteArray} {maxL : Nat} {ret : Option FieldType} {hh : List (Nat × Nat × Nat × Nat)}
    (hM : vx_Met l y ws rm Pc Qc XC mc ms free) (hblind : FrameBlind Pc) (hrc : rm.cells = mc) (hrs : rm.slots = ms)
    (hframes : rm.frames + 1 ≤ R.frames) (hlocals : W9 + (maxL + 11) + rm.locals ≤ R.locals)
    (hws : ∀ w ∈ ws, ∀ a' U, s.WarmedH U.vm → w.before a' U = true) (hcode : Cond.codeWith y bytes maxL ret hh ∈ ws) (hinit : ∀ a' U, s.WarmedH U.vm → (Cond.initialized y.cls).before a' U = true) :
    vx_Back l R p e below s sargs y len W9 (PreOf R mc ms Pc) (PostOf Qc mc ms free) (vx_Post XC mc ms free) := by
  intro m meth c A g ig mk a X hg hsize hdg hW hn hp
  have h1 : (headSpec ws rm).pre.before a A.U = true := atoms_intro fun w hw => hws w hw _ _ X.warmed
  have h2 : (Cond.codeWith y bytes maxL ret hh).before a A.U = true := hws _ hcode _ _ X.warmed
  have h3 : (Cond.initialized y.cls).before a A.U = true := hinit _ _ X.warmed
  have h4 : A.cells + (headSpec ws rm).room.cells ≤ R.cells := by rw [show (headSpec ws rm).room.cells = mc from hrc]; exact hp.1
  have h5 : A.slots + (headSpec ws rm).room.slots ≤ R.slots := by rw [show (headSpec ws rm).room.slots = ms from hrs]; exact hp.2.1
  have hPc : Pc a (A.U.calling g mk a) := hblind _ _ _ _ hp.2.2
  obtain ⟨U, Ls, c0, s0⟩ := A
  dsimp only [Pt.U, Pt.locs, Pt.cells, Pt.slots] at h1 h2 h3 h4 h5 X hn hPc ⊢
  obtain ⟨m9, methY, cY, hn9, hmY, hcY, -, hlY, -⟩ := Cond.codeWith_spec h2
  cases Option.some.inj (hn9.symm.trans hn)
  obtain ⟨kY, hkY, -⟩ := className_of_methodNamed hn
  have hinitY : kY.init = .initialized := Cond.initialized_spec (findClass_of_methodNamed hn) hkY h3
  have h : At U g.method c below := by rw [hg]; exact X.here
  have hlocals9 : W9 + (maxL + 11) + (headSpec ws rm).room.locals ≤ R.locals := hlocals
  have happ : (headSpec ws rm).appliesLoose y e.platform (U.calling g mk a) = true :=
    Spec.appliesLoose_calling (g := g) h hdg hn hkY hinitY
      (X.room_calling (g := g) (R' := (headSpec ws rm).room) hsize hmY hcY hframes (by rw [hlY]; omega) h4 h5) h1
  obtain ⟨mid, hmid⟩ := h.above
  have hfr : (U.setTop g).frames = (.java g :: mid) ++ below := by rw [State.frames_setTop' g h.top, hmid]; rfl
  obtain ⟨o, s₂, hsteps, -, hend, hq⟩ := Steps.callFree hM p X.admits X.cas X.clock (acts := []) hfr happ hPc trivial
  have hq' : vx_Q Qc XC mc ms free a (U.calling g mk a) o s₂ := hq
  rw [State.frames_setTop' g h.top] at hend
  obtain ⟨g₀, hg0⟩ := Option.isSome_iff_exists.mp h.top
  obtain ⟨r, hr⟩ := State.topJava?_eq_some.mp hg0
  have hr' : (({ U with heap := s₂.heap, slotsUsed := s₂.slotsUsed } : State).setVm s₂.vm).frames = .java g₀ :: r := hr
  rcases hq' with ⟨hqc, L, hfe, hL⟩ | ⟨q, rfl, E, ce, L, hx, hce, hcv, hcl, hW₂, hsm, hL⟩
  · obtain ⟨⟨v, rfl⟩, hW₂, e2, q2, q3, q4, q5, q6⟩ := id hfe
    have e3 : s₂ = ({ (U.calling g mk a).setFrames s₂.frames with heap := s₂.heap, slotsUsed := s₂.slotsUsed } : State).setVm s₂.vm := by
      have : s₂ = ({ s₂ with vm := (U.calling g mk a).vm } : State).setVm s₂.vm := rfl
      rw [e2] at this
      exact this
    obtain ⟨c₂, i₂, len₂, hc₂, hd₂, hf₂⟩ := hend
    have hW' : U.WarmedH s₂.vm := hW₂
    have hcc : c₂ = c := by
      have h1 : s₂.code? g.method = U.code? g.method := by
        rw [State.code?_eq, State.code?_eq, hW'.alike.method?]
      exact Option.some.inj (hc₂.symm.trans (h1.trans h.code))
    subst hcc
    have hlen : len₂ = len := by rw [hdg] at hd₂; cases hd₂; rfl
    subst hlen
    have hs₂ : s₂ = (({ U with heap := s₂.heap, slotsUsed := s₂.slotsUsed } : State).setVm s₂.vm).setTop { g with pc := g.pc + len₂, stack := v.toList ++ g.stack } := by
      refine e3.trans ?_
      rw [hf₂, State.calling_eq h.top, State.setFrames_setFrames, State.setTop_of_frames _ hr', hr]
      rfl
    have hsame : U.sameButNew ({ U with heap := s₂.heap, slotsUsed := s₂.slotsUsed } : State) L mc ms := by
      refine ⟨?_, q2, q3, q4, q5, q6⟩
      obtain ⟨t, ht, -⟩ := State.frames_cons hr
      show ({ U with heap := s₂.heap, slotsUsed := s₂.slotsUsed } : State) = { U.setFrames U.frames with heap := s₂.heap, slotsUsed := s₂.slotsUsed }
      rw [State.setFrames_self ht]
    subst hg
    refine Or.inl ⟨v, ⟨(({ U with heap := s₂.heap, slotsUsed := s₂.slotsUsed } : State).setVm s₂.vm), Ls ++ L, c0 + mc, s0 + ms⟩,
      ⟨X.admits, X.cas, X.clock, X.frames, X.room, X.hears, X.method, X.code, (X.here.setHeapUsed s₂.heap s₂.slotsUsed).setVm hW'.alike, X.tail, State.WarmedH.trans X.warmed hW', X.limits, X.bytes, X.same.trans (hsame.setVm s.vm)⟩,
      ⟨g, mk, s₂, L, rfl, rfl, hqc, rfl, hL, rfl, rfl⟩, ?_⟩
    show Steps p.tables e below _ ((({ U with heap := s₂.heap, slotsUsed := s₂.slotsUsed } : State).setVm s₂.vm).setTop { g with pc := g.pc + len₂, stack := v.toList ++ g.stack })
    rw [← hs₂]
    exact hsteps
  · obtain ⟨e2, q2, q3, q4, q5, q6⟩ := id hsm
    have e3 : s₂ = ({ (U.calling g mk a).setFrames s₂.frames with heap := s₂.heap, slotsUsed := s₂.slotsUsed } : State).setVm s₂.vm := by
      have : s₂ = ({ s₂ with vm := (U.calling g mk a).vm } : State).setVm s₂.vm := rfl
      rw [e2] at this
      exact this
    have hf₂ : s₂.frames = .throwing q :: .java g :: U.frames.tail := hend
    have hW' : U.WarmedH s₂.vm := hW₂
    have hs₂ : s₂ = ((({ U with heap := s₂.heap, slotsUsed := s₂.slotsUsed } : State).setVm s₂.vm).setTop g).pushFrame (.throwing q) := by
      refine e3.trans ?_
      rw [hf₂, State.calling_eq h.top, State.setFrames_setFrames, State.pushFrame, State.frames_setTop _ hr', State.setTop_of_frames _ hr', State.setFrames_setFrames, hr]
      rfl
    have hsame : U.sameButNew ({ U with heap := s₂.heap, slotsUsed := s₂.slotsUsed } : State) L mc ms := by
      refine ⟨?_, q2, q3, q4, q5, q6⟩
      obtain ⟨t, ht, -⟩ := State.frames_cons hr
      show ({ U with heap := s₂.heap, slotsUsed := s₂.slotsUsed } : State) = { U.setFrames U.frames with heap := s₂.heap, slotsUsed := s₂.slotsUsed }
      rw [State.setFrames_self ht]
    subst hg
    refine Or.inr ⟨q, ⟨(({ U with heap := s₂.heap, slotsUsed := s₂.slotsUsed } : State).setVm s₂.vm), Ls ++ L, c0 + mc, s0 + ms⟩,
      ⟨X.admits, X.cas, X.clock, X.frames, X.room, X.hears, X.method, X.code, (X.here.setHeapUsed s₂.heap s₂.slotsUsed).setVm hW'.alike, X.tail, State.WarmedH.trans X.warmed hW', X.limits, X.bytes, X.same.trans (hsame.setVm s.vm)⟩,
      ⟨g, mk, s₂, L, E, ce, rfl, rfl, hx, hce, hcv, hcl, rfl, hL, rfl, rfl⟩, ?_⟩
    show Steps p.tables e below _ (((({ U with heap := s₂.heap, slotsUsed := s₂.slotsUsed } : State).setVm s₂.vm).setTop g).pushFrame (.throwing q))
    rw [← hs₂]
    exact hsteps
end
variable {p : Program} {l : Launch} {e : Env} {R : Room} {s : State} {m : MethodId} {args : Array Value} {below : List Frame} {meth : Method} {c : Code} {T : State} {H : Heap} {locs : List Loc} {cells slots : Nat}
theorem vx_callVX (X : Stand p l e R s m args below meth c T locs cells slots) (hexec : p.tables.exec = Jvm.exec) {own C : String} {index : Nat} {y : MethodName} {bytes : ByteArray} {maxL : Nat} {ret : Option FieldType} {hh : List (Nat × Nat × Nat × Nat)}
    (hown : s.vm.findClass own = some m.cls) (hlink : (Cond.methodLink own index y).before args s = true) (hinst : (Cond.instanceMethod y).before args s = true) (hsel : (Cond.selects C y y).before args s = true)
    (hcode : (Cond.codeWith y bytes maxL ret hh).before args s = true) (hy : y.cls ≠ "java/lang/invoke/MethodHandle" ∧ y.cls ≠ "java/lang/invoke/VarHandle")
    {W9 : Nat} {Pre : Pt → Array Value → Prop} {Post : Pt → Array Value → Option Value → Pt → Prop} {PostX : Pt → Array Value → Addr → Pt → Prop} (hK : vx_Back l R p e below s args y 3 W9 Pre Post PostX)
    {b : Addr} {cellB : Cell} (hcell : T.heap[b]? = some cellB) (hobj : cellB.vm.isStatics = false) (hcls : s.vm.findClass C = some cellB.cls)
    {g : JFrame} (hg : g.method = m) (hsize : g.locals.size = c.maxLocals) {argsL rest : List Value} (hlen : ∀ sig, parseMethodDescriptor y.desc = some sig → argsL.length = sig.parameters.length)
    (hstack : g.stack = argsL.reverse ++ .ref b :: rest) (hW : 2 * g.monitorRoom + (rest.map fun v => v.category).sum ≤ W9) (hdg : decode c.code g.pc = .ok (.invokevirtual index, 3))
    (hpre : ∀ vm₁, s.WarmedH vm₁ → Pre ⟨T.setVm vm₁, locs, cells, slots⟩ (Value.ref b :: argsL).toArray) :
    (∃ (v : Option Value) (vm₁ : Vm) (B : Pt), s.WarmedH vm₁ ∧ Stand p l e R s m args below meth c B.U B.locs B.cells B.slots ∧ Post ⟨T.setVm vm₁, locs, cells, slots⟩ (Value.ref b :: argsL).toArray v B ∧
      ∀ target, Steps p.tables e below (B.U.setTop { g with pc := g.pc + 3, stack := v.toList ++ rest }) target → Steps p.tables e below (T.setTop g) target) ∨
    (∃ (q : Addr) (vm₁ : Vm) (B : Pt), s.WarmedH vm₁ ∧ Stand p l e R s m args below meth c B.U B.locs B.cells B.slots ∧ PostX ⟨T.setVm vm₁, locs, cells, slots⟩ (Value.ref b :: argsL).toArray q B ∧
      Steps p.tables e below (T.setTop g) ((B.U.setTop { g with stack := rest }).pushFrame (.throwing q))) := by
  obtain ⟨mk, methM, hnamed, hmethM, hstM, habM⟩ := Cond.instanceMethod_spec hinst
  obtain ⟨m8, methM', cM, hn8, hmethM', -, -, -, -, -, -, hsigM⟩ := Cond.codeWith_spec hcode
  cases Option.some.inj (hn8.symm.trans hnamed)
  cases hmethM.symm.trans hmethM'
  obtain ⟨c2, r2, m2, q1, q2, q3, q4, kP, hkP, hkPi⟩ := Cond.selects_spec hsel
  cases hcls.symm.trans q1
  cases (State.methodFound?_of_named hnamed hy).symm.trans q2
  cases hnamed.symm.trans q3
  have hselP : selectMethod e.platform s.vm cellB.cls mk = .method mk := by rw [Launch.admits_selectMethod X.admits]; exact q4
  obtain ⟨vm₁, X₁, hstep₁⟩ := X.invokevirtual hexec hown hlink hnamed hmethM hstM hkP hkPi hy (a := b) (cell := cellB) hcell
    (fun z h => by rw [h] at hobj; cases hobj) hselP hmethM habM hkP hkPi (g := g) hg (argsL := argsL) (rest := rest) (hlen _ hsigM) hstack hdg
  rcases hK m meth c ⟨T.setVm vm₁, locs, cells, slots⟩ { g with stack := rest } (.invokevirtual index) mk (Value.ref b :: argsL).toArray X₁ hg hsize hdg hW (X₁.named hnamed) (hpre vm₁ X₁.warmed) with ⟨v, B, X', hpost, hsteps⟩ | ⟨q, B, X', hpost, hsteps⟩
  · exact Or.inl ⟨v, vm₁, B, X₁.warmed, X', hpost, fun target h => hstep₁ _ fun acts => by rw [doInvoke_state]; exact hsteps.trans h⟩
  · exact Or.inr ⟨q, vm₁, B, X₁.warmed, X', hpost, hstep₁ _ fun acts => by rw [doInvoke_state]; exact hsteps⟩
theorem vx_callSX (X : Stand p l e R s m args below meth c T locs cells slots) (hexec : p.tables.exec = Jvm.exec) {own : String} {index : Nat} {y : MethodName} {bytes : ByteArray} {maxL : Nat} {ret : Option FieldType} {hh : List (Nat × Nat × Nat × Nat)}
    (hown : s.vm.findClass own = some m.cls) (hlink : (Cond.methodLink own index y).before args s = true) (hstat : (Cond.static y).before args s = true) (hinit : (Cond.initialized y.cls).before args s = true)
    (hcode : (Cond.codeWith y bytes maxL ret hh).before args s = true) (hy : y.cls ≠ "java/lang/invoke/MethodHandle" ∧ y.cls ≠ "java/lang/invoke/VarHandle")
    {W9 : Nat} {Pre : Pt → Array Value → Prop} {Post : Pt → Array Value → Option Value → Pt → Prop} {PostX : Pt → Array Value → Addr → Pt → Prop} (hK : vx_Back l R p e below s args y 3 W9 Pre Post PostX)
    {g : JFrame} (hg : g.method = m) (hsize : g.locals.size = c.maxLocals) {argsL rest : List Value} (hlen : ∀ sig, parseMethodDescriptor y.desc = some sig → argsL.length = sig.parameters.length)
    (hstack : g.stack = argsL.reverse ++ rest) (hW : 2 * g.monitorRoom + (rest.map fun v => v.category).sum ≤ W9) (hdg : decode c.code g.pc = .ok (.invokestatic index, 3))
    (hpre : ∀ vm₁, s.WarmedH vm₁ → Pre ⟨T.setVm vm₁, locs, cells, slots⟩ argsL.toArray) :
    (∃ (v : Option Value) (vm₁ : Vm) (B : Pt), s.WarmedH vm₁ ∧ Stand p l e R s m args below meth c B.U B.locs B.cells B.slots ∧ Post ⟨T.setVm vm₁, locs, cells, slots⟩ argsL.toArray v B ∧
      ∀ target, Steps p.tables e below (B.U.setTop { g with pc := g.pc + 3, stack := v.toList ++ rest }) target → Steps p.tables e below (T.setTop g) target) ∨
    (∃ (q : Addr) (vm₁ : Vm) (B : Pt), s.WarmedH vm₁ ∧ Stand p l e R s m args below meth c B.U B.locs B.cells B.slots ∧ PostX ⟨T.setVm vm₁, locs, cells, slots⟩ argsL.toArray q B ∧
      Steps p.tables e below (T.setTop g) ((B.U.setTop { g with stack := rest }).pushFrame (.throwing q))) := by
  obtain ⟨mk, methM, cM, hnamed, hmethM, -, -, -, -, -, -, hsigM⟩ := Cond.codeWith_spec hcode
  have hstatic : methM.isStatic = true := Cond.static_spec hnamed hmethM hstat
  obtain ⟨kP, hkP, -⟩ := className_of_methodNamed hnamed
  have hinitP : kP.init = .initialized := Cond.initialized_spec (findClass_of_methodNamed hnamed) hkP hinit
  obtain ⟨vm₁, X₁, hstep₁⟩ := X.invokestatic hexec hown hlink hnamed hmethM hstatic hkP hinitP hy (g := g) hg (argsL := argsL) (rest := rest) (hlen _ hsigM) hstack hdg
  rcases hK m meth c ⟨T.setVm vm₁, locs, cells, slots⟩ { g with stack := rest } (.invokestatic index) mk argsL.toArray X₁ hg hsize hdg hW (X₁.named hnamed) (hpre vm₁ X₁.warmed) with ⟨v, B, X', hpost, hsteps⟩ | ⟨q, B, X', hpost, hsteps⟩
  · exact Or.inl ⟨v, vm₁, B, X₁.warmed, X', hpost, fun target h => hstep₁ _ fun acts => by rw [doInvoke_state]; exact hsteps.trans h⟩
  · exact Or.inr ⟨q, vm₁, B, X₁.warmed, X', hpost, hstep₁ _ fun acts => by rw [doInvoke_state]; exact hsteps⟩
theorem vx_callVW (X : Stand p l e R s m args below meth c T locs cells slots) (hexec : p.tables.exec = Jvm.exec) {own C : String} {index : Nat} {y : MethodName} {bytes : ByteArray} {maxL : Nat} {ret : Option FieldType} {hh : List (Nat × Nat × Nat × Nat)}
    (hown : s.vm.findClass own = some m.cls) (hlink : (Cond.methodLink own index y).before args s = true) (hinst : (Cond.instanceMethod y).before args s = true) (hsel : (Cond.selects C y y).before args s = true)
    (hcode : (Cond.codeWith y bytes maxL ret hh).before args s = true) (hy : y.cls ≠ "java/lang/invoke/MethodHandle" ∧ y.cls ≠ "java/lang/invoke/VarHandle")
    {W9 : Nat} {Pre : Pt → Array Value → Prop} {Post : Pt → Array Value → Option Value → Pt → Prop} (hK : Back l R p e below s args y 3 W9 Pre Post)
    {b : Addr} {cellB : Cell} (hcell : T.heap[b]? = some cellB) (hobj : cellB.vm.isStatics = false) (hcls : s.vm.findClass C = some cellB.cls)
    {g : JFrame} (hg : g.method = m) (hsize : g.locals.size = c.maxLocals) {argsL rest : List Value} (hlen : ∀ sig, parseMethodDescriptor y.desc = some sig → argsL.length = sig.parameters.length)
    (hstack : g.stack = argsL.reverse ++ .ref b :: rest) (hW : 2 * g.monitorRoom + (rest.map fun v => v.category).sum ≤ W9) (hdg : decode c.code g.pc = .ok (.invokevirtual index, 3))
    (hpre : ∀ vm₁, s.WarmedH vm₁ → Pre ⟨T.setVm vm₁, locs, cells, slots⟩ (Value.ref b :: argsL).toArray) :
    ∃ (v : Option Value) (vm₁ : Vm) (B : Pt), s.WarmedH vm₁ ∧ Stand p l e R s m args below meth c B.U B.locs B.cells B.slots ∧ Post ⟨T.setVm vm₁, locs, cells, slots⟩ (Value.ref b :: argsL).toArray v B ∧
      ∀ target, Steps p.tables e below (B.U.setTop { g with pc := g.pc + 3, stack := v.toList ++ rest }) target → Steps p.tables e below (T.setTop g) target := by
  obtain ⟨mk, methM, hnamed, hmethM, hstM, habM⟩ := Cond.instanceMethod_spec hinst
  obtain ⟨m8, methM', cM, hn8, hmethM', -, -, -, -, -, -, hsigM⟩ := Cond.codeWith_spec hcode
  cases Option.some.inj (hn8.symm.trans hnamed)
  cases hmethM.symm.trans hmethM'
  obtain ⟨c2, r2, m2, q1, q2, q3, q4, kP, hkP, hkPi⟩ := Cond.selects_spec hsel
  cases hcls.symm.trans q1
  cases (State.methodFound?_of_named hnamed hy).symm.trans q2
  cases hnamed.symm.trans q3
  have hselP : selectMethod e.platform s.vm cellB.cls mk = .method mk := by rw [Launch.admits_selectMethod X.admits]; exact q4
  obtain ⟨vm₁, X₁, hstep₁⟩ := X.invokevirtual hexec hown hlink hnamed hmethM hstM hkP hkPi hy (a := b) (cell := cellB) hcell
    (fun z h => by rw [h] at hobj; cases hobj) hselP hmethM habM hkP hkPi (g := g) hg (argsL := argsL) (rest := rest) (hlen _ hsigM) hstack hdg
  obtain ⟨v, B, X', hpost, hsteps⟩ := hK m meth c ⟨T.setVm vm₁, locs, cells, slots⟩ { g with stack := rest } (.invokevirtual index) mk (Value.ref b :: argsL).toArray X₁ hg hsize hdg hW (X₁.named hnamed) (hpre vm₁ X₁.warmed)
  exact ⟨v, vm₁, B, X₁.warmed, X', hpost, fun target h => hstep₁ _ fun acts => by rw [doInvoke_state]; exact hsteps.trans h⟩
abbrev vx_CVW (R : Room) (s : State) (args : Array Value) (own C : String) (index : Nat) (y : MethodName) (bytes : ByteArray) (maxL : Nat) (ret : Option FieldType) (hh : List (Nat × Nat × Nat × Nat)) (ws : List Cond) (rm : Room) (mc ms n : Nat) : Prop :=
  (rm.cells = mc ∧ rm.slots = ms ∧ rm.frames + 1 ≤ R.frames ∧ 8 + (maxL + 11) + rm.locals ≤ R.locals ∧ (∀ w ∈ ws, ∀ (a' : Array Value) (U : State), s.WarmedH U.vm → w.before a' U = true) ∧ Cond.codeWith y bytes maxL ret hh ∈ ws) ∧
  (Cond.codeWith y bytes maxL ret hh).before args s = true ∧ (Cond.initialized y.cls).before args s = true ∧ (y.cls ≠ "java/lang/invoke/MethodHandle" ∧ y.cls ≠ "java/lang/invoke/VarHandle") ∧
  (∀ sig, parseMethodDescriptor y.desc = some sig → n = sig.parameters.length) ∧ (Cond.methodLink own index y).before args s = true ∧ (Cond.instanceMethod y).before args s = true ∧ (Cond.selects C y y).before args s = true
theorem vx_cwVW {own C : String} {index maxL mc ms : Nat} {y : MethodName} {bytes : ByteArray} {ret : Option FieldType} {hh : List (Nat × Nat × Nat × Nat)} {Ts ws ws' : List Cond} {rm : Room} (n : Nat) (ht : ∀ w ∈ Ts, w.before args s = true) (hT : GoodIn Ts (wsV own index C y ws)) (hw : ws = Cond.codeWith y bytes maxL ret hh :: ws') (hrc : rm.cells = mc) (hrs : rm.slots = ms)
    (hd : y.cls = C ∧ y.cls ≠ "java/lang/invoke/MethodHandle" ∧ y.cls ≠ "java/lang/invoke/VarHandle" ∧ (parseMethodDescriptor y.desc).map (fun d => d.parameters.length) = some n) (hR : rm.frames + 1 ≤ R.frames ∧ 8 + (maxL + 11) + rm.locals ≤ R.locals) :
    vx_CVW R s args own C index y bytes maxL ret hh ws rm mc ms n := by
  obtain ⟨hC, hd⟩ := hd
  subst hC
  have ok : ∀ w ∈ wsV own index y.cls y ws, w.before args s = true := fun w h => ht w (hT w h).1
  have hG : GoodIn Ts ws := fun w h => hT w (by unfold wsV; exact List.mem_append_right _ h)
  have hc : Cond.codeWith y bytes maxL ret hh ∈ ws := by rw [hw]; exact List.mem_cons_self
  refine ⟨⟨hrc, hrs, hR.1, hR.2, pay_in ht hG, hc⟩, ht _ (hG _ hc).1, ok _ (by simp [wsV]), ⟨hd.1, hd.2.1⟩, fun sig h => ?_, ok _ (by simp [wsV]), ok _ (by simp [wsV]), ok _ (by simp [wsV])⟩
  have h2 := hd.2.2
  rw [h] at h2
  exact (Option.some.inj h2).symm
theorem vx_runVW {y : MethodName} {bytes cc : ByteArray} {maxL nL mc ms n index : Nat} {ret : Option FieldType} {hh : List (Nat × Nat × Nat × Nat)} {ws : List Cond} {rm : Room} {Pc : Array Value → State → Prop} {Qc : Array Value → State → Outcome → State → Prop} {free : Addr → Prop} {Ts : List Cond} {own C : String} {b : Addr} {As rest : List Value} {g : JFrame}
    (S : CallFix p m c cc nL s args Ts own) (hM : Met l y ws rm Pc Qc mc ms free) (cw : vx_CVW R s args own C index y bytes maxL ret hh ws rm mc ms n) (hp : PreV s H C b Pc As)
    (hg : g.method = m) (hn : As.length = n) (hsize : g.locals.size = nL) (hstack : g.stack = As.reverse ++ .ref b :: rest) (hW : 2 * g.monitorRoom + (rest.map fun v => v.category).sum ≤ 8) (hdg : decode cc g.pc = .ok (.invokevirtual index, 3)) (hf : cells + mc ≤ R.cells ∧ slots + ms ≤ R.slots) :
    va_Run p l e R s m args below meth c H locs cells slots mc ms g rest (Qc (Value.ref b :: As).toArray) free := by
  obtain ⟨⟨hrc, hrs, hfr, hlo, hws, hcw⟩, hcode, hini, hy, hlen, hl, hin, hse⟩ := cw
  have hK : Back l R p e below s args y 3 8 (PreOf R mc ms Pc) (PostOf Qc mc ms free) := va_backW (hh := hh) (bytes := bytes) (maxL := maxL) (ret := ret) hM hp.1 hrc hrs hfr hlo hws hcw (fun a' U hW => word_at hW (Or.inl (by first | rfl | simp [Cond.onTables, Cond.keeps, Cond.steady])) hini)
  obtain ⟨hx, hb, hml, ho, -⟩ := S
  obtain ⟨-, ⟨cellB, hcB, hoB, hclB⟩, hPc⟩ := hp
  intro T hT X
  obtain ⟨v, vm₁, ⟨U', l2, c2, s2⟩, hW₁, X', ⟨g', mk, t, L, e1, e2, hq, h1, hL, h2, h3⟩, st⟩ := vx_callVW X hx (C := C) (hh := hh) (bytes := bytes) (maxL := maxL) (ret := ret) ho hl hin hse hcode hy hK (by rw [hT]; exact hcB) hoB hclB hg (hsize.trans hml.symm) (argsL := As) (rest := rest) (fun sig h => hn.trans (hlen sig h)) hstack hW (by rw [hb]; exact hdg)
    (fun vm₁ hW₁ => ⟨hf.1, hf.2, hPc (T.setVm vm₁) hT hW₁⟩)
  dsimp only [Pt.U, Pt.locs, Pt.cells, Pt.slots] at X' e1 e2 h1 h2 h3 st
  subst h1; subst h2; subst h3
  exact ⟨v, (T.setVm vm₁).calling g' mk (Value.ref b :: As).toArray, t, U', L, hT, X', hL, e1, e2, hq, st⟩
section
variable {y : MethodName} {bytes cc : ByteArray} {maxL nL mc ms n index : Nat} {ret : Option FieldType} {ws : List Cond} {rm : Room} {Pc : Array Value → State → Prop} {Qc : Array Value → State → Outcome → State → Prop} {XC : String → State → State → Prop} {free : Addr → Prop} {Ts : List Cond} {own C : String} {b : Addr} {As rest : List Value} {g : JFrame}
theorem vx_runVX {hh : List (Nat × Nat × Nat × Nat)} (S : CallFix p m c cc nL s args Ts own) (hM : vx_Met l y ws rm Pc Qc XC mc ms free) (cw : vx_CVW R s args own C index y bytes maxL ret hh ws rm mc ms n) (hp : PreV s H C b Pc As)
    (hg : g.method = m) (hn : As.length = n) (hsize : g.locals.size = nL) (hstack : g.stack = As.reverse ++ .ref b :: rest) (hW : 2 * g.monitorRoom + (rest.map fun v => v.category).sum ≤ 8) (hdg : decode cc g.pc = .ok (.invokevirtual index, 3)) (hf : cells + mc ≤ R.cells ∧ slots + ms ≤ R.slots) :
    vx_Run p l e R s m args below meth c H locs cells slots mc ms g rest (Qc (Value.ref b :: As).toArray) XC free := by
  obtain ⟨⟨hrc, hrs, hfr, hlo, hws, hcw⟩, hcode, hini, hy, hlen, hl, hin, hse⟩ := cw
  have hK : vx_Back l R p e below s args y 3 8 (PreOf R mc ms Pc) (PostOf Qc mc ms free) (vx_Post XC mc ms free) := vx_backW (hh := hh) (bytes := bytes) (maxL := maxL) (ret := ret) hM hp.1 hrc hrs hfr hlo hws hcw (fun a' U hW => word_at hW (Or.inl (by first | rfl | simp [Cond.onTables, Cond.keeps, Cond.steady])) hini)
  obtain ⟨hx, hb, hml, ho, -⟩ := S
  obtain ⟨-, ⟨cellB, hcB, hoB, hclB⟩, hPc⟩ := hp
  intro T hT X
  rcases vx_callVX X hx (C := C) (hh := hh) (bytes := bytes) (maxL := maxL) (ret := ret) ho hl hin hse hcode hy hK (by rw [hT]; exact hcB) hoB hclB hg (hsize.trans hml.symm) (argsL := As) (rest := rest) (fun sig h => hn.trans (hlen sig h)) hstack hW (by rw [hb]; exact hdg)
    (fun vm₁ hW₁ => ⟨hf.1, hf.2, hPc (T.setVm vm₁) hT hW₁⟩) with ⟨v, vm₁, ⟨U', l2, c2, s2⟩, hW₁, X', ⟨g', mk, t, L, e1, e2, hq, h1, hL, h2, h3⟩, st⟩ | ⟨q, vm₁, ⟨U', l2, c2, s2⟩, hW₁, X', ⟨g', mk, t, L, E, ce, e1, e2, hq, hce, hcv, hcl, h1, hL, h2, h3⟩, st⟩
  · dsimp only [Pt.U, Pt.locs, Pt.cells, Pt.slots] at X' e1 e2 h1 h2 h3 st
    subst h1; subst h2; subst h3
    exact Or.inl ⟨v, (T.setVm vm₁).calling g' mk (Value.ref b :: As).toArray, t, U', L, hT, X', hL, e1, e2, hq, st⟩
  · dsimp only [Pt.U, Pt.locs, Pt.cells, Pt.slots] at X' e1 e2 h1 h2 h3 st hcl
    subst h1; subst h2; subst h3
    exact Or.inr ⟨q, (T.setVm vm₁).calling g' mk (Value.ref b :: As).toArray, t, U', L, E, ce, hT, X', hL, e1, e2, hq, hce, hcv, vx_cls hW₁ hcl, st⟩
theorem vx_runSX {hh : List (Nat × Nat × Nat × Nat)} (S : CallFix p m c cc nL s args Ts own) (hM : vx_Met l y ws rm Pc Qc XC mc ms free) (cw : vx_CSW R s args own index y bytes maxL ret hh ws rm mc ms n) (hp : PreS s H Pc As)
    (hg : g.method = m) (hn : As.length = n) (hsize : g.locals.size = nL) (hstack : g.stack = As.reverse ++ rest) (hW : 2 * g.monitorRoom + (rest.map fun v => v.category).sum ≤ 8) (hdg : decode cc g.pc = .ok (.invokestatic index, 3)) (hf : cells + mc ≤ R.cells ∧ slots + ms ≤ R.slots) :
    vx_Run p l e R s m args below meth c H locs cells slots mc ms g rest (Qc As.toArray) XC free := by
  obtain ⟨⟨hrc, hrs, hfr, hlo, hws, hcw⟩, hcode, hini, hy, hlen, hl, hstt⟩ := cw
  have hK : vx_Back l R p e below s args y 3 8 (PreOf R mc ms Pc) (PostOf Qc mc ms free) (vx_Post XC mc ms free) := vx_backW (hh := hh) (bytes := bytes) (maxL := maxL) (ret := ret) hM hp.1 hrc hrs hfr hlo hws hcw (fun a' U hW => word_at hW (Or.inl (by first | rfl | simp [Cond.onTables, Cond.keeps, Cond.steady])) hini)
  obtain ⟨hx, hb, hml, ho, -⟩ := S
  intro T hT X
  rcases vx_callSX X hx (hh := hh) (bytes := bytes) (maxL := maxL) (ret := ret) ho hl hstt hini hcode hy hK hg (hsize.trans hml.symm) (argsL := As) (rest := rest) (fun sig h => hn.trans (hlen sig h)) hstack hW (by rw [hb]; exact hdg)
    (fun vm₁ hW₁ => ⟨hf.1, hf.2, hp.2 (T.setVm vm₁) hT hW₁⟩) with ⟨v, vm₁, ⟨U', l2, c2, s2⟩, hW₁, X', ⟨g', mk, t, L, e1, e2, hq, h1, hL, h2, h3⟩, st⟩ | ⟨q, vm₁, ⟨U', l2, c2, s2⟩, hW₁, X', ⟨g', mk, t, L, E, ce, e1, e2, hq, hce, hcv, hcl, h1, hL, h2, h3⟩, st⟩
  · dsimp only [Pt.U, Pt.locs, Pt.cells, Pt.slots] at X' e1 e2 h1 h2 h3 st
    subst h1; subst h2; subst h3
    exact Or.inl ⟨v, (T.setVm vm₁).calling g' mk As.toArray, t, U', L, hT, X', hL, e1, e2, hq, st⟩
  · dsimp only [Pt.U, Pt.locs, Pt.cells, Pt.slots] at X' e1 e2 h1 h2 h3 st hcl
    subst h1; subst h2; subst h3
    exact Or.inr ⟨q, (T.setVm vm₁).calling g' mk As.toArray, t, U', L, E, ce, hT, X', hL, e1, e2, hq, hce, hcv, vx_cls hW₁ hcl, st⟩
end
end VXH
theorem vx_ofWH {l : Launch} {y : MethodName} {ws ws' : List Cond} {rm : Room} {Pc : Array Value → State → Prop} {Qc : Array Value → State → Outcome → State → Prop} {XC : String → State → State → Prop} {mc ms : Nat} {free : Addr → Prop} {cc : ByteArray} {maxL : Nat} {ret : Option FieldType} {hh : List (Nat × Nat × Nat × Nat)}
    (hy : plainName y.cls = true) (hw : ws = Cond.codeWith y cc maxL ret hh :: ws')
    (body : ∀ p e s m args below meth c s₁, BodyLoose p l y (headSpec ws rm) cc maxL ret e s m args below meth c s₁ → c.maxLocals = maxL → Pc args s →
      W p l e (headSpec ws rm).room s m args below meth c s.heap [] 0 0 (vx_MQ below Qc XC args s mc ms free) (entryFrame m args maxL)) : vx_Met l y ws rm Pc Qc XC mc ms free := by
  refine MetFree.of_bodyS (code := cc) (maxLocals := maxL) (ret := ret) hy ?_ ?_
  · intro args s m h hn
    obtain ⟨m9, meth, c, hn9, h1, h2, h3, h4, -, h5, h6, -⟩ := Cond.codeWith_spec (atoms_spec (ws := ws) h _ (by rw [hw]; exact List.mem_cons_self))
    cases hn.symm.trans hn9
    exact ⟨meth, c, h1, h2, h3, h4, h5, h6⟩
  · intro p e s m args below meth c s₁ B hml hP _
    have hh0 : s₁.heap = s.heap := by rw [B.state]; rfl
    obtain ⟨t, a1, o, b1, b2, b3⟩ := body p e s m args below meth c s₁ B hml hP s₁ hh0 (Stand.of_body B)
    exact ⟨t, o, a1, b1, b2, b3⟩
/-! ===== END ===== -/
end
section
/-! ===== BEGIN printed: names, fields, word lists, decode rows ===== -/
def RX0 : String := "PilotBook$Berth"
def TX0 : u_T := fun k => match k with
  | 0 => ("PilotBook$Berth", "number", "I", true)
  | 1 => ("PilotBook$Berth", "length", "I", true)
  | _ => ("PilotBook$Berth", "depth", "I", true)
def tyX0 : Nat → FieldType := fun k => match k with
  | 0 => .int
  | 1 => .int
  | _ => .int
abbrev wsX00 : List Cond := u_ws RX0 TX0 3
theorem nmX0 : ∀ a, a < 3 → ∀ b, b < 3 → a ≠ b → (TX0 a).2.1 ≠ (TX0 b).2.1 := by decide +kernel
theorem tyX0_ok : ∀ k, k < 3 → parseFieldDescriptor (TX0 k).2.2.1 = some (tyX0 k) := by decide +kernel
abbrev cX0_init : ByteArray := prog_2_method_1_code
def yX0_init : MethodName := ⟨RX0, "<init>", "(III)V"⟩
def RX1 : String := "PilotBook$Passage"
def TX1 : u_T := fun k => match k with
  | 0 => ("PilotBook$Passage", "route", "LPilotBook$Route;", true)
  | 1 => ("PilotBook$Passage", "askedFrom", "I", true)
  | 2 => ("PilotBook$Passage", "begin", "I", true)
  | 3 => ("PilotBook$Passage", "pilot", "LPilotBook$Pilot;", true)
  | 4 => ("PilotBook$Passage", "shipBefore", "LPilotBook$Passage;", true)
  | 5 => ("PilotBook$Passage", "pilotBefore", "LPilotBook$Passage;", true)
  | _ => ("PilotBook$Passage", "berthUntil", "I", false)
def tyX1 : Nat → FieldType := fun k => match k with
  | 0 => .object "PilotBook$Route"
  | 1 => .int
  | 2 => .int
  | 3 => .object "PilotBook$Pilot"
  | 4 => .object "PilotBook$Passage"
  | 5 => .object "PilotBook$Passage"
  | _ => .int
abbrev wsX10 : List Cond := u_ws RX1 TX1 7
theorem nmX1 : ∀ a, a < 7 → ∀ b, b < 7 → a ≠ b → (TX1 a).2.1 ≠ (TX1 b).2.1 := by decide +kernel
theorem tyX1_ok : ∀ k, k < 7 → parseFieldDescriptor (TX1 k).2.2.1 = some (tyX1 k) := by decide +kernel
abbrev cX1_init : ByteArray := prog_3_method_1_code
def yX1_init : MethodName := ⟨RX1, "<init>", "(LPilotBook$Route;IILPilotBook$Pilot;)V"⟩
abbrev cX1_end : ByteArray := prog_3_method_2_code
def yX1_end : MethodName := ⟨RX1, "end", "()I"⟩
abbrev cX1_tugsFrom : ByteArray := prog_3_method_3_code
def yX1_tugsFrom : MethodName := ⟨RX1, "tugsFrom", "()I"⟩
abbrev cX1_holdsBerthAt : ByteArray := prog_3_method_4_code
def yX1_holdsBerthAt : MethodName := ⟨RX1, "holdsBerthAt", "(I)Z"⟩
def RX2 : String := "PilotBook$Pilot"
def TX2 : u_T := fun k => match k with
  | 0 => ("PilotBook$Pilot", "number", "I", true)
  | 1 => ("PilotBook$Pilot", "limit", "I", true)
  | 2 => ("PilotBook$Pilot", "startsInPort", "Z", true)
  | _ => ("PilotBook$Pilot", "latest", "LPilotBook$Passage;", false)
def tyX2 : Nat → FieldType := fun k => match k with
  | 0 => .int
  | 1 => .int
  | 2 => .boolean
  | _ => .object "PilotBook$Passage"
abbrev wsX20 : List Cond := u_ws RX2 TX2 4
theorem nmX2 : ∀ a, a < 4 → ∀ b, b < 4 → a ≠ b → (TX2 a).2.1 ≠ (TX2 b).2.1 := by decide +kernel
theorem tyX2_ok : ∀ k, k < 4 → parseFieldDescriptor (TX2 k).2.2.1 = some (tyX2 k) := by decide +kernel
abbrev cX2_init : ByteArray := prog_4_method_1_code
def yX2_init : MethodName := ⟨RX2, "<init>", "(IIZ)V"⟩
abbrev cX2_endsInPort : ByteArray := prog_4_method_2_code
def yX2_endsInPort : MethodName := ⟨RX2, "endsInPort", "()Z"⟩
abbrev cX2_latestEnd : ByteArray := prog_4_method_3_code
def yX2_latestEnd : MethodName := ⟨RX2, "latestEnd", "()I"⟩
abbrev cX2_canTake : ByteArray := prog_4_method_4_code
def yX2_canTake : MethodName := ⟨RX2, "canTake", "(LPilotBook$Route;I)Z"⟩
def RX3 : String := "PilotBook$Route"
def TX3 : u_T := fun k => match k with
  | 0 => ("PilotBook$Route", "ship", "LPilotBook$Ship;", true)
  | 1 => ("PilotBook$Route", "berth", "LPilotBook$Berth;", true)
  | 2 => ("PilotBook$Route", "isOutbound", "Z", true)
  | _ => ("PilotBook$Route", "tugs", "I", true)
def tyX3 : Nat → FieldType := fun k => match k with
  | 0 => .object "PilotBook$Ship"
  | 1 => .object "PilotBook$Berth"
  | 2 => .boolean
  | _ => .int
abbrev wsX30 : List Cond := u_ws RX3 TX3 4
theorem nmX3 : ∀ a, a < 4 → ∀ b, b < 4 → a ≠ b → (TX3 a).2.1 ≠ (TX3 b).2.1 := by decide +kernel
theorem tyX3_ok : ∀ k, k < 4 → parseFieldDescriptor (TX3 k).2.2.1 = some (tyX3 k) := by decide +kernel
abbrev cX3_init : ByteArray := prog_5_method_1_code
def yX3_init : MethodName := ⟨RX3, "<init>", "(LPilotBook$Ship;LPilotBook$Berth;Z)V"⟩
abbrev cX3_tugsForLength : ByteArray := prog_5_method_2_code
def yX3_tugsForLength : MethodName := ⟨RX3, "tugsForLength", "(I)I"⟩
abbrev cX3_barMinute : ByteArray := prog_5_method_3_code
def yX3_barMinute : MethodName := ⟨RX3, "barMinute", "(I)I"⟩
abbrev cX3_berthMinute : ByteArray := prog_5_method_4_code
def yX3_berthMinute : MethodName := ⟨RX3, "berthMinute", "(I)I"⟩
abbrev cX3_tugsFrom : ByteArray := prog_5_method_5_code
def yX3_tugsFrom : MethodName := ⟨RX3, "tugsFrom", "(I)I"⟩
def RX4 : String := "PilotBook$Ship"
def TX4 : u_T := fun k => match k with
  | 0 => ("PilotBook$Ship", "number", "I", true)
  | 1 => ("PilotBook$Ship", "length", "I", true)
  | 2 => ("PilotBook$Ship", "draft", "I", false)
  | _ => ("PilotBook$Ship", "latest", "LPilotBook$Passage;", false)
def tyX4 : Nat → FieldType := fun k => match k with
  | 0 => .int
  | 1 => .int
  | 2 => .int
  | _ => .object "PilotBook$Passage"
abbrev wsX40 : List Cond := u_ws RX4 TX4 4
theorem nmX4 : ∀ a, a < 4 → ∀ b, b < 4 → a ≠ b → (TX4 a).2.1 ≠ (TX4 b).2.1 := by decide +kernel
theorem tyX4_ok : ∀ k, k < 4 → parseFieldDescriptor (TX4 k).2.2.1 = some (tyX4 k) := by decide +kernel
abbrev cX4_init : ByteArray := prog_6_method_1_code
def yX4_init : MethodName := ⟨RX4, "<init>", "(III)V"⟩
def RX5 : String := "PilotBook$Tide"
def TX5 : u_T := fun k => match k with
  | 0 => ("PilotBook$Tide", "times", "[I", true)
  | 1 => ("PilotBook$Tide", "heights", "[I", true)
  | _ => ("PilotBook$Tide", "size", "I", false)
def tyX5 : Nat → FieldType := fun k => match k with
  | 0 => .array .int
  | 1 => .array .int
  | _ => .int
abbrev wsX50 : List Cond := u_ws RX5 TX5 3
theorem nmX5 : ∀ a, a < 3 → ∀ b, b < 3 → a ≠ b → (TX5 a).2.1 ≠ (TX5 b).2.1 := by decide +kernel
theorem tyX5_ok : ∀ k, k < 3 → parseFieldDescriptor (TX5 k).2.2.1 = some (tyX5 k) := by decide +kernel
abbrev cX5_init : ByteArray := prog_7_method_1_code
def yX5_init : MethodName := ⟨RX5, "<init>", "()V"⟩
abbrev cX5_pointsUpTo : ByteArray := prog_7_method_2_code
def yX5_pointsUpTo : MethodName := ⟨RX5, "pointsUpTo", "(I)I"⟩
abbrev cX5_hasPointAt : ByteArray := prog_7_method_3_code
def yX5_hasPointAt : MethodName := ⟨RX5, "hasPointAt", "(I)Z"⟩
abbrev cX5_insert : ByteArray := prog_7_method_4_code
def yX5_insert : MethodName := ⟨RX5, "insert", "(II)V"⟩
abbrev cX5_heightAt : ByteArray := prog_7_method_5_code
def yX5_heightAt : MethodName := ⟨RX5, "heightAt", "(I)I"⟩
def RX6 : String := "PilotBook"
def TX6 : u_T := fun k => match k with
  | 0 => ("PilotBook", "tide", "LPilotBook$Tide;", true)
  | 1 => ("PilotBook", "berths", "Ljava/util/ArrayList;", true)
  | 2 => ("PilotBook", "ships", "Ljava/util/ArrayList;", true)
  | 3 => ("PilotBook", "pilots", "Ljava/util/ArrayList;", true)
  | 4 => ("PilotBook", "passages", "Ljava/util/ArrayList;", true)
  | 5 => ("PilotBook", "barDepth", "I", false)
  | 6 => ("PilotBook", "margin", "I", false)
  | _ => ("PilotBook", "tugs", "I", false)
def tyX6 : Nat → FieldType := fun k => match k with
  | 0 => .object "PilotBook$Tide"
  | 1 => .object "java/util/ArrayList"
  | 2 => .object "java/util/ArrayList"
  | 3 => .object "java/util/ArrayList"
  | 4 => .object "java/util/ArrayList"
  | 5 => .int
  | 6 => .int
  | _ => .int
abbrev wsX60 : List Cond := u_ws RX6 TX6 8
theorem nmX6 : ∀ a, a < 8 → ∀ b, b < 8 → a ≠ b → (TX6 a).2.1 ≠ (TX6 b).2.1 := by decide +kernel
theorem tyX6_ok : ∀ k, k < 8 → parseFieldDescriptor (TX6 k).2.2.1 = some (tyX6 k) := by decide +kernel
abbrev cX6_init : ByteArray := prog_1_method_1_code
def yX6_init : MethodName := ⟨RX6, "<init>", "()V"⟩
abbrev cX6_addTide : ByteArray := prog_1_method_2_code
def yX6_addTide : MethodName := ⟨RX6, "addTide", "(II)I"⟩
abbrev cX6_setWater : ByteArray := prog_1_method_4_code
def yX6_setWater : MethodName := ⟨RX6, "setWater", "(II)I"⟩
abbrev cX6_addBerth : ByteArray := prog_1_method_5_code
def yX6_addBerth : MethodName := ⟨RX6, "addBerth", "(II)I"⟩
abbrev cX6_addShip : ByteArray := prog_1_method_6_code
def yX6_addShip : MethodName := ⟨RX6, "addShip", "(II)I"⟩
abbrev cX6_addPilot : ByteArray := prog_1_method_8_code
def yX6_addPilot : MethodName := ⟨RX6, "addPilot", "(IZ)I"⟩
abbrev cX6_setTugs : ByteArray := prog_1_method_9_code
def yX6_setTugs : MethodName := ⟨RX6, "setTugs", "(I)I"⟩
abbrev cX6_count : ByteArray := prog_1_method_10_code
def yX6_count : MethodName := ⟨RX6, "count", "(I)I"⟩
abbrev cX6_earliest : ByteArray := prog_1_method_14_code
def yX6_earliest : MethodName := ⟨RX6, "earliest", "(III)I"⟩
abbrev cX6_book : ByteArray := prog_1_method_15_code
def yX6_book : MethodName := ⟨RX6, "book", "(III)I"⟩
abbrev cX6_passage : ByteArray := prog_1_method_17_code
def yX6_passage : MethodName := ⟨RX6, "passage", "(II)I"⟩
abbrev cX6_occupant : ByteArray := prog_1_method_18_code
def yX6_occupant : MethodName := ⟨RX6, "occupant", "(II)I"⟩
abbrev cX6_checkRange : ByteArray := prog_1_method_24_code
def yX6_checkRange : MethodName := ⟨RX6, "checkRange", "(III)V"⟩
abbrev cX6_checkTime : ByteArray := prog_1_method_25_code
def yX6_checkTime : MethodName := ⟨RX6, "checkTime", "(I)V"⟩
abbrev cX6_checkNumber : ByteArray := prog_1_method_26_code
def yX6_checkNumber : MethodName := ⟨RX6, "checkNumber", "(II)V"⟩
abbrev cX6_checkRoom : ByteArray := prog_1_method_27_code
def yX6_checkRoom : MethodName := ⟨RX6, "checkRoom", "(II)V"⟩
abbrev cX6_checkCall : ByteArray := prog_1_method_28_code
def yX6_checkCall : MethodName := ⟨RX6, "checkCall", "(III)V"⟩
abbrev cX6_waterNeed : ByteArray := prog_1_method_29_code
def yX6_waterNeed : MethodName := ⟨RX6, "waterNeed", "(LPilotBook$Ship;)I"⟩
abbrev cX6_hasWater : ByteArray := prog_1_method_30_code
def yX6_hasWater : MethodName := ⟨RX6, "hasWater", "(LPilotBook$Ship;II)Z"⟩
abbrev cX6_routeOf : ByteArray := prog_1_method_32_code
def yX6_routeOf : MethodName := ⟨RX6, "routeOf", "(II)LPilotBook$Route;"⟩
abbrev cX6_firstBegin : ByteArray := prog_1_method_33_code
def yX6_firstBegin : MethodName := ⟨RX6, "firstBegin", "(LPilotBook$Route;I)I"⟩
abbrev cX6_freeFrom : ByteArray := prog_1_method_34_code
def yX6_freeFrom : MethodName := ⟨RX6, "freeFrom", "(LPilotBook$Route;)I"⟩
abbrev cX6_canBegin : ByteArray := prog_1_method_35_code
def yX6_canBegin : MethodName := ⟨RX6, "canBegin", "(LPilotBook$Route;I)Z"⟩
abbrev cX6_hasClearWay : ByteArray := prog_1_method_36_code
def yX6_hasClearWay : MethodName := ⟨RX6, "hasClearWay", "(LPilotBook$Route;I)Z"⟩
abbrev cX6_hasTugs : ByteArray := prog_1_method_37_code
def yX6_hasTugs : MethodName := ⟨RX6, "hasTugs", "(LPilotBook$Route;I)Z"⟩
abbrev cX6_tugsInUse : ByteArray := prog_1_method_38_code
def yX6_tugsInUse : MethodName := ⟨RX6, "tugsInUse", "(I)I"⟩
abbrev cX6_pilotFor : ByteArray := prog_1_method_39_code
def yX6_pilotFor : MethodName := ⟨RX6, "pilotFor", "(LPilotBook$Route;I)LPilotBook$Pilot;"⟩
abbrev cX6_enter : ByteArray := prog_1_method_40_code
def yX6_enter : MethodName := ⟨RX6, "enter", "(LPilotBook$Passage;)V"⟩
def RX7 : String := "PilotBookModel"
def TX7 : u_T := fun k => match k with
  | _ => ("", "", "", false)
def tyX7 : Nat → FieldType := fun k => match k with
  | _ => .int
abbrev wsX70 : List Cond := u_ws RX7 TX7 0
theorem nmX7 : ∀ a, a < 0 → ∀ b, b < 0 → a ≠ b → (TX7 a).2.1 ≠ (TX7 b).2.1 := by decide +kernel
theorem tyX7_ok : ∀ k, k < 0 → parseFieldDescriptor (TX7 k).2.2.1 = some (tyX7 k) := by decide +kernel
def RJx145de : String := "java/io/Serializable"
def TJx145de : u_T := fun k => match k with
  | _ => ("", "", "", false)
def tyJx145de : Nat → FieldType := fun k => match k with
  | _ => .int
abbrev wsJx145de0 : List Cond := u_ws RJx145de TJx145de 0
theorem nmJx145de : ∀ a, a < 0 → ∀ b, b < 0 → a ≠ b → (TJx145de a).2.1 ≠ (TJx145de b).2.1 := by decide +kernel
theorem tyJx145de_ok : ∀ k, k < 0 → parseFieldDescriptor (TJx145de k).2.2.1 = some (tyJx145de k) := by decide +kernel
def RJx8e188 : String := "java/lang/Cloneable"
def TJx8e188 : u_T := fun k => match k with
  | _ => ("", "", "", false)
def tyJx8e188 : Nat → FieldType := fun k => match k with
  | _ => .int
abbrev wsJx8e1880 : List Cond := u_ws RJx8e188 TJx8e188 0
theorem nmJx8e188 : ∀ a, a < 0 → ∀ b, b < 0 → a ≠ b → (TJx8e188 a).2.1 ≠ (TJx8e188 b).2.1 := by decide +kernel
theorem tyJx8e188_ok : ∀ k, k < 0 → parseFieldDescriptor (TJx8e188 k).2.2.1 = some (tyJx8e188 k) := by decide +kernel
def RJxab1ab : String := "java/lang/Iterable"
def TJxab1ab : u_T := fun k => match k with
  | _ => ("", "", "", false)
def tyJxab1ab : Nat → FieldType := fun k => match k with
  | _ => .int
abbrev wsJxab1ab0 : List Cond := u_ws RJxab1ab TJxab1ab 0
theorem nmJxab1ab : ∀ a, a < 0 → ∀ b, b < 0 → a ≠ b → (TJxab1ab a).2.1 ≠ (TJxab1ab b).2.1 := by decide +kernel
theorem tyJxab1ab_ok : ∀ k, k < 0 → parseFieldDescriptor (TJxab1ab k).2.2.1 = some (tyJxab1ab k) := by decide +kernel
def RJ9 : String := "java/lang/Math"
def TJ9 : u_T := fun k => match k with
  | _ => ("", "", "", false)
def tyJ9 : Nat → FieldType := fun k => match k with
  | _ => .int
abbrev wsJ90 : List Cond := u_ws RJ9 TJ9 0
theorem nmJ9 : ∀ a, a < 0 → ∀ b, b < 0 → a ≠ b → (TJ9 a).2.1 ≠ (TJ9 b).2.1 := by decide +kernel
theorem tyJ9_ok : ∀ k, k < 0 → parseFieldDescriptor (TJ9 k).2.2.1 = some (tyJ9 k) := by decide +kernel
abbrev cJ9_abs_0f7a4 : ByteArray := prog_17_method_59_code
def yJ9_abs_0f7a4 : MethodName := ⟨RJ9, "abs", "(I)I"⟩
abbrev cJ9_max_7cf53 : ByteArray := prog_17_method_65_code
def yJ9_max_7cf53 : MethodName := ⟨RJ9, "max", "(II)I"⟩
abbrev cJ9_min_7cf53 : ByteArray := prog_17_method_69_code
def yJ9_min_7cf53 : MethodName := ⟨RJ9, "min", "(II)I"⟩
def RJ0 : String := "java/lang/String"
def TJ0 : u_T := fun k => match k with
  | _ => ("", "", "", false)
def tyJ0 : Nat → FieldType := fun k => match k with
  | _ => .int
abbrev wsJ00 : List Cond := u_ws RJ0 TJ0 0
theorem nmJ0 : ∀ a, a < 0 → ∀ b, b < 0 → a ≠ b → (TJ0 a).2.1 ≠ (TJ0 b).2.1 := by decide +kernel
theorem tyJ0_ok : ∀ k, k < 0 → parseFieldDescriptor (TJ0 k).2.2.1 = some (tyJ0 k) := by decide +kernel
def RJ10 : String := "java/lang/System"
def TJ10 : u_T := fun k => match k with
  | _ => ("", "", "", false)
def tyJ10 : Nat → FieldType := fun k => match k with
  | _ => .int
abbrev wsJ100 : List Cond := u_ws RJ10 TJ10 0
theorem nmJ10 : ∀ a, a < 0 → ∀ b, b < 0 → a ≠ b → (TJ10 a).2.1 ≠ (TJ10 b).2.1 := by decide +kernel
theorem tyJ10_ok : ∀ k, k < 0 → parseFieldDescriptor (TJ10 k).2.2.1 = some (tyJ10 k) := by decide +kernel
def RJxa1e45 : String := "java/util/AbstractCollection"
def TJxa1e45 : u_T := fun k => match k with
  | _ => ("", "", "", false)
def tyJxa1e45 : Nat → FieldType := fun k => match k with
  | _ => .int
abbrev wsJxa1e450 : List Cond := u_ws RJxa1e45 TJxa1e45 0
theorem nmJxa1e45 : ∀ a, a < 0 → ∀ b, b < 0 → a ≠ b → (TJxa1e45 a).2.1 ≠ (TJxa1e45 b).2.1 := by decide +kernel
theorem tyJxa1e45_ok : ∀ k, k < 0 → parseFieldDescriptor (TJxa1e45 k).2.2.1 = some (tyJxa1e45 k) := by decide +kernel
abbrev cJxa1e45_init_da8c8 : ByteArray := prog_22_method_1_code
def yJxa1e45_init_da8c8 : MethodName := ⟨RJxa1e45, "<init>", "()V"⟩
def RJxc12de : String := "java/util/AbstractList"
def TJxc12de : u_T := fun k => match k with
  | _ => ("", "", "", false)
def tyJxc12de : Nat → FieldType := fun k => match k with
  | _ => .int
abbrev wsJxc12de0 : List Cond := u_ws RJxc12de TJxc12de 0
theorem nmJxc12de : ∀ a, a < 0 → ∀ b, b < 0 → a ≠ b → (TJxc12de a).2.1 ≠ (TJxc12de b).2.1 := by decide +kernel
theorem tyJxc12de_ok : ∀ k, k < 0 → parseFieldDescriptor (TJxc12de k).2.2.1 = some (tyJxc12de k) := by decide +kernel
abbrev cJxc12de_init_da8c8 : ByteArray := prog_23_method_1_code
def yJxc12de_init_da8c8 : MethodName := ⟨RJxc12de, "<init>", "()V"⟩
def RJx4a65c : String := "java/util/ArrayList"
def TJx4a65c : u_T := fun k => match k with
  | 0 => ("java/util/AbstractList", "modCount", "I", false)
  | 1 => ("java/util/ArrayList", "elementData", "[Ljava/lang/Object;", false)
  | _ => ("java/util/ArrayList", "size", "I", false)
def tyJx4a65c : Nat → FieldType := fun k => match k with
  | 0 => .int
  | 1 => .array (.object "java/lang/Object")
  | _ => .int
abbrev wsJx4a65c0 : List Cond := u_ws RJx4a65c TJx4a65c 3
theorem nmJx4a65c : ∀ a, a < 3 → ∀ b, b < 3 → a ≠ b → (TJx4a65c a).2.1 ≠ (TJx4a65c b).2.1 := by decide +kernel
theorem tyJx4a65c_ok : ∀ k, k < 3 → parseFieldDescriptor (TJx4a65c k).2.2.1 = some (tyJx4a65c k) := by decide +kernel
abbrev cJx4a65c_init_da8c8 : ByteArray := prog_24_method_2_code
def yJx4a65c_init_da8c8 : MethodName := ⟨RJx4a65c, "<init>", "()V"⟩
abbrev cJx4a65c_grow_92f84 : ByteArray := prog_24_method_6_code
def yJx4a65c_grow_92f84 : MethodName := ⟨RJx4a65c, "grow", "(I)[Ljava/lang/Object;"⟩
abbrev cJx4a65c_grow_d5877 : ByteArray := prog_24_method_7_code
def yJx4a65c_grow_d5877 : MethodName := ⟨RJx4a65c, "grow", "()[Ljava/lang/Object;"⟩
abbrev cJx4a65c_size_8abf5 : ByteArray := prog_24_method_8_code
def yJx4a65c_size_8abf5 : MethodName := ⟨RJx4a65c, "size", "()I"⟩
abbrev cJx4a65c_isEmpty_aae02 : ByteArray := prog_24_method_9_code
def yJx4a65c_isEmpty_aae02 : MethodName := ⟨RJx4a65c, "isEmpty", "()Z"⟩
abbrev cJx4a65c_elementData_915e3 : ByteArray := prog_24_method_18_code
def yJx4a65c_elementData_915e3 : MethodName := ⟨RJx4a65c, "elementData", "(I)Ljava/lang/Object;"⟩
abbrev cJx4a65c_get_915e3 : ByteArray := prog_24_method_20_code
def yJx4a65c_get_915e3 : MethodName := ⟨RJx4a65c, "get", "(I)Ljava/lang/Object;"⟩
abbrev cJx4a65c_add_72be8 : ByteArray := prog_24_method_24_code
def yJx4a65c_add_72be8 : MethodName := ⟨RJx4a65c, "add", "(Ljava/lang/Object;[Ljava/lang/Object;I)V"⟩
abbrev cJx4a65c_add_9ea2d : ByteArray := prog_24_method_25_code
def yJx4a65c_add_9ea2d : MethodName := ⟨RJx4a65c, "add", "(Ljava/lang/Object;)Z"⟩
def RJ7 : String := "java/util/Arrays"
def TJ7 : u_T := fun k => match k with
  | _ => ("", "", "", false)
def tyJ7 : Nat → FieldType := fun k => match k with
  | _ => .int
abbrev wsJ70 : List Cond := u_ws RJ7 TJ7 0
theorem nmJ7 : ∀ a, a < 0 → ∀ b, b < 0 → a ≠ b → (TJ7 a).2.1 ≠ (TJ7 b).2.1 := by decide +kernel
theorem tyJ7_ok : ∀ k, k < 0 → parseFieldDescriptor (TJ7 k).2.2.1 = some (tyJ7 k) := by decide +kernel
abbrev cJ7_copyOf_1904c : ByteArray := prog_25_method_119_code
def yJ7_copyOf_1904c : MethodName := ⟨RJ7, "copyOf", "([Ljava/lang/Object;I)[Ljava/lang/Object;"⟩
abbrev cJ7_copyOf_6403c : ByteArray := prog_25_method_120_code
def yJ7_copyOf_6403c : MethodName := ⟨RJ7, "copyOf", "([Ljava/lang/Object;ILjava/lang/Class;)[Ljava/lang/Object;"⟩
def RJx5ef63 : String := "java/util/Collection"
def TJx5ef63 : u_T := fun k => match k with
  | _ => ("", "", "", false)
def tyJx5ef63 : Nat → FieldType := fun k => match k with
  | _ => .int
abbrev wsJx5ef630 : List Cond := u_ws RJx5ef63 TJx5ef63 0
theorem nmJx5ef63 : ∀ a, a < 0 → ∀ b, b < 0 → a ≠ b → (TJx5ef63 a).2.1 ≠ (TJx5ef63 b).2.1 := by decide +kernel
theorem tyJx5ef63_ok : ∀ k, k < 0 → parseFieldDescriptor (TJx5ef63 k).2.2.1 = some (tyJx5ef63 k) := by decide +kernel
def RJxbd725 : String := "java/util/List"
def TJxbd725 : u_T := fun k => match k with
  | _ => ("", "", "", false)
def tyJxbd725 : Nat → FieldType := fun k => match k with
  | _ => .int
abbrev wsJxbd7250 : List Cond := u_ws RJxbd725 TJxbd725 0
theorem nmJxbd725 : ∀ a, a < 0 → ∀ b, b < 0 → a ≠ b → (TJxbd725 a).2.1 ≠ (TJxbd725 b).2.1 := by decide +kernel
theorem tyJxbd725_ok : ∀ k, k < 0 → parseFieldDescriptor (TJxbd725 k).2.2.1 = some (tyJxbd725 k) := by decide +kernel
def RJ15 : String := "java/util/Objects"
def TJ15 : u_T := fun k => match k with
  | _ => ("", "", "", false)
def tyJ15 : Nat → FieldType := fun k => match k with
  | _ => .int
abbrev wsJ150 : List Cond := u_ws RJ15 TJ15 0
theorem nmJ15 : ∀ a, a < 0 → ∀ b, b < 0 → a ≠ b → (TJ15 a).2.1 ≠ (TJ15 b).2.1 := by decide +kernel
theorem tyJ15_ok : ∀ k, k < 0 → parseFieldDescriptor (TJ15 k).2.2.1 = some (tyJ15 k) := by decide +kernel
abbrev cJ15_checkIndex_7cf53 : ByteArray := prog_28_method_17_code
def yJ15_checkIndex_7cf53 : MethodName := ⟨RJ15, "checkIndex", "(II)I"⟩
def RJxf0a74 : String := "java/util/RandomAccess"
def TJxf0a74 : u_T := fun k => match k with
  | _ => ("", "", "", false)
def tyJxf0a74 : Nat → FieldType := fun k => match k with
  | _ => .int
abbrev wsJxf0a740 : List Cond := u_ws RJxf0a74 TJxf0a74 0
theorem nmJxf0a74 : ∀ a, a < 0 → ∀ b, b < 0 → a ≠ b → (TJxf0a74 a).2.1 ≠ (TJxf0a74 b).2.1 := by decide +kernel
theorem tyJxf0a74_ok : ∀ k, k < 0 → parseFieldDescriptor (TJxf0a74 k).2.2.1 = some (tyJxf0a74 k) := by decide +kernel
def RJxa66e6 : String := "java/util/SequencedCollection"
def TJxa66e6 : u_T := fun k => match k with
  | _ => ("", "", "", false)
def tyJxa66e6 : Nat → FieldType := fun k => match k with
  | _ => .int
abbrev wsJxa66e60 : List Cond := u_ws RJxa66e6 TJxa66e6 0
theorem nmJxa66e6 : ∀ a, a < 0 → ∀ b, b < 0 → a ≠ b → (TJxa66e6 a).2.1 ≠ (TJxa66e6 b).2.1 := by decide +kernel
theorem tyJxa66e6_ok : ∀ k, k < 0 → parseFieldDescriptor (TJxa66e6 k).2.2.1 = some (tyJxa66e6 k) := by decide +kernel
def RJ8 : String := "jdk/internal/util/ArraysSupport"
def TJ8 : u_T := fun k => match k with
  | _ => ("", "", "", false)
def tyJ8 : Nat → FieldType := fun k => match k with
  | _ => .int
abbrev wsJ80 : List Cond := u_ws RJ8 TJ8 0
theorem nmJ8 : ∀ a, a < 0 → ∀ b, b < 0 → a ≠ b → (TJ8 a).2.1 ≠ (TJ8 b).2.1 := by decide +kernel
theorem tyJ8_ok : ∀ k, k < 0 → parseFieldDescriptor (TJ8 k).2.2.1 = some (tyJ8 k) := by decide +kernel
abbrev cJ8_newLength_cabcc : ByteArray := prog_31_method_27_code
def yJ8_newLength_cabcc : MethodName := ⟨RJ8, "newLength", "(III)I"⟩
abbrev cJ8_hugeLength_7cf53 : ByteArray := prog_31_method_28_code
def yJ8_hugeLength_7cf53 : MethodName := ⟨RJ8, "hugeLength", "(II)I"⟩
def RJ3 : String := "jdk/internal/util/Preconditions"
def TJ3 : u_T := fun k => match k with
  | _ => ("", "", "", false)
def tyJ3 : Nat → FieldType := fun k => match k with
  | _ => .int
abbrev wsJ30 : List Cond := u_ws RJ3 TJ3 0
theorem nmJ3 : ∀ a, a < 0 → ∀ b, b < 0 → a ≠ b → (TJ3 a).2.1 ≠ (TJ3 b).2.1 := by decide +kernel
theorem tyJ3_ok : ∀ k, k < 0 → parseFieldDescriptor (TJ3 k).2.2.1 = some (tyJ3 k) := by decide +kernel
abbrev cJ3_checkIndex_8e157 : ByteArray := prog_32_method_11_code
def yJ3_checkIndex_8e157 : MethodName := ⟨RJ3, "checkIndex", "(IILjava/util/function/BiFunction;)I"⟩
def RL : String := "PilotBookLaw"
abbrev cL_below : ByteArray := method_2_code
def yL_below : MethodName := ⟨RL, "below", "(II)I"⟩
abbrev cL_cell : ByteArray := method_3_code
def yL_cell : MethodName := ⟨RL, "cell", "([II)I"⟩
abbrev cL_build : ByteArray := method_4_code
def yL_build : MethodName := ⟨RL, "build", "(LPilotBook;[II[I[I[I[I)[I"⟩
abbrev cL_height : ByteArray := method_5_code
def yL_height : MethodName := ⟨RL, "height", "([I[II)I"⟩
abbrev cL_need : ByteArray := method_6_code
def yL_need : MethodName := ⟨RL, "need", "([II)I"⟩
abbrev cL_tugs : ByteArray := method_7_code
def yL_tugs : MethodName := ⟨RL, "tugs", "(I)I"⟩
abbrev cL_tugsAt : ByteArray := method_8_code
def yL_tugsAt : MethodName := ⟨RL, "tugsAt", "(I[[II)I"⟩
abbrev cL_leaves : ByteArray := method_9_code
def yL_leaves : MethodName := ⟨RL, "leaves", "(I[[II)I"⟩
abbrev cL_pilot : ByteArray := method_10_code
def yL_pilot : MethodName := ⟨RL, "pilot", "(IZII[[I[I[I)I"⟩
abbrev cL_canBegin : ByteArray := method_11_code
def yL_canBegin : MethodName := ⟨RL, "canBegin", "(IIII[[I[I[I[I[I[I)Z"⟩
abbrev cL_told : ByteArray := method_13_code
def yL_told : MethodName := ⟨RL, "told", "(LPilotBook;III)I"⟩
abbrev cL_law : ByteArray := code
def yL_law : MethodName := ⟨RL, "law", "([I)Z"⟩
def wsX0_init : List Cond := .code yX0_init cX0_init 4 none :: ([.methodLink RX0 1 objectInit, .instanceMethod objectInit, .code objectInit ⟨#[0xb1]⟩ 1 none, .fieldLink RX0 7 "PilotBook$Berth" "number" "I", .fieldLink RX0 13 "PilotBook$Berth" "length" "I", .fieldLink RX0 16 "PilotBook$Berth" "depth" "I"] ++ wsX00)
def wsX1_init : List Cond := .code yX1_init cX1_init 5 none :: ([.methodLink RX1 3 objectInit, .instanceMethod objectInit, .code objectInit ⟨#[0xb1]⟩ 1 none, .fieldLink RX1 9 "PilotBook$Passage" "route" "LPilotBook$Route;", .fieldLink RX1 15 "PilotBook$Passage" "askedFrom" "I", .fieldLink RX1 19 "PilotBook$Passage" "begin" "I", .fieldLink RX1 22 "PilotBook$Passage" "pilot" "LPilotBook$Pilot;", .fieldLink RX1 38 "PilotBook$Passage" "shipBefore" "LPilotBook$Passage;", .fieldLink RX1 44 "PilotBook$Passage" "pilotBefore" "LPilotBook$Passage;", .fieldLink RX1 51 "PilotBook$Passage" "berthUntil" "I"] ++ wsX10 ++ wsX30 ++ wsX40 ++ wsX20)
def wsX1_end : List Cond := .code yX1_end cX1_end 1 (some .int) :: ([.fieldLink RX1 19 "PilotBook$Passage" "begin" "I"] ++ wsX10)
def wsX3_tugsFrom : List Cond := .code yX3_tugsFrom cX3_tugsFrom 2 (some .int) :: ([.fieldLink RX3 19 "PilotBook$Route" "isOutbound" "Z"] ++ wsX30)
def wsX1_tugsFrom : List Cond := .code yX1_tugsFrom cX1_tugsFrom 1 (some .int) :: ([.fieldLink RX1 9 "PilotBook$Passage" "route" "LPilotBook$Route;", .fieldLink RX1 19 "PilotBook$Passage" "begin" "I", .methodLink RX1 54 yX3_tugsFrom, .instanceMethod yX3_tugsFrom, .selects RX3 yX3_tugsFrom yX3_tugsFrom, .initialized RX3, .code yX3_tugsFrom cX3_tugsFrom 2 (some .int), .fieldLink RX3 19 "PilotBook$Route" "isOutbound" "Z"] ++ wsX10 ++ wsX30)
def wsX1_holdsBerthAt : List Cond := .code yX1_holdsBerthAt cX1_holdsBerthAt 2 (some .boolean) :: ([.fieldLink RX1 19 "PilotBook$Passage" "begin" "I", .fieldLink RX1 51 "PilotBook$Passage" "berthUntil" "I"] ++ wsX10)
def wsX2_init : List Cond := .code yX2_init cX2_init 4 none :: ([.methodLink RX2 3 objectInit, .instanceMethod objectInit, .code objectInit ⟨#[0xb1]⟩ 1 none, .fieldLink RX2 9 "PilotBook$Pilot" "latest" "LPilotBook$Passage;", .fieldLink RX2 15 "PilotBook$Pilot" "number" "I", .fieldLink RX2 19 "PilotBook$Pilot" "limit" "I", .fieldLink RX2 22 "PilotBook$Pilot" "startsInPort" "Z"] ++ wsX20)
def wsX2_endsInPort : List Cond := .code yX2_endsInPort cX2_endsInPort 1 (some .boolean) :: ([.fieldLink RX2 9 "PilotBook$Pilot" "latest" "LPilotBook$Passage;", .fieldLink RX2 22 "PilotBook$Pilot" "startsInPort" "Z"] ++ wsX20 ++ wsX10 ++ wsX30)
def wsX2_latestEnd : List Cond := .code yX2_latestEnd cX2_latestEnd 1 (some .int) :: ([.fieldLink RX2 9 "PilotBook$Pilot" "latest" "LPilotBook$Passage;", .methodLink RX2 37 yX1_end, .instanceMethod yX1_end, .selects RX1 yX1_end yX1_end, .initialized RX1, .code yX1_end cX1_end 1 (some .int), .fieldLink RX1 19 "PilotBook$Passage" "begin" "I"] ++ wsX20 ++ wsX10)
def wsX2_canTake : List Cond := .code yX2_canTake cX2_canTake 4 (some .boolean) :: ([.fieldLink RX2 19 "PilotBook$Pilot" "limit" "I", .fieldLink RX2 9 "PilotBook$Pilot" "latest" "LPilotBook$Passage;", .methodLink RX2 50 yX2_endsInPort, .instanceMethod yX2_endsInPort, .selects RX2 yX2_endsInPort yX2_endsInPort, .initialized RX2, .code yX2_endsInPort cX2_endsInPort 1 (some .boolean), .fieldLink RX2 22 "PilotBook$Pilot" "startsInPort" "Z", .methodLink RX2 37 yX1_end, .instanceMethod yX1_end, .selects RX1 yX1_end yX1_end, .initialized RX1, .code yX1_end cX1_end 1 (some .int), .fieldLink RX1 19 "PilotBook$Passage" "begin" "I"] ++ wsX20 ++ wsX30 ++ wsX40 ++ wsX10)
def wsX3_tugsForLength : List Cond := .code yX3_tugsForLength cX3_tugsForLength 1 (some .int) :: ([])
def wsX3_init : List Cond := .code yX3_init cX3_init 4 none :: ([.methodLink RX3 3 objectInit, .instanceMethod objectInit, .code objectInit ⟨#[0xb1]⟩ 1 none, .fieldLink RX3 9 "PilotBook$Route" "ship" "LPilotBook$Ship;", .fieldLink RX3 15 "PilotBook$Route" "berth" "LPilotBook$Berth;", .fieldLink RX3 19 "PilotBook$Route" "isOutbound" "Z", .fieldLink RX3 33 "PilotBook$Route" "tugs" "I", .methodLink RX3 29 yX3_tugsForLength, .static yX3_tugsForLength, .initialized RX3, .code yX3_tugsForLength cX3_tugsForLength 1 (some .int)] ++ wsX30 ++ wsX40)
def wsX3_barMinute : List Cond := .code yX3_barMinute cX3_barMinute 2 (some .int) :: ([.fieldLink RX3 19 "PilotBook$Route" "isOutbound" "Z"] ++ wsX30)
def wsX3_berthMinute : List Cond := .code yX3_berthMinute cX3_berthMinute 2 (some .int) :: ([.fieldLink RX3 19 "PilotBook$Route" "isOutbound" "Z"] ++ wsX30)
def wsX4_init : List Cond := .code yX4_init cX4_init 4 none :: ([.methodLink RX4 1 objectInit, .instanceMethod objectInit, .code objectInit ⟨#[0xb1]⟩ 1 none, .fieldLink RX4 7 "PilotBook$Ship" "latest" "LPilotBook$Passage;", .fieldLink RX4 13 "PilotBook$Ship" "number" "I", .fieldLink RX4 17 "PilotBook$Ship" "length" "I", .fieldLink RX4 20 "PilotBook$Ship" "draft" "I"] ++ wsX40)
def wsX5_init : List Cond := .code yX5_init cX5_init 1 none :: ([.methodLink RX5 3 objectInit, .instanceMethod objectInit, .code objectInit ⟨#[0xb1]⟩ 1 none, .arrayClass .int, .fieldLink RX5 9 "PilotBook$Tide" "times" "[I", .fieldLink RX5 15 "PilotBook$Tide" "heights" "[I", .fieldLink RX5 18 "PilotBook$Tide" "size" "I"] ++ wsX50)
def wsX5_pointsUpTo : List Cond := .code yX5_pointsUpTo cX5_pointsUpTo 3 (some .int) :: ([.fieldLink RX5 18 "PilotBook$Tide" "size" "I", .fieldLink RX5 9 "PilotBook$Tide" "times" "[I"] ++ wsX50)
def wsX5_hasPointAt : List Cond := .code yX5_hasPointAt cX5_hasPointAt 3 (some .boolean) :: ([.fieldLink RX5 9 "PilotBook$Tide" "times" "[I", .methodLink RX5 22 yX5_pointsUpTo, .instanceMethod yX5_pointsUpTo, .selects RX5 yX5_pointsUpTo yX5_pointsUpTo, .initialized RX5, .code yX5_pointsUpTo cX5_pointsUpTo 3 (some .int), .fieldLink RX5 18 "PilotBook$Tide" "size" "I"] ++ wsX50)
def wsX5_insert : List Cond := .code yX5_insert cX5_insert 5 none :: ([.fieldLink RX5 18 "PilotBook$Tide" "size" "I", .fieldLink RX5 9 "PilotBook$Tide" "times" "[I", .fieldLink RX5 15 "PilotBook$Tide" "heights" "[I", .methodLink RX5 22 yX5_pointsUpTo, .instanceMethod yX5_pointsUpTo, .selects RX5 yX5_pointsUpTo yX5_pointsUpTo, .initialized RX5, .code yX5_pointsUpTo cX5_pointsUpTo 3 (some .int)] ++ wsX50)
def wsX5_heightAt : List Cond := .code yX5_heightAt cX5_heightAt 6 (some .int) :: ([.fieldLink RX5 18 "PilotBook$Tide" "size" "I", .fieldLink RX5 15 "PilotBook$Tide" "heights" "[I", .fieldLink RX5 9 "PilotBook$Tide" "times" "[I", .methodLink RX5 22 yX5_pointsUpTo, .instanceMethod yX5_pointsUpTo, .selects RX5 yX5_pointsUpTo yX5_pointsUpTo, .initialized RX5, .code yX5_pointsUpTo cX5_pointsUpTo 3 (some .int)] ++ wsX50)
def wsJxa1e45_init_da8c8 : List Cond := .code yJxa1e45_init_da8c8 cJxa1e45_init_da8c8 1 none :: ([.methodLink RJxa1e45 1 objectInit, .instanceMethod objectInit, .code objectInit ⟨#[0xb1]⟩ 1 none])
def wsJxc12de_init_da8c8 : List Cond := .code yJxc12de_init_da8c8 cJxc12de_init_da8c8 1 none :: ([.fieldLink RJxc12de 7 "java/util/AbstractList" "modCount" "I", .methodLink RJxc12de 1 yJxa1e45_init_da8c8, .instanceMethod yJxa1e45_init_da8c8, .initialized RJxa1e45, .code yJxa1e45_init_da8c8 cJxa1e45_init_da8c8 1 none, .methodLink RJxa1e45 1 objectInit, .instanceMethod objectInit, .code objectInit ⟨#[0xb1]⟩ 1 none] ++ wsJx4a65c0)
def wsJx4a65c_init_da8c8 : List Cond := .code yJx4a65c_init_da8c8 cJx4a65c_init_da8c8 1 none :: ([.fieldLink RJx4a65c 39 "java/util/ArrayList" "DEFAULTCAPACITY_EMPTY_ELEMENTDATA" "[Ljava/lang/Object;", .fieldLink RJx4a65c 9 "java/util/ArrayList" "elementData" "[Ljava/lang/Object;", .methodLink RJx4a65c 1 yJxc12de_init_da8c8, .instanceMethod yJxc12de_init_da8c8, .initialized RJxc12de, .code yJxc12de_init_da8c8 cJxc12de_init_da8c8 1 none, .fieldLink RJxc12de 7 "java/util/AbstractList" "modCount" "I", .methodLink RJxc12de 1 yJxa1e45_init_da8c8, .instanceMethod yJxa1e45_init_da8c8, .initialized RJxa1e45, .code yJxa1e45_init_da8c8 cJxa1e45_init_da8c8 1 none, .methodLink RJxa1e45 1 objectInit, .instanceMethod objectInit, .code objectInit ⟨#[0xb1]⟩ 1 none] ++ wsJx4a65c0)
def wsX6_init_r1 : List Cond := [Cond.methodLink RX6 3 objectInit, Cond.instanceMethod objectInit, Cond.code objectInit ⟨#[0xb1]⟩ 1 none, Cond.classLink RX6 9 RX5, Cond.instantiable RX5 3, Cond.initialized RX5, Cond.fieldLink RX6 12 "PilotBook" "tide" "LPilotBook$Tide;", Cond.classLink RX6 16 RJx4a65c, Cond.instantiable RJx4a65c 3, Cond.initialized RJx4a65c, Cond.fieldLink RX6 19 "PilotBook" "berths" "Ljava/util/ArrayList;", Cond.fieldLink RX6 23 "PilotBook" "ships" "Ljava/util/ArrayList;", Cond.fieldLink RX6 26 "PilotBook" "pilots" "Ljava/util/ArrayList;", Cond.fieldLink RX6 29 "PilotBook" "passages" "Ljava/util/ArrayList;", Cond.fieldLink RX6 32 "PilotBook" "barDepth" "I", Cond.fieldLink RX6 36 "PilotBook" "margin" "I", Cond.fieldLink RX6 39 "PilotBook" "tugs" "I", Cond.methodLink RX6 11 yX5_init, Cond.instanceMethod yX5_init, Cond.code yX5_init cX5_init 1 none, Cond.methodLink RX5 3 objectInit, Cond.arrayClass .int, Cond.fieldLink RX5 9 "PilotBook$Tide" "times" "[I", Cond.fieldLink RX5 15 "PilotBook$Tide" "heights" "[I"]
def wsX6_init_r2 : List Cond := [Cond.fieldLink RX5 18 "PilotBook$Tide" "size" "I", Cond.methodLink RX6 18 yJx4a65c_init_da8c8, Cond.instanceMethod yJx4a65c_init_da8c8, Cond.code yJx4a65c_init_da8c8 cJx4a65c_init_da8c8 1 none, Cond.fieldLink RJx4a65c 39 "java/util/ArrayList" "DEFAULTCAPACITY_EMPTY_ELEMENTDATA" "[Ljava/lang/Object;", Cond.fieldLink RJx4a65c 9 "java/util/ArrayList" "elementData" "[Ljava/lang/Object;", Cond.methodLink RJx4a65c 1 yJxc12de_init_da8c8, Cond.instanceMethod yJxc12de_init_da8c8, Cond.initialized RJxc12de, Cond.code yJxc12de_init_da8c8 cJxc12de_init_da8c8 1 none, Cond.fieldLink RJxc12de 7 "java/util/AbstractList" "modCount" "I", Cond.methodLink RJxc12de 1 yJxa1e45_init_da8c8, Cond.instanceMethod yJxa1e45_init_da8c8, Cond.initialized RJxa1e45, Cond.code yJxa1e45_init_da8c8 cJxa1e45_init_da8c8 1 none, Cond.methodLink RJxa1e45 1 objectInit]
def wsX6_init : List Cond := .code yX6_init cX6_init 1 none :: ((wsX6_init_r1 ++ wsX6_init_r2) ++ wsX50 ++ wsX60 ++ wsJx4a65c0)
def wsX6_checkRange : List Cond := .code yX6_checkRange cX6_checkRange 3 none :: ([.classLink RX6 238 "java/lang/IllegalArgumentException", .initialized "java/lang/IllegalArgumentException"] ++ (vx_atS RX6 242 "java/lang/IllegalArgumentException" ["java/lang/RuntimeException", "java/lang/Exception"]).filter goodWord)
def wsX6_checkTime : List Cond := .code yX6_checkTime cX6_checkTime 1 none :: ([.methodLink RX6 46 yX6_checkRange, .static yX6_checkRange, .initialized RX6, .code yX6_checkRange cX6_checkRange 3 none, .classLink RX6 238 "java/lang/IllegalArgumentException", .initialized "java/lang/IllegalArgumentException"] ++ (vx_atS RX6 242 "java/lang/IllegalArgumentException" ["java/lang/RuntimeException", "java/lang/Exception"]).filter goodWord)
def wsJx4a65c_isEmpty_aae02 : List Cond := .code yJx4a65c_isEmpty_aae02 cJx4a65c_isEmpty_aae02 1 (some .boolean) :: ([.fieldLink RJx4a65c 48 "java/util/ArrayList" "size" "I"] ++ wsJx4a65c0)
def wsX6_addTide_r1 : List Cond := [Cond.classLink RX6 61 "java/lang/IllegalStateException", Cond.initialized "java/lang/IllegalStateException", Cond.fieldLink RX6 29 "PilotBook" "passages" "Ljava/util/ArrayList;", Cond.fieldLink RX6 12 "PilotBook" "tide" "LPilotBook$Tide;", Cond.methodLink RX6 42 yX6_checkTime, Cond.static yX6_checkTime, Cond.initialized RX6, Cond.code yX6_checkTime cX6_checkTime 1 none, Cond.methodLink RX6 46 yX6_checkRange, Cond.static yX6_checkRange, Cond.code yX6_checkRange cX6_checkRange 3 none, Cond.classLink RX6 238 "java/lang/IllegalArgumentException", Cond.initialized "java/lang/IllegalArgumentException", Cond.methodLink RX6 50 yJx4a65c_isEmpty_aae02, Cond.instanceMethod yJx4a65c_isEmpty_aae02, Cond.selects RJx4a65c yJx4a65c_isEmpty_aae02 yJx4a65c_isEmpty_aae02, Cond.initialized RJx4a65c, Cond.code yJx4a65c_isEmpty_aae02 cJx4a65c_isEmpty_aae02 1 (some .boolean), Cond.fieldLink RJx4a65c 48 "java/util/ArrayList" "size" "I", Cond.methodLink RX6 57 yX5_hasPointAt, Cond.instanceMethod yX5_hasPointAt, Cond.selects RX5 yX5_hasPointAt yX5_hasPointAt, Cond.initialized RX5, Cond.code yX5_hasPointAt cX5_hasPointAt 3 (some .boolean)]
def wsX6_addTide_r2 : List Cond := [Cond.fieldLink RX5 9 "PilotBook$Tide" "times" "[I", Cond.methodLink RX5 22 yX5_pointsUpTo, Cond.instanceMethod yX5_pointsUpTo, Cond.selects RX5 yX5_pointsUpTo yX5_pointsUpTo, Cond.code yX5_pointsUpTo cX5_pointsUpTo 3 (some .int), Cond.fieldLink RX5 18 "PilotBook$Tide" "size" "I", Cond.methodLink RX6 68 yX5_insert, Cond.instanceMethod yX5_insert, Cond.selects RX5 yX5_insert yX5_insert, Cond.code yX5_insert cX5_insert 5 none, Cond.fieldLink RX5 15 "PilotBook$Tide" "heights" "[I"]
def wsX6_addTide : List Cond := .code yX6_addTide cX6_addTide 3 (some .int) :: ((wsX6_addTide_r1 ++ wsX6_addTide_r2) ++ wsX60 ++ wsX50 ++ wsJx4a65c0 ++ (vx_atS RX6 65 "java/lang/IllegalStateException" ["java/lang/RuntimeException", "java/lang/Exception"]).filter goodWord ++ (vx_atS RX6 242 "java/lang/IllegalArgumentException" ["java/lang/RuntimeException", "java/lang/Exception"]).filter goodWord)
def wsX6_setWater : List Cond := .code yX6_setWater cX6_setWater 4 (some .int) :: ([.fieldLink RX6 32 "PilotBook" "barDepth" "I", .fieldLink RX6 36 "PilotBook" "margin" "I", .methodLink RX6 46 yX6_checkRange, .static yX6_checkRange, .initialized RX6, .code yX6_checkRange cX6_checkRange 3 none, .classLink RX6 238 "java/lang/IllegalArgumentException", .initialized "java/lang/IllegalArgumentException"] ++ wsX60 ++ (vx_atS RX6 242 "java/lang/IllegalArgumentException" ["java/lang/RuntimeException", "java/lang/Exception"]).filter goodWord)
def wsJx4a65c_size_8abf5 : List Cond := .code yJx4a65c_size_8abf5 cJx4a65c_size_8abf5 1 (some .int) :: ([.fieldLink RJx4a65c 48 "java/util/ArrayList" "size" "I"] ++ wsJx4a65c0)
def wsX6_checkRoom : List Cond := .code yX6_checkRoom cX6_checkRoom 2 none :: ([.classLink RX6 61 "java/lang/IllegalStateException", .initialized "java/lang/IllegalStateException"] ++ (vx_atS RX6 65 "java/lang/IllegalStateException" ["java/lang/RuntimeException", "java/lang/Exception"]).filter goodWord)
def wsJ8_hugeLength_7cf53 : List Cond := .code yJ8_hugeLength_7cf53 cJ8_hugeLength_7cf53 3 (some .int) :: ([.constant RJ8 200 (2147483639)])
def wsJ8_newLength_cabcc : List Cond := .code yJ8_newLength_cabcc cJ8_newLength_cabcc 4 (some .int) :: ([.methodLink RJ8 194 Lib.Math.max.name, .static Lib.Math.max.name, .initialized "java/lang/Math", .code Lib.Math.max.name Lib.Math.max.code 2 (some .int), .constant RJ8 200 (2147483639), .methodLink RJ8 201 yJ8_hugeLength_7cf53, .static yJ8_hugeLength_7cf53, .initialized RJ8, .code yJ8_hugeLength_7cf53 cJ8_hugeLength_7cf53 3 (some .int)])
def wsJ7_copyOf_6403c : List Cond := .code yJ7_copyOf_6403c cJ7_copyOf_6403c 4 (some (.array (.object "java/lang/Object"))) :: ([.classLink RJ7 110 "[Ljava/lang/Object;", .classLink RJ7 2 "java/lang/Object", .methodLink RJ7 304 Lib.Math.min.name, .static Lib.Math.min.name, .initialized "java/lang/Math", .code Lib.Math.min.name Lib.Math.min.code 2 (some .int), .methodLink RJ7 150 arraycopyName, .native arraycopyName, .static arraycopyName, .initialized "java/lang/System"])
def wsJ7_copyOf_1904c : List Cond := .code yJ7_copyOf_1904c cJ7_copyOf_1904c 2 (some (.array (.object "java/lang/Object"))) :: ([.methodLink RJ7 86 ⟨"java/lang/Object", "getClass", "()Ljava/lang/Class;"⟩, .selects "[Ljava/lang/Object;" ⟨"java/lang/Object", "getClass", "()Ljava/lang/Class;"⟩ ⟨"java/lang/Object", "getClass", "()Ljava/lang/Class;"⟩, .instanceMethod ⟨"java/lang/Object", "getClass", "()Ljava/lang/Class;"⟩, .native ⟨"java/lang/Object", "getClass", "()Ljava/lang/Class;"⟩, .methodLink RJ7 300 yJ7_copyOf_6403c, .static yJ7_copyOf_6403c, .initialized RJ7, .code yJ7_copyOf_6403c cJ7_copyOf_6403c 4 (some (.array (.object "java/lang/Object"))), .classLink RJ7 110 "[Ljava/lang/Object;", .classLink RJ7 2 "java/lang/Object", .methodLink RJ7 304 Lib.Math.min.name, .static Lib.Math.min.name, .initialized "java/lang/Math", .code Lib.Math.min.name Lib.Math.min.code 2 (some .int), .methodLink RJ7 150 arraycopyName, .native arraycopyName, .static arraycopyName, .initialized "java/lang/System"])
def wsJx4a65c_grow_92f84_r1 : List Cond := [Cond.fieldLink RJx4a65c 9 "java/util/ArrayList" "elementData" "[Ljava/lang/Object;", Cond.fieldLink RJx4a65c 39 "java/util/ArrayList" "DEFAULTCAPACITY_EMPTY_ELEMENTDATA" "[Ljava/lang/Object;", Cond.methodLink RJx4a65c 79 Lib.Math.max.name, Cond.static Lib.Math.max.name, Cond.initialized "java/lang/Math", Cond.code Lib.Math.max.name Lib.Math.max.code 2 (some .int), Cond.classLink RJx4a65c 7 "java/lang/Object", Cond.methodLink RJx4a65c 73 yJ8_newLength_cabcc, Cond.static yJ8_newLength_cabcc, Cond.initialized RJ8, Cond.code yJ8_newLength_cabcc cJ8_newLength_cabcc 4 (some .int), Cond.methodLink RJ8 194 Lib.Math.max.name, Cond.constant RJ8 200 (2147483639), Cond.methodLink RJ8 201 yJ8_hugeLength_7cf53, Cond.static yJ8_hugeLength_7cf53, Cond.code yJ8_hugeLength_7cf53 cJ8_hugeLength_7cf53 3 (some .int), Cond.methodLink RJx4a65c 66 yJ7_copyOf_1904c, Cond.static yJ7_copyOf_1904c, Cond.initialized RJ7, Cond.code yJ7_copyOf_1904c cJ7_copyOf_1904c 2 (some (.array (.object "java/lang/Object"))), Cond.methodLink RJ7 86 ⟨"java/lang/Object", "getClass", "()Ljava/lang/Class;"⟩, Cond.selects "[Ljava/lang/Object;" ⟨"java/lang/Object", "getClass", "()Ljava/lang/Class;"⟩ ⟨"java/lang/Object", "getClass", "()Ljava/lang/Class;"⟩, Cond.instanceMethod ⟨"java/lang/Object", "getClass", "()Ljava/lang/Class;"⟩, Cond.native ⟨"java/lang/Object", "getClass", "()Ljava/lang/Class;"⟩]
def wsJx4a65c_grow_92f84_r2 : List Cond := [Cond.methodLink RJ7 300 yJ7_copyOf_6403c, Cond.static yJ7_copyOf_6403c, Cond.code yJ7_copyOf_6403c cJ7_copyOf_6403c 4 (some (.array (.object "java/lang/Object"))), Cond.classLink RJ7 110 "[Ljava/lang/Object;", Cond.classLink RJ7 2 "java/lang/Object", Cond.methodLink RJ7 304 Lib.Math.min.name, Cond.static Lib.Math.min.name, Cond.code Lib.Math.min.name Lib.Math.min.code 2 (some .int), Cond.methodLink RJ7 150 arraycopyName, Cond.native arraycopyName, Cond.static arraycopyName, Cond.initialized "java/lang/System"]
def wsJx4a65c_grow_92f84 : List Cond := .code yJx4a65c_grow_92f84 cJx4a65c_grow_92f84 4 (some (.array (.object "java/lang/Object"))) :: ((wsJx4a65c_grow_92f84_r1 ++ wsJx4a65c_grow_92f84_r2) ++ wsJx4a65c0)
def wsJx4a65c_grow_d5877_r1 : List Cond := [Cond.fieldLink RJx4a65c 48 "java/util/ArrayList" "size" "I", Cond.methodLink RJx4a65c 69 yJx4a65c_grow_92f84, Cond.instanceMethod yJx4a65c_grow_92f84, Cond.selects RJx4a65c yJx4a65c_grow_92f84 yJx4a65c_grow_92f84, Cond.initialized RJx4a65c, Cond.code yJx4a65c_grow_92f84 cJx4a65c_grow_92f84 4 (some (.array (.object "java/lang/Object"))), Cond.fieldLink RJx4a65c 9 "java/util/ArrayList" "elementData" "[Ljava/lang/Object;", Cond.fieldLink RJx4a65c 39 "java/util/ArrayList" "DEFAULTCAPACITY_EMPTY_ELEMENTDATA" "[Ljava/lang/Object;", Cond.methodLink RJx4a65c 79 Lib.Math.max.name, Cond.static Lib.Math.max.name, Cond.initialized "java/lang/Math", Cond.code Lib.Math.max.name Lib.Math.max.code 2 (some .int), Cond.classLink RJx4a65c 7 "java/lang/Object", Cond.methodLink RJx4a65c 73 yJ8_newLength_cabcc, Cond.static yJ8_newLength_cabcc, Cond.initialized RJ8, Cond.code yJ8_newLength_cabcc cJ8_newLength_cabcc 4 (some .int), Cond.methodLink RJ8 194 Lib.Math.max.name, Cond.constant RJ8 200 (2147483639), Cond.methodLink RJ8 201 yJ8_hugeLength_7cf53, Cond.static yJ8_hugeLength_7cf53, Cond.code yJ8_hugeLength_7cf53 cJ8_hugeLength_7cf53 3 (some .int), Cond.methodLink RJx4a65c 66 yJ7_copyOf_1904c, Cond.static yJ7_copyOf_1904c]
def wsJx4a65c_grow_d5877_r2 : List Cond := [Cond.initialized RJ7, Cond.code yJ7_copyOf_1904c cJ7_copyOf_1904c 2 (some (.array (.object "java/lang/Object"))), Cond.methodLink RJ7 86 ⟨"java/lang/Object", "getClass", "()Ljava/lang/Class;"⟩, Cond.selects "[Ljava/lang/Object;" ⟨"java/lang/Object", "getClass", "()Ljava/lang/Class;"⟩ ⟨"java/lang/Object", "getClass", "()Ljava/lang/Class;"⟩, Cond.instanceMethod ⟨"java/lang/Object", "getClass", "()Ljava/lang/Class;"⟩, Cond.native ⟨"java/lang/Object", "getClass", "()Ljava/lang/Class;"⟩, Cond.methodLink RJ7 300 yJ7_copyOf_6403c, Cond.static yJ7_copyOf_6403c, Cond.code yJ7_copyOf_6403c cJ7_copyOf_6403c 4 (some (.array (.object "java/lang/Object"))), Cond.classLink RJ7 110 "[Ljava/lang/Object;", Cond.classLink RJ7 2 "java/lang/Object", Cond.methodLink RJ7 304 Lib.Math.min.name, Cond.static Lib.Math.min.name, Cond.code Lib.Math.min.name Lib.Math.min.code 2 (some .int), Cond.methodLink RJ7 150 arraycopyName, Cond.native arraycopyName, Cond.static arraycopyName, Cond.initialized "java/lang/System"]
def wsJx4a65c_grow_d5877 : List Cond := .code yJx4a65c_grow_d5877 cJx4a65c_grow_d5877 1 (some (.array (.object "java/lang/Object"))) :: ((wsJx4a65c_grow_d5877_r1 ++ wsJx4a65c_grow_d5877_r2) ++ wsJx4a65c0)
def wsJx4a65c_add_72be8_r1 : List Cond := [Cond.fieldLink RJx4a65c 48 "java/util/ArrayList" "size" "I", Cond.methodLink RJx4a65c 129 yJx4a65c_grow_d5877, Cond.instanceMethod yJx4a65c_grow_d5877, Cond.selects RJx4a65c yJx4a65c_grow_d5877 yJx4a65c_grow_d5877, Cond.initialized RJx4a65c, Cond.code yJx4a65c_grow_d5877 cJx4a65c_grow_d5877 1 (some (.array (.object "java/lang/Object"))), Cond.methodLink RJx4a65c 69 yJx4a65c_grow_92f84, Cond.instanceMethod yJx4a65c_grow_92f84, Cond.selects RJx4a65c yJx4a65c_grow_92f84 yJx4a65c_grow_92f84, Cond.code yJx4a65c_grow_92f84 cJx4a65c_grow_92f84 4 (some (.array (.object "java/lang/Object"))), Cond.fieldLink RJx4a65c 9 "java/util/ArrayList" "elementData" "[Ljava/lang/Object;", Cond.fieldLink RJx4a65c 39 "java/util/ArrayList" "DEFAULTCAPACITY_EMPTY_ELEMENTDATA" "[Ljava/lang/Object;", Cond.methodLink RJx4a65c 79 Lib.Math.max.name, Cond.static Lib.Math.max.name, Cond.initialized "java/lang/Math", Cond.code Lib.Math.max.name Lib.Math.max.code 2 (some .int), Cond.classLink RJx4a65c 7 "java/lang/Object", Cond.methodLink RJx4a65c 73 yJ8_newLength_cabcc, Cond.static yJ8_newLength_cabcc, Cond.initialized RJ8, Cond.code yJ8_newLength_cabcc cJ8_newLength_cabcc 4 (some .int), Cond.methodLink RJ8 194 Lib.Math.max.name, Cond.constant RJ8 200 (2147483639), Cond.methodLink RJ8 201 yJ8_hugeLength_7cf53]
def wsJx4a65c_add_72be8_r2 : List Cond := [Cond.static yJ8_hugeLength_7cf53, Cond.code yJ8_hugeLength_7cf53 cJ8_hugeLength_7cf53 3 (some .int), Cond.methodLink RJx4a65c 66 yJ7_copyOf_1904c, Cond.static yJ7_copyOf_1904c, Cond.initialized RJ7, Cond.code yJ7_copyOf_1904c cJ7_copyOf_1904c 2 (some (.array (.object "java/lang/Object"))), Cond.methodLink RJ7 86 ⟨"java/lang/Object", "getClass", "()Ljava/lang/Class;"⟩, Cond.selects "[Ljava/lang/Object;" ⟨"java/lang/Object", "getClass", "()Ljava/lang/Class;"⟩ ⟨"java/lang/Object", "getClass", "()Ljava/lang/Class;"⟩, Cond.instanceMethod ⟨"java/lang/Object", "getClass", "()Ljava/lang/Class;"⟩, Cond.native ⟨"java/lang/Object", "getClass", "()Ljava/lang/Class;"⟩, Cond.methodLink RJ7 300 yJ7_copyOf_6403c, Cond.static yJ7_copyOf_6403c, Cond.code yJ7_copyOf_6403c cJ7_copyOf_6403c 4 (some (.array (.object "java/lang/Object"))), Cond.classLink RJ7 110 "[Ljava/lang/Object;", Cond.classLink RJ7 2 "java/lang/Object", Cond.methodLink RJ7 304 Lib.Math.min.name, Cond.static Lib.Math.min.name, Cond.code Lib.Math.min.name Lib.Math.min.code 2 (some .int), Cond.methodLink RJ7 150 arraycopyName, Cond.native arraycopyName, Cond.static arraycopyName, Cond.initialized "java/lang/System"]
def wsJx4a65c_add_72be8 : List Cond := .code yJx4a65c_add_72be8 cJx4a65c_add_72be8 4 none :: ((wsJx4a65c_add_72be8_r1 ++ wsJx4a65c_add_72be8_r2) ++ wsJx4a65c0)
def wsJx4a65c_add_9ea2d_r1 : List Cond := [Cond.fieldLink RJx4a65c 63 "java/util/ArrayList" "modCount" "I", Cond.sameField "java/util/ArrayList" "java/util/AbstractList" "modCount" "I", Cond.fieldLink RJx4a65c 9 "java/util/ArrayList" "elementData" "[Ljava/lang/Object;", Cond.fieldLink RJx4a65c 48 "java/util/ArrayList" "size" "I", Cond.methodLink RJx4a65c 131 yJx4a65c_add_72be8, Cond.instanceMethod yJx4a65c_add_72be8, Cond.selects RJx4a65c yJx4a65c_add_72be8 yJx4a65c_add_72be8, Cond.initialized RJx4a65c, Cond.code yJx4a65c_add_72be8 cJx4a65c_add_72be8 4 none, Cond.methodLink RJx4a65c 129 yJx4a65c_grow_d5877, Cond.instanceMethod yJx4a65c_grow_d5877, Cond.selects RJx4a65c yJx4a65c_grow_d5877 yJx4a65c_grow_d5877, Cond.code yJx4a65c_grow_d5877 cJx4a65c_grow_d5877 1 (some (.array (.object "java/lang/Object"))), Cond.methodLink RJx4a65c 69 yJx4a65c_grow_92f84, Cond.instanceMethod yJx4a65c_grow_92f84, Cond.selects RJx4a65c yJx4a65c_grow_92f84 yJx4a65c_grow_92f84, Cond.code yJx4a65c_grow_92f84 cJx4a65c_grow_92f84 4 (some (.array (.object "java/lang/Object"))), Cond.fieldLink RJx4a65c 39 "java/util/ArrayList" "DEFAULTCAPACITY_EMPTY_ELEMENTDATA" "[Ljava/lang/Object;", Cond.methodLink RJx4a65c 79 Lib.Math.max.name, Cond.static Lib.Math.max.name, Cond.initialized "java/lang/Math", Cond.code Lib.Math.max.name Lib.Math.max.code 2 (some .int), Cond.classLink RJx4a65c 7 "java/lang/Object", Cond.methodLink RJx4a65c 73 yJ8_newLength_cabcc]
def wsJx4a65c_add_9ea2d_r2 : List Cond := [Cond.static yJ8_newLength_cabcc, Cond.initialized RJ8, Cond.code yJ8_newLength_cabcc cJ8_newLength_cabcc 4 (some .int), Cond.methodLink RJ8 194 Lib.Math.max.name, Cond.constant RJ8 200 (2147483639), Cond.methodLink RJ8 201 yJ8_hugeLength_7cf53, Cond.static yJ8_hugeLength_7cf53, Cond.code yJ8_hugeLength_7cf53 cJ8_hugeLength_7cf53 3 (some .int), Cond.methodLink RJx4a65c 66 yJ7_copyOf_1904c, Cond.static yJ7_copyOf_1904c, Cond.initialized RJ7, Cond.code yJ7_copyOf_1904c cJ7_copyOf_1904c 2 (some (.array (.object "java/lang/Object"))), Cond.methodLink RJ7 86 ⟨"java/lang/Object", "getClass", "()Ljava/lang/Class;"⟩, Cond.selects "[Ljava/lang/Object;" ⟨"java/lang/Object", "getClass", "()Ljava/lang/Class;"⟩ ⟨"java/lang/Object", "getClass", "()Ljava/lang/Class;"⟩, Cond.instanceMethod ⟨"java/lang/Object", "getClass", "()Ljava/lang/Class;"⟩, Cond.native ⟨"java/lang/Object", "getClass", "()Ljava/lang/Class;"⟩, Cond.methodLink RJ7 300 yJ7_copyOf_6403c, Cond.static yJ7_copyOf_6403c, Cond.code yJ7_copyOf_6403c cJ7_copyOf_6403c 4 (some (.array (.object "java/lang/Object"))), Cond.classLink RJ7 110 "[Ljava/lang/Object;", Cond.classLink RJ7 2 "java/lang/Object", Cond.methodLink RJ7 304 Lib.Math.min.name, Cond.static Lib.Math.min.name, Cond.code Lib.Math.min.name Lib.Math.min.code 2 (some .int)]
def wsJx4a65c_add_9ea2d_r3 : List Cond := [Cond.methodLink RJ7 150 arraycopyName, Cond.native arraycopyName, Cond.static arraycopyName, Cond.initialized "java/lang/System"]
def wsJx4a65c_add_9ea2d : List Cond := .code yJx4a65c_add_9ea2d cJx4a65c_add_9ea2d 2 (some .boolean) :: ((wsJx4a65c_add_9ea2d_r1 ++ (wsJx4a65c_add_9ea2d_r2 ++ wsJx4a65c_add_9ea2d_r3)) ++ wsJx4a65c0)
def wsX6_addBerth_r1 : List Cond := [Cond.fieldLink RX6 19 "PilotBook" "berths" "Ljava/util/ArrayList;", Cond.classLink RX6 82 RX0, Cond.instantiable RX0 3, Cond.initialized RX0, Cond.methodLink RX6 46 yX6_checkRange, Cond.static yX6_checkRange, Cond.initialized RX6, Cond.code yX6_checkRange cX6_checkRange 3 none, Cond.classLink RX6 238 "java/lang/IllegalArgumentException", Cond.initialized "java/lang/IllegalArgumentException", Cond.methodLink RX6 76 yJx4a65c_size_8abf5, Cond.instanceMethod yJx4a65c_size_8abf5, Cond.selects RJx4a65c yJx4a65c_size_8abf5 yJx4a65c_size_8abf5, Cond.initialized RJx4a65c, Cond.code yJx4a65c_size_8abf5 cJx4a65c_size_8abf5 1 (some .int), Cond.fieldLink RJx4a65c 48 "java/util/ArrayList" "size" "I", Cond.methodLink RX6 79 yX6_checkRoom, Cond.static yX6_checkRoom, Cond.code yX6_checkRoom cX6_checkRoom 2 none, Cond.classLink RX6 61 "java/lang/IllegalStateException", Cond.initialized "java/lang/IllegalStateException", Cond.methodLink RX6 84 yX0_init, Cond.instanceMethod yX0_init, Cond.code yX0_init cX0_init 4 none]
def wsX6_addBerth_r2 : List Cond := [Cond.methodLink RX0 1 objectInit, Cond.instanceMethod objectInit, Cond.code objectInit ⟨#[0xb1]⟩ 1 none, Cond.fieldLink RX0 7 "PilotBook$Berth" "number" "I", Cond.fieldLink RX0 13 "PilotBook$Berth" "length" "I", Cond.fieldLink RX0 16 "PilotBook$Berth" "depth" "I", Cond.methodLink RX6 86 yJx4a65c_add_9ea2d, Cond.instanceMethod yJx4a65c_add_9ea2d, Cond.selects RJx4a65c yJx4a65c_add_9ea2d yJx4a65c_add_9ea2d, Cond.code yJx4a65c_add_9ea2d cJx4a65c_add_9ea2d 2 (some .boolean), Cond.fieldLink RJx4a65c 63 "java/util/ArrayList" "modCount" "I", Cond.sameField "java/util/ArrayList" "java/util/AbstractList" "modCount" "I", Cond.fieldLink RJx4a65c 9 "java/util/ArrayList" "elementData" "[Ljava/lang/Object;", Cond.methodLink RJx4a65c 131 yJx4a65c_add_72be8, Cond.instanceMethod yJx4a65c_add_72be8, Cond.selects RJx4a65c yJx4a65c_add_72be8 yJx4a65c_add_72be8, Cond.code yJx4a65c_add_72be8 cJx4a65c_add_72be8 4 none, Cond.methodLink RJx4a65c 129 yJx4a65c_grow_d5877, Cond.instanceMethod yJx4a65c_grow_d5877, Cond.selects RJx4a65c yJx4a65c_grow_d5877 yJx4a65c_grow_d5877, Cond.code yJx4a65c_grow_d5877 cJx4a65c_grow_d5877 1 (some (.array (.object "java/lang/Object"))), Cond.methodLink RJx4a65c 69 yJx4a65c_grow_92f84, Cond.instanceMethod yJx4a65c_grow_92f84, Cond.selects RJx4a65c yJx4a65c_grow_92f84 yJx4a65c_grow_92f84]
def wsX6_addBerth_r3 : List Cond := [Cond.code yJx4a65c_grow_92f84 cJx4a65c_grow_92f84 4 (some (.array (.object "java/lang/Object"))), Cond.fieldLink RJx4a65c 39 "java/util/ArrayList" "DEFAULTCAPACITY_EMPTY_ELEMENTDATA" "[Ljava/lang/Object;", Cond.methodLink RJx4a65c 79 Lib.Math.max.name, Cond.static Lib.Math.max.name, Cond.initialized "java/lang/Math", Cond.code Lib.Math.max.name Lib.Math.max.code 2 (some .int), Cond.classLink RJx4a65c 7 "java/lang/Object", Cond.methodLink RJx4a65c 73 yJ8_newLength_cabcc, Cond.static yJ8_newLength_cabcc, Cond.initialized RJ8, Cond.code yJ8_newLength_cabcc cJ8_newLength_cabcc 4 (some .int), Cond.methodLink RJ8 194 Lib.Math.max.name, Cond.constant RJ8 200 (2147483639), Cond.methodLink RJ8 201 yJ8_hugeLength_7cf53, Cond.static yJ8_hugeLength_7cf53, Cond.code yJ8_hugeLength_7cf53 cJ8_hugeLength_7cf53 3 (some .int), Cond.methodLink RJx4a65c 66 yJ7_copyOf_1904c, Cond.static yJ7_copyOf_1904c, Cond.initialized RJ7, Cond.code yJ7_copyOf_1904c cJ7_copyOf_1904c 2 (some (.array (.object "java/lang/Object"))), Cond.methodLink RJ7 86 ⟨"java/lang/Object", "getClass", "()Ljava/lang/Class;"⟩, Cond.selects "[Ljava/lang/Object;" ⟨"java/lang/Object", "getClass", "()Ljava/lang/Class;"⟩ ⟨"java/lang/Object", "getClass", "()Ljava/lang/Class;"⟩, Cond.instanceMethod ⟨"java/lang/Object", "getClass", "()Ljava/lang/Class;"⟩, Cond.native ⟨"java/lang/Object", "getClass", "()Ljava/lang/Class;"⟩]
def wsX6_addBerth_r4 : List Cond := [Cond.methodLink RJ7 300 yJ7_copyOf_6403c, Cond.static yJ7_copyOf_6403c, Cond.code yJ7_copyOf_6403c cJ7_copyOf_6403c 4 (some (.array (.object "java/lang/Object"))), Cond.classLink RJ7 110 "[Ljava/lang/Object;", Cond.classLink RJ7 2 "java/lang/Object", Cond.methodLink RJ7 304 Lib.Math.min.name, Cond.static Lib.Math.min.name, Cond.code Lib.Math.min.name Lib.Math.min.code 2 (some .int), Cond.methodLink RJ7 150 arraycopyName, Cond.native arraycopyName, Cond.static arraycopyName, Cond.initialized "java/lang/System"]
def wsX6_addBerth : List Cond := .code yX6_addBerth cX6_addBerth 4 (some .int) :: ((wsX6_addBerth_r1 ++ (wsX6_addBerth_r2 ++ (wsX6_addBerth_r3 ++ wsX6_addBerth_r4))) ++ wsX60 ++ wsX00 ++ wsJx4a65c0 ++ (vx_atS RX6 242 "java/lang/IllegalArgumentException" ["java/lang/RuntimeException", "java/lang/Exception"]).filter goodWord ++ (vx_atS RX6 65 "java/lang/IllegalStateException" ["java/lang/RuntimeException", "java/lang/Exception"]).filter goodWord)
def wsX6_addShip_r1 : List Cond := [Cond.fieldLink RX6 23 "PilotBook" "ships" "Ljava/util/ArrayList;", Cond.classLink RX6 90 RX4, Cond.instantiable RX4 4, Cond.initialized RX4, Cond.methodLink RX6 46 yX6_checkRange, Cond.static yX6_checkRange, Cond.initialized RX6, Cond.code yX6_checkRange cX6_checkRange 3 none, Cond.classLink RX6 238 "java/lang/IllegalArgumentException", Cond.initialized "java/lang/IllegalArgumentException", Cond.methodLink RX6 76 yJx4a65c_size_8abf5, Cond.instanceMethod yJx4a65c_size_8abf5, Cond.selects RJx4a65c yJx4a65c_size_8abf5 yJx4a65c_size_8abf5, Cond.initialized RJx4a65c, Cond.code yJx4a65c_size_8abf5 cJx4a65c_size_8abf5 1 (some .int), Cond.fieldLink RJx4a65c 48 "java/util/ArrayList" "size" "I", Cond.methodLink RX6 79 yX6_checkRoom, Cond.static yX6_checkRoom, Cond.code yX6_checkRoom cX6_checkRoom 2 none, Cond.classLink RX6 61 "java/lang/IllegalStateException", Cond.initialized "java/lang/IllegalStateException", Cond.methodLink RX6 92 yX4_init, Cond.instanceMethod yX4_init, Cond.code yX4_init cX4_init 4 none]
def wsX6_addShip_r2 : List Cond := [Cond.methodLink RX4 1 objectInit, Cond.instanceMethod objectInit, Cond.code objectInit ⟨#[0xb1]⟩ 1 none, Cond.fieldLink RX4 7 "PilotBook$Ship" "latest" "LPilotBook$Passage;", Cond.fieldLink RX4 13 "PilotBook$Ship" "number" "I", Cond.fieldLink RX4 17 "PilotBook$Ship" "length" "I", Cond.fieldLink RX4 20 "PilotBook$Ship" "draft" "I", Cond.methodLink RX6 86 yJx4a65c_add_9ea2d, Cond.instanceMethod yJx4a65c_add_9ea2d, Cond.selects RJx4a65c yJx4a65c_add_9ea2d yJx4a65c_add_9ea2d, Cond.code yJx4a65c_add_9ea2d cJx4a65c_add_9ea2d 2 (some .boolean), Cond.fieldLink RJx4a65c 63 "java/util/ArrayList" "modCount" "I", Cond.sameField "java/util/ArrayList" "java/util/AbstractList" "modCount" "I", Cond.fieldLink RJx4a65c 9 "java/util/ArrayList" "elementData" "[Ljava/lang/Object;", Cond.methodLink RJx4a65c 131 yJx4a65c_add_72be8, Cond.instanceMethod yJx4a65c_add_72be8, Cond.selects RJx4a65c yJx4a65c_add_72be8 yJx4a65c_add_72be8, Cond.code yJx4a65c_add_72be8 cJx4a65c_add_72be8 4 none, Cond.methodLink RJx4a65c 129 yJx4a65c_grow_d5877, Cond.instanceMethod yJx4a65c_grow_d5877, Cond.selects RJx4a65c yJx4a65c_grow_d5877 yJx4a65c_grow_d5877, Cond.code yJx4a65c_grow_d5877 cJx4a65c_grow_d5877 1 (some (.array (.object "java/lang/Object"))), Cond.methodLink RJx4a65c 69 yJx4a65c_grow_92f84, Cond.instanceMethod yJx4a65c_grow_92f84]
def wsX6_addShip_r3 : List Cond := [Cond.selects RJx4a65c yJx4a65c_grow_92f84 yJx4a65c_grow_92f84, Cond.code yJx4a65c_grow_92f84 cJx4a65c_grow_92f84 4 (some (.array (.object "java/lang/Object"))), Cond.fieldLink RJx4a65c 39 "java/util/ArrayList" "DEFAULTCAPACITY_EMPTY_ELEMENTDATA" "[Ljava/lang/Object;", Cond.methodLink RJx4a65c 79 Lib.Math.max.name, Cond.static Lib.Math.max.name, Cond.initialized "java/lang/Math", Cond.code Lib.Math.max.name Lib.Math.max.code 2 (some .int), Cond.classLink RJx4a65c 7 "java/lang/Object", Cond.methodLink RJx4a65c 73 yJ8_newLength_cabcc, Cond.static yJ8_newLength_cabcc, Cond.initialized RJ8, Cond.code yJ8_newLength_cabcc cJ8_newLength_cabcc 4 (some .int), Cond.methodLink RJ8 194 Lib.Math.max.name, Cond.constant RJ8 200 (2147483639), Cond.methodLink RJ8 201 yJ8_hugeLength_7cf53, Cond.static yJ8_hugeLength_7cf53, Cond.code yJ8_hugeLength_7cf53 cJ8_hugeLength_7cf53 3 (some .int), Cond.methodLink RJx4a65c 66 yJ7_copyOf_1904c, Cond.static yJ7_copyOf_1904c, Cond.initialized RJ7, Cond.code yJ7_copyOf_1904c cJ7_copyOf_1904c 2 (some (.array (.object "java/lang/Object"))), Cond.methodLink RJ7 86 ⟨"java/lang/Object", "getClass", "()Ljava/lang/Class;"⟩, Cond.selects "[Ljava/lang/Object;" ⟨"java/lang/Object", "getClass", "()Ljava/lang/Class;"⟩ ⟨"java/lang/Object", "getClass", "()Ljava/lang/Class;"⟩, Cond.instanceMethod ⟨"java/lang/Object", "getClass", "()Ljava/lang/Class;"⟩]
def wsX6_addShip_r4 : List Cond := [Cond.native ⟨"java/lang/Object", "getClass", "()Ljava/lang/Class;"⟩, Cond.methodLink RJ7 300 yJ7_copyOf_6403c, Cond.static yJ7_copyOf_6403c, Cond.code yJ7_copyOf_6403c cJ7_copyOf_6403c 4 (some (.array (.object "java/lang/Object"))), Cond.classLink RJ7 110 "[Ljava/lang/Object;", Cond.classLink RJ7 2 "java/lang/Object", Cond.methodLink RJ7 304 Lib.Math.min.name, Cond.static Lib.Math.min.name, Cond.code Lib.Math.min.name Lib.Math.min.code 2 (some .int), Cond.methodLink RJ7 150 arraycopyName, Cond.native arraycopyName, Cond.static arraycopyName, Cond.initialized "java/lang/System"]
def wsX6_addShip : List Cond := .code yX6_addShip cX6_addShip 4 (some .int) :: ((wsX6_addShip_r1 ++ (wsX6_addShip_r2 ++ (wsX6_addShip_r3 ++ wsX6_addShip_r4))) ++ wsX60 ++ wsX40 ++ wsJx4a65c0 ++ (vx_atS RX6 242 "java/lang/IllegalArgumentException" ["java/lang/RuntimeException", "java/lang/Exception"]).filter goodWord ++ (vx_atS RX6 65 "java/lang/IllegalStateException" ["java/lang/RuntimeException", "java/lang/Exception"]).filter goodWord)
def wsX6_addPilot_r1 : List Cond := [Cond.fieldLink RX6 26 "PilotBook" "pilots" "Ljava/util/ArrayList;", Cond.classLink RX6 103 RX2, Cond.instantiable RX2 4, Cond.initialized RX2, Cond.methodLink RX6 46 yX6_checkRange, Cond.static yX6_checkRange, Cond.initialized RX6, Cond.code yX6_checkRange cX6_checkRange 3 none, Cond.classLink RX6 238 "java/lang/IllegalArgumentException", Cond.initialized "java/lang/IllegalArgumentException", Cond.methodLink RX6 76 yJx4a65c_size_8abf5, Cond.instanceMethod yJx4a65c_size_8abf5, Cond.selects RJx4a65c yJx4a65c_size_8abf5 yJx4a65c_size_8abf5, Cond.initialized RJx4a65c, Cond.code yJx4a65c_size_8abf5 cJx4a65c_size_8abf5 1 (some .int), Cond.fieldLink RJx4a65c 48 "java/util/ArrayList" "size" "I", Cond.methodLink RX6 79 yX6_checkRoom, Cond.static yX6_checkRoom, Cond.code yX6_checkRoom cX6_checkRoom 2 none, Cond.classLink RX6 61 "java/lang/IllegalStateException", Cond.initialized "java/lang/IllegalStateException", Cond.methodLink RX6 105 yX2_init, Cond.instanceMethod yX2_init, Cond.code yX2_init cX2_init 4 none]
def wsX6_addPilot_r2 : List Cond := [Cond.methodLink RX2 3 objectInit, Cond.instanceMethod objectInit, Cond.code objectInit ⟨#[0xb1]⟩ 1 none, Cond.fieldLink RX2 9 "PilotBook$Pilot" "latest" "LPilotBook$Passage;", Cond.fieldLink RX2 15 "PilotBook$Pilot" "number" "I", Cond.fieldLink RX2 19 "PilotBook$Pilot" "limit" "I", Cond.fieldLink RX2 22 "PilotBook$Pilot" "startsInPort" "Z", Cond.methodLink RX6 86 yJx4a65c_add_9ea2d, Cond.instanceMethod yJx4a65c_add_9ea2d, Cond.selects RJx4a65c yJx4a65c_add_9ea2d yJx4a65c_add_9ea2d, Cond.code yJx4a65c_add_9ea2d cJx4a65c_add_9ea2d 2 (some .boolean), Cond.fieldLink RJx4a65c 63 "java/util/ArrayList" "modCount" "I", Cond.sameField "java/util/ArrayList" "java/util/AbstractList" "modCount" "I", Cond.fieldLink RJx4a65c 9 "java/util/ArrayList" "elementData" "[Ljava/lang/Object;", Cond.methodLink RJx4a65c 131 yJx4a65c_add_72be8, Cond.instanceMethod yJx4a65c_add_72be8, Cond.selects RJx4a65c yJx4a65c_add_72be8 yJx4a65c_add_72be8, Cond.code yJx4a65c_add_72be8 cJx4a65c_add_72be8 4 none, Cond.methodLink RJx4a65c 129 yJx4a65c_grow_d5877, Cond.instanceMethod yJx4a65c_grow_d5877, Cond.selects RJx4a65c yJx4a65c_grow_d5877 yJx4a65c_grow_d5877, Cond.code yJx4a65c_grow_d5877 cJx4a65c_grow_d5877 1 (some (.array (.object "java/lang/Object"))), Cond.methodLink RJx4a65c 69 yJx4a65c_grow_92f84, Cond.instanceMethod yJx4a65c_grow_92f84]
def wsX6_addPilot_r3 : List Cond := [Cond.selects RJx4a65c yJx4a65c_grow_92f84 yJx4a65c_grow_92f84, Cond.code yJx4a65c_grow_92f84 cJx4a65c_grow_92f84 4 (some (.array (.object "java/lang/Object"))), Cond.fieldLink RJx4a65c 39 "java/util/ArrayList" "DEFAULTCAPACITY_EMPTY_ELEMENTDATA" "[Ljava/lang/Object;", Cond.methodLink RJx4a65c 79 Lib.Math.max.name, Cond.static Lib.Math.max.name, Cond.initialized "java/lang/Math", Cond.code Lib.Math.max.name Lib.Math.max.code 2 (some .int), Cond.classLink RJx4a65c 7 "java/lang/Object", Cond.methodLink RJx4a65c 73 yJ8_newLength_cabcc, Cond.static yJ8_newLength_cabcc, Cond.initialized RJ8, Cond.code yJ8_newLength_cabcc cJ8_newLength_cabcc 4 (some .int), Cond.methodLink RJ8 194 Lib.Math.max.name, Cond.constant RJ8 200 (2147483639), Cond.methodLink RJ8 201 yJ8_hugeLength_7cf53, Cond.static yJ8_hugeLength_7cf53, Cond.code yJ8_hugeLength_7cf53 cJ8_hugeLength_7cf53 3 (some .int), Cond.methodLink RJx4a65c 66 yJ7_copyOf_1904c, Cond.static yJ7_copyOf_1904c, Cond.initialized RJ7, Cond.code yJ7_copyOf_1904c cJ7_copyOf_1904c 2 (some (.array (.object "java/lang/Object"))), Cond.methodLink RJ7 86 ⟨"java/lang/Object", "getClass", "()Ljava/lang/Class;"⟩, Cond.selects "[Ljava/lang/Object;" ⟨"java/lang/Object", "getClass", "()Ljava/lang/Class;"⟩ ⟨"java/lang/Object", "getClass", "()Ljava/lang/Class;"⟩, Cond.instanceMethod ⟨"java/lang/Object", "getClass", "()Ljava/lang/Class;"⟩]
def wsX6_addPilot_r4 : List Cond := [Cond.native ⟨"java/lang/Object", "getClass", "()Ljava/lang/Class;"⟩, Cond.methodLink RJ7 300 yJ7_copyOf_6403c, Cond.static yJ7_copyOf_6403c, Cond.code yJ7_copyOf_6403c cJ7_copyOf_6403c 4 (some (.array (.object "java/lang/Object"))), Cond.classLink RJ7 110 "[Ljava/lang/Object;", Cond.classLink RJ7 2 "java/lang/Object", Cond.methodLink RJ7 304 Lib.Math.min.name, Cond.static Lib.Math.min.name, Cond.code Lib.Math.min.name Lib.Math.min.code 2 (some .int), Cond.methodLink RJ7 150 arraycopyName, Cond.native arraycopyName, Cond.static arraycopyName, Cond.initialized "java/lang/System"]
def wsX6_addPilot : List Cond := .code yX6_addPilot cX6_addPilot 4 (some .int) :: ((wsX6_addPilot_r1 ++ (wsX6_addPilot_r2 ++ (wsX6_addPilot_r3 ++ wsX6_addPilot_r4))) ++ wsX60 ++ wsX20 ++ wsJx4a65c0 ++ (vx_atS RX6 242 "java/lang/IllegalArgumentException" ["java/lang/RuntimeException", "java/lang/Exception"]).filter goodWord ++ (vx_atS RX6 65 "java/lang/IllegalStateException" ["java/lang/RuntimeException", "java/lang/Exception"]).filter goodWord)
def wsX6_setTugs : List Cond := .code yX6_setTugs cX6_setTugs 3 (some .int) :: ([.classLink RX6 61 "java/lang/IllegalStateException", .initialized "java/lang/IllegalStateException", .fieldLink RX6 29 "PilotBook" "passages" "Ljava/util/ArrayList;", .fieldLink RX6 39 "PilotBook" "tugs" "I", .methodLink RX6 46 yX6_checkRange, .static yX6_checkRange, .initialized RX6, .code yX6_checkRange cX6_checkRange 3 none, .classLink RX6 238 "java/lang/IllegalArgumentException", .initialized "java/lang/IllegalArgumentException", .methodLink RX6 50 yJx4a65c_isEmpty_aae02, .instanceMethod yJx4a65c_isEmpty_aae02, .selects RJx4a65c yJx4a65c_isEmpty_aae02 yJx4a65c_isEmpty_aae02, .initialized RJx4a65c, .code yJx4a65c_isEmpty_aae02 cJx4a65c_isEmpty_aae02 1 (some .boolean), .fieldLink RJx4a65c 48 "java/util/ArrayList" "size" "I"] ++ wsX60 ++ wsJx4a65c0 ++ (vx_atS RX6 65 "java/lang/IllegalStateException" ["java/lang/RuntimeException", "java/lang/Exception"]).filter goodWord ++ (vx_atS RX6 242 "java/lang/IllegalArgumentException" ["java/lang/RuntimeException", "java/lang/Exception"]).filter goodWord)
def wsX6_count : List Cond := .code yX6_count cX6_count 2 (some .int) :: ([.classLink RX6 110 "java/lang/IndexOutOfBoundsException", .initialized "java/lang/IndexOutOfBoundsException", .fieldLink RX6 12 "PilotBook" "tide" "LPilotBook$Tide;", .fieldLink RX6 19 "PilotBook" "berths" "Ljava/util/ArrayList;", .fieldLink RX6 23 "PilotBook" "ships" "Ljava/util/ArrayList;", .fieldLink RX6 26 "PilotBook" "pilots" "Ljava/util/ArrayList;", .fieldLink RX6 29 "PilotBook" "passages" "Ljava/util/ArrayList;", .methodLink RX6 76 yJx4a65c_size_8abf5, .instanceMethod yJx4a65c_size_8abf5, .selects RJx4a65c yJx4a65c_size_8abf5 yJx4a65c_size_8abf5, .initialized RJx4a65c, .code yJx4a65c_size_8abf5 cJx4a65c_size_8abf5 1 (some .int), .fieldLink RJx4a65c 48 "java/util/ArrayList" "size" "I"] ++ wsX60 ++ wsX50 ++ wsJx4a65c0 ++ (vx_atS RX6 114 "java/lang/IndexOutOfBoundsException" ["java/lang/RuntimeException", "java/lang/Exception"]).filter goodWord)
def wsX6_checkNumber : List Cond := .code yX6_checkNumber cX6_checkNumber 2 none :: ([.classLink RX6 110 "java/lang/IndexOutOfBoundsException", .initialized "java/lang/IndexOutOfBoundsException"] ++ (vx_atS RX6 114 "java/lang/IndexOutOfBoundsException" ["java/lang/RuntimeException", "java/lang/Exception"]).filter goodWord)
def wsX6_checkCall : List Cond := .code yX6_checkCall cX6_checkCall 4 none :: ([.fieldLink RX6 23 "PilotBook" "ships" "Ljava/util/ArrayList;", .fieldLink RX6 19 "PilotBook" "berths" "Ljava/util/ArrayList;", .methodLink RX6 76 yJx4a65c_size_8abf5, .instanceMethod yJx4a65c_size_8abf5, .selects RJx4a65c yJx4a65c_size_8abf5 yJx4a65c_size_8abf5, .initialized RJx4a65c, .code yJx4a65c_size_8abf5 cJx4a65c_size_8abf5 1 (some .int), .fieldLink RJx4a65c 48 "java/util/ArrayList" "size" "I", .methodLink RX6 93 yX6_checkNumber, .static yX6_checkNumber, .initialized RX6, .code yX6_checkNumber cX6_checkNumber 2 none, .classLink RX6 110 "java/lang/IndexOutOfBoundsException", .initialized "java/lang/IndexOutOfBoundsException", .methodLink RX6 42 yX6_checkTime, .static yX6_checkTime, .code yX6_checkTime cX6_checkTime 1 none, .methodLink RX6 46 yX6_checkRange, .static yX6_checkRange, .code yX6_checkRange cX6_checkRange 3 none, .classLink RX6 238 "java/lang/IllegalArgumentException", .initialized "java/lang/IllegalArgumentException"] ++ wsX60 ++ wsJx4a65c0 ++ (vx_atS RX6 114 "java/lang/IndexOutOfBoundsException" ["java/lang/RuntimeException", "java/lang/Exception"]).filter goodWord ++ (vx_atS RX6 242 "java/lang/IllegalArgumentException" ["java/lang/RuntimeException", "java/lang/Exception"]).filter goodWord)
def wsJ3_checkIndex_8e157 : List Cond := .code yJ3_checkIndex_8e157 cJ3_checkIndex_8e157 3 (some .int) :: ([])
def wsJ15_checkIndex_7cf53 : List Cond := .code yJ15_checkIndex_7cf53 cJ15_checkIndex_7cf53 2 (some .int) :: ([.methodLink RJ15 105 yJ3_checkIndex_8e157, .static yJ3_checkIndex_8e157, .initialized RJ3, .code yJ3_checkIndex_8e157 cJ3_checkIndex_8e157 3 (some .int)])
def wsJx4a65c_elementData_915e3 : List Cond := .code yJx4a65c_elementData_915e3 cJx4a65c_elementData_915e3 2 (some (.object "java/lang/Object")) :: ([.fieldLink RJx4a65c 9 "java/util/ArrayList" "elementData" "[Ljava/lang/Object;"] ++ wsJx4a65c0)
def wsJx4a65c_get_915e3 : List Cond := .code yJx4a65c_get_915e3 cJx4a65c_get_915e3 2 (some (.object "java/lang/Object")) :: ([.fieldLink RJx4a65c 48 "java/util/ArrayList" "size" "I", .methodLink RJx4a65c 118 yJ15_checkIndex_7cf53, .static yJ15_checkIndex_7cf53, .initialized RJ15, .code yJ15_checkIndex_7cf53 cJ15_checkIndex_7cf53 2 (some .int), .methodLink RJ15 105 yJ3_checkIndex_8e157, .static yJ3_checkIndex_8e157, .initialized RJ3, .code yJ3_checkIndex_8e157 cJ3_checkIndex_8e157 3 (some .int), .methodLink RJx4a65c 123 yJx4a65c_elementData_915e3, .instanceMethod yJx4a65c_elementData_915e3, .selects RJx4a65c yJx4a65c_elementData_915e3 yJx4a65c_elementData_915e3, .initialized RJx4a65c, .code yJx4a65c_elementData_915e3 cJx4a65c_elementData_915e3 2 (some (.object "java/lang/Object")), .fieldLink RJx4a65c 9 "java/util/ArrayList" "elementData" "[Ljava/lang/Object;"] ++ wsJx4a65c0)
def wsX6_routeOf_r1 : List Cond := [Cond.fieldLink RX6 23 "PilotBook" "ships" "Ljava/util/ArrayList;", Cond.classLink RX6 90 "PilotBook$Ship", Cond.classLink RX6 140 RX3, Cond.instantiable RX3 4, Cond.initialized RX3, Cond.fieldLink RX6 19 "PilotBook" "berths" "Ljava/util/ArrayList;", Cond.classLink RX6 82 "PilotBook$Berth", Cond.methodLink RX6 96 yJx4a65c_get_915e3, Cond.instanceMethod yJx4a65c_get_915e3, Cond.selects RJx4a65c yJx4a65c_get_915e3 yJx4a65c_get_915e3, Cond.initialized RJx4a65c, Cond.code yJx4a65c_get_915e3 cJx4a65c_get_915e3 2 (some (.object "java/lang/Object")), Cond.fieldLink RJx4a65c 48 "java/util/ArrayList" "size" "I", Cond.methodLink RJx4a65c 118 yJ15_checkIndex_7cf53, Cond.static yJ15_checkIndex_7cf53, Cond.initialized RJ15, Cond.code yJ15_checkIndex_7cf53 cJ15_checkIndex_7cf53 2 (some .int), Cond.methodLink RJ15 105 yJ3_checkIndex_8e157, Cond.static yJ3_checkIndex_8e157, Cond.initialized RJ3, Cond.code yJ3_checkIndex_8e157 cJ3_checkIndex_8e157 3 (some .int), Cond.methodLink RJx4a65c 123 yJx4a65c_elementData_915e3, Cond.instanceMethod yJx4a65c_elementData_915e3, Cond.selects RJx4a65c yJx4a65c_elementData_915e3 yJx4a65c_elementData_915e3]
def wsX6_routeOf_r2 : List Cond := [Cond.code yJx4a65c_elementData_915e3 cJx4a65c_elementData_915e3 2 (some (.object "java/lang/Object")), Cond.fieldLink RJx4a65c 9 "java/util/ArrayList" "elementData" "[Ljava/lang/Object;", Cond.methodLink RX6 252 yX3_init, Cond.instanceMethod yX3_init, Cond.code yX3_init cX3_init 4 none, Cond.methodLink RX3 3 objectInit, Cond.instanceMethod objectInit, Cond.code objectInit ⟨#[0xb1]⟩ 1 none, Cond.fieldLink RX3 9 "PilotBook$Route" "ship" "LPilotBook$Ship;", Cond.fieldLink RX3 15 "PilotBook$Route" "berth" "LPilotBook$Berth;", Cond.fieldLink RX3 19 "PilotBook$Route" "isOutbound" "Z", Cond.fieldLink RX3 33 "PilotBook$Route" "tugs" "I", Cond.methodLink RX3 29 yX3_tugsForLength, Cond.static yX3_tugsForLength, Cond.code yX3_tugsForLength cX3_tugsForLength 1 (some .int)]
def wsX6_routeOf : List Cond := .code yX6_routeOf cX6_routeOf 6 (some (.object "PilotBook$Route")) :: ((wsX6_routeOf_r1 ++ wsX6_routeOf_r2) ++ wsX60 ++ wsX40 ++ wsX10 ++ wsX30 ++ wsJx4a65c0)
def wsX6_freeFrom_r1 : List Cond := [Cond.fieldLink RX6 29 "PilotBook" "passages" "Ljava/util/ArrayList;", Cond.classLink RX6 134 "PilotBook$Passage", Cond.methodLink RX6 263 Lib.Math.max.name, Cond.static Lib.Math.max.name, Cond.initialized "java/lang/Math", Cond.code Lib.Math.max.name Lib.Math.max.code 2 (some .int), Cond.methodLink RX6 150 yX1_end, Cond.instanceMethod yX1_end, Cond.selects RX1 yX1_end yX1_end, Cond.initialized RX1, Cond.code yX1_end cX1_end 1 (some .int), Cond.fieldLink RX1 19 "PilotBook$Passage" "begin" "I", Cond.methodLink RX6 76 yJx4a65c_size_8abf5, Cond.instanceMethod yJx4a65c_size_8abf5, Cond.selects RJx4a65c yJx4a65c_size_8abf5 yJx4a65c_size_8abf5, Cond.initialized RJx4a65c, Cond.code yJx4a65c_size_8abf5 cJx4a65c_size_8abf5 1 (some .int), Cond.fieldLink RJx4a65c 48 "java/util/ArrayList" "size" "I", Cond.methodLink RX6 96 yJx4a65c_get_915e3, Cond.instanceMethod yJx4a65c_get_915e3, Cond.selects RJx4a65c yJx4a65c_get_915e3 yJx4a65c_get_915e3, Cond.code yJx4a65c_get_915e3 cJx4a65c_get_915e3 2 (some (.object "java/lang/Object")), Cond.methodLink RJx4a65c 118 yJ15_checkIndex_7cf53, Cond.static yJ15_checkIndex_7cf53]
def wsX6_freeFrom_r2 : List Cond := [Cond.initialized RJ15, Cond.code yJ15_checkIndex_7cf53 cJ15_checkIndex_7cf53 2 (some .int), Cond.methodLink RJ15 105 yJ3_checkIndex_8e157, Cond.static yJ3_checkIndex_8e157, Cond.initialized RJ3, Cond.code yJ3_checkIndex_8e157 cJ3_checkIndex_8e157 3 (some .int), Cond.methodLink RJx4a65c 123 yJx4a65c_elementData_915e3, Cond.instanceMethod yJx4a65c_elementData_915e3, Cond.selects RJx4a65c yJx4a65c_elementData_915e3 yJx4a65c_elementData_915e3, Cond.code yJx4a65c_elementData_915e3 cJx4a65c_elementData_915e3 2 (some (.object "java/lang/Object")), Cond.fieldLink RJx4a65c 9 "java/util/ArrayList" "elementData" "[Ljava/lang/Object;"]
def wsX6_freeFrom : List Cond := .code yX6_freeFrom cX6_freeFrom 6 (some .int) :: ((wsX6_freeFrom_r1 ++ wsX6_freeFrom_r2) ++ wsX30 ++ wsX40 ++ wsX60 ++ wsX10 ++ wsX00 ++ wsJx4a65c0)
def wsX6_hasClearWay_r1 : List Cond := [Cond.fieldLink RX6 29 "PilotBook" "passages" "Ljava/util/ArrayList;", Cond.classLink RX6 134 "PilotBook$Passage", Cond.methodLink RX6 282 Lib.Math.abs.name, Cond.static Lib.Math.abs.name, Cond.initialized "java/lang/Math", Cond.code Lib.Math.abs.name Lib.Math.abs.code 1 (some .int), Cond.methodLink RX6 76 yJx4a65c_size_8abf5, Cond.instanceMethod yJx4a65c_size_8abf5, Cond.selects RJx4a65c yJx4a65c_size_8abf5 yJx4a65c_size_8abf5, Cond.initialized RJx4a65c, Cond.code yJx4a65c_size_8abf5 cJx4a65c_size_8abf5 1 (some .int), Cond.fieldLink RJx4a65c 48 "java/util/ArrayList" "size" "I", Cond.methodLink RX6 96 yJx4a65c_get_915e3, Cond.instanceMethod yJx4a65c_get_915e3, Cond.selects RJx4a65c yJx4a65c_get_915e3 yJx4a65c_get_915e3, Cond.code yJx4a65c_get_915e3 cJx4a65c_get_915e3 2 (some (.object "java/lang/Object")), Cond.methodLink RJx4a65c 118 yJ15_checkIndex_7cf53, Cond.static yJ15_checkIndex_7cf53, Cond.initialized RJ15, Cond.code yJ15_checkIndex_7cf53 cJ15_checkIndex_7cf53 2 (some .int), Cond.methodLink RJ15 105 yJ3_checkIndex_8e157, Cond.static yJ3_checkIndex_8e157, Cond.initialized RJ3, Cond.code yJ3_checkIndex_8e157 cJ3_checkIndex_8e157 3 (some .int)]
def wsX6_hasClearWay_r2 : List Cond := [Cond.methodLink RJx4a65c 123 yJx4a65c_elementData_915e3, Cond.instanceMethod yJx4a65c_elementData_915e3, Cond.selects RJx4a65c yJx4a65c_elementData_915e3 yJx4a65c_elementData_915e3, Cond.code yJx4a65c_elementData_915e3 cJx4a65c_elementData_915e3 2 (some (.object "java/lang/Object")), Cond.fieldLink RJx4a65c 9 "java/util/ArrayList" "elementData" "[Ljava/lang/Object;"]
def wsX6_hasClearWay : List Cond := .code yX6_hasClearWay cX6_hasClearWay 6 (some .boolean) :: ((wsX6_hasClearWay_r1 ++ wsX6_hasClearWay_r2) ++ wsX60 ++ wsX10 ++ wsX30 ++ wsJx4a65c0)
def wsX6_waterNeed : List Cond := .code yX6_waterNeed cX6_waterNeed 2 (some .int) :: ([.fieldLink RX6 36 "PilotBook" "margin" "I"] ++ wsX40 ++ wsX60)
def wsX6_hasWater : List Cond := .code yX6_hasWater cX6_hasWater 4 (some .boolean) :: ([.fieldLink RX6 12 "PilotBook" "tide" "LPilotBook$Tide;", .methodLink RX6 72 yX5_heightAt, .instanceMethod yX5_heightAt, .selects RX5 yX5_heightAt yX5_heightAt, .initialized RX5, .code yX5_heightAt cX5_heightAt 6 (some .int), .fieldLink RX5 18 "PilotBook$Tide" "size" "I", .fieldLink RX5 15 "PilotBook$Tide" "heights" "[I", .fieldLink RX5 9 "PilotBook$Tide" "times" "[I", .methodLink RX5 22 yX5_pointsUpTo, .instanceMethod yX5_pointsUpTo, .selects RX5 yX5_pointsUpTo yX5_pointsUpTo, .code yX5_pointsUpTo cX5_pointsUpTo 3 (some .int), .methodLink RX6 115 yX6_waterNeed, .instanceMethod yX6_waterNeed, .selects RX6 yX6_waterNeed yX6_waterNeed, .initialized RX6, .code yX6_waterNeed cX6_waterNeed 2 (some .int), .fieldLink RX6 36 "PilotBook" "margin" "I"] ++ wsX60 ++ wsX50 ++ wsX40)
def wsX6_tugsInUse_r1 : List Cond := [Cond.fieldLink RX6 29 "PilotBook" "passages" "Ljava/util/ArrayList;", Cond.classLink RX6 134 "PilotBook$Passage", Cond.methodLink RX6 76 yJx4a65c_size_8abf5, Cond.instanceMethod yJx4a65c_size_8abf5, Cond.selects RJx4a65c yJx4a65c_size_8abf5 yJx4a65c_size_8abf5, Cond.initialized RJx4a65c, Cond.code yJx4a65c_size_8abf5 cJx4a65c_size_8abf5 1 (some .int), Cond.fieldLink RJx4a65c 48 "java/util/ArrayList" "size" "I", Cond.methodLink RX6 96 yJx4a65c_get_915e3, Cond.instanceMethod yJx4a65c_get_915e3, Cond.selects RJx4a65c yJx4a65c_get_915e3 yJx4a65c_get_915e3, Cond.code yJx4a65c_get_915e3 cJx4a65c_get_915e3 2 (some (.object "java/lang/Object")), Cond.methodLink RJx4a65c 118 yJ15_checkIndex_7cf53, Cond.static yJ15_checkIndex_7cf53, Cond.initialized RJ15, Cond.code yJ15_checkIndex_7cf53 cJ15_checkIndex_7cf53 2 (some .int), Cond.methodLink RJ15 105 yJ3_checkIndex_8e157, Cond.static yJ3_checkIndex_8e157, Cond.initialized RJ3, Cond.code yJ3_checkIndex_8e157 cJ3_checkIndex_8e157 3 (some .int), Cond.methodLink RJx4a65c 123 yJx4a65c_elementData_915e3, Cond.instanceMethod yJx4a65c_elementData_915e3, Cond.selects RJx4a65c yJx4a65c_elementData_915e3 yJx4a65c_elementData_915e3, Cond.code yJx4a65c_elementData_915e3 cJx4a65c_elementData_915e3 2 (some (.object "java/lang/Object"))]
def wsX6_tugsInUse_r2 : List Cond := [Cond.fieldLink RJx4a65c 9 "java/util/ArrayList" "elementData" "[Ljava/lang/Object;", Cond.methodLink RX6 288 yX1_tugsFrom, Cond.instanceMethod yX1_tugsFrom, Cond.selects RX1 yX1_tugsFrom yX1_tugsFrom, Cond.initialized RX1, Cond.code yX1_tugsFrom cX1_tugsFrom 1 (some .int), Cond.fieldLink RX1 9 "PilotBook$Passage" "route" "LPilotBook$Route;", Cond.fieldLink RX1 19 "PilotBook$Passage" "begin" "I", Cond.methodLink RX1 54 yX3_tugsFrom, Cond.instanceMethod yX3_tugsFrom, Cond.selects RX3 yX3_tugsFrom yX3_tugsFrom, Cond.initialized RX3, Cond.code yX3_tugsFrom cX3_tugsFrom 2 (some .int), Cond.fieldLink RX3 19 "PilotBook$Route" "isOutbound" "Z"]
def wsX6_tugsInUse : List Cond := .code yX6_tugsInUse cX6_tugsInUse 6 (some .int) :: ((wsX6_tugsInUse_r1 ++ wsX6_tugsInUse_r2) ++ wsX60 ++ wsX10 ++ wsX30 ++ wsJx4a65c0)
def wsX6_hasTugs_r1 : List Cond := [Cond.fieldLink RX6 39 "PilotBook" "tugs" "I", Cond.fieldLink RX6 29 "PilotBook" "passages" "Ljava/util/ArrayList;", Cond.classLink RX6 134 "PilotBook$Passage", Cond.methodLink RX6 285 yX3_tugsFrom, Cond.instanceMethod yX3_tugsFrom, Cond.selects RX3 yX3_tugsFrom yX3_tugsFrom, Cond.initialized RX3, Cond.code yX3_tugsFrom cX3_tugsFrom 2 (some .int), Cond.fieldLink RX3 19 "PilotBook$Route" "isOutbound" "Z", Cond.methodLink RX6 218 yX6_tugsInUse, Cond.instanceMethod yX6_tugsInUse, Cond.selects RX6 yX6_tugsInUse yX6_tugsInUse, Cond.initialized RX6, Cond.code yX6_tugsInUse cX6_tugsInUse 6 (some .int), Cond.methodLink RX6 76 yJx4a65c_size_8abf5, Cond.instanceMethod yJx4a65c_size_8abf5, Cond.selects RJx4a65c yJx4a65c_size_8abf5 yJx4a65c_size_8abf5, Cond.initialized RJx4a65c, Cond.code yJx4a65c_size_8abf5 cJx4a65c_size_8abf5 1 (some .int), Cond.fieldLink RJx4a65c 48 "java/util/ArrayList" "size" "I", Cond.methodLink RX6 96 yJx4a65c_get_915e3, Cond.instanceMethod yJx4a65c_get_915e3, Cond.selects RJx4a65c yJx4a65c_get_915e3 yJx4a65c_get_915e3, Cond.code yJx4a65c_get_915e3 cJx4a65c_get_915e3 2 (some (.object "java/lang/Object"))]
def wsX6_hasTugs_r2 : List Cond := [Cond.methodLink RJx4a65c 118 yJ15_checkIndex_7cf53, Cond.static yJ15_checkIndex_7cf53, Cond.initialized RJ15, Cond.code yJ15_checkIndex_7cf53 cJ15_checkIndex_7cf53 2 (some .int), Cond.methodLink RJ15 105 yJ3_checkIndex_8e157, Cond.static yJ3_checkIndex_8e157, Cond.initialized RJ3, Cond.code yJ3_checkIndex_8e157 cJ3_checkIndex_8e157 3 (some .int), Cond.methodLink RJx4a65c 123 yJx4a65c_elementData_915e3, Cond.instanceMethod yJx4a65c_elementData_915e3, Cond.selects RJx4a65c yJx4a65c_elementData_915e3 yJx4a65c_elementData_915e3, Cond.code yJx4a65c_elementData_915e3 cJx4a65c_elementData_915e3 2 (some (.object "java/lang/Object")), Cond.fieldLink RJx4a65c 9 "java/util/ArrayList" "elementData" "[Ljava/lang/Object;", Cond.methodLink RX6 288 yX1_tugsFrom, Cond.instanceMethod yX1_tugsFrom, Cond.selects RX1 yX1_tugsFrom yX1_tugsFrom, Cond.initialized RX1, Cond.code yX1_tugsFrom cX1_tugsFrom 1 (some .int), Cond.fieldLink RX1 9 "PilotBook$Passage" "route" "LPilotBook$Route;", Cond.fieldLink RX1 19 "PilotBook$Passage" "begin" "I", Cond.methodLink RX1 54 yX3_tugsFrom]
def wsX6_hasTugs : List Cond := .code yX6_hasTugs cX6_hasTugs 7 (some .boolean) :: ((wsX6_hasTugs_r1 ++ wsX6_hasTugs_r2) ++ wsX60 ++ wsX30 ++ wsX10 ++ wsJx4a65c0)
def wsX6_pilotFor_r1 : List Cond := [Cond.fieldLink RX6 26 "PilotBook" "pilots" "Ljava/util/ArrayList;", Cond.classLink RX6 103 "PilotBook$Pilot", Cond.methodLink RX6 76 yJx4a65c_size_8abf5, Cond.instanceMethod yJx4a65c_size_8abf5, Cond.selects RJx4a65c yJx4a65c_size_8abf5 yJx4a65c_size_8abf5, Cond.initialized RJx4a65c, Cond.code yJx4a65c_size_8abf5 cJx4a65c_size_8abf5 1 (some .int), Cond.fieldLink RJx4a65c 48 "java/util/ArrayList" "size" "I", Cond.methodLink RX6 96 yJx4a65c_get_915e3, Cond.instanceMethod yJx4a65c_get_915e3, Cond.selects RJx4a65c yJx4a65c_get_915e3 yJx4a65c_get_915e3, Cond.code yJx4a65c_get_915e3 cJx4a65c_get_915e3 2 (some (.object "java/lang/Object")), Cond.methodLink RJx4a65c 118 yJ15_checkIndex_7cf53, Cond.static yJ15_checkIndex_7cf53, Cond.initialized RJ15, Cond.code yJ15_checkIndex_7cf53 cJ15_checkIndex_7cf53 2 (some .int), Cond.methodLink RJ15 105 yJ3_checkIndex_8e157, Cond.static yJ3_checkIndex_8e157, Cond.initialized RJ3, Cond.code yJ3_checkIndex_8e157 cJ3_checkIndex_8e157 3 (some .int), Cond.methodLink RJx4a65c 123 yJx4a65c_elementData_915e3, Cond.instanceMethod yJx4a65c_elementData_915e3, Cond.selects RJx4a65c yJx4a65c_elementData_915e3 yJx4a65c_elementData_915e3, Cond.code yJx4a65c_elementData_915e3 cJx4a65c_elementData_915e3 2 (some (.object "java/lang/Object"))]
def wsX6_pilotFor_r2 : List Cond := [Cond.fieldLink RJx4a65c 9 "java/util/ArrayList" "elementData" "[Ljava/lang/Object;", Cond.methodLink RX6 290 yX2_canTake, Cond.instanceMethod yX2_canTake, Cond.selects RX2 yX2_canTake yX2_canTake, Cond.initialized RX2, Cond.code yX2_canTake cX2_canTake 4 (some .boolean), Cond.fieldLink RX2 19 "PilotBook$Pilot" "limit" "I", Cond.fieldLink RX2 9 "PilotBook$Pilot" "latest" "LPilotBook$Passage;", Cond.methodLink RX2 50 yX2_endsInPort, Cond.instanceMethod yX2_endsInPort, Cond.selects RX2 yX2_endsInPort yX2_endsInPort, Cond.code yX2_endsInPort cX2_endsInPort 1 (some .boolean), Cond.fieldLink RX2 22 "PilotBook$Pilot" "startsInPort" "Z", Cond.methodLink RX2 37 yX1_end, Cond.instanceMethod yX1_end, Cond.selects RX1 yX1_end yX1_end, Cond.initialized RX1, Cond.code yX1_end cX1_end 1 (some .int), Cond.fieldLink RX1 19 "PilotBook$Passage" "begin" "I", Cond.methodLink RX6 293 yX2_latestEnd, Cond.instanceMethod yX2_latestEnd, Cond.selects RX2 yX2_latestEnd yX2_latestEnd, Cond.code yX2_latestEnd cX2_latestEnd 1 (some .int)]
def wsX6_pilotFor : List Cond := .code yX6_pilotFor cX6_pilotFor 6 (some (.object "PilotBook$Pilot")) :: ((wsX6_pilotFor_r1 ++ wsX6_pilotFor_r2) ++ wsX60 ++ wsJx4a65c0 ++ wsX20 ++ wsX30 ++ wsX40 ++ wsX10)
def wsX6_canBegin_r1 : List Cond := [Cond.fieldLink RX6 32 "PilotBook" "barDepth" "I", Cond.methodLink RX6 270 yX6_hasClearWay, Cond.instanceMethod yX6_hasClearWay, Cond.selects RX6 yX6_hasClearWay yX6_hasClearWay, Cond.initialized RX6, Cond.code yX6_hasClearWay cX6_hasClearWay 6 (some .boolean), Cond.fieldLink RX6 29 "PilotBook" "passages" "Ljava/util/ArrayList;", Cond.classLink RX6 134 "PilotBook$Passage", Cond.methodLink RX6 282 Lib.Math.abs.name, Cond.static Lib.Math.abs.name, Cond.initialized "java/lang/Math", Cond.code Lib.Math.abs.name Lib.Math.abs.code 1 (some .int), Cond.methodLink RX6 76 yJx4a65c_size_8abf5, Cond.instanceMethod yJx4a65c_size_8abf5, Cond.selects RJx4a65c yJx4a65c_size_8abf5 yJx4a65c_size_8abf5, Cond.initialized RJx4a65c, Cond.code yJx4a65c_size_8abf5 cJx4a65c_size_8abf5 1 (some .int), Cond.fieldLink RJx4a65c 48 "java/util/ArrayList" "size" "I", Cond.methodLink RX6 96 yJx4a65c_get_915e3, Cond.instanceMethod yJx4a65c_get_915e3, Cond.selects RJx4a65c yJx4a65c_get_915e3 yJx4a65c_get_915e3, Cond.code yJx4a65c_get_915e3 cJx4a65c_get_915e3 2 (some (.object "java/lang/Object")), Cond.methodLink RJx4a65c 118 yJ15_checkIndex_7cf53, Cond.static yJ15_checkIndex_7cf53]
def wsX6_canBegin_r2 : List Cond := [Cond.initialized RJ15, Cond.code yJ15_checkIndex_7cf53 cJ15_checkIndex_7cf53 2 (some .int), Cond.methodLink RJ15 105 yJ3_checkIndex_8e157, Cond.static yJ3_checkIndex_8e157, Cond.initialized RJ3, Cond.code yJ3_checkIndex_8e157 cJ3_checkIndex_8e157 3 (some .int), Cond.methodLink RJx4a65c 123 yJx4a65c_elementData_915e3, Cond.instanceMethod yJx4a65c_elementData_915e3, Cond.selects RJx4a65c yJx4a65c_elementData_915e3 yJx4a65c_elementData_915e3, Cond.code yJx4a65c_elementData_915e3 cJx4a65c_elementData_915e3 2 (some (.object "java/lang/Object")), Cond.fieldLink RJx4a65c 9 "java/util/ArrayList" "elementData" "[Ljava/lang/Object;", Cond.methodLink RX6 273 yX3_barMinute, Cond.instanceMethod yX3_barMinute, Cond.selects RX3 yX3_barMinute yX3_barMinute, Cond.initialized RX3, Cond.code yX3_barMinute cX3_barMinute 2 (some .int), Cond.fieldLink RX3 19 "PilotBook$Route" "isOutbound" "Z", Cond.methodLink RX6 125 yX6_hasWater, Cond.instanceMethod yX6_hasWater, Cond.selects RX6 yX6_hasWater yX6_hasWater, Cond.code yX6_hasWater cX6_hasWater 4 (some .boolean), Cond.fieldLink RX6 12 "PilotBook" "tide" "LPilotBook$Tide;", Cond.methodLink RX6 72 yX5_heightAt, Cond.instanceMethod yX5_heightAt]
def wsX6_canBegin_r3 : List Cond := [Cond.selects RX5 yX5_heightAt yX5_heightAt, Cond.initialized RX5, Cond.code yX5_heightAt cX5_heightAt 6 (some .int), Cond.fieldLink RX5 18 "PilotBook$Tide" "size" "I", Cond.fieldLink RX5 15 "PilotBook$Tide" "heights" "[I", Cond.fieldLink RX5 9 "PilotBook$Tide" "times" "[I", Cond.methodLink RX5 22 yX5_pointsUpTo, Cond.instanceMethod yX5_pointsUpTo, Cond.selects RX5 yX5_pointsUpTo yX5_pointsUpTo, Cond.code yX5_pointsUpTo cX5_pointsUpTo 3 (some .int), Cond.methodLink RX6 115 yX6_waterNeed, Cond.instanceMethod yX6_waterNeed, Cond.selects RX6 yX6_waterNeed yX6_waterNeed, Cond.code yX6_waterNeed cX6_waterNeed 2 (some .int), Cond.fieldLink RX6 36 "PilotBook" "margin" "I", Cond.methodLink RX6 276 yX3_berthMinute, Cond.instanceMethod yX3_berthMinute, Cond.selects RX3 yX3_berthMinute yX3_berthMinute, Cond.code yX3_berthMinute cX3_berthMinute 2 (some .int), Cond.methodLink RX6 279 yX6_hasTugs, Cond.instanceMethod yX6_hasTugs, Cond.selects RX6 yX6_hasTugs yX6_hasTugs, Cond.code yX6_hasTugs cX6_hasTugs 7 (some .boolean), Cond.fieldLink RX6 39 "PilotBook" "tugs" "I"]
def wsX6_canBegin_r4 : List Cond := [Cond.methodLink RX6 285 yX3_tugsFrom, Cond.instanceMethod yX3_tugsFrom, Cond.selects RX3 yX3_tugsFrom yX3_tugsFrom, Cond.code yX3_tugsFrom cX3_tugsFrom 2 (some .int), Cond.methodLink RX6 218 yX6_tugsInUse, Cond.instanceMethod yX6_tugsInUse, Cond.selects RX6 yX6_tugsInUse yX6_tugsInUse, Cond.code yX6_tugsInUse cX6_tugsInUse 6 (some .int), Cond.methodLink RX6 288 yX1_tugsFrom, Cond.instanceMethod yX1_tugsFrom, Cond.selects RX1 yX1_tugsFrom yX1_tugsFrom, Cond.initialized RX1, Cond.code yX1_tugsFrom cX1_tugsFrom 1 (some .int), Cond.fieldLink RX1 9 "PilotBook$Passage" "route" "LPilotBook$Route;", Cond.fieldLink RX1 19 "PilotBook$Passage" "begin" "I", Cond.methodLink RX1 54 yX3_tugsFrom, Cond.methodLink RX6 170 yX6_pilotFor, Cond.instanceMethod yX6_pilotFor, Cond.selects RX6 yX6_pilotFor yX6_pilotFor, Cond.code yX6_pilotFor cX6_pilotFor 6 (some (.object "PilotBook$Pilot")), Cond.fieldLink RX6 26 "PilotBook" "pilots" "Ljava/util/ArrayList;", Cond.classLink RX6 103 "PilotBook$Pilot", Cond.methodLink RX6 290 yX2_canTake, Cond.instanceMethod yX2_canTake]
def wsX6_canBegin_r5 : List Cond := [Cond.selects RX2 yX2_canTake yX2_canTake, Cond.initialized RX2, Cond.code yX2_canTake cX2_canTake 4 (some .boolean), Cond.fieldLink RX2 19 "PilotBook$Pilot" "limit" "I", Cond.fieldLink RX2 9 "PilotBook$Pilot" "latest" "LPilotBook$Passage;", Cond.methodLink RX2 50 yX2_endsInPort, Cond.instanceMethod yX2_endsInPort, Cond.selects RX2 yX2_endsInPort yX2_endsInPort, Cond.code yX2_endsInPort cX2_endsInPort 1 (some .boolean), Cond.fieldLink RX2 22 "PilotBook$Pilot" "startsInPort" "Z", Cond.methodLink RX2 37 yX1_end, Cond.instanceMethod yX1_end, Cond.selects RX1 yX1_end yX1_end, Cond.code yX1_end cX1_end 1 (some .int), Cond.methodLink RX6 293 yX2_latestEnd, Cond.instanceMethod yX2_latestEnd, Cond.selects RX2 yX2_latestEnd yX2_latestEnd, Cond.code yX2_latestEnd cX2_latestEnd 1 (some .int)]
def wsX6_canBegin : List Cond := .code yX6_canBegin cX6_canBegin 3 (some .boolean) :: ((wsX6_canBegin_r1 ++ (wsX6_canBegin_r2 ++ (wsX6_canBegin_r3 ++ (wsX6_canBegin_r4 ++ wsX6_canBegin_r5)))) ++ wsX30 ++ wsX60 ++ wsX00 ++ wsX10 ++ wsJx4a65c0 ++ wsX50 ++ wsX40 ++ wsX20)
def wsX6_firstBegin_r1 : List Cond := [Cond.methodLink RX6 263 Lib.Math.max.name, Cond.static Lib.Math.max.name, Cond.initialized "java/lang/Math", Cond.code Lib.Math.max.name Lib.Math.max.code 2 (some .int), Cond.methodLink RX6 259 yX6_freeFrom, Cond.instanceMethod yX6_freeFrom, Cond.selects RX6 yX6_freeFrom yX6_freeFrom, Cond.initialized RX6, Cond.code yX6_freeFrom cX6_freeFrom 6 (some .int), Cond.fieldLink RX6 29 "PilotBook" "passages" "Ljava/util/ArrayList;", Cond.classLink RX6 134 "PilotBook$Passage", Cond.methodLink RX6 150 yX1_end, Cond.instanceMethod yX1_end, Cond.selects RX1 yX1_end yX1_end, Cond.initialized RX1, Cond.code yX1_end cX1_end 1 (some .int), Cond.fieldLink RX1 19 "PilotBook$Passage" "begin" "I", Cond.methodLink RX6 76 yJx4a65c_size_8abf5, Cond.instanceMethod yJx4a65c_size_8abf5, Cond.selects RJx4a65c yJx4a65c_size_8abf5 yJx4a65c_size_8abf5, Cond.initialized RJx4a65c, Cond.code yJx4a65c_size_8abf5 cJx4a65c_size_8abf5 1 (some .int), Cond.fieldLink RJx4a65c 48 "java/util/ArrayList" "size" "I", Cond.methodLink RX6 96 yJx4a65c_get_915e3]
def wsX6_firstBegin_r2 : List Cond := [Cond.instanceMethod yJx4a65c_get_915e3, Cond.selects RJx4a65c yJx4a65c_get_915e3 yJx4a65c_get_915e3, Cond.code yJx4a65c_get_915e3 cJx4a65c_get_915e3 2 (some (.object "java/lang/Object")), Cond.methodLink RJx4a65c 118 yJ15_checkIndex_7cf53, Cond.static yJ15_checkIndex_7cf53, Cond.initialized RJ15, Cond.code yJ15_checkIndex_7cf53 cJ15_checkIndex_7cf53 2 (some .int), Cond.methodLink RJ15 105 yJ3_checkIndex_8e157, Cond.static yJ3_checkIndex_8e157, Cond.initialized RJ3, Cond.code yJ3_checkIndex_8e157 cJ3_checkIndex_8e157 3 (some .int), Cond.methodLink RJx4a65c 123 yJx4a65c_elementData_915e3, Cond.instanceMethod yJx4a65c_elementData_915e3, Cond.selects RJx4a65c yJx4a65c_elementData_915e3 yJx4a65c_elementData_915e3, Cond.code yJx4a65c_elementData_915e3 cJx4a65c_elementData_915e3 2 (some (.object "java/lang/Object")), Cond.fieldLink RJx4a65c 9 "java/util/ArrayList" "elementData" "[Ljava/lang/Object;", Cond.methodLink RX6 266 yX6_canBegin, Cond.instanceMethod yX6_canBegin, Cond.selects RX6 yX6_canBegin yX6_canBegin, Cond.code yX6_canBegin cX6_canBegin 3 (some .boolean), Cond.fieldLink RX6 32 "PilotBook" "barDepth" "I", Cond.methodLink RX6 270 yX6_hasClearWay, Cond.instanceMethod yX6_hasClearWay, Cond.selects RX6 yX6_hasClearWay yX6_hasClearWay]
def wsX6_firstBegin_r3 : List Cond := [Cond.code yX6_hasClearWay cX6_hasClearWay 6 (some .boolean), Cond.methodLink RX6 282 Lib.Math.abs.name, Cond.static Lib.Math.abs.name, Cond.code Lib.Math.abs.name Lib.Math.abs.code 1 (some .int), Cond.methodLink RX6 273 yX3_barMinute, Cond.instanceMethod yX3_barMinute, Cond.selects RX3 yX3_barMinute yX3_barMinute, Cond.initialized RX3, Cond.code yX3_barMinute cX3_barMinute 2 (some .int), Cond.fieldLink RX3 19 "PilotBook$Route" "isOutbound" "Z", Cond.methodLink RX6 125 yX6_hasWater, Cond.instanceMethod yX6_hasWater, Cond.selects RX6 yX6_hasWater yX6_hasWater, Cond.code yX6_hasWater cX6_hasWater 4 (some .boolean), Cond.fieldLink RX6 12 "PilotBook" "tide" "LPilotBook$Tide;", Cond.methodLink RX6 72 yX5_heightAt, Cond.instanceMethod yX5_heightAt, Cond.selects RX5 yX5_heightAt yX5_heightAt, Cond.initialized RX5, Cond.code yX5_heightAt cX5_heightAt 6 (some .int), Cond.fieldLink RX5 18 "PilotBook$Tide" "size" "I", Cond.fieldLink RX5 15 "PilotBook$Tide" "heights" "[I", Cond.fieldLink RX5 9 "PilotBook$Tide" "times" "[I", Cond.methodLink RX5 22 yX5_pointsUpTo]
def wsX6_firstBegin_r4 : List Cond := [Cond.instanceMethod yX5_pointsUpTo, Cond.selects RX5 yX5_pointsUpTo yX5_pointsUpTo, Cond.code yX5_pointsUpTo cX5_pointsUpTo 3 (some .int), Cond.methodLink RX6 115 yX6_waterNeed, Cond.instanceMethod yX6_waterNeed, Cond.selects RX6 yX6_waterNeed yX6_waterNeed, Cond.code yX6_waterNeed cX6_waterNeed 2 (some .int), Cond.fieldLink RX6 36 "PilotBook" "margin" "I", Cond.methodLink RX6 276 yX3_berthMinute, Cond.instanceMethod yX3_berthMinute, Cond.selects RX3 yX3_berthMinute yX3_berthMinute, Cond.code yX3_berthMinute cX3_berthMinute 2 (some .int), Cond.methodLink RX6 279 yX6_hasTugs, Cond.instanceMethod yX6_hasTugs, Cond.selects RX6 yX6_hasTugs yX6_hasTugs, Cond.code yX6_hasTugs cX6_hasTugs 7 (some .boolean), Cond.fieldLink RX6 39 "PilotBook" "tugs" "I", Cond.methodLink RX6 285 yX3_tugsFrom, Cond.instanceMethod yX3_tugsFrom, Cond.selects RX3 yX3_tugsFrom yX3_tugsFrom, Cond.code yX3_tugsFrom cX3_tugsFrom 2 (some .int), Cond.methodLink RX6 218 yX6_tugsInUse, Cond.instanceMethod yX6_tugsInUse, Cond.selects RX6 yX6_tugsInUse yX6_tugsInUse]
def wsX6_firstBegin_r5 : List Cond := [Cond.code yX6_tugsInUse cX6_tugsInUse 6 (some .int), Cond.methodLink RX6 288 yX1_tugsFrom, Cond.instanceMethod yX1_tugsFrom, Cond.selects RX1 yX1_tugsFrom yX1_tugsFrom, Cond.code yX1_tugsFrom cX1_tugsFrom 1 (some .int), Cond.fieldLink RX1 9 "PilotBook$Passage" "route" "LPilotBook$Route;", Cond.methodLink RX1 54 yX3_tugsFrom, Cond.methodLink RX6 170 yX6_pilotFor, Cond.instanceMethod yX6_pilotFor, Cond.selects RX6 yX6_pilotFor yX6_pilotFor, Cond.code yX6_pilotFor cX6_pilotFor 6 (some (.object "PilotBook$Pilot")), Cond.fieldLink RX6 26 "PilotBook" "pilots" "Ljava/util/ArrayList;", Cond.classLink RX6 103 "PilotBook$Pilot", Cond.methodLink RX6 290 yX2_canTake, Cond.instanceMethod yX2_canTake, Cond.selects RX2 yX2_canTake yX2_canTake, Cond.initialized RX2, Cond.code yX2_canTake cX2_canTake 4 (some .boolean), Cond.fieldLink RX2 19 "PilotBook$Pilot" "limit" "I", Cond.fieldLink RX2 9 "PilotBook$Pilot" "latest" "LPilotBook$Passage;", Cond.methodLink RX2 50 yX2_endsInPort, Cond.instanceMethod yX2_endsInPort, Cond.selects RX2 yX2_endsInPort yX2_endsInPort, Cond.code yX2_endsInPort cX2_endsInPort 1 (some .boolean)]
def wsX6_firstBegin_r6 : List Cond := [Cond.fieldLink RX2 22 "PilotBook$Pilot" "startsInPort" "Z", Cond.methodLink RX2 37 yX1_end, Cond.methodLink RX6 293 yX2_latestEnd, Cond.instanceMethod yX2_latestEnd, Cond.selects RX2 yX2_latestEnd yX2_latestEnd, Cond.code yX2_latestEnd cX2_latestEnd 1 (some .int)]
def wsX6_firstBegin : List Cond := .code yX6_firstBegin cX6_firstBegin 5 (some .int) :: ((wsX6_firstBegin_r1 ++ (wsX6_firstBegin_r2 ++ (wsX6_firstBegin_r3 ++ (wsX6_firstBegin_r4 ++ (wsX6_firstBegin_r5 ++ wsX6_firstBegin_r6))))) ++ wsX30 ++ wsX40 ++ wsX00 ++ wsX60 ++ wsX10 ++ wsJx4a65c0 ++ wsX50 ++ wsX20)
def wsX6_earliest_r1 : List Cond := [Cond.methodLink RX6 119 yX6_checkCall, Cond.instanceMethod yX6_checkCall, Cond.selects RX6 yX6_checkCall yX6_checkCall, Cond.initialized RX6, Cond.code yX6_checkCall cX6_checkCall 4 none, Cond.fieldLink RX6 23 "PilotBook" "ships" "Ljava/util/ArrayList;", Cond.fieldLink RX6 19 "PilotBook" "berths" "Ljava/util/ArrayList;", Cond.methodLink RX6 76 yJx4a65c_size_8abf5, Cond.instanceMethod yJx4a65c_size_8abf5, Cond.selects RJx4a65c yJx4a65c_size_8abf5 yJx4a65c_size_8abf5, Cond.initialized RJx4a65c, Cond.code yJx4a65c_size_8abf5 cJx4a65c_size_8abf5 1 (some .int), Cond.fieldLink RJx4a65c 48 "java/util/ArrayList" "size" "I", Cond.methodLink RX6 93 yX6_checkNumber, Cond.static yX6_checkNumber, Cond.code yX6_checkNumber cX6_checkNumber 2 none, Cond.classLink RX6 110 "java/lang/IndexOutOfBoundsException", Cond.initialized "java/lang/IndexOutOfBoundsException", Cond.methodLink RX6 42 yX6_checkTime, Cond.static yX6_checkTime, Cond.code yX6_checkTime cX6_checkTime 1 none, Cond.methodLink RX6 46 yX6_checkRange, Cond.static yX6_checkRange, Cond.code yX6_checkRange cX6_checkRange 3 none]
def wsX6_earliest_r2 : List Cond := [Cond.classLink RX6 238 "java/lang/IllegalArgumentException", Cond.initialized "java/lang/IllegalArgumentException", Cond.methodLink RX6 160 yX6_routeOf, Cond.instanceMethod yX6_routeOf, Cond.selects RX6 yX6_routeOf yX6_routeOf, Cond.code yX6_routeOf cX6_routeOf 6 (some (.object "PilotBook$Route")), Cond.classLink RX6 90 "PilotBook$Ship", Cond.classLink RX6 140 RX3, Cond.instantiable RX3 4, Cond.initialized RX3, Cond.classLink RX6 82 "PilotBook$Berth", Cond.methodLink RX6 96 yJx4a65c_get_915e3, Cond.instanceMethod yJx4a65c_get_915e3, Cond.selects RJx4a65c yJx4a65c_get_915e3 yJx4a65c_get_915e3, Cond.code yJx4a65c_get_915e3 cJx4a65c_get_915e3 2 (some (.object "java/lang/Object")), Cond.methodLink RJx4a65c 118 yJ15_checkIndex_7cf53, Cond.static yJ15_checkIndex_7cf53, Cond.initialized RJ15, Cond.code yJ15_checkIndex_7cf53 cJ15_checkIndex_7cf53 2 (some .int), Cond.methodLink RJ15 105 yJ3_checkIndex_8e157, Cond.static yJ3_checkIndex_8e157, Cond.initialized RJ3, Cond.code yJ3_checkIndex_8e157 cJ3_checkIndex_8e157 3 (some .int), Cond.methodLink RJx4a65c 123 yJx4a65c_elementData_915e3]
def wsX6_earliest_r3 : List Cond := [Cond.instanceMethod yJx4a65c_elementData_915e3, Cond.selects RJx4a65c yJx4a65c_elementData_915e3 yJx4a65c_elementData_915e3, Cond.code yJx4a65c_elementData_915e3 cJx4a65c_elementData_915e3 2 (some (.object "java/lang/Object")), Cond.fieldLink RJx4a65c 9 "java/util/ArrayList" "elementData" "[Ljava/lang/Object;", Cond.methodLink RX6 252 yX3_init, Cond.instanceMethod yX3_init, Cond.code yX3_init cX3_init 4 none, Cond.methodLink RX3 3 objectInit, Cond.instanceMethod objectInit, Cond.code objectInit ⟨#[0xb1]⟩ 1 none, Cond.fieldLink RX3 9 "PilotBook$Route" "ship" "LPilotBook$Ship;", Cond.fieldLink RX3 15 "PilotBook$Route" "berth" "LPilotBook$Berth;", Cond.fieldLink RX3 19 "PilotBook$Route" "isOutbound" "Z", Cond.fieldLink RX3 33 "PilotBook$Route" "tugs" "I", Cond.methodLink RX3 29 yX3_tugsForLength, Cond.static yX3_tugsForLength, Cond.code yX3_tugsForLength cX3_tugsForLength 1 (some .int), Cond.methodLink RX6 164 yX6_firstBegin, Cond.instanceMethod yX6_firstBegin, Cond.selects RX6 yX6_firstBegin yX6_firstBegin, Cond.code yX6_firstBegin cX6_firstBegin 5 (some .int), Cond.methodLink RX6 263 Lib.Math.max.name, Cond.static Lib.Math.max.name, Cond.initialized "java/lang/Math"]
def wsX6_earliest_r4 : List Cond := [Cond.code Lib.Math.max.name Lib.Math.max.code 2 (some .int), Cond.methodLink RX6 259 yX6_freeFrom, Cond.instanceMethod yX6_freeFrom, Cond.selects RX6 yX6_freeFrom yX6_freeFrom, Cond.code yX6_freeFrom cX6_freeFrom 6 (some .int), Cond.fieldLink RX6 29 "PilotBook" "passages" "Ljava/util/ArrayList;", Cond.classLink RX6 134 "PilotBook$Passage", Cond.methodLink RX6 150 yX1_end, Cond.instanceMethod yX1_end, Cond.selects RX1 yX1_end yX1_end, Cond.initialized RX1, Cond.code yX1_end cX1_end 1 (some .int), Cond.fieldLink RX1 19 "PilotBook$Passage" "begin" "I", Cond.methodLink RX6 266 yX6_canBegin, Cond.instanceMethod yX6_canBegin, Cond.selects RX6 yX6_canBegin yX6_canBegin, Cond.code yX6_canBegin cX6_canBegin 3 (some .boolean), Cond.fieldLink RX6 32 "PilotBook" "barDepth" "I", Cond.methodLink RX6 270 yX6_hasClearWay, Cond.instanceMethod yX6_hasClearWay, Cond.selects RX6 yX6_hasClearWay yX6_hasClearWay, Cond.code yX6_hasClearWay cX6_hasClearWay 6 (some .boolean), Cond.methodLink RX6 282 Lib.Math.abs.name, Cond.static Lib.Math.abs.name]
def wsX6_earliest_r5 : List Cond := [Cond.code Lib.Math.abs.name Lib.Math.abs.code 1 (some .int), Cond.methodLink RX6 273 yX3_barMinute, Cond.instanceMethod yX3_barMinute, Cond.selects RX3 yX3_barMinute yX3_barMinute, Cond.code yX3_barMinute cX3_barMinute 2 (some .int), Cond.methodLink RX6 125 yX6_hasWater, Cond.instanceMethod yX6_hasWater, Cond.selects RX6 yX6_hasWater yX6_hasWater, Cond.code yX6_hasWater cX6_hasWater 4 (some .boolean), Cond.fieldLink RX6 12 "PilotBook" "tide" "LPilotBook$Tide;", Cond.methodLink RX6 72 yX5_heightAt, Cond.instanceMethod yX5_heightAt, Cond.selects RX5 yX5_heightAt yX5_heightAt, Cond.initialized RX5, Cond.code yX5_heightAt cX5_heightAt 6 (some .int), Cond.fieldLink RX5 18 "PilotBook$Tide" "size" "I", Cond.fieldLink RX5 15 "PilotBook$Tide" "heights" "[I", Cond.fieldLink RX5 9 "PilotBook$Tide" "times" "[I", Cond.methodLink RX5 22 yX5_pointsUpTo, Cond.instanceMethod yX5_pointsUpTo, Cond.selects RX5 yX5_pointsUpTo yX5_pointsUpTo, Cond.code yX5_pointsUpTo cX5_pointsUpTo 3 (some .int), Cond.methodLink RX6 115 yX6_waterNeed, Cond.instanceMethod yX6_waterNeed]
def wsX6_earliest_r6 : List Cond := [Cond.selects RX6 yX6_waterNeed yX6_waterNeed, Cond.code yX6_waterNeed cX6_waterNeed 2 (some .int), Cond.fieldLink RX6 36 "PilotBook" "margin" "I", Cond.methodLink RX6 276 yX3_berthMinute, Cond.instanceMethod yX3_berthMinute, Cond.selects RX3 yX3_berthMinute yX3_berthMinute, Cond.code yX3_berthMinute cX3_berthMinute 2 (some .int), Cond.methodLink RX6 279 yX6_hasTugs, Cond.instanceMethod yX6_hasTugs, Cond.selects RX6 yX6_hasTugs yX6_hasTugs, Cond.code yX6_hasTugs cX6_hasTugs 7 (some .boolean), Cond.fieldLink RX6 39 "PilotBook" "tugs" "I", Cond.methodLink RX6 285 yX3_tugsFrom, Cond.instanceMethod yX3_tugsFrom, Cond.selects RX3 yX3_tugsFrom yX3_tugsFrom, Cond.code yX3_tugsFrom cX3_tugsFrom 2 (some .int), Cond.methodLink RX6 218 yX6_tugsInUse, Cond.instanceMethod yX6_tugsInUse, Cond.selects RX6 yX6_tugsInUse yX6_tugsInUse, Cond.code yX6_tugsInUse cX6_tugsInUse 6 (some .int), Cond.methodLink RX6 288 yX1_tugsFrom, Cond.instanceMethod yX1_tugsFrom, Cond.selects RX1 yX1_tugsFrom yX1_tugsFrom, Cond.code yX1_tugsFrom cX1_tugsFrom 1 (some .int)]
def wsX6_earliest_r7 : List Cond := [Cond.fieldLink RX1 9 "PilotBook$Passage" "route" "LPilotBook$Route;", Cond.methodLink RX1 54 yX3_tugsFrom, Cond.methodLink RX6 170 yX6_pilotFor, Cond.instanceMethod yX6_pilotFor, Cond.selects RX6 yX6_pilotFor yX6_pilotFor, Cond.code yX6_pilotFor cX6_pilotFor 6 (some (.object "PilotBook$Pilot")), Cond.fieldLink RX6 26 "PilotBook" "pilots" "Ljava/util/ArrayList;", Cond.classLink RX6 103 "PilotBook$Pilot", Cond.methodLink RX6 290 yX2_canTake, Cond.instanceMethod yX2_canTake, Cond.selects RX2 yX2_canTake yX2_canTake, Cond.initialized RX2, Cond.code yX2_canTake cX2_canTake 4 (some .boolean), Cond.fieldLink RX2 19 "PilotBook$Pilot" "limit" "I", Cond.fieldLink RX2 9 "PilotBook$Pilot" "latest" "LPilotBook$Passage;", Cond.methodLink RX2 50 yX2_endsInPort, Cond.instanceMethod yX2_endsInPort, Cond.selects RX2 yX2_endsInPort yX2_endsInPort, Cond.code yX2_endsInPort cX2_endsInPort 1 (some .boolean), Cond.fieldLink RX2 22 "PilotBook$Pilot" "startsInPort" "Z", Cond.methodLink RX2 37 yX1_end, Cond.methodLink RX6 293 yX2_latestEnd, Cond.instanceMethod yX2_latestEnd, Cond.selects RX2 yX2_latestEnd yX2_latestEnd]
def wsX6_earliest_r8 : List Cond := [Cond.code yX2_latestEnd cX2_latestEnd 1 (some .int)]
def wsX6_earliest : List Cond := .code yX6_earliest cX6_earliest 5 (some .int) :: ((wsX6_earliest_r1 ++ (wsX6_earliest_r2 ++ (wsX6_earliest_r3 ++ (wsX6_earliest_r4 ++ (wsX6_earliest_r5 ++ (wsX6_earliest_r6 ++ (wsX6_earliest_r7 ++ wsX6_earliest_r8))))))) ++ wsX60 ++ wsJx4a65c0 ++ wsX40 ++ wsX10 ++ wsX30 ++ wsX00 ++ wsX50 ++ wsX20 ++ (vx_atS RX6 114 "java/lang/IndexOutOfBoundsException" ["java/lang/RuntimeException", "java/lang/Exception"]).filter goodWord ++ (vx_atS RX6 242 "java/lang/IllegalArgumentException" ["java/lang/RuntimeException", "java/lang/Exception"]).filter goodWord)
def wsX6_enter_r1 : List Cond := [Cond.fieldLink RX6 29 "PilotBook" "passages" "Ljava/util/ArrayList;", Cond.methodLink RX6 86 yJx4a65c_add_9ea2d, Cond.instanceMethod yJx4a65c_add_9ea2d, Cond.selects RJx4a65c yJx4a65c_add_9ea2d yJx4a65c_add_9ea2d, Cond.initialized RJx4a65c, Cond.code yJx4a65c_add_9ea2d cJx4a65c_add_9ea2d 2 (some .boolean), Cond.fieldLink RJx4a65c 63 "java/util/ArrayList" "modCount" "I", Cond.sameField "java/util/ArrayList" "java/util/AbstractList" "modCount" "I", Cond.fieldLink RJx4a65c 9 "java/util/ArrayList" "elementData" "[Ljava/lang/Object;", Cond.fieldLink RJx4a65c 48 "java/util/ArrayList" "size" "I", Cond.methodLink RJx4a65c 131 yJx4a65c_add_72be8, Cond.instanceMethod yJx4a65c_add_72be8, Cond.selects RJx4a65c yJx4a65c_add_72be8 yJx4a65c_add_72be8, Cond.code yJx4a65c_add_72be8 cJx4a65c_add_72be8 4 none, Cond.methodLink RJx4a65c 129 yJx4a65c_grow_d5877, Cond.instanceMethod yJx4a65c_grow_d5877, Cond.selects RJx4a65c yJx4a65c_grow_d5877 yJx4a65c_grow_d5877, Cond.code yJx4a65c_grow_d5877 cJx4a65c_grow_d5877 1 (some (.array (.object "java/lang/Object"))), Cond.methodLink RJx4a65c 69 yJx4a65c_grow_92f84, Cond.instanceMethod yJx4a65c_grow_92f84, Cond.selects RJx4a65c yJx4a65c_grow_92f84 yJx4a65c_grow_92f84, Cond.code yJx4a65c_grow_92f84 cJx4a65c_grow_92f84 4 (some (.array (.object "java/lang/Object"))), Cond.fieldLink RJx4a65c 39 "java/util/ArrayList" "DEFAULTCAPACITY_EMPTY_ELEMENTDATA" "[Ljava/lang/Object;", Cond.methodLink RJx4a65c 79 Lib.Math.max.name]
def wsX6_enter_r2 : List Cond := [Cond.static Lib.Math.max.name, Cond.initialized "java/lang/Math", Cond.code Lib.Math.max.name Lib.Math.max.code 2 (some .int), Cond.classLink RJx4a65c 7 "java/lang/Object", Cond.methodLink RJx4a65c 73 yJ8_newLength_cabcc, Cond.static yJ8_newLength_cabcc, Cond.initialized RJ8, Cond.code yJ8_newLength_cabcc cJ8_newLength_cabcc 4 (some .int), Cond.methodLink RJ8 194 Lib.Math.max.name, Cond.constant RJ8 200 (2147483639), Cond.methodLink RJ8 201 yJ8_hugeLength_7cf53, Cond.static yJ8_hugeLength_7cf53, Cond.code yJ8_hugeLength_7cf53 cJ8_hugeLength_7cf53 3 (some .int), Cond.methodLink RJx4a65c 66 yJ7_copyOf_1904c, Cond.static yJ7_copyOf_1904c, Cond.initialized RJ7, Cond.code yJ7_copyOf_1904c cJ7_copyOf_1904c 2 (some (.array (.object "java/lang/Object"))), Cond.methodLink RJ7 86 ⟨"java/lang/Object", "getClass", "()Ljava/lang/Class;"⟩, Cond.selects "[Ljava/lang/Object;" ⟨"java/lang/Object", "getClass", "()Ljava/lang/Class;"⟩ ⟨"java/lang/Object", "getClass", "()Ljava/lang/Class;"⟩, Cond.instanceMethod ⟨"java/lang/Object", "getClass", "()Ljava/lang/Class;"⟩, Cond.native ⟨"java/lang/Object", "getClass", "()Ljava/lang/Class;"⟩, Cond.methodLink RJ7 300 yJ7_copyOf_6403c, Cond.static yJ7_copyOf_6403c, Cond.code yJ7_copyOf_6403c cJ7_copyOf_6403c 4 (some (.array (.object "java/lang/Object")))]
def wsX6_enter_r3 : List Cond := [Cond.classLink RJ7 110 "[Ljava/lang/Object;", Cond.classLink RJ7 2 "java/lang/Object", Cond.methodLink RJ7 304 Lib.Math.min.name, Cond.static Lib.Math.min.name, Cond.code Lib.Math.min.name Lib.Math.min.code 2 (some .int), Cond.methodLink RJ7 150 arraycopyName, Cond.native arraycopyName, Cond.static arraycopyName, Cond.initialized "java/lang/System", Cond.methodLink RX6 150 yX1_end, Cond.instanceMethod yX1_end, Cond.selects RX1 yX1_end yX1_end, Cond.initialized RX1, Cond.code yX1_end cX1_end 1 (some .int), Cond.fieldLink RX1 19 "PilotBook$Passage" "begin" "I"]
def wsX6_enter : List Cond := .code yX6_enter cX6_enter 2 none :: ((wsX6_enter_r1 ++ (wsX6_enter_r2 ++ wsX6_enter_r3)) ++ wsX60 ++ wsX10 ++ wsX30 ++ wsX40 ++ wsX20 ++ wsJx4a65c0)
def wsX6_book_r1 : List Cond := [Cond.classLink RX6 61 "java/lang/IllegalStateException", Cond.initialized "java/lang/IllegalStateException", Cond.fieldLink RX6 29 "PilotBook" "passages" "Ljava/util/ArrayList;", Cond.classLink RX6 134 RX1, Cond.instantiable RX1 7, Cond.initialized RX1, Cond.methodLink RX6 119 yX6_checkCall, Cond.instanceMethod yX6_checkCall, Cond.selects RX6 yX6_checkCall yX6_checkCall, Cond.initialized RX6, Cond.code yX6_checkCall cX6_checkCall 4 none, Cond.fieldLink RX6 23 "PilotBook" "ships" "Ljava/util/ArrayList;", Cond.fieldLink RX6 19 "PilotBook" "berths" "Ljava/util/ArrayList;", Cond.methodLink RX6 76 yJx4a65c_size_8abf5, Cond.instanceMethod yJx4a65c_size_8abf5, Cond.selects RJx4a65c yJx4a65c_size_8abf5 yJx4a65c_size_8abf5, Cond.initialized RJx4a65c, Cond.code yJx4a65c_size_8abf5 cJx4a65c_size_8abf5 1 (some .int), Cond.fieldLink RJx4a65c 48 "java/util/ArrayList" "size" "I", Cond.methodLink RX6 93 yX6_checkNumber, Cond.static yX6_checkNumber, Cond.code yX6_checkNumber cX6_checkNumber 2 none, Cond.classLink RX6 110 "java/lang/IndexOutOfBoundsException", Cond.initialized "java/lang/IndexOutOfBoundsException"]
def wsX6_book_r2 : List Cond := [Cond.methodLink RX6 42 yX6_checkTime, Cond.static yX6_checkTime, Cond.code yX6_checkTime cX6_checkTime 1 none, Cond.methodLink RX6 46 yX6_checkRange, Cond.static yX6_checkRange, Cond.code yX6_checkRange cX6_checkRange 3 none, Cond.classLink RX6 238 "java/lang/IllegalArgumentException", Cond.initialized "java/lang/IllegalArgumentException", Cond.methodLink RX6 79 yX6_checkRoom, Cond.static yX6_checkRoom, Cond.code yX6_checkRoom cX6_checkRoom 2 none, Cond.methodLink RX6 160 yX6_routeOf, Cond.instanceMethod yX6_routeOf, Cond.selects RX6 yX6_routeOf yX6_routeOf, Cond.code yX6_routeOf cX6_routeOf 6 (some (.object "PilotBook$Route")), Cond.classLink RX6 90 "PilotBook$Ship", Cond.classLink RX6 140 RX3, Cond.instantiable RX3 4, Cond.initialized RX3, Cond.classLink RX6 82 "PilotBook$Berth", Cond.methodLink RX6 96 yJx4a65c_get_915e3, Cond.instanceMethod yJx4a65c_get_915e3, Cond.selects RJx4a65c yJx4a65c_get_915e3 yJx4a65c_get_915e3, Cond.code yJx4a65c_get_915e3 cJx4a65c_get_915e3 2 (some (.object "java/lang/Object"))]
def wsX6_book_r3 : List Cond := [Cond.methodLink RJx4a65c 118 yJ15_checkIndex_7cf53, Cond.static yJ15_checkIndex_7cf53, Cond.initialized RJ15, Cond.code yJ15_checkIndex_7cf53 cJ15_checkIndex_7cf53 2 (some .int), Cond.methodLink RJ15 105 yJ3_checkIndex_8e157, Cond.static yJ3_checkIndex_8e157, Cond.initialized RJ3, Cond.code yJ3_checkIndex_8e157 cJ3_checkIndex_8e157 3 (some .int), Cond.methodLink RJx4a65c 123 yJx4a65c_elementData_915e3, Cond.instanceMethod yJx4a65c_elementData_915e3, Cond.selects RJx4a65c yJx4a65c_elementData_915e3 yJx4a65c_elementData_915e3, Cond.code yJx4a65c_elementData_915e3 cJx4a65c_elementData_915e3 2 (some (.object "java/lang/Object")), Cond.fieldLink RJx4a65c 9 "java/util/ArrayList" "elementData" "[Ljava/lang/Object;", Cond.methodLink RX6 252 yX3_init, Cond.instanceMethod yX3_init, Cond.code yX3_init cX3_init 4 none, Cond.methodLink RX3 3 objectInit, Cond.instanceMethod objectInit, Cond.code objectInit ⟨#[0xb1]⟩ 1 none, Cond.fieldLink RX3 9 "PilotBook$Route" "ship" "LPilotBook$Ship;", Cond.fieldLink RX3 15 "PilotBook$Route" "berth" "LPilotBook$Berth;", Cond.fieldLink RX3 19 "PilotBook$Route" "isOutbound" "Z", Cond.fieldLink RX3 33 "PilotBook$Route" "tugs" "I", Cond.methodLink RX3 29 yX3_tugsForLength]
def wsX6_book_r4 : List Cond := [Cond.static yX3_tugsForLength, Cond.code yX3_tugsForLength cX3_tugsForLength 1 (some .int), Cond.methodLink RX6 164 yX6_firstBegin, Cond.instanceMethod yX6_firstBegin, Cond.selects RX6 yX6_firstBegin yX6_firstBegin, Cond.code yX6_firstBegin cX6_firstBegin 5 (some .int), Cond.methodLink RX6 263 Lib.Math.max.name, Cond.static Lib.Math.max.name, Cond.initialized "java/lang/Math", Cond.code Lib.Math.max.name Lib.Math.max.code 2 (some .int), Cond.methodLink RX6 259 yX6_freeFrom, Cond.instanceMethod yX6_freeFrom, Cond.selects RX6 yX6_freeFrom yX6_freeFrom, Cond.code yX6_freeFrom cX6_freeFrom 6 (some .int), Cond.classLink RX6 134 "PilotBook$Passage", Cond.methodLink RX6 150 yX1_end, Cond.instanceMethod yX1_end, Cond.selects RX1 yX1_end yX1_end, Cond.code yX1_end cX1_end 1 (some .int), Cond.fieldLink RX1 19 "PilotBook$Passage" "begin" "I", Cond.methodLink RX6 266 yX6_canBegin, Cond.instanceMethod yX6_canBegin, Cond.selects RX6 yX6_canBegin yX6_canBegin, Cond.code yX6_canBegin cX6_canBegin 3 (some .boolean)]
def wsX6_book_r5 : List Cond := [Cond.fieldLink RX6 32 "PilotBook" "barDepth" "I", Cond.methodLink RX6 270 yX6_hasClearWay, Cond.instanceMethod yX6_hasClearWay, Cond.selects RX6 yX6_hasClearWay yX6_hasClearWay, Cond.code yX6_hasClearWay cX6_hasClearWay 6 (some .boolean), Cond.methodLink RX6 282 Lib.Math.abs.name, Cond.static Lib.Math.abs.name, Cond.code Lib.Math.abs.name Lib.Math.abs.code 1 (some .int), Cond.methodLink RX6 273 yX3_barMinute, Cond.instanceMethod yX3_barMinute, Cond.selects RX3 yX3_barMinute yX3_barMinute, Cond.code yX3_barMinute cX3_barMinute 2 (some .int), Cond.methodLink RX6 125 yX6_hasWater, Cond.instanceMethod yX6_hasWater, Cond.selects RX6 yX6_hasWater yX6_hasWater, Cond.code yX6_hasWater cX6_hasWater 4 (some .boolean), Cond.fieldLink RX6 12 "PilotBook" "tide" "LPilotBook$Tide;", Cond.methodLink RX6 72 yX5_heightAt, Cond.instanceMethod yX5_heightAt, Cond.selects RX5 yX5_heightAt yX5_heightAt, Cond.initialized RX5, Cond.code yX5_heightAt cX5_heightAt 6 (some .int), Cond.fieldLink RX5 18 "PilotBook$Tide" "size" "I", Cond.fieldLink RX5 15 "PilotBook$Tide" "heights" "[I"]
def wsX6_book_r6 : List Cond := [Cond.fieldLink RX5 9 "PilotBook$Tide" "times" "[I", Cond.methodLink RX5 22 yX5_pointsUpTo, Cond.instanceMethod yX5_pointsUpTo, Cond.selects RX5 yX5_pointsUpTo yX5_pointsUpTo, Cond.code yX5_pointsUpTo cX5_pointsUpTo 3 (some .int), Cond.methodLink RX6 115 yX6_waterNeed, Cond.instanceMethod yX6_waterNeed, Cond.selects RX6 yX6_waterNeed yX6_waterNeed, Cond.code yX6_waterNeed cX6_waterNeed 2 (some .int), Cond.fieldLink RX6 36 "PilotBook" "margin" "I", Cond.methodLink RX6 276 yX3_berthMinute, Cond.instanceMethod yX3_berthMinute, Cond.selects RX3 yX3_berthMinute yX3_berthMinute, Cond.code yX3_berthMinute cX3_berthMinute 2 (some .int), Cond.methodLink RX6 279 yX6_hasTugs, Cond.instanceMethod yX6_hasTugs, Cond.selects RX6 yX6_hasTugs yX6_hasTugs, Cond.code yX6_hasTugs cX6_hasTugs 7 (some .boolean), Cond.fieldLink RX6 39 "PilotBook" "tugs" "I", Cond.methodLink RX6 285 yX3_tugsFrom, Cond.instanceMethod yX3_tugsFrom, Cond.selects RX3 yX3_tugsFrom yX3_tugsFrom, Cond.code yX3_tugsFrom cX3_tugsFrom 2 (some .int), Cond.methodLink RX6 218 yX6_tugsInUse]
def wsX6_book_r7 : List Cond := [Cond.instanceMethod yX6_tugsInUse, Cond.selects RX6 yX6_tugsInUse yX6_tugsInUse, Cond.code yX6_tugsInUse cX6_tugsInUse 6 (some .int), Cond.methodLink RX6 288 yX1_tugsFrom, Cond.instanceMethod yX1_tugsFrom, Cond.selects RX1 yX1_tugsFrom yX1_tugsFrom, Cond.code yX1_tugsFrom cX1_tugsFrom 1 (some .int), Cond.fieldLink RX1 9 "PilotBook$Passage" "route" "LPilotBook$Route;", Cond.methodLink RX1 54 yX3_tugsFrom, Cond.methodLink RX6 170 yX6_pilotFor, Cond.instanceMethod yX6_pilotFor, Cond.selects RX6 yX6_pilotFor yX6_pilotFor, Cond.code yX6_pilotFor cX6_pilotFor 6 (some (.object "PilotBook$Pilot")), Cond.fieldLink RX6 26 "PilotBook" "pilots" "Ljava/util/ArrayList;", Cond.classLink RX6 103 "PilotBook$Pilot", Cond.methodLink RX6 290 yX2_canTake, Cond.instanceMethod yX2_canTake, Cond.selects RX2 yX2_canTake yX2_canTake, Cond.initialized RX2, Cond.code yX2_canTake cX2_canTake 4 (some .boolean), Cond.fieldLink RX2 19 "PilotBook$Pilot" "limit" "I", Cond.fieldLink RX2 9 "PilotBook$Pilot" "latest" "LPilotBook$Passage;", Cond.methodLink RX2 50 yX2_endsInPort, Cond.instanceMethod yX2_endsInPort]
def wsX6_book_r8 : List Cond := [Cond.selects RX2 yX2_endsInPort yX2_endsInPort, Cond.code yX2_endsInPort cX2_endsInPort 1 (some .boolean), Cond.fieldLink RX2 22 "PilotBook$Pilot" "startsInPort" "Z", Cond.methodLink RX2 37 yX1_end, Cond.methodLink RX6 293 yX2_latestEnd, Cond.instanceMethod yX2_latestEnd, Cond.selects RX2 yX2_latestEnd yX2_latestEnd, Cond.code yX2_latestEnd cX2_latestEnd 1 (some .int), Cond.methodLink RX6 176 yX1_init, Cond.instanceMethod yX1_init, Cond.code yX1_init cX1_init 5 none, Cond.methodLink RX1 3 objectInit, Cond.fieldLink RX1 15 "PilotBook$Passage" "askedFrom" "I", Cond.fieldLink RX1 22 "PilotBook$Passage" "pilot" "LPilotBook$Pilot;", Cond.fieldLink RX1 38 "PilotBook$Passage" "shipBefore" "LPilotBook$Passage;", Cond.fieldLink RX1 44 "PilotBook$Passage" "pilotBefore" "LPilotBook$Passage;", Cond.fieldLink RX1 51 "PilotBook$Passage" "berthUntil" "I", Cond.methodLink RX6 179 yX6_enter, Cond.instanceMethod yX6_enter, Cond.selects RX6 yX6_enter yX6_enter, Cond.code yX6_enter cX6_enter 2 none, Cond.methodLink RX6 86 yJx4a65c_add_9ea2d, Cond.instanceMethod yJx4a65c_add_9ea2d, Cond.selects RJx4a65c yJx4a65c_add_9ea2d yJx4a65c_add_9ea2d]
def wsX6_book_r9 : List Cond := [Cond.code yJx4a65c_add_9ea2d cJx4a65c_add_9ea2d 2 (some .boolean), Cond.fieldLink RJx4a65c 63 "java/util/ArrayList" "modCount" "I", Cond.sameField "java/util/ArrayList" "java/util/AbstractList" "modCount" "I", Cond.methodLink RJx4a65c 131 yJx4a65c_add_72be8, Cond.instanceMethod yJx4a65c_add_72be8, Cond.selects RJx4a65c yJx4a65c_add_72be8 yJx4a65c_add_72be8, Cond.code yJx4a65c_add_72be8 cJx4a65c_add_72be8 4 none, Cond.methodLink RJx4a65c 129 yJx4a65c_grow_d5877, Cond.instanceMethod yJx4a65c_grow_d5877, Cond.selects RJx4a65c yJx4a65c_grow_d5877 yJx4a65c_grow_d5877, Cond.code yJx4a65c_grow_d5877 cJx4a65c_grow_d5877 1 (some (.array (.object "java/lang/Object"))), Cond.methodLink RJx4a65c 69 yJx4a65c_grow_92f84, Cond.instanceMethod yJx4a65c_grow_92f84, Cond.selects RJx4a65c yJx4a65c_grow_92f84 yJx4a65c_grow_92f84, Cond.code yJx4a65c_grow_92f84 cJx4a65c_grow_92f84 4 (some (.array (.object "java/lang/Object"))), Cond.fieldLink RJx4a65c 39 "java/util/ArrayList" "DEFAULTCAPACITY_EMPTY_ELEMENTDATA" "[Ljava/lang/Object;", Cond.methodLink RJx4a65c 79 Lib.Math.max.name, Cond.classLink RJx4a65c 7 "java/lang/Object", Cond.methodLink RJx4a65c 73 yJ8_newLength_cabcc, Cond.static yJ8_newLength_cabcc, Cond.initialized RJ8, Cond.code yJ8_newLength_cabcc cJ8_newLength_cabcc 4 (some .int), Cond.methodLink RJ8 194 Lib.Math.max.name, Cond.constant RJ8 200 (2147483639)]
def wsX6_book_r10 : List Cond := [Cond.methodLink RJ8 201 yJ8_hugeLength_7cf53, Cond.static yJ8_hugeLength_7cf53, Cond.code yJ8_hugeLength_7cf53 cJ8_hugeLength_7cf53 3 (some .int), Cond.methodLink RJx4a65c 66 yJ7_copyOf_1904c, Cond.static yJ7_copyOf_1904c, Cond.initialized RJ7, Cond.code yJ7_copyOf_1904c cJ7_copyOf_1904c 2 (some (.array (.object "java/lang/Object"))), Cond.methodLink RJ7 86 ⟨"java/lang/Object", "getClass", "()Ljava/lang/Class;"⟩, Cond.selects "[Ljava/lang/Object;" ⟨"java/lang/Object", "getClass", "()Ljava/lang/Class;"⟩ ⟨"java/lang/Object", "getClass", "()Ljava/lang/Class;"⟩, Cond.instanceMethod ⟨"java/lang/Object", "getClass", "()Ljava/lang/Class;"⟩, Cond.native ⟨"java/lang/Object", "getClass", "()Ljava/lang/Class;"⟩, Cond.methodLink RJ7 300 yJ7_copyOf_6403c, Cond.static yJ7_copyOf_6403c, Cond.code yJ7_copyOf_6403c cJ7_copyOf_6403c 4 (some (.array (.object "java/lang/Object"))), Cond.classLink RJ7 110 "[Ljava/lang/Object;", Cond.classLink RJ7 2 "java/lang/Object", Cond.methodLink RJ7 304 Lib.Math.min.name, Cond.static Lib.Math.min.name, Cond.code Lib.Math.min.name Lib.Math.min.code 2 (some .int), Cond.methodLink RJ7 150 arraycopyName, Cond.native arraycopyName, Cond.static arraycopyName, Cond.initialized "java/lang/System"]
def wsX6_book : List Cond := .code yX6_book cX6_book 8 (some .int) :: ((wsX6_book_r1 ++ (wsX6_book_r2 ++ (wsX6_book_r3 ++ (wsX6_book_r4 ++ (wsX6_book_r5 ++ (wsX6_book_r6 ++ (wsX6_book_r7 ++ (wsX6_book_r8 ++ (wsX6_book_r9 ++ wsX6_book_r10))))))))) ++ wsX60 ++ wsX10 ++ wsJx4a65c0 ++ wsX40 ++ wsX30 ++ wsX00 ++ wsX50 ++ wsX20 ++ (vx_atS RX6 65 "java/lang/IllegalStateException" ["java/lang/RuntimeException", "java/lang/Exception"]).filter goodWord ++ (vx_atS RX6 114 "java/lang/IndexOutOfBoundsException" ["java/lang/RuntimeException", "java/lang/Exception"]).filter goodWord ++ (vx_atS RX6 242 "java/lang/IllegalArgumentException" ["java/lang/RuntimeException", "java/lang/Exception"]).filter goodWord)
def wsX6_passage_r1 : List Cond := [Cond.classLink RX6 110 "java/lang/IndexOutOfBoundsException", Cond.initialized "java/lang/IndexOutOfBoundsException", Cond.fieldLink RX6 29 "PilotBook" "passages" "Ljava/util/ArrayList;", Cond.classLink RX6 134 "PilotBook$Passage", Cond.methodLink RX6 76 yJx4a65c_size_8abf5, Cond.instanceMethod yJx4a65c_size_8abf5, Cond.selects RJx4a65c yJx4a65c_size_8abf5 yJx4a65c_size_8abf5, Cond.initialized RJx4a65c, Cond.code yJx4a65c_size_8abf5 cJx4a65c_size_8abf5 1 (some .int), Cond.fieldLink RJx4a65c 48 "java/util/ArrayList" "size" "I", Cond.methodLink RX6 93 yX6_checkNumber, Cond.static yX6_checkNumber, Cond.initialized RX6, Cond.code yX6_checkNumber cX6_checkNumber 2 none, Cond.methodLink RX6 96 yJx4a65c_get_915e3, Cond.instanceMethod yJx4a65c_get_915e3, Cond.selects RJx4a65c yJx4a65c_get_915e3 yJx4a65c_get_915e3, Cond.code yJx4a65c_get_915e3 cJx4a65c_get_915e3 2 (some (.object "java/lang/Object")), Cond.methodLink RJx4a65c 118 yJ15_checkIndex_7cf53, Cond.static yJ15_checkIndex_7cf53, Cond.initialized RJ15, Cond.code yJ15_checkIndex_7cf53 cJ15_checkIndex_7cf53 2 (some .int), Cond.methodLink RJ15 105 yJ3_checkIndex_8e157, Cond.static yJ3_checkIndex_8e157]
def wsX6_passage_r2 : List Cond := [Cond.initialized RJ3, Cond.code yJ3_checkIndex_8e157 cJ3_checkIndex_8e157 3 (some .int), Cond.methodLink RJx4a65c 123 yJx4a65c_elementData_915e3, Cond.instanceMethod yJx4a65c_elementData_915e3, Cond.selects RJx4a65c yJx4a65c_elementData_915e3 yJx4a65c_elementData_915e3, Cond.code yJx4a65c_elementData_915e3 cJx4a65c_elementData_915e3 2 (some (.object "java/lang/Object")), Cond.fieldLink RJx4a65c 9 "java/util/ArrayList" "elementData" "[Ljava/lang/Object;"]
def wsX6_passage : List Cond := .code yX6_passage cX6_passage 4 (some .int) :: ((wsX6_passage_r1 ++ wsX6_passage_r2) ++ wsX60 ++ wsX10 ++ wsX30 ++ wsX40 ++ wsX20 ++ wsX00 ++ wsJx4a65c0 ++ (vx_atS RX6 114 "java/lang/IndexOutOfBoundsException" ["java/lang/RuntimeException", "java/lang/Exception"]).filter goodWord)
def wsX6_occupant_r1 : List Cond := [Cond.fieldLink RX6 19 "PilotBook" "berths" "Ljava/util/ArrayList;", Cond.fieldLink RX6 29 "PilotBook" "passages" "Ljava/util/ArrayList;", Cond.classLink RX6 134 "PilotBook$Passage", Cond.methodLink RX6 76 yJx4a65c_size_8abf5, Cond.instanceMethod yJx4a65c_size_8abf5, Cond.selects RJx4a65c yJx4a65c_size_8abf5 yJx4a65c_size_8abf5, Cond.initialized RJx4a65c, Cond.code yJx4a65c_size_8abf5 cJx4a65c_size_8abf5 1 (some .int), Cond.fieldLink RJx4a65c 48 "java/util/ArrayList" "size" "I", Cond.methodLink RX6 93 yX6_checkNumber, Cond.static yX6_checkNumber, Cond.initialized RX6, Cond.code yX6_checkNumber cX6_checkNumber 2 none, Cond.classLink RX6 110 "java/lang/IndexOutOfBoundsException", Cond.initialized "java/lang/IndexOutOfBoundsException", Cond.methodLink RX6 42 yX6_checkTime, Cond.static yX6_checkTime, Cond.code yX6_checkTime cX6_checkTime 1 none, Cond.methodLink RX6 46 yX6_checkRange, Cond.static yX6_checkRange, Cond.code yX6_checkRange cX6_checkRange 3 none, Cond.classLink RX6 238 "java/lang/IllegalArgumentException", Cond.initialized "java/lang/IllegalArgumentException", Cond.methodLink RX6 96 yJx4a65c_get_915e3]
def wsX6_occupant_r2 : List Cond := [Cond.instanceMethod yJx4a65c_get_915e3, Cond.selects RJx4a65c yJx4a65c_get_915e3 yJx4a65c_get_915e3, Cond.code yJx4a65c_get_915e3 cJx4a65c_get_915e3 2 (some (.object "java/lang/Object")), Cond.methodLink RJx4a65c 118 yJ15_checkIndex_7cf53, Cond.static yJ15_checkIndex_7cf53, Cond.initialized RJ15, Cond.code yJ15_checkIndex_7cf53 cJ15_checkIndex_7cf53 2 (some .int), Cond.methodLink RJ15 105 yJ3_checkIndex_8e157, Cond.static yJ3_checkIndex_8e157, Cond.initialized RJ3, Cond.code yJ3_checkIndex_8e157 cJ3_checkIndex_8e157 3 (some .int), Cond.methodLink RJx4a65c 123 yJx4a65c_elementData_915e3, Cond.instanceMethod yJx4a65c_elementData_915e3, Cond.selects RJx4a65c yJx4a65c_elementData_915e3 yJx4a65c_elementData_915e3, Cond.code yJx4a65c_elementData_915e3 cJx4a65c_elementData_915e3 2 (some (.object "java/lang/Object")), Cond.fieldLink RJx4a65c 9 "java/util/ArrayList" "elementData" "[Ljava/lang/Object;", Cond.methodLink RX6 215 yX1_holdsBerthAt, Cond.instanceMethod yX1_holdsBerthAt, Cond.selects RX1 yX1_holdsBerthAt yX1_holdsBerthAt, Cond.initialized RX1, Cond.code yX1_holdsBerthAt cX1_holdsBerthAt 2 (some .boolean), Cond.fieldLink RX1 19 "PilotBook$Passage" "begin" "I", Cond.fieldLink RX1 51 "PilotBook$Passage" "berthUntil" "I"]
def wsX6_occupant : List Cond := .code yX6_occupant cX6_occupant 5 (some .int) :: ((wsX6_occupant_r1 ++ wsX6_occupant_r2) ++ wsX60 ++ wsX10 ++ wsX30 ++ wsX00 ++ wsX40 ++ wsJx4a65c0 ++ (vx_atS RX6 114 "java/lang/IndexOutOfBoundsException" ["java/lang/RuntimeException", "java/lang/Exception"]).filter goodWord ++ (vx_atS RX6 242 "java/lang/IllegalArgumentException" ["java/lang/RuntimeException", "java/lang/Exception"]).filter goodWord)
def wsJ9_abs_0f7a4 : List Cond := .code yJ9_abs_0f7a4 cJ9_abs_0f7a4 1 (some .int) :: ([])
def wsJ9_max_7cf53 : List Cond := .code yJ9_max_7cf53 cJ9_max_7cf53 2 (some .int) :: ([])
def wsJ9_min_7cf53 : List Cond := .code yJ9_min_7cf53 cJ9_min_7cf53 2 (some .int) :: ([])
def wsL_below : List Cond := .code yL_below cL_below 2 (some .int) :: ([.constant RL 7 (2147483647)])
def wsL_cell : List Cond := .code yL_cell cL_cell 2 (some .int) :: ([.constant RL 8 (790386105)])
def wsL_build_r1 : List Cond := [Cond.arrayClass .int, Cond.methodLink RL 9 yL_cell, Cond.static yL_cell, Cond.initialized RL, Cond.code yL_cell cL_cell 2 (some .int), Cond.constant RL 8 (790386105), Cond.methodLink RL 15 yL_below, Cond.static yL_below, Cond.code yL_below cL_below 2 (some .int), Cond.constant RL 7 (2147483647), Cond.methodLink RL 19 yX6_addTide, Cond.instanceMethod yX6_addTide, Cond.selects RX6 yX6_addTide yX6_addTide, Cond.initialized RX6, Cond.code yX6_addTide cX6_addTide 3 (some .int), Cond.classLink RX6 61 "java/lang/IllegalStateException", Cond.initialized "java/lang/IllegalStateException", Cond.fieldLink RX6 29 "PilotBook" "passages" "Ljava/util/ArrayList;", Cond.fieldLink RX6 12 "PilotBook" "tide" "LPilotBook$Tide;", Cond.methodLink RX6 42 yX6_checkTime, Cond.static yX6_checkTime, Cond.code yX6_checkTime cX6_checkTime 1 none, Cond.methodLink RX6 46 yX6_checkRange, Cond.static yX6_checkRange]
def wsL_build_r2 : List Cond := [Cond.code yX6_checkRange cX6_checkRange 3 none, Cond.classLink RX6 238 "java/lang/IllegalArgumentException", Cond.initialized "java/lang/IllegalArgumentException", Cond.methodLink RX6 50 yJx4a65c_isEmpty_aae02, Cond.instanceMethod yJx4a65c_isEmpty_aae02, Cond.selects RJx4a65c yJx4a65c_isEmpty_aae02 yJx4a65c_isEmpty_aae02, Cond.initialized RJx4a65c, Cond.code yJx4a65c_isEmpty_aae02 cJx4a65c_isEmpty_aae02 1 (some .boolean), Cond.fieldLink RJx4a65c 48 "java/util/ArrayList" "size" "I", Cond.methodLink RX6 57 yX5_hasPointAt, Cond.instanceMethod yX5_hasPointAt, Cond.selects RX5 yX5_hasPointAt yX5_hasPointAt, Cond.initialized RX5, Cond.code yX5_hasPointAt cX5_hasPointAt 3 (some .boolean), Cond.fieldLink RX5 9 "PilotBook$Tide" "times" "[I", Cond.methodLink RX5 22 yX5_pointsUpTo, Cond.instanceMethod yX5_pointsUpTo, Cond.selects RX5 yX5_pointsUpTo yX5_pointsUpTo, Cond.code yX5_pointsUpTo cX5_pointsUpTo 3 (some .int), Cond.fieldLink RX5 18 "PilotBook$Tide" "size" "I", Cond.methodLink RX6 68 yX5_insert, Cond.instanceMethod yX5_insert, Cond.selects RX5 yX5_insert yX5_insert, Cond.code yX5_insert cX5_insert 5 none]
def wsL_build_r3 : List Cond := [Cond.fieldLink RX5 15 "PilotBook$Tide" "heights" "[I", Cond.methodLink RL 24 yX6_setWater, Cond.instanceMethod yX6_setWater, Cond.selects RX6 yX6_setWater yX6_setWater, Cond.code yX6_setWater cX6_setWater 4 (some .int), Cond.fieldLink RX6 32 "PilotBook" "barDepth" "I", Cond.fieldLink RX6 36 "PilotBook" "margin" "I", Cond.methodLink RL 27 yX6_setTugs, Cond.instanceMethod yX6_setTugs, Cond.selects RX6 yX6_setTugs yX6_setTugs, Cond.code yX6_setTugs cX6_setTugs 3 (some .int), Cond.fieldLink RX6 39 "PilotBook" "tugs" "I", Cond.methodLink RL 31 yX6_addBerth, Cond.instanceMethod yX6_addBerth, Cond.selects RX6 yX6_addBerth yX6_addBerth, Cond.code yX6_addBerth cX6_addBerth 4 (some .int), Cond.fieldLink RX6 19 "PilotBook" "berths" "Ljava/util/ArrayList;", Cond.classLink RX6 82 RX0, Cond.instantiable RX0 3, Cond.initialized RX0, Cond.methodLink RX6 76 yJx4a65c_size_8abf5, Cond.instanceMethod yJx4a65c_size_8abf5, Cond.selects RJx4a65c yJx4a65c_size_8abf5 yJx4a65c_size_8abf5, Cond.code yJx4a65c_size_8abf5 cJx4a65c_size_8abf5 1 (some .int)]
def wsL_build_r4 : List Cond := [Cond.methodLink RX6 79 yX6_checkRoom, Cond.static yX6_checkRoom, Cond.code yX6_checkRoom cX6_checkRoom 2 none, Cond.methodLink RX6 84 yX0_init, Cond.instanceMethod yX0_init, Cond.code yX0_init cX0_init 4 none, Cond.methodLink RX0 1 objectInit, Cond.instanceMethod objectInit, Cond.code objectInit ⟨#[0xb1]⟩ 1 none, Cond.fieldLink RX0 7 "PilotBook$Berth" "number" "I", Cond.fieldLink RX0 13 "PilotBook$Berth" "length" "I", Cond.fieldLink RX0 16 "PilotBook$Berth" "depth" "I", Cond.methodLink RX6 86 yJx4a65c_add_9ea2d, Cond.instanceMethod yJx4a65c_add_9ea2d, Cond.selects RJx4a65c yJx4a65c_add_9ea2d yJx4a65c_add_9ea2d, Cond.code yJx4a65c_add_9ea2d cJx4a65c_add_9ea2d 2 (some .boolean), Cond.fieldLink RJx4a65c 63 "java/util/ArrayList" "modCount" "I", Cond.sameField "java/util/ArrayList" "java/util/AbstractList" "modCount" "I", Cond.fieldLink RJx4a65c 9 "java/util/ArrayList" "elementData" "[Ljava/lang/Object;", Cond.methodLink RJx4a65c 131 yJx4a65c_add_72be8, Cond.instanceMethod yJx4a65c_add_72be8, Cond.selects RJx4a65c yJx4a65c_add_72be8 yJx4a65c_add_72be8, Cond.code yJx4a65c_add_72be8 cJx4a65c_add_72be8 4 none, Cond.methodLink RJx4a65c 129 yJx4a65c_grow_d5877]
def wsL_build_r5 : List Cond := [Cond.instanceMethod yJx4a65c_grow_d5877, Cond.selects RJx4a65c yJx4a65c_grow_d5877 yJx4a65c_grow_d5877, Cond.code yJx4a65c_grow_d5877 cJx4a65c_grow_d5877 1 (some (.array (.object "java/lang/Object"))), Cond.methodLink RJx4a65c 69 yJx4a65c_grow_92f84, Cond.instanceMethod yJx4a65c_grow_92f84, Cond.selects RJx4a65c yJx4a65c_grow_92f84 yJx4a65c_grow_92f84, Cond.code yJx4a65c_grow_92f84 cJx4a65c_grow_92f84 4 (some (.array (.object "java/lang/Object"))), Cond.fieldLink RJx4a65c 39 "java/util/ArrayList" "DEFAULTCAPACITY_EMPTY_ELEMENTDATA" "[Ljava/lang/Object;", Cond.methodLink RJx4a65c 79 Lib.Math.max.name, Cond.static Lib.Math.max.name, Cond.initialized "java/lang/Math", Cond.code Lib.Math.max.name Lib.Math.max.code 2 (some .int), Cond.classLink RJx4a65c 7 "java/lang/Object", Cond.methodLink RJx4a65c 73 yJ8_newLength_cabcc, Cond.static yJ8_newLength_cabcc, Cond.initialized RJ8, Cond.code yJ8_newLength_cabcc cJ8_newLength_cabcc 4 (some .int), Cond.methodLink RJ8 194 Lib.Math.max.name, Cond.constant RJ8 200 (2147483639), Cond.methodLink RJ8 201 yJ8_hugeLength_7cf53, Cond.static yJ8_hugeLength_7cf53, Cond.code yJ8_hugeLength_7cf53 cJ8_hugeLength_7cf53 3 (some .int), Cond.methodLink RJx4a65c 66 yJ7_copyOf_1904c, Cond.static yJ7_copyOf_1904c]
def wsL_build_r6 : List Cond := [Cond.initialized RJ7, Cond.code yJ7_copyOf_1904c cJ7_copyOf_1904c 2 (some (.array (.object "java/lang/Object"))), Cond.methodLink RJ7 86 ⟨"java/lang/Object", "getClass", "()Ljava/lang/Class;"⟩, Cond.selects "[Ljava/lang/Object;" ⟨"java/lang/Object", "getClass", "()Ljava/lang/Class;"⟩ ⟨"java/lang/Object", "getClass", "()Ljava/lang/Class;"⟩, Cond.instanceMethod ⟨"java/lang/Object", "getClass", "()Ljava/lang/Class;"⟩, Cond.native ⟨"java/lang/Object", "getClass", "()Ljava/lang/Class;"⟩, Cond.methodLink RJ7 300 yJ7_copyOf_6403c, Cond.static yJ7_copyOf_6403c, Cond.code yJ7_copyOf_6403c cJ7_copyOf_6403c 4 (some (.array (.object "java/lang/Object"))), Cond.classLink RJ7 110 "[Ljava/lang/Object;", Cond.classLink RJ7 2 "java/lang/Object", Cond.methodLink RJ7 304 Lib.Math.min.name, Cond.static Lib.Math.min.name, Cond.code Lib.Math.min.name Lib.Math.min.code 2 (some .int), Cond.methodLink RJ7 150 arraycopyName, Cond.native arraycopyName, Cond.static arraycopyName, Cond.initialized "java/lang/System", Cond.methodLink RL 34 yX6_addShip, Cond.instanceMethod yX6_addShip, Cond.selects RX6 yX6_addShip yX6_addShip, Cond.code yX6_addShip cX6_addShip 4 (some .int), Cond.fieldLink RX6 23 "PilotBook" "ships" "Ljava/util/ArrayList;", Cond.classLink RX6 90 RX4]
def wsL_build_r7 : List Cond := [Cond.instantiable RX4 4, Cond.initialized RX4, Cond.methodLink RX6 92 yX4_init, Cond.instanceMethod yX4_init, Cond.code yX4_init cX4_init 4 none, Cond.methodLink RX4 1 objectInit, Cond.fieldLink RX4 7 "PilotBook$Ship" "latest" "LPilotBook$Passage;", Cond.fieldLink RX4 13 "PilotBook$Ship" "number" "I", Cond.fieldLink RX4 17 "PilotBook$Ship" "length" "I", Cond.fieldLink RX4 20 "PilotBook$Ship" "draft" "I", Cond.methodLink RL 37 yX6_addPilot, Cond.instanceMethod yX6_addPilot, Cond.selects RX6 yX6_addPilot yX6_addPilot, Cond.code yX6_addPilot cX6_addPilot 4 (some .int), Cond.fieldLink RX6 26 "PilotBook" "pilots" "Ljava/util/ArrayList;", Cond.classLink RX6 103 RX2, Cond.instantiable RX2 4, Cond.initialized RX2, Cond.methodLink RX6 105 yX2_init, Cond.instanceMethod yX2_init, Cond.code yX2_init cX2_init 4 none, Cond.methodLink RX2 3 objectInit, Cond.fieldLink RX2 9 "PilotBook$Pilot" "latest" "LPilotBook$Passage;", Cond.fieldLink RX2 15 "PilotBook$Pilot" "number" "I"]
def wsL_build_r8 : List Cond := [Cond.fieldLink RX2 19 "PilotBook$Pilot" "limit" "I", Cond.fieldLink RX2 22 "PilotBook$Pilot" "startsInPort" "Z", Cond.methodLink RL 41 yX6_count, Cond.instanceMethod yX6_count, Cond.selects RX6 yX6_count yX6_count, Cond.code yX6_count cX6_count 2 (some .int), Cond.classLink RX6 110 "java/lang/IndexOutOfBoundsException", Cond.initialized "java/lang/IndexOutOfBoundsException"]
def wsL_build : List Cond := .code yL_build cL_build 10 (some (.array .int)) :: ((wsL_build_r1 ++ (wsL_build_r2 ++ (wsL_build_r3 ++ (wsL_build_r4 ++ (wsL_build_r5 ++ (wsL_build_r6 ++ (wsL_build_r7 ++ wsL_build_r8))))))) ++ wsX60 ++ wsX50 ++ wsJx4a65c0 ++ wsX00 ++ wsX40 ++ wsX20 ++ (vx_atS RX6 65 "java/lang/IllegalStateException" ["java/lang/RuntimeException", "java/lang/Exception"]).filter goodWord ++ (vx_atS RX6 242 "java/lang/IllegalArgumentException" ["java/lang/RuntimeException", "java/lang/Exception"]).filter goodWord ++ (vx_atS RX6 114 "java/lang/IndexOutOfBoundsException" ["java/lang/RuntimeException", "java/lang/Exception"]).filter goodWord)
def wsL_height : List Cond := .code yL_height cL_height 5 (some .int) :: ([])
def wsL_need : List Cond := .code yL_need cL_need 2 (some .int) :: ([])
def wsL_tugs : List Cond := .code yL_tugs cL_tugs 1 (some .int) :: ([])
def wsL_tugsAt : List Cond := .code yL_tugsAt cL_tugsAt 6 (some .int) :: ([])
def wsL_leaves : List Cond := .code yL_leaves cL_leaves 4 (some .int) :: ([.constant RL 44 (100000)])
def wsL_pilot : List Cond := .code yL_pilot cL_pilot 15 (some .int) :: ([])
def wsL_canBegin : List Cond := .code yL_canBegin cL_canBegin 17 (some .boolean) :: ([.methodLink RL 56 Lib.Math.abs.name, .static Lib.Math.abs.name, .initialized "java/lang/Math", .code Lib.Math.abs.name Lib.Math.abs.code 1 (some .int), .methodLink RL 45 yL_need, .static yL_need, .initialized RL, .code yL_need cL_need 2 (some .int), .methodLink RL 48 yL_height, .static yL_height, .code yL_height cL_height 5 (some .int), .methodLink RL 52 yL_leaves, .static yL_leaves, .code yL_leaves cL_leaves 4 (some .int), .constant RL 44 (100000), .methodLink RL 61 yL_tugs, .static yL_tugs, .code yL_tugs cL_tugs 1 (some .int), .methodLink RL 64 yL_tugsAt, .static yL_tugsAt, .code yL_tugsAt cL_tugsAt 6 (some .int), .methodLink RL 67 yL_pilot, .static yL_pilot, .code yL_pilot cL_pilot 15 (some .int)])
def wsL_told_r1 : List Cond := [Cond.classLink RL 79 "java/lang/IllegalStateException", Cond.methodLink RL 75 yX6_book, Cond.instanceMethod yX6_book, Cond.selects RX6 yX6_book yX6_book, Cond.initialized RX6, Cond.code yX6_book cX6_book 8 (some .int), Cond.classLink RX6 61 "java/lang/IllegalStateException", Cond.initialized "java/lang/IllegalStateException", Cond.fieldLink RX6 29 "PilotBook" "passages" "Ljava/util/ArrayList;", Cond.classLink RX6 134 RX1, Cond.instantiable RX1 7, Cond.initialized RX1, Cond.methodLink RX6 119 yX6_checkCall, Cond.instanceMethod yX6_checkCall, Cond.selects RX6 yX6_checkCall yX6_checkCall, Cond.code yX6_checkCall cX6_checkCall 4 none, Cond.fieldLink RX6 23 "PilotBook" "ships" "Ljava/util/ArrayList;", Cond.fieldLink RX6 19 "PilotBook" "berths" "Ljava/util/ArrayList;", Cond.methodLink RX6 76 yJx4a65c_size_8abf5, Cond.instanceMethod yJx4a65c_size_8abf5, Cond.selects RJx4a65c yJx4a65c_size_8abf5 yJx4a65c_size_8abf5, Cond.initialized RJx4a65c, Cond.code yJx4a65c_size_8abf5 cJx4a65c_size_8abf5 1 (some .int), Cond.fieldLink RJx4a65c 48 "java/util/ArrayList" "size" "I"]
def wsL_told_r2 : List Cond := [Cond.methodLink RX6 93 yX6_checkNumber, Cond.static yX6_checkNumber, Cond.code yX6_checkNumber cX6_checkNumber 2 none, Cond.classLink RX6 110 "java/lang/IndexOutOfBoundsException", Cond.initialized "java/lang/IndexOutOfBoundsException", Cond.methodLink RX6 42 yX6_checkTime, Cond.static yX6_checkTime, Cond.code yX6_checkTime cX6_checkTime 1 none, Cond.methodLink RX6 46 yX6_checkRange, Cond.static yX6_checkRange, Cond.code yX6_checkRange cX6_checkRange 3 none, Cond.classLink RX6 238 "java/lang/IllegalArgumentException", Cond.initialized "java/lang/IllegalArgumentException", Cond.methodLink RX6 79 yX6_checkRoom, Cond.static yX6_checkRoom, Cond.code yX6_checkRoom cX6_checkRoom 2 none, Cond.methodLink RX6 160 yX6_routeOf, Cond.instanceMethod yX6_routeOf, Cond.selects RX6 yX6_routeOf yX6_routeOf, Cond.code yX6_routeOf cX6_routeOf 6 (some (.object "PilotBook$Route")), Cond.classLink RX6 90 "PilotBook$Ship", Cond.classLink RX6 140 RX3, Cond.instantiable RX3 4, Cond.initialized RX3]
def wsL_told_r3 : List Cond := [Cond.classLink RX6 82 "PilotBook$Berth", Cond.methodLink RX6 96 yJx4a65c_get_915e3, Cond.instanceMethod yJx4a65c_get_915e3, Cond.selects RJx4a65c yJx4a65c_get_915e3 yJx4a65c_get_915e3, Cond.code yJx4a65c_get_915e3 cJx4a65c_get_915e3 2 (some (.object "java/lang/Object")), Cond.methodLink RJx4a65c 118 yJ15_checkIndex_7cf53, Cond.static yJ15_checkIndex_7cf53, Cond.initialized RJ15, Cond.code yJ15_checkIndex_7cf53 cJ15_checkIndex_7cf53 2 (some .int), Cond.methodLink RJ15 105 yJ3_checkIndex_8e157, Cond.static yJ3_checkIndex_8e157, Cond.initialized RJ3, Cond.code yJ3_checkIndex_8e157 cJ3_checkIndex_8e157 3 (some .int), Cond.methodLink RJx4a65c 123 yJx4a65c_elementData_915e3, Cond.instanceMethod yJx4a65c_elementData_915e3, Cond.selects RJx4a65c yJx4a65c_elementData_915e3 yJx4a65c_elementData_915e3, Cond.code yJx4a65c_elementData_915e3 cJx4a65c_elementData_915e3 2 (some (.object "java/lang/Object")), Cond.fieldLink RJx4a65c 9 "java/util/ArrayList" "elementData" "[Ljava/lang/Object;", Cond.methodLink RX6 252 yX3_init, Cond.instanceMethod yX3_init, Cond.code yX3_init cX3_init 4 none, Cond.methodLink RX3 3 objectInit, Cond.instanceMethod objectInit, Cond.code objectInit ⟨#[0xb1]⟩ 1 none]
def wsL_told_r4 : List Cond := [Cond.fieldLink RX3 9 "PilotBook$Route" "ship" "LPilotBook$Ship;", Cond.fieldLink RX3 15 "PilotBook$Route" "berth" "LPilotBook$Berth;", Cond.fieldLink RX3 19 "PilotBook$Route" "isOutbound" "Z", Cond.fieldLink RX3 33 "PilotBook$Route" "tugs" "I", Cond.methodLink RX3 29 yX3_tugsForLength, Cond.static yX3_tugsForLength, Cond.code yX3_tugsForLength cX3_tugsForLength 1 (some .int), Cond.methodLink RX6 164 yX6_firstBegin, Cond.instanceMethod yX6_firstBegin, Cond.selects RX6 yX6_firstBegin yX6_firstBegin, Cond.code yX6_firstBegin cX6_firstBegin 5 (some .int), Cond.methodLink RX6 263 Lib.Math.max.name, Cond.static Lib.Math.max.name, Cond.initialized "java/lang/Math", Cond.code Lib.Math.max.name Lib.Math.max.code 2 (some .int), Cond.methodLink RX6 259 yX6_freeFrom, Cond.instanceMethod yX6_freeFrom, Cond.selects RX6 yX6_freeFrom yX6_freeFrom, Cond.code yX6_freeFrom cX6_freeFrom 6 (some .int), Cond.classLink RX6 134 "PilotBook$Passage", Cond.methodLink RX6 150 yX1_end, Cond.instanceMethod yX1_end, Cond.selects RX1 yX1_end yX1_end, Cond.code yX1_end cX1_end 1 (some .int)]
def wsL_told_r5 : List Cond := [Cond.fieldLink RX1 19 "PilotBook$Passage" "begin" "I", Cond.methodLink RX6 266 yX6_canBegin, Cond.instanceMethod yX6_canBegin, Cond.selects RX6 yX6_canBegin yX6_canBegin, Cond.code yX6_canBegin cX6_canBegin 3 (some .boolean), Cond.fieldLink RX6 32 "PilotBook" "barDepth" "I", Cond.methodLink RX6 270 yX6_hasClearWay, Cond.instanceMethod yX6_hasClearWay, Cond.selects RX6 yX6_hasClearWay yX6_hasClearWay, Cond.code yX6_hasClearWay cX6_hasClearWay 6 (some .boolean), Cond.methodLink RX6 282 Lib.Math.abs.name, Cond.static Lib.Math.abs.name, Cond.code Lib.Math.abs.name Lib.Math.abs.code 1 (some .int), Cond.methodLink RX6 273 yX3_barMinute, Cond.instanceMethod yX3_barMinute, Cond.selects RX3 yX3_barMinute yX3_barMinute, Cond.code yX3_barMinute cX3_barMinute 2 (some .int), Cond.methodLink RX6 125 yX6_hasWater, Cond.instanceMethod yX6_hasWater, Cond.selects RX6 yX6_hasWater yX6_hasWater, Cond.code yX6_hasWater cX6_hasWater 4 (some .boolean), Cond.fieldLink RX6 12 "PilotBook" "tide" "LPilotBook$Tide;", Cond.methodLink RX6 72 yX5_heightAt, Cond.instanceMethod yX5_heightAt]
def wsL_told_r6 : List Cond := [Cond.selects RX5 yX5_heightAt yX5_heightAt, Cond.initialized RX5, Cond.code yX5_heightAt cX5_heightAt 6 (some .int), Cond.fieldLink RX5 18 "PilotBook$Tide" "size" "I", Cond.fieldLink RX5 15 "PilotBook$Tide" "heights" "[I", Cond.fieldLink RX5 9 "PilotBook$Tide" "times" "[I", Cond.methodLink RX5 22 yX5_pointsUpTo, Cond.instanceMethod yX5_pointsUpTo, Cond.selects RX5 yX5_pointsUpTo yX5_pointsUpTo, Cond.code yX5_pointsUpTo cX5_pointsUpTo 3 (some .int), Cond.methodLink RX6 115 yX6_waterNeed, Cond.instanceMethod yX6_waterNeed, Cond.selects RX6 yX6_waterNeed yX6_waterNeed, Cond.code yX6_waterNeed cX6_waterNeed 2 (some .int), Cond.fieldLink RX6 36 "PilotBook" "margin" "I", Cond.methodLink RX6 276 yX3_berthMinute, Cond.instanceMethod yX3_berthMinute, Cond.selects RX3 yX3_berthMinute yX3_berthMinute, Cond.code yX3_berthMinute cX3_berthMinute 2 (some .int), Cond.methodLink RX6 279 yX6_hasTugs, Cond.instanceMethod yX6_hasTugs, Cond.selects RX6 yX6_hasTugs yX6_hasTugs, Cond.code yX6_hasTugs cX6_hasTugs 7 (some .boolean), Cond.fieldLink RX6 39 "PilotBook" "tugs" "I"]
def wsL_told_r7 : List Cond := [Cond.methodLink RX6 285 yX3_tugsFrom, Cond.instanceMethod yX3_tugsFrom, Cond.selects RX3 yX3_tugsFrom yX3_tugsFrom, Cond.code yX3_tugsFrom cX3_tugsFrom 2 (some .int), Cond.methodLink RX6 218 yX6_tugsInUse, Cond.instanceMethod yX6_tugsInUse, Cond.selects RX6 yX6_tugsInUse yX6_tugsInUse, Cond.code yX6_tugsInUse cX6_tugsInUse 6 (some .int), Cond.methodLink RX6 288 yX1_tugsFrom, Cond.instanceMethod yX1_tugsFrom, Cond.selects RX1 yX1_tugsFrom yX1_tugsFrom, Cond.code yX1_tugsFrom cX1_tugsFrom 1 (some .int), Cond.fieldLink RX1 9 "PilotBook$Passage" "route" "LPilotBook$Route;", Cond.methodLink RX1 54 yX3_tugsFrom, Cond.methodLink RX6 170 yX6_pilotFor, Cond.instanceMethod yX6_pilotFor, Cond.selects RX6 yX6_pilotFor yX6_pilotFor, Cond.code yX6_pilotFor cX6_pilotFor 6 (some (.object "PilotBook$Pilot")), Cond.fieldLink RX6 26 "PilotBook" "pilots" "Ljava/util/ArrayList;", Cond.classLink RX6 103 "PilotBook$Pilot", Cond.methodLink RX6 290 yX2_canTake, Cond.instanceMethod yX2_canTake, Cond.selects RX2 yX2_canTake yX2_canTake, Cond.initialized RX2]
def wsL_told_r8 : List Cond := [Cond.code yX2_canTake cX2_canTake 4 (some .boolean), Cond.fieldLink RX2 19 "PilotBook$Pilot" "limit" "I", Cond.fieldLink RX2 9 "PilotBook$Pilot" "latest" "LPilotBook$Passage;", Cond.methodLink RX2 50 yX2_endsInPort, Cond.instanceMethod yX2_endsInPort, Cond.selects RX2 yX2_endsInPort yX2_endsInPort, Cond.code yX2_endsInPort cX2_endsInPort 1 (some .boolean), Cond.fieldLink RX2 22 "PilotBook$Pilot" "startsInPort" "Z", Cond.methodLink RX2 37 yX1_end, Cond.methodLink RX6 293 yX2_latestEnd, Cond.instanceMethod yX2_latestEnd, Cond.selects RX2 yX2_latestEnd yX2_latestEnd, Cond.code yX2_latestEnd cX2_latestEnd 1 (some .int), Cond.methodLink RX6 176 yX1_init, Cond.instanceMethod yX1_init, Cond.code yX1_init cX1_init 5 none, Cond.methodLink RX1 3 objectInit, Cond.fieldLink RX1 15 "PilotBook$Passage" "askedFrom" "I", Cond.fieldLink RX1 22 "PilotBook$Passage" "pilot" "LPilotBook$Pilot;", Cond.fieldLink RX1 38 "PilotBook$Passage" "shipBefore" "LPilotBook$Passage;", Cond.fieldLink RX1 44 "PilotBook$Passage" "pilotBefore" "LPilotBook$Passage;", Cond.fieldLink RX1 51 "PilotBook$Passage" "berthUntil" "I", Cond.methodLink RX6 179 yX6_enter, Cond.instanceMethod yX6_enter]
def wsL_told_r9 : List Cond := [Cond.selects RX6 yX6_enter yX6_enter, Cond.code yX6_enter cX6_enter 2 none, Cond.methodLink RX6 86 yJx4a65c_add_9ea2d, Cond.instanceMethod yJx4a65c_add_9ea2d, Cond.selects RJx4a65c yJx4a65c_add_9ea2d yJx4a65c_add_9ea2d, Cond.code yJx4a65c_add_9ea2d cJx4a65c_add_9ea2d 2 (some .boolean), Cond.fieldLink RJx4a65c 63 "java/util/ArrayList" "modCount" "I", Cond.sameField "java/util/ArrayList" "java/util/AbstractList" "modCount" "I", Cond.methodLink RJx4a65c 131 yJx4a65c_add_72be8, Cond.instanceMethod yJx4a65c_add_72be8, Cond.selects RJx4a65c yJx4a65c_add_72be8 yJx4a65c_add_72be8, Cond.code yJx4a65c_add_72be8 cJx4a65c_add_72be8 4 none, Cond.methodLink RJx4a65c 129 yJx4a65c_grow_d5877, Cond.instanceMethod yJx4a65c_grow_d5877, Cond.selects RJx4a65c yJx4a65c_grow_d5877 yJx4a65c_grow_d5877, Cond.code yJx4a65c_grow_d5877 cJx4a65c_grow_d5877 1 (some (.array (.object "java/lang/Object"))), Cond.methodLink RJx4a65c 69 yJx4a65c_grow_92f84, Cond.instanceMethod yJx4a65c_grow_92f84, Cond.selects RJx4a65c yJx4a65c_grow_92f84 yJx4a65c_grow_92f84, Cond.code yJx4a65c_grow_92f84 cJx4a65c_grow_92f84 4 (some (.array (.object "java/lang/Object"))), Cond.fieldLink RJx4a65c 39 "java/util/ArrayList" "DEFAULTCAPACITY_EMPTY_ELEMENTDATA" "[Ljava/lang/Object;", Cond.methodLink RJx4a65c 79 Lib.Math.max.name, Cond.classLink RJx4a65c 7 "java/lang/Object", Cond.methodLink RJx4a65c 73 yJ8_newLength_cabcc]
def wsL_told_r10 : List Cond := [Cond.static yJ8_newLength_cabcc, Cond.initialized RJ8, Cond.code yJ8_newLength_cabcc cJ8_newLength_cabcc 4 (some .int), Cond.methodLink RJ8 194 Lib.Math.max.name, Cond.constant RJ8 200 (2147483639), Cond.methodLink RJ8 201 yJ8_hugeLength_7cf53, Cond.static yJ8_hugeLength_7cf53, Cond.code yJ8_hugeLength_7cf53 cJ8_hugeLength_7cf53 3 (some .int), Cond.methodLink RJx4a65c 66 yJ7_copyOf_1904c, Cond.static yJ7_copyOf_1904c, Cond.initialized RJ7, Cond.code yJ7_copyOf_1904c cJ7_copyOf_1904c 2 (some (.array (.object "java/lang/Object"))), Cond.methodLink RJ7 86 ⟨"java/lang/Object", "getClass", "()Ljava/lang/Class;"⟩, Cond.selects "[Ljava/lang/Object;" ⟨"java/lang/Object", "getClass", "()Ljava/lang/Class;"⟩ ⟨"java/lang/Object", "getClass", "()Ljava/lang/Class;"⟩, Cond.instanceMethod ⟨"java/lang/Object", "getClass", "()Ljava/lang/Class;"⟩, Cond.native ⟨"java/lang/Object", "getClass", "()Ljava/lang/Class;"⟩, Cond.methodLink RJ7 300 yJ7_copyOf_6403c, Cond.static yJ7_copyOf_6403c, Cond.code yJ7_copyOf_6403c cJ7_copyOf_6403c 4 (some (.array (.object "java/lang/Object"))), Cond.classLink RJ7 110 "[Ljava/lang/Object;", Cond.classLink RJ7 2 "java/lang/Object", Cond.methodLink RJ7 304 Lib.Math.min.name, Cond.static Lib.Math.min.name, Cond.code Lib.Math.min.name Lib.Math.min.code 2 (some .int)]
def wsL_told_r11 : List Cond := [Cond.methodLink RJ7 150 arraycopyName, Cond.native arraycopyName, Cond.static arraycopyName, Cond.initialized "java/lang/System"]
def wsL_told : List Cond := .codeWith yL_told cL_told 5 (some .int) [(0, 7, 8, 79)] :: ((wsL_told_r1 ++ (wsL_told_r2 ++ (wsL_told_r3 ++ (wsL_told_r4 ++ (wsL_told_r5 ++ (wsL_told_r6 ++ (wsL_told_r7 ++ (wsL_told_r8 ++ (wsL_told_r9 ++ (wsL_told_r10 ++ wsL_told_r11)))))))))) ++ wsX60 ++ wsX10 ++ wsJx4a65c0 ++ wsX40 ++ wsX30 ++ wsX00 ++ wsX50 ++ wsX20 ++ (vx_atS RX6 65 "java/lang/IllegalStateException" ["java/lang/RuntimeException", "java/lang/Exception"]).filter goodWord ++ (vx_atS RX6 114 "java/lang/IndexOutOfBoundsException" ["java/lang/RuntimeException", "java/lang/Exception"]).filter goodWord ++ (vx_atS RX6 242 "java/lang/IllegalArgumentException" ["java/lang/RuntimeException", "java/lang/Exception"]).filter goodWord)
def wsL_law0_r1 : List Cond := [Cond.classLink RL 20 RX6, Cond.instantiable RX6 8, Cond.initialized RX6, Cond.arrayClass .int, Cond.classLink RL 99 "[I", Cond.methodLink RL 94 yX6_init, Cond.instanceMethod yX6_init, Cond.code yX6_init cX6_init 1 none, Cond.methodLink RX6 3 objectInit, Cond.instanceMethod objectInit, Cond.code objectInit ⟨#[0xb1]⟩ 1 none, Cond.classLink RX6 9 RX5, Cond.instantiable RX5 3, Cond.initialized RX5, Cond.fieldLink RX6 12 "PilotBook" "tide" "LPilotBook$Tide;", Cond.classLink RX6 16 RJx4a65c, Cond.instantiable RJx4a65c 3, Cond.initialized RJx4a65c, Cond.fieldLink RX6 19 "PilotBook" "berths" "Ljava/util/ArrayList;", Cond.fieldLink RX6 23 "PilotBook" "ships" "Ljava/util/ArrayList;", Cond.fieldLink RX6 26 "PilotBook" "pilots" "Ljava/util/ArrayList;", Cond.fieldLink RX6 29 "PilotBook" "passages" "Ljava/util/ArrayList;", Cond.fieldLink RX6 32 "PilotBook" "barDepth" "I", Cond.fieldLink RX6 36 "PilotBook" "margin" "I"]
def wsL_law0_r2 : List Cond := [Cond.fieldLink RX6 39 "PilotBook" "tugs" "I", Cond.methodLink RX6 11 yX5_init, Cond.instanceMethod yX5_init, Cond.code yX5_init cX5_init 1 none, Cond.methodLink RX5 3 objectInit, Cond.fieldLink RX5 9 "PilotBook$Tide" "times" "[I", Cond.fieldLink RX5 15 "PilotBook$Tide" "heights" "[I", Cond.fieldLink RX5 18 "PilotBook$Tide" "size" "I", Cond.methodLink RX6 18 yJx4a65c_init_da8c8, Cond.instanceMethod yJx4a65c_init_da8c8, Cond.code yJx4a65c_init_da8c8 cJx4a65c_init_da8c8 1 none, Cond.fieldLink RJx4a65c 39 "java/util/ArrayList" "DEFAULTCAPACITY_EMPTY_ELEMENTDATA" "[Ljava/lang/Object;", Cond.fieldLink RJx4a65c 9 "java/util/ArrayList" "elementData" "[Ljava/lang/Object;", Cond.methodLink RJx4a65c 1 yJxc12de_init_da8c8, Cond.instanceMethod yJxc12de_init_da8c8, Cond.initialized RJxc12de, Cond.code yJxc12de_init_da8c8 cJxc12de_init_da8c8 1 none, Cond.fieldLink RJxc12de 7 "java/util/AbstractList" "modCount" "I", Cond.methodLink RJxc12de 1 yJxa1e45_init_da8c8, Cond.instanceMethod yJxa1e45_init_da8c8, Cond.initialized RJxa1e45, Cond.code yJxa1e45_init_da8c8 cJxa1e45_init_da8c8 1 none, Cond.methodLink RJxa1e45 1 objectInit, Cond.methodLink RL 95 yL_build]
def wsL_law0_r3 : List Cond := [Cond.static yL_build, Cond.initialized RL, Cond.code yL_build cL_build 10 (some (.array .int)), Cond.methodLink RL 9 yL_cell, Cond.static yL_cell, Cond.code yL_cell cL_cell 2 (some .int), Cond.constant RL 8 (790386105), Cond.methodLink RL 15 yL_below, Cond.static yL_below, Cond.code yL_below cL_below 2 (some .int), Cond.constant RL 7 (2147483647), Cond.methodLink RL 19 yX6_addTide, Cond.instanceMethod yX6_addTide, Cond.selects RX6 yX6_addTide yX6_addTide, Cond.code yX6_addTide cX6_addTide 3 (some .int), Cond.classLink RX6 61 "java/lang/IllegalStateException", Cond.initialized "java/lang/IllegalStateException", Cond.methodLink RX6 42 yX6_checkTime, Cond.static yX6_checkTime, Cond.code yX6_checkTime cX6_checkTime 1 none, Cond.methodLink RX6 46 yX6_checkRange, Cond.static yX6_checkRange, Cond.code yX6_checkRange cX6_checkRange 3 none, Cond.classLink RX6 238 "java/lang/IllegalArgumentException"]
def wsL_law0_r4 : List Cond := [Cond.initialized "java/lang/IllegalArgumentException", Cond.methodLink RX6 50 yJx4a65c_isEmpty_aae02, Cond.instanceMethod yJx4a65c_isEmpty_aae02, Cond.selects RJx4a65c yJx4a65c_isEmpty_aae02 yJx4a65c_isEmpty_aae02, Cond.code yJx4a65c_isEmpty_aae02 cJx4a65c_isEmpty_aae02 1 (some .boolean), Cond.fieldLink RJx4a65c 48 "java/util/ArrayList" "size" "I", Cond.methodLink RX6 57 yX5_hasPointAt, Cond.instanceMethod yX5_hasPointAt, Cond.selects RX5 yX5_hasPointAt yX5_hasPointAt, Cond.code yX5_hasPointAt cX5_hasPointAt 3 (some .boolean), Cond.methodLink RX5 22 yX5_pointsUpTo, Cond.instanceMethod yX5_pointsUpTo, Cond.selects RX5 yX5_pointsUpTo yX5_pointsUpTo, Cond.code yX5_pointsUpTo cX5_pointsUpTo 3 (some .int), Cond.methodLink RX6 68 yX5_insert, Cond.instanceMethod yX5_insert, Cond.selects RX5 yX5_insert yX5_insert, Cond.code yX5_insert cX5_insert 5 none, Cond.methodLink RL 24 yX6_setWater, Cond.instanceMethod yX6_setWater, Cond.selects RX6 yX6_setWater yX6_setWater, Cond.code yX6_setWater cX6_setWater 4 (some .int), Cond.methodLink RL 27 yX6_setTugs, Cond.instanceMethod yX6_setTugs]
def wsL_law0_r5 : List Cond := [Cond.selects RX6 yX6_setTugs yX6_setTugs, Cond.code yX6_setTugs cX6_setTugs 3 (some .int), Cond.methodLink RL 31 yX6_addBerth, Cond.instanceMethod yX6_addBerth, Cond.selects RX6 yX6_addBerth yX6_addBerth, Cond.code yX6_addBerth cX6_addBerth 4 (some .int), Cond.classLink RX6 82 RX0, Cond.instantiable RX0 3, Cond.initialized RX0, Cond.methodLink RX6 76 yJx4a65c_size_8abf5, Cond.instanceMethod yJx4a65c_size_8abf5, Cond.selects RJx4a65c yJx4a65c_size_8abf5 yJx4a65c_size_8abf5, Cond.code yJx4a65c_size_8abf5 cJx4a65c_size_8abf5 1 (some .int), Cond.methodLink RX6 79 yX6_checkRoom, Cond.static yX6_checkRoom, Cond.code yX6_checkRoom cX6_checkRoom 2 none, Cond.methodLink RX6 84 yX0_init, Cond.instanceMethod yX0_init, Cond.code yX0_init cX0_init 4 none, Cond.methodLink RX0 1 objectInit, Cond.fieldLink RX0 7 "PilotBook$Berth" "number" "I", Cond.fieldLink RX0 13 "PilotBook$Berth" "length" "I", Cond.fieldLink RX0 16 "PilotBook$Berth" "depth" "I", Cond.methodLink RX6 86 yJx4a65c_add_9ea2d]
def wsL_law0_r6 : List Cond := [Cond.instanceMethod yJx4a65c_add_9ea2d, Cond.selects RJx4a65c yJx4a65c_add_9ea2d yJx4a65c_add_9ea2d, Cond.code yJx4a65c_add_9ea2d cJx4a65c_add_9ea2d 2 (some .boolean), Cond.fieldLink RJx4a65c 63 "java/util/ArrayList" "modCount" "I", Cond.sameField "java/util/ArrayList" "java/util/AbstractList" "modCount" "I", Cond.methodLink RJx4a65c 131 yJx4a65c_add_72be8, Cond.instanceMethod yJx4a65c_add_72be8, Cond.selects RJx4a65c yJx4a65c_add_72be8 yJx4a65c_add_72be8, Cond.code yJx4a65c_add_72be8 cJx4a65c_add_72be8 4 none, Cond.methodLink RJx4a65c 129 yJx4a65c_grow_d5877, Cond.instanceMethod yJx4a65c_grow_d5877, Cond.selects RJx4a65c yJx4a65c_grow_d5877 yJx4a65c_grow_d5877, Cond.code yJx4a65c_grow_d5877 cJx4a65c_grow_d5877 1 (some (.array (.object "java/lang/Object"))), Cond.methodLink RJx4a65c 69 yJx4a65c_grow_92f84, Cond.instanceMethod yJx4a65c_grow_92f84, Cond.selects RJx4a65c yJx4a65c_grow_92f84 yJx4a65c_grow_92f84, Cond.code yJx4a65c_grow_92f84 cJx4a65c_grow_92f84 4 (some (.array (.object "java/lang/Object"))), Cond.methodLink RJx4a65c 79 Lib.Math.max.name, Cond.static Lib.Math.max.name, Cond.initialized "java/lang/Math", Cond.code Lib.Math.max.name Lib.Math.max.code 2 (some .int), Cond.classLink RJx4a65c 7 "java/lang/Object", Cond.methodLink RJx4a65c 73 yJ8_newLength_cabcc, Cond.static yJ8_newLength_cabcc]
def wsL_law0_r7 : List Cond := [Cond.initialized RJ8, Cond.code yJ8_newLength_cabcc cJ8_newLength_cabcc 4 (some .int), Cond.methodLink RJ8 194 Lib.Math.max.name, Cond.constant RJ8 200 (2147483639), Cond.methodLink RJ8 201 yJ8_hugeLength_7cf53, Cond.static yJ8_hugeLength_7cf53, Cond.code yJ8_hugeLength_7cf53 cJ8_hugeLength_7cf53 3 (some .int), Cond.methodLink RJx4a65c 66 yJ7_copyOf_1904c, Cond.static yJ7_copyOf_1904c, Cond.initialized RJ7, Cond.code yJ7_copyOf_1904c cJ7_copyOf_1904c 2 (some (.array (.object "java/lang/Object"))), Cond.methodLink RJ7 86 ⟨"java/lang/Object", "getClass", "()Ljava/lang/Class;"⟩, Cond.selects "[Ljava/lang/Object;" ⟨"java/lang/Object", "getClass", "()Ljava/lang/Class;"⟩ ⟨"java/lang/Object", "getClass", "()Ljava/lang/Class;"⟩, Cond.instanceMethod ⟨"java/lang/Object", "getClass", "()Ljava/lang/Class;"⟩, Cond.native ⟨"java/lang/Object", "getClass", "()Ljava/lang/Class;"⟩, Cond.methodLink RJ7 300 yJ7_copyOf_6403c, Cond.static yJ7_copyOf_6403c, Cond.code yJ7_copyOf_6403c cJ7_copyOf_6403c 4 (some (.array (.object "java/lang/Object"))), Cond.classLink RJ7 110 "[Ljava/lang/Object;", Cond.classLink RJ7 2 "java/lang/Object", Cond.methodLink RJ7 304 Lib.Math.min.name, Cond.static Lib.Math.min.name, Cond.code Lib.Math.min.name Lib.Math.min.code 2 (some .int), Cond.methodLink RJ7 150 arraycopyName]
def wsL_law0_r8 : List Cond := [Cond.native arraycopyName, Cond.static arraycopyName, Cond.initialized "java/lang/System", Cond.methodLink RL 34 yX6_addShip, Cond.instanceMethod yX6_addShip, Cond.selects RX6 yX6_addShip yX6_addShip, Cond.code yX6_addShip cX6_addShip 4 (some .int), Cond.classLink RX6 90 RX4, Cond.instantiable RX4 4, Cond.initialized RX4, Cond.methodLink RX6 92 yX4_init, Cond.instanceMethod yX4_init, Cond.code yX4_init cX4_init 4 none, Cond.methodLink RX4 1 objectInit, Cond.fieldLink RX4 7 "PilotBook$Ship" "latest" "LPilotBook$Passage;", Cond.fieldLink RX4 13 "PilotBook$Ship" "number" "I", Cond.fieldLink RX4 17 "PilotBook$Ship" "length" "I", Cond.fieldLink RX4 20 "PilotBook$Ship" "draft" "I", Cond.methodLink RL 37 yX6_addPilot, Cond.instanceMethod yX6_addPilot, Cond.selects RX6 yX6_addPilot yX6_addPilot, Cond.code yX6_addPilot cX6_addPilot 4 (some .int), Cond.classLink RX6 103 RX2, Cond.instantiable RX2 4]
def wsL_law0_r9 : List Cond := [Cond.initialized RX2, Cond.methodLink RX6 105 yX2_init, Cond.instanceMethod yX2_init, Cond.code yX2_init cX2_init 4 none, Cond.methodLink RX2 3 objectInit, Cond.fieldLink RX2 9 "PilotBook$Pilot" "latest" "LPilotBook$Passage;", Cond.fieldLink RX2 15 "PilotBook$Pilot" "number" "I", Cond.fieldLink RX2 19 "PilotBook$Pilot" "limit" "I", Cond.fieldLink RX2 22 "PilotBook$Pilot" "startsInPort" "Z", Cond.methodLink RL 41 yX6_count, Cond.instanceMethod yX6_count, Cond.selects RX6 yX6_count yX6_count, Cond.code yX6_count cX6_count 2 (some .int), Cond.classLink RX6 110 "java/lang/IndexOutOfBoundsException", Cond.initialized "java/lang/IndexOutOfBoundsException", Cond.methodLink RL 87 yL_told, Cond.static yL_told, Cond.codeWith yL_told cL_told 5 (some .int) [(0, 7, 8, 79)], Cond.classLink RL 79 "java/lang/IllegalStateException", Cond.methodLink RL 75 yX6_book, Cond.instanceMethod yX6_book, Cond.selects RX6 yX6_book yX6_book, Cond.code yX6_book cX6_book 8 (some .int), Cond.classLink RX6 134 RX1]
def wsL_law0_r10 : List Cond := [Cond.instantiable RX1 7, Cond.initialized RX1, Cond.methodLink RX6 119 yX6_checkCall, Cond.instanceMethod yX6_checkCall, Cond.selects RX6 yX6_checkCall yX6_checkCall, Cond.code yX6_checkCall cX6_checkCall 4 none, Cond.methodLink RX6 93 yX6_checkNumber, Cond.static yX6_checkNumber, Cond.code yX6_checkNumber cX6_checkNumber 2 none, Cond.methodLink RX6 160 yX6_routeOf, Cond.instanceMethod yX6_routeOf, Cond.selects RX6 yX6_routeOf yX6_routeOf, Cond.code yX6_routeOf cX6_routeOf 6 (some (.object "PilotBook$Route")), Cond.classLink RX6 90 "PilotBook$Ship", Cond.classLink RX6 140 RX3, Cond.instantiable RX3 4, Cond.initialized RX3, Cond.classLink RX6 82 "PilotBook$Berth", Cond.methodLink RX6 96 yJx4a65c_get_915e3, Cond.instanceMethod yJx4a65c_get_915e3, Cond.selects RJx4a65c yJx4a65c_get_915e3 yJx4a65c_get_915e3, Cond.code yJx4a65c_get_915e3 cJx4a65c_get_915e3 2 (some (.object "java/lang/Object")), Cond.methodLink RJx4a65c 118 yJ15_checkIndex_7cf53, Cond.static yJ15_checkIndex_7cf53]
def wsL_law0_r11 : List Cond := [Cond.initialized RJ15, Cond.code yJ15_checkIndex_7cf53 cJ15_checkIndex_7cf53 2 (some .int), Cond.methodLink RJ15 105 yJ3_checkIndex_8e157, Cond.static yJ3_checkIndex_8e157, Cond.initialized RJ3, Cond.code yJ3_checkIndex_8e157 cJ3_checkIndex_8e157 3 (some .int), Cond.methodLink RJx4a65c 123 yJx4a65c_elementData_915e3, Cond.instanceMethod yJx4a65c_elementData_915e3, Cond.selects RJx4a65c yJx4a65c_elementData_915e3 yJx4a65c_elementData_915e3, Cond.code yJx4a65c_elementData_915e3 cJx4a65c_elementData_915e3 2 (some (.object "java/lang/Object")), Cond.methodLink RX6 252 yX3_init, Cond.instanceMethod yX3_init, Cond.code yX3_init cX3_init 4 none, Cond.methodLink RX3 3 objectInit, Cond.fieldLink RX3 9 "PilotBook$Route" "ship" "LPilotBook$Ship;", Cond.fieldLink RX3 15 "PilotBook$Route" "berth" "LPilotBook$Berth;", Cond.fieldLink RX3 19 "PilotBook$Route" "isOutbound" "Z", Cond.fieldLink RX3 33 "PilotBook$Route" "tugs" "I", Cond.methodLink RX3 29 yX3_tugsForLength, Cond.static yX3_tugsForLength, Cond.code yX3_tugsForLength cX3_tugsForLength 1 (some .int), Cond.methodLink RX6 164 yX6_firstBegin, Cond.instanceMethod yX6_firstBegin, Cond.selects RX6 yX6_firstBegin yX6_firstBegin]
def wsL_law0_r12 : List Cond := [Cond.code yX6_firstBegin cX6_firstBegin 5 (some .int), Cond.methodLink RX6 263 Lib.Math.max.name, Cond.methodLink RX6 259 yX6_freeFrom, Cond.instanceMethod yX6_freeFrom, Cond.selects RX6 yX6_freeFrom yX6_freeFrom, Cond.code yX6_freeFrom cX6_freeFrom 6 (some .int), Cond.classLink RX6 134 "PilotBook$Passage", Cond.methodLink RX6 150 yX1_end, Cond.instanceMethod yX1_end, Cond.selects RX1 yX1_end yX1_end, Cond.code yX1_end cX1_end 1 (some .int), Cond.fieldLink RX1 19 "PilotBook$Passage" "begin" "I", Cond.methodLink RX6 266 yX6_canBegin, Cond.instanceMethod yX6_canBegin, Cond.selects RX6 yX6_canBegin yX6_canBegin, Cond.code yX6_canBegin cX6_canBegin 3 (some .boolean), Cond.methodLink RX6 270 yX6_hasClearWay, Cond.instanceMethod yX6_hasClearWay, Cond.selects RX6 yX6_hasClearWay yX6_hasClearWay, Cond.code yX6_hasClearWay cX6_hasClearWay 6 (some .boolean), Cond.methodLink RX6 282 Lib.Math.abs.name, Cond.static Lib.Math.abs.name, Cond.code Lib.Math.abs.name Lib.Math.abs.code 1 (some .int), Cond.methodLink RX6 273 yX3_barMinute]
def wsL_law0_r13 : List Cond := [Cond.instanceMethod yX3_barMinute, Cond.selects RX3 yX3_barMinute yX3_barMinute, Cond.code yX3_barMinute cX3_barMinute 2 (some .int), Cond.methodLink RX6 125 yX6_hasWater, Cond.instanceMethod yX6_hasWater, Cond.selects RX6 yX6_hasWater yX6_hasWater, Cond.code yX6_hasWater cX6_hasWater 4 (some .boolean), Cond.methodLink RX6 72 yX5_heightAt, Cond.instanceMethod yX5_heightAt, Cond.selects RX5 yX5_heightAt yX5_heightAt, Cond.code yX5_heightAt cX5_heightAt 6 (some .int), Cond.methodLink RX6 115 yX6_waterNeed, Cond.instanceMethod yX6_waterNeed, Cond.selects RX6 yX6_waterNeed yX6_waterNeed, Cond.code yX6_waterNeed cX6_waterNeed 2 (some .int), Cond.methodLink RX6 276 yX3_berthMinute, Cond.instanceMethod yX3_berthMinute, Cond.selects RX3 yX3_berthMinute yX3_berthMinute, Cond.code yX3_berthMinute cX3_berthMinute 2 (some .int), Cond.methodLink RX6 279 yX6_hasTugs, Cond.instanceMethod yX6_hasTugs, Cond.selects RX6 yX6_hasTugs yX6_hasTugs, Cond.code yX6_hasTugs cX6_hasTugs 7 (some .boolean), Cond.methodLink RX6 285 yX3_tugsFrom]
def wsL_law0_r14 : List Cond := [Cond.instanceMethod yX3_tugsFrom, Cond.selects RX3 yX3_tugsFrom yX3_tugsFrom, Cond.code yX3_tugsFrom cX3_tugsFrom 2 (some .int), Cond.methodLink RX6 218 yX6_tugsInUse, Cond.instanceMethod yX6_tugsInUse, Cond.selects RX6 yX6_tugsInUse yX6_tugsInUse, Cond.code yX6_tugsInUse cX6_tugsInUse 6 (some .int), Cond.methodLink RX6 288 yX1_tugsFrom, Cond.instanceMethod yX1_tugsFrom, Cond.selects RX1 yX1_tugsFrom yX1_tugsFrom, Cond.code yX1_tugsFrom cX1_tugsFrom 1 (some .int), Cond.fieldLink RX1 9 "PilotBook$Passage" "route" "LPilotBook$Route;", Cond.methodLink RX1 54 yX3_tugsFrom, Cond.methodLink RX6 170 yX6_pilotFor, Cond.instanceMethod yX6_pilotFor, Cond.selects RX6 yX6_pilotFor yX6_pilotFor, Cond.code yX6_pilotFor cX6_pilotFor 6 (some (.object "PilotBook$Pilot")), Cond.classLink RX6 103 "PilotBook$Pilot", Cond.methodLink RX6 290 yX2_canTake, Cond.instanceMethod yX2_canTake, Cond.selects RX2 yX2_canTake yX2_canTake, Cond.code yX2_canTake cX2_canTake 4 (some .boolean), Cond.methodLink RX2 50 yX2_endsInPort, Cond.instanceMethod yX2_endsInPort]
def wsL_law0_r15 : List Cond := [Cond.selects RX2 yX2_endsInPort yX2_endsInPort, Cond.code yX2_endsInPort cX2_endsInPort 1 (some .boolean), Cond.methodLink RX2 37 yX1_end, Cond.methodLink RX6 293 yX2_latestEnd, Cond.instanceMethod yX2_latestEnd, Cond.selects RX2 yX2_latestEnd yX2_latestEnd, Cond.code yX2_latestEnd cX2_latestEnd 1 (some .int), Cond.methodLink RX6 176 yX1_init, Cond.instanceMethod yX1_init, Cond.code yX1_init cX1_init 5 none, Cond.methodLink RX1 3 objectInit, Cond.fieldLink RX1 15 "PilotBook$Passage" "askedFrom" "I", Cond.fieldLink RX1 22 "PilotBook$Passage" "pilot" "LPilotBook$Pilot;", Cond.fieldLink RX1 38 "PilotBook$Passage" "shipBefore" "LPilotBook$Passage;", Cond.fieldLink RX1 44 "PilotBook$Passage" "pilotBefore" "LPilotBook$Passage;", Cond.fieldLink RX1 51 "PilotBook$Passage" "berthUntil" "I", Cond.methodLink RX6 179 yX6_enter, Cond.instanceMethod yX6_enter, Cond.selects RX6 yX6_enter yX6_enter, Cond.code yX6_enter cX6_enter 2 none, Cond.methodLink RL 85 yX6_earliest, Cond.instanceMethod yX6_earliest, Cond.selects RX6 yX6_earliest yX6_earliest, Cond.code yX6_earliest cX6_earliest 5 (some .int)]
def wsL_law0_r16 : List Cond := [Cond.methodLink RL 91 yX6_passage, Cond.instanceMethod yX6_passage, Cond.selects RX6 yX6_passage yX6_passage, Cond.code yX6_passage cX6_passage 4 (some .int), Cond.methodLink RL 71 yL_canBegin, Cond.static yL_canBegin, Cond.code yL_canBegin cL_canBegin 17 (some .boolean), Cond.methodLink RL 56 Lib.Math.abs.name, Cond.methodLink RL 45 yL_need, Cond.static yL_need, Cond.code yL_need cL_need 2 (some .int), Cond.methodLink RL 48 yL_height, Cond.static yL_height, Cond.code yL_height cL_height 5 (some .int), Cond.methodLink RL 52 yL_leaves, Cond.static yL_leaves, Cond.code yL_leaves cL_leaves 4 (some .int), Cond.constant RL 44 (100000), Cond.methodLink RL 61 yL_tugs, Cond.static yL_tugs, Cond.code yL_tugs cL_tugs 1 (some .int), Cond.methodLink RL 64 yL_tugsAt, Cond.static yL_tugsAt, Cond.code yL_tugsAt cL_tugsAt 6 (some .int)]
def wsL_law0_r17 : List Cond := [Cond.methodLink RL 67 yL_pilot, Cond.static yL_pilot, Cond.code yL_pilot cL_pilot 15 (some .int), Cond.methodLink RL 101 yX6_occupant, Cond.instanceMethod yX6_occupant, Cond.selects RX6 yX6_occupant yX6_occupant, Cond.code yX6_occupant cX6_occupant 5 (some .int), Cond.methodLink RX6 215 yX1_holdsBerthAt, Cond.instanceMethod yX1_holdsBerthAt, Cond.selects RX1 yX1_holdsBerthAt yX1_holdsBerthAt, Cond.code yX1_holdsBerthAt cX1_holdsBerthAt 2 (some .boolean)]
def wsL_law0 : List Cond := (wsL_law0_r1 ++ (wsL_law0_r2 ++ (wsL_law0_r3 ++ (wsL_law0_r4 ++ (wsL_law0_r5 ++ (wsL_law0_r6 ++ (wsL_law0_r7 ++ (wsL_law0_r8 ++ (wsL_law0_r9 ++ (wsL_law0_r10 ++ (wsL_law0_r11 ++ (wsL_law0_r12 ++ (wsL_law0_r13 ++ (wsL_law0_r14 ++ (wsL_law0_r15 ++ (wsL_law0_r16 ++ wsL_law0_r17)))))))))))))))) ++ wsX60 ++ wsX50 ++ wsJx4a65c0 ++ wsX00 ++ wsX40 ++ wsX20 ++ wsX10 ++ wsX30 ++ ([] : List Cond)
def wsL_law : List Cond := wsL_law0 ++ (vx_atS RX6 65 "java/lang/IllegalStateException" ["java/lang/RuntimeException", "java/lang/Exception"]).filter goodWord ++ (vx_atS RX6 242 "java/lang/IllegalArgumentException" ["java/lang/RuntimeException", "java/lang/Exception"]).filter goodWord ++ (vx_atS RX6 114 "java/lang/IndexOutOfBoundsException" ["java/lang/RuntimeException", "java/lang/Exception"]).filter goodWord
end
section
set_option maxRecDepth 20000 in
theorem wsLp_wsL_law0_r1 : ∀ w ∈ wsL_law0_r1, w ∈ lw_tbl := fun w h => (goodIn_r wsL_law0_r1 [39, 40, 17, 64, 633, 41, 42, 43, 44, 45, 46, 47, 48, 18, 91, 65, 66, 21, 92, 93, 94, 95, 96, 97] (by decide +kernel) (by decide +kernel) w h).1
set_option maxRecDepth 20000 in
theorem wsLp_wsL_law0_r2 : ∀ w ∈ wsL_law0_r2, w ∈ lw_tbl := fun w h => (goodIn_r wsL_law0_r2 [98, 49, 50, 51, 52, 53, 54, 55, 67, 68, 69, 77, 79, 70, 71, 20, 72, 81, 73, 74, 19, 75, 76, 383] (by decide +kernel) (by decide +kernel) w h).1
set_option maxRecDepth 20000 in
theorem wsLp_wsL_law0_r3 : ∀ w ∈ wsL_law0_r3, w ∈ lw_tbl := fun w h => by
  have e : wsL_law0_r3 = wsL_law0_r3.take 2 ++ (Cond.code yL_build cL_build 10 (some (.array .int)) :: wsL_law0_r3.drop 3) := rfl
  rw [e] at h
  rcases List.mem_append.mp h with h | h
  · exact (goodIn_r (wsL_law0_r3.take 2) [384, 16] (by decide +kernel) (by decide +kernel) w h).1
  · rcases List.mem_cons.mp h with rfl | h
    · exact List.mem_of_getElem? (i := 385) rfl
    · exact (goodIn_r (wsL_law0_r3.drop 3) [379, 380, 381, 382, 375, 376, 377, 378, 386, 387, 388, 389, 398, 26, 204, 205, 206, 207, 208, 209, 210] (by decide +kernel) (by decide +kernel) w h).1
set_option maxRecDepth 20000 in
theorem wsLp_wsL_law0_r4 : ∀ w ∈ wsL_law0_r4, w ∈ lw_tbl := fun w h => (goodIn_r wsL_law0_r4 [25, 390, 391, 392, 393, 80, 394, 395, 396, 397, 315, 316, 317, 318, 414, 415, 416, 417, 418, 419, 420, 421, 422, 423] (by decide +kernel) (by decide +kernel) w h).1
set_option maxRecDepth 20000 in
theorem wsLp_wsL_law0_r5 : ∀ w ∈ wsL_law0_r5, w ∈ lw_tbl := fun w h => (goodIn_r wsL_law0_r5 [424, 425, 427, 428, 429, 430, 247, 435, 27, 120, 121, 122, 123, 431, 432, 433, 436, 437, 438, 439, 440, 442, 444, 453] (by decide +kernel) (by decide +kernel) w h).1
set_option maxRecDepth 20000 in
theorem wsLp_wsL_law0_r6 : ∀ w ∈ wsL_law0_r6, w ∈ lw_tbl := fun w h => (goodIn_r wsL_law0_r6 [454, 455, 456, 82, 83, 457, 459, 12, 460, 461, 463, 13, 464, 465, 467, 14, 468, 507, 290, 29, 291, 508, 469, 470] (by decide +kernel) (by decide +kernel) w h).1
set_option maxRecDepth 20000 in
theorem wsLp_wsL_law0_r7 : ∀ w ∈ wsL_law0_r7, w ∈ lw_tbl := fun w h => (goodIn_r wsL_law0_r7 [28, 471, 472, 473, 474, 475, 476, 477, 478, 30, 479, 480, 650, 481, 494, 495, 496, 497, 498, 500, 501, 502, 503, 504] (by decide +kernel) (by decide +kernel) w h).1
set_option maxRecDepth 20000 in
theorem wsLp_wsL_law0_r8 : ∀ w ∈ wsL_law0_r8, w ∈ lw_tbl := fun w h => (goodIn_r wsL_law0_r8 [506, 505, 31, 509, 510, 511, 512, 244, 513, 32, 514, 515, 516, 517, 526, 518, 520, 524, 538, 539, 540, 541, 348, 542] (by decide +kernel) (by decide +kernel) w h).1
set_option maxRecDepth 20000 in
theorem wsLp_wsL_law0_r9 : ∀ w ∈ wsL_law0_r9, w ∈ lw_tbl := fun w h => (goodIn_r wsL_law0_r9 [33, 543, 544, 545, 546, 551, 547, 549, 550, 116, 117, 118, 119, 124, 34, 586, 587, 588, 589, 590, 591, 592, 593, 288] (by decide +kernel) (by decide +kernel) w h).1
set_option maxRecDepth 20000 in
theorem wsLp_wsL_law0_r10 : ∀ w ∈ wsL_law0_r10, w ∈ lw_tbl := fun w h => (goodIn_r wsL_law0_r10 [596, 38, 196, 198, 1, 199, 200, 201, 202, 226, 228, 2, 229, 244, 245, 246, 37, 247, 230, 231, 232, 233, 234, 235] (by decide +kernel) (by decide +kernel) w h).1
set_option maxRecDepth 20000 in
theorem wsLp_wsL_law0_r11 : ∀ w ∈ wsL_law0_r11, w ∈ lw_tbl := fun w h => (goodIn_r wsL_law0_r11 [35, 236, 237, 238, 36, 239, 240, 241, 242, 243, 248, 249, 250, 251, 255, 259, 261, 265, 252, 253, 254, 276, 278, 3] (by decide +kernel) (by decide +kernel) w h).1
set_option maxRecDepth 20000 in
theorem wsLp_wsL_law0_r12 : ∀ w ∈ wsL_law0_r12, w ∈ lw_tbl := fun w h => (goodIn_r wsL_law0_r12 [279, 289, 280, 282, 4, 283, 288, 284, 285, 286, 287, 605, 292, 294, 5, 295, 296, 298, 6, 299, 300, 301, 302, 303] (by decide +kernel) (by decide +kernel) w h).1
set_option maxRecDepth 20000 in
theorem wsLp_wsL_law0_r13 : ∀ w ∈ wsL_law0_r13, w ∈ lw_tbl := fun w h => (goodIn_r wsL_law0_r13 [304, 305, 306, 307, 309, 7, 310, 311, 312, 313, 314, 319, 321, 8, 322, 323, 324, 325, 326, 327, 329, 9, 330, 331] (by decide +kernel) (by decide +kernel) w h).1
set_option maxRecDepth 20000 in
theorem wsLp_wsL_law0_r14 : ∀ w ∈ wsL_law0_r14, w ∈ lw_tbl := fun w h => (goodIn_r wsL_law0_r14 [332, 333, 334, 335, 337, 10, 338, 339, 340, 341, 342, 601, 343, 344, 346, 11, 347, 348, 349, 350, 351, 352, 353, 354] (by decide +kernel) (by decide +kernel) w h).1
set_option maxRecDepth 20000 in
theorem wsLp_wsL_law0_r15 : ∀ w ∈ wsL_law0_r15, w ∈ lw_tbl := fun w h => (goodIn_r wsL_law0_r15 [355, 356, 357, 358, 359, 360, 361, 597, 598, 599, 600, 604, 607, 609, 611, 612, 629, 631, 15, 632, 192, 193, 194, 195] (by decide +kernel) (by decide +kernel) w h).1
set_option maxRecDepth 20000 in
theorem wsLp_wsL_law0_r16 : ∀ w ∈ wsL_law0_r16, w ∈ lw_tbl := fun w h => by
  have e : wsL_law0_r16 = wsL_law0_r16.take 6 ++ (Cond.code yL_canBegin cL_canBegin 17 (some .boolean) :: wsL_law0_r16.drop 7) := rfl
  rw [e] at h
  rcases List.mem_append.mp h with h | h
  · exact (goodIn_r (wsL_law0_r16.take 6) [362, 363, 364, 365, 567, 568] (by decide +kernel) (by decide +kernel) w h).1
  · rcases List.mem_cons.mp h with rfl | h
    · exact List.mem_of_getElem? (i := 569) rfl
    · exact (goodIn_r (wsL_law0_r16.drop 7) [576, 570, 571, 572, 573, 574, 575, 563, 564, 565, 566, 577, 578, 579, 580, 581, 582] (by decide +kernel) (by decide +kernel) w h).1
set_option maxRecDepth 20000 in
theorem wsLp_wsL_law0_r17 : ∀ w ∈ wsL_law0_r17, w ∈ lw_tbl := fun w h => (goodIn_r wsL_law0_r17 [583, 584, 585, 367, 368, 369, 370, 371, 372, 373, 374] (by decide +kernel) (by decide +kernel) w h).1
set_option maxRecDepth 20000 in
theorem wsLp_wsX60 : ∀ w ∈ wsX60, w ∈ lw_tbl := fun w h => (goodIn_r wsX60 [99, 101, 103, 105, 107, 109, 111, 113] (by decide +kernel) (by decide +kernel) w h).1
set_option maxRecDepth 20000 in
theorem wsLp_wsX50 : ∀ w ∈ wsX50, w ∈ lw_tbl := fun w h => (goodIn_r wsX50 [57, 59, 61] (by decide +kernel) (by decide +kernel) w h).1
set_option maxRecDepth 20000 in
theorem wsLp_wsJx4a65c0 : ∀ w ∈ wsJx4a65c0, w ∈ lw_tbl := fun w h => (goodIn_r wsJx4a65c0 [88, 84, 86] (by decide +kernel) (by decide +kernel) w h).1
set_option maxRecDepth 20000 in
theorem wsLp_wsX00 : ∀ w ∈ wsX00, w ∈ lw_tbl := fun w h => (goodIn_r wsX00 [446, 448, 450] (by decide +kernel) (by decide +kernel) w h).1
set_option maxRecDepth 20000 in
theorem wsLp_wsX40 : ∀ w ∈ wsX40, w ∈ lw_tbl := fun w h => (goodIn_r wsX40 [529, 531, 533, 535] (by decide +kernel) (by decide +kernel) w h).1
set_option maxRecDepth 20000 in
theorem wsLp_wsX20 : ∀ w ∈ wsX20, w ∈ lw_tbl := fun w h => (goodIn_r wsX20 [554, 556, 558, 560] (by decide +kernel) (by decide +kernel) w h).1
set_option maxRecDepth 20000 in
theorem wsLp_wsX10 : ∀ w ∈ wsX10, w ∈ lw_tbl := fun w h => (goodIn_r wsX10 [614, 616, 618, 620, 622, 624, 626] (by decide +kernel) (by decide +kernel) w h).1
set_option maxRecDepth 20000 in
theorem wsLp_wsX30 : ∀ w ∈ wsX30, w ∈ lw_tbl := fun w h => (goodIn_r wsX30 [267, 269, 271, 273] (by decide +kernel) (by decide +kernel) w h).1
theorem wsL_law_in0 : ∀ w ∈ wsL_law0, w ∈ lw_tbl := fun w => (fun h => (List.mem_append.mp h).elim ((fun h => (List.mem_append.mp h).elim ((fun h => (List.mem_append.mp h).elim ((fun h => (List.mem_append.mp h).elim ((fun h => (List.mem_append.mp h).elim ((fun h => (List.mem_append.mp h).elim ((fun h => (List.mem_append.mp h).elim ((fun h => (List.mem_append.mp h).elim ((fun h => (List.mem_append.mp h).elim ((fun h => (List.mem_append.mp h).elim (wsLp_wsL_law0_r1 w) ((fun h => (List.mem_append.mp h).elim (wsLp_wsL_law0_r2 w) ((fun h => (List.mem_append.mp h).elim (wsLp_wsL_law0_r3 w) ((fun h => (List.mem_append.mp h).elim (wsLp_wsL_law0_r4 w) ((fun h => (List.mem_append.mp h).elim (wsLp_wsL_law0_r5 w) ((fun h => (List.mem_append.mp h).elim (wsLp_wsL_law0_r6 w) ((fun h => (List.mem_append.mp h).elim (wsLp_wsL_law0_r7 w) ((fun h => (List.mem_append.mp h).elim (wsLp_wsL_law0_r8 w) ((fun h => (List.mem_append.mp h).elim (wsLp_wsL_law0_r9 w) ((fun h => (List.mem_append.mp h).elim (wsLp_wsL_law0_r10 w) ((fun h => (List.mem_append.mp h).elim (wsLp_wsL_law0_r11 w) ((fun h => (List.mem_append.mp h).elim (wsLp_wsL_law0_r12 w) ((fun h => (List.mem_append.mp h).elim (wsLp_wsL_law0_r13 w) ((fun h => (List.mem_append.mp h).elim (wsLp_wsL_law0_r14 w) ((fun h => (List.mem_append.mp h).elim (wsLp_wsL_law0_r15 w) ((fun h => (List.mem_append.mp h).elim (wsLp_wsL_law0_r16 w) (wsLp_wsL_law0_r17 w))))))))))))))))))))))))))))))))) (wsLp_wsX60 w))) (wsLp_wsX50 w))) (wsLp_wsJx4a65c0 w))) (wsLp_wsX00 w))) (wsLp_wsX40 w))) (wsLp_wsX20 w))) (wsLp_wsX10 w))) (wsLp_wsX30 w))) ((fun h => absurd h List.not_mem_nil)))
theorem wsL_law_x0 : ∀ w ∈ (vx_atS RX6 65 "java/lang/IllegalStateException" ["java/lang/RuntimeException", "java/lang/Exception"]).filter goodWord, w ∈ lw_tbl := by decide +kernel
theorem wsL_law_x1 : ∀ w ∈ (vx_atS RX6 242 "java/lang/IllegalArgumentException" ["java/lang/RuntimeException", "java/lang/Exception"]).filter goodWord, w ∈ lw_tbl := by decide +kernel
theorem wsL_law_x2 : ∀ w ∈ (vx_atS RX6 114 "java/lang/IndexOutOfBoundsException" ["java/lang/RuntimeException", "java/lang/Exception"]).filter goodWord, w ∈ lw_tbl := by decide +kernel
theorem wsL_law_in : ∀ w ∈ wsL_law, w ∈ lw_tbl := fun w h => (List.mem_append.mp h).elim (fun h => (List.mem_append.mp h).elim (fun h => (List.mem_append.mp h).elim (fun h => wsL_law_in0 w h) (fun h => wsL_law_x0 w h)) (fun h => wsL_law_x1 w h)) (fun h => wsL_law_x2 w h)
theorem inlX0 : ∀ w ∈ wsX00, w ∈ wsL_law := fun _ h => List.mem_append_left _ (List.mem_append_left _ (List.mem_append_left _ (List.mem_append_left _ (List.mem_append_left _ (List.mem_append_left _ (List.mem_append_left _ (List.mem_append_left _ (List.mem_append_right _ h))))))))
theorem inX0 : ∀ w ∈ wsX00, w ∈ lw_tbl := fun w h => wsL_law_in w (inlX0 w h)
theorem inlX1 : ∀ w ∈ wsX10, w ∈ wsL_law := fun _ h => List.mem_append_left _ (List.mem_append_left _ (List.mem_append_left _ (List.mem_append_left _ (List.mem_append_left _ (List.mem_append_right _ h)))))
theorem inX1 : ∀ w ∈ wsX10, w ∈ lw_tbl := fun w h => wsL_law_in w (inlX1 w h)
theorem inlX2 : ∀ w ∈ wsX20, w ∈ wsL_law := fun _ h => List.mem_append_left _ (List.mem_append_left _ (List.mem_append_left _ (List.mem_append_left _ (List.mem_append_left _ (List.mem_append_left _ (List.mem_append_right _ h))))))
theorem inX2 : ∀ w ∈ wsX20, w ∈ lw_tbl := fun w h => wsL_law_in w (inlX2 w h)
theorem inlX3 : ∀ w ∈ wsX30, w ∈ wsL_law := fun _ h => List.mem_append_left _ (List.mem_append_left _ (List.mem_append_left _ (List.mem_append_left _ (List.mem_append_right _ h))))
theorem inX3 : ∀ w ∈ wsX30, w ∈ lw_tbl := fun w h => wsL_law_in w (inlX3 w h)
theorem inlX4 : ∀ w ∈ wsX40, w ∈ wsL_law := fun _ h => List.mem_append_left _ (List.mem_append_left _ (List.mem_append_left _ (List.mem_append_left _ (List.mem_append_left _ (List.mem_append_left _ (List.mem_append_left _ (List.mem_append_right _ h)))))))
theorem inX4 : ∀ w ∈ wsX40, w ∈ lw_tbl := fun w h => wsL_law_in w (inlX4 w h)
theorem inlX5 : ∀ w ∈ wsX50, w ∈ wsL_law := fun _ h => List.mem_append_left _ (List.mem_append_left _ (List.mem_append_left _ (List.mem_append_left _ (List.mem_append_left _ (List.mem_append_left _ (List.mem_append_left _ (List.mem_append_left _ (List.mem_append_left _ (List.mem_append_left _ (List.mem_append_right _ h))))))))))
theorem inX5 : ∀ w ∈ wsX50, w ∈ lw_tbl := fun w h => wsL_law_in w (inlX5 w h)
theorem inlX6 : ∀ w ∈ wsX60, w ∈ wsL_law := fun _ h => List.mem_append_left _ (List.mem_append_left _ (List.mem_append_left _ (List.mem_append_left _ (List.mem_append_left _ (List.mem_append_left _ (List.mem_append_left _ (List.mem_append_left _ (List.mem_append_left _ (List.mem_append_left _ (List.mem_append_left _ (List.mem_append_right _ h)))))))))))
theorem inX6 : ∀ w ∈ wsX60, w ∈ lw_tbl := fun w h => wsL_law_in w (inlX6 w h)
theorem inX7 : ∀ w ∈ wsX70, w ∈ lw_tbl := by decide +kernel
theorem inJx145de : ∀ w ∈ wsJx145de0, w ∈ lw_tbl := by decide +kernel
theorem inJx8e188 : ∀ w ∈ wsJx8e1880, w ∈ lw_tbl := by decide +kernel
theorem inJxab1ab : ∀ w ∈ wsJxab1ab0, w ∈ lw_tbl := by decide +kernel
theorem inJ9 : ∀ w ∈ wsJ90, w ∈ lw_tbl := by decide +kernel
theorem inJ0 : ∀ w ∈ wsJ00, w ∈ lw_tbl := by decide +kernel
theorem inJ10 : ∀ w ∈ wsJ100, w ∈ lw_tbl := by decide +kernel
theorem inJxa1e45 : ∀ w ∈ wsJxa1e450, w ∈ lw_tbl := by decide +kernel
theorem inJxc12de : ∀ w ∈ wsJxc12de0, w ∈ lw_tbl := by decide +kernel
theorem inlJx4a65c : ∀ w ∈ wsJx4a65c0, w ∈ wsL_law := fun _ h => List.mem_append_left _ (List.mem_append_left _ (List.mem_append_left _ (List.mem_append_left _ (List.mem_append_left _ (List.mem_append_left _ (List.mem_append_left _ (List.mem_append_left _ (List.mem_append_left _ (List.mem_append_right _ h)))))))))
theorem inJx4a65c : ∀ w ∈ wsJx4a65c0, w ∈ lw_tbl := fun w h => wsL_law_in w (inlJx4a65c w h)
theorem inJ7 : ∀ w ∈ wsJ70, w ∈ lw_tbl := by decide +kernel
theorem inJx5ef63 : ∀ w ∈ wsJx5ef630, w ∈ lw_tbl := by decide +kernel
theorem inJxbd725 : ∀ w ∈ wsJxbd7250, w ∈ lw_tbl := by decide +kernel
theorem inJ15 : ∀ w ∈ wsJ150, w ∈ lw_tbl := by decide +kernel
theorem inJxf0a74 : ∀ w ∈ wsJxf0a740, w ∈ lw_tbl := by decide +kernel
theorem inJxa66e6 : ∀ w ∈ wsJxa66e60, w ∈ lw_tbl := by decide +kernel
theorem inJ8 : ∀ w ∈ wsJ80, w ∈ lw_tbl := by decide +kernel
theorem inJ3 : ∀ w ∈ wsJ30, w ∈ lw_tbl := by decide +kernel
end
section
theorem goodIn_k {big a : List Cond} {c : Cond} (i : Nat) (hi : big[i]? = some c) (hg : goodWord c = true) (h : GoodIn big a) : GoodIn big (c :: a) := fun w hw => (List.mem_cons.mp hw).elim (fun e => by subst e; exact ⟨List.mem_of_getElem? hi, good_of_word hg⟩) (h w)
theorem dX0_init_0 : decode cX0_init 0 = .ok (.aload_n 0, 1) := by decide +kernel
theorem dX0_init_1 : decode cX0_init 1 = .ok (.invokespecial 1, 3) := by decide +kernel
theorem dX0_init_4 : decode cX0_init 4 = .ok (.aload_n 0, 1) := by decide +kernel
theorem dX0_init_5 : decode cX0_init 5 = .ok (.iload_n 1, 1) := by decide +kernel
theorem dX0_init_6 : decode cX0_init 6 = .ok (.putfield 7, 3) := by decide +kernel
theorem dX0_init_9 : decode cX0_init 9 = .ok (.aload_n 0, 1) := by decide +kernel
theorem dX0_init_10 : decode cX0_init 10 = .ok (.iload_n 2, 1) := by decide +kernel
theorem dX0_init_11 : decode cX0_init 11 = .ok (.putfield 13, 3) := by decide +kernel
theorem dX0_init_14 : decode cX0_init 14 = .ok (.aload_n 0, 1) := by decide +kernel
theorem dX0_init_15 : decode cX0_init 15 = .ok (.iload_n 3, 1) := by decide +kernel
theorem dX0_init_16 : decode cX0_init 16 = .ok (.putfield 16, 3) := by decide +kernel
theorem dX0_init_19 : decode cX0_init 19 = .ok (.return_, 1) := by decide +kernel
theorem dX1_init_0 : decode cX1_init 0 = .ok (.aload_n 0, 1) := by decide +kernel
theorem dX1_init_1 : decode cX1_init 1 = .ok (.invokespecial 3, 3) := by decide +kernel
theorem dX1_init_4 : decode cX1_init 4 = .ok (.aload_n 0, 1) := by decide +kernel
theorem dX1_init_5 : decode cX1_init 5 = .ok (.aload_n 1, 1) := by decide +kernel
theorem dX1_init_6 : decode cX1_init 6 = .ok (.putfield 9, 3) := by decide +kernel
theorem dX1_init_9 : decode cX1_init 9 = .ok (.aload_n 0, 1) := by decide +kernel
theorem dX1_init_10 : decode cX1_init 10 = .ok (.iload_n 2, 1) := by decide +kernel
theorem dX1_init_11 : decode cX1_init 11 = .ok (.putfield 15, 3) := by decide +kernel
theorem dX1_init_14 : decode cX1_init 14 = .ok (.aload_n 0, 1) := by decide +kernel
theorem dX1_init_15 : decode cX1_init 15 = .ok (.iload_n 3, 1) := by decide +kernel
theorem dX1_init_16 : decode cX1_init 16 = .ok (.putfield 19, 3) := by decide +kernel
theorem dX1_init_19 : decode cX1_init 19 = .ok (.aload_n 0, 1) := by decide +kernel
theorem dX1_init_20 : decode cX1_init 20 = .ok (.aload 4, 2) := by decide +kernel
theorem dX1_init_22 : decode cX1_init 22 = .ok (.putfield 22, 3) := by decide +kernel
theorem dX1_init_25 : decode cX1_init 25 = .ok (.aload_n 0, 1) := by decide +kernel
theorem dX1_init_26 : decode cX1_init 26 = .ok (.aload_n 1, 1) := by decide +kernel
theorem dX1_init_27 : decode cX1_init 27 = .ok (.getfield 26, 3) := by decide +kernel
theorem dX1_init_30 : decode cX1_init 30 = .ok (.getfield 32, 3) := by decide +kernel
theorem dX1_init_33 : decode cX1_init 33 = .ok (.putfield 38, 3) := by decide +kernel
theorem dX1_init_36 : decode cX1_init 36 = .ok (.aload_n 0, 1) := by decide +kernel
theorem dX1_init_37 : decode cX1_init 37 = .ok (.aload 4, 2) := by decide +kernel
theorem dX1_init_39 : decode cX1_init 39 = .ok (.getfield 41, 3) := by decide +kernel
theorem dX1_init_42 : decode cX1_init 42 = .ok (.putfield 44, 3) := by decide +kernel
theorem dX1_init_45 : decode cX1_init 45 = .ok (.aload_n 0, 1) := by decide +kernel
theorem dX1_init_46 : decode cX1_init 46 = .ok (.aload_n 1, 1) := by decide +kernel
theorem dX1_init_47 : decode cX1_init 47 = .ok (.getfield 47, 3) := by decide +kernel
theorem dX1_init_50 : decode cX1_init 50 = .ok (.ifCond .eq 7, 3) := by decide +kernel
theorem dX1_init_53 : decode cX1_init 53 = .ok (.iload_n 3, 1) := by decide +kernel
theorem dX1_init_54 : decode cX1_init 54 = .ok (.goto 6, 3) := by decide +kernel
theorem dX1_init_57 : decode cX1_init 57 = .ok (.sipush 2880, 3) := by decide +kernel
theorem dX1_init_60 : decode cX1_init 60 = .ok (.putfield 51, 3) := by decide +kernel
theorem dX1_init_63 : decode cX1_init 63 = .ok (.return_, 1) := by decide +kernel
theorem dX1_end_0 : decode cX1_end 0 = .ok (.aload_n 0, 1) := by decide +kernel
theorem dX1_end_1 : decode cX1_end 1 = .ok (.getfield 19, 3) := by decide +kernel
theorem dX1_end_4 : decode cX1_end 4 = .ok (.bipush 60, 2) := by decide +kernel
theorem dX1_end_6 : decode cX1_end 6 = .ok (.iadd, 1) := by decide +kernel
theorem dX1_end_7 : decode cX1_end 7 = .ok (.ireturn, 1) := by decide +kernel
set_option maxRecDepth 20000 in
theorem ggX1_tugsFrom_X3_tugsFrom : GoodIn wsX1_tugsFrom wsX3_tugsFrom := goodIn_r _ [7, 8, 16, 17, 18, 19] (by decide +kernel) (by decide +kernel)
set_option maxRecDepth 20000 in
theorem gX1_tugsFrom_X3_tugsFrom : GoodIn wsX1_tugsFrom (wsV RX1 54 RX3 yX3_tugsFrom wsX3_tugsFrom) := goodIn_app (goodIn_of _ (by decide +kernel)) ggX1_tugsFrom_X3_tugsFrom
theorem dX1_tugsFrom_0 : decode cX1_tugsFrom 0 = .ok (.aload_n 0, 1) := by decide +kernel
theorem dX1_tugsFrom_1 : decode cX1_tugsFrom 1 = .ok (.getfield 9, 3) := by decide +kernel
theorem dX1_tugsFrom_4 : decode cX1_tugsFrom 4 = .ok (.aload_n 0, 1) := by decide +kernel
theorem dX1_tugsFrom_5 : decode cX1_tugsFrom 5 = .ok (.getfield 19, 3) := by decide +kernel
theorem dX1_tugsFrom_8 : decode cX1_tugsFrom 8 = .ok (.invokevirtual 54, 3) := by decide +kernel
theorem dX1_tugsFrom_11 : decode cX1_tugsFrom 11 = .ok (.ireturn, 1) := by decide +kernel
theorem dX1_holdsBerthAt_0 : decode cX1_holdsBerthAt 0 = .ok (.aload_n 0, 1) := by decide +kernel
theorem dX1_holdsBerthAt_1 : decode cX1_holdsBerthAt 1 = .ok (.getfield 19, 3) := by decide +kernel
theorem dX1_holdsBerthAt_4 : decode cX1_holdsBerthAt 4 = .ok (.iload_n 1, 1) := by decide +kernel
theorem dX1_holdsBerthAt_5 : decode cX1_holdsBerthAt 5 = .ok (.if_icmp .gt 15, 3) := by decide +kernel
theorem dX1_holdsBerthAt_8 : decode cX1_holdsBerthAt 8 = .ok (.iload_n 1, 1) := by decide +kernel
theorem dX1_holdsBerthAt_9 : decode cX1_holdsBerthAt 9 = .ok (.aload_n 0, 1) := by decide +kernel
theorem dX1_holdsBerthAt_10 : decode cX1_holdsBerthAt 10 = .ok (.getfield 51, 3) := by decide +kernel
theorem dX1_holdsBerthAt_13 : decode cX1_holdsBerthAt 13 = .ok (.if_icmp .ge 7, 3) := by decide +kernel
theorem dX1_holdsBerthAt_16 : decode cX1_holdsBerthAt 16 = .ok (.iconst 1, 1) := by decide +kernel
theorem dX1_holdsBerthAt_17 : decode cX1_holdsBerthAt 17 = .ok (.goto 4, 3) := by decide +kernel
theorem dX1_holdsBerthAt_20 : decode cX1_holdsBerthAt 20 = .ok (.iconst 0, 1) := by decide +kernel
theorem dX1_holdsBerthAt_21 : decode cX1_holdsBerthAt 21 = .ok (.ireturn, 1) := by decide +kernel
theorem dX2_init_0 : decode cX2_init 0 = .ok (.aload_n 0, 1) := by decide +kernel
theorem dX2_init_1 : decode cX2_init 1 = .ok (.invokespecial 3, 3) := by decide +kernel
theorem dX2_init_4 : decode cX2_init 4 = .ok (.aload_n 0, 1) := by decide +kernel
theorem dX2_init_5 : decode cX2_init 5 = .ok (.aconst_null, 1) := by decide +kernel
theorem dX2_init_6 : decode cX2_init 6 = .ok (.putfield 9, 3) := by decide +kernel
theorem dX2_init_9 : decode cX2_init 9 = .ok (.aload_n 0, 1) := by decide +kernel
theorem dX2_init_10 : decode cX2_init 10 = .ok (.iload_n 1, 1) := by decide +kernel
theorem dX2_init_11 : decode cX2_init 11 = .ok (.putfield 15, 3) := by decide +kernel
theorem dX2_init_14 : decode cX2_init 14 = .ok (.aload_n 0, 1) := by decide +kernel
theorem dX2_init_15 : decode cX2_init 15 = .ok (.iload_n 2, 1) := by decide +kernel
theorem dX2_init_16 : decode cX2_init 16 = .ok (.putfield 19, 3) := by decide +kernel
theorem dX2_init_19 : decode cX2_init 19 = .ok (.aload_n 0, 1) := by decide +kernel
theorem dX2_init_20 : decode cX2_init 20 = .ok (.iload_n 3, 1) := by decide +kernel
theorem dX2_init_21 : decode cX2_init 21 = .ok (.putfield 22, 3) := by decide +kernel
theorem dX2_init_24 : decode cX2_init 24 = .ok (.return_, 1) := by decide +kernel
theorem dX2_endsInPort_0 : decode cX2_endsInPort 0 = .ok (.aload_n 0, 1) := by decide +kernel
theorem dX2_endsInPort_1 : decode cX2_endsInPort 1 = .ok (.getfield 9, 3) := by decide +kernel
theorem dX2_endsInPort_4 : decode cX2_endsInPort 4 = .ok (.ifnonnull 10, 3) := by decide +kernel
theorem dX2_endsInPort_7 : decode cX2_endsInPort 7 = .ok (.aload_n 0, 1) := by decide +kernel
theorem dX2_endsInPort_8 : decode cX2_endsInPort 8 = .ok (.getfield 22, 3) := by decide +kernel
theorem dX2_endsInPort_11 : decode cX2_endsInPort 11 = .ok (.goto 21, 3) := by decide +kernel
theorem dX2_endsInPort_14 : decode cX2_endsInPort 14 = .ok (.aload_n 0, 1) := by decide +kernel
theorem dX2_endsInPort_15 : decode cX2_endsInPort 15 = .ok (.getfield 9, 3) := by decide +kernel
theorem dX2_endsInPort_18 : decode cX2_endsInPort 18 = .ok (.getfield 26, 3) := by decide +kernel
theorem dX2_endsInPort_21 : decode cX2_endsInPort 21 = .ok (.getfield 32, 3) := by decide +kernel
theorem dX2_endsInPort_24 : decode cX2_endsInPort 24 = .ok (.ifCond .ne 7, 3) := by decide +kernel
theorem dX2_endsInPort_27 : decode cX2_endsInPort 27 = .ok (.iconst 1, 1) := by decide +kernel
theorem dX2_endsInPort_28 : decode cX2_endsInPort 28 = .ok (.goto 4, 3) := by decide +kernel
theorem dX2_endsInPort_31 : decode cX2_endsInPort 31 = .ok (.iconst 0, 1) := by decide +kernel
theorem dX2_endsInPort_32 : decode cX2_endsInPort 32 = .ok (.ireturn, 1) := by decide +kernel
set_option maxRecDepth 20000 in
theorem ggX2_latestEnd_X1_end : GoodIn wsX2_latestEnd wsX1_end := goodIn_r _ [6, 7, 12, 13, 14, 15, 16, 17, 18] (by decide +kernel) (by decide +kernel)
set_option maxRecDepth 20000 in
theorem gX2_latestEnd_X1_end : GoodIn wsX2_latestEnd (wsV RX2 37 RX1 yX1_end wsX1_end) := goodIn_app (goodIn_of _ (by decide +kernel)) ggX2_latestEnd_X1_end
theorem dX2_latestEnd_0 : decode cX2_latestEnd 0 = .ok (.aload_n 0, 1) := by decide +kernel
theorem dX2_latestEnd_1 : decode cX2_latestEnd 1 = .ok (.getfield 9, 3) := by decide +kernel
theorem dX2_latestEnd_4 : decode cX2_latestEnd 4 = .ok (.ifnonnull 7, 3) := by decide +kernel
theorem dX2_latestEnd_7 : decode cX2_latestEnd 7 = .ok (.iconst (-1), 1) := by decide +kernel
theorem dX2_latestEnd_8 : decode cX2_latestEnd 8 = .ok (.goto 10, 3) := by decide +kernel
theorem dX2_latestEnd_11 : decode cX2_latestEnd 11 = .ok (.aload_n 0, 1) := by decide +kernel
theorem dX2_latestEnd_12 : decode cX2_latestEnd 12 = .ok (.getfield 9, 3) := by decide +kernel
theorem dX2_latestEnd_15 : decode cX2_latestEnd 15 = .ok (.invokevirtual 37, 3) := by decide +kernel
theorem dX2_latestEnd_18 : decode cX2_latestEnd 18 = .ok (.ireturn, 1) := by decide +kernel
set_option maxRecDepth 20000 in
theorem ggX2_canTake_X2_endsInPort : GoodIn wsX2_canTake wsX2_endsInPort := goodIn_r _ [7, 2, 8, 15, 16, 17, 18, 27, 28, 29, 30, 31, 32, 33, 19, 20, 21, 22] (by decide +kernel) (by decide +kernel)
set_option maxRecDepth 20000 in
theorem gX2_canTake_X2_endsInPort : GoodIn wsX2_canTake (wsV RX2 50 RX2 yX2_endsInPort wsX2_endsInPort) := goodIn_app (goodIn_of _ (by decide +kernel)) ggX2_canTake_X2_endsInPort
set_option maxRecDepth 20000 in
theorem ggX2_canTake_X1_end : GoodIn wsX2_canTake wsX1_end := goodIn_r _ [13, 14, 27, 28, 29, 30, 31, 32, 33] (by decide +kernel) (by decide +kernel)
set_option maxRecDepth 20000 in
theorem gX2_canTake_X1_end : GoodIn wsX2_canTake (wsV RX2 37 RX1 yX1_end wsX1_end) := goodIn_app (goodIn_of _ (by decide +kernel)) ggX2_canTake_X1_end
theorem dX2_canTake_0 : decode cX2_canTake 0 = .ok (.aload_n 0, 1) := by decide +kernel
theorem dX2_canTake_1 : decode cX2_canTake 1 = .ok (.getfield 19, 3) := by decide +kernel
theorem dX2_canTake_4 : decode cX2_canTake 4 = .ok (.aload_n 1, 1) := by decide +kernel
theorem dX2_canTake_5 : decode cX2_canTake 5 = .ok (.getfield 41, 3) := by decide +kernel
theorem dX2_canTake_8 : decode cX2_canTake 8 = .ok (.getfield 45, 3) := by decide +kernel
theorem dX2_canTake_11 : decode cX2_canTake 11 = .ok (.if_icmp .ge 5, 3) := by decide +kernel
theorem dX2_canTake_14 : decode cX2_canTake 14 = .ok (.iconst 0, 1) := by decide +kernel
theorem dX2_canTake_15 : decode cX2_canTake 15 = .ok (.ireturn, 1) := by decide +kernel
theorem dX2_canTake_16 : decode cX2_canTake 16 = .ok (.aload_n 0, 1) := by decide +kernel
theorem dX2_canTake_17 : decode cX2_canTake 17 = .ok (.invokevirtual 50, 3) := by decide +kernel
theorem dX2_canTake_20 : decode cX2_canTake 20 = .ok (.aload_n 1, 1) := by decide +kernel
theorem dX2_canTake_21 : decode cX2_canTake 21 = .ok (.getfield 32, 3) := by decide +kernel
theorem dX2_canTake_24 : decode cX2_canTake 24 = .ok (.if_icmp .ne 7, 3) := by decide +kernel
theorem dX2_canTake_27 : decode cX2_canTake 27 = .ok (.iconst 0, 1) := by decide +kernel
theorem dX2_canTake_28 : decode cX2_canTake 28 = .ok (.goto 5, 3) := by decide +kernel
theorem dX2_canTake_31 : decode cX2_canTake 31 = .ok (.bipush 60, 2) := by decide +kernel
theorem dX2_canTake_33 : decode cX2_canTake 33 = .ok (.istore_n 3, 1) := by decide +kernel
theorem dX2_canTake_34 : decode cX2_canTake 34 = .ok (.aload_n 0, 1) := by decide +kernel
theorem dX2_canTake_35 : decode cX2_canTake 35 = .ok (.getfield 9, 3) := by decide +kernel
theorem dX2_canTake_38 : decode cX2_canTake 38 = .ok (.ifnonnull 16, 3) := by decide +kernel
theorem dX2_canTake_41 : decode cX2_canTake 41 = .ok (.iload_n 2, 1) := by decide +kernel
theorem dX2_canTake_42 : decode cX2_canTake 42 = .ok (.iload_n 3, 1) := by decide +kernel
theorem dX2_canTake_43 : decode cX2_canTake 43 = .ok (.if_icmp .lt 7, 3) := by decide +kernel
theorem dX2_canTake_46 : decode cX2_canTake 46 = .ok (.iconst 1, 1) := by decide +kernel
theorem dX2_canTake_47 : decode cX2_canTake 47 = .ok (.goto 28, 3) := by decide +kernel
theorem dX2_canTake_50 : decode cX2_canTake 50 = .ok (.iconst 0, 1) := by decide +kernel
theorem dX2_canTake_51 : decode cX2_canTake 51 = .ok (.goto 24, 3) := by decide +kernel
theorem dX2_canTake_54 : decode cX2_canTake 54 = .ok (.iload_n 2, 1) := by decide +kernel
theorem dX2_canTake_55 : decode cX2_canTake 55 = .ok (.aload_n 0, 1) := by decide +kernel
theorem dX2_canTake_56 : decode cX2_canTake 56 = .ok (.getfield 9, 3) := by decide +kernel
theorem dX2_canTake_59 : decode cX2_canTake 59 = .ok (.invokevirtual 37, 3) := by decide +kernel
theorem dX2_canTake_62 : decode cX2_canTake 62 = .ok (.bipush 30, 2) := by decide +kernel
theorem dX2_canTake_64 : decode cX2_canTake 64 = .ok (.iadd, 1) := by decide +kernel
theorem dX2_canTake_65 : decode cX2_canTake 65 = .ok (.iload_n 3, 1) := by decide +kernel
theorem dX2_canTake_66 : decode cX2_canTake 66 = .ok (.iadd, 1) := by decide +kernel
theorem dX2_canTake_67 : decode cX2_canTake 67 = .ok (.if_icmp .lt 7, 3) := by decide +kernel
theorem dX2_canTake_70 : decode cX2_canTake 70 = .ok (.iconst 1, 1) := by decide +kernel
theorem dX2_canTake_71 : decode cX2_canTake 71 = .ok (.goto 4, 3) := by decide +kernel
theorem dX2_canTake_74 : decode cX2_canTake 74 = .ok (.iconst 0, 1) := by decide +kernel
theorem dX2_canTake_75 : decode cX2_canTake 75 = .ok (.ireturn, 1) := by decide +kernel
set_option maxRecDepth 20000 in
theorem ggX3_init_X3_tugsForLength : GoodIn wsX3_init wsX3_tugsForLength := goodIn_r _ [11] (by decide +kernel) (by decide +kernel)
set_option maxRecDepth 20000 in
theorem gX3_init_X3_tugsForLength : GoodIn wsX3_init (va_wsS RX3 29 yX3_tugsForLength wsX3_tugsForLength) := goodIn_app (goodIn_of _ (by decide +kernel)) ggX3_init_X3_tugsForLength
theorem dX3_init_0 : decode cX3_init 0 = .ok (.aload_n 0, 1) := by decide +kernel
theorem dX3_init_1 : decode cX3_init 1 = .ok (.invokespecial 3, 3) := by decide +kernel
theorem dX3_init_4 : decode cX3_init 4 = .ok (.aload_n 0, 1) := by decide +kernel
theorem dX3_init_5 : decode cX3_init 5 = .ok (.aload_n 1, 1) := by decide +kernel
theorem dX3_init_6 : decode cX3_init 6 = .ok (.putfield 9, 3) := by decide +kernel
theorem dX3_init_9 : decode cX3_init 9 = .ok (.aload_n 0, 1) := by decide +kernel
theorem dX3_init_10 : decode cX3_init 10 = .ok (.aload_n 2, 1) := by decide +kernel
theorem dX3_init_11 : decode cX3_init 11 = .ok (.putfield 15, 3) := by decide +kernel
theorem dX3_init_14 : decode cX3_init 14 = .ok (.aload_n 0, 1) := by decide +kernel
theorem dX3_init_15 : decode cX3_init 15 = .ok (.iload_n 3, 1) := by decide +kernel
theorem dX3_init_16 : decode cX3_init 16 = .ok (.putfield 19, 3) := by decide +kernel
theorem dX3_init_19 : decode cX3_init 19 = .ok (.aload_n 0, 1) := by decide +kernel
theorem dX3_init_20 : decode cX3_init 20 = .ok (.aload_n 1, 1) := by decide +kernel
theorem dX3_init_21 : decode cX3_init 21 = .ok (.getfield 23, 3) := by decide +kernel
theorem dX3_init_24 : decode cX3_init 24 = .ok (.invokestatic 29, 3) := by decide +kernel
theorem dX3_init_27 : decode cX3_init 27 = .ok (.putfield 33, 3) := by decide +kernel
theorem dX3_init_30 : decode cX3_init 30 = .ok (.return_, 1) := by decide +kernel
theorem dX3_tugsForLength_0 : decode cX3_tugsForLength 0 = .ok (.iload_n 0, 1) := by decide +kernel
theorem dX3_tugsForLength_1 : decode cX3_tugsForLength 1 = .ok (.bipush 100, 2) := by decide +kernel
theorem dX3_tugsForLength_3 : decode cX3_tugsForLength 3 = .ok (.if_icmp .ge 5, 3) := by decide +kernel
theorem dX3_tugsForLength_6 : decode cX3_tugsForLength 6 = .ok (.iconst 0, 1) := by decide +kernel
theorem dX3_tugsForLength_7 : decode cX3_tugsForLength 7 = .ok (.ireturn, 1) := by decide +kernel
theorem dX3_tugsForLength_8 : decode cX3_tugsForLength 8 = .ok (.iload_n 0, 1) := by decide +kernel
theorem dX3_tugsForLength_9 : decode cX3_tugsForLength 9 = .ok (.sipush 160, 3) := by decide +kernel
theorem dX3_tugsForLength_12 : decode cX3_tugsForLength 12 = .ok (.if_icmp .ge 5, 3) := by decide +kernel
theorem dX3_tugsForLength_15 : decode cX3_tugsForLength 15 = .ok (.iconst 1, 1) := by decide +kernel
theorem dX3_tugsForLength_16 : decode cX3_tugsForLength 16 = .ok (.ireturn, 1) := by decide +kernel
theorem dX3_tugsForLength_17 : decode cX3_tugsForLength 17 = .ok (.iload_n 0, 1) := by decide +kernel
theorem dX3_tugsForLength_18 : decode cX3_tugsForLength 18 = .ok (.sipush 220, 3) := by decide +kernel
theorem dX3_tugsForLength_21 : decode cX3_tugsForLength 21 = .ok (.if_icmp .ge 7, 3) := by decide +kernel
theorem dX3_tugsForLength_24 : decode cX3_tugsForLength 24 = .ok (.iconst 2, 1) := by decide +kernel
theorem dX3_tugsForLength_25 : decode cX3_tugsForLength 25 = .ok (.goto 4, 3) := by decide +kernel
theorem dX3_tugsForLength_28 : decode cX3_tugsForLength 28 = .ok (.iconst 3, 1) := by decide +kernel
theorem dX3_tugsForLength_29 : decode cX3_tugsForLength 29 = .ok (.ireturn, 1) := by decide +kernel
theorem dX3_barMinute_0 : decode cX3_barMinute 0 = .ok (.aload_n 0, 1) := by decide +kernel
theorem dX3_barMinute_1 : decode cX3_barMinute 1 = .ok (.getfield 19, 3) := by decide +kernel
theorem dX3_barMinute_4 : decode cX3_barMinute 4 = .ok (.ifCond .eq 10, 3) := by decide +kernel
theorem dX3_barMinute_7 : decode cX3_barMinute 7 = .ok (.iload_n 1, 1) := by decide +kernel
theorem dX3_barMinute_8 : decode cX3_barMinute 8 = .ok (.bipush 60, 2) := by decide +kernel
theorem dX3_barMinute_10 : decode cX3_barMinute 10 = .ok (.iadd, 1) := by decide +kernel
theorem dX3_barMinute_11 : decode cX3_barMinute 11 = .ok (.goto 4, 3) := by decide +kernel
theorem dX3_barMinute_14 : decode cX3_barMinute 14 = .ok (.iload_n 1, 1) := by decide +kernel
theorem dX3_barMinute_15 : decode cX3_barMinute 15 = .ok (.ireturn, 1) := by decide +kernel
theorem dX3_berthMinute_0 : decode cX3_berthMinute 0 = .ok (.aload_n 0, 1) := by decide +kernel
theorem dX3_berthMinute_1 : decode cX3_berthMinute 1 = .ok (.getfield 19, 3) := by decide +kernel
theorem dX3_berthMinute_4 : decode cX3_berthMinute 4 = .ok (.ifCond .eq 7, 3) := by decide +kernel
theorem dX3_berthMinute_7 : decode cX3_berthMinute 7 = .ok (.iload_n 1, 1) := by decide +kernel
theorem dX3_berthMinute_8 : decode cX3_berthMinute 8 = .ok (.goto 7, 3) := by decide +kernel
theorem dX3_berthMinute_11 : decode cX3_berthMinute 11 = .ok (.iload_n 1, 1) := by decide +kernel
theorem dX3_berthMinute_12 : decode cX3_berthMinute 12 = .ok (.bipush 60, 2) := by decide +kernel
theorem dX3_berthMinute_14 : decode cX3_berthMinute 14 = .ok (.iadd, 1) := by decide +kernel
theorem dX3_berthMinute_15 : decode cX3_berthMinute 15 = .ok (.ireturn, 1) := by decide +kernel
theorem dX3_tugsFrom_0 : decode cX3_tugsFrom 0 = .ok (.aload_n 0, 1) := by decide +kernel
theorem dX3_tugsFrom_1 : decode cX3_tugsFrom 1 = .ok (.getfield 19, 3) := by decide +kernel
theorem dX3_tugsFrom_4 : decode cX3_tugsFrom 4 = .ok (.ifCond .eq 7, 3) := by decide +kernel
theorem dX3_tugsFrom_7 : decode cX3_tugsFrom 7 = .ok (.iload_n 1, 1) := by decide +kernel
theorem dX3_tugsFrom_8 : decode cX3_tugsFrom 8 = .ok (.goto 10, 3) := by decide +kernel
theorem dX3_tugsFrom_11 : decode cX3_tugsFrom 11 = .ok (.iload_n 1, 1) := by decide +kernel
theorem dX3_tugsFrom_12 : decode cX3_tugsFrom 12 = .ok (.bipush 60, 2) := by decide +kernel
theorem dX3_tugsFrom_14 : decode cX3_tugsFrom 14 = .ok (.iadd, 1) := by decide +kernel
theorem dX3_tugsFrom_15 : decode cX3_tugsFrom 15 = .ok (.bipush 40, 2) := by decide +kernel
theorem dX3_tugsFrom_17 : decode cX3_tugsFrom 17 = .ok (.isub, 1) := by decide +kernel
theorem dX3_tugsFrom_18 : decode cX3_tugsFrom 18 = .ok (.ireturn, 1) := by decide +kernel
theorem dX4_init_0 : decode cX4_init 0 = .ok (.aload_n 0, 1) := by decide +kernel
theorem dX4_init_1 : decode cX4_init 1 = .ok (.invokespecial 1, 3) := by decide +kernel
theorem dX4_init_4 : decode cX4_init 4 = .ok (.aload_n 0, 1) := by decide +kernel
theorem dX4_init_5 : decode cX4_init 5 = .ok (.aconst_null, 1) := by decide +kernel
theorem dX4_init_6 : decode cX4_init 6 = .ok (.putfield 7, 3) := by decide +kernel
theorem dX4_init_9 : decode cX4_init 9 = .ok (.aload_n 0, 1) := by decide +kernel
theorem dX4_init_10 : decode cX4_init 10 = .ok (.iload_n 1, 1) := by decide +kernel
theorem dX4_init_11 : decode cX4_init 11 = .ok (.putfield 13, 3) := by decide +kernel
theorem dX4_init_14 : decode cX4_init 14 = .ok (.aload_n 0, 1) := by decide +kernel
theorem dX4_init_15 : decode cX4_init 15 = .ok (.iload_n 2, 1) := by decide +kernel
theorem dX4_init_16 : decode cX4_init 16 = .ok (.putfield 17, 3) := by decide +kernel
theorem dX4_init_19 : decode cX4_init 19 = .ok (.aload_n 0, 1) := by decide +kernel
theorem dX4_init_20 : decode cX4_init 20 = .ok (.iload_n 3, 1) := by decide +kernel
theorem dX4_init_21 : decode cX4_init 21 = .ok (.putfield 20, 3) := by decide +kernel
theorem dX4_init_24 : decode cX4_init 24 = .ok (.return_, 1) := by decide +kernel
theorem dX5_init_0 : decode cX5_init 0 = .ok (.aload_n 0, 1) := by decide +kernel
theorem dX5_init_1 : decode cX5_init 1 = .ok (.invokespecial 3, 3) := by decide +kernel
theorem dX5_init_4 : decode cX5_init 4 = .ok (.aload_n 0, 1) := by decide +kernel
theorem dX5_init_5 : decode cX5_init 5 = .ok (.bipush 30, 2) := by decide +kernel
theorem dX5_init_7 : decode cX5_init 7 = .ok (.newarray .int, 2) := by decide +kernel
theorem dX5_init_9 : decode cX5_init 9 = .ok (.putfield 9, 3) := by decide +kernel
theorem dX5_init_12 : decode cX5_init 12 = .ok (.aload_n 0, 1) := by decide +kernel
theorem dX5_init_13 : decode cX5_init 13 = .ok (.bipush 30, 2) := by decide +kernel
theorem dX5_init_15 : decode cX5_init 15 = .ok (.newarray .int, 2) := by decide +kernel
theorem dX5_init_17 : decode cX5_init 17 = .ok (.putfield 15, 3) := by decide +kernel
theorem dX5_init_20 : decode cX5_init 20 = .ok (.aload_n 0, 1) := by decide +kernel
theorem dX5_init_21 : decode cX5_init 21 = .ok (.iconst 0, 1) := by decide +kernel
theorem dX5_init_22 : decode cX5_init 22 = .ok (.putfield 18, 3) := by decide +kernel
theorem dX5_init_25 : decode cX5_init 25 = .ok (.return_, 1) := by decide +kernel
theorem dX5_pointsUpTo_0 : decode cX5_pointsUpTo 0 = .ok (.iconst 0, 1) := by decide +kernel
theorem dX5_pointsUpTo_1 : decode cX5_pointsUpTo 1 = .ok (.istore_n 2, 1) := by decide +kernel
theorem dX5_pointsUpTo_2 : decode cX5_pointsUpTo 2 = .ok (.iload_n 2, 1) := by decide +kernel
theorem dX5_pointsUpTo_3 : decode cX5_pointsUpTo 3 = .ok (.aload_n 0, 1) := by decide +kernel
theorem dX5_pointsUpTo_4 : decode cX5_pointsUpTo 4 = .ok (.getfield 18, 3) := by decide +kernel
theorem dX5_pointsUpTo_7 : decode cX5_pointsUpTo 7 = .ok (.if_icmp .ge 19, 3) := by decide +kernel
theorem dX5_pointsUpTo_10 : decode cX5_pointsUpTo 10 = .ok (.aload_n 0, 1) := by decide +kernel
theorem dX5_pointsUpTo_11 : decode cX5_pointsUpTo 11 = .ok (.getfield 9, 3) := by decide +kernel
theorem dX5_pointsUpTo_14 : decode cX5_pointsUpTo 14 = .ok (.iload_n 2, 1) := by decide +kernel
theorem dX5_pointsUpTo_15 : decode cX5_pointsUpTo 15 = .ok (.iaload, 1) := by decide +kernel
theorem dX5_pointsUpTo_16 : decode cX5_pointsUpTo 16 = .ok (.iload_n 1, 1) := by decide +kernel
theorem dX5_pointsUpTo_17 : decode cX5_pointsUpTo 17 = .ok (.if_icmp .gt 9, 3) := by decide +kernel
theorem dX5_pointsUpTo_20 : decode cX5_pointsUpTo 20 = .ok (.iinc 2 1, 3) := by decide +kernel
theorem dX5_pointsUpTo_23 : decode cX5_pointsUpTo 23 = .ok (.goto (-21), 3) := by decide +kernel
theorem dX5_pointsUpTo_26 : decode cX5_pointsUpTo 26 = .ok (.iload_n 2, 1) := by decide +kernel
theorem dX5_pointsUpTo_27 : decode cX5_pointsUpTo 27 = .ok (.ireturn, 1) := by decide +kernel
set_option maxRecDepth 20000 in
theorem ggX5_hasPointAt_X5_pointsUpTo : GoodIn wsX5_hasPointAt wsX5_pointsUpTo := goodIn_r _ [6, 7, 1, 8, 9, 10] (by decide +kernel) (by decide +kernel)
set_option maxRecDepth 20000 in
theorem gX5_hasPointAt_X5_pointsUpTo : GoodIn wsX5_hasPointAt (wsV RX5 22 RX5 yX5_pointsUpTo wsX5_pointsUpTo) := goodIn_app (goodIn_of _ (by decide +kernel)) ggX5_hasPointAt_X5_pointsUpTo
theorem dX5_hasPointAt_0 : decode cX5_hasPointAt 0 = .ok (.aload_n 0, 1) := by decide +kernel
theorem dX5_hasPointAt_1 : decode cX5_hasPointAt 1 = .ok (.iload_n 1, 1) := by decide +kernel
theorem dX5_hasPointAt_2 : decode cX5_hasPointAt 2 = .ok (.invokevirtual 22, 3) := by decide +kernel
theorem dX5_hasPointAt_5 : decode cX5_hasPointAt 5 = .ok (.istore_n 2, 1) := by decide +kernel
theorem dX5_hasPointAt_6 : decode cX5_hasPointAt 6 = .ok (.iload_n 2, 1) := by decide +kernel
theorem dX5_hasPointAt_7 : decode cX5_hasPointAt 7 = .ok (.ifCond .le 19, 3) := by decide +kernel
theorem dX5_hasPointAt_10 : decode cX5_hasPointAt 10 = .ok (.aload_n 0, 1) := by decide +kernel
theorem dX5_hasPointAt_11 : decode cX5_hasPointAt 11 = .ok (.getfield 9, 3) := by decide +kernel
theorem dX5_hasPointAt_14 : decode cX5_hasPointAt 14 = .ok (.iload_n 2, 1) := by decide +kernel
theorem dX5_hasPointAt_15 : decode cX5_hasPointAt 15 = .ok (.iconst 1, 1) := by decide +kernel
theorem dX5_hasPointAt_16 : decode cX5_hasPointAt 16 = .ok (.isub, 1) := by decide +kernel
theorem dX5_hasPointAt_17 : decode cX5_hasPointAt 17 = .ok (.iaload, 1) := by decide +kernel
theorem dX5_hasPointAt_18 : decode cX5_hasPointAt 18 = .ok (.iload_n 1, 1) := by decide +kernel
theorem dX5_hasPointAt_19 : decode cX5_hasPointAt 19 = .ok (.if_icmp .ne 7, 3) := by decide +kernel
theorem dX5_hasPointAt_22 : decode cX5_hasPointAt 22 = .ok (.iconst 1, 1) := by decide +kernel
theorem dX5_hasPointAt_23 : decode cX5_hasPointAt 23 = .ok (.goto 4, 3) := by decide +kernel
theorem dX5_hasPointAt_26 : decode cX5_hasPointAt 26 = .ok (.iconst 0, 1) := by decide +kernel
theorem dX5_hasPointAt_27 : decode cX5_hasPointAt 27 = .ok (.ireturn, 1) := by decide +kernel
set_option maxRecDepth 20000 in
theorem ggX5_insert_X5_pointsUpTo : GoodIn wsX5_insert wsX5_pointsUpTo := goodIn_r _ [8, 1, 2, 9, 10, 11] (by decide +kernel) (by decide +kernel)
set_option maxRecDepth 20000 in
theorem gX5_insert_X5_pointsUpTo : GoodIn wsX5_insert (wsV RX5 22 RX5 yX5_pointsUpTo wsX5_pointsUpTo) := goodIn_app (goodIn_of _ (by decide +kernel)) ggX5_insert_X5_pointsUpTo
theorem dX5_insert_0 : decode cX5_insert 0 = .ok (.aload_n 0, 1) := by decide +kernel
theorem dX5_insert_1 : decode cX5_insert 1 = .ok (.getfield 18, 3) := by decide +kernel
theorem dX5_insert_4 : decode cX5_insert 4 = .ok (.bipush 30, 2) := by decide +kernel
theorem dX5_insert_6 : decode cX5_insert 6 = .ok (.if_icmp .lt 4, 3) := by decide +kernel
theorem dX5_insert_9 : decode cX5_insert 9 = .ok (.return_, 1) := by decide +kernel
theorem dX5_insert_10 : decode cX5_insert 10 = .ok (.aload_n 0, 1) := by decide +kernel
theorem dX5_insert_11 : decode cX5_insert 11 = .ok (.iload_n 1, 1) := by decide +kernel
theorem dX5_insert_12 : decode cX5_insert 12 = .ok (.invokevirtual 22, 3) := by decide +kernel
theorem dX5_insert_15 : decode cX5_insert 15 = .ok (.istore_n 3, 1) := by decide +kernel
theorem dX5_insert_16 : decode cX5_insert 16 = .ok (.aload_n 0, 1) := by decide +kernel
theorem dX5_insert_17 : decode cX5_insert 17 = .ok (.getfield 18, 3) := by decide +kernel
theorem dX5_insert_20 : decode cX5_insert 20 = .ok (.istore 4, 2) := by decide +kernel
theorem dX5_insert_22 : decode cX5_insert 22 = .ok (.iload 4, 2) := by decide +kernel
theorem dX5_insert_24 : decode cX5_insert 24 = .ok (.iload_n 3, 1) := by decide +kernel
theorem dX5_insert_25 : decode cX5_insert 25 = .ok (.if_icmp .le 41, 3) := by decide +kernel
theorem dX5_insert_28 : decode cX5_insert 28 = .ok (.aload_n 0, 1) := by decide +kernel
theorem dX5_insert_29 : decode cX5_insert 29 = .ok (.getfield 9, 3) := by decide +kernel
theorem dX5_insert_32 : decode cX5_insert 32 = .ok (.iload 4, 2) := by decide +kernel
theorem dX5_insert_34 : decode cX5_insert 34 = .ok (.aload_n 0, 1) := by decide +kernel
theorem dX5_insert_35 : decode cX5_insert 35 = .ok (.getfield 9, 3) := by decide +kernel
theorem dX5_insert_38 : decode cX5_insert 38 = .ok (.iload 4, 2) := by decide +kernel
theorem dX5_insert_40 : decode cX5_insert 40 = .ok (.iconst 1, 1) := by decide +kernel
theorem dX5_insert_41 : decode cX5_insert 41 = .ok (.isub, 1) := by decide +kernel
theorem dX5_insert_42 : decode cX5_insert 42 = .ok (.iaload, 1) := by decide +kernel
theorem dX5_insert_43 : decode cX5_insert 43 = .ok (.iastore, 1) := by decide +kernel
theorem dX5_insert_44 : decode cX5_insert 44 = .ok (.aload_n 0, 1) := by decide +kernel
theorem dX5_insert_45 : decode cX5_insert 45 = .ok (.getfield 15, 3) := by decide +kernel
theorem dX5_insert_48 : decode cX5_insert 48 = .ok (.iload 4, 2) := by decide +kernel
theorem dX5_insert_50 : decode cX5_insert 50 = .ok (.aload_n 0, 1) := by decide +kernel
theorem dX5_insert_51 : decode cX5_insert 51 = .ok (.getfield 15, 3) := by decide +kernel
theorem dX5_insert_54 : decode cX5_insert 54 = .ok (.iload 4, 2) := by decide +kernel
theorem dX5_insert_56 : decode cX5_insert 56 = .ok (.iconst 1, 1) := by decide +kernel
theorem dX5_insert_57 : decode cX5_insert 57 = .ok (.isub, 1) := by decide +kernel
theorem dX5_insert_58 : decode cX5_insert 58 = .ok (.iaload, 1) := by decide +kernel
theorem dX5_insert_59 : decode cX5_insert 59 = .ok (.iastore, 1) := by decide +kernel
theorem dX5_insert_60 : decode cX5_insert 60 = .ok (.iinc 4 (-1), 3) := by decide +kernel
theorem dX5_insert_63 : decode cX5_insert 63 = .ok (.goto (-41), 3) := by decide +kernel
theorem dX5_insert_66 : decode cX5_insert 66 = .ok (.aload_n 0, 1) := by decide +kernel
theorem dX5_insert_67 : decode cX5_insert 67 = .ok (.getfield 9, 3) := by decide +kernel
theorem dX5_insert_70 : decode cX5_insert 70 = .ok (.iload_n 3, 1) := by decide +kernel
theorem dX5_insert_71 : decode cX5_insert 71 = .ok (.iload_n 1, 1) := by decide +kernel
theorem dX5_insert_72 : decode cX5_insert 72 = .ok (.iastore, 1) := by decide +kernel
theorem dX5_insert_73 : decode cX5_insert 73 = .ok (.aload_n 0, 1) := by decide +kernel
theorem dX5_insert_74 : decode cX5_insert 74 = .ok (.getfield 15, 3) := by decide +kernel
theorem dX5_insert_77 : decode cX5_insert 77 = .ok (.iload_n 3, 1) := by decide +kernel
theorem dX5_insert_78 : decode cX5_insert 78 = .ok (.iload_n 2, 1) := by decide +kernel
theorem dX5_insert_79 : decode cX5_insert 79 = .ok (.iastore, 1) := by decide +kernel
theorem dX5_insert_80 : decode cX5_insert 80 = .ok (.aload_n 0, 1) := by decide +kernel
theorem dX5_insert_81 : decode cX5_insert 81 = .ok (.dup, 1) := by decide +kernel
theorem dX5_insert_82 : decode cX5_insert 82 = .ok (.getfield 18, 3) := by decide +kernel
theorem dX5_insert_85 : decode cX5_insert 85 = .ok (.iconst 1, 1) := by decide +kernel
theorem dX5_insert_86 : decode cX5_insert 86 = .ok (.iadd, 1) := by decide +kernel
theorem dX5_insert_87 : decode cX5_insert 87 = .ok (.putfield 18, 3) := by decide +kernel
theorem dX5_insert_90 : decode cX5_insert 90 = .ok (.return_, 1) := by decide +kernel
set_option maxRecDepth 20000 in
theorem ggX5_heightAt_X5_pointsUpTo : GoodIn wsX5_heightAt wsX5_pointsUpTo := goodIn_r _ [8, 1, 3, 9, 10, 11] (by decide +kernel) (by decide +kernel)
set_option maxRecDepth 20000 in
theorem gX5_heightAt_X5_pointsUpTo : GoodIn wsX5_heightAt (wsV RX5 22 RX5 yX5_pointsUpTo wsX5_pointsUpTo) := goodIn_app (goodIn_of _ (by decide +kernel)) ggX5_heightAt_X5_pointsUpTo
theorem dX5_heightAt_0 : decode cX5_heightAt 0 = .ok (.aload_n 0, 1) := by decide +kernel
theorem dX5_heightAt_1 : decode cX5_heightAt 1 = .ok (.getfield 18, 3) := by decide +kernel
theorem dX5_heightAt_4 : decode cX5_heightAt 4 = .ok (.ifCond .ne 5, 3) := by decide +kernel
theorem dX5_heightAt_7 : decode cX5_heightAt 7 = .ok (.iconst 0, 1) := by decide +kernel
theorem dX5_heightAt_8 : decode cX5_heightAt 8 = .ok (.ireturn, 1) := by decide +kernel
theorem dX5_heightAt_9 : decode cX5_heightAt 9 = .ok (.aload_n 0, 1) := by decide +kernel
theorem dX5_heightAt_10 : decode cX5_heightAt 10 = .ok (.iload_n 1, 1) := by decide +kernel
theorem dX5_heightAt_11 : decode cX5_heightAt 11 = .ok (.invokevirtual 22, 3) := by decide +kernel
theorem dX5_heightAt_14 : decode cX5_heightAt 14 = .ok (.istore_n 2, 1) := by decide +kernel
theorem dX5_heightAt_15 : decode cX5_heightAt 15 = .ok (.iload_n 2, 1) := by decide +kernel
theorem dX5_heightAt_16 : decode cX5_heightAt 16 = .ok (.ifCond .ne 10, 3) := by decide +kernel
theorem dX5_heightAt_19 : decode cX5_heightAt 19 = .ok (.aload_n 0, 1) := by decide +kernel
theorem dX5_heightAt_20 : decode cX5_heightAt 20 = .ok (.getfield 15, 3) := by decide +kernel
theorem dX5_heightAt_23 : decode cX5_heightAt 23 = .ok (.iconst 0, 1) := by decide +kernel
theorem dX5_heightAt_24 : decode cX5_heightAt 24 = .ok (.iaload, 1) := by decide +kernel
theorem dX5_heightAt_25 : decode cX5_heightAt 25 = .ok (.ireturn, 1) := by decide +kernel
theorem dX5_heightAt_26 : decode cX5_heightAt 26 = .ok (.iload_n 2, 1) := by decide +kernel
theorem dX5_heightAt_27 : decode cX5_heightAt 27 = .ok (.iconst 1, 1) := by decide +kernel
theorem dX5_heightAt_28 : decode cX5_heightAt 28 = .ok (.isub, 1) := by decide +kernel
theorem dX5_heightAt_29 : decode cX5_heightAt 29 = .ok (.istore_n 3, 1) := by decide +kernel
theorem dX5_heightAt_30 : decode cX5_heightAt 30 = .ok (.iload_n 2, 1) := by decide +kernel
theorem dX5_heightAt_31 : decode cX5_heightAt 31 = .ok (.aload_n 0, 1) := by decide +kernel
theorem dX5_heightAt_32 : decode cX5_heightAt 32 = .ok (.getfield 18, 3) := by decide +kernel
theorem dX5_heightAt_35 : decode cX5_heightAt 35 = .ok (.if_icmp .ne 10, 3) := by decide +kernel
theorem dX5_heightAt_38 : decode cX5_heightAt 38 = .ok (.aload_n 0, 1) := by decide +kernel
theorem dX5_heightAt_39 : decode cX5_heightAt 39 = .ok (.getfield 15, 3) := by decide +kernel
theorem dX5_heightAt_42 : decode cX5_heightAt 42 = .ok (.iload_n 3, 1) := by decide +kernel
theorem dX5_heightAt_43 : decode cX5_heightAt 43 = .ok (.iaload, 1) := by decide +kernel
theorem dX5_heightAt_44 : decode cX5_heightAt 44 = .ok (.ireturn, 1) := by decide +kernel
theorem dX5_heightAt_45 : decode cX5_heightAt 45 = .ok (.aload_n 0, 1) := by decide +kernel
theorem dX5_heightAt_46 : decode cX5_heightAt 46 = .ok (.getfield 9, 3) := by decide +kernel
theorem dX5_heightAt_49 : decode cX5_heightAt 49 = .ok (.iload_n 2, 1) := by decide +kernel
theorem dX5_heightAt_50 : decode cX5_heightAt 50 = .ok (.iaload, 1) := by decide +kernel
theorem dX5_heightAt_51 : decode cX5_heightAt 51 = .ok (.aload_n 0, 1) := by decide +kernel
theorem dX5_heightAt_52 : decode cX5_heightAt 52 = .ok (.getfield 9, 3) := by decide +kernel
theorem dX5_heightAt_55 : decode cX5_heightAt 55 = .ok (.iload_n 3, 1) := by decide +kernel
theorem dX5_heightAt_56 : decode cX5_heightAt 56 = .ok (.iaload, 1) := by decide +kernel
theorem dX5_heightAt_57 : decode cX5_heightAt 57 = .ok (.isub, 1) := by decide +kernel
theorem dX5_heightAt_58 : decode cX5_heightAt 58 = .ok (.istore 4, 2) := by decide +kernel
theorem dX5_heightAt_60 : decode cX5_heightAt 60 = .ok (.aload_n 0, 1) := by decide +kernel
theorem dX5_heightAt_61 : decode cX5_heightAt 61 = .ok (.getfield 15, 3) := by decide +kernel
theorem dX5_heightAt_64 : decode cX5_heightAt 64 = .ok (.iload_n 2, 1) := by decide +kernel
theorem dX5_heightAt_65 : decode cX5_heightAt 65 = .ok (.iaload, 1) := by decide +kernel
theorem dX5_heightAt_66 : decode cX5_heightAt 66 = .ok (.aload_n 0, 1) := by decide +kernel
theorem dX5_heightAt_67 : decode cX5_heightAt 67 = .ok (.getfield 15, 3) := by decide +kernel
theorem dX5_heightAt_70 : decode cX5_heightAt 70 = .ok (.iload_n 3, 1) := by decide +kernel
theorem dX5_heightAt_71 : decode cX5_heightAt 71 = .ok (.iaload, 1) := by decide +kernel
theorem dX5_heightAt_72 : decode cX5_heightAt 72 = .ok (.isub, 1) := by decide +kernel
theorem dX5_heightAt_73 : decode cX5_heightAt 73 = .ok (.iload_n 1, 1) := by decide +kernel
theorem dX5_heightAt_74 : decode cX5_heightAt 74 = .ok (.aload_n 0, 1) := by decide +kernel
theorem dX5_heightAt_75 : decode cX5_heightAt 75 = .ok (.getfield 9, 3) := by decide +kernel
theorem dX5_heightAt_78 : decode cX5_heightAt 78 = .ok (.iload_n 3, 1) := by decide +kernel
theorem dX5_heightAt_79 : decode cX5_heightAt 79 = .ok (.iaload, 1) := by decide +kernel
theorem dX5_heightAt_80 : decode cX5_heightAt 80 = .ok (.isub, 1) := by decide +kernel
theorem dX5_heightAt_81 : decode cX5_heightAt 81 = .ok (.imul, 1) := by decide +kernel
theorem dX5_heightAt_82 : decode cX5_heightAt 82 = .ok (.istore 5, 2) := by decide +kernel
theorem dX5_heightAt_84 : decode cX5_heightAt 84 = .ok (.iload 4, 2) := by decide +kernel
theorem dX5_heightAt_86 : decode cX5_heightAt 86 = .ok (.ifCond .le 18, 3) := by decide +kernel
theorem dX5_heightAt_89 : decode cX5_heightAt 89 = .ok (.aload_n 0, 1) := by decide +kernel
theorem dX5_heightAt_90 : decode cX5_heightAt 90 = .ok (.getfield 15, 3) := by decide +kernel
theorem dX5_heightAt_93 : decode cX5_heightAt 93 = .ok (.iload_n 3, 1) := by decide +kernel
theorem dX5_heightAt_94 : decode cX5_heightAt 94 = .ok (.iaload, 1) := by decide +kernel
theorem dX5_heightAt_95 : decode cX5_heightAt 95 = .ok (.iload 5, 2) := by decide +kernel
theorem dX5_heightAt_97 : decode cX5_heightAt 97 = .ok (.iload 4, 2) := by decide +kernel
theorem dX5_heightAt_99 : decode cX5_heightAt 99 = .ok (.idiv, 1) := by decide +kernel
theorem dX5_heightAt_100 : decode cX5_heightAt 100 = .ok (.iadd, 1) := by decide +kernel
theorem dX5_heightAt_101 : decode cX5_heightAt 101 = .ok (.goto 9, 3) := by decide +kernel
theorem dX5_heightAt_104 : decode cX5_heightAt 104 = .ok (.aload_n 0, 1) := by decide +kernel
theorem dX5_heightAt_105 : decode cX5_heightAt 105 = .ok (.getfield 15, 3) := by decide +kernel
theorem dX5_heightAt_108 : decode cX5_heightAt 108 = .ok (.iload_n 3, 1) := by decide +kernel
theorem dX5_heightAt_109 : decode cX5_heightAt 109 = .ok (.iaload, 1) := by decide +kernel
theorem dX5_heightAt_110 : decode cX5_heightAt 110 = .ok (.ireturn, 1) := by decide +kernel
set_option maxRecDepth 20000 in
theorem ggX6_init_X5_init : GoodIn wsX6_init wsX5_init := goodIn_r _ [20, 21, 2, 3, 22, 23, 24, 25, 41, 42, 43] (by decide +kernel) (by decide +kernel)
set_option maxRecDepth 20000 in
theorem gX6_init_X5_init : GoodIn wsX6_init (wsX5_init) := ggX6_init_X5_init
set_option maxRecDepth 20000 in
theorem ggX6_init_Jx4a65c_init_da8c8 : GoodIn wsX6_init wsJx4a65c_init_da8c8 := goodIn_r _ [28, 29, 30, 31, 32, 33, 34, 35, 36, 37, 38, 39, 40, 2, 3, 52, 53, 54] (by decide +kernel) (by decide +kernel)
set_option maxRecDepth 20000 in
theorem gX6_init_Jx4a65c_init_da8c8 : GoodIn wsX6_init (wsJx4a65c_init_da8c8) := ggX6_init_Jx4a65c_init_da8c8
theorem dX6_init_0 : decode cX6_init 0 = .ok (.aload_n 0, 1) := by decide +kernel
theorem dX6_init_1 : decode cX6_init 1 = .ok (.invokespecial 3, 3) := by decide +kernel
theorem dX6_init_4 : decode cX6_init 4 = .ok (.aload_n 0, 1) := by decide +kernel
theorem dX6_init_5 : decode cX6_init 5 = .ok (.new 9, 3) := by decide +kernel
theorem dX6_init_8 : decode cX6_init 8 = .ok (.dup, 1) := by decide +kernel
theorem dX6_init_9 : decode cX6_init 9 = .ok (.invokespecial 11, 3) := by decide +kernel
theorem dX6_init_12 : decode cX6_init 12 = .ok (.putfield 12, 3) := by decide +kernel
theorem dX6_init_15 : decode cX6_init 15 = .ok (.aload_n 0, 1) := by decide +kernel
theorem dX6_init_16 : decode cX6_init 16 = .ok (.new 16, 3) := by decide +kernel
theorem dX6_init_19 : decode cX6_init 19 = .ok (.dup, 1) := by decide +kernel
theorem dX6_init_20 : decode cX6_init 20 = .ok (.invokespecial 18, 3) := by decide +kernel
theorem dX6_init_23 : decode cX6_init 23 = .ok (.putfield 19, 3) := by decide +kernel
theorem dX6_init_26 : decode cX6_init 26 = .ok (.aload_n 0, 1) := by decide +kernel
theorem dX6_init_27 : decode cX6_init 27 = .ok (.new 16, 3) := by decide +kernel
theorem dX6_init_30 : decode cX6_init 30 = .ok (.dup, 1) := by decide +kernel
theorem dX6_init_31 : decode cX6_init 31 = .ok (.invokespecial 18, 3) := by decide +kernel
theorem dX6_init_34 : decode cX6_init 34 = .ok (.putfield 23, 3) := by decide +kernel
theorem dX6_init_37 : decode cX6_init 37 = .ok (.aload_n 0, 1) := by decide +kernel
theorem dX6_init_38 : decode cX6_init 38 = .ok (.new 16, 3) := by decide +kernel
theorem dX6_init_41 : decode cX6_init 41 = .ok (.dup, 1) := by decide +kernel
theorem dX6_init_42 : decode cX6_init 42 = .ok (.invokespecial 18, 3) := by decide +kernel
theorem dX6_init_45 : decode cX6_init 45 = .ok (.putfield 26, 3) := by decide +kernel
theorem dX6_init_48 : decode cX6_init 48 = .ok (.aload_n 0, 1) := by decide +kernel
theorem dX6_init_49 : decode cX6_init 49 = .ok (.new 16, 3) := by decide +kernel
theorem dX6_init_52 : decode cX6_init 52 = .ok (.dup, 1) := by decide +kernel
theorem dX6_init_53 : decode cX6_init 53 = .ok (.invokespecial 18, 3) := by decide +kernel
theorem dX6_init_56 : decode cX6_init 56 = .ok (.putfield 29, 3) := by decide +kernel
theorem dX6_init_59 : decode cX6_init 59 = .ok (.aload_n 0, 1) := by decide +kernel
theorem dX6_init_60 : decode cX6_init 60 = .ok (.sipush 1000, 3) := by decide +kernel
theorem dX6_init_63 : decode cX6_init 63 = .ok (.putfield 32, 3) := by decide +kernel
theorem dX6_init_66 : decode cX6_init 66 = .ok (.aload_n 0, 1) := by decide +kernel
theorem dX6_init_67 : decode cX6_init 67 = .ok (.bipush 50, 2) := by decide +kernel
theorem dX6_init_69 : decode cX6_init 69 = .ok (.putfield 36, 3) := by decide +kernel
theorem dX6_init_72 : decode cX6_init 72 = .ok (.aload_n 0, 1) := by decide +kernel
theorem dX6_init_73 : decode cX6_init 73 = .ok (.iconst 4, 1) := by decide +kernel
theorem dX6_init_74 : decode cX6_init 74 = .ok (.putfield 39, 3) := by decide +kernel
theorem dX6_init_77 : decode cX6_init 77 = .ok (.return_, 1) := by decide +kernel
set_option maxRecDepth 20000 in
theorem ggX6_addTide_X6_checkTime : GoodIn wsX6_addTide wsX6_checkTime := goodIn_ca (goodIn_r _ [8, 9, 10, 7, 11, 12, 13] (by decide +kernel) (by decide +kernel)) (goodIn_sub (fun _ h => List.mem_cons_of_mem _ (List.mem_append_right _ h)) (by decide +kernel))
set_option maxRecDepth 20000 in
theorem gX6_addTide_X6_checkTime : GoodIn wsX6_addTide (va_wsS RX6 42 yX6_checkTime wsX6_checkTime) := goodIn_app (goodIn_of _ (by decide +kernel)) ggX6_addTide_X6_checkTime
set_option maxRecDepth 20000 in
theorem ggX6_addTide_X6_checkRange : GoodIn wsX6_addTide wsX6_checkRange := goodIn_ca (goodIn_r _ [11, 12, 13] (by decide +kernel) (by decide +kernel)) (goodIn_sub (fun _ h => List.mem_cons_of_mem _ (List.mem_append_right _ h)) (by decide +kernel))
set_option maxRecDepth 20000 in
theorem gX6_addTide_X6_checkRange : GoodIn wsX6_addTide (va_wsS RX6 46 yX6_checkRange wsX6_checkRange) := goodIn_app (goodIn_of _ (by decide +kernel)) ggX6_addTide_X6_checkRange
set_option maxRecDepth 20000 in
theorem ggX6_addTide_Jx4a65c_isEmpty_aae02 : GoodIn wsX6_addTide wsJx4a65c_isEmpty_aae02 := goodIn_r _ [18, 19, 47, 48, 49] (by decide +kernel) (by decide +kernel)
set_option maxRecDepth 20000 in
theorem gX6_addTide_Jx4a65c_isEmpty_aae02 : GoodIn wsX6_addTide (wsV RX6 50 RJx4a65c yJx4a65c_isEmpty_aae02 wsJx4a65c_isEmpty_aae02) := goodIn_app (goodIn_of _ (by decide +kernel)) ggX6_addTide_Jx4a65c_isEmpty_aae02
set_option maxRecDepth 20000 in
theorem ggX6_addTide_X5_hasPointAt : GoodIn wsX6_addTide wsX5_hasPointAt := goodIn_r _ [24, 25, 26, 27, 28, 23, 29, 30, 44, 45, 46] (by decide +kernel) (by decide +kernel)
set_option maxRecDepth 20000 in
theorem gX6_addTide_X5_hasPointAt : GoodIn wsX6_addTide (wsV RX6 57 RX5 yX5_hasPointAt wsX5_hasPointAt) := goodIn_app (goodIn_of _ (by decide +kernel)) ggX6_addTide_X5_hasPointAt
set_option maxRecDepth 20000 in
theorem ggX6_addTide_X5_insert : GoodIn wsX6_addTide wsX5_insert := goodIn_r _ [34, 30, 25, 35, 26, 27, 28, 23, 29, 44, 45, 46] (by decide +kernel) (by decide +kernel)
set_option maxRecDepth 20000 in
theorem gX6_addTide_X5_insert : GoodIn wsX6_addTide (wsV RX6 68 RX5 yX5_insert wsX5_insert) := goodIn_app (goodIn_of _ (by decide +kernel)) ggX6_addTide_X5_insert
theorem dX6_addTide_0 : decode cX6_addTide 0 = .ok (.iload_n 1, 1) := by decide +kernel
theorem dX6_addTide_1 : decode cX6_addTide 1 = .ok (.invokestatic 42, 3) := by decide +kernel
theorem dX6_addTide_4 : decode cX6_addTide 4 = .ok (.iload_n 2, 1) := by decide +kernel
theorem dX6_addTide_5 : decode cX6_addTide 5 = .ok (.sipush (-300), 3) := by decide +kernel
theorem dX6_addTide_8 : decode cX6_addTide 8 = .ok (.sipush 900, 3) := by decide +kernel
theorem dX6_addTide_11 : decode cX6_addTide 11 = .ok (.invokestatic 46, 3) := by decide +kernel
theorem dX6_addTide_14 : decode cX6_addTide 14 = .ok (.aload_n 0, 1) := by decide +kernel
theorem dX6_addTide_15 : decode cX6_addTide 15 = .ok (.getfield 29, 3) := by decide +kernel
theorem dX6_addTide_18 : decode cX6_addTide 18 = .ok (.invokevirtual 50, 3) := by decide +kernel
theorem dX6_addTide_21 : decode cX6_addTide 21 = .ok (.ifCond .eq 26, 3) := by decide +kernel
theorem dX6_addTide_24 : decode cX6_addTide 24 = .ok (.aload_n 0, 1) := by decide +kernel
theorem dX6_addTide_25 : decode cX6_addTide 25 = .ok (.getfield 12, 3) := by decide +kernel
theorem dX6_addTide_28 : decode cX6_addTide 28 = .ok (.getfield 54, 3) := by decide +kernel
theorem dX6_addTide_31 : decode cX6_addTide 31 = .ok (.bipush 30, 2) := by decide +kernel
theorem dX6_addTide_33 : decode cX6_addTide 33 = .ok (.if_icmp .ge 14, 3) := by decide +kernel
theorem dX6_addTide_36 : decode cX6_addTide 36 = .ok (.aload_n 0, 1) := by decide +kernel
theorem dX6_addTide_37 : decode cX6_addTide 37 = .ok (.getfield 12, 3) := by decide +kernel
theorem dX6_addTide_40 : decode cX6_addTide 40 = .ok (.iload_n 1, 1) := by decide +kernel
theorem dX6_addTide_41 : decode cX6_addTide 41 = .ok (.invokevirtual 57, 3) := by decide +kernel
theorem dX6_addTide_44 : decode cX6_addTide 44 = .ok (.ifCond .eq 13, 3) := by decide +kernel
theorem dX6_addTide_47 : decode cX6_addTide 47 = .ok (.new 61, 3) := by decide +kernel
theorem dX6_addTide_50 : decode cX6_addTide 50 = .ok (.dup, 1) := by decide +kernel
theorem dX6_addTide_51 : decode cX6_addTide 51 = .ok (.ldc 63, 2) := by decide +kernel
theorem dX6_addTide_53 : decode cX6_addTide 53 = .ok (.invokespecial 65, 3) := by decide +kernel
theorem dX6_addTide_56 : decode cX6_addTide 56 = .ok (.athrow, 1) := by decide +kernel
theorem dX6_addTide_57 : decode cX6_addTide 57 = .ok (.aload_n 0, 1) := by decide +kernel
theorem dX6_addTide_58 : decode cX6_addTide 58 = .ok (.getfield 12, 3) := by decide +kernel
theorem dX6_addTide_61 : decode cX6_addTide 61 = .ok (.iload_n 1, 1) := by decide +kernel
theorem dX6_addTide_62 : decode cX6_addTide 62 = .ok (.iload_n 2, 1) := by decide +kernel
theorem dX6_addTide_63 : decode cX6_addTide 63 = .ok (.invokevirtual 68, 3) := by decide +kernel
theorem dX6_addTide_66 : decode cX6_addTide 66 = .ok (.aload_n 0, 1) := by decide +kernel
theorem dX6_addTide_67 : decode cX6_addTide 67 = .ok (.getfield 12, 3) := by decide +kernel
theorem dX6_addTide_70 : decode cX6_addTide 70 = .ok (.getfield 54, 3) := by decide +kernel
theorem dX6_addTide_73 : decode cX6_addTide 73 = .ok (.ireturn, 1) := by decide +kernel
set_option maxRecDepth 20000 in
theorem ggX6_setWater_X6_checkRange : GoodIn wsX6_setWater wsX6_checkRange := goodIn_ca (goodIn_r _ [6, 7, 8] (by decide +kernel) (by decide +kernel)) (goodIn_sub (fun _ h => List.mem_cons_of_mem _ (List.mem_append_right _ h)) (by decide +kernel))
set_option maxRecDepth 20000 in
theorem gX6_setWater_X6_checkRange : GoodIn wsX6_setWater (va_wsS RX6 46 yX6_checkRange wsX6_checkRange) := goodIn_app (goodIn_of _ (by decide +kernel)) ggX6_setWater_X6_checkRange
theorem dX6_setWater_0 : decode cX6_setWater 0 = .ok (.iload_n 1, 1) := by decide +kernel
theorem dX6_setWater_1 : decode cX6_setWater 1 = .ok (.sipush 300, 3) := by decide +kernel
theorem dX6_setWater_4 : decode cX6_setWater 4 = .ok (.sipush 2500, 3) := by decide +kernel
theorem dX6_setWater_7 : decode cX6_setWater 7 = .ok (.invokestatic 46, 3) := by decide +kernel
theorem dX6_setWater_10 : decode cX6_setWater 10 = .ok (.iload_n 2, 1) := by decide +kernel
theorem dX6_setWater_11 : decode cX6_setWater 11 = .ok (.iconst 0, 1) := by decide +kernel
theorem dX6_setWater_12 : decode cX6_setWater 12 = .ok (.sipush 500, 3) := by decide +kernel
theorem dX6_setWater_15 : decode cX6_setWater 15 = .ok (.invokestatic 46, 3) := by decide +kernel
theorem dX6_setWater_18 : decode cX6_setWater 18 = .ok (.aload_n 0, 1) := by decide +kernel
theorem dX6_setWater_19 : decode cX6_setWater 19 = .ok (.getfield 32, 3) := by decide +kernel
theorem dX6_setWater_22 : decode cX6_setWater 22 = .ok (.istore_n 3, 1) := by decide +kernel
theorem dX6_setWater_23 : decode cX6_setWater 23 = .ok (.aload_n 0, 1) := by decide +kernel
theorem dX6_setWater_24 : decode cX6_setWater 24 = .ok (.iload_n 1, 1) := by decide +kernel
theorem dX6_setWater_25 : decode cX6_setWater 25 = .ok (.putfield 32, 3) := by decide +kernel
theorem dX6_setWater_28 : decode cX6_setWater 28 = .ok (.aload_n 0, 1) := by decide +kernel
theorem dX6_setWater_29 : decode cX6_setWater 29 = .ok (.iload_n 2, 1) := by decide +kernel
end
section
theorem dX6_setWater_30 : decode cX6_setWater 30 = .ok (.putfield 36, 3) := by decide +kernel
theorem dX6_setWater_33 : decode cX6_setWater 33 = .ok (.iload_n 3, 1) := by decide +kernel
theorem dX6_setWater_34 : decode cX6_setWater 34 = .ok (.ireturn, 1) := by decide +kernel
set_option maxRecDepth 20000 in
theorem ggX6_addBerth_X6_checkRange : GoodIn wsX6_addBerth wsX6_checkRange := goodIn_ca (goodIn_r _ [8, 9, 10] (by decide +kernel) (by decide +kernel)) (goodIn_sub (fun _ h => List.mem_cons_of_mem _ (List.mem_append_left _ (List.mem_append_right _ h))) (by decide +kernel))
set_option maxRecDepth 20000 in
theorem gX6_addBerth_X6_checkRange : GoodIn wsX6_addBerth (va_wsS RX6 46 yX6_checkRange wsX6_checkRange) := goodIn_app (goodIn_of _ (by decide +kernel)) ggX6_addBerth_X6_checkRange
set_option maxRecDepth 20000 in
theorem ggX6_addBerth_Jx4a65c_size_8abf5 : GoodIn wsX6_addBerth wsJx4a65c_size_8abf5 := goodIn_r _ [15, 16, 96, 97, 98] (by decide +kernel) (by decide +kernel)
set_option maxRecDepth 20000 in
theorem gX6_addBerth_Jx4a65c_size_8abf5 : GoodIn wsX6_addBerth (wsV RX6 76 RJx4a65c yJx4a65c_size_8abf5 wsJx4a65c_size_8abf5) := goodIn_app (goodIn_of _ (by decide +kernel)) ggX6_addBerth_Jx4a65c_size_8abf5
set_option maxRecDepth 20000 in
theorem ggX6_addBerth_X6_checkRoom : GoodIn wsX6_addBerth wsX6_checkRoom := goodIn_ca (goodIn_r _ [19, 20, 21] (by decide +kernel) (by decide +kernel)) (goodIn_sub (fun _ h => List.mem_cons_of_mem _ (List.mem_append_right _ h)) (by decide +kernel))
set_option maxRecDepth 20000 in
theorem gX6_addBerth_X6_checkRoom : GoodIn wsX6_addBerth (va_wsS RX6 79 yX6_checkRoom wsX6_checkRoom) := goodIn_app (goodIn_of _ (by decide +kernel)) ggX6_addBerth_X6_checkRoom
set_option maxRecDepth 20000 in
theorem ggX6_addBerth_X0_init : GoodIn wsX6_addBerth wsX0_init := goodIn_r _ [24, 25, 26, 27, 28, 29, 30, 93, 94, 95] (by decide +kernel) (by decide +kernel)
set_option maxRecDepth 20000 in
theorem gX6_addBerth_X0_init : GoodIn wsX6_addBerth (wsX0_init) := ggX6_addBerth_X0_init
set_option maxRecDepth 20000 in
theorem ggX6_addBerth_Jx4a65c_add_9ea2d : GoodIn wsX6_addBerth wsJx4a65c_add_9ea2d := goodIn_r _ [34, 35, 36, 37, 16, 38, 39, 40, 14, 41, 42, 43, 44, 45, 46, 47, 48, 49, 50, 51, 52, 53, 54, 55, 56, 57, 58, 59, 60, 61, 62, 63, 64, 65, 66, 67, 68, 69, 70, 71, 72, 73, 74, 75, 76, 77, 78, 79, 80, 81, 82, 83, 84, 96, 97, 98] (by decide +kernel) (by decide +kernel)
set_option maxRecDepth 20000 in
theorem gX6_addBerth_Jx4a65c_add_9ea2d : GoodIn wsX6_addBerth (wsV RX6 86 RJx4a65c yJx4a65c_add_9ea2d wsJx4a65c_add_9ea2d) := goodIn_app (goodIn_of _ (by decide +kernel)) ggX6_addBerth_Jx4a65c_add_9ea2d
theorem dX6_addBerth_0 : decode cX6_addBerth 0 = .ok (.iload_n 1, 1) := by decide +kernel
theorem dX6_addBerth_1 : decode cX6_addBerth 1 = .ok (.bipush 20, 2) := by decide +kernel
theorem dX6_addBerth_3 : decode cX6_addBerth 3 = .ok (.sipush 400, 3) := by decide +kernel
theorem dX6_addBerth_6 : decode cX6_addBerth 6 = .ok (.invokestatic 46, 3) := by decide +kernel
theorem dX6_addBerth_9 : decode cX6_addBerth 9 = .ok (.iload_n 2, 1) := by decide +kernel
theorem dX6_addBerth_10 : decode cX6_addBerth 10 = .ok (.sipush 300, 3) := by decide +kernel
theorem dX6_addBerth_13 : decode cX6_addBerth 13 = .ok (.sipush 2500, 3) := by decide +kernel
theorem dX6_addBerth_16 : decode cX6_addBerth 16 = .ok (.invokestatic 46, 3) := by decide +kernel
theorem dX6_addBerth_19 : decode cX6_addBerth 19 = .ok (.aload_n 0, 1) := by decide +kernel
theorem dX6_addBerth_20 : decode cX6_addBerth 20 = .ok (.getfield 19, 3) := by decide +kernel
theorem dX6_addBerth_23 : decode cX6_addBerth 23 = .ok (.invokevirtual 76, 3) := by decide +kernel
theorem dX6_addBerth_26 : decode cX6_addBerth 26 = .ok (.istore_n 3, 1) := by decide +kernel
theorem dX6_addBerth_27 : decode cX6_addBerth 27 = .ok (.iload_n 3, 1) := by decide +kernel
theorem dX6_addBerth_28 : decode cX6_addBerth 28 = .ok (.bipush 6, 2) := by decide +kernel
theorem dX6_addBerth_30 : decode cX6_addBerth 30 = .ok (.invokestatic 79, 3) := by decide +kernel
theorem dX6_addBerth_33 : decode cX6_addBerth 33 = .ok (.aload_n 0, 1) := by decide +kernel
theorem dX6_addBerth_34 : decode cX6_addBerth 34 = .ok (.getfield 19, 3) := by decide +kernel
theorem dX6_addBerth_37 : decode cX6_addBerth 37 = .ok (.new 82, 3) := by decide +kernel
theorem dX6_addBerth_40 : decode cX6_addBerth 40 = .ok (.dup, 1) := by decide +kernel
theorem dX6_addBerth_41 : decode cX6_addBerth 41 = .ok (.iload_n 3, 1) := by decide +kernel
theorem dX6_addBerth_42 : decode cX6_addBerth 42 = .ok (.iload_n 1, 1) := by decide +kernel
theorem dX6_addBerth_43 : decode cX6_addBerth 43 = .ok (.iload_n 2, 1) := by decide +kernel
theorem dX6_addBerth_44 : decode cX6_addBerth 44 = .ok (.invokespecial 84, 3) := by decide +kernel
theorem dX6_addBerth_47 : decode cX6_addBerth 47 = .ok (.invokevirtual 86, 3) := by decide +kernel
theorem dX6_addBerth_50 : decode cX6_addBerth 50 = .ok (.pop, 1) := by decide +kernel
theorem dX6_addBerth_51 : decode cX6_addBerth 51 = .ok (.iload_n 3, 1) := by decide +kernel
theorem dX6_addBerth_52 : decode cX6_addBerth 52 = .ok (.ireturn, 1) := by decide +kernel
set_option maxRecDepth 20000 in
theorem ggX6_addShip_X6_checkRange : GoodIn wsX6_addShip wsX6_checkRange := goodIn_ca (goodIn_r _ [8, 9, 10] (by decide +kernel) (by decide +kernel)) (goodIn_sub (fun _ h => List.mem_cons_of_mem _ (List.mem_append_left _ (List.mem_append_right _ h))) (by decide +kernel))
set_option maxRecDepth 20000 in
theorem gX6_addShip_X6_checkRange : GoodIn wsX6_addShip (va_wsS RX6 46 yX6_checkRange wsX6_checkRange) := goodIn_app (goodIn_of _ (by decide +kernel)) ggX6_addShip_X6_checkRange
set_option maxRecDepth 20000 in
theorem ggX6_addShip_Jx4a65c_size_8abf5 : GoodIn wsX6_addShip wsJx4a65c_size_8abf5 := goodIn_r _ [15, 16, 98, 99, 100] (by decide +kernel) (by decide +kernel)
set_option maxRecDepth 20000 in
theorem gX6_addShip_Jx4a65c_size_8abf5 : GoodIn wsX6_addShip (wsV RX6 76 RJx4a65c yJx4a65c_size_8abf5 wsJx4a65c_size_8abf5) := goodIn_app (goodIn_of _ (by decide +kernel)) ggX6_addShip_Jx4a65c_size_8abf5
set_option maxRecDepth 20000 in
theorem ggX6_addShip_X6_checkRoom : GoodIn wsX6_addShip wsX6_checkRoom := goodIn_ca (goodIn_r _ [19, 20, 21] (by decide +kernel) (by decide +kernel)) (goodIn_sub (fun _ h => List.mem_cons_of_mem _ (List.mem_append_right _ h)) (by decide +kernel))
set_option maxRecDepth 20000 in
theorem gX6_addShip_X6_checkRoom : GoodIn wsX6_addShip (va_wsS RX6 79 yX6_checkRoom wsX6_checkRoom) := goodIn_app (goodIn_of _ (by decide +kernel)) ggX6_addShip_X6_checkRoom
set_option maxRecDepth 20000 in
theorem ggX6_addShip_X4_init : GoodIn wsX6_addShip wsX4_init := goodIn_r _ [24, 25, 26, 27, 28, 29, 30, 31, 94, 95, 96, 97] (by decide +kernel) (by decide +kernel)
set_option maxRecDepth 20000 in
theorem gX6_addShip_X4_init : GoodIn wsX6_addShip (wsX4_init) := ggX6_addShip_X4_init
set_option maxRecDepth 20000 in
theorem ggX6_addShip_Jx4a65c_add_9ea2d : GoodIn wsX6_addShip wsJx4a65c_add_9ea2d := goodIn_r _ [35, 36, 37, 38, 16, 39, 40, 41, 14, 42, 43, 44, 45, 46, 47, 48, 49, 50, 51, 52, 53, 54, 55, 56, 57, 58, 59, 60, 61, 62, 63, 64, 65, 66, 67, 68, 69, 70, 71, 72, 73, 74, 75, 76, 77, 78, 79, 80, 81, 82, 83, 84, 85, 98, 99, 100] (by decide +kernel) (by decide +kernel)
set_option maxRecDepth 20000 in
theorem gX6_addShip_Jx4a65c_add_9ea2d : GoodIn wsX6_addShip (wsV RX6 86 RJx4a65c yJx4a65c_add_9ea2d wsJx4a65c_add_9ea2d) := goodIn_app (goodIn_of _ (by decide +kernel)) ggX6_addShip_Jx4a65c_add_9ea2d
theorem dX6_addShip_0 : decode cX6_addShip 0 = .ok (.iload_n 1, 1) := by decide +kernel
theorem dX6_addShip_1 : decode cX6_addShip 1 = .ok (.bipush 20, 2) := by decide +kernel
theorem dX6_addShip_3 : decode cX6_addShip 3 = .ok (.sipush 400, 3) := by decide +kernel
theorem dX6_addShip_6 : decode cX6_addShip 6 = .ok (.invokestatic 46, 3) := by decide +kernel
theorem dX6_addShip_9 : decode cX6_addShip 9 = .ok (.iload_n 2, 1) := by decide +kernel
theorem dX6_addShip_10 : decode cX6_addShip 10 = .ok (.bipush 100, 2) := by decide +kernel
theorem dX6_addShip_12 : decode cX6_addShip 12 = .ok (.sipush 2000, 3) := by decide +kernel
theorem dX6_addShip_15 : decode cX6_addShip 15 = .ok (.invokestatic 46, 3) := by decide +kernel
theorem dX6_addShip_18 : decode cX6_addShip 18 = .ok (.aload_n 0, 1) := by decide +kernel
theorem dX6_addShip_19 : decode cX6_addShip 19 = .ok (.getfield 23, 3) := by decide +kernel
theorem dX6_addShip_22 : decode cX6_addShip 22 = .ok (.invokevirtual 76, 3) := by decide +kernel
theorem dX6_addShip_25 : decode cX6_addShip 25 = .ok (.istore_n 3, 1) := by decide +kernel
theorem dX6_addShip_26 : decode cX6_addShip 26 = .ok (.iload_n 3, 1) := by decide +kernel
theorem dX6_addShip_27 : decode cX6_addShip 27 = .ok (.bipush 16, 2) := by decide +kernel
theorem dX6_addShip_29 : decode cX6_addShip 29 = .ok (.invokestatic 79, 3) := by decide +kernel
theorem dX6_addShip_32 : decode cX6_addShip 32 = .ok (.aload_n 0, 1) := by decide +kernel
theorem dX6_addShip_33 : decode cX6_addShip 33 = .ok (.getfield 23, 3) := by decide +kernel
theorem dX6_addShip_36 : decode cX6_addShip 36 = .ok (.new 90, 3) := by decide +kernel
theorem dX6_addShip_39 : decode cX6_addShip 39 = .ok (.dup, 1) := by decide +kernel
theorem dX6_addShip_40 : decode cX6_addShip 40 = .ok (.iload_n 3, 1) := by decide +kernel
theorem dX6_addShip_41 : decode cX6_addShip 41 = .ok (.iload_n 1, 1) := by decide +kernel
theorem dX6_addShip_42 : decode cX6_addShip 42 = .ok (.iload_n 2, 1) := by decide +kernel
theorem dX6_addShip_43 : decode cX6_addShip 43 = .ok (.invokespecial 92, 3) := by decide +kernel
theorem dX6_addShip_46 : decode cX6_addShip 46 = .ok (.invokevirtual 86, 3) := by decide +kernel
theorem dX6_addShip_49 : decode cX6_addShip 49 = .ok (.pop, 1) := by decide +kernel
theorem dX6_addShip_50 : decode cX6_addShip 50 = .ok (.iload_n 3, 1) := by decide +kernel
theorem dX6_addShip_51 : decode cX6_addShip 51 = .ok (.ireturn, 1) := by decide +kernel
set_option maxRecDepth 20000 in
theorem ggX6_addPilot_X6_checkRange : GoodIn wsX6_addPilot wsX6_checkRange := goodIn_ca (goodIn_r _ [8, 9, 10] (by decide +kernel) (by decide +kernel)) (goodIn_sub (fun _ h => List.mem_cons_of_mem _ (List.mem_append_left _ (List.mem_append_right _ h))) (by decide +kernel))
set_option maxRecDepth 20000 in
theorem gX6_addPilot_X6_checkRange : GoodIn wsX6_addPilot (va_wsS RX6 46 yX6_checkRange wsX6_checkRange) := goodIn_app (goodIn_of _ (by decide +kernel)) ggX6_addPilot_X6_checkRange
set_option maxRecDepth 20000 in
theorem ggX6_addPilot_Jx4a65c_size_8abf5 : GoodIn wsX6_addPilot wsJx4a65c_size_8abf5 := goodIn_r _ [15, 16, 98, 99, 100] (by decide +kernel) (by decide +kernel)
set_option maxRecDepth 20000 in
theorem gX6_addPilot_Jx4a65c_size_8abf5 : GoodIn wsX6_addPilot (wsV RX6 76 RJx4a65c yJx4a65c_size_8abf5 wsJx4a65c_size_8abf5) := goodIn_app (goodIn_of _ (by decide +kernel)) ggX6_addPilot_Jx4a65c_size_8abf5
set_option maxRecDepth 20000 in
theorem ggX6_addPilot_X6_checkRoom : GoodIn wsX6_addPilot wsX6_checkRoom := goodIn_ca (goodIn_r _ [19, 20, 21] (by decide +kernel) (by decide +kernel)) (goodIn_sub (fun _ h => List.mem_cons_of_mem _ (List.mem_append_right _ h)) (by decide +kernel))
set_option maxRecDepth 20000 in
theorem gX6_addPilot_X6_checkRoom : GoodIn wsX6_addPilot (va_wsS RX6 79 yX6_checkRoom wsX6_checkRoom) := goodIn_app (goodIn_of _ (by decide +kernel)) ggX6_addPilot_X6_checkRoom
set_option maxRecDepth 20000 in
theorem ggX6_addPilot_X2_init : GoodIn wsX6_addPilot wsX2_init := goodIn_r _ [24, 25, 26, 27, 28, 29, 30, 31, 94, 95, 96, 97] (by decide +kernel) (by decide +kernel)
set_option maxRecDepth 20000 in
theorem gX6_addPilot_X2_init : GoodIn wsX6_addPilot (wsX2_init) := ggX6_addPilot_X2_init
set_option maxRecDepth 20000 in
theorem ggX6_addPilot_Jx4a65c_add_9ea2d : GoodIn wsX6_addPilot wsJx4a65c_add_9ea2d := goodIn_r _ [35, 36, 37, 38, 16, 39, 40, 41, 14, 42, 43, 44, 45, 46, 47, 48, 49, 50, 51, 52, 53, 54, 55, 56, 57, 58, 59, 60, 61, 62, 63, 64, 65, 66, 67, 68, 69, 70, 71, 72, 73, 74, 75, 76, 77, 78, 79, 80, 81, 82, 83, 84, 85, 98, 99, 100] (by decide +kernel) (by decide +kernel)
set_option maxRecDepth 20000 in
theorem gX6_addPilot_Jx4a65c_add_9ea2d : GoodIn wsX6_addPilot (wsV RX6 86 RJx4a65c yJx4a65c_add_9ea2d wsJx4a65c_add_9ea2d) := goodIn_app (goodIn_of _ (by decide +kernel)) ggX6_addPilot_Jx4a65c_add_9ea2d
theorem dX6_addPilot_0 : decode cX6_addPilot 0 = .ok (.iload_n 1, 1) := by decide +kernel
theorem dX6_addPilot_1 : decode cX6_addPilot 1 = .ok (.bipush 20, 2) := by decide +kernel
theorem dX6_addPilot_3 : decode cX6_addPilot 3 = .ok (.sipush 400, 3) := by decide +kernel
theorem dX6_addPilot_6 : decode cX6_addPilot 6 = .ok (.invokestatic 46, 3) := by decide +kernel
theorem dX6_addPilot_9 : decode cX6_addPilot 9 = .ok (.aload_n 0, 1) := by decide +kernel
theorem dX6_addPilot_10 : decode cX6_addPilot 10 = .ok (.getfield 26, 3) := by decide +kernel
theorem dX6_addPilot_13 : decode cX6_addPilot 13 = .ok (.invokevirtual 76, 3) := by decide +kernel
theorem dX6_addPilot_16 : decode cX6_addPilot 16 = .ok (.istore_n 3, 1) := by decide +kernel
theorem dX6_addPilot_17 : decode cX6_addPilot 17 = .ok (.iload_n 3, 1) := by decide +kernel
theorem dX6_addPilot_18 : decode cX6_addPilot 18 = .ok (.bipush 6, 2) := by decide +kernel
theorem dX6_addPilot_20 : decode cX6_addPilot 20 = .ok (.invokestatic 79, 3) := by decide +kernel
theorem dX6_addPilot_23 : decode cX6_addPilot 23 = .ok (.aload_n 0, 1) := by decide +kernel
theorem dX6_addPilot_24 : decode cX6_addPilot 24 = .ok (.getfield 26, 3) := by decide +kernel
theorem dX6_addPilot_27 : decode cX6_addPilot 27 = .ok (.new 103, 3) := by decide +kernel
theorem dX6_addPilot_30 : decode cX6_addPilot 30 = .ok (.dup, 1) := by decide +kernel
theorem dX6_addPilot_31 : decode cX6_addPilot 31 = .ok (.iload_n 3, 1) := by decide +kernel
theorem dX6_addPilot_32 : decode cX6_addPilot 32 = .ok (.iload_n 1, 1) := by decide +kernel
theorem dX6_addPilot_33 : decode cX6_addPilot 33 = .ok (.iload_n 2, 1) := by decide +kernel
theorem dX6_addPilot_34 : decode cX6_addPilot 34 = .ok (.invokespecial 105, 3) := by decide +kernel
theorem dX6_addPilot_37 : decode cX6_addPilot 37 = .ok (.invokevirtual 86, 3) := by decide +kernel
theorem dX6_addPilot_40 : decode cX6_addPilot 40 = .ok (.pop, 1) := by decide +kernel
theorem dX6_addPilot_41 : decode cX6_addPilot 41 = .ok (.iload_n 3, 1) := by decide +kernel
theorem dX6_addPilot_42 : decode cX6_addPilot 42 = .ok (.ireturn, 1) := by decide +kernel
set_option maxRecDepth 20000 in
theorem ggX6_setTugs_X6_checkRange : GoodIn wsX6_setTugs wsX6_checkRange := goodIn_ca (goodIn_r _ [8, 9, 10] (by decide +kernel) (by decide +kernel)) (goodIn_sub (fun _ h => List.mem_cons_of_mem _ (List.mem_append_right _ h)) (by decide +kernel))
set_option maxRecDepth 20000 in
theorem gX6_setTugs_X6_checkRange : GoodIn wsX6_setTugs (va_wsS RX6 46 yX6_checkRange wsX6_checkRange) := goodIn_app (goodIn_of _ (by decide +kernel)) ggX6_setTugs_X6_checkRange
set_option maxRecDepth 20000 in
theorem ggX6_setTugs_Jx4a65c_isEmpty_aae02 : GoodIn wsX6_setTugs wsJx4a65c_isEmpty_aae02 := goodIn_r _ [15, 16, 25, 26, 27] (by decide +kernel) (by decide +kernel)
set_option maxRecDepth 20000 in
theorem gX6_setTugs_Jx4a65c_isEmpty_aae02 : GoodIn wsX6_setTugs (wsV RX6 50 RJx4a65c yJx4a65c_isEmpty_aae02 wsJx4a65c_isEmpty_aae02) := goodIn_app (goodIn_of _ (by decide +kernel)) ggX6_setTugs_Jx4a65c_isEmpty_aae02
theorem dX6_setTugs_0 : decode cX6_setTugs 0 = .ok (.iload_n 1, 1) := by decide +kernel
theorem dX6_setTugs_1 : decode cX6_setTugs 1 = .ok (.iconst 0, 1) := by decide +kernel
theorem dX6_setTugs_2 : decode cX6_setTugs 2 = .ok (.bipush 8, 2) := by decide +kernel
theorem dX6_setTugs_4 : decode cX6_setTugs 4 = .ok (.invokestatic 46, 3) := by decide +kernel
theorem dX6_setTugs_7 : decode cX6_setTugs 7 = .ok (.aload_n 0, 1) := by decide +kernel
theorem dX6_setTugs_8 : decode cX6_setTugs 8 = .ok (.getfield 29, 3) := by decide +kernel
theorem dX6_setTugs_11 : decode cX6_setTugs 11 = .ok (.invokevirtual 50, 3) := by decide +kernel
theorem dX6_setTugs_14 : decode cX6_setTugs 14 = .ok (.ifCond .ne 13, 3) := by decide +kernel
theorem dX6_setTugs_17 : decode cX6_setTugs 17 = .ok (.new 61, 3) := by decide +kernel
theorem dX6_setTugs_20 : decode cX6_setTugs 20 = .ok (.dup, 1) := by decide +kernel
theorem dX6_setTugs_21 : decode cX6_setTugs 21 = .ok (.ldc 108, 2) := by decide +kernel
theorem dX6_setTugs_23 : decode cX6_setTugs 23 = .ok (.invokespecial 65, 3) := by decide +kernel
theorem dX6_setTugs_26 : decode cX6_setTugs 26 = .ok (.athrow, 1) := by decide +kernel
theorem dX6_setTugs_27 : decode cX6_setTugs 27 = .ok (.aload_n 0, 1) := by decide +kernel
theorem dX6_setTugs_28 : decode cX6_setTugs 28 = .ok (.getfield 39, 3) := by decide +kernel
theorem dX6_setTugs_31 : decode cX6_setTugs 31 = .ok (.istore_n 2, 1) := by decide +kernel
theorem dX6_setTugs_32 : decode cX6_setTugs 32 = .ok (.aload_n 0, 1) := by decide +kernel
theorem dX6_setTugs_33 : decode cX6_setTugs 33 = .ok (.iload_n 1, 1) := by decide +kernel
theorem dX6_setTugs_34 : decode cX6_setTugs 34 = .ok (.putfield 39, 3) := by decide +kernel
theorem dX6_setTugs_37 : decode cX6_setTugs 37 = .ok (.iload_n 2, 1) := by decide +kernel
theorem dX6_setTugs_38 : decode cX6_setTugs 38 = .ok (.ireturn, 1) := by decide +kernel
set_option maxRecDepth 20000 in
theorem ggX6_count_Jx4a65c_size_8abf5 : GoodIn wsX6_count wsJx4a65c_size_8abf5 := goodIn_r _ [12, 13, 25, 26, 27] (by decide +kernel) (by decide +kernel)
set_option maxRecDepth 20000 in
theorem gX6_count_Jx4a65c_size_8abf5 : GoodIn wsX6_count (wsV RX6 76 RJx4a65c yJx4a65c_size_8abf5 wsJx4a65c_size_8abf5) := goodIn_app (goodIn_of _ (by decide +kernel)) ggX6_count_Jx4a65c_size_8abf5
theorem dX6_count_0 : decode cX6_count 0 = .ok (.iload_n 1, 1) := by decide +kernel
theorem dX6_count_1 : decode cX6_count 1 = .ok (.tableswitch 75 0 4 #[35, 43, 51, 59, 67], 35) := by decide +kernel
theorem dX6_count_36 : decode cX6_count 36 = .ok (.aload_n 0, 1) := by decide +kernel
theorem dX6_count_37 : decode cX6_count 37 = .ok (.getfield 12, 3) := by decide +kernel
theorem dX6_count_40 : decode cX6_count 40 = .ok (.getfield 54, 3) := by decide +kernel
theorem dX6_count_43 : decode cX6_count 43 = .ok (.ireturn, 1) := by decide +kernel
theorem dX6_count_44 : decode cX6_count 44 = .ok (.aload_n 0, 1) := by decide +kernel
theorem dX6_count_45 : decode cX6_count 45 = .ok (.getfield 19, 3) := by decide +kernel
theorem dX6_count_48 : decode cX6_count 48 = .ok (.invokevirtual 76, 3) := by decide +kernel
theorem dX6_count_51 : decode cX6_count 51 = .ok (.ireturn, 1) := by decide +kernel
theorem dX6_count_52 : decode cX6_count 52 = .ok (.aload_n 0, 1) := by decide +kernel
theorem dX6_count_53 : decode cX6_count 53 = .ok (.getfield 23, 3) := by decide +kernel
theorem dX6_count_56 : decode cX6_count 56 = .ok (.invokevirtual 76, 3) := by decide +kernel
theorem dX6_count_59 : decode cX6_count 59 = .ok (.ireturn, 1) := by decide +kernel
theorem dX6_count_60 : decode cX6_count 60 = .ok (.aload_n 0, 1) := by decide +kernel
theorem dX6_count_61 : decode cX6_count 61 = .ok (.getfield 26, 3) := by decide +kernel
theorem dX6_count_64 : decode cX6_count 64 = .ok (.invokevirtual 76, 3) := by decide +kernel
theorem dX6_count_67 : decode cX6_count 67 = .ok (.ireturn, 1) := by decide +kernel
theorem dX6_count_68 : decode cX6_count 68 = .ok (.aload_n 0, 1) := by decide +kernel
theorem dX6_count_69 : decode cX6_count 69 = .ok (.getfield 29, 3) := by decide +kernel
theorem dX6_count_72 : decode cX6_count 72 = .ok (.invokevirtual 76, 3) := by decide +kernel
theorem dX6_count_75 : decode cX6_count 75 = .ok (.ireturn, 1) := by decide +kernel
theorem dX6_count_76 : decode cX6_count 76 = .ok (.new 110, 3) := by decide +kernel
theorem dX6_count_79 : decode cX6_count 79 = .ok (.dup, 1) := by decide +kernel
theorem dX6_count_80 : decode cX6_count 80 = .ok (.ldc 112, 2) := by decide +kernel
theorem dX6_count_82 : decode cX6_count 82 = .ok (.invokespecial 114, 3) := by decide +kernel
theorem dX6_count_85 : decode cX6_count 85 = .ok (.athrow, 1) := by decide +kernel
set_option maxRecDepth 20000 in
theorem ggX6_earliest_X6_checkCall : GoodIn wsX6_earliest wsX6_checkCall := goodIn_ca (goodIn_ca (goodIn_r _ [5, 6, 7, 8, 9, 10, 11, 12, 13, 14, 15, 4, 16, 17, 18, 19, 20, 21, 22, 23, 24, 25, 26, 170, 171, 172, 173, 174, 175, 176, 177, 178, 179, 180] (by decide +kernel) (by decide +kernel)) (goodIn_sub (fun _ h => List.mem_cons_of_mem _ (List.mem_append_left _ (List.mem_append_right _ h))) (by decide +kernel))) (goodIn_sub (fun _ h => List.mem_cons_of_mem _ (List.mem_append_right _ h)) (by decide +kernel))
set_option maxRecDepth 20000 in
theorem gX6_earliest_X6_checkCall : GoodIn wsX6_earliest (wsV RX6 119 RX6 yX6_checkCall wsX6_checkCall) := goodIn_app (goodIn_of _ (by decide +kernel)) ggX6_earliest_X6_checkCall
set_option maxRecDepth 20000 in
theorem ggX6_earliest_X6_routeOf : GoodIn wsX6_earliest wsX6_routeOf := goodIn_r _ [30, 6, 31, 32, 33, 34, 7, 35, 36, 37, 38, 11, 39, 13, 40, 41, 42, 43, 44, 45, 46, 47, 48, 49, 50, 51, 52, 53, 54, 55, 56, 57, 58, 59, 60, 61, 62, 63, 64, 65, 170, 171, 172, 173, 174, 175, 176, 177, 181, 182, 183, 184, 185, 186, 187, 188, 189, 190, 191, 192, 193, 194, 195, 178, 179, 180] (by decide +kernel) (by decide +kernel)
set_option maxRecDepth 20000 in
theorem gX6_earliest_X6_routeOf : GoodIn wsX6_earliest (wsV RX6 160 RX6 yX6_routeOf wsX6_routeOf) := goodIn_app (goodIn_of _ (by decide +kernel)) ggX6_earliest_X6_routeOf
set_option maxRecDepth 20000 in
theorem ggX6_earliest_X6_firstBegin : GoodIn wsX6_earliest wsX6_firstBegin := goodIn_r _ [69, 70, 71, 72, 73, 74, 75, 76, 4, 77, 78, 79, 80, 81, 82, 83, 84, 85, 8, 9, 10, 11, 12, 13, 36, 37, 38, 39, 40, 41, 42, 43, 44, 45, 46, 47, 48, 49, 50, 51, 52, 86, 87, 88, 89, 90, 91, 92, 93, 94, 95, 96, 97, 98, 99, 100, 34, 101, 61, 102, 103, 104, 105, 106, 107, 108, 109, 110, 111, 112, 113, 114, 115, 116, 117, 118, 119, 120, 121, 122, 123, 124, 125, 126, 127, 128, 129, 130, 131, 132, 133, 134, 135, 136, 137, 138, 139, 140, 141, 142, 143, 144, 145, 146, 147, 148, 149, 150, 151, 152, 153, 154, 155, 156, 157, 158, 159, 160, 161, 162, 163, 164, 165, 166, 167, 168, 169, 192, 193, 194, 195, 181, 182, 183, 184, 196, 197, 198, 170, 171, 172, 173, 174, 175, 176, 177, 185, 186, 187, 188, 189, 190, 191, 178, 179, 180, 199, 200, 201, 202, 203, 204, 205] (by decide +kernel) (by decide +kernel)
set_option maxRecDepth 20000 in
theorem gX6_earliest_X6_firstBegin : GoodIn wsX6_earliest (wsV RX6 164 RX6 yX6_firstBegin wsX6_firstBegin) := goodIn_app (goodIn_of _ (by decide +kernel)) ggX6_earliest_X6_firstBegin
theorem dX6_earliest_0 : decode cX6_earliest 0 = .ok (.aload_n 0, 1) := by decide +kernel
theorem dX6_earliest_1 : decode cX6_earliest 1 = .ok (.iload_n 1, 1) := by decide +kernel
theorem dX6_earliest_2 : decode cX6_earliest 2 = .ok (.iload_n 2, 1) := by decide +kernel
theorem dX6_earliest_3 : decode cX6_earliest 3 = .ok (.iload_n 3, 1) := by decide +kernel
theorem dX6_earliest_4 : decode cX6_earliest 4 = .ok (.invokevirtual 119, 3) := by decide +kernel
theorem dX6_earliest_7 : decode cX6_earliest 7 = .ok (.aload_n 0, 1) := by decide +kernel
theorem dX6_earliest_8 : decode cX6_earliest 8 = .ok (.iload_n 1, 1) := by decide +kernel
theorem dX6_earliest_9 : decode cX6_earliest 9 = .ok (.iload_n 2, 1) := by decide +kernel
theorem dX6_earliest_10 : decode cX6_earliest 10 = .ok (.invokevirtual 160, 3) := by decide +kernel
theorem dX6_earliest_13 : decode cX6_earliest 13 = .ok (.astore 4, 2) := by decide +kernel
theorem dX6_earliest_15 : decode cX6_earliest 15 = .ok (.aload 4, 2) := by decide +kernel
theorem dX6_earliest_17 : decode cX6_earliest 17 = .ok (.ifnonnull 7, 3) := by decide +kernel
theorem dX6_earliest_20 : decode cX6_earliest 20 = .ok (.iconst (-1), 1) := by decide +kernel
theorem dX6_earliest_21 : decode cX6_earliest 21 = .ok (.goto 10, 3) := by decide +kernel
theorem dX6_earliest_24 : decode cX6_earliest 24 = .ok (.aload_n 0, 1) := by decide +kernel
theorem dX6_earliest_25 : decode cX6_earliest 25 = .ok (.aload 4, 2) := by decide +kernel
theorem dX6_earliest_27 : decode cX6_earliest 27 = .ok (.iload_n 3, 1) := by decide +kernel
theorem dX6_earliest_28 : decode cX6_earliest 28 = .ok (.invokevirtual 164, 3) := by decide +kernel
theorem dX6_earliest_31 : decode cX6_earliest 31 = .ok (.ireturn, 1) := by decide +kernel
set_option maxRecDepth 20000 in
theorem ggX6_book_X6_checkCall : GoodIn wsX6_book wsX6_checkCall := goodIn_ca (goodIn_ca (goodIn_r _ [11, 12, 13, 14, 15, 16, 17, 18, 19, 20, 21, 10, 22, 23, 24, 25, 26, 27, 28, 29, 30, 31, 32, 240, 241, 242, 243, 244, 245, 246, 247, 255, 256, 257] (by decide +kernel) (by decide +kernel)) (goodIn_sub (fun _ h => List.mem_cons_of_mem _ (List.mem_append_left _ (List.mem_append_right _ h))) (by decide +kernel))) (goodIn_sub (fun _ h => List.mem_cons_of_mem _ (List.mem_append_right _ h)) (by decide +kernel))
set_option maxRecDepth 20000 in
theorem gX6_book_X6_checkCall : GoodIn wsX6_book (wsV RX6 119 RX6 yX6_checkCall wsX6_checkCall) := goodIn_app (goodIn_of _ (by decide +kernel)) ggX6_book_X6_checkCall
set_option maxRecDepth 20000 in
theorem ggX6_book_Jx4a65c_size_8abf5 : GoodIn wsX6_book wsJx4a65c_size_8abf5 := goodIn_r _ [18, 19, 255, 256, 257] (by decide +kernel) (by decide +kernel)
set_option maxRecDepth 20000 in
theorem gX6_book_Jx4a65c_size_8abf5 : GoodIn wsX6_book (wsV RX6 76 RJx4a65c yJx4a65c_size_8abf5 wsJx4a65c_size_8abf5) := goodIn_app (goodIn_of _ (by decide +kernel)) ggX6_book_Jx4a65c_size_8abf5
set_option maxRecDepth 20000 in
theorem ggX6_book_X6_checkRoom : GoodIn wsX6_book wsX6_checkRoom := goodIn_ca (goodIn_r _ [35, 1, 2] (by decide +kernel) (by decide +kernel)) (goodIn_sub (fun _ h => List.mem_cons_of_mem _ (List.mem_append_left _ (List.mem_append_left _ (List.mem_append_right _ h)))) (by decide +kernel))
set_option maxRecDepth 20000 in
theorem gX6_book_X6_checkRoom : GoodIn wsX6_book (va_wsS RX6 79 yX6_checkRoom wsX6_checkRoom) := goodIn_app (goodIn_of _ (by decide +kernel)) ggX6_book_X6_checkRoom
set_option maxRecDepth 20000 in
theorem ggX6_book_X6_routeOf : GoodIn wsX6_book wsX6_routeOf := goodIn_r _ [39, 12, 40, 41, 42, 43, 13, 44, 45, 46, 47, 17, 48, 19, 49, 50, 51, 52, 53, 54, 55, 56, 57, 58, 59, 60, 61, 62, 63, 64, 65, 66, 67, 68, 69, 70, 71, 72, 73, 74, 240, 241, 242, 243, 244, 245, 246, 247, 258, 259, 260, 261, 248, 249, 250, 251, 252, 253, 254, 262, 263, 264, 265, 255, 256, 257] (by decide +kernel) (by decide +kernel)
set_option maxRecDepth 20000 in
theorem gX6_book_X6_routeOf : GoodIn wsX6_book (wsV RX6 160 RX6 yX6_routeOf wsX6_routeOf) := goodIn_app (goodIn_of _ (by decide +kernel)) ggX6_book_X6_routeOf
set_option maxRecDepth 20000 in
theorem ggX6_book_X6_firstBegin : GoodIn wsX6_book wsX6_firstBegin := goodIn_r _ [78, 79, 80, 81, 82, 83, 84, 85, 10, 86, 3, 87, 88, 89, 90, 6, 91, 92, 14, 15, 16, 17, 18, 19, 45, 46, 47, 48, 49, 50, 51, 52, 53, 54, 55, 56, 57, 58, 59, 60, 61, 93, 94, 95, 96, 97, 98, 99, 100, 101, 102, 103, 104, 105, 106, 107, 43, 108, 70, 109, 110, 111, 112, 113, 114, 115, 116, 117, 118, 119, 120, 121, 122, 123, 124, 125, 126, 127, 128, 129, 130, 131, 132, 133, 134, 135, 136, 137, 138, 139, 140, 141, 142, 143, 144, 145, 146, 147, 148, 149, 150, 151, 152, 153, 154, 155, 156, 157, 158, 159, 160, 161, 162, 163, 164, 165, 166, 167, 168, 169, 170, 171, 172, 173, 174, 175, 176, 262, 263, 264, 265, 258, 259, 260, 261, 266, 267, 268, 240, 241, 242, 243, 244, 245, 246, 247, 248, 249, 250, 251, 252, 253, 254, 255, 256, 257, 269, 270, 271, 272, 273, 274, 275] (by decide +kernel) (by decide +kernel)
set_option maxRecDepth 20000 in
theorem gX6_book_X6_firstBegin : GoodIn wsX6_book (wsV RX6 164 RX6 yX6_firstBegin wsX6_firstBegin) := goodIn_app (goodIn_of _ (by decide +kernel)) ggX6_book_X6_firstBegin
set_option maxRecDepth 20000 in
theorem ggX6_book_X6_pilotFor : GoodIn wsX6_book wsX6_pilotFor := goodIn_r _ [157, 158, 159, 14, 15, 16, 17, 18, 19, 45, 46, 47, 48, 49, 50, 51, 52, 53, 54, 55, 56, 57, 58, 59, 60, 61, 160, 161, 162, 163, 164, 165, 166, 167, 168, 169, 170, 171, 172, 89, 90, 6, 91, 92, 173, 174, 175, 176, 240, 241, 242, 243, 244, 245, 246, 247, 255, 256, 257, 272, 273, 274, 275, 262, 263, 264, 265, 258, 259, 260, 261, 248, 249, 250, 251, 252, 253, 254] (by decide +kernel) (by decide +kernel)
set_option maxRecDepth 20000 in
theorem gX6_book_X6_pilotFor : GoodIn wsX6_book (wsV RX6 170 RX6 yX6_pilotFor wsX6_pilotFor) := goodIn_app (goodIn_of _ (by decide +kernel)) ggX6_book_X6_pilotFor
set_option maxRecDepth 20000 in
theorem ggX6_book_X1_init : GoodIn wsX6_book wsX1_init := goodIn_r _ [179, 180, 66, 67, 152, 181, 92, 182, 183, 184, 185, 248, 249, 250, 251, 252, 253, 254, 262, 263, 264, 265, 258, 259, 260, 261, 272, 273, 274, 275] (by decide +kernel) (by decide +kernel)
set_option maxRecDepth 20000 in
theorem gX6_book_X1_init : GoodIn wsX6_book (wsX1_init) := ggX6_book_X1_init
set_option maxRecDepth 20000 in
theorem ggX6_book_X6_enter : GoodIn wsX6_book wsX6_enter := goodIn_r _ [189, 3, 190, 191, 192, 17, 193, 194, 195, 61, 19, 196, 197, 198, 199, 200, 201, 202, 203, 204, 205, 206, 207, 208, 209, 80, 81, 82, 210, 211, 212, 213, 214, 215, 216, 217, 218, 219, 220, 221, 222, 223, 224, 225, 226, 227, 228, 229, 230, 231, 232, 233, 234, 235, 236, 237, 238, 239, 88, 89, 90, 6, 91, 92, 240, 241, 242, 243, 244, 245, 246, 247, 248, 249, 250, 251, 252, 253, 254, 262, 263, 264, 265, 258, 259, 260, 261, 272, 273, 274, 275, 255, 256, 257] (by decide +kernel) (by decide +kernel)
set_option maxRecDepth 20000 in
theorem gX6_book_X6_enter : GoodIn wsX6_book (wsV RX6 179 RX6 yX6_enter wsX6_enter) := goodIn_app (goodIn_of _ (by decide +kernel)) ggX6_book_X6_enter
theorem dX6_book_0 : decode cX6_book 0 = .ok (.aload_n 0, 1) := by decide +kernel
theorem dX6_book_1 : decode cX6_book 1 = .ok (.iload_n 1, 1) := by decide +kernel
theorem dX6_book_2 : decode cX6_book 2 = .ok (.iload_n 2, 1) := by decide +kernel
theorem dX6_book_3 : decode cX6_book 3 = .ok (.iload_n 3, 1) := by decide +kernel
theorem dX6_book_4 : decode cX6_book 4 = .ok (.invokevirtual 119, 3) := by decide +kernel
theorem dX6_book_7 : decode cX6_book 7 = .ok (.aload_n 0, 1) := by decide +kernel
theorem dX6_book_8 : decode cX6_book 8 = .ok (.getfield 29, 3) := by decide +kernel
theorem dX6_book_11 : decode cX6_book 11 = .ok (.invokevirtual 76, 3) := by decide +kernel
theorem dX6_book_14 : decode cX6_book 14 = .ok (.istore 4, 2) := by decide +kernel
theorem dX6_book_16 : decode cX6_book 16 = .ok (.iload 4, 2) := by decide +kernel
theorem dX6_book_18 : decode cX6_book 18 = .ok (.bipush 40, 2) := by decide +kernel
theorem dX6_book_20 : decode cX6_book 20 = .ok (.invokestatic 79, 3) := by decide +kernel
theorem dX6_book_23 : decode cX6_book 23 = .ok (.aload_n 0, 1) := by decide +kernel
theorem dX6_book_24 : decode cX6_book 24 = .ok (.iload_n 1, 1) := by decide +kernel
theorem dX6_book_25 : decode cX6_book 25 = .ok (.iload_n 2, 1) := by decide +kernel
theorem dX6_book_26 : decode cX6_book 26 = .ok (.invokevirtual 160, 3) := by decide +kernel
theorem dX6_book_29 : decode cX6_book 29 = .ok (.astore 5, 2) := by decide +kernel
theorem dX6_book_31 : decode cX6_book 31 = .ok (.aload 5, 2) := by decide +kernel
theorem dX6_book_33 : decode cX6_book 33 = .ok (.ifnonnull 13, 3) := by decide +kernel
theorem dX6_book_36 : decode cX6_book 36 = .ok (.new 61, 3) := by decide +kernel
theorem dX6_book_39 : decode cX6_book 39 = .ok (.dup, 1) := by decide +kernel
theorem dX6_book_40 : decode cX6_book 40 = .ok (.ldc 168, 2) := by decide +kernel
theorem dX6_book_42 : decode cX6_book 42 = .ok (.invokespecial 65, 3) := by decide +kernel
theorem dX6_book_45 : decode cX6_book 45 = .ok (.athrow, 1) := by decide +kernel
theorem dX6_book_46 : decode cX6_book 46 = .ok (.aload_n 0, 1) := by decide +kernel
theorem dX6_book_47 : decode cX6_book 47 = .ok (.aload 5, 2) := by decide +kernel
theorem dX6_book_49 : decode cX6_book 49 = .ok (.iload_n 3, 1) := by decide +kernel
theorem dX6_book_50 : decode cX6_book 50 = .ok (.invokevirtual 164, 3) := by decide +kernel
theorem dX6_book_53 : decode cX6_book 53 = .ok (.istore 6, 2) := by decide +kernel
theorem dX6_book_55 : decode cX6_book 55 = .ok (.iload 6, 2) := by decide +kernel
theorem dX6_book_57 : decode cX6_book 57 = .ok (.iconst (-1), 1) := by decide +kernel
theorem dX6_book_58 : decode cX6_book 58 = .ok (.if_icmp .ne 7, 3) := by decide +kernel
theorem dX6_book_61 : decode cX6_book 61 = .ok (.aconst_null, 1) := by decide +kernel
theorem dX6_book_62 : decode cX6_book 62 = .ok (.goto 11, 3) := by decide +kernel
theorem dX6_book_65 : decode cX6_book 65 = .ok (.aload_n 0, 1) := by decide +kernel
theorem dX6_book_66 : decode cX6_book 66 = .ok (.aload 5, 2) := by decide +kernel
theorem dX6_book_68 : decode cX6_book 68 = .ok (.iload 6, 2) := by decide +kernel
theorem dX6_book_70 : decode cX6_book 70 = .ok (.invokevirtual 170, 3) := by decide +kernel
theorem dX6_book_73 : decode cX6_book 73 = .ok (.astore 7, 2) := by decide +kernel
theorem dX6_book_75 : decode cX6_book 75 = .ok (.aload 7, 2) := by decide +kernel
theorem dX6_book_77 : decode cX6_book 77 = .ok (.ifnonnull 13, 3) := by decide +kernel
theorem dX6_book_80 : decode cX6_book 80 = .ok (.new 61, 3) := by decide +kernel
theorem dX6_book_83 : decode cX6_book 83 = .ok (.dup, 1) := by decide +kernel
theorem dX6_book_84 : decode cX6_book 84 = .ok (.ldc 174, 2) := by decide +kernel
theorem dX6_book_86 : decode cX6_book 86 = .ok (.invokespecial 65, 3) := by decide +kernel
theorem dX6_book_89 : decode cX6_book 89 = .ok (.athrow, 1) := by decide +kernel
theorem dX6_book_90 : decode cX6_book 90 = .ok (.aload_n 0, 1) := by decide +kernel
theorem dX6_book_91 : decode cX6_book 91 = .ok (.new 134, 3) := by decide +kernel
theorem dX6_book_94 : decode cX6_book 94 = .ok (.dup, 1) := by decide +kernel
theorem dX6_book_95 : decode cX6_book 95 = .ok (.aload 5, 2) := by decide +kernel
theorem dX6_book_97 : decode cX6_book 97 = .ok (.iload_n 3, 1) := by decide +kernel
theorem dX6_book_98 : decode cX6_book 98 = .ok (.iload 6, 2) := by decide +kernel
theorem dX6_book_100 : decode cX6_book 100 = .ok (.aload 7, 2) := by decide +kernel
theorem dX6_book_102 : decode cX6_book 102 = .ok (.invokespecial 176, 3) := by decide +kernel
theorem dX6_book_105 : decode cX6_book 105 = .ok (.invokevirtual 179, 3) := by decide +kernel
theorem dX6_book_108 : decode cX6_book 108 = .ok (.iload 4, 2) := by decide +kernel
theorem dX6_book_110 : decode cX6_book 110 = .ok (.ireturn, 1) := by decide +kernel
set_option maxRecDepth 20000 in
theorem ggX6_passage_Jx4a65c_size_8abf5 : GoodIn wsX6_passage wsJx4a65c_size_8abf5 := goodIn_r _ [9, 10, 62, 63, 64] (by decide +kernel) (by decide +kernel)
set_option maxRecDepth 20000 in
theorem gX6_passage_Jx4a65c_size_8abf5 : GoodIn wsX6_passage (wsV RX6 76 RJx4a65c yJx4a65c_size_8abf5 wsJx4a65c_size_8abf5) := goodIn_app (goodIn_of _ (by decide +kernel)) ggX6_passage_Jx4a65c_size_8abf5
set_option maxRecDepth 20000 in
theorem ggX6_passage_X6_checkNumber : GoodIn wsX6_passage wsX6_checkNumber := goodIn_ca (goodIn_r _ [14, 1, 2] (by decide +kernel) (by decide +kernel)) (goodIn_sub (fun _ h => List.mem_cons_of_mem _ (List.mem_append_right _ h)) (by decide +kernel))
set_option maxRecDepth 20000 in
theorem gX6_passage_X6_checkNumber : GoodIn wsX6_passage (va_wsS RX6 93 yX6_checkNumber wsX6_checkNumber) := goodIn_app (goodIn_of _ (by decide +kernel)) ggX6_passage_X6_checkNumber
set_option maxRecDepth 20000 in
theorem ggX6_passage_Jx4a65c_get_915e3 : GoodIn wsX6_passage wsJx4a65c_get_915e3 := goodIn_r _ [18, 10, 19, 20, 21, 22, 23, 24, 25, 26, 27, 28, 29, 8, 30, 31, 62, 63, 64] (by decide +kernel) (by decide +kernel)
set_option maxRecDepth 20000 in
theorem gX6_passage_Jx4a65c_get_915e3 : GoodIn wsX6_passage (wsV RX6 96 RJx4a65c yJx4a65c_get_915e3 wsJx4a65c_get_915e3) := goodIn_app (goodIn_of _ (by decide +kernel)) ggX6_passage_Jx4a65c_get_915e3
theorem dX6_passage_0 : decode cX6_passage 0 = .ok (.iload_n 1, 1) := by decide +kernel
theorem dX6_passage_1 : decode cX6_passage 1 = .ok (.aload_n 0, 1) := by decide +kernel
theorem dX6_passage_2 : decode cX6_passage 2 = .ok (.getfield 29, 3) := by decide +kernel
theorem dX6_passage_5 : decode cX6_passage 5 = .ok (.invokevirtual 76, 3) := by decide +kernel
theorem dX6_passage_8 : decode cX6_passage 8 = .ok (.invokestatic 93, 3) := by decide +kernel
theorem dX6_passage_11 : decode cX6_passage 11 = .ok (.aload_n 0, 1) := by decide +kernel
theorem dX6_passage_12 : decode cX6_passage 12 = .ok (.getfield 29, 3) := by decide +kernel
theorem dX6_passage_15 : decode cX6_passage 15 = .ok (.iload_n 1, 1) := by decide +kernel
theorem dX6_passage_16 : decode cX6_passage 16 = .ok (.invokevirtual 96, 3) := by decide +kernel
theorem dX6_passage_19 : decode cX6_passage 19 = .ok (.checkcast 134, 3) := by decide +kernel
theorem dX6_passage_22 : decode cX6_passage 22 = .ok (.astore_n 3, 1) := by decide +kernel
theorem dX6_passage_23 : decode cX6_passage 23 = .ok (.iload_n 2, 1) := by decide +kernel
theorem dX6_passage_24 : decode cX6_passage 24 = .ok (.tableswitch 99 0 5 #[40, 51, 56, 64, 72, 83], 40) := by decide +kernel
theorem dX6_passage_64 : decode cX6_passage 64 = .ok (.aload_n 3, 1) := by decide +kernel
theorem dX6_passage_65 : decode cX6_passage 65 = .ok (.getfield 133, 3) := by decide +kernel
theorem dX6_passage_68 : decode cX6_passage 68 = .ok (.getfield 188, 3) := by decide +kernel
theorem dX6_passage_71 : decode cX6_passage 71 = .ok (.getfield 203, 3) := by decide +kernel
theorem dX6_passage_74 : decode cX6_passage 74 = .ok (.ireturn, 1) := by decide +kernel
theorem dX6_passage_75 : decode cX6_passage 75 = .ok (.aload_n 3, 1) := by decide +kernel
theorem dX6_passage_76 : decode cX6_passage 76 = .ok (.getfield 153, 3) := by decide +kernel
theorem dX6_passage_79 : decode cX6_passage 79 = .ok (.ireturn, 1) := by decide +kernel
theorem dX6_passage_80 : decode cX6_passage 80 = .ok (.aload_n 3, 1) := by decide +kernel
theorem dX6_passage_81 : decode cX6_passage 81 = .ok (.getfield 192, 3) := by decide +kernel
theorem dX6_passage_84 : decode cX6_passage 84 = .ok (.getfield 206, 3) := by decide +kernel
theorem dX6_passage_87 : decode cX6_passage 87 = .ok (.ireturn, 1) := by decide +kernel
theorem dX6_passage_88 : decode cX6_passage 88 = .ok (.aload_n 3, 1) := by decide +kernel
theorem dX6_passage_89 : decode cX6_passage 89 = .ok (.getfield 133, 3) := by decide +kernel
theorem dX6_passage_92 : decode cX6_passage 92 = .ok (.getfield 207, 3) := by decide +kernel
theorem dX6_passage_95 : decode cX6_passage 95 = .ok (.ireturn, 1) := by decide +kernel
theorem dX6_passage_96 : decode cX6_passage 96 = .ok (.aload_n 3, 1) := by decide +kernel
theorem dX6_passage_97 : decode cX6_passage 97 = .ok (.getfield 133, 3) := by decide +kernel
theorem dX6_passage_100 : decode cX6_passage 100 = .ok (.getfield 208, 3) := by decide +kernel
theorem dX6_passage_103 : decode cX6_passage 103 = .ok (.getfield 212, 3) := by decide +kernel
theorem dX6_passage_106 : decode cX6_passage 106 = .ok (.ireturn, 1) := by decide +kernel
theorem dX6_passage_107 : decode cX6_passage 107 = .ok (.aload_n 3, 1) := by decide +kernel
theorem dX6_passage_108 : decode cX6_passage 108 = .ok (.getfield 133, 3) := by decide +kernel
theorem dX6_passage_111 : decode cX6_passage 111 = .ok (.getfield 139, 3) := by decide +kernel
theorem dX6_passage_114 : decode cX6_passage 114 = .ok (.ifCond .eq 7, 3) := by decide +kernel
theorem dX6_passage_117 : decode cX6_passage 117 = .ok (.iconst 1, 1) := by decide +kernel
theorem dX6_passage_118 : decode cX6_passage 118 = .ok (.goto 4, 3) := by decide +kernel
theorem dX6_passage_121 : decode cX6_passage 121 = .ok (.iconst 0, 1) := by decide +kernel
theorem dX6_passage_122 : decode cX6_passage 122 = .ok (.ireturn, 1) := by decide +kernel
theorem dX6_passage_123 : decode cX6_passage 123 = .ok (.new 110, 3) := by decide +kernel
theorem dX6_passage_126 : decode cX6_passage 126 = .ok (.dup, 1) := by decide +kernel
theorem dX6_passage_127 : decode cX6_passage 127 = .ok (.ldc 213, 2) := by decide +kernel
theorem dX6_passage_129 : decode cX6_passage 129 = .ok (.invokespecial 114, 3) := by decide +kernel
theorem dX6_passage_132 : decode cX6_passage 132 = .ok (.athrow, 1) := by decide +kernel
set_option maxRecDepth 20000 in
theorem ggX6_occupant_Jx4a65c_size_8abf5 : GoodIn wsX6_occupant wsJx4a65c_size_8abf5 := goodIn_r _ [8, 9, 74, 75, 76] (by decide +kernel) (by decide +kernel)
set_option maxRecDepth 20000 in
theorem gX6_occupant_Jx4a65c_size_8abf5 : GoodIn wsX6_occupant (wsV RX6 76 RJx4a65c yJx4a65c_size_8abf5 wsJx4a65c_size_8abf5) := goodIn_app (goodIn_of _ (by decide +kernel)) ggX6_occupant_Jx4a65c_size_8abf5
set_option maxRecDepth 20000 in
theorem ggX6_occupant_X6_checkNumber : GoodIn wsX6_occupant wsX6_checkNumber := goodIn_ca (goodIn_r _ [13, 14, 15] (by decide +kernel) (by decide +kernel)) (goodIn_sub (fun _ h => List.mem_cons_of_mem _ (List.mem_append_left _ (List.mem_append_right _ h))) (by decide +kernel))
set_option maxRecDepth 20000 in
theorem gX6_occupant_X6_checkNumber : GoodIn wsX6_occupant (va_wsS RX6 93 yX6_checkNumber wsX6_checkNumber) := goodIn_app (goodIn_of _ (by decide +kernel)) ggX6_occupant_X6_checkNumber
set_option maxRecDepth 20000 in
theorem ggX6_occupant_X6_checkTime : GoodIn wsX6_occupant wsX6_checkTime := goodIn_ca (goodIn_r _ [18, 19, 20, 12, 21, 22, 23] (by decide +kernel) (by decide +kernel)) (goodIn_sub (fun _ h => List.mem_cons_of_mem _ (List.mem_append_right _ h)) (by decide +kernel))
set_option maxRecDepth 20000 in
theorem gX6_occupant_X6_checkTime : GoodIn wsX6_occupant (va_wsS RX6 42 yX6_checkTime wsX6_checkTime) := goodIn_app (goodIn_of _ (by decide +kernel)) ggX6_occupant_X6_checkTime
set_option maxRecDepth 20000 in
theorem ggX6_occupant_Jx4a65c_get_915e3 : GoodIn wsX6_occupant wsJx4a65c_get_915e3 := goodIn_r _ [27, 9, 28, 29, 30, 31, 32, 33, 34, 35, 36, 37, 38, 7, 39, 40, 74, 75, 76] (by decide +kernel) (by decide +kernel)
set_option maxRecDepth 20000 in
theorem gX6_occupant_Jx4a65c_get_915e3 : GoodIn wsX6_occupant (wsV RX6 96 RJx4a65c yJx4a65c_get_915e3 wsJx4a65c_get_915e3) := goodIn_app (goodIn_of _ (by decide +kernel)) ggX6_occupant_Jx4a65c_get_915e3
set_option maxRecDepth 20000 in
theorem ggX6_occupant_X1_holdsBerthAt : GoodIn wsX6_occupant wsX1_holdsBerthAt := goodIn_r _ [45, 46, 47, 56, 57, 58, 59, 60, 61, 62] (by decide +kernel) (by decide +kernel)
set_option maxRecDepth 20000 in
theorem gX6_occupant_X1_holdsBerthAt : GoodIn wsX6_occupant (wsV RX6 215 RX1 yX1_holdsBerthAt wsX1_holdsBerthAt) := goodIn_app (goodIn_of _ (by decide +kernel)) ggX6_occupant_X1_holdsBerthAt
theorem dX6_occupant_0 : decode cX6_occupant 0 = .ok (.iload_n 1, 1) := by decide +kernel
theorem dX6_occupant_1 : decode cX6_occupant 1 = .ok (.aload_n 0, 1) := by decide +kernel
theorem dX6_occupant_2 : decode cX6_occupant 2 = .ok (.getfield 19, 3) := by decide +kernel
theorem dX6_occupant_5 : decode cX6_occupant 5 = .ok (.invokevirtual 76, 3) := by decide +kernel
theorem dX6_occupant_8 : decode cX6_occupant 8 = .ok (.invokestatic 93, 3) := by decide +kernel
theorem dX6_occupant_11 : decode cX6_occupant 11 = .ok (.iload_n 2, 1) := by decide +kernel
theorem dX6_occupant_12 : decode cX6_occupant 12 = .ok (.invokestatic 42, 3) := by decide +kernel
theorem dX6_occupant_15 : decode cX6_occupant 15 = .ok (.iconst 0, 1) := by decide +kernel
theorem dX6_occupant_16 : decode cX6_occupant 16 = .ok (.istore_n 3, 1) := by decide +kernel
theorem dX6_occupant_17 : decode cX6_occupant 17 = .ok (.iload_n 3, 1) := by decide +kernel
theorem dX6_occupant_18 : decode cX6_occupant 18 = .ok (.aload_n 0, 1) := by decide +kernel
theorem dX6_occupant_19 : decode cX6_occupant 19 = .ok (.getfield 29, 3) := by decide +kernel
theorem dX6_occupant_22 : decode cX6_occupant 22 = .ok (.invokevirtual 76, 3) := by decide +kernel
theorem dX6_occupant_25 : decode cX6_occupant 25 = .ok (.if_icmp .ge 58, 3) := by decide +kernel
theorem dX6_occupant_28 : decode cX6_occupant 28 = .ok (.aload_n 0, 1) := by decide +kernel
theorem dX6_occupant_29 : decode cX6_occupant 29 = .ok (.getfield 29, 3) := by decide +kernel
theorem dX6_occupant_32 : decode cX6_occupant 32 = .ok (.iload_n 3, 1) := by decide +kernel
theorem dX6_occupant_33 : decode cX6_occupant 33 = .ok (.invokevirtual 96, 3) := by decide +kernel
theorem dX6_occupant_36 : decode cX6_occupant 36 = .ok (.checkcast 134, 3) := by decide +kernel
theorem dX6_occupant_39 : decode cX6_occupant 39 = .ok (.astore 4, 2) := by decide +kernel
theorem dX6_occupant_41 : decode cX6_occupant 41 = .ok (.aload 4, 2) := by decide +kernel
theorem dX6_occupant_43 : decode cX6_occupant 43 = .ok (.getfield 133, 3) := by decide +kernel
theorem dX6_occupant_46 : decode cX6_occupant 46 = .ok (.getfield 208, 3) := by decide +kernel
theorem dX6_occupant_49 : decode cX6_occupant 49 = .ok (.getfield 212, 3) := by decide +kernel
theorem dX6_occupant_52 : decode cX6_occupant 52 = .ok (.iload_n 1, 1) := by decide +kernel
theorem dX6_occupant_53 : decode cX6_occupant 53 = .ok (.if_icmp .ne 24, 3) := by decide +kernel
theorem dX6_occupant_56 : decode cX6_occupant 56 = .ok (.aload 4, 2) := by decide +kernel
theorem dX6_occupant_58 : decode cX6_occupant 58 = .ok (.iload_n 2, 1) := by decide +kernel
theorem dX6_occupant_59 : decode cX6_occupant 59 = .ok (.invokevirtual 215, 3) := by decide +kernel
theorem dX6_occupant_62 : decode cX6_occupant 62 = .ok (.ifCond .eq 15, 3) := by decide +kernel
theorem dX6_occupant_65 : decode cX6_occupant 65 = .ok (.aload 4, 2) := by decide +kernel
theorem dX6_occupant_67 : decode cX6_occupant 67 = .ok (.getfield 133, 3) := by decide +kernel
theorem dX6_occupant_70 : decode cX6_occupant 70 = .ok (.getfield 188, 3) := by decide +kernel
theorem dX6_occupant_73 : decode cX6_occupant 73 = .ok (.getfield 203, 3) := by decide +kernel
theorem dX6_occupant_76 : decode cX6_occupant 76 = .ok (.ireturn, 1) := by decide +kernel
theorem dX6_occupant_77 : decode cX6_occupant 77 = .ok (.iinc 3 1, 3) := by decide +kernel
theorem dX6_occupant_80 : decode cX6_occupant 80 = .ok (.goto (-63), 3) := by decide +kernel
theorem dX6_occupant_83 : decode cX6_occupant 83 = .ok (.iconst (-1), 1) := by decide +kernel
theorem dX6_occupant_84 : decode cX6_occupant 84 = .ok (.ireturn, 1) := by decide +kernel
theorem dX6_checkRange_0 : decode cX6_checkRange 0 = .ok (.iload_n 0, 1) := by decide +kernel
theorem dX6_checkRange_1 : decode cX6_checkRange 1 = .ok (.iload_n 1, 1) := by decide +kernel
theorem dX6_checkRange_2 : decode cX6_checkRange 2 = .ok (.if_icmp .lt 8, 3) := by decide +kernel
theorem dX6_checkRange_5 : decode cX6_checkRange 5 = .ok (.iload_n 0, 1) := by decide +kernel
theorem dX6_checkRange_6 : decode cX6_checkRange 6 = .ok (.iload_n 2, 1) := by decide +kernel
theorem dX6_checkRange_7 : decode cX6_checkRange 7 = .ok (.if_icmp .le 13, 3) := by decide +kernel
theorem dX6_checkRange_10 : decode cX6_checkRange 10 = .ok (.new 238, 3) := by decide +kernel
theorem dX6_checkRange_13 : decode cX6_checkRange 13 = .ok (.dup, 1) := by decide +kernel
theorem dX6_checkRange_14 : decode cX6_checkRange 14 = .ok (.ldc 240, 2) := by decide +kernel
theorem dX6_checkRange_16 : decode cX6_checkRange 16 = .ok (.invokespecial 242, 3) := by decide +kernel
theorem dX6_checkRange_19 : decode cX6_checkRange 19 = .ok (.athrow, 1) := by decide +kernel
theorem dX6_checkRange_20 : decode cX6_checkRange 20 = .ok (.return_, 1) := by decide +kernel
set_option maxRecDepth 20000 in
theorem ggX6_checkTime_X6_checkRange : GoodIn wsX6_checkTime wsX6_checkRange := goodIn_ca (goodIn_r _ [4, 5, 6] (by decide +kernel) (by decide +kernel)) (goodIn_sub (fun _ h => List.mem_cons_of_mem _ (List.mem_append_right _ h)) (by decide +kernel))
set_option maxRecDepth 20000 in
theorem gX6_checkTime_X6_checkRange : GoodIn wsX6_checkTime (va_wsS RX6 46 yX6_checkRange wsX6_checkRange) := goodIn_app (goodIn_of _ (by decide +kernel)) ggX6_checkTime_X6_checkRange
theorem dX6_checkTime_0 : decode cX6_checkTime 0 = .ok (.iload_n 0, 1) := by decide +kernel
theorem dX6_checkTime_1 : decode cX6_checkTime 1 = .ok (.iconst 0, 1) := by decide +kernel
theorem dX6_checkTime_2 : decode cX6_checkTime 2 = .ok (.sipush 2879, 3) := by decide +kernel
theorem dX6_checkTime_5 : decode cX6_checkTime 5 = .ok (.invokestatic 46, 3) := by decide +kernel
theorem dX6_checkTime_8 : decode cX6_checkTime 8 = .ok (.return_, 1) := by decide +kernel
theorem dX6_checkNumber_0 : decode cX6_checkNumber 0 = .ok (.iload_n 0, 1) := by decide +kernel
theorem dX6_checkNumber_1 : decode cX6_checkNumber 1 = .ok (.ifCond .lt 8, 3) := by decide +kernel
theorem dX6_checkNumber_4 : decode cX6_checkNumber 4 = .ok (.iload_n 0, 1) := by decide +kernel
theorem dX6_checkNumber_5 : decode cX6_checkNumber 5 = .ok (.iload_n 1, 1) := by decide +kernel
theorem dX6_checkNumber_6 : decode cX6_checkNumber 6 = .ok (.if_icmp .lt 13, 3) := by decide +kernel
theorem dX6_checkNumber_9 : decode cX6_checkNumber 9 = .ok (.new 110, 3) := by decide +kernel
theorem dX6_checkNumber_12 : decode cX6_checkNumber 12 = .ok (.dup, 1) := by decide +kernel
theorem dX6_checkNumber_13 : decode cX6_checkNumber 13 = .ok (.ldc 243, 2) := by decide +kernel
theorem dX6_checkNumber_15 : decode cX6_checkNumber 15 = .ok (.invokespecial 114, 3) := by decide +kernel
theorem dX6_checkNumber_18 : decode cX6_checkNumber 18 = .ok (.athrow, 1) := by decide +kernel
theorem dX6_checkNumber_19 : decode cX6_checkNumber 19 = .ok (.return_, 1) := by decide +kernel
theorem dX6_checkRoom_0 : decode cX6_checkRoom 0 = .ok (.iload_n 0, 1) := by decide +kernel
theorem dX6_checkRoom_1 : decode cX6_checkRoom 1 = .ok (.iload_n 1, 1) := by decide +kernel
theorem dX6_checkRoom_2 : decode cX6_checkRoom 2 = .ok (.if_icmp .lt 13, 3) := by decide +kernel
theorem dX6_checkRoom_5 : decode cX6_checkRoom 5 = .ok (.new 61, 3) := by decide +kernel
theorem dX6_checkRoom_8 : decode cX6_checkRoom 8 = .ok (.dup, 1) := by decide +kernel
theorem dX6_checkRoom_9 : decode cX6_checkRoom 9 = .ok (.ldc 245, 2) := by decide +kernel
theorem dX6_checkRoom_11 : decode cX6_checkRoom 11 = .ok (.invokespecial 65, 3) := by decide +kernel
theorem dX6_checkRoom_14 : decode cX6_checkRoom 14 = .ok (.athrow, 1) := by decide +kernel
theorem dX6_checkRoom_15 : decode cX6_checkRoom 15 = .ok (.return_, 1) := by decide +kernel
set_option maxRecDepth 20000 in
theorem ggX6_checkCall_Jx4a65c_size_8abf5 : GoodIn wsX6_checkCall wsJx4a65c_size_8abf5 := goodIn_r _ [7, 8, 31, 32, 33] (by decide +kernel) (by decide +kernel)
set_option maxRecDepth 20000 in
theorem gX6_checkCall_Jx4a65c_size_8abf5 : GoodIn wsX6_checkCall (wsV RX6 76 RJx4a65c yJx4a65c_size_8abf5 wsJx4a65c_size_8abf5) := goodIn_app (goodIn_of _ (by decide +kernel)) ggX6_checkCall_Jx4a65c_size_8abf5
set_option maxRecDepth 20000 in
theorem ggX6_checkCall_X6_checkNumber : GoodIn wsX6_checkCall wsX6_checkNumber := goodIn_ca (goodIn_r _ [12, 13, 14] (by decide +kernel) (by decide +kernel)) (goodIn_sub (fun _ h => List.mem_cons_of_mem _ (List.mem_append_left _ (List.mem_append_right _ h))) (by decide +kernel))
set_option maxRecDepth 20000 in
theorem gX6_checkCall_X6_checkNumber : GoodIn wsX6_checkCall (va_wsS RX6 93 yX6_checkNumber wsX6_checkNumber) := goodIn_app (goodIn_of _ (by decide +kernel)) ggX6_checkCall_X6_checkNumber
set_option maxRecDepth 20000 in
theorem ggX6_checkCall_X6_checkTime : GoodIn wsX6_checkCall wsX6_checkTime := goodIn_ca (goodIn_r _ [17, 18, 19, 11, 20, 21, 22] (by decide +kernel) (by decide +kernel)) (goodIn_sub (fun _ h => List.mem_cons_of_mem _ (List.mem_append_right _ h)) (by decide +kernel))
set_option maxRecDepth 20000 in
theorem gX6_checkCall_X6_checkTime : GoodIn wsX6_checkCall (va_wsS RX6 42 yX6_checkTime wsX6_checkTime) := goodIn_app (goodIn_of _ (by decide +kernel)) ggX6_checkCall_X6_checkTime
theorem dX6_checkCall_0 : decode cX6_checkCall 0 = .ok (.iload_n 1, 1) := by decide +kernel
theorem dX6_checkCall_1 : decode cX6_checkCall 1 = .ok (.aload_n 0, 1) := by decide +kernel
theorem dX6_checkCall_2 : decode cX6_checkCall 2 = .ok (.getfield 23, 3) := by decide +kernel
theorem dX6_checkCall_5 : decode cX6_checkCall 5 = .ok (.invokevirtual 76, 3) := by decide +kernel
theorem dX6_checkCall_8 : decode cX6_checkCall 8 = .ok (.invokestatic 93, 3) := by decide +kernel
theorem dX6_checkCall_11 : decode cX6_checkCall 11 = .ok (.iload_n 2, 1) := by decide +kernel
theorem dX6_checkCall_12 : decode cX6_checkCall 12 = .ok (.iconst (-1), 1) := by decide +kernel
theorem dX6_checkCall_13 : decode cX6_checkCall 13 = .ok (.if_icmp .eq 14, 3) := by decide +kernel
theorem dX6_checkCall_16 : decode cX6_checkCall 16 = .ok (.iload_n 2, 1) := by decide +kernel
theorem dX6_checkCall_17 : decode cX6_checkCall 17 = .ok (.aload_n 0, 1) := by decide +kernel
theorem dX6_checkCall_18 : decode cX6_checkCall 18 = .ok (.getfield 19, 3) := by decide +kernel
theorem dX6_checkCall_21 : decode cX6_checkCall 21 = .ok (.invokevirtual 76, 3) := by decide +kernel
theorem dX6_checkCall_24 : decode cX6_checkCall 24 = .ok (.invokestatic 93, 3) := by decide +kernel
theorem dX6_checkCall_27 : decode cX6_checkCall 27 = .ok (.iload_n 3, 1) := by decide +kernel
theorem dX6_checkCall_28 : decode cX6_checkCall 28 = .ok (.invokestatic 42, 3) := by decide +kernel
theorem dX6_checkCall_31 : decode cX6_checkCall 31 = .ok (.return_, 1) := by decide +kernel
theorem dX6_waterNeed_0 : decode cX6_waterNeed 0 = .ok (.aload_n 1, 1) := by decide +kernel
theorem dX6_waterNeed_1 : decode cX6_waterNeed 1 = .ok (.getfield 100, 3) := by decide +kernel
theorem dX6_waterNeed_4 : decode cX6_waterNeed 4 = .ok (.aload_n 1, 1) := by decide +kernel
theorem dX6_waterNeed_5 : decode cX6_waterNeed 5 = .ok (.getfield 100, 3) := by decide +kernel
theorem dX6_waterNeed_8 : decode cX6_waterNeed 8 = .ok (.bipush 10, 2) := by decide +kernel
theorem dX6_waterNeed_10 : decode cX6_waterNeed 10 = .ok (.idiv, 1) := by decide +kernel
theorem dX6_waterNeed_11 : decode cX6_waterNeed 11 = .ok (.iadd, 1) := by decide +kernel
theorem dX6_waterNeed_12 : decode cX6_waterNeed 12 = .ok (.aload_n 0, 1) := by decide +kernel
theorem dX6_waterNeed_13 : decode cX6_waterNeed 13 = .ok (.getfield 36, 3) := by decide +kernel
theorem dX6_waterNeed_16 : decode cX6_waterNeed 16 = .ok (.iadd, 1) := by decide +kernel
theorem dX6_waterNeed_17 : decode cX6_waterNeed 17 = .ok (.ireturn, 1) := by decide +kernel
set_option maxRecDepth 20000 in
theorem ggX6_hasWater_X5_heightAt : GoodIn wsX6_hasWater wsX5_heightAt := goodIn_r _ [6, 7, 8, 9, 10, 11, 12, 5, 13, 28, 29, 30] (by decide +kernel) (by decide +kernel)
set_option maxRecDepth 20000 in
theorem gX6_hasWater_X5_heightAt : GoodIn wsX6_hasWater (wsV RX6 72 RX5 yX5_heightAt wsX5_heightAt) := goodIn_app (goodIn_of _ (by decide +kernel)) ggX6_hasWater_X5_heightAt
set_option maxRecDepth 20000 in
theorem ggX6_hasWater_X6_waterNeed : GoodIn wsX6_hasWater wsX6_waterNeed := goodIn_r _ [18, 19, 31, 32, 33, 34, 20, 21, 22, 23, 24, 25, 26, 27] (by decide +kernel) (by decide +kernel)
set_option maxRecDepth 20000 in
theorem gX6_hasWater_X6_waterNeed : GoodIn wsX6_hasWater (wsV RX6 115 RX6 yX6_waterNeed wsX6_waterNeed) := goodIn_app (goodIn_of _ (by decide +kernel)) ggX6_hasWater_X6_waterNeed
theorem dX6_hasWater_0 : decode cX6_hasWater 0 = .ok (.iload_n 2, 1) := by decide +kernel
theorem dX6_hasWater_1 : decode cX6_hasWater 1 = .ok (.aload_n 0, 1) := by decide +kernel
theorem dX6_hasWater_2 : decode cX6_hasWater 2 = .ok (.getfield 12, 3) := by decide +kernel
theorem dX6_hasWater_5 : decode cX6_hasWater 5 = .ok (.iload_n 3, 1) := by decide +kernel
theorem dX6_hasWater_6 : decode cX6_hasWater 6 = .ok (.invokevirtual 72, 3) := by decide +kernel
theorem dX6_hasWater_9 : decode cX6_hasWater 9 = .ok (.iadd, 1) := by decide +kernel
theorem dX6_hasWater_10 : decode cX6_hasWater 10 = .ok (.aload_n 0, 1) := by decide +kernel
theorem dX6_hasWater_11 : decode cX6_hasWater 11 = .ok (.aload_n 1, 1) := by decide +kernel
theorem dX6_hasWater_12 : decode cX6_hasWater 12 = .ok (.invokevirtual 115, 3) := by decide +kernel
theorem dX6_hasWater_15 : decode cX6_hasWater 15 = .ok (.if_icmp .lt 7, 3) := by decide +kernel
theorem dX6_hasWater_18 : decode cX6_hasWater 18 = .ok (.iconst 1, 1) := by decide +kernel
theorem dX6_hasWater_19 : decode cX6_hasWater 19 = .ok (.goto 4, 3) := by decide +kernel
theorem dX6_hasWater_22 : decode cX6_hasWater 22 = .ok (.iconst 0, 1) := by decide +kernel
theorem dX6_hasWater_23 : decode cX6_hasWater 23 = .ok (.ireturn, 1) := by decide +kernel
set_option maxRecDepth 20000 in
theorem ggX6_routeOf_Jx4a65c_get_915e3 : GoodIn wsX6_routeOf wsJx4a65c_get_915e3 := goodIn_r _ [12, 13, 14, 15, 16, 17, 18, 19, 20, 21, 22, 23, 24, 11, 25, 26, 63, 64, 65] (by decide +kernel) (by decide +kernel)
set_option maxRecDepth 20000 in
theorem gX6_routeOf_Jx4a65c_get_915e3 : GoodIn wsX6_routeOf (wsV RX6 96 RJx4a65c yJx4a65c_get_915e3 wsJx4a65c_get_915e3) := goodIn_app (goodIn_of _ (by decide +kernel)) ggX6_routeOf_Jx4a65c_get_915e3
set_option maxRecDepth 20000 in
theorem ggX6_routeOf_X3_init : GoodIn wsX6_routeOf wsX3_init := goodIn_r _ [29, 30, 31, 32, 33, 34, 35, 36, 37, 38, 5, 39, 59, 60, 61, 62, 48, 49, 50, 51] (by decide +kernel) (by decide +kernel)
set_option maxRecDepth 20000 in
theorem gX6_routeOf_X3_init : GoodIn wsX6_routeOf (wsX3_init) := ggX6_routeOf_X3_init
theorem dX6_routeOf_0 : decode cX6_routeOf 0 = .ok (.aload_n 0, 1) := by decide +kernel
theorem dX6_routeOf_1 : decode cX6_routeOf 1 = .ok (.getfield 23, 3) := by decide +kernel
end
section
theorem dX6_routeOf_4 : decode cX6_routeOf 4 = .ok (.iload_n 1, 1) := by decide +kernel
theorem dX6_routeOf_5 : decode cX6_routeOf 5 = .ok (.invokevirtual 96, 3) := by decide +kernel
theorem dX6_routeOf_8 : decode cX6_routeOf 8 = .ok (.checkcast 90, 3) := by decide +kernel
theorem dX6_routeOf_11 : decode cX6_routeOf 11 = .ok (.astore_n 3, 1) := by decide +kernel
theorem dX6_routeOf_12 : decode cX6_routeOf 12 = .ok (.aload_n 3, 1) := by decide +kernel
theorem dX6_routeOf_13 : decode cX6_routeOf 13 = .ok (.getfield 129, 3) := by decide +kernel
theorem dX6_routeOf_16 : decode cX6_routeOf 16 = .ok (.astore 4, 2) := by decide +kernel
theorem dX6_routeOf_18 : decode cX6_routeOf 18 = .ok (.aload 4, 2) := by decide +kernel
theorem dX6_routeOf_20 : decode cX6_routeOf 20 = .ok (.ifnull 14, 3) := by decide +kernel
theorem dX6_routeOf_23 : decode cX6_routeOf 23 = .ok (.aload 4, 2) := by decide +kernel
theorem dX6_routeOf_25 : decode cX6_routeOf 25 = .ok (.getfield 133, 3) := by decide +kernel
theorem dX6_routeOf_28 : decode cX6_routeOf 28 = .ok (.getfield 139, 3) := by decide +kernel
theorem dX6_routeOf_31 : decode cX6_routeOf 31 = .ok (.ifCond .eq 7, 3) := by decide +kernel
theorem dX6_routeOf_34 : decode cX6_routeOf 34 = .ok (.iconst 1, 1) := by decide +kernel
theorem dX6_routeOf_35 : decode cX6_routeOf 35 = .ok (.goto 4, 3) := by decide +kernel
theorem dX6_routeOf_38 : decode cX6_routeOf 38 = .ok (.iconst 0, 1) := by decide +kernel
theorem dX6_routeOf_39 : decode cX6_routeOf 39 = .ok (.istore 5, 2) := by decide +kernel
theorem dX6_routeOf_41 : decode cX6_routeOf 41 = .ok (.iload_n 2, 1) := by decide +kernel
theorem dX6_routeOf_42 : decode cX6_routeOf 42 = .ok (.iconst (-1), 1) := by decide +kernel
theorem dX6_routeOf_43 : decode cX6_routeOf 43 = .ok (.if_icmp .eq 33, 3) := by decide +kernel
theorem dX6_routeOf_46 : decode cX6_routeOf 46 = .ok (.iload 5, 2) := by decide +kernel
theorem dX6_routeOf_48 : decode cX6_routeOf 48 = .ok (.ifCond .eq 26, 3) := by decide +kernel
theorem dX6_routeOf_51 : decode cX6_routeOf 51 = .ok (.new 140, 3) := by decide +kernel
theorem dX6_routeOf_54 : decode cX6_routeOf 54 = .ok (.dup, 1) := by decide +kernel
theorem dX6_routeOf_55 : decode cX6_routeOf 55 = .ok (.aload_n 3, 1) := by decide +kernel
theorem dX6_routeOf_56 : decode cX6_routeOf 56 = .ok (.aload_n 0, 1) := by decide +kernel
theorem dX6_routeOf_57 : decode cX6_routeOf 57 = .ok (.getfield 19, 3) := by decide +kernel
theorem dX6_routeOf_60 : decode cX6_routeOf 60 = .ok (.iload_n 2, 1) := by decide +kernel
theorem dX6_routeOf_61 : decode cX6_routeOf 61 = .ok (.invokevirtual 96, 3) := by decide +kernel
theorem dX6_routeOf_64 : decode cX6_routeOf 64 = .ok (.checkcast 82, 3) := by decide +kernel
theorem dX6_routeOf_67 : decode cX6_routeOf 67 = .ok (.iconst 0, 1) := by decide +kernel
theorem dX6_routeOf_68 : decode cX6_routeOf 68 = .ok (.invokespecial 252, 3) := by decide +kernel
theorem dX6_routeOf_71 : decode cX6_routeOf 71 = .ok (.goto 4, 3) := by decide +kernel
theorem dX6_routeOf_74 : decode cX6_routeOf 74 = .ok (.aconst_null, 1) := by decide +kernel
theorem dX6_routeOf_75 : decode cX6_routeOf 75 = .ok (.areturn, 1) := by decide +kernel
theorem dX6_routeOf_76 : decode cX6_routeOf 76 = .ok (.iload 5, 2) := by decide +kernel
theorem dX6_routeOf_78 : decode cX6_routeOf 78 = .ok (.ifCond .eq 7, 3) := by decide +kernel
theorem dX6_routeOf_81 : decode cX6_routeOf 81 = .ok (.aconst_null, 1) := by decide +kernel
theorem dX6_routeOf_82 : decode cX6_routeOf 82 = .ok (.goto 20, 3) := by decide +kernel
theorem dX6_routeOf_85 : decode cX6_routeOf 85 = .ok (.new 140, 3) := by decide +kernel
theorem dX6_routeOf_88 : decode cX6_routeOf 88 = .ok (.dup, 1) := by decide +kernel
theorem dX6_routeOf_89 : decode cX6_routeOf 89 = .ok (.aload_n 3, 1) := by decide +kernel
theorem dX6_routeOf_90 : decode cX6_routeOf 90 = .ok (.aload 4, 2) := by decide +kernel
theorem dX6_routeOf_92 : decode cX6_routeOf 92 = .ok (.getfield 133, 3) := by decide +kernel
theorem dX6_routeOf_95 : decode cX6_routeOf 95 = .ok (.getfield 208, 3) := by decide +kernel
theorem dX6_routeOf_98 : decode cX6_routeOf 98 = .ok (.iconst 1, 1) := by decide +kernel
theorem dX6_routeOf_99 : decode cX6_routeOf 99 = .ok (.invokespecial 252, 3) := by decide +kernel
theorem dX6_routeOf_102 : decode cX6_routeOf 102 = .ok (.areturn, 1) := by decide +kernel
set_option maxRecDepth 20000 in
theorem ggX6_firstBegin_X6_freeFrom : GoodIn wsX6_firstBegin wsX6_freeFrom := goodIn_r _ [9, 10, 11, 1, 2, 3, 4, 12, 13, 14, 15, 16, 17, 18, 19, 20, 21, 22, 23, 24, 25, 26, 27, 28, 29, 30, 31, 32, 33, 34, 35, 36, 37, 38, 39, 40, 127, 128, 129, 130, 131, 132, 133, 134, 138, 139, 140, 141, 142, 143, 144, 145, 146, 147, 148, 149, 150, 151, 152, 135, 136, 137, 153, 154, 155] (by decide +kernel) (by decide +kernel)
set_option maxRecDepth 20000 in
theorem gX6_firstBegin_X6_freeFrom : GoodIn wsX6_firstBegin (wsV RX6 259 RX6 yX6_freeFrom wsX6_freeFrom) := goodIn_app (goodIn_of _ (by decide +kernel)) ggX6_firstBegin_X6_freeFrom
set_option maxRecDepth 20000 in
theorem ggX6_firstBegin_X6_canBegin : GoodIn wsX6_firstBegin wsX6_canBegin := goodIn_r _ [44, 45, 46, 47, 48, 8, 49, 10, 11, 50, 51, 3, 52, 18, 19, 20, 21, 22, 23, 24, 25, 26, 27, 28, 29, 30, 31, 32, 33, 34, 35, 36, 37, 38, 39, 40, 53, 54, 55, 56, 57, 58, 59, 60, 61, 62, 63, 64, 65, 66, 67, 68, 69, 70, 71, 72, 73, 74, 75, 76, 77, 78, 79, 80, 81, 82, 83, 84, 85, 86, 87, 88, 89, 90, 91, 92, 93, 94, 95, 96, 97, 98, 99, 100, 15, 101, 102, 17, 103, 104, 105, 106, 107, 108, 109, 110, 111, 112, 113, 114, 115, 116, 117, 118, 119, 120, 121, 122, 13, 14, 16, 123, 124, 125, 126, 127, 128, 129, 130, 138, 139, 140, 141, 142, 143, 144, 145, 135, 136, 137, 146, 147, 148, 149, 150, 151, 152, 153, 154, 155, 156, 157, 158, 131, 132, 133, 134, 159, 160, 161, 162] (by decide +kernel) (by decide +kernel)
set_option maxRecDepth 20000 in
theorem gX6_firstBegin_X6_canBegin : GoodIn wsX6_firstBegin (wsV RX6 266 RX6 yX6_canBegin wsX6_canBegin) := goodIn_app (goodIn_of _ (by decide +kernel)) ggX6_firstBegin_X6_canBegin
theorem dX6_firstBegin_0 : decode cX6_firstBegin 0 = .ok (.aload_n 1, 1) := by decide +kernel
theorem dX6_firstBegin_1 : decode cX6_firstBegin 1 = .ok (.getfield 188, 3) := by decide +kernel
theorem dX6_firstBegin_4 : decode cX6_firstBegin 4 = .ok (.getfield 255, 3) := by decide +kernel
theorem dX6_firstBegin_7 : decode cX6_firstBegin 7 = .ok (.aload_n 1, 1) := by decide +kernel
theorem dX6_firstBegin_8 : decode cX6_firstBegin 8 = .ok (.getfield 208, 3) := by decide +kernel
theorem dX6_firstBegin_11 : decode cX6_firstBegin 11 = .ok (.getfield 258, 3) := by decide +kernel
theorem dX6_firstBegin_14 : decode cX6_firstBegin 14 = .ok (.if_icmp .le 5, 3) := by decide +kernel
theorem dX6_firstBegin_17 : decode cX6_firstBegin 17 = .ok (.iconst (-1), 1) := by decide +kernel
theorem dX6_firstBegin_18 : decode cX6_firstBegin 18 = .ok (.ireturn, 1) := by decide +kernel
theorem dX6_firstBegin_19 : decode cX6_firstBegin 19 = .ok (.iload_n 2, 1) := by decide +kernel
theorem dX6_firstBegin_20 : decode cX6_firstBegin 20 = .ok (.aload_n 0, 1) := by decide +kernel
theorem dX6_firstBegin_21 : decode cX6_firstBegin 21 = .ok (.aload_n 1, 1) := by decide +kernel
theorem dX6_firstBegin_22 : decode cX6_firstBegin 22 = .ok (.invokevirtual 259, 3) := by decide +kernel
theorem dX6_firstBegin_25 : decode cX6_firstBegin 25 = .ok (.invokestatic 263, 3) := by decide +kernel
theorem dX6_firstBegin_28 : decode cX6_firstBegin 28 = .ok (.istore_n 3, 1) := by decide +kernel
theorem dX6_firstBegin_29 : decode cX6_firstBegin 29 = .ok (.iload_n 3, 1) := by decide +kernel
theorem dX6_firstBegin_30 : decode cX6_firstBegin 30 = .ok (.istore 4, 2) := by decide +kernel
theorem dX6_firstBegin_32 : decode cX6_firstBegin 32 = .ok (.iload 4, 2) := by decide +kernel
theorem dX6_firstBegin_34 : decode cX6_firstBegin 34 = .ok (.bipush 60, 2) := by decide +kernel
theorem dX6_firstBegin_36 : decode cX6_firstBegin 36 = .ok (.iadd, 1) := by decide +kernel
theorem dX6_firstBegin_37 : decode cX6_firstBegin 37 = .ok (.sipush 2879, 3) := by decide +kernel
theorem dX6_firstBegin_40 : decode cX6_firstBegin 40 = .ok (.if_icmp .gt 22, 3) := by decide +kernel
theorem dX6_firstBegin_43 : decode cX6_firstBegin 43 = .ok (.aload_n 0, 1) := by decide +kernel
theorem dX6_firstBegin_44 : decode cX6_firstBegin 44 = .ok (.aload_n 1, 1) := by decide +kernel
theorem dX6_firstBegin_45 : decode cX6_firstBegin 45 = .ok (.iload 4, 2) := by decide +kernel
theorem dX6_firstBegin_47 : decode cX6_firstBegin 47 = .ok (.invokevirtual 266, 3) := by decide +kernel
theorem dX6_firstBegin_50 : decode cX6_firstBegin 50 = .ok (.ifCond .eq 6, 3) := by decide +kernel
theorem dX6_firstBegin_53 : decode cX6_firstBegin 53 = .ok (.iload 4, 2) := by decide +kernel
theorem dX6_firstBegin_55 : decode cX6_firstBegin 55 = .ok (.ireturn, 1) := by decide +kernel
theorem dX6_firstBegin_56 : decode cX6_firstBegin 56 = .ok (.iinc 4 1, 3) := by decide +kernel
theorem dX6_firstBegin_59 : decode cX6_firstBegin 59 = .ok (.goto (-27), 3) := by decide +kernel
theorem dX6_firstBegin_62 : decode cX6_firstBegin 62 = .ok (.iconst (-1), 1) := by decide +kernel
theorem dX6_firstBegin_63 : decode cX6_firstBegin 63 = .ok (.ireturn, 1) := by decide +kernel
set_option maxRecDepth 20000 in
theorem ggX6_freeFrom_X1_end : GoodIn wsX6_freeFrom wsX1_end := goodIn_r _ [11, 12, 52, 53, 54, 55, 56, 57, 58] (by decide +kernel) (by decide +kernel)
set_option maxRecDepth 20000 in
theorem gX6_freeFrom_X1_end : GoodIn wsX6_freeFrom (wsV RX6 150 RX1 yX1_end wsX1_end) := goodIn_app (goodIn_of _ (by decide +kernel)) ggX6_freeFrom_X1_end
set_option maxRecDepth 20000 in
theorem ggX6_freeFrom_Jx4a65c_size_8abf5 : GoodIn wsX6_freeFrom wsJx4a65c_size_8abf5 := goodIn_r _ [17, 18, 62, 63, 64] (by decide +kernel) (by decide +kernel)
set_option maxRecDepth 20000 in
theorem gX6_freeFrom_Jx4a65c_size_8abf5 : GoodIn wsX6_freeFrom (wsV RX6 76 RJx4a65c yJx4a65c_size_8abf5 wsJx4a65c_size_8abf5) := goodIn_app (goodIn_of _ (by decide +kernel)) ggX6_freeFrom_Jx4a65c_size_8abf5
set_option maxRecDepth 20000 in
theorem ggX6_freeFrom_Jx4a65c_get_915e3 : GoodIn wsX6_freeFrom wsJx4a65c_get_915e3 := goodIn_r _ [22, 18, 23, 24, 25, 26, 27, 28, 29, 30, 31, 32, 33, 16, 34, 35, 62, 63, 64] (by decide +kernel) (by decide +kernel)
set_option maxRecDepth 20000 in
theorem gX6_freeFrom_Jx4a65c_get_915e3 : GoodIn wsX6_freeFrom (wsV RX6 96 RJx4a65c yJx4a65c_get_915e3 wsJx4a65c_get_915e3) := goodIn_app (goodIn_of _ (by decide +kernel)) ggX6_freeFrom_Jx4a65c_get_915e3
theorem dX6_freeFrom_0 : decode cX6_freeFrom 0 = .ok (.aload_n 1, 1) := by decide +kernel
theorem dX6_freeFrom_1 : decode cX6_freeFrom 1 = .ok (.getfield 188, 3) := by decide +kernel
theorem dX6_freeFrom_4 : decode cX6_freeFrom 4 = .ok (.getfield 129, 3) := by decide +kernel
theorem dX6_freeFrom_7 : decode cX6_freeFrom 7 = .ok (.astore_n 2, 1) := by decide +kernel
theorem dX6_freeFrom_8 : decode cX6_freeFrom 8 = .ok (.aload_n 2, 1) := by decide +kernel
theorem dX6_freeFrom_9 : decode cX6_freeFrom 9 = .ok (.ifnonnull 7, 3) := by decide +kernel
theorem dX6_freeFrom_12 : decode cX6_freeFrom 12 = .ok (.iconst 0, 1) := by decide +kernel
theorem dX6_freeFrom_13 : decode cX6_freeFrom 13 = .ok (.goto 7, 3) := by decide +kernel
theorem dX6_freeFrom_16 : decode cX6_freeFrom 16 = .ok (.aload_n 2, 1) := by decide +kernel
theorem dX6_freeFrom_17 : decode cX6_freeFrom 17 = .ok (.invokevirtual 150, 3) := by decide +kernel
theorem dX6_freeFrom_20 : decode cX6_freeFrom 20 = .ok (.istore_n 3, 1) := by decide +kernel
theorem dX6_freeFrom_21 : decode cX6_freeFrom 21 = .ok (.aload_n 1, 1) := by decide +kernel
theorem dX6_freeFrom_22 : decode cX6_freeFrom 22 = .ok (.getfield 139, 3) := by decide +kernel
theorem dX6_freeFrom_25 : decode cX6_freeFrom 25 = .ok (.ifCond .eq 5, 3) := by decide +kernel
theorem dX6_freeFrom_28 : decode cX6_freeFrom 28 = .ok (.iload_n 3, 1) := by decide +kernel
theorem dX6_freeFrom_29 : decode cX6_freeFrom 29 = .ok (.ireturn, 1) := by decide +kernel
theorem dX6_freeFrom_30 : decode cX6_freeFrom 30 = .ok (.iconst 0, 1) := by decide +kernel
theorem dX6_freeFrom_31 : decode cX6_freeFrom 31 = .ok (.istore 4, 2) := by decide +kernel
theorem dX6_freeFrom_33 : decode cX6_freeFrom 33 = .ok (.iload 4, 2) := by decide +kernel
theorem dX6_freeFrom_35 : decode cX6_freeFrom 35 = .ok (.aload_n 0, 1) := by decide +kernel
theorem dX6_freeFrom_36 : decode cX6_freeFrom 36 = .ok (.getfield 29, 3) := by decide +kernel
theorem dX6_freeFrom_39 : decode cX6_freeFrom 39 = .ok (.invokevirtual 76, 3) := by decide +kernel
theorem dX6_freeFrom_42 : decode cX6_freeFrom 42 = .ok (.if_icmp .ge 54, 3) := by decide +kernel
theorem dX6_freeFrom_45 : decode cX6_freeFrom 45 = .ok (.aload_n 0, 1) := by decide +kernel
theorem dX6_freeFrom_46 : decode cX6_freeFrom 46 = .ok (.getfield 29, 3) := by decide +kernel
theorem dX6_freeFrom_49 : decode cX6_freeFrom 49 = .ok (.iload 4, 2) := by decide +kernel
theorem dX6_freeFrom_51 : decode cX6_freeFrom 51 = .ok (.invokevirtual 96, 3) := by decide +kernel
theorem dX6_freeFrom_54 : decode cX6_freeFrom 54 = .ok (.checkcast 134, 3) := by decide +kernel
theorem dX6_freeFrom_57 : decode cX6_freeFrom 57 = .ok (.astore 5, 2) := by decide +kernel
theorem dX6_freeFrom_59 : decode cX6_freeFrom 59 = .ok (.aload 5, 2) := by decide +kernel
theorem dX6_freeFrom_61 : decode cX6_freeFrom 61 = .ok (.getfield 133, 3) := by decide +kernel
theorem dX6_freeFrom_64 : decode cX6_freeFrom 64 = .ok (.getfield 208, 3) := by decide +kernel
theorem dX6_freeFrom_67 : decode cX6_freeFrom 67 = .ok (.getfield 212, 3) := by decide +kernel
theorem dX6_freeFrom_70 : decode cX6_freeFrom 70 = .ok (.aload_n 1, 1) := by decide +kernel
theorem dX6_freeFrom_71 : decode cX6_freeFrom 71 = .ok (.getfield 208, 3) := by decide +kernel
theorem dX6_freeFrom_74 : decode cX6_freeFrom 74 = .ok (.getfield 212, 3) := by decide +kernel
theorem dX6_freeFrom_77 : decode cX6_freeFrom 77 = .ok (.if_icmp .ne 13, 3) := by decide +kernel
theorem dX6_freeFrom_80 : decode cX6_freeFrom 80 = .ok (.iload_n 3, 1) := by decide +kernel
theorem dX6_freeFrom_81 : decode cX6_freeFrom 81 = .ok (.aload 5, 2) := by decide +kernel
theorem dX6_freeFrom_83 : decode cX6_freeFrom 83 = .ok (.getfield 200, 3) := by decide +kernel
theorem dX6_freeFrom_86 : decode cX6_freeFrom 86 = .ok (.invokestatic 263, 3) := by decide +kernel
theorem dX6_freeFrom_89 : decode cX6_freeFrom 89 = .ok (.istore_n 3, 1) := by decide +kernel
theorem dX6_freeFrom_90 : decode cX6_freeFrom 90 = .ok (.iinc 4 1, 3) := by decide +kernel
theorem dX6_freeFrom_93 : decode cX6_freeFrom 93 = .ok (.goto (-60), 3) := by decide +kernel
theorem dX6_freeFrom_96 : decode cX6_freeFrom 96 = .ok (.iload_n 3, 1) := by decide +kernel
theorem dX6_freeFrom_97 : decode cX6_freeFrom 97 = .ok (.ireturn, 1) := by decide +kernel
set_option maxRecDepth 20000 in
theorem ggX6_canBegin_X6_hasClearWay : GoodIn wsX6_canBegin wsX6_hasClearWay := goodIn_r _ [6, 7, 8, 9, 10, 11, 12, 13, 14, 15, 16, 17, 18, 19, 20, 21, 22, 23, 24, 25, 26, 27, 28, 29, 30, 31, 32, 33, 34, 35, 119, 120, 121, 122, 123, 124, 125, 126, 130, 131, 132, 133, 134, 135, 136, 115, 116, 117, 118, 137, 138, 139] (by decide +kernel) (by decide +kernel)
set_option maxRecDepth 20000 in
theorem gX6_canBegin_X6_hasClearWay : GoodIn wsX6_canBegin (wsV RX6 270 RX6 yX6_hasClearWay wsX6_hasClearWay) := goodIn_app (goodIn_of _ (by decide +kernel)) ggX6_canBegin_X6_hasClearWay
set_option maxRecDepth 20000 in
theorem ggX6_canBegin_X3_barMinute : GoodIn wsX6_canBegin wsX3_barMinute := goodIn_r _ [40, 41, 115, 116, 117, 118] (by decide +kernel) (by decide +kernel)
set_option maxRecDepth 20000 in
theorem gX6_canBegin_X3_barMinute : GoodIn wsX6_canBegin (wsV RX6 273 RX3 yX3_barMinute wsX3_barMinute) := goodIn_app (goodIn_of _ (by decide +kernel)) ggX6_canBegin_X3_barMinute
set_option maxRecDepth 20000 in
theorem ggX6_canBegin_X6_hasWater : GoodIn wsX6_canBegin wsX6_hasWater := goodIn_r _ [45, 46, 47, 48, 49, 50, 51, 52, 53, 54, 55, 56, 57, 58, 59, 60, 61, 5, 62, 63, 119, 120, 121, 122, 123, 124, 125, 126, 140, 141, 142, 143, 144, 145, 146] (by decide +kernel) (by decide +kernel)
set_option maxRecDepth 20000 in
theorem gX6_canBegin_X6_hasWater : GoodIn wsX6_canBegin (wsV RX6 125 RX6 yX6_hasWater wsX6_hasWater) := goodIn_app (goodIn_of _ (by decide +kernel)) ggX6_canBegin_X6_hasWater
set_option maxRecDepth 20000 in
theorem ggX6_canBegin_X3_berthMinute : GoodIn wsX6_canBegin wsX3_berthMinute := goodIn_r _ [67, 41, 115, 116, 117, 118] (by decide +kernel) (by decide +kernel)
set_option maxRecDepth 20000 in
theorem gX6_canBegin_X3_berthMinute : GoodIn wsX6_canBegin (wsV RX6 276 RX3 yX3_berthMinute wsX3_berthMinute) := goodIn_app (goodIn_of _ (by decide +kernel)) ggX6_canBegin_X3_berthMinute
set_option maxRecDepth 20000 in
theorem ggX6_canBegin_X6_hasTugs : GoodIn wsX6_canBegin wsX6_hasTugs := goodIn_r _ [71, 72, 7, 8, 73, 74, 75, 39, 76, 41, 77, 78, 79, 5, 80, 13, 14, 15, 16, 17, 18, 19, 20, 21, 22, 23, 24, 25, 26, 27, 28, 29, 30, 31, 32, 33, 34, 35, 81, 82, 83, 84, 85, 86, 87, 88, 119, 120, 121, 122, 123, 124, 125, 126, 115, 116, 117, 118, 130, 131, 132, 133, 134, 135, 136, 137, 138, 139] (by decide +kernel) (by decide +kernel)
set_option maxRecDepth 20000 in
theorem gX6_canBegin_X6_hasTugs : GoodIn wsX6_canBegin (wsV RX6 279 RX6 yX6_hasTugs wsX6_hasTugs) := goodIn_app (goodIn_of _ (by decide +kernel)) ggX6_canBegin_X6_hasTugs
set_option maxRecDepth 20000 in
theorem ggX6_canBegin_X6_pilotFor : GoodIn wsX6_canBegin wsX6_pilotFor := goodIn_r _ [92, 93, 94, 13, 14, 15, 16, 17, 18, 19, 20, 21, 22, 23, 24, 25, 26, 27, 28, 29, 30, 31, 32, 33, 34, 35, 95, 96, 97, 98, 99, 100, 101, 102, 103, 104, 105, 106, 107, 108, 109, 84, 110, 87, 111, 112, 113, 114, 119, 120, 121, 122, 123, 124, 125, 126, 137, 138, 139, 147, 148, 149, 150, 115, 116, 117, 118, 143, 144, 145, 146, 130, 131, 132, 133, 134, 135, 136] (by decide +kernel) (by decide +kernel)
set_option maxRecDepth 20000 in
theorem gX6_canBegin_X6_pilotFor : GoodIn wsX6_canBegin (wsV RX6 170 RX6 yX6_pilotFor wsX6_pilotFor) := goodIn_app (goodIn_of _ (by decide +kernel)) ggX6_canBegin_X6_pilotFor
theorem dX6_canBegin_0 : decode cX6_canBegin 0 = .ok (.aload_n 0, 1) := by decide +kernel
theorem dX6_canBegin_1 : decode cX6_canBegin 1 = .ok (.aload_n 1, 1) := by decide +kernel
theorem dX6_canBegin_2 : decode cX6_canBegin 2 = .ok (.iload_n 2, 1) := by decide +kernel
theorem dX6_canBegin_3 : decode cX6_canBegin 3 = .ok (.invokevirtual 270, 3) := by decide +kernel
theorem dX6_canBegin_6 : decode cX6_canBegin 6 = .ok (.ifCond .eq 68, 3) := by decide +kernel
theorem dX6_canBegin_9 : decode cX6_canBegin 9 = .ok (.aload_n 0, 1) := by decide +kernel
theorem dX6_canBegin_10 : decode cX6_canBegin 10 = .ok (.aload_n 1, 1) := by decide +kernel
theorem dX6_canBegin_11 : decode cX6_canBegin 11 = .ok (.getfield 188, 3) := by decide +kernel
theorem dX6_canBegin_14 : decode cX6_canBegin 14 = .ok (.aload_n 0, 1) := by decide +kernel
theorem dX6_canBegin_15 : decode cX6_canBegin 15 = .ok (.getfield 32, 3) := by decide +kernel
theorem dX6_canBegin_18 : decode cX6_canBegin 18 = .ok (.aload_n 1, 1) := by decide +kernel
theorem dX6_canBegin_19 : decode cX6_canBegin 19 = .ok (.iload_n 2, 1) := by decide +kernel
theorem dX6_canBegin_20 : decode cX6_canBegin 20 = .ok (.invokevirtual 273, 3) := by decide +kernel
theorem dX6_canBegin_23 : decode cX6_canBegin 23 = .ok (.invokevirtual 125, 3) := by decide +kernel
theorem dX6_canBegin_26 : decode cX6_canBegin 26 = .ok (.ifCond .eq 48, 3) := by decide +kernel
theorem dX6_canBegin_29 : decode cX6_canBegin 29 = .ok (.aload_n 0, 1) := by decide +kernel
theorem dX6_canBegin_30 : decode cX6_canBegin 30 = .ok (.aload_n 1, 1) := by decide +kernel
theorem dX6_canBegin_31 : decode cX6_canBegin 31 = .ok (.getfield 188, 3) := by decide +kernel
theorem dX6_canBegin_34 : decode cX6_canBegin 34 = .ok (.aload_n 1, 1) := by decide +kernel
theorem dX6_canBegin_35 : decode cX6_canBegin 35 = .ok (.getfield 208, 3) := by decide +kernel
theorem dX6_canBegin_38 : decode cX6_canBegin 38 = .ok (.getfield 122, 3) := by decide +kernel
theorem dX6_canBegin_41 : decode cX6_canBegin 41 = .ok (.aload_n 1, 1) := by decide +kernel
theorem dX6_canBegin_42 : decode cX6_canBegin 42 = .ok (.iload_n 2, 1) := by decide +kernel
theorem dX6_canBegin_43 : decode cX6_canBegin 43 = .ok (.invokevirtual 276, 3) := by decide +kernel
theorem dX6_canBegin_46 : decode cX6_canBegin 46 = .ok (.invokevirtual 125, 3) := by decide +kernel
theorem dX6_canBegin_49 : decode cX6_canBegin 49 = .ok (.ifCond .eq 25, 3) := by decide +kernel
theorem dX6_canBegin_52 : decode cX6_canBegin 52 = .ok (.aload_n 0, 1) := by decide +kernel
theorem dX6_canBegin_53 : decode cX6_canBegin 53 = .ok (.aload_n 1, 1) := by decide +kernel
theorem dX6_canBegin_54 : decode cX6_canBegin 54 = .ok (.iload_n 2, 1) := by decide +kernel
theorem dX6_canBegin_55 : decode cX6_canBegin 55 = .ok (.invokevirtual 279, 3) := by decide +kernel
theorem dX6_canBegin_58 : decode cX6_canBegin 58 = .ok (.ifCond .eq 16, 3) := by decide +kernel
theorem dX6_canBegin_61 : decode cX6_canBegin 61 = .ok (.aload_n 0, 1) := by decide +kernel
theorem dX6_canBegin_62 : decode cX6_canBegin 62 = .ok (.aload_n 1, 1) := by decide +kernel
theorem dX6_canBegin_63 : decode cX6_canBegin 63 = .ok (.iload_n 2, 1) := by decide +kernel
theorem dX6_canBegin_64 : decode cX6_canBegin 64 = .ok (.invokevirtual 170, 3) := by decide +kernel
theorem dX6_canBegin_67 : decode cX6_canBegin 67 = .ok (.ifnull 7, 3) := by decide +kernel
theorem dX6_canBegin_70 : decode cX6_canBegin 70 = .ok (.iconst 1, 1) := by decide +kernel
theorem dX6_canBegin_71 : decode cX6_canBegin 71 = .ok (.goto 4, 3) := by decide +kernel
theorem dX6_canBegin_74 : decode cX6_canBegin 74 = .ok (.iconst 0, 1) := by decide +kernel
theorem dX6_canBegin_75 : decode cX6_canBegin 75 = .ok (.ireturn, 1) := by decide +kernel
set_option maxRecDepth 20000 in
theorem ggX6_hasClearWay_Jx4a65c_size_8abf5 : GoodIn wsX6_hasClearWay wsJx4a65c_size_8abf5 := goodIn_r _ [11, 12, 49, 50, 51] (by decide +kernel) (by decide +kernel)
set_option maxRecDepth 20000 in
theorem gX6_hasClearWay_Jx4a65c_size_8abf5 : GoodIn wsX6_hasClearWay (wsV RX6 76 RJx4a65c yJx4a65c_size_8abf5 wsJx4a65c_size_8abf5) := goodIn_app (goodIn_of _ (by decide +kernel)) ggX6_hasClearWay_Jx4a65c_size_8abf5
set_option maxRecDepth 20000 in
theorem ggX6_hasClearWay_Jx4a65c_get_915e3 : GoodIn wsX6_hasClearWay wsJx4a65c_get_915e3 := goodIn_r _ [16, 12, 17, 18, 19, 20, 21, 22, 23, 24, 25, 26, 27, 10, 28, 29, 49, 50, 51] (by decide +kernel) (by decide +kernel)
set_option maxRecDepth 20000 in
theorem gX6_hasClearWay_Jx4a65c_get_915e3 : GoodIn wsX6_hasClearWay (wsV RX6 96 RJx4a65c yJx4a65c_get_915e3 wsJx4a65c_get_915e3) := goodIn_app (goodIn_of _ (by decide +kernel)) ggX6_hasClearWay_Jx4a65c_get_915e3
theorem dX6_hasClearWay_0 : decode cX6_hasClearWay 0 = .ok (.iconst 0, 1) := by decide +kernel
theorem dX6_hasClearWay_1 : decode cX6_hasClearWay 1 = .ok (.istore_n 3, 1) := by decide +kernel
theorem dX6_hasClearWay_2 : decode cX6_hasClearWay 2 = .ok (.iload_n 3, 1) := by decide +kernel
theorem dX6_hasClearWay_3 : decode cX6_hasClearWay 3 = .ok (.aload_n 0, 1) := by decide +kernel
theorem dX6_hasClearWay_4 : decode cX6_hasClearWay 4 = .ok (.getfield 29, 3) := by decide +kernel
theorem dX6_hasClearWay_7 : decode cX6_hasClearWay 7 = .ok (.invokevirtual 76, 3) := by decide +kernel
theorem dX6_hasClearWay_10 : decode cX6_hasClearWay 10 = .ok (.if_icmp .ge 63, 3) := by decide +kernel
theorem dX6_hasClearWay_13 : decode cX6_hasClearWay 13 = .ok (.aload_n 0, 1) := by decide +kernel
theorem dX6_hasClearWay_14 : decode cX6_hasClearWay 14 = .ok (.getfield 29, 3) := by decide +kernel
theorem dX6_hasClearWay_17 : decode cX6_hasClearWay 17 = .ok (.iload_n 3, 1) := by decide +kernel
theorem dX6_hasClearWay_18 : decode cX6_hasClearWay 18 = .ok (.invokevirtual 96, 3) := by decide +kernel
theorem dX6_hasClearWay_21 : decode cX6_hasClearWay 21 = .ok (.checkcast 134, 3) := by decide +kernel
theorem dX6_hasClearWay_24 : decode cX6_hasClearWay 24 = .ok (.astore 4, 2) := by decide +kernel
theorem dX6_hasClearWay_26 : decode cX6_hasClearWay 26 = .ok (.aload 4, 2) := by decide +kernel
theorem dX6_hasClearWay_28 : decode cX6_hasClearWay 28 = .ok (.getfield 133, 3) := by decide +kernel
theorem dX6_hasClearWay_31 : decode cX6_hasClearWay 31 = .ok (.getfield 139, 3) := by decide +kernel
theorem dX6_hasClearWay_34 : decode cX6_hasClearWay 34 = .ok (.aload_n 1, 1) := by decide +kernel
theorem dX6_hasClearWay_35 : decode cX6_hasClearWay 35 = .ok (.getfield 139, 3) := by decide +kernel
theorem dX6_hasClearWay_38 : decode cX6_hasClearWay 38 = .ok (.if_icmp .ne 8, 3) := by decide +kernel
theorem dX6_hasClearWay_41 : decode cX6_hasClearWay 41 = .ok (.bipush 20, 2) := by decide +kernel
theorem dX6_hasClearWay_43 : decode cX6_hasClearWay 43 = .ok (.goto 5, 3) := by decide +kernel
theorem dX6_hasClearWay_46 : decode cX6_hasClearWay 46 = .ok (.bipush 60, 2) := by decide +kernel
theorem dX6_hasClearWay_48 : decode cX6_hasClearWay 48 = .ok (.istore 5, 2) := by decide +kernel
theorem dX6_hasClearWay_50 : decode cX6_hasClearWay 50 = .ok (.aload 4, 2) := by decide +kernel
theorem dX6_hasClearWay_52 : decode cX6_hasClearWay 52 = .ok (.getfield 153, 3) := by decide +kernel
theorem dX6_hasClearWay_55 : decode cX6_hasClearWay 55 = .ok (.iload_n 2, 1) := by decide +kernel
theorem dX6_hasClearWay_56 : decode cX6_hasClearWay 56 = .ok (.isub, 1) := by decide +kernel
theorem dX6_hasClearWay_57 : decode cX6_hasClearWay 57 = .ok (.invokestatic 282, 3) := by decide +kernel
theorem dX6_hasClearWay_60 : decode cX6_hasClearWay 60 = .ok (.iload 5, 2) := by decide +kernel
theorem dX6_hasClearWay_62 : decode cX6_hasClearWay 62 = .ok (.if_icmp .ge 5, 3) := by decide +kernel
theorem dX6_hasClearWay_65 : decode cX6_hasClearWay 65 = .ok (.iconst 0, 1) := by decide +kernel
theorem dX6_hasClearWay_66 : decode cX6_hasClearWay 66 = .ok (.ireturn, 1) := by decide +kernel
theorem dX6_hasClearWay_67 : decode cX6_hasClearWay 67 = .ok (.iinc 3 1, 3) := by decide +kernel
theorem dX6_hasClearWay_70 : decode cX6_hasClearWay 70 = .ok (.goto (-68), 3) := by decide +kernel
theorem dX6_hasClearWay_73 : decode cX6_hasClearWay 73 = .ok (.iconst 1, 1) := by decide +kernel
theorem dX6_hasClearWay_74 : decode cX6_hasClearWay 74 = .ok (.ireturn, 1) := by decide +kernel
set_option maxRecDepth 20000 in
theorem ggX6_hasTugs_X3_tugsFrom : GoodIn wsX6_hasTugs wsX3_tugsFrom := goodIn_r _ [8, 9, 54, 55, 56, 57] (by decide +kernel) (by decide +kernel)
set_option maxRecDepth 20000 in
theorem gX6_hasTugs_X3_tugsFrom : GoodIn wsX6_hasTugs (wsV RX6 285 RX3 yX3_tugsFrom wsX3_tugsFrom) := goodIn_app (goodIn_of _ (by decide +kernel)) ggX6_hasTugs_X3_tugsFrom
set_option maxRecDepth 20000 in
theorem ggX6_hasTugs_X6_tugsInUse : GoodIn wsX6_hasTugs wsX6_tugsInUse := goodIn_r _ [14, 2, 3, 15, 16, 17, 18, 19, 20, 21, 22, 23, 24, 25, 26, 27, 28, 29, 30, 31, 32, 33, 34, 35, 36, 37, 38, 39, 40, 41, 42, 43, 44, 45, 5, 6, 7, 8, 9, 46, 47, 48, 49, 50, 51, 52, 53, 58, 59, 60, 61, 62, 63, 64, 54, 55, 56, 57, 65, 66, 67] (by decide +kernel) (by decide +kernel)
set_option maxRecDepth 20000 in
theorem gX6_hasTugs_X6_tugsInUse : GoodIn wsX6_hasTugs (wsV RX6 218 RX6 yX6_tugsInUse wsX6_tugsInUse) := goodIn_app (goodIn_of _ (by decide +kernel)) ggX6_hasTugs_X6_tugsInUse
set_option maxRecDepth 20000 in
theorem ggX6_hasTugs_Jx4a65c_size_8abf5 : GoodIn wsX6_hasTugs wsJx4a65c_size_8abf5 := goodIn_r _ [19, 20, 65, 66, 67] (by decide +kernel) (by decide +kernel)
set_option maxRecDepth 20000 in
theorem gX6_hasTugs_Jx4a65c_size_8abf5 : GoodIn wsX6_hasTugs (wsV RX6 76 RJx4a65c yJx4a65c_size_8abf5 wsJx4a65c_size_8abf5) := goodIn_app (goodIn_of _ (by decide +kernel)) ggX6_hasTugs_Jx4a65c_size_8abf5
set_option maxRecDepth 20000 in
theorem ggX6_hasTugs_Jx4a65c_get_915e3 : GoodIn wsX6_hasTugs wsJx4a65c_get_915e3 := goodIn_r _ [24, 20, 25, 26, 27, 28, 29, 30, 31, 32, 33, 34, 35, 18, 36, 37, 65, 66, 67] (by decide +kernel) (by decide +kernel)
set_option maxRecDepth 20000 in
theorem gX6_hasTugs_Jx4a65c_get_915e3 : GoodIn wsX6_hasTugs (wsV RX6 96 RJx4a65c yJx4a65c_get_915e3 wsJx4a65c_get_915e3) := goodIn_app (goodIn_of _ (by decide +kernel)) ggX6_hasTugs_Jx4a65c_get_915e3
set_option maxRecDepth 20000 in
theorem ggX6_hasTugs_X1_tugsFrom : GoodIn wsX6_hasTugs wsX1_tugsFrom := goodIn_r _ [42, 43, 44, 45, 5, 6, 7, 8, 9, 58, 59, 60, 61, 62, 63, 64, 54, 55, 56, 57] (by decide +kernel) (by decide +kernel)
set_option maxRecDepth 20000 in
theorem gX6_hasTugs_X1_tugsFrom : GoodIn wsX6_hasTugs (wsV RX6 288 RX1 yX1_tugsFrom wsX1_tugsFrom) := goodIn_app (goodIn_of _ (by decide +kernel)) ggX6_hasTugs_X1_tugsFrom
theorem dX6_hasTugs_0 : decode cX6_hasTugs 0 = .ok (.aload_n 1, 1) := by decide +kernel
theorem dX6_hasTugs_1 : decode cX6_hasTugs 1 = .ok (.iload_n 2, 1) := by decide +kernel
theorem dX6_hasTugs_2 : decode cX6_hasTugs 2 = .ok (.invokevirtual 285, 3) := by decide +kernel
theorem dX6_hasTugs_5 : decode cX6_hasTugs 5 = .ok (.istore_n 3, 1) := by decide +kernel
theorem dX6_hasTugs_6 : decode cX6_hasTugs 6 = .ok (.aload_n 0, 1) := by decide +kernel
theorem dX6_hasTugs_7 : decode cX6_hasTugs 7 = .ok (.getfield 39, 3) := by decide +kernel
theorem dX6_hasTugs_10 : decode cX6_hasTugs 10 = .ok (.aload_n 1, 1) := by decide +kernel
theorem dX6_hasTugs_11 : decode cX6_hasTugs 11 = .ok (.getfield 207, 3) := by decide +kernel
theorem dX6_hasTugs_14 : decode cX6_hasTugs 14 = .ok (.isub, 1) := by decide +kernel
theorem dX6_hasTugs_15 : decode cX6_hasTugs 15 = .ok (.istore 4, 2) := by decide +kernel
theorem dX6_hasTugs_17 : decode cX6_hasTugs 17 = .ok (.aload_n 0, 1) := by decide +kernel
theorem dX6_hasTugs_18 : decode cX6_hasTugs 18 = .ok (.iload_n 3, 1) := by decide +kernel
theorem dX6_hasTugs_19 : decode cX6_hasTugs 19 = .ok (.invokevirtual 218, 3) := by decide +kernel
theorem dX6_hasTugs_22 : decode cX6_hasTugs 22 = .ok (.iload 4, 2) := by decide +kernel
theorem dX6_hasTugs_24 : decode cX6_hasTugs 24 = .ok (.if_icmp .le 5, 3) := by decide +kernel
theorem dX6_hasTugs_27 : decode cX6_hasTugs 27 = .ok (.iconst 0, 1) := by decide +kernel
theorem dX6_hasTugs_28 : decode cX6_hasTugs 28 = .ok (.ireturn, 1) := by decide +kernel
theorem dX6_hasTugs_29 : decode cX6_hasTugs 29 = .ok (.iconst 0, 1) := by decide +kernel
theorem dX6_hasTugs_30 : decode cX6_hasTugs 30 = .ok (.istore 5, 2) := by decide +kernel
theorem dX6_hasTugs_32 : decode cX6_hasTugs 32 = .ok (.iload 5, 2) := by decide +kernel
theorem dX6_hasTugs_34 : decode cX6_hasTugs 34 = .ok (.aload_n 0, 1) := by decide +kernel
theorem dX6_hasTugs_35 : decode cX6_hasTugs 35 = .ok (.getfield 29, 3) := by decide +kernel
theorem dX6_hasTugs_38 : decode cX6_hasTugs 38 = .ok (.invokevirtual 76, 3) := by decide +kernel
theorem dX6_hasTugs_41 : decode cX6_hasTugs 41 = .ok (.if_icmp .ge 54, 3) := by decide +kernel
theorem dX6_hasTugs_44 : decode cX6_hasTugs 44 = .ok (.aload_n 0, 1) := by decide +kernel
theorem dX6_hasTugs_45 : decode cX6_hasTugs 45 = .ok (.getfield 29, 3) := by decide +kernel
theorem dX6_hasTugs_48 : decode cX6_hasTugs 48 = .ok (.iload 5, 2) := by decide +kernel
theorem dX6_hasTugs_50 : decode cX6_hasTugs 50 = .ok (.invokevirtual 96, 3) := by decide +kernel
theorem dX6_hasTugs_53 : decode cX6_hasTugs 53 = .ok (.checkcast 134, 3) := by decide +kernel
theorem dX6_hasTugs_56 : decode cX6_hasTugs 56 = .ok (.invokevirtual 288, 3) := by decide +kernel
theorem dX6_hasTugs_59 : decode cX6_hasTugs 59 = .ok (.istore 6, 2) := by decide +kernel
theorem dX6_hasTugs_61 : decode cX6_hasTugs 61 = .ok (.iload 6, 2) := by decide +kernel
theorem dX6_hasTugs_63 : decode cX6_hasTugs 63 = .ok (.iload_n 3, 1) := by decide +kernel
theorem dX6_hasTugs_64 : decode cX6_hasTugs 64 = .ok (.if_icmp .le 25, 3) := by decide +kernel
theorem dX6_hasTugs_67 : decode cX6_hasTugs 67 = .ok (.iload 6, 2) := by decide +kernel
theorem dX6_hasTugs_69 : decode cX6_hasTugs 69 = .ok (.iload_n 3, 1) := by decide +kernel
theorem dX6_hasTugs_70 : decode cX6_hasTugs 70 = .ok (.bipush 40, 2) := by decide +kernel
theorem dX6_hasTugs_72 : decode cX6_hasTugs 72 = .ok (.iadd, 1) := by decide +kernel
theorem dX6_hasTugs_73 : decode cX6_hasTugs 73 = .ok (.if_icmp .ge 16, 3) := by decide +kernel
theorem dX6_hasTugs_76 : decode cX6_hasTugs 76 = .ok (.aload_n 0, 1) := by decide +kernel
theorem dX6_hasTugs_77 : decode cX6_hasTugs 77 = .ok (.iload 6, 2) := by decide +kernel
theorem dX6_hasTugs_79 : decode cX6_hasTugs 79 = .ok (.invokevirtual 218, 3) := by decide +kernel
theorem dX6_hasTugs_82 : decode cX6_hasTugs 82 = .ok (.iload 4, 2) := by decide +kernel
theorem dX6_hasTugs_84 : decode cX6_hasTugs 84 = .ok (.if_icmp .le 5, 3) := by decide +kernel
theorem dX6_hasTugs_87 : decode cX6_hasTugs 87 = .ok (.iconst 0, 1) := by decide +kernel
theorem dX6_hasTugs_88 : decode cX6_hasTugs 88 = .ok (.ireturn, 1) := by decide +kernel
theorem dX6_hasTugs_89 : decode cX6_hasTugs 89 = .ok (.iinc 5 1, 3) := by decide +kernel
theorem dX6_hasTugs_92 : decode cX6_hasTugs 92 = .ok (.goto (-60), 3) := by decide +kernel
theorem dX6_hasTugs_95 : decode cX6_hasTugs 95 = .ok (.iconst 1, 1) := by decide +kernel
theorem dX6_hasTugs_96 : decode cX6_hasTugs 96 = .ok (.ireturn, 1) := by decide +kernel
set_option maxRecDepth 20000 in
theorem ggX6_tugsInUse_Jx4a65c_size_8abf5 : GoodIn wsX6_tugsInUse wsJx4a65c_size_8abf5 := goodIn_r _ [7, 8, 58, 59, 60] (by decide +kernel) (by decide +kernel)
set_option maxRecDepth 20000 in
theorem gX6_tugsInUse_Jx4a65c_size_8abf5 : GoodIn wsX6_tugsInUse (wsV RX6 76 RJx4a65c yJx4a65c_size_8abf5 wsJx4a65c_size_8abf5) := goodIn_app (goodIn_of _ (by decide +kernel)) ggX6_tugsInUse_Jx4a65c_size_8abf5
set_option maxRecDepth 20000 in
theorem ggX6_tugsInUse_Jx4a65c_get_915e3 : GoodIn wsX6_tugsInUse wsJx4a65c_get_915e3 := goodIn_r _ [12, 8, 13, 14, 15, 16, 17, 18, 19, 20, 21, 22, 23, 6, 24, 25, 58, 59, 60] (by decide +kernel) (by decide +kernel)
set_option maxRecDepth 20000 in
theorem gX6_tugsInUse_Jx4a65c_get_915e3 : GoodIn wsX6_tugsInUse (wsV RX6 96 RJx4a65c yJx4a65c_get_915e3 wsJx4a65c_get_915e3) := goodIn_app (goodIn_of _ (by decide +kernel)) ggX6_tugsInUse_Jx4a65c_get_915e3
set_option maxRecDepth 20000 in
theorem ggX6_tugsInUse_X1_tugsFrom : GoodIn wsX6_tugsInUse wsX1_tugsFrom := goodIn_r _ [30, 31, 32, 33, 34, 35, 36, 37, 38, 47, 48, 49, 50, 51, 52, 53, 54, 55, 56, 57] (by decide +kernel) (by decide +kernel)
set_option maxRecDepth 20000 in
theorem gX6_tugsInUse_X1_tugsFrom : GoodIn wsX6_tugsInUse (wsV RX6 288 RX1 yX1_tugsFrom wsX1_tugsFrom) := goodIn_app (goodIn_of _ (by decide +kernel)) ggX6_tugsInUse_X1_tugsFrom
theorem dX6_tugsInUse_0 : decode cX6_tugsInUse 0 = .ok (.iconst 0, 1) := by decide +kernel
theorem dX6_tugsInUse_1 : decode cX6_tugsInUse 1 = .ok (.istore_n 2, 1) := by decide +kernel
theorem dX6_tugsInUse_2 : decode cX6_tugsInUse 2 = .ok (.iconst 0, 1) := by decide +kernel
theorem dX6_tugsInUse_3 : decode cX6_tugsInUse 3 = .ok (.istore_n 3, 1) := by decide +kernel
theorem dX6_tugsInUse_4 : decode cX6_tugsInUse 4 = .ok (.iload_n 3, 1) := by decide +kernel
theorem dX6_tugsInUse_5 : decode cX6_tugsInUse 5 = .ok (.aload_n 0, 1) := by decide +kernel
theorem dX6_tugsInUse_6 : decode cX6_tugsInUse 6 = .ok (.getfield 29, 3) := by decide +kernel
theorem dX6_tugsInUse_9 : decode cX6_tugsInUse 9 = .ok (.invokevirtual 76, 3) := by decide +kernel
theorem dX6_tugsInUse_12 : decode cX6_tugsInUse 12 = .ok (.if_icmp .ge 55, 3) := by decide +kernel
theorem dX6_tugsInUse_15 : decode cX6_tugsInUse 15 = .ok (.aload_n 0, 1) := by decide +kernel
theorem dX6_tugsInUse_16 : decode cX6_tugsInUse 16 = .ok (.getfield 29, 3) := by decide +kernel
theorem dX6_tugsInUse_19 : decode cX6_tugsInUse 19 = .ok (.iload_n 3, 1) := by decide +kernel
theorem dX6_tugsInUse_20 : decode cX6_tugsInUse 20 = .ok (.invokevirtual 96, 3) := by decide +kernel
theorem dX6_tugsInUse_23 : decode cX6_tugsInUse 23 = .ok (.checkcast 134, 3) := by decide +kernel
theorem dX6_tugsInUse_26 : decode cX6_tugsInUse 26 = .ok (.astore 4, 2) := by decide +kernel
theorem dX6_tugsInUse_28 : decode cX6_tugsInUse 28 = .ok (.aload 4, 2) := by decide +kernel
theorem dX6_tugsInUse_30 : decode cX6_tugsInUse 30 = .ok (.invokevirtual 288, 3) := by decide +kernel
theorem dX6_tugsInUse_33 : decode cX6_tugsInUse 33 = .ok (.istore 5, 2) := by decide +kernel
theorem dX6_tugsInUse_35 : decode cX6_tugsInUse 35 = .ok (.iload_n 1, 1) := by decide +kernel
theorem dX6_tugsInUse_36 : decode cX6_tugsInUse 36 = .ok (.iload 5, 2) := by decide +kernel
theorem dX6_tugsInUse_38 : decode cX6_tugsInUse 38 = .ok (.if_icmp .lt 23, 3) := by decide +kernel
theorem dX6_tugsInUse_41 : decode cX6_tugsInUse 41 = .ok (.iload_n 1, 1) := by decide +kernel
theorem dX6_tugsInUse_42 : decode cX6_tugsInUse 42 = .ok (.iload 5, 2) := by decide +kernel
theorem dX6_tugsInUse_44 : decode cX6_tugsInUse 44 = .ok (.bipush 40, 2) := by decide +kernel
theorem dX6_tugsInUse_46 : decode cX6_tugsInUse 46 = .ok (.iadd, 1) := by decide +kernel
theorem dX6_tugsInUse_47 : decode cX6_tugsInUse 47 = .ok (.if_icmp .ge 14, 3) := by decide +kernel
theorem dX6_tugsInUse_50 : decode cX6_tugsInUse 50 = .ok (.iload_n 2, 1) := by decide +kernel
theorem dX6_tugsInUse_51 : decode cX6_tugsInUse 51 = .ok (.aload 4, 2) := by decide +kernel
theorem dX6_tugsInUse_53 : decode cX6_tugsInUse 53 = .ok (.getfield 133, 3) := by decide +kernel
theorem dX6_tugsInUse_56 : decode cX6_tugsInUse 56 = .ok (.getfield 207, 3) := by decide +kernel
theorem dX6_tugsInUse_59 : decode cX6_tugsInUse 59 = .ok (.iadd, 1) := by decide +kernel
theorem dX6_tugsInUse_60 : decode cX6_tugsInUse 60 = .ok (.istore_n 2, 1) := by decide +kernel
theorem dX6_tugsInUse_61 : decode cX6_tugsInUse 61 = .ok (.iinc 3 1, 3) := by decide +kernel
theorem dX6_tugsInUse_64 : decode cX6_tugsInUse 64 = .ok (.goto (-60), 3) := by decide +kernel
theorem dX6_tugsInUse_67 : decode cX6_tugsInUse 67 = .ok (.iload_n 2, 1) := by decide +kernel
theorem dX6_tugsInUse_68 : decode cX6_tugsInUse 68 = .ok (.ireturn, 1) := by decide +kernel
set_option maxRecDepth 20000 in
theorem ggX6_pilotFor_Jx4a65c_size_8abf5 : GoodIn wsX6_pilotFor wsJx4a65c_size_8abf5 := goodIn_r _ [7, 8, 56, 57, 58] (by decide +kernel) (by decide +kernel)
set_option maxRecDepth 20000 in
theorem gX6_pilotFor_Jx4a65c_size_8abf5 : GoodIn wsX6_pilotFor (wsV RX6 76 RJx4a65c yJx4a65c_size_8abf5 wsJx4a65c_size_8abf5) := goodIn_app (goodIn_of _ (by decide +kernel)) ggX6_pilotFor_Jx4a65c_size_8abf5
set_option maxRecDepth 20000 in
theorem ggX6_pilotFor_Jx4a65c_get_915e3 : GoodIn wsX6_pilotFor wsJx4a65c_get_915e3 := goodIn_r _ [12, 8, 13, 14, 15, 16, 17, 18, 19, 20, 21, 22, 23, 6, 24, 25, 56, 57, 58] (by decide +kernel) (by decide +kernel)
set_option maxRecDepth 20000 in
theorem gX6_pilotFor_Jx4a65c_get_915e3 : GoodIn wsX6_pilotFor (wsV RX6 96 RJx4a65c yJx4a65c_get_915e3 wsJx4a65c_get_915e3) := goodIn_app (goodIn_of _ (by decide +kernel)) ggX6_pilotFor_Jx4a65c_get_915e3
set_option maxRecDepth 20000 in
theorem ggX6_pilotFor_X2_canTake : GoodIn wsX6_pilotFor wsX2_canTake := goodIn_r _ [30, 31, 32, 33, 34, 35, 29, 36, 37, 38, 39, 40, 41, 42, 43, 59, 60, 61, 62, 63, 64, 65, 66, 67, 68, 69, 70, 71, 72, 73, 74, 75, 76, 77] (by decide +kernel) (by decide +kernel)
set_option maxRecDepth 20000 in
theorem gX6_pilotFor_X2_canTake : GoodIn wsX6_pilotFor (wsV RX6 290 RX2 yX2_canTake wsX2_canTake) := goodIn_app (goodIn_of _ (by decide +kernel)) ggX6_pilotFor_X2_canTake
set_option maxRecDepth 20000 in
theorem ggX6_pilotFor_X2_latestEnd : GoodIn wsX6_pilotFor wsX2_latestEnd := goodIn_r _ [47, 32, 38, 39, 40, 41, 42, 43, 59, 60, 61, 62, 71, 72, 73, 74, 75, 76, 77] (by decide +kernel) (by decide +kernel)
set_option maxRecDepth 20000 in
theorem gX6_pilotFor_X2_latestEnd : GoodIn wsX6_pilotFor (wsV RX6 293 RX2 yX2_latestEnd wsX2_latestEnd) := goodIn_app (goodIn_of _ (by decide +kernel)) ggX6_pilotFor_X2_latestEnd
theorem dX6_pilotFor_0 : decode cX6_pilotFor 0 = .ok (.aconst_null, 1) := by decide +kernel
theorem dX6_pilotFor_1 : decode cX6_pilotFor 1 = .ok (.astore_n 3, 1) := by decide +kernel
theorem dX6_pilotFor_2 : decode cX6_pilotFor 2 = .ok (.iconst 0, 1) := by decide +kernel
theorem dX6_pilotFor_3 : decode cX6_pilotFor 3 = .ok (.istore 4, 2) := by decide +kernel
theorem dX6_pilotFor_5 : decode cX6_pilotFor 5 = .ok (.iload 4, 2) := by decide +kernel
theorem dX6_pilotFor_7 : decode cX6_pilotFor 7 = .ok (.aload_n 0, 1) := by decide +kernel
theorem dX6_pilotFor_8 : decode cX6_pilotFor 8 = .ok (.getfield 26, 3) := by decide +kernel
theorem dX6_pilotFor_11 : decode cX6_pilotFor 11 = .ok (.invokevirtual 76, 3) := by decide +kernel
theorem dX6_pilotFor_14 : decode cX6_pilotFor 14 = .ok (.if_icmp .ge 52, 3) := by decide +kernel
theorem dX6_pilotFor_17 : decode cX6_pilotFor 17 = .ok (.aload_n 0, 1) := by decide +kernel
theorem dX6_pilotFor_18 : decode cX6_pilotFor 18 = .ok (.getfield 26, 3) := by decide +kernel
theorem dX6_pilotFor_21 : decode cX6_pilotFor 21 = .ok (.iload 4, 2) := by decide +kernel
theorem dX6_pilotFor_23 : decode cX6_pilotFor 23 = .ok (.invokevirtual 96, 3) := by decide +kernel
theorem dX6_pilotFor_26 : decode cX6_pilotFor 26 = .ok (.checkcast 103, 3) := by decide +kernel
theorem dX6_pilotFor_29 : decode cX6_pilotFor 29 = .ok (.astore 5, 2) := by decide +kernel
theorem dX6_pilotFor_31 : decode cX6_pilotFor 31 = .ok (.aload 5, 2) := by decide +kernel
theorem dX6_pilotFor_33 : decode cX6_pilotFor 33 = .ok (.aload_n 1, 1) := by decide +kernel
theorem dX6_pilotFor_34 : decode cX6_pilotFor 34 = .ok (.iload_n 2, 1) := by decide +kernel
theorem dX6_pilotFor_35 : decode cX6_pilotFor 35 = .ok (.invokevirtual 290, 3) := by decide +kernel
theorem dX6_pilotFor_38 : decode cX6_pilotFor 38 = .ok (.ifCond .eq 22, 3) := by decide +kernel
theorem dX6_pilotFor_41 : decode cX6_pilotFor 41 = .ok (.aload_n 3, 1) := by decide +kernel
theorem dX6_pilotFor_42 : decode cX6_pilotFor 42 = .ok (.ifnull 15, 3) := by decide +kernel
theorem dX6_pilotFor_45 : decode cX6_pilotFor 45 = .ok (.aload 5, 2) := by decide +kernel
theorem dX6_pilotFor_47 : decode cX6_pilotFor 47 = .ok (.invokevirtual 293, 3) := by decide +kernel
theorem dX6_pilotFor_50 : decode cX6_pilotFor 50 = .ok (.aload_n 3, 1) := by decide +kernel
theorem dX6_pilotFor_51 : decode cX6_pilotFor 51 = .ok (.invokevirtual 293, 3) := by decide +kernel
theorem dX6_pilotFor_54 : decode cX6_pilotFor 54 = .ok (.if_icmp .ge 6, 3) := by decide +kernel
theorem dX6_pilotFor_57 : decode cX6_pilotFor 57 = .ok (.aload 5, 2) := by decide +kernel
theorem dX6_pilotFor_59 : decode cX6_pilotFor 59 = .ok (.astore_n 3, 1) := by decide +kernel
theorem dX6_pilotFor_60 : decode cX6_pilotFor 60 = .ok (.iinc 4 1, 3) := by decide +kernel
theorem dX6_pilotFor_63 : decode cX6_pilotFor 63 = .ok (.goto (-58), 3) := by decide +kernel
theorem dX6_pilotFor_66 : decode cX6_pilotFor 66 = .ok (.aload_n 3, 1) := by decide +kernel
theorem dX6_pilotFor_67 : decode cX6_pilotFor 67 = .ok (.areturn, 1) := by decide +kernel
set_option maxRecDepth 20000 in
theorem ggX6_enter_Jx4a65c_add_9ea2d : GoodIn wsX6_enter wsJx4a65c_add_9ea2d := goodIn_r _ [6, 7, 8, 9, 10, 11, 12, 13, 5, 14, 15, 16, 17, 18, 19, 20, 21, 22, 23, 24, 25, 26, 27, 28, 29, 30, 31, 32, 33, 34, 35, 36, 37, 38, 39, 40, 41, 42, 43, 44, 45, 46, 47, 48, 49, 50, 51, 52, 53, 54, 55, 56, 57, 91, 92, 93] (by decide +kernel) (by decide +kernel)
set_option maxRecDepth 20000 in
theorem gX6_enter_Jx4a65c_add_9ea2d : GoodIn wsX6_enter (wsV RX6 86 RJx4a65c yJx4a65c_add_9ea2d wsJx4a65c_add_9ea2d) := goodIn_app (goodIn_of _ (by decide +kernel)) ggX6_enter_Jx4a65c_add_9ea2d
set_option maxRecDepth 20000 in
theorem ggX6_enter_X1_end : GoodIn wsX6_enter wsX1_end := goodIn_r _ [62, 63, 72, 73, 74, 75, 76, 77, 78] (by decide +kernel) (by decide +kernel)
set_option maxRecDepth 20000 in
theorem gX6_enter_X1_end : GoodIn wsX6_enter (wsV RX6 150 RX1 yX1_end wsX1_end) := goodIn_app (goodIn_of _ (by decide +kernel)) ggX6_enter_X1_end
theorem dX6_enter_0 : decode cX6_enter 0 = .ok (.aload_n 0, 1) := by decide +kernel
theorem dX6_enter_1 : decode cX6_enter 1 = .ok (.getfield 29, 3) := by decide +kernel
theorem dX6_enter_4 : decode cX6_enter 4 = .ok (.aload_n 1, 1) := by decide +kernel
theorem dX6_enter_5 : decode cX6_enter 5 = .ok (.invokevirtual 86, 3) := by decide +kernel
theorem dX6_enter_8 : decode cX6_enter 8 = .ok (.pop, 1) := by decide +kernel
theorem dX6_enter_9 : decode cX6_enter 9 = .ok (.aload_n 1, 1) := by decide +kernel
theorem dX6_enter_10 : decode cX6_enter 10 = .ok (.getfield 133, 3) := by decide +kernel
theorem dX6_enter_13 : decode cX6_enter 13 = .ok (.getfield 139, 3) := by decide +kernel
theorem dX6_enter_16 : decode cX6_enter 16 = .ok (.ifCond .eq 21, 3) := by decide +kernel
theorem dX6_enter_19 : decode cX6_enter 19 = .ok (.aload_n 1, 1) := by decide +kernel
theorem dX6_enter_20 : decode cX6_enter 20 = .ok (.getfield 145, 3) := by decide +kernel
theorem dX6_enter_23 : decode cX6_enter 23 = .ok (.ifnull 14, 3) := by decide +kernel
theorem dX6_enter_26 : decode cX6_enter 26 = .ok (.aload_n 1, 1) := by decide +kernel
theorem dX6_enter_27 : decode cX6_enter 27 = .ok (.getfield 145, 3) := by decide +kernel
theorem dX6_enter_30 : decode cX6_enter 30 = .ok (.aload_n 1, 1) := by decide +kernel
theorem dX6_enter_31 : decode cX6_enter 31 = .ok (.invokevirtual 150, 3) := by decide +kernel
theorem dX6_enter_34 : decode cX6_enter 34 = .ok (.putfield 200, 3) := by decide +kernel
theorem dX6_enter_37 : decode cX6_enter 37 = .ok (.aload_n 1, 1) := by decide +kernel
theorem dX6_enter_38 : decode cX6_enter 38 = .ok (.getfield 133, 3) := by decide +kernel
theorem dX6_enter_41 : decode cX6_enter 41 = .ok (.getfield 188, 3) := by decide +kernel
theorem dX6_enter_44 : decode cX6_enter 44 = .ok (.aload_n 1, 1) := by decide +kernel
theorem dX6_enter_45 : decode cX6_enter 45 = .ok (.putfield 129, 3) := by decide +kernel
theorem dX6_enter_48 : decode cX6_enter 48 = .ok (.aload_n 1, 1) := by decide +kernel
theorem dX6_enter_49 : decode cX6_enter 49 = .ok (.getfield 192, 3) := by decide +kernel
theorem dX6_enter_52 : decode cX6_enter 52 = .ok (.aload_n 1, 1) := by decide +kernel
theorem dX6_enter_53 : decode cX6_enter 53 = .ok (.putfield 199, 3) := by decide +kernel
theorem dX6_enter_56 : decode cX6_enter 56 = .ok (.return_, 1) := by decide +kernel
theorem dJ9_abs_0f7a4_0 : decode cJ9_abs_0f7a4 0 = .ok (.iload_n 0, 1) := by decide +kernel
theorem dJ9_abs_0f7a4_1 : decode cJ9_abs_0f7a4 1 = .ok (.ifCond .ge 8, 3) := by decide +kernel
theorem dJ9_abs_0f7a4_4 : decode cJ9_abs_0f7a4 4 = .ok (.iload_n 0, 1) := by decide +kernel
theorem dJ9_abs_0f7a4_5 : decode cJ9_abs_0f7a4 5 = .ok (.ineg, 1) := by decide +kernel
theorem dJ9_abs_0f7a4_6 : decode cJ9_abs_0f7a4 6 = .ok (.goto 4, 3) := by decide +kernel
theorem dJ9_abs_0f7a4_9 : decode cJ9_abs_0f7a4 9 = .ok (.iload_n 0, 1) := by decide +kernel
theorem dJ9_abs_0f7a4_10 : decode cJ9_abs_0f7a4 10 = .ok (.ireturn, 1) := by decide +kernel
theorem dJ9_max_7cf53_0 : decode cJ9_max_7cf53 0 = .ok (.iload_n 0, 1) := by decide +kernel
theorem dJ9_max_7cf53_1 : decode cJ9_max_7cf53 1 = .ok (.iload_n 1, 1) := by decide +kernel
theorem dJ9_max_7cf53_2 : decode cJ9_max_7cf53 2 = .ok (.if_icmp .lt 7, 3) := by decide +kernel
theorem dJ9_max_7cf53_5 : decode cJ9_max_7cf53 5 = .ok (.iload_n 0, 1) := by decide +kernel
theorem dJ9_max_7cf53_6 : decode cJ9_max_7cf53 6 = .ok (.goto 4, 3) := by decide +kernel
theorem dJ9_max_7cf53_9 : decode cJ9_max_7cf53 9 = .ok (.iload_n 1, 1) := by decide +kernel
theorem dJ9_max_7cf53_10 : decode cJ9_max_7cf53 10 = .ok (.ireturn, 1) := by decide +kernel
theorem dJ9_min_7cf53_0 : decode cJ9_min_7cf53 0 = .ok (.iload_n 0, 1) := by decide +kernel
theorem dJ9_min_7cf53_1 : decode cJ9_min_7cf53 1 = .ok (.iload_n 1, 1) := by decide +kernel
theorem dJ9_min_7cf53_2 : decode cJ9_min_7cf53 2 = .ok (.if_icmp .gt 7, 3) := by decide +kernel
theorem dJ9_min_7cf53_5 : decode cJ9_min_7cf53 5 = .ok (.iload_n 0, 1) := by decide +kernel
theorem dJ9_min_7cf53_6 : decode cJ9_min_7cf53 6 = .ok (.goto 4, 3) := by decide +kernel
theorem dJ9_min_7cf53_9 : decode cJ9_min_7cf53 9 = .ok (.iload_n 1, 1) := by decide +kernel
theorem dJ9_min_7cf53_10 : decode cJ9_min_7cf53 10 = .ok (.ireturn, 1) := by decide +kernel
theorem dJxa1e45_init_da8c8_0 : decode cJxa1e45_init_da8c8 0 = .ok (.aload_n 0, 1) := by decide +kernel
theorem dJxa1e45_init_da8c8_1 : decode cJxa1e45_init_da8c8 1 = .ok (.invokespecial 1, 3) := by decide +kernel
theorem dJxa1e45_init_da8c8_4 : decode cJxa1e45_init_da8c8 4 = .ok (.return_, 1) := by decide +kernel
set_option maxRecDepth 20000 in
theorem ggJxc12de_init_da8c8_Jxa1e45_init_da8c8 : GoodIn wsJxc12de_init_da8c8 wsJxa1e45_init_da8c8 := goodIn_r _ [5, 6, 7, 8] (by decide +kernel) (by decide +kernel)
set_option maxRecDepth 20000 in
theorem gJxc12de_init_da8c8_Jxa1e45_init_da8c8 : GoodIn wsJxc12de_init_da8c8 (wsJxa1e45_init_da8c8) := ggJxc12de_init_da8c8_Jxa1e45_init_da8c8
theorem dJxc12de_init_da8c8_0 : decode cJxc12de_init_da8c8 0 = .ok (.aload_n 0, 1) := by decide +kernel
theorem dJxc12de_init_da8c8_1 : decode cJxc12de_init_da8c8 1 = .ok (.invokespecial 1, 3) := by decide +kernel
theorem dJxc12de_init_da8c8_4 : decode cJxc12de_init_da8c8 4 = .ok (.aload_n 0, 1) := by decide +kernel
theorem dJxc12de_init_da8c8_5 : decode cJxc12de_init_da8c8 5 = .ok (.iconst 0, 1) := by decide +kernel
theorem dJxc12de_init_da8c8_6 : decode cJxc12de_init_da8c8 6 = .ok (.putfield 7, 3) := by decide +kernel
theorem dJxc12de_init_da8c8_9 : decode cJxc12de_init_da8c8 9 = .ok (.return_, 1) := by decide +kernel
set_option maxRecDepth 20000 in
theorem ggJx4a65c_init_da8c8_Jxc12de_init_da8c8 : GoodIn wsJx4a65c_init_da8c8 wsJxc12de_init_da8c8 := goodIn_r _ [6, 7, 8, 9, 10, 11, 12, 13, 14, 15, 16, 17] (by decide +kernel) (by decide +kernel)
set_option maxRecDepth 20000 in
theorem gJx4a65c_init_da8c8_Jxc12de_init_da8c8 : GoodIn wsJx4a65c_init_da8c8 (wsJxc12de_init_da8c8) := ggJx4a65c_init_da8c8_Jxc12de_init_da8c8
theorem dJx4a65c_init_da8c8_0 : decode cJx4a65c_init_da8c8 0 = .ok (.aload_n 0, 1) := by decide +kernel
theorem dJx4a65c_init_da8c8_1 : decode cJx4a65c_init_da8c8 1 = .ok (.invokespecial 1, 3) := by decide +kernel
theorem dJx4a65c_init_da8c8_4 : decode cJx4a65c_init_da8c8 4 = .ok (.aload_n 0, 1) := by decide +kernel
theorem dJx4a65c_init_da8c8_5 : decode cJx4a65c_init_da8c8 5 = .ok (.getstatic 39, 3) := by decide +kernel
theorem dJx4a65c_init_da8c8_8 : decode cJx4a65c_init_da8c8 8 = .ok (.putfield 9, 3) := by decide +kernel
theorem dJx4a65c_init_da8c8_11 : decode cJx4a65c_init_da8c8 11 = .ok (.return_, 1) := by decide +kernel
set_option maxRecDepth 20000 in
theorem ggJx4a65c_grow_92f84_J8_newLength_cabcc : GoodIn wsJx4a65c_grow_92f84 wsJ8_newLength_cabcc := goodIn_r _ [11, 12, 4, 5, 6, 13, 14, 15, 10, 16] (by decide +kernel) (by decide +kernel)
set_option maxRecDepth 20000 in
theorem gJx4a65c_grow_92f84_J8_newLength_cabcc : GoodIn wsJx4a65c_grow_92f84 (va_wsS RJx4a65c 73 yJ8_newLength_cabcc wsJ8_newLength_cabcc) := goodIn_app (goodIn_of _ (by decide +kernel)) ggJx4a65c_grow_92f84_J8_newLength_cabcc
set_option maxRecDepth 20000 in
theorem ggJx4a65c_grow_92f84_J7_copyOf_1904c : GoodIn wsJx4a65c_grow_92f84 wsJ7_copyOf_1904c := goodIn_r _ [20, 21, 22, 23, 24, 25, 26, 19, 27, 28, 29, 30, 31, 5, 32, 33, 34, 35, 36] (by decide +kernel) (by decide +kernel)
set_option maxRecDepth 20000 in
theorem gJx4a65c_grow_92f84_J7_copyOf_1904c : GoodIn wsJx4a65c_grow_92f84 (va_wsS RJx4a65c 66 yJ7_copyOf_1904c wsJ7_copyOf_1904c) := goodIn_app (goodIn_of _ (by decide +kernel)) ggJx4a65c_grow_92f84_J7_copyOf_1904c
theorem dJx4a65c_grow_92f84_0 : decode cJx4a65c_grow_92f84 0 = .ok (.aload_n 0, 1) := by decide +kernel
theorem dJx4a65c_grow_92f84_1 : decode cJx4a65c_grow_92f84 1 = .ok (.getfield 9, 3) := by decide +kernel
theorem dJx4a65c_grow_92f84_4 : decode cJx4a65c_grow_92f84 4 = .ok (.arraylength, 1) := by decide +kernel
theorem dJx4a65c_grow_92f84_5 : decode cJx4a65c_grow_92f84 5 = .ok (.istore_n 2, 1) := by decide +kernel
theorem dJx4a65c_grow_92f84_6 : decode cJx4a65c_grow_92f84 6 = .ok (.iload_n 2, 1) := by decide +kernel
theorem dJx4a65c_grow_92f84_7 : decode cJx4a65c_grow_92f84 7 = .ok (.ifCond .gt 13, 3) := by decide +kernel
theorem dJx4a65c_grow_92f84_10 : decode cJx4a65c_grow_92f84 10 = .ok (.aload_n 0, 1) := by decide +kernel
theorem dJx4a65c_grow_92f84_11 : decode cJx4a65c_grow_92f84 11 = .ok (.getfield 9, 3) := by decide +kernel
theorem dJx4a65c_grow_92f84_14 : decode cJx4a65c_grow_92f84 14 = .ok (.getstatic 39, 3) := by decide +kernel
theorem dJx4a65c_grow_92f84_17 : decode cJx4a65c_grow_92f84 17 = .ok (.if_acmp .eq 28, 3) := by decide +kernel
theorem dJx4a65c_grow_92f84_20 : decode cJx4a65c_grow_92f84 20 = .ok (.iload_n 2, 1) := by decide +kernel
theorem dJx4a65c_grow_92f84_21 : decode cJx4a65c_grow_92f84 21 = .ok (.iload_n 1, 1) := by decide +kernel
theorem dJx4a65c_grow_92f84_22 : decode cJx4a65c_grow_92f84 22 = .ok (.iload_n 2, 1) := by decide +kernel
theorem dJx4a65c_grow_92f84_23 : decode cJx4a65c_grow_92f84 23 = .ok (.isub, 1) := by decide +kernel
theorem dJx4a65c_grow_92f84_24 : decode cJx4a65c_grow_92f84 24 = .ok (.iload_n 2, 1) := by decide +kernel
theorem dJx4a65c_grow_92f84_25 : decode cJx4a65c_grow_92f84 25 = .ok (.iconst 1, 1) := by decide +kernel
theorem dJx4a65c_grow_92f84_26 : decode cJx4a65c_grow_92f84 26 = .ok (.ishr, 1) := by decide +kernel
theorem dJx4a65c_grow_92f84_27 : decode cJx4a65c_grow_92f84 27 = .ok (.invokestatic 73, 3) := by decide +kernel
theorem dJx4a65c_grow_92f84_30 : decode cJx4a65c_grow_92f84 30 = .ok (.istore_n 3, 1) := by decide +kernel
theorem dJx4a65c_grow_92f84_31 : decode cJx4a65c_grow_92f84 31 = .ok (.aload_n 0, 1) := by decide +kernel
theorem dJx4a65c_grow_92f84_32 : decode cJx4a65c_grow_92f84 32 = .ok (.aload_n 0, 1) := by decide +kernel
theorem dJx4a65c_grow_92f84_33 : decode cJx4a65c_grow_92f84 33 = .ok (.getfield 9, 3) := by decide +kernel
theorem dJx4a65c_grow_92f84_36 : decode cJx4a65c_grow_92f84 36 = .ok (.iload_n 3, 1) := by decide +kernel
theorem dJx4a65c_grow_92f84_37 : decode cJx4a65c_grow_92f84 37 = .ok (.invokestatic 66, 3) := by decide +kernel
theorem dJx4a65c_grow_92f84_40 : decode cJx4a65c_grow_92f84 40 = .ok (.dup_x1, 1) := by decide +kernel
theorem dJx4a65c_grow_92f84_41 : decode cJx4a65c_grow_92f84 41 = .ok (.putfield 9, 3) := by decide +kernel
theorem dJx4a65c_grow_92f84_44 : decode cJx4a65c_grow_92f84 44 = .ok (.areturn, 1) := by decide +kernel
theorem dJx4a65c_grow_92f84_45 : decode cJx4a65c_grow_92f84 45 = .ok (.aload_n 0, 1) := by decide +kernel
theorem dJx4a65c_grow_92f84_46 : decode cJx4a65c_grow_92f84 46 = .ok (.bipush 10, 2) := by decide +kernel
theorem dJx4a65c_grow_92f84_48 : decode cJx4a65c_grow_92f84 48 = .ok (.iload_n 1, 1) := by decide +kernel
theorem dJx4a65c_grow_92f84_49 : decode cJx4a65c_grow_92f84 49 = .ok (.invokestatic 79, 3) := by decide +kernel
theorem dJx4a65c_grow_92f84_52 : decode cJx4a65c_grow_92f84 52 = .ok (.anewarray 7, 3) := by decide +kernel
theorem dJx4a65c_grow_92f84_55 : decode cJx4a65c_grow_92f84 55 = .ok (.dup_x1, 1) := by decide +kernel
theorem dJx4a65c_grow_92f84_56 : decode cJx4a65c_grow_92f84 56 = .ok (.putfield 9, 3) := by decide +kernel
theorem dJx4a65c_grow_92f84_59 : decode cJx4a65c_grow_92f84 59 = .ok (.areturn, 1) := by decide +kernel
set_option maxRecDepth 20000 in
theorem ggJx4a65c_grow_d5877_Jx4a65c_grow_92f84 : GoodIn wsJx4a65c_grow_d5877 wsJx4a65c_grow_92f84 := goodIn_r _ [6, 7, 8, 9, 10, 11, 12, 13, 14, 15, 16, 17, 18, 19, 20, 21, 22, 23, 24, 25, 26, 27, 28, 29, 30, 31, 32, 33, 34, 35, 36, 37, 38, 39, 40, 41, 42, 43, 44, 45] (by decide +kernel) (by decide +kernel)
set_option maxRecDepth 20000 in
theorem gJx4a65c_grow_d5877_Jx4a65c_grow_92f84 : GoodIn wsJx4a65c_grow_d5877 (wsV RJx4a65c 69 RJx4a65c yJx4a65c_grow_92f84 wsJx4a65c_grow_92f84) := goodIn_app (goodIn_of _ (by decide +kernel)) ggJx4a65c_grow_d5877_Jx4a65c_grow_92f84
theorem dJx4a65c_grow_d5877_0 : decode cJx4a65c_grow_d5877 0 = .ok (.aload_n 0, 1) := by decide +kernel
theorem dJx4a65c_grow_d5877_1 : decode cJx4a65c_grow_d5877 1 = .ok (.aload_n 0, 1) := by decide +kernel
end
section
theorem dJx4a65c_grow_d5877_2 : decode cJx4a65c_grow_d5877 2 = .ok (.getfield 48, 3) := by decide +kernel
theorem dJx4a65c_grow_d5877_5 : decode cJx4a65c_grow_d5877 5 = .ok (.iconst 1, 1) := by decide +kernel
theorem dJx4a65c_grow_d5877_6 : decode cJx4a65c_grow_d5877 6 = .ok (.iadd, 1) := by decide +kernel
theorem dJx4a65c_grow_d5877_7 : decode cJx4a65c_grow_d5877 7 = .ok (.invokevirtual 69, 3) := by decide +kernel
theorem dJx4a65c_grow_d5877_10 : decode cJx4a65c_grow_d5877 10 = .ok (.areturn, 1) := by decide +kernel
theorem dJx4a65c_size_8abf5_0 : decode cJx4a65c_size_8abf5 0 = .ok (.aload_n 0, 1) := by decide +kernel
theorem dJx4a65c_size_8abf5_1 : decode cJx4a65c_size_8abf5 1 = .ok (.getfield 48, 3) := by decide +kernel
theorem dJx4a65c_size_8abf5_4 : decode cJx4a65c_size_8abf5 4 = .ok (.ireturn, 1) := by decide +kernel
theorem dJx4a65c_isEmpty_aae02_0 : decode cJx4a65c_isEmpty_aae02 0 = .ok (.aload_n 0, 1) := by decide +kernel
theorem dJx4a65c_isEmpty_aae02_1 : decode cJx4a65c_isEmpty_aae02 1 = .ok (.getfield 48, 3) := by decide +kernel
theorem dJx4a65c_isEmpty_aae02_4 : decode cJx4a65c_isEmpty_aae02 4 = .ok (.ifCond .ne 7, 3) := by decide +kernel
theorem dJx4a65c_isEmpty_aae02_7 : decode cJx4a65c_isEmpty_aae02 7 = .ok (.iconst 1, 1) := by decide +kernel
theorem dJx4a65c_isEmpty_aae02_8 : decode cJx4a65c_isEmpty_aae02 8 = .ok (.goto 4, 3) := by decide +kernel
theorem dJx4a65c_isEmpty_aae02_11 : decode cJx4a65c_isEmpty_aae02 11 = .ok (.iconst 0, 1) := by decide +kernel
theorem dJx4a65c_isEmpty_aae02_12 : decode cJx4a65c_isEmpty_aae02 12 = .ok (.ireturn, 1) := by decide +kernel
theorem dJx4a65c_elementData_915e3_0 : decode cJx4a65c_elementData_915e3 0 = .ok (.aload_n 0, 1) := by decide +kernel
theorem dJx4a65c_elementData_915e3_1 : decode cJx4a65c_elementData_915e3 1 = .ok (.getfield 9, 3) := by decide +kernel
theorem dJx4a65c_elementData_915e3_4 : decode cJx4a65c_elementData_915e3 4 = .ok (.iload_n 1, 1) := by decide +kernel
theorem dJx4a65c_elementData_915e3_5 : decode cJx4a65c_elementData_915e3 5 = .ok (.aaload, 1) := by decide +kernel
theorem dJx4a65c_elementData_915e3_6 : decode cJx4a65c_elementData_915e3 6 = .ok (.areturn, 1) := by decide +kernel
set_option maxRecDepth 20000 in
theorem ggJx4a65c_get_915e3_J15_checkIndex_7cf53 : GoodIn wsJx4a65c_get_915e3 wsJ15_checkIndex_7cf53 := goodIn_r _ [5, 6, 7, 8, 9] (by decide +kernel) (by decide +kernel)
set_option maxRecDepth 20000 in
theorem gJx4a65c_get_915e3_J15_checkIndex_7cf53 : GoodIn wsJx4a65c_get_915e3 (va_wsS RJx4a65c 118 yJ15_checkIndex_7cf53 wsJ15_checkIndex_7cf53) := goodIn_app (goodIn_of _ (by decide +kernel)) ggJx4a65c_get_915e3_J15_checkIndex_7cf53
set_option maxRecDepth 20000 in
theorem ggJx4a65c_get_915e3_Jx4a65c_elementData_915e3 : GoodIn wsJx4a65c_get_915e3 wsJx4a65c_elementData_915e3 := goodIn_r _ [14, 15, 16, 17, 18] (by decide +kernel) (by decide +kernel)
set_option maxRecDepth 20000 in
theorem gJx4a65c_get_915e3_Jx4a65c_elementData_915e3 : GoodIn wsJx4a65c_get_915e3 (wsV RJx4a65c 123 RJx4a65c yJx4a65c_elementData_915e3 wsJx4a65c_elementData_915e3) := goodIn_app (goodIn_of _ (by decide +kernel)) ggJx4a65c_get_915e3_Jx4a65c_elementData_915e3
theorem dJx4a65c_get_915e3_0 : decode cJx4a65c_get_915e3 0 = .ok (.iload_n 1, 1) := by decide +kernel
theorem dJx4a65c_get_915e3_1 : decode cJx4a65c_get_915e3 1 = .ok (.aload_n 0, 1) := by decide +kernel
theorem dJx4a65c_get_915e3_2 : decode cJx4a65c_get_915e3 2 = .ok (.getfield 48, 3) := by decide +kernel
theorem dJx4a65c_get_915e3_5 : decode cJx4a65c_get_915e3 5 = .ok (.invokestatic 118, 3) := by decide +kernel
theorem dJx4a65c_get_915e3_8 : decode cJx4a65c_get_915e3 8 = .ok (.pop, 1) := by decide +kernel
theorem dJx4a65c_get_915e3_9 : decode cJx4a65c_get_915e3 9 = .ok (.aload_n 0, 1) := by decide +kernel
theorem dJx4a65c_get_915e3_10 : decode cJx4a65c_get_915e3 10 = .ok (.iload_n 1, 1) := by decide +kernel
theorem dJx4a65c_get_915e3_11 : decode cJx4a65c_get_915e3 11 = .ok (.invokevirtual 123, 3) := by decide +kernel
theorem dJx4a65c_get_915e3_14 : decode cJx4a65c_get_915e3 14 = .ok (.areturn, 1) := by decide +kernel
set_option maxRecDepth 20000 in
theorem ggJx4a65c_add_72be8_Jx4a65c_grow_d5877 : GoodIn wsJx4a65c_add_72be8 wsJx4a65c_grow_d5877 := goodIn_r _ [6, 1, 7, 8, 9, 5, 10, 11, 12, 13, 14, 15, 16, 17, 18, 19, 20, 21, 22, 23, 24, 25, 26, 27, 28, 29, 30, 31, 32, 33, 34, 35, 36, 37, 38, 39, 40, 41, 42, 43, 44, 45, 46, 47, 48, 49] (by decide +kernel) (by decide +kernel)
set_option maxRecDepth 20000 in
theorem gJx4a65c_add_72be8_Jx4a65c_grow_d5877 : GoodIn wsJx4a65c_add_72be8 (wsV RJx4a65c 129 RJx4a65c yJx4a65c_grow_d5877 wsJx4a65c_grow_d5877) := goodIn_app (goodIn_of _ (by decide +kernel)) ggJx4a65c_add_72be8_Jx4a65c_grow_d5877
theorem dJx4a65c_add_72be8_0 : decode cJx4a65c_add_72be8 0 = .ok (.iload_n 3, 1) := by decide +kernel
theorem dJx4a65c_add_72be8_1 : decode cJx4a65c_add_72be8 1 = .ok (.aload_n 2, 1) := by decide +kernel
theorem dJx4a65c_add_72be8_2 : decode cJx4a65c_add_72be8 2 = .ok (.arraylength, 1) := by decide +kernel
theorem dJx4a65c_add_72be8_3 : decode cJx4a65c_add_72be8 3 = .ok (.if_icmp .ne 8, 3) := by decide +kernel
theorem dJx4a65c_add_72be8_6 : decode cJx4a65c_add_72be8 6 = .ok (.aload_n 0, 1) := by decide +kernel
theorem dJx4a65c_add_72be8_7 : decode cJx4a65c_add_72be8 7 = .ok (.invokevirtual 129, 3) := by decide +kernel
theorem dJx4a65c_add_72be8_10 : decode cJx4a65c_add_72be8 10 = .ok (.astore_n 2, 1) := by decide +kernel
theorem dJx4a65c_add_72be8_11 : decode cJx4a65c_add_72be8 11 = .ok (.aload_n 2, 1) := by decide +kernel
theorem dJx4a65c_add_72be8_12 : decode cJx4a65c_add_72be8 12 = .ok (.iload_n 3, 1) := by decide +kernel
theorem dJx4a65c_add_72be8_13 : decode cJx4a65c_add_72be8 13 = .ok (.aload_n 1, 1) := by decide +kernel
theorem dJx4a65c_add_72be8_14 : decode cJx4a65c_add_72be8 14 = .ok (.aastore, 1) := by decide +kernel
theorem dJx4a65c_add_72be8_15 : decode cJx4a65c_add_72be8 15 = .ok (.aload_n 0, 1) := by decide +kernel
theorem dJx4a65c_add_72be8_16 : decode cJx4a65c_add_72be8 16 = .ok (.iload_n 3, 1) := by decide +kernel
theorem dJx4a65c_add_72be8_17 : decode cJx4a65c_add_72be8 17 = .ok (.iconst 1, 1) := by decide +kernel
theorem dJx4a65c_add_72be8_18 : decode cJx4a65c_add_72be8 18 = .ok (.iadd, 1) := by decide +kernel
theorem dJx4a65c_add_72be8_19 : decode cJx4a65c_add_72be8 19 = .ok (.putfield 48, 3) := by decide +kernel
theorem dJx4a65c_add_72be8_22 : decode cJx4a65c_add_72be8 22 = .ok (.return_, 1) := by decide +kernel
set_option maxRecDepth 20000 in
theorem ggJx4a65c_add_9ea2d_Jx4a65c_add_72be8 : GoodIn wsJx4a65c_add_9ea2d wsJx4a65c_add_72be8 := goodIn_r _ [9, 4, 10, 11, 12, 8, 13, 14, 15, 16, 17, 3, 18, 19, 20, 21, 22, 23, 24, 25, 26, 27, 28, 29, 30, 31, 32, 33, 34, 35, 36, 37, 38, 39, 40, 41, 42, 43, 44, 45, 46, 47, 48, 49, 50, 51, 52, 53, 54, 55] (by decide +kernel) (by decide +kernel)
set_option maxRecDepth 20000 in
theorem gJx4a65c_add_9ea2d_Jx4a65c_add_72be8 : GoodIn wsJx4a65c_add_9ea2d (wsV RJx4a65c 131 RJx4a65c yJx4a65c_add_72be8 wsJx4a65c_add_72be8) := goodIn_app (goodIn_of _ (by decide +kernel)) ggJx4a65c_add_9ea2d_Jx4a65c_add_72be8
theorem dJx4a65c_add_9ea2d_0 : decode cJx4a65c_add_9ea2d 0 = .ok (.aload_n 0, 1) := by decide +kernel
theorem dJx4a65c_add_9ea2d_1 : decode cJx4a65c_add_9ea2d 1 = .ok (.dup, 1) := by decide +kernel
theorem dJx4a65c_add_9ea2d_2 : decode cJx4a65c_add_9ea2d 2 = .ok (.getfield 63, 3) := by decide +kernel
theorem dJx4a65c_add_9ea2d_5 : decode cJx4a65c_add_9ea2d 5 = .ok (.iconst 1, 1) := by decide +kernel
theorem dJx4a65c_add_9ea2d_6 : decode cJx4a65c_add_9ea2d 6 = .ok (.iadd, 1) := by decide +kernel
theorem dJx4a65c_add_9ea2d_7 : decode cJx4a65c_add_9ea2d 7 = .ok (.putfield 63, 3) := by decide +kernel
theorem dJx4a65c_add_9ea2d_10 : decode cJx4a65c_add_9ea2d 10 = .ok (.aload_n 0, 1) := by decide +kernel
theorem dJx4a65c_add_9ea2d_11 : decode cJx4a65c_add_9ea2d 11 = .ok (.aload_n 1, 1) := by decide +kernel
theorem dJx4a65c_add_9ea2d_12 : decode cJx4a65c_add_9ea2d 12 = .ok (.aload_n 0, 1) := by decide +kernel
theorem dJx4a65c_add_9ea2d_13 : decode cJx4a65c_add_9ea2d 13 = .ok (.getfield 9, 3) := by decide +kernel
theorem dJx4a65c_add_9ea2d_16 : decode cJx4a65c_add_9ea2d 16 = .ok (.aload_n 0, 1) := by decide +kernel
theorem dJx4a65c_add_9ea2d_17 : decode cJx4a65c_add_9ea2d 17 = .ok (.getfield 48, 3) := by decide +kernel
theorem dJx4a65c_add_9ea2d_20 : decode cJx4a65c_add_9ea2d 20 = .ok (.invokevirtual 131, 3) := by decide +kernel
theorem dJx4a65c_add_9ea2d_23 : decode cJx4a65c_add_9ea2d 23 = .ok (.iconst 1, 1) := by decide +kernel
theorem dJx4a65c_add_9ea2d_24 : decode cJx4a65c_add_9ea2d 24 = .ok (.ireturn, 1) := by decide +kernel
set_option maxRecDepth 20000 in
theorem ggJ7_copyOf_1904c_J7_copyOf_6403c : GoodIn wsJ7_copyOf_1904c wsJ7_copyOf_6403c := goodIn_r _ [8, 9, 10, 11, 12, 13, 14, 15, 16, 17, 18] (by decide +kernel) (by decide +kernel)
set_option maxRecDepth 20000 in
theorem gJ7_copyOf_1904c_J7_copyOf_6403c : GoodIn wsJ7_copyOf_1904c (va_wsS RJ7 300 yJ7_copyOf_6403c wsJ7_copyOf_6403c) := goodIn_app (goodIn_of _ (by decide +kernel)) ggJ7_copyOf_1904c_J7_copyOf_6403c
theorem dJ7_copyOf_1904c_0 : decode cJ7_copyOf_1904c 0 = .ok (.aload_n 0, 1) := by decide +kernel
theorem dJ7_copyOf_1904c_1 : decode cJ7_copyOf_1904c 1 = .ok (.iload_n 1, 1) := by decide +kernel
theorem dJ7_copyOf_1904c_2 : decode cJ7_copyOf_1904c 2 = .ok (.aload_n 0, 1) := by decide +kernel
theorem dJ7_copyOf_1904c_3 : decode cJ7_copyOf_1904c 3 = .ok (.invokevirtual 86, 3) := by decide +kernel
theorem dJ7_copyOf_1904c_6 : decode cJ7_copyOf_1904c 6 = .ok (.invokestatic 300, 3) := by decide +kernel
theorem dJ7_copyOf_1904c_9 : decode cJ7_copyOf_1904c 9 = .ok (.areturn, 1) := by decide +kernel
theorem dJ7_copyOf_6403c_0 : decode cJ7_copyOf_6403c 0 = .ok (.aload_n 2, 1) := by decide +kernel
theorem dJ7_copyOf_6403c_1 : decode cJ7_copyOf_6403c 1 = .ok (.ldc 110, 2) := by decide +kernel
theorem dJ7_copyOf_6403c_3 : decode cJ7_copyOf_6403c 3 = .ok (.if_acmp .ne 10, 3) := by decide +kernel
theorem dJ7_copyOf_6403c_6 : decode cJ7_copyOf_6403c 6 = .ok (.iload_n 1, 1) := by decide +kernel
theorem dJ7_copyOf_6403c_7 : decode cJ7_copyOf_6403c 7 = .ok (.anewarray 2, 3) := by decide +kernel
theorem dJ7_copyOf_6403c_10 : decode cJ7_copyOf_6403c 10 = .ok (.goto 14, 3) := by decide +kernel
theorem dJ7_copyOf_6403c_13 : decode cJ7_copyOf_6403c 13 = .ok (.aload_n 2, 1) := by decide +kernel
theorem dJ7_copyOf_6403c_14 : decode cJ7_copyOf_6403c 14 = .ok (.invokevirtual 90, 3) := by decide +kernel
theorem dJ7_copyOf_6403c_17 : decode cJ7_copyOf_6403c 17 = .ok (.iload_n 1, 1) := by decide +kernel
theorem dJ7_copyOf_6403c_18 : decode cJ7_copyOf_6403c 18 = .ok (.invokestatic 95, 3) := by decide +kernel
theorem dJ7_copyOf_6403c_21 : decode cJ7_copyOf_6403c 21 = .ok (.checkcast 110, 3) := by decide +kernel
theorem dJ7_copyOf_6403c_24 : decode cJ7_copyOf_6403c 24 = .ok (.astore_n 3, 1) := by decide +kernel
theorem dJ7_copyOf_6403c_25 : decode cJ7_copyOf_6403c 25 = .ok (.aload_n 0, 1) := by decide +kernel
theorem dJ7_copyOf_6403c_26 : decode cJ7_copyOf_6403c 26 = .ok (.iconst 0, 1) := by decide +kernel
theorem dJ7_copyOf_6403c_27 : decode cJ7_copyOf_6403c 27 = .ok (.aload_n 3, 1) := by decide +kernel
theorem dJ7_copyOf_6403c_28 : decode cJ7_copyOf_6403c 28 = .ok (.iconst 0, 1) := by decide +kernel
theorem dJ7_copyOf_6403c_29 : decode cJ7_copyOf_6403c 29 = .ok (.aload_n 0, 1) := by decide +kernel
theorem dJ7_copyOf_6403c_30 : decode cJ7_copyOf_6403c 30 = .ok (.arraylength, 1) := by decide +kernel
theorem dJ7_copyOf_6403c_31 : decode cJ7_copyOf_6403c 31 = .ok (.iload_n 1, 1) := by decide +kernel
theorem dJ7_copyOf_6403c_32 : decode cJ7_copyOf_6403c 32 = .ok (.invokestatic 304, 3) := by decide +kernel
theorem dJ7_copyOf_6403c_35 : decode cJ7_copyOf_6403c 35 = .ok (.invokestatic 150, 3) := by decide +kernel
theorem dJ7_copyOf_6403c_38 : decode cJ7_copyOf_6403c 38 = .ok (.aload_n 3, 1) := by decide +kernel
theorem dJ7_copyOf_6403c_39 : decode cJ7_copyOf_6403c 39 = .ok (.areturn, 1) := by decide +kernel
set_option maxRecDepth 20000 in
theorem ggJ15_checkIndex_7cf53_J3_checkIndex_8e157 : GoodIn wsJ15_checkIndex_7cf53 wsJ3_checkIndex_8e157 := goodIn_r _ [4] (by decide +kernel) (by decide +kernel)
set_option maxRecDepth 20000 in
theorem gJ15_checkIndex_7cf53_J3_checkIndex_8e157 : GoodIn wsJ15_checkIndex_7cf53 (va_wsS RJ15 105 yJ3_checkIndex_8e157 wsJ3_checkIndex_8e157) := goodIn_app (goodIn_of _ (by decide +kernel)) ggJ15_checkIndex_7cf53_J3_checkIndex_8e157
theorem dJ15_checkIndex_7cf53_0 : decode cJ15_checkIndex_7cf53 0 = .ok (.iload_n 0, 1) := by decide +kernel
theorem dJ15_checkIndex_7cf53_1 : decode cJ15_checkIndex_7cf53 1 = .ok (.iload_n 1, 1) := by decide +kernel
theorem dJ15_checkIndex_7cf53_2 : decode cJ15_checkIndex_7cf53 2 = .ok (.aconst_null, 1) := by decide +kernel
theorem dJ15_checkIndex_7cf53_3 : decode cJ15_checkIndex_7cf53 3 = .ok (.invokestatic 105, 3) := by decide +kernel
theorem dJ15_checkIndex_7cf53_6 : decode cJ15_checkIndex_7cf53 6 = .ok (.ireturn, 1) := by decide +kernel
set_option maxRecDepth 20000 in
theorem ggJ8_newLength_cabcc_J8_hugeLength_7cf53 : GoodIn wsJ8_newLength_cabcc wsJ8_hugeLength_7cf53 := goodIn_r _ [9, 5] (by decide +kernel) (by decide +kernel)
set_option maxRecDepth 20000 in
theorem gJ8_newLength_cabcc_J8_hugeLength_7cf53 : GoodIn wsJ8_newLength_cabcc (va_wsS RJ8 201 yJ8_hugeLength_7cf53 wsJ8_hugeLength_7cf53) := goodIn_app (goodIn_of _ (by decide +kernel)) ggJ8_newLength_cabcc_J8_hugeLength_7cf53
theorem dJ8_newLength_cabcc_0 : decode cJ8_newLength_cabcc 0 = .ok (.iload_n 0, 1) := by decide +kernel
theorem dJ8_newLength_cabcc_1 : decode cJ8_newLength_cabcc 1 = .ok (.iload_n 1, 1) := by decide +kernel
theorem dJ8_newLength_cabcc_2 : decode cJ8_newLength_cabcc 2 = .ok (.iload_n 2, 1) := by decide +kernel
theorem dJ8_newLength_cabcc_3 : decode cJ8_newLength_cabcc 3 = .ok (.invokestatic 194, 3) := by decide +kernel
theorem dJ8_newLength_cabcc_6 : decode cJ8_newLength_cabcc 6 = .ok (.iadd, 1) := by decide +kernel
theorem dJ8_newLength_cabcc_7 : decode cJ8_newLength_cabcc 7 = .ok (.istore_n 3, 1) := by decide +kernel
theorem dJ8_newLength_cabcc_8 : decode cJ8_newLength_cabcc 8 = .ok (.iconst 0, 1) := by decide +kernel
theorem dJ8_newLength_cabcc_9 : decode cJ8_newLength_cabcc 9 = .ok (.iload_n 3, 1) := by decide +kernel
theorem dJ8_newLength_cabcc_10 : decode cJ8_newLength_cabcc 10 = .ok (.if_icmp .ge 11, 3) := by decide +kernel
theorem dJ8_newLength_cabcc_13 : decode cJ8_newLength_cabcc 13 = .ok (.iload_n 3, 1) := by decide +kernel
theorem dJ8_newLength_cabcc_14 : decode cJ8_newLength_cabcc 14 = .ok (.ldc 200, 2) := by decide +kernel
theorem dJ8_newLength_cabcc_16 : decode cJ8_newLength_cabcc 16 = .ok (.if_icmp .gt 5, 3) := by decide +kernel
theorem dJ8_newLength_cabcc_19 : decode cJ8_newLength_cabcc 19 = .ok (.iload_n 3, 1) := by decide +kernel
theorem dJ8_newLength_cabcc_20 : decode cJ8_newLength_cabcc 20 = .ok (.ireturn, 1) := by decide +kernel
theorem dJ8_newLength_cabcc_21 : decode cJ8_newLength_cabcc 21 = .ok (.iload_n 0, 1) := by decide +kernel
theorem dJ8_newLength_cabcc_22 : decode cJ8_newLength_cabcc 22 = .ok (.iload_n 1, 1) := by decide +kernel
theorem dJ8_newLength_cabcc_23 : decode cJ8_newLength_cabcc 23 = .ok (.invokestatic 201, 3) := by decide +kernel
theorem dJ8_newLength_cabcc_26 : decode cJ8_newLength_cabcc 26 = .ok (.ireturn, 1) := by decide +kernel
theorem dJ8_hugeLength_7cf53_0 : decode cJ8_hugeLength_7cf53 0 = .ok (.iload_n 0, 1) := by decide +kernel
theorem dJ8_hugeLength_7cf53_1 : decode cJ8_hugeLength_7cf53 1 = .ok (.iload_n 1, 1) := by decide +kernel
theorem dJ8_hugeLength_7cf53_2 : decode cJ8_hugeLength_7cf53 2 = .ok (.iadd, 1) := by decide +kernel
theorem dJ8_hugeLength_7cf53_3 : decode cJ8_hugeLength_7cf53 3 = .ok (.istore_n 2, 1) := by decide +kernel
theorem dJ8_hugeLength_7cf53_4 : decode cJ8_hugeLength_7cf53 4 = .ok (.iload_n 2, 1) := by decide +kernel
theorem dJ8_hugeLength_7cf53_5 : decode cJ8_hugeLength_7cf53 5 = .ok (.ifCond .ge 44, 3) := by decide +kernel
theorem dJ8_hugeLength_7cf53_8 : decode cJ8_hugeLength_7cf53 8 = .ok (.new 204, 3) := by decide +kernel
theorem dJ8_hugeLength_7cf53_11 : decode cJ8_hugeLength_7cf53 11 = .ok (.dup, 1) := by decide +kernel
theorem dJ8_hugeLength_7cf53_12 : decode cJ8_hugeLength_7cf53 12 = .ok (.new 89, 3) := by decide +kernel
theorem dJ8_hugeLength_7cf53_15 : decode cJ8_hugeLength_7cf53 15 = .ok (.dup, 1) := by decide +kernel
theorem dJ8_hugeLength_7cf53_16 : decode cJ8_hugeLength_7cf53 16 = .ok (.invokespecial 91, 3) := by decide +kernel
theorem dJ8_hugeLength_7cf53_19 : decode cJ8_hugeLength_7cf53 19 = .ok (.ldc 206, 2) := by decide +kernel
theorem dJ8_hugeLength_7cf53_21 : decode cJ8_hugeLength_7cf53 21 = .ok (.invokevirtual 94, 3) := by decide +kernel
theorem dJ8_hugeLength_7cf53_24 : decode cJ8_hugeLength_7cf53 24 = .ok (.iload_n 0, 1) := by decide +kernel
theorem dJ8_hugeLength_7cf53_25 : decode cJ8_hugeLength_7cf53 25 = .ok (.invokevirtual 98, 3) := by decide +kernel
theorem dJ8_hugeLength_7cf53_28 : decode cJ8_hugeLength_7cf53 28 = .ok (.ldc 208, 2) := by decide +kernel
theorem dJ8_hugeLength_7cf53_30 : decode cJ8_hugeLength_7cf53 30 = .ok (.invokevirtual 94, 3) := by decide +kernel
theorem dJ8_hugeLength_7cf53_33 : decode cJ8_hugeLength_7cf53 33 = .ok (.iload_n 1, 1) := by decide +kernel
theorem dJ8_hugeLength_7cf53_34 : decode cJ8_hugeLength_7cf53 34 = .ok (.invokevirtual 98, 3) := by decide +kernel
theorem dJ8_hugeLength_7cf53_37 : decode cJ8_hugeLength_7cf53 37 = .ok (.ldc 210, 2) := by decide +kernel
theorem dJ8_hugeLength_7cf53_39 : decode cJ8_hugeLength_7cf53 39 = .ok (.invokevirtual 94, 3) := by decide +kernel
theorem dJ8_hugeLength_7cf53_42 : decode cJ8_hugeLength_7cf53 42 = .ok (.invokevirtual 101, 3) := by decide +kernel
theorem dJ8_hugeLength_7cf53_45 : decode cJ8_hugeLength_7cf53 45 = .ok (.invokespecial 212, 3) := by decide +kernel
theorem dJ8_hugeLength_7cf53_48 : decode cJ8_hugeLength_7cf53 48 = .ok (.athrow, 1) := by decide +kernel
theorem dJ8_hugeLength_7cf53_49 : decode cJ8_hugeLength_7cf53 49 = .ok (.iload_n 2, 1) := by decide +kernel
theorem dJ8_hugeLength_7cf53_50 : decode cJ8_hugeLength_7cf53 50 = .ok (.ldc 200, 2) := by decide +kernel
theorem dJ8_hugeLength_7cf53_52 : decode cJ8_hugeLength_7cf53 52 = .ok (.if_icmp .gt 6, 3) := by decide +kernel
theorem dJ8_hugeLength_7cf53_55 : decode cJ8_hugeLength_7cf53 55 = .ok (.ldc 200, 2) := by decide +kernel
theorem dJ8_hugeLength_7cf53_57 : decode cJ8_hugeLength_7cf53 57 = .ok (.ireturn, 1) := by decide +kernel
theorem dJ8_hugeLength_7cf53_58 : decode cJ8_hugeLength_7cf53 58 = .ok (.iload_n 2, 1) := by decide +kernel
theorem dJ8_hugeLength_7cf53_59 : decode cJ8_hugeLength_7cf53 59 = .ok (.ireturn, 1) := by decide +kernel
theorem dJ3_checkIndex_8e157_0 : decode cJ3_checkIndex_8e157 0 = .ok (.iload_n 0, 1) := by decide +kernel
theorem dJ3_checkIndex_8e157_1 : decode cJ3_checkIndex_8e157 1 = .ok (.ifCond .lt 8, 3) := by decide +kernel
theorem dJ3_checkIndex_8e157_4 : decode cJ3_checkIndex_8e157 4 = .ok (.iload_n 0, 1) := by decide +kernel
theorem dJ3_checkIndex_8e157_5 : decode cJ3_checkIndex_8e157 5 = .ok (.iload_n 1, 1) := by decide +kernel
theorem dJ3_checkIndex_8e157_6 : decode cJ3_checkIndex_8e157 6 = .ok (.if_icmp .lt 10, 3) := by decide +kernel
theorem dJ3_checkIndex_8e157_9 : decode cJ3_checkIndex_8e157 9 = .ok (.aload_n 2, 1) := by decide +kernel
theorem dJ3_checkIndex_8e157_10 : decode cJ3_checkIndex_8e157 10 = .ok (.iload_n 0, 1) := by decide +kernel
theorem dJ3_checkIndex_8e157_11 : decode cJ3_checkIndex_8e157 11 = .ok (.iload_n 1, 1) := by decide +kernel
theorem dJ3_checkIndex_8e157_12 : decode cJ3_checkIndex_8e157 12 = .ok (.invokestatic 95, 3) := by decide +kernel
theorem dJ3_checkIndex_8e157_15 : decode cJ3_checkIndex_8e157 15 = .ok (.athrow, 1) := by decide +kernel
theorem dJ3_checkIndex_8e157_16 : decode cJ3_checkIndex_8e157 16 = .ok (.iload_n 0, 1) := by decide +kernel
theorem dJ3_checkIndex_8e157_17 : decode cJ3_checkIndex_8e157 17 = .ok (.ireturn, 1) := by decide +kernel
theorem dL_below_0 : decode cL_below 0 = .ok (.iload_n 0, 1) := by decide +kernel
theorem dL_below_1 : decode cL_below 1 = .ok (.ldc 7, 2) := by decide +kernel
theorem dL_below_3 : decode cL_below 3 = .ok (.iand, 1) := by decide +kernel
theorem dL_below_4 : decode cL_below 4 = .ok (.iload_n 1, 1) := by decide +kernel
theorem dL_below_5 : decode cL_below 5 = .ok (.irem, 1) := by decide +kernel
theorem dL_below_6 : decode cL_below 6 = .ok (.ireturn, 1) := by decide +kernel
theorem dL_cell_0 : decode cL_cell 0 = .ok (.iload_n 1, 1) := by decide +kernel
theorem dL_cell_1 : decode cL_cell 1 = .ok (.aload_n 0, 1) := by decide +kernel
theorem dL_cell_2 : decode cL_cell 2 = .ok (.arraylength, 1) := by decide +kernel
theorem dL_cell_3 : decode cL_cell 3 = .ok (.if_icmp .ge 9, 3) := by decide +kernel
theorem dL_cell_6 : decode cL_cell 6 = .ok (.aload_n 0, 1) := by decide +kernel
theorem dL_cell_7 : decode cL_cell 7 = .ok (.iload_n 1, 1) := by decide +kernel
theorem dL_cell_8 : decode cL_cell 8 = .ok (.iaload, 1) := by decide +kernel
theorem dL_cell_9 : decode cL_cell 9 = .ok (.goto 9, 3) := by decide +kernel
theorem dL_cell_12 : decode cL_cell 12 = .ok (.ldc 8, 2) := by decide +kernel
theorem dL_cell_14 : decode cL_cell 14 = .ok (.iload_n 1, 1) := by decide +kernel
theorem dL_cell_15 : decode cL_cell 15 = .ok (.iconst 3, 1) := by decide +kernel
theorem dL_cell_16 : decode cL_cell 16 = .ok (.iadd, 1) := by decide +kernel
theorem dL_cell_17 : decode cL_cell 17 = .ok (.imul, 1) := by decide +kernel
theorem dL_cell_18 : decode cL_cell 18 = .ok (.ireturn, 1) := by decide +kernel
set_option maxRecDepth 20000 in
theorem ggL_build_L_cell : GoodIn wsL_build wsL_cell := goodIn_r _ [5, 6] (by decide +kernel) (by decide +kernel)
set_option maxRecDepth 20000 in
theorem gL_build_L_cell : GoodIn wsL_build (va_wsS RL 9 yL_cell wsL_cell) := goodIn_app (goodIn_of _ (by decide +kernel)) ggL_build_L_cell
set_option maxRecDepth 20000 in
theorem ggL_build_L_below : GoodIn wsL_build wsL_below := goodIn_r _ [9, 10] (by decide +kernel) (by decide +kernel)
set_option maxRecDepth 20000 in
theorem gL_build_L_below : GoodIn wsL_build (va_wsS RL 15 yL_below wsL_below) := goodIn_app (goodIn_of _ (by decide +kernel)) ggL_build_L_below
set_option maxRecDepth 20000 in
theorem ggL_build_X6_addTide : GoodIn wsL_build wsX6_addTide := goodIn_ca (goodIn_ca (goodIn_r _ [15, 16, 17, 18, 19, 20, 21, 14, 22, 23, 24, 25, 26, 27, 28, 29, 30, 31, 32, 33, 34, 35, 36, 37, 38, 39, 40, 41, 42, 43, 44, 45, 46, 47, 48, 49, 177, 178, 179, 180, 181, 182, 183, 184, 185, 186, 187, 188, 189, 190] (by decide +kernel) (by decide +kernel)) (goodIn_sub (fun _ h => List.mem_cons_of_mem _ (List.mem_append_left _ (List.mem_append_left _ (List.mem_append_right _ h)))) (by decide +kernel))) (goodIn_sub (fun _ h => List.mem_cons_of_mem _ (List.mem_append_left _ (List.mem_append_right _ h))) (by decide +kernel))
set_option maxRecDepth 20000 in
theorem gL_build_X6_addTide : GoodIn wsL_build (wsV RL 19 RX6 yX6_addTide wsX6_addTide) := goodIn_app (goodIn_of _ (by decide +kernel)) ggL_build_X6_addTide
set_option maxRecDepth 20000 in
theorem ggL_build_X6_setWater : GoodIn wsL_build wsX6_setWater := goodIn_ca (goodIn_r _ [53, 54, 55, 23, 24, 14, 25, 26, 27, 177, 178, 179, 180, 181, 182, 183, 184] (by decide +kernel) (by decide +kernel)) (goodIn_sub (fun _ h => List.mem_cons_of_mem _ (List.mem_append_left _ (List.mem_append_right _ h))) (by decide +kernel))
set_option maxRecDepth 20000 in
theorem gL_build_X6_setWater : GoodIn wsL_build (wsV RL 24 RX6 yX6_setWater wsX6_setWater) := goodIn_app (goodIn_of _ (by decide +kernel)) ggL_build_X6_setWater
set_option maxRecDepth 20000 in
theorem ggL_build_X6_setTugs : GoodIn wsL_build wsX6_setTugs := goodIn_ca (goodIn_ca (goodIn_r _ [59, 16, 17, 18, 60, 23, 24, 14, 25, 26, 27, 28, 29, 30, 31, 32, 33, 177, 178, 179, 180, 181, 182, 183, 184, 188, 189, 190] (by decide +kernel) (by decide +kernel)) (goodIn_sub (fun _ h => List.mem_cons_of_mem _ (List.mem_append_left _ (List.mem_append_left _ (List.mem_append_right _ h)))) (by decide +kernel))) (goodIn_sub (fun _ h => List.mem_cons_of_mem _ (List.mem_append_left _ (List.mem_append_right _ h))) (by decide +kernel))
set_option maxRecDepth 20000 in
theorem gL_build_X6_setTugs : GoodIn wsL_build (wsV RL 27 RX6 yX6_setTugs wsX6_setTugs) := goodIn_app (goodIn_of _ (by decide +kernel)) ggL_build_X6_setTugs
set_option maxRecDepth 20000 in
theorem ggL_build_X6_addBerth : GoodIn wsL_build wsX6_addBerth := goodIn_ca (goodIn_ca (goodIn_r _ [64, 65, 66, 67, 68, 23, 24, 14, 25, 26, 27, 69, 70, 71, 31, 72, 33, 73, 74, 75, 16, 17, 76, 77, 78, 79, 80, 81, 82, 83, 84, 85, 86, 87, 88, 89, 90, 91, 92, 93, 94, 95, 96, 97, 98, 99, 100, 101, 102, 103, 104, 105, 106, 107, 108, 109, 110, 111, 112, 113, 114, 115, 116, 117, 118, 119, 120, 121, 122, 123, 124, 125, 126, 127, 128, 129, 130, 131, 132, 133, 134, 135, 136, 137, 138, 177, 178, 179, 180, 181, 182, 183, 184, 191, 192, 193, 188, 189, 190] (by decide +kernel) (by decide +kernel)) (goodIn_sub (fun _ h => List.mem_cons_of_mem _ (List.mem_append_left _ (List.mem_append_right _ h))) (by decide +kernel))) (goodIn_sub (fun _ h => List.mem_cons_of_mem _ (List.mem_append_left _ (List.mem_append_left _ (List.mem_append_right _ h)))) (by decide +kernel))
set_option maxRecDepth 20000 in
theorem gL_build_X6_addBerth : GoodIn wsL_build (wsV RL 31 RX6 yX6_addBerth wsX6_addBerth) := goodIn_app (goodIn_of _ (by decide +kernel)) ggL_build_X6_addBerth
set_option maxRecDepth 20000 in
theorem ggL_build_X6_addShip : GoodIn wsL_build wsX6_addShip := goodIn_ca (goodIn_ca (goodIn_r _ [142, 143, 144, 145, 146, 23, 24, 14, 25, 26, 27, 69, 70, 71, 31, 72, 33, 73, 74, 75, 16, 17, 147, 148, 149, 150, 80, 81, 151, 152, 153, 154, 85, 86, 87, 88, 89, 90, 91, 92, 93, 94, 95, 96, 97, 98, 99, 100, 101, 102, 103, 104, 105, 106, 107, 108, 109, 110, 111, 112, 113, 114, 115, 116, 117, 118, 119, 120, 121, 122, 123, 124, 125, 126, 127, 128, 129, 130, 131, 132, 133, 134, 135, 136, 137, 138, 177, 178, 179, 180, 181, 182, 183, 184, 194, 195, 196, 197, 188, 189, 190] (by decide +kernel) (by decide +kernel)) (goodIn_sub (fun _ h => List.mem_cons_of_mem _ (List.mem_append_left _ (List.mem_append_right _ h))) (by decide +kernel))) (goodIn_sub (fun _ h => List.mem_cons_of_mem _ (List.mem_append_left _ (List.mem_append_left _ (List.mem_append_right _ h)))) (by decide +kernel))
set_option maxRecDepth 20000 in
theorem gL_build_X6_addShip : GoodIn wsL_build (wsV RL 34 RX6 yX6_addShip wsX6_addShip) := goodIn_app (goodIn_of _ (by decide +kernel)) ggL_build_X6_addShip
set_option maxRecDepth 20000 in
theorem ggL_build_X6_addPilot : GoodIn wsL_build wsX6_addPilot := goodIn_ca (goodIn_ca (goodIn_r _ [158, 159, 160, 161, 162, 23, 24, 14, 25, 26, 27, 69, 70, 71, 31, 72, 33, 73, 74, 75, 16, 17, 163, 164, 165, 166, 80, 81, 167, 168, 169, 170, 85, 86, 87, 88, 89, 90, 91, 92, 93, 94, 95, 96, 97, 98, 99, 100, 101, 102, 103, 104, 105, 106, 107, 108, 109, 110, 111, 112, 113, 114, 115, 116, 117, 118, 119, 120, 121, 122, 123, 124, 125, 126, 127, 128, 129, 130, 131, 132, 133, 134, 135, 136, 137, 138, 177, 178, 179, 180, 181, 182, 183, 184, 198, 199, 200, 201, 188, 189, 190] (by decide +kernel) (by decide +kernel)) (goodIn_sub (fun _ h => List.mem_cons_of_mem _ (List.mem_append_left _ (List.mem_append_right _ h))) (by decide +kernel))) (goodIn_sub (fun _ h => List.mem_cons_of_mem _ (List.mem_append_left _ (List.mem_append_left _ (List.mem_append_right _ h)))) (by decide +kernel))
set_option maxRecDepth 20000 in
theorem gL_build_X6_addPilot : GoodIn wsL_build (wsV RL 37 RX6 yX6_addPilot wsX6_addPilot) := goodIn_app (goodIn_of _ (by decide +kernel)) ggL_build_X6_addPilot
set_option maxRecDepth 20000 in
theorem ggL_build_X6_count : GoodIn wsL_build wsX6_count := goodIn_ca (goodIn_r _ [174, 175, 176, 19, 65, 143, 159, 18, 69, 70, 71, 31, 72, 33, 177, 178, 179, 180, 181, 182, 183, 184, 185, 186, 187, 188, 189, 190] (by decide +kernel) (by decide +kernel)) (goodIn_sub (fun _ h => List.mem_cons_of_mem _ (List.mem_append_right _ h)) (by decide +kernel))
set_option maxRecDepth 20000 in
theorem gL_build_X6_count : GoodIn wsL_build (wsV RL 41 RX6 yX6_count wsX6_count) := goodIn_app (goodIn_of _ (by decide +kernel)) ggL_build_X6_count
theorem dL_build_0 : decode cL_build 0 = .ok (.bipush 7, 2) := by decide +kernel
theorem dL_build_2 : decode cL_build 2 = .ok (.newarray .int, 2) := by decide +kernel
theorem dL_build_4 : decode cL_build 4 = .ok (.dup, 1) := by decide +kernel
theorem dL_build_5 : decode cL_build 5 = .ok (.iconst 0, 1) := by decide +kernel
theorem dL_build_6 : decode cL_build 6 = .ok (.aload_n 1, 1) := by decide +kernel
theorem dL_build_7 : decode cL_build 7 = .ok (.iload_n 2, 1) := by decide +kernel
theorem dL_build_8 : decode cL_build 8 = .ok (.invokestatic 9, 3) := by decide +kernel
theorem dL_build_11 : decode cL_build 11 = .ok (.bipush 9, 2) := by decide +kernel
theorem dL_build_13 : decode cL_build 13 = .ok (.invokestatic 15, 3) := by decide +kernel
theorem dL_build_16 : decode cL_build 16 = .ok (.iastore, 1) := by decide +kernel
theorem dL_build_17 : decode cL_build 17 = .ok (.dup, 1) := by decide +kernel
theorem dL_build_18 : decode cL_build 18 = .ok (.iconst 1, 1) := by decide +kernel
theorem dL_build_19 : decode cL_build 19 = .ok (.iconst 1, 1) := by decide +kernel
theorem dL_build_20 : decode cL_build 20 = .ok (.aload_n 1, 1) := by decide +kernel
theorem dL_build_21 : decode cL_build 21 = .ok (.iload_n 2, 1) := by decide +kernel
theorem dL_build_22 : decode cL_build 22 = .ok (.invokestatic 9, 3) := by decide +kernel
theorem dL_build_25 : decode cL_build 25 = .ok (.iconst 4, 1) := by decide +kernel
theorem dL_build_26 : decode cL_build 26 = .ok (.ishr, 1) := by decide +kernel
theorem dL_build_27 : decode cL_build 27 = .ok (.iconst 3, 1) := by decide +kernel
theorem dL_build_28 : decode cL_build 28 = .ok (.invokestatic 15, 3) := by decide +kernel
theorem dL_build_31 : decode cL_build 31 = .ok (.iadd, 1) := by decide +kernel
theorem dL_build_32 : decode cL_build 32 = .ok (.iastore, 1) := by decide +kernel
theorem dL_build_33 : decode cL_build 33 = .ok (.dup, 1) := by decide +kernel
theorem dL_build_34 : decode cL_build 34 = .ok (.iconst 2, 1) := by decide +kernel
theorem dL_build_35 : decode cL_build 35 = .ok (.iconst 1, 1) := by decide +kernel
theorem dL_build_36 : decode cL_build 36 = .ok (.aload_n 1, 1) := by decide +kernel
theorem dL_build_37 : decode cL_build 37 = .ok (.iload_n 2, 1) := by decide +kernel
theorem dL_build_38 : decode cL_build 38 = .ok (.invokestatic 9, 3) := by decide +kernel
theorem dL_build_41 : decode cL_build 41 = .ok (.bipush 6, 2) := by decide +kernel
theorem dL_build_43 : decode cL_build 43 = .ok (.ishr, 1) := by decide +kernel
theorem dL_build_44 : decode cL_build 44 = .ok (.bipush 6, 2) := by decide +kernel
theorem dL_build_46 : decode cL_build 46 = .ok (.invokestatic 15, 3) := by decide +kernel
theorem dL_build_49 : decode cL_build 49 = .ok (.iadd, 1) := by decide +kernel
theorem dL_build_50 : decode cL_build 50 = .ok (.iastore, 1) := by decide +kernel
theorem dL_build_51 : decode cL_build 51 = .ok (.dup, 1) := by decide +kernel
theorem dL_build_52 : decode cL_build 52 = .ok (.iconst 3, 1) := by decide +kernel
theorem dL_build_53 : decode cL_build 53 = .ok (.iconst 1, 1) := by decide +kernel
theorem dL_build_54 : decode cL_build 54 = .ok (.aload_n 1, 1) := by decide +kernel
theorem dL_build_55 : decode cL_build 55 = .ok (.iload_n 2, 1) := by decide +kernel
theorem dL_build_56 : decode cL_build 56 = .ok (.invokestatic 9, 3) := by decide +kernel
theorem dL_build_59 : decode cL_build 59 = .ok (.bipush 9, 2) := by decide +kernel
theorem dL_build_61 : decode cL_build 61 = .ok (.ishr, 1) := by decide +kernel
theorem dL_build_62 : decode cL_build 62 = .ok (.iconst 3, 1) := by decide +kernel
theorem dL_build_63 : decode cL_build 63 = .ok (.invokestatic 15, 3) := by decide +kernel
theorem dL_build_66 : decode cL_build 66 = .ok (.iadd, 1) := by decide +kernel
theorem dL_build_67 : decode cL_build 67 = .ok (.iastore, 1) := by decide +kernel
theorem dL_build_68 : decode cL_build 68 = .ok (.dup, 1) := by decide +kernel
theorem dL_build_69 : decode cL_build 69 = .ok (.iconst 4, 1) := by decide +kernel
theorem dL_build_70 : decode cL_build 70 = .ok (.aload_n 1, 1) := by decide +kernel
theorem dL_build_71 : decode cL_build 71 = .ok (.iload_n 2, 1) := by decide +kernel
theorem dL_build_72 : decode cL_build 72 = .ok (.invokestatic 9, 3) := by decide +kernel
theorem dL_build_75 : decode cL_build 75 = .ok (.bipush 11, 2) := by decide +kernel
theorem dL_build_77 : decode cL_build 77 = .ok (.ishr, 1) := by decide +kernel
theorem dL_build_78 : decode cL_build 78 = .ok (.bipush 6, 2) := by decide +kernel
theorem dL_build_80 : decode cL_build 80 = .ok (.invokestatic 15, 3) := by decide +kernel
theorem dL_build_83 : decode cL_build 83 = .ok (.iastore, 1) := by decide +kernel
theorem dL_build_84 : decode cL_build 84 = .ok (.dup, 1) := by decide +kernel
theorem dL_build_85 : decode cL_build 85 = .ok (.iconst 5, 1) := by decide +kernel
theorem dL_build_86 : decode cL_build 86 = .ok (.sipush 700, 3) := by decide +kernel
theorem dL_build_89 : decode cL_build 89 = .ok (.aload_n 1, 1) := by decide +kernel
theorem dL_build_90 : decode cL_build 90 = .ok (.iload_n 2, 1) := by decide +kernel
theorem dL_build_91 : decode cL_build 91 = .ok (.iconst 1, 1) := by decide +kernel
theorem dL_build_92 : decode cL_build 92 = .ok (.iadd, 1) := by decide +kernel
theorem dL_build_93 : decode cL_build 93 = .ok (.invokestatic 9, 3) := by decide +kernel
theorem dL_build_96 : decode cL_build 96 = .ok (.sipush 500, 3) := by decide +kernel
theorem dL_build_99 : decode cL_build 99 = .ok (.invokestatic 15, 3) := by decide +kernel
theorem dL_build_102 : decode cL_build 102 = .ok (.iadd, 1) := by decide +kernel
theorem dL_build_103 : decode cL_build 103 = .ok (.iastore, 1) := by decide +kernel
theorem dL_build_104 : decode cL_build 104 = .ok (.dup, 1) := by decide +kernel
theorem dL_build_105 : decode cL_build 105 = .ok (.bipush 6, 2) := by decide +kernel
theorem dL_build_107 : decode cL_build 107 = .ok (.aload_n 1, 1) := by decide +kernel
theorem dL_build_108 : decode cL_build 108 = .ok (.iload_n 2, 1) := by decide +kernel
theorem dL_build_109 : decode cL_build 109 = .ok (.iconst 1, 1) := by decide +kernel
theorem dL_build_110 : decode cL_build 110 = .ok (.iadd, 1) := by decide +kernel
theorem dL_build_111 : decode cL_build 111 = .ok (.invokestatic 9, 3) := by decide +kernel
theorem dL_build_114 : decode cL_build 114 = .ok (.iconst 5, 1) := by decide +kernel
theorem dL_build_115 : decode cL_build 115 = .ok (.ishr, 1) := by decide +kernel
theorem dL_build_116 : decode cL_build 116 = .ok (.bipush 100, 2) := by decide +kernel
theorem dL_build_118 : decode cL_build 118 = .ok (.invokestatic 15, 3) := by decide +kernel
theorem dL_build_121 : decode cL_build 121 = .ok (.iastore, 1) := by decide +kernel
theorem dL_build_122 : decode cL_build 122 = .ok (.astore 7, 2) := by decide +kernel
theorem dL_build_124 : decode cL_build 124 = .ok (.iconst 0, 1) := by decide +kernel
theorem dL_build_125 : decode cL_build 125 = .ok (.istore 8, 2) := by decide +kernel
theorem dL_build_127 : decode cL_build 127 = .ok (.iload 8, 2) := by decide +kernel
theorem dL_build_129 : decode cL_build 129 = .ok (.aload 7, 2) := by decide +kernel
theorem dL_build_131 : decode cL_build 131 = .ok (.iconst 0, 1) := by decide +kernel
theorem dL_build_132 : decode cL_build 132 = .ok (.iaload, 1) := by decide +kernel
theorem dL_build_133 : decode cL_build 133 = .ok (.if_icmp .ge 74, 3) := by decide +kernel
theorem dL_build_136 : decode cL_build 136 = .ok (.aload_n 1, 1) := by decide +kernel
theorem dL_build_137 : decode cL_build 137 = .ok (.iload_n 2, 1) := by decide +kernel
theorem dL_build_138 : decode cL_build 138 = .ok (.iconst 2, 1) := by decide +kernel
theorem dL_build_139 : decode cL_build 139 = .ok (.iadd, 1) := by decide +kernel
theorem dL_build_140 : decode cL_build 140 = .ok (.iload 8, 2) := by decide +kernel
theorem dL_build_142 : decode cL_build 142 = .ok (.iconst 3, 1) := by decide +kernel
theorem dL_build_143 : decode cL_build 143 = .ok (.irem, 1) := by decide +kernel
theorem dL_build_144 : decode cL_build 144 = .ok (.iadd, 1) := by decide +kernel
theorem dL_build_145 : decode cL_build 145 = .ok (.invokestatic 9, 3) := by decide +kernel
theorem dL_build_148 : decode cL_build 148 = .ok (.iload 8, 2) := by decide +kernel
theorem dL_build_150 : decode cL_build 150 = .ok (.iconst 3, 1) := by decide +kernel
theorem dL_build_151 : decode cL_build 151 = .ok (.idiv, 1) := by decide +kernel
theorem dL_build_152 : decode cL_build 152 = .ok (.bipush 8, 2) := by decide +kernel
theorem dL_build_154 : decode cL_build 154 = .ok (.imul, 1) := by decide +kernel
theorem dL_build_155 : decode cL_build 155 = .ok (.ishr, 1) := by decide +kernel
theorem dL_build_156 : decode cL_build 156 = .ok (.istore 9, 2) := by decide +kernel
theorem dL_build_158 : decode cL_build 158 = .ok (.aload_n 3, 1) := by decide +kernel
theorem dL_build_159 : decode cL_build 159 = .ok (.iconst 2, 1) := by decide +kernel
theorem dL_build_160 : decode cL_build 160 = .ok (.iload 8, 2) := by decide +kernel
theorem dL_build_162 : decode cL_build 162 = .ok (.imul, 1) := by decide +kernel
theorem dL_build_163 : decode cL_build 163 = .ok (.sipush 300, 3) := by decide +kernel
theorem dL_build_166 : decode cL_build 166 = .ok (.iload 8, 2) := by decide +kernel
theorem dL_build_168 : decode cL_build 168 = .ok (.imul, 1) := by decide +kernel
theorem dL_build_169 : decode cL_build 169 = .ok (.iload 9, 2) := by decide +kernel
theorem dL_build_171 : decode cL_build 171 = .ok (.sipush 250, 3) := by decide +kernel
theorem dL_build_174 : decode cL_build 174 = .ok (.invokestatic 15, 3) := by decide +kernel
theorem dL_build_177 : decode cL_build 177 = .ok (.iadd, 1) := by decide +kernel
theorem dL_build_178 : decode cL_build 178 = .ok (.iastore, 1) := by decide +kernel
theorem dL_build_179 : decode cL_build 179 = .ok (.aload_n 3, 1) := by decide +kernel
theorem dL_build_180 : decode cL_build 180 = .ok (.iconst 2, 1) := by decide +kernel
theorem dL_build_181 : decode cL_build 181 = .ok (.iload 8, 2) := by decide +kernel
theorem dL_build_183 : decode cL_build 183 = .ok (.imul, 1) := by decide +kernel
theorem dL_build_184 : decode cL_build 184 = .ok (.iconst 1, 1) := by decide +kernel
theorem dL_build_185 : decode cL_build 185 = .ok (.iadd, 1) := by decide +kernel
theorem dL_build_186 : decode cL_build 186 = .ok (.iload 9, 2) := by decide +kernel
theorem dL_build_188 : decode cL_build 188 = .ok (.iconst 3, 1) := by decide +kernel
theorem dL_build_189 : decode cL_build 189 = .ok (.ishr, 1) := by decide +kernel
theorem dL_build_190 : decode cL_build 190 = .ok (.sipush 700, 3) := by decide +kernel
theorem dL_build_193 : decode cL_build 193 = .ok (.invokestatic 15, 3) := by decide +kernel
theorem dL_build_196 : decode cL_build 196 = .ok (.sipush 200, 3) := by decide +kernel
theorem dL_build_199 : decode cL_build 199 = .ok (.isub, 1) := by decide +kernel
theorem dL_build_200 : decode cL_build 200 = .ok (.iastore, 1) := by decide +kernel
theorem dL_build_201 : decode cL_build 201 = .ok (.iinc 8 1, 3) := by decide +kernel
theorem dL_build_204 : decode cL_build 204 = .ok (.goto (-77), 3) := by decide +kernel
theorem dL_build_207 : decode cL_build 207 = .ok (.aload 7, 2) := by decide +kernel
theorem dL_build_209 : decode cL_build 209 = .ok (.iconst 0, 1) := by decide +kernel
theorem dL_build_210 : decode cL_build 210 = .ok (.iaload, 1) := by decide +kernel
theorem dL_build_211 : decode cL_build 211 = .ok (.iconst 1, 1) := by decide +kernel
theorem dL_build_212 : decode cL_build 212 = .ok (.isub, 1) := by decide +kernel
theorem dL_build_213 : decode cL_build 213 = .ok (.istore 8, 2) := by decide +kernel
theorem dL_build_215 : decode cL_build 215 = .ok (.iload 8, 2) := by decide +kernel
theorem dL_build_217 : decode cL_build 217 = .ok (.ifCond .lt 39, 3) := by decide +kernel
theorem dL_build_220 : decode cL_build 220 = .ok (.aload_n 0, 1) := by decide +kernel
theorem dL_build_221 : decode cL_build 221 = .ok (.aload_n 3, 1) := by decide +kernel
theorem dL_build_222 : decode cL_build 222 = .ok (.iconst 2, 1) := by decide +kernel
theorem dL_build_223 : decode cL_build 223 = .ok (.iload 8, 2) := by decide +kernel
theorem dL_build_225 : decode cL_build 225 = .ok (.imul, 1) := by decide +kernel
theorem dL_build_226 : decode cL_build 226 = .ok (.iaload, 1) := by decide +kernel
theorem dL_build_227 : decode cL_build 227 = .ok (.aload_n 3, 1) := by decide +kernel
theorem dL_build_228 : decode cL_build 228 = .ok (.iconst 2, 1) := by decide +kernel
theorem dL_build_229 : decode cL_build 229 = .ok (.iload 8, 2) := by decide +kernel
theorem dL_build_231 : decode cL_build 231 = .ok (.imul, 1) := by decide +kernel
theorem dL_build_232 : decode cL_build 232 = .ok (.iconst 1, 1) := by decide +kernel
theorem dL_build_233 : decode cL_build 233 = .ok (.iadd, 1) := by decide +kernel
theorem dL_build_234 : decode cL_build 234 = .ok (.iaload, 1) := by decide +kernel
theorem dL_build_235 : decode cL_build 235 = .ok (.invokevirtual 19, 3) := by decide +kernel
theorem dL_build_238 : decode cL_build 238 = .ok (.aload 7, 2) := by decide +kernel
theorem dL_build_240 : decode cL_build 240 = .ok (.iconst 0, 1) := by decide +kernel
theorem dL_build_241 : decode cL_build 241 = .ok (.iaload, 1) := by decide +kernel
theorem dL_build_242 : decode cL_build 242 = .ok (.iload 8, 2) := by decide +kernel
theorem dL_build_244 : decode cL_build 244 = .ok (.isub, 1) := by decide +kernel
theorem dL_build_245 : decode cL_build 245 = .ok (.if_icmp .eq 5, 3) := by decide +kernel
theorem dL_build_248 : decode cL_build 248 = .ok (.aconst_null, 1) := by decide +kernel
theorem dL_build_249 : decode cL_build 249 = .ok (.areturn, 1) := by decide +kernel
theorem dL_build_250 : decode cL_build 250 = .ok (.iinc 8 (-1), 3) := by decide +kernel
theorem dL_build_253 : decode cL_build 253 = .ok (.goto (-38), 3) := by decide +kernel
theorem dL_build_256 : decode cL_build 256 = .ok (.aload_n 0, 1) := by decide +kernel
theorem dL_build_257 : decode cL_build 257 = .ok (.aload 7, 2) := by decide +kernel
theorem dL_build_259 : decode cL_build 259 = .ok (.iconst 5, 1) := by decide +kernel
theorem dL_build_260 : decode cL_build 260 = .ok (.iaload, 1) := by decide +kernel
theorem dL_build_261 : decode cL_build 261 = .ok (.aload 7, 2) := by decide +kernel
theorem dL_build_263 : decode cL_build 263 = .ok (.bipush 6, 2) := by decide +kernel
theorem dL_build_265 : decode cL_build 265 = .ok (.iaload, 1) := by decide +kernel
theorem dL_build_266 : decode cL_build 266 = .ok (.invokevirtual 24, 3) := by decide +kernel
theorem dL_build_269 : decode cL_build 269 = .ok (.sipush 1000, 3) := by decide +kernel
theorem dL_build_272 : decode cL_build 272 = .ok (.if_icmp .ne 15, 3) := by decide +kernel
theorem dL_build_275 : decode cL_build 275 = .ok (.aload_n 0, 1) := by decide +kernel
theorem dL_build_276 : decode cL_build 276 = .ok (.aload 7, 2) := by decide +kernel
theorem dL_build_278 : decode cL_build 278 = .ok (.iconst 4, 1) := by decide +kernel
theorem dL_build_279 : decode cL_build 279 = .ok (.iaload, 1) := by decide +kernel
theorem dL_build_280 : decode cL_build 280 = .ok (.invokevirtual 27, 3) := by decide +kernel
theorem dL_build_283 : decode cL_build 283 = .ok (.iconst 4, 1) := by decide +kernel
theorem dL_build_284 : decode cL_build 284 = .ok (.if_icmp .eq 5, 3) := by decide +kernel
theorem dL_build_287 : decode cL_build 287 = .ok (.aconst_null, 1) := by decide +kernel
theorem dL_build_288 : decode cL_build 288 = .ok (.areturn, 1) := by decide +kernel
theorem dL_build_289 : decode cL_build 289 = .ok (.iconst 0, 1) := by decide +kernel
theorem dL_build_290 : decode cL_build 290 = .ok (.istore 8, 2) := by decide +kernel
theorem dL_build_292 : decode cL_build 292 = .ok (.iload 8, 2) := by decide +kernel
theorem dL_build_294 : decode cL_build 294 = .ok (.aload 7, 2) := by decide +kernel
theorem dL_build_296 : decode cL_build 296 = .ok (.iconst 1, 1) := by decide +kernel
theorem dL_build_297 : decode cL_build 297 = .ok (.iaload, 1) := by decide +kernel
theorem dL_build_298 : decode cL_build 298 = .ok (.if_icmp .ge 95, 3) := by decide +kernel
theorem dL_build_301 : decode cL_build 301 = .ok (.aload 4, 2) := by decide +kernel
theorem dL_build_303 : decode cL_build 303 = .ok (.iconst 2, 1) := by decide +kernel
theorem dL_build_304 : decode cL_build 304 = .ok (.iload 8, 2) := by decide +kernel
theorem dL_build_306 : decode cL_build 306 = .ok (.imul, 1) := by decide +kernel
theorem dL_build_307 : decode cL_build 307 = .ok (.bipush 80, 2) := by decide +kernel
theorem dL_build_309 : decode cL_build 309 = .ok (.aload_n 1, 1) := by decide +kernel
theorem dL_build_310 : decode cL_build 310 = .ok (.iload_n 2, 1) := by decide +kernel
theorem dL_build_311 : decode cL_build 311 = .ok (.iconst 5, 1) := by decide +kernel
theorem dL_build_312 : decode cL_build 312 = .ok (.iadd, 1) := by decide +kernel
theorem dL_build_313 : decode cL_build 313 = .ok (.invokestatic 9, 3) := by decide +kernel
theorem dL_build_316 : decode cL_build 316 = .ok (.iconst 3, 1) := by decide +kernel
theorem dL_build_317 : decode cL_build 317 = .ok (.iload 8, 2) := by decide +kernel
theorem dL_build_319 : decode cL_build 319 = .ok (.imul, 1) := by decide +kernel
theorem dL_build_320 : decode cL_build 320 = .ok (.ishr, 1) := by decide +kernel
theorem dL_build_321 : decode cL_build 321 = .ok (.sipush 200, 3) := by decide +kernel
theorem dL_build_324 : decode cL_build 324 = .ok (.invokestatic 15, 3) := by decide +kernel
theorem dL_build_327 : decode cL_build 327 = .ok (.iadd, 1) := by decide +kernel
theorem dL_build_328 : decode cL_build 328 = .ok (.iastore, 1) := by decide +kernel
theorem dL_build_329 : decode cL_build 329 = .ok (.aload 4, 2) := by decide +kernel
theorem dL_build_331 : decode cL_build 331 = .ok (.iconst 2, 1) := by decide +kernel
theorem dL_build_332 : decode cL_build 332 = .ok (.iload 8, 2) := by decide +kernel
theorem dL_build_334 : decode cL_build 334 = .ok (.imul, 1) := by decide +kernel
theorem dL_build_335 : decode cL_build 335 = .ok (.iconst 1, 1) := by decide +kernel
theorem dL_build_336 : decode cL_build 336 = .ok (.iadd, 1) := by decide +kernel
theorem dL_build_337 : decode cL_build 337 = .ok (.sipush 600, 3) := by decide +kernel
theorem dL_build_340 : decode cL_build 340 = .ok (.aload_n 1, 1) := by decide +kernel
theorem dL_build_341 : decode cL_build 341 = .ok (.iload_n 2, 1) := by decide +kernel
theorem dL_build_342 : decode cL_build 342 = .ok (.iconst 5, 1) := by decide +kernel
theorem dL_build_343 : decode cL_build 343 = .ok (.iadd, 1) := by decide +kernel
theorem dL_build_344 : decode cL_build 344 = .ok (.invokestatic 9, 3) := by decide +kernel
theorem dL_build_347 : decode cL_build 347 = .ok (.iconst 4, 1) := by decide +kernel
theorem dL_build_348 : decode cL_build 348 = .ok (.iload 8, 2) := by decide +kernel
theorem dL_build_350 : decode cL_build 350 = .ok (.imul, 1) := by decide +kernel
theorem dL_build_351 : decode cL_build 351 = .ok (.ishr, 1) := by decide +kernel
theorem dL_build_352 : decode cL_build 352 = .ok (.sipush 700, 3) := by decide +kernel
theorem dL_build_355 : decode cL_build 355 = .ok (.invokestatic 15, 3) := by decide +kernel
theorem dL_build_358 : decode cL_build 358 = .ok (.iadd, 1) := by decide +kernel
theorem dL_build_359 : decode cL_build 359 = .ok (.iastore, 1) := by decide +kernel
theorem dL_build_360 : decode cL_build 360 = .ok (.aload_n 0, 1) := by decide +kernel
theorem dL_build_361 : decode cL_build 361 = .ok (.aload 4, 2) := by decide +kernel
theorem dL_build_363 : decode cL_build 363 = .ok (.iconst 2, 1) := by decide +kernel
theorem dL_build_364 : decode cL_build 364 = .ok (.iload 8, 2) := by decide +kernel
theorem dL_build_366 : decode cL_build 366 = .ok (.imul, 1) := by decide +kernel
theorem dL_build_367 : decode cL_build 367 = .ok (.iaload, 1) := by decide +kernel
theorem dL_build_368 : decode cL_build 368 = .ok (.aload 4, 2) := by decide +kernel
theorem dL_build_370 : decode cL_build 370 = .ok (.iconst 2, 1) := by decide +kernel
theorem dL_build_371 : decode cL_build 371 = .ok (.iload 8, 2) := by decide +kernel
theorem dL_build_373 : decode cL_build 373 = .ok (.imul, 1) := by decide +kernel
theorem dL_build_374 : decode cL_build 374 = .ok (.iconst 1, 1) := by decide +kernel
theorem dL_build_375 : decode cL_build 375 = .ok (.iadd, 1) := by decide +kernel
theorem dL_build_376 : decode cL_build 376 = .ok (.iaload, 1) := by decide +kernel
theorem dL_build_377 : decode cL_build 377 = .ok (.invokevirtual 31, 3) := by decide +kernel
theorem dL_build_380 : decode cL_build 380 = .ok (.iload 8, 2) := by decide +kernel
theorem dL_build_382 : decode cL_build 382 = .ok (.if_icmp .eq 5, 3) := by decide +kernel
theorem dL_build_385 : decode cL_build 385 = .ok (.aconst_null, 1) := by decide +kernel
theorem dL_build_386 : decode cL_build 386 = .ok (.areturn, 1) := by decide +kernel
theorem dL_build_387 : decode cL_build 387 = .ok (.iinc 8 1, 3) := by decide +kernel
theorem dL_build_390 : decode cL_build 390 = .ok (.goto (-98), 3) := by decide +kernel
theorem dL_build_393 : decode cL_build 393 = .ok (.iconst 0, 1) := by decide +kernel
theorem dL_build_394 : decode cL_build 394 = .ok (.istore 8, 2) := by decide +kernel
theorem dL_build_396 : decode cL_build 396 = .ok (.iload 8, 2) := by decide +kernel
theorem dL_build_398 : decode cL_build 398 = .ok (.aload 7, 2) := by decide +kernel
theorem dL_build_400 : decode cL_build 400 = .ok (.iconst 2, 1) := by decide +kernel
theorem dL_build_401 : decode cL_build 401 = .ok (.iaload, 1) := by decide +kernel
theorem dL_build_402 : decode cL_build 402 = .ok (.if_icmp .ge 97, 3) := by decide +kernel
theorem dL_build_405 : decode cL_build 405 = .ok (.aload 5, 2) := by decide +kernel
theorem dL_build_407 : decode cL_build 407 = .ok (.iconst 2, 1) := by decide +kernel
theorem dL_build_408 : decode cL_build 408 = .ok (.iload 8, 2) := by decide +kernel
theorem dL_build_410 : decode cL_build 410 = .ok (.imul, 1) := by decide +kernel
theorem dL_build_411 : decode cL_build 411 = .ok (.bipush 40, 2) := by decide +kernel
theorem dL_build_413 : decode cL_build 413 = .ok (.aload_n 1, 1) := by decide +kernel
theorem dL_build_414 : decode cL_build 414 = .ok (.iload_n 2, 1) := by decide +kernel
theorem dL_build_415 : decode cL_build 415 = .ok (.bipush 6, 2) := by decide +kernel
theorem dL_build_417 : decode cL_build 417 = .ok (.iadd, 1) := by decide +kernel
theorem dL_build_418 : decode cL_build 418 = .ok (.invokestatic 9, 3) := by decide +kernel
theorem dL_build_421 : decode cL_build 421 = .ok (.iconst 4, 1) := by decide +kernel
theorem dL_build_422 : decode cL_build 422 = .ok (.iload 8, 2) := by decide +kernel
theorem dL_build_424 : decode cL_build 424 = .ok (.imul, 1) := by decide +kernel
theorem dL_build_425 : decode cL_build 425 = .ok (.ishr, 1) := by decide +kernel
theorem dL_build_426 : decode cL_build 426 = .ok (.sipush 220, 3) := by decide +kernel
theorem dL_build_429 : decode cL_build 429 = .ok (.invokestatic 15, 3) := by decide +kernel
theorem dL_build_432 : decode cL_build 432 = .ok (.iadd, 1) := by decide +kernel
theorem dL_build_433 : decode cL_build 433 = .ok (.iastore, 1) := by decide +kernel
theorem dL_build_434 : decode cL_build 434 = .ok (.aload 5, 2) := by decide +kernel
theorem dL_build_436 : decode cL_build 436 = .ok (.iconst 2, 1) := by decide +kernel
theorem dL_build_437 : decode cL_build 437 = .ok (.iload 8, 2) := by decide +kernel
theorem dL_build_439 : decode cL_build 439 = .ok (.imul, 1) := by decide +kernel
theorem dL_build_440 : decode cL_build 440 = .ok (.iconst 1, 1) := by decide +kernel
theorem dL_build_441 : decode cL_build 441 = .ok (.iadd, 1) := by decide +kernel
theorem dL_build_442 : decode cL_build 442 = .ok (.sipush 300, 3) := by decide +kernel
theorem dL_build_445 : decode cL_build 445 = .ok (.aload_n 1, 1) := by decide +kernel
theorem dL_build_446 : decode cL_build 446 = .ok (.iload_n 2, 1) := by decide +kernel
theorem dL_build_447 : decode cL_build 447 = .ok (.bipush 7, 2) := by decide +kernel
theorem dL_build_449 : decode cL_build 449 = .ok (.iadd, 1) := by decide +kernel
theorem dL_build_450 : decode cL_build 450 = .ok (.invokestatic 9, 3) := by decide +kernel
theorem dL_build_453 : decode cL_build 453 = .ok (.iconst 4, 1) := by decide +kernel
theorem dL_build_454 : decode cL_build 454 = .ok (.iload 8, 2) := by decide +kernel
theorem dL_build_456 : decode cL_build 456 = .ok (.imul, 1) := by decide +kernel
theorem dL_build_457 : decode cL_build 457 = .ok (.ishr, 1) := by decide +kernel
theorem dL_build_458 : decode cL_build 458 = .ok (.sipush 600, 3) := by decide +kernel
theorem dL_build_461 : decode cL_build 461 = .ok (.invokestatic 15, 3) := by decide +kernel
theorem dL_build_464 : decode cL_build 464 = .ok (.iadd, 1) := by decide +kernel
theorem dL_build_465 : decode cL_build 465 = .ok (.iastore, 1) := by decide +kernel
theorem dL_build_466 : decode cL_build 466 = .ok (.aload_n 0, 1) := by decide +kernel
theorem dL_build_467 : decode cL_build 467 = .ok (.aload 5, 2) := by decide +kernel
theorem dL_build_469 : decode cL_build 469 = .ok (.iconst 2, 1) := by decide +kernel
theorem dL_build_470 : decode cL_build 470 = .ok (.iload 8, 2) := by decide +kernel
theorem dL_build_472 : decode cL_build 472 = .ok (.imul, 1) := by decide +kernel
theorem dL_build_473 : decode cL_build 473 = .ok (.iaload, 1) := by decide +kernel
theorem dL_build_474 : decode cL_build 474 = .ok (.aload 5, 2) := by decide +kernel
theorem dL_build_476 : decode cL_build 476 = .ok (.iconst 2, 1) := by decide +kernel
theorem dL_build_477 : decode cL_build 477 = .ok (.iload 8, 2) := by decide +kernel
theorem dL_build_479 : decode cL_build 479 = .ok (.imul, 1) := by decide +kernel
theorem dL_build_480 : decode cL_build 480 = .ok (.iconst 1, 1) := by decide +kernel
theorem dL_build_481 : decode cL_build 481 = .ok (.iadd, 1) := by decide +kernel
theorem dL_build_482 : decode cL_build 482 = .ok (.iaload, 1) := by decide +kernel
theorem dL_build_483 : decode cL_build 483 = .ok (.invokevirtual 34, 3) := by decide +kernel
theorem dL_build_486 : decode cL_build 486 = .ok (.iload 8, 2) := by decide +kernel
theorem dL_build_488 : decode cL_build 488 = .ok (.if_icmp .eq 5, 3) := by decide +kernel
theorem dL_build_491 : decode cL_build 491 = .ok (.aconst_null, 1) := by decide +kernel
end
section
theorem dL_build_492 : decode cL_build 492 = .ok (.areturn, 1) := by decide +kernel
theorem dL_build_493 : decode cL_build 493 = .ok (.iinc 8 1, 3) := by decide +kernel
theorem dL_build_496 : decode cL_build 496 = .ok (.goto (-100), 3) := by decide +kernel
theorem dL_build_499 : decode cL_build 499 = .ok (.iconst 0, 1) := by decide +kernel
theorem dL_build_500 : decode cL_build 500 = .ok (.istore 8, 2) := by decide +kernel
theorem dL_build_502 : decode cL_build 502 = .ok (.iload 8, 2) := by decide +kernel
theorem dL_build_504 : decode cL_build 504 = .ok (.aload 7, 2) := by decide +kernel
theorem dL_build_506 : decode cL_build 506 = .ok (.iconst 3, 1) := by decide +kernel
theorem dL_build_507 : decode cL_build 507 = .ok (.iaload, 1) := by decide +kernel
theorem dL_build_508 : decode cL_build 508 = .ok (.if_icmp .ge 100, 3) := by decide +kernel
theorem dL_build_511 : decode cL_build 511 = .ok (.aload 6, 2) := by decide +kernel
theorem dL_build_513 : decode cL_build 513 = .ok (.iconst 2, 1) := by decide +kernel
theorem dL_build_514 : decode cL_build 514 = .ok (.iload 8, 2) := by decide +kernel
theorem dL_build_516 : decode cL_build 516 = .ok (.imul, 1) := by decide +kernel
theorem dL_build_517 : decode cL_build 517 = .ok (.bipush 100, 2) := by decide +kernel
theorem dL_build_519 : decode cL_build 519 = .ok (.aload_n 1, 1) := by decide +kernel
theorem dL_build_520 : decode cL_build 520 = .ok (.iload_n 2, 1) := by decide +kernel
theorem dL_build_521 : decode cL_build 521 = .ok (.bipush 8, 2) := by decide +kernel
theorem dL_build_523 : decode cL_build 523 = .ok (.iadd, 1) := by decide +kernel
theorem dL_build_524 : decode cL_build 524 = .ok (.invokestatic 9, 3) := by decide +kernel
theorem dL_build_527 : decode cL_build 527 = .ok (.iconst 5, 1) := by decide +kernel
theorem dL_build_528 : decode cL_build 528 = .ok (.iload 8, 2) := by decide +kernel
theorem dL_build_530 : decode cL_build 530 = .ok (.imul, 1) := by decide +kernel
theorem dL_build_531 : decode cL_build 531 = .ok (.ishr, 1) := by decide +kernel
theorem dL_build_532 : decode cL_build 532 = .ok (.sipush 250, 3) := by decide +kernel
theorem dL_build_535 : decode cL_build 535 = .ok (.invokestatic 15, 3) := by decide +kernel
theorem dL_build_538 : decode cL_build 538 = .ok (.iadd, 1) := by decide +kernel
theorem dL_build_539 : decode cL_build 539 = .ok (.iastore, 1) := by decide +kernel
theorem dL_build_540 : decode cL_build 540 = .ok (.aload 6, 2) := by decide +kernel
theorem dL_build_542 : decode cL_build 542 = .ok (.iconst 2, 1) := by decide +kernel
theorem dL_build_543 : decode cL_build 543 = .ok (.iload 8, 2) := by decide +kernel
theorem dL_build_545 : decode cL_build 545 = .ok (.imul, 1) := by decide +kernel
theorem dL_build_546 : decode cL_build 546 = .ok (.iconst 1, 1) := by decide +kernel
theorem dL_build_547 : decode cL_build 547 = .ok (.iadd, 1) := by decide +kernel
theorem dL_build_548 : decode cL_build 548 = .ok (.aload_n 1, 1) := by decide +kernel
theorem dL_build_549 : decode cL_build 549 = .ok (.iload_n 2, 1) := by decide +kernel
theorem dL_build_550 : decode cL_build 550 = .ok (.bipush 8, 2) := by decide +kernel
theorem dL_build_552 : decode cL_build 552 = .ok (.iadd, 1) := by decide +kernel
theorem dL_build_553 : decode cL_build 553 = .ok (.invokestatic 9, 3) := by decide +kernel
theorem dL_build_556 : decode cL_build 556 = .ok (.iconst 3, 1) := by decide +kernel
theorem dL_build_557 : decode cL_build 557 = .ok (.iload 8, 2) := by decide +kernel
theorem dL_build_559 : decode cL_build 559 = .ok (.imul, 1) := by decide +kernel
theorem dL_build_560 : decode cL_build 560 = .ok (.ishr, 1) := by decide +kernel
theorem dL_build_561 : decode cL_build 561 = .ok (.iconst 2, 1) := by decide +kernel
theorem dL_build_562 : decode cL_build 562 = .ok (.invokestatic 15, 3) := by decide +kernel
theorem dL_build_565 : decode cL_build 565 = .ok (.iastore, 1) := by decide +kernel
theorem dL_build_566 : decode cL_build 566 = .ok (.aload_n 0, 1) := by decide +kernel
theorem dL_build_567 : decode cL_build 567 = .ok (.aload 6, 2) := by decide +kernel
theorem dL_build_569 : decode cL_build 569 = .ok (.iconst 2, 1) := by decide +kernel
theorem dL_build_570 : decode cL_build 570 = .ok (.iload 8, 2) := by decide +kernel
theorem dL_build_572 : decode cL_build 572 = .ok (.imul, 1) := by decide +kernel
theorem dL_build_573 : decode cL_build 573 = .ok (.iaload, 1) := by decide +kernel
theorem dL_build_574 : decode cL_build 574 = .ok (.aload 6, 2) := by decide +kernel
theorem dL_build_576 : decode cL_build 576 = .ok (.iconst 2, 1) := by decide +kernel
theorem dL_build_577 : decode cL_build 577 = .ok (.iload 8, 2) := by decide +kernel
theorem dL_build_579 : decode cL_build 579 = .ok (.imul, 1) := by decide +kernel
theorem dL_build_580 : decode cL_build 580 = .ok (.iconst 1, 1) := by decide +kernel
theorem dL_build_581 : decode cL_build 581 = .ok (.iadd, 1) := by decide +kernel
theorem dL_build_582 : decode cL_build 582 = .ok (.iaload, 1) := by decide +kernel
theorem dL_build_583 : decode cL_build 583 = .ok (.iconst 1, 1) := by decide +kernel
theorem dL_build_584 : decode cL_build 584 = .ok (.if_icmp .ne 7, 3) := by decide +kernel
theorem dL_build_587 : decode cL_build 587 = .ok (.iconst 1, 1) := by decide +kernel
theorem dL_build_588 : decode cL_build 588 = .ok (.goto 4, 3) := by decide +kernel
theorem dL_build_591 : decode cL_build 591 = .ok (.iconst 0, 1) := by decide +kernel
theorem dL_build_592 : decode cL_build 592 = .ok (.invokevirtual 37, 3) := by decide +kernel
theorem dL_build_595 : decode cL_build 595 = .ok (.iload 8, 2) := by decide +kernel
theorem dL_build_597 : decode cL_build 597 = .ok (.if_icmp .eq 5, 3) := by decide +kernel
theorem dL_build_600 : decode cL_build 600 = .ok (.aconst_null, 1) := by decide +kernel
theorem dL_build_601 : decode cL_build 601 = .ok (.areturn, 1) := by decide +kernel
theorem dL_build_602 : decode cL_build 602 = .ok (.iinc 8 1, 3) := by decide +kernel
theorem dL_build_605 : decode cL_build 605 = .ok (.goto (-103), 3) := by decide +kernel
theorem dL_build_608 : decode cL_build 608 = .ok (.iconst 0, 1) := by decide +kernel
theorem dL_build_609 : decode cL_build 609 = .ok (.istore 8, 2) := by decide +kernel
theorem dL_build_611 : decode cL_build 611 = .ok (.iload 8, 2) := by decide +kernel
theorem dL_build_613 : decode cL_build 613 = .ok (.iconst 4, 1) := by decide +kernel
theorem dL_build_614 : decode cL_build 614 = .ok (.if_icmp .ge 25, 3) := by decide +kernel
theorem dL_build_617 : decode cL_build 617 = .ok (.aload_n 0, 1) := by decide +kernel
theorem dL_build_618 : decode cL_build 618 = .ok (.iload 8, 2) := by decide +kernel
theorem dL_build_620 : decode cL_build 620 = .ok (.invokevirtual 41, 3) := by decide +kernel
theorem dL_build_623 : decode cL_build 623 = .ok (.aload 7, 2) := by decide +kernel
theorem dL_build_625 : decode cL_build 625 = .ok (.iload 8, 2) := by decide +kernel
theorem dL_build_627 : decode cL_build 627 = .ok (.iaload, 1) := by decide +kernel
theorem dL_build_628 : decode cL_build 628 = .ok (.if_icmp .eq 5, 3) := by decide +kernel
theorem dL_build_631 : decode cL_build 631 = .ok (.aconst_null, 1) := by decide +kernel
theorem dL_build_632 : decode cL_build 632 = .ok (.areturn, 1) := by decide +kernel
theorem dL_build_633 : decode cL_build 633 = .ok (.iinc 8 1, 3) := by decide +kernel
theorem dL_build_636 : decode cL_build 636 = .ok (.goto (-25), 3) := by decide +kernel
theorem dL_build_639 : decode cL_build 639 = .ok (.aload 7, 2) := by decide +kernel
theorem dL_build_641 : decode cL_build 641 = .ok (.areturn, 1) := by decide +kernel
theorem dL_height_0 : decode cL_height 0 = .ok (.aload_n 0, 1) := by decide +kernel
theorem dL_height_1 : decode cL_height 1 = .ok (.iconst 0, 1) := by decide +kernel
theorem dL_height_2 : decode cL_height 2 = .ok (.iaload, 1) := by decide +kernel
theorem dL_height_3 : decode cL_height 3 = .ok (.ifCond .ne 5, 3) := by decide +kernel
theorem dL_height_6 : decode cL_height 6 = .ok (.iconst 0, 1) := by decide +kernel
theorem dL_height_7 : decode cL_height 7 = .ok (.ireturn, 1) := by decide +kernel
theorem dL_height_8 : decode cL_height 8 = .ok (.iload_n 2, 1) := by decide +kernel
theorem dL_height_9 : decode cL_height 9 = .ok (.aload_n 1, 1) := by decide +kernel
theorem dL_height_10 : decode cL_height 10 = .ok (.iconst 0, 1) := by decide +kernel
theorem dL_height_11 : decode cL_height 11 = .ok (.iaload, 1) := by decide +kernel
theorem dL_height_12 : decode cL_height 12 = .ok (.if_icmp .gt 7, 3) := by decide +kernel
theorem dL_height_15 : decode cL_height 15 = .ok (.aload_n 1, 1) := by decide +kernel
theorem dL_height_16 : decode cL_height 16 = .ok (.iconst 1, 1) := by decide +kernel
theorem dL_height_17 : decode cL_height 17 = .ok (.iaload, 1) := by decide +kernel
theorem dL_height_18 : decode cL_height 18 = .ok (.ireturn, 1) := by decide +kernel
theorem dL_height_19 : decode cL_height 19 = .ok (.iconst 1, 1) := by decide +kernel
theorem dL_height_20 : decode cL_height 20 = .ok (.istore_n 3, 1) := by decide +kernel
theorem dL_height_21 : decode cL_height 21 = .ok (.iload_n 3, 1) := by decide +kernel
theorem dL_height_22 : decode cL_height 22 = .ok (.aload_n 0, 1) := by decide +kernel
theorem dL_height_23 : decode cL_height 23 = .ok (.iconst 0, 1) := by decide +kernel
theorem dL_height_24 : decode cL_height 24 = .ok (.iaload, 1) := by decide +kernel
theorem dL_height_25 : decode cL_height 25 = .ok (.if_icmp .ge 73, 3) := by decide +kernel
theorem dL_height_28 : decode cL_height 28 = .ok (.iload_n 2, 1) := by decide +kernel
theorem dL_height_29 : decode cL_height 29 = .ok (.aload_n 1, 1) := by decide +kernel
theorem dL_height_30 : decode cL_height 30 = .ok (.iconst 2, 1) := by decide +kernel
theorem dL_height_31 : decode cL_height 31 = .ok (.iload_n 3, 1) := by decide +kernel
theorem dL_height_32 : decode cL_height 32 = .ok (.imul, 1) := by decide +kernel
theorem dL_height_33 : decode cL_height 33 = .ok (.iaload, 1) := by decide +kernel
theorem dL_height_34 : decode cL_height 34 = .ok (.if_icmp .le 6, 3) := by decide +kernel
theorem dL_height_37 : decode cL_height 37 = .ok (.goto 55, 3) := by decide +kernel
theorem dL_height_40 : decode cL_height 40 = .ok (.iload_n 2, 1) := by decide +kernel
theorem dL_height_41 : decode cL_height 41 = .ok (.aload_n 1, 1) := by decide +kernel
theorem dL_height_42 : decode cL_height 42 = .ok (.iconst 2, 1) := by decide +kernel
theorem dL_height_43 : decode cL_height 43 = .ok (.iload_n 3, 1) := by decide +kernel
theorem dL_height_44 : decode cL_height 44 = .ok (.imul, 1) := by decide +kernel
theorem dL_height_45 : decode cL_height 45 = .ok (.iconst 2, 1) := by decide +kernel
theorem dL_height_46 : decode cL_height 46 = .ok (.isub, 1) := by decide +kernel
theorem dL_height_47 : decode cL_height 47 = .ok (.iaload, 1) := by decide +kernel
theorem dL_height_48 : decode cL_height 48 = .ok (.isub, 1) := by decide +kernel
theorem dL_height_49 : decode cL_height 49 = .ok (.istore 4, 2) := by decide +kernel
theorem dL_height_51 : decode cL_height 51 = .ok (.aload_n 1, 1) := by decide +kernel
theorem dL_height_52 : decode cL_height 52 = .ok (.iconst 2, 1) := by decide +kernel
theorem dL_height_53 : decode cL_height 53 = .ok (.iload_n 3, 1) := by decide +kernel
theorem dL_height_54 : decode cL_height 54 = .ok (.imul, 1) := by decide +kernel
theorem dL_height_55 : decode cL_height 55 = .ok (.iconst 1, 1) := by decide +kernel
theorem dL_height_56 : decode cL_height 56 = .ok (.isub, 1) := by decide +kernel
theorem dL_height_57 : decode cL_height 57 = .ok (.iaload, 1) := by decide +kernel
theorem dL_height_58 : decode cL_height 58 = .ok (.aload_n 1, 1) := by decide +kernel
theorem dL_height_59 : decode cL_height 59 = .ok (.iconst 2, 1) := by decide +kernel
theorem dL_height_60 : decode cL_height 60 = .ok (.iload_n 3, 1) := by decide +kernel
theorem dL_height_61 : decode cL_height 61 = .ok (.imul, 1) := by decide +kernel
theorem dL_height_62 : decode cL_height 62 = .ok (.iconst 1, 1) := by decide +kernel
theorem dL_height_63 : decode cL_height 63 = .ok (.iadd, 1) := by decide +kernel
theorem dL_height_64 : decode cL_height 64 = .ok (.iaload, 1) := by decide +kernel
theorem dL_height_65 : decode cL_height 65 = .ok (.aload_n 1, 1) := by decide +kernel
theorem dL_height_66 : decode cL_height 66 = .ok (.iconst 2, 1) := by decide +kernel
theorem dL_height_67 : decode cL_height 67 = .ok (.iload_n 3, 1) := by decide +kernel
theorem dL_height_68 : decode cL_height 68 = .ok (.imul, 1) := by decide +kernel
theorem dL_height_69 : decode cL_height 69 = .ok (.iconst 1, 1) := by decide +kernel
theorem dL_height_70 : decode cL_height 70 = .ok (.isub, 1) := by decide +kernel
theorem dL_height_71 : decode cL_height 71 = .ok (.iaload, 1) := by decide +kernel
theorem dL_height_72 : decode cL_height 72 = .ok (.isub, 1) := by decide +kernel
theorem dL_height_73 : decode cL_height 73 = .ok (.iload 4, 2) := by decide +kernel
theorem dL_height_75 : decode cL_height 75 = .ok (.imul, 1) := by decide +kernel
theorem dL_height_76 : decode cL_height 76 = .ok (.aload_n 1, 1) := by decide +kernel
theorem dL_height_77 : decode cL_height 77 = .ok (.iconst 2, 1) := by decide +kernel
theorem dL_height_78 : decode cL_height 78 = .ok (.iload_n 3, 1) := by decide +kernel
theorem dL_height_79 : decode cL_height 79 = .ok (.imul, 1) := by decide +kernel
theorem dL_height_80 : decode cL_height 80 = .ok (.iaload, 1) := by decide +kernel
theorem dL_height_81 : decode cL_height 81 = .ok (.aload_n 1, 1) := by decide +kernel
theorem dL_height_82 : decode cL_height 82 = .ok (.iconst 2, 1) := by decide +kernel
theorem dL_height_83 : decode cL_height 83 = .ok (.iload_n 3, 1) := by decide +kernel
theorem dL_height_84 : decode cL_height 84 = .ok (.imul, 1) := by decide +kernel
theorem dL_height_85 : decode cL_height 85 = .ok (.iconst 2, 1) := by decide +kernel
theorem dL_height_86 : decode cL_height 86 = .ok (.isub, 1) := by decide +kernel
theorem dL_height_87 : decode cL_height 87 = .ok (.iaload, 1) := by decide +kernel
theorem dL_height_88 : decode cL_height 88 = .ok (.isub, 1) := by decide +kernel
theorem dL_height_89 : decode cL_height 89 = .ok (.idiv, 1) := by decide +kernel
theorem dL_height_90 : decode cL_height 90 = .ok (.iadd, 1) := by decide +kernel
theorem dL_height_91 : decode cL_height 91 = .ok (.ireturn, 1) := by decide +kernel
theorem dL_height_92 : decode cL_height 92 = .ok (.iinc 3 1, 3) := by decide +kernel
theorem dL_height_95 : decode cL_height 95 = .ok (.goto (-74), 3) := by decide +kernel
theorem dL_height_98 : decode cL_height 98 = .ok (.aload_n 1, 1) := by decide +kernel
theorem dL_height_99 : decode cL_height 99 = .ok (.iconst 2, 1) := by decide +kernel
theorem dL_height_100 : decode cL_height 100 = .ok (.aload_n 0, 1) := by decide +kernel
theorem dL_height_101 : decode cL_height 101 = .ok (.iconst 0, 1) := by decide +kernel
theorem dL_height_102 : decode cL_height 102 = .ok (.iaload, 1) := by decide +kernel
theorem dL_height_103 : decode cL_height 103 = .ok (.imul, 1) := by decide +kernel
theorem dL_height_104 : decode cL_height 104 = .ok (.iconst 1, 1) := by decide +kernel
theorem dL_height_105 : decode cL_height 105 = .ok (.isub, 1) := by decide +kernel
theorem dL_height_106 : decode cL_height 106 = .ok (.iaload, 1) := by decide +kernel
theorem dL_height_107 : decode cL_height 107 = .ok (.ireturn, 1) := by decide +kernel
theorem dL_need_0 : decode cL_need 0 = .ok (.iload_n 1, 1) := by decide +kernel
theorem dL_need_1 : decode cL_need 1 = .ok (.iload_n 1, 1) := by decide +kernel
theorem dL_need_2 : decode cL_need 2 = .ok (.bipush 10, 2) := by decide +kernel
theorem dL_need_4 : decode cL_need 4 = .ok (.idiv, 1) := by decide +kernel
theorem dL_need_5 : decode cL_need 5 = .ok (.iadd, 1) := by decide +kernel
theorem dL_need_6 : decode cL_need 6 = .ok (.aload_n 0, 1) := by decide +kernel
theorem dL_need_7 : decode cL_need 7 = .ok (.bipush 6, 2) := by decide +kernel
theorem dL_need_9 : decode cL_need 9 = .ok (.iaload, 1) := by decide +kernel
theorem dL_need_10 : decode cL_need 10 = .ok (.iadd, 1) := by decide +kernel
theorem dL_need_11 : decode cL_need 11 = .ok (.ireturn, 1) := by decide +kernel
theorem dL_tugs_0 : decode cL_tugs 0 = .ok (.iload_n 0, 1) := by decide +kernel
theorem dL_tugs_1 : decode cL_tugs 1 = .ok (.sipush 220, 3) := by decide +kernel
theorem dL_tugs_4 : decode cL_tugs 4 = .ok (.if_icmp .lt 7, 3) := by decide +kernel
theorem dL_tugs_7 : decode cL_tugs 7 = .ok (.iconst 3, 1) := by decide +kernel
theorem dL_tugs_8 : decode cL_tugs 8 = .ok (.goto 25, 3) := by decide +kernel
theorem dL_tugs_11 : decode cL_tugs 11 = .ok (.iload_n 0, 1) := by decide +kernel
theorem dL_tugs_12 : decode cL_tugs 12 = .ok (.sipush 160, 3) := by decide +kernel
theorem dL_tugs_15 : decode cL_tugs 15 = .ok (.if_icmp .lt 7, 3) := by decide +kernel
theorem dL_tugs_18 : decode cL_tugs 18 = .ok (.iconst 2, 1) := by decide +kernel
theorem dL_tugs_19 : decode cL_tugs 19 = .ok (.goto 14, 3) := by decide +kernel
theorem dL_tugs_22 : decode cL_tugs 22 = .ok (.iload_n 0, 1) := by decide +kernel
theorem dL_tugs_23 : decode cL_tugs 23 = .ok (.bipush 100, 2) := by decide +kernel
theorem dL_tugs_25 : decode cL_tugs 25 = .ok (.if_icmp .lt 7, 3) := by decide +kernel
theorem dL_tugs_28 : decode cL_tugs 28 = .ok (.iconst 1, 1) := by decide +kernel
theorem dL_tugs_29 : decode cL_tugs 29 = .ok (.goto 4, 3) := by decide +kernel
theorem dL_tugs_32 : decode cL_tugs 32 = .ok (.iconst 0, 1) := by decide +kernel
theorem dL_tugs_33 : decode cL_tugs 33 = .ok (.ireturn, 1) := by decide +kernel
theorem dL_tugsAt_0 : decode cL_tugsAt 0 = .ok (.iconst 0, 1) := by decide +kernel
theorem dL_tugsAt_1 : decode cL_tugsAt 1 = .ok (.istore_n 3, 1) := by decide +kernel
theorem dL_tugsAt_2 : decode cL_tugsAt 2 = .ok (.iconst 0, 1) := by decide +kernel
theorem dL_tugsAt_3 : decode cL_tugsAt 3 = .ok (.istore 4, 2) := by decide +kernel
theorem dL_tugsAt_5 : decode cL_tugsAt 5 = .ok (.iload 4, 2) := by decide +kernel
theorem dL_tugsAt_7 : decode cL_tugsAt 7 = .ok (.iload_n 0, 1) := by decide +kernel
theorem dL_tugsAt_8 : decode cL_tugsAt 8 = .ok (.if_icmp .ge 67, 3) := by decide +kernel
theorem dL_tugsAt_11 : decode cL_tugsAt 11 = .ok (.iload_n 2, 1) := by decide +kernel
theorem dL_tugsAt_12 : decode cL_tugsAt 12 = .ok (.aload_n 1, 1) := by decide +kernel
theorem dL_tugsAt_13 : decode cL_tugsAt 13 = .ok (.iload 4, 2) := by decide +kernel
theorem dL_tugsAt_15 : decode cL_tugsAt 15 = .ok (.aaload, 1) := by decide +kernel
theorem dL_tugsAt_16 : decode cL_tugsAt 16 = .ok (.iconst 1, 1) := by decide +kernel
theorem dL_tugsAt_17 : decode cL_tugsAt 17 = .ok (.iaload, 1) := by decide +kernel
theorem dL_tugsAt_18 : decode cL_tugsAt 18 = .ok (.isub, 1) := by decide +kernel
theorem dL_tugsAt_19 : decode cL_tugsAt 19 = .ok (.istore 5, 2) := by decide +kernel
theorem dL_tugsAt_21 : decode cL_tugsAt 21 = .ok (.aload_n 1, 1) := by decide +kernel
theorem dL_tugsAt_22 : decode cL_tugsAt 22 = .ok (.iload 4, 2) := by decide +kernel
theorem dL_tugsAt_24 : decode cL_tugsAt 24 = .ok (.aaload, 1) := by decide +kernel
theorem dL_tugsAt_25 : decode cL_tugsAt 25 = .ok (.iconst 5, 1) := by decide +kernel
theorem dL_tugsAt_26 : decode cL_tugsAt 26 = .ok (.iaload, 1) := by decide +kernel
theorem dL_tugsAt_27 : decode cL_tugsAt 27 = .ok (.iconst 1, 1) := by decide +kernel
theorem dL_tugsAt_28 : decode cL_tugsAt 28 = .ok (.if_icmp .ne 18, 3) := by decide +kernel
theorem dL_tugsAt_31 : decode cL_tugsAt 31 = .ok (.iload 5, 2) := by decide +kernel
theorem dL_tugsAt_33 : decode cL_tugsAt 33 = .ok (.ifCond .lt 36, 3) := by decide +kernel
theorem dL_tugsAt_36 : decode cL_tugsAt 36 = .ok (.iload 5, 2) := by decide +kernel
theorem dL_tugsAt_38 : decode cL_tugsAt 38 = .ok (.bipush 40, 2) := by decide +kernel
theorem dL_tugsAt_40 : decode cL_tugsAt 40 = .ok (.if_icmp .ge 29, 3) := by decide +kernel
theorem dL_tugsAt_43 : decode cL_tugsAt 43 = .ok (.goto 17, 3) := by decide +kernel
theorem dL_tugsAt_46 : decode cL_tugsAt 46 = .ok (.iload 5, 2) := by decide +kernel
theorem dL_tugsAt_48 : decode cL_tugsAt 48 = .ok (.bipush 20, 2) := by decide +kernel
theorem dL_tugsAt_50 : decode cL_tugsAt 50 = .ok (.if_icmp .lt 19, 3) := by decide +kernel
theorem dL_tugsAt_53 : decode cL_tugsAt 53 = .ok (.iload 5, 2) := by decide +kernel
theorem dL_tugsAt_55 : decode cL_tugsAt 55 = .ok (.bipush 60, 2) := by decide +kernel
theorem dL_tugsAt_57 : decode cL_tugsAt 57 = .ok (.if_icmp .ge 12, 3) := by decide +kernel
theorem dL_tugsAt_60 : decode cL_tugsAt 60 = .ok (.iload_n 3, 1) := by decide +kernel
theorem dL_tugsAt_61 : decode cL_tugsAt 61 = .ok (.aload_n 1, 1) := by decide +kernel
theorem dL_tugsAt_62 : decode cL_tugsAt 62 = .ok (.iload 4, 2) := by decide +kernel
theorem dL_tugsAt_64 : decode cL_tugsAt 64 = .ok (.aaload, 1) := by decide +kernel
theorem dL_tugsAt_65 : decode cL_tugsAt 65 = .ok (.iconst 3, 1) := by decide +kernel
theorem dL_tugsAt_66 : decode cL_tugsAt 66 = .ok (.iaload, 1) := by decide +kernel
theorem dL_tugsAt_67 : decode cL_tugsAt 67 = .ok (.iadd, 1) := by decide +kernel
theorem dL_tugsAt_68 : decode cL_tugsAt 68 = .ok (.istore_n 3, 1) := by decide +kernel
theorem dL_tugsAt_69 : decode cL_tugsAt 69 = .ok (.iinc 4 1, 3) := by decide +kernel
theorem dL_tugsAt_72 : decode cL_tugsAt 72 = .ok (.goto (-67), 3) := by decide +kernel
theorem dL_tugsAt_75 : decode cL_tugsAt 75 = .ok (.iload_n 3, 1) := by decide +kernel
theorem dL_tugsAt_76 : decode cL_tugsAt 76 = .ok (.ireturn, 1) := by decide +kernel
theorem dL_leaves_0 : decode cL_leaves 0 = .ok (.iload_n 2, 1) := by decide +kernel
theorem dL_leaves_1 : decode cL_leaves 1 = .ok (.iconst 1, 1) := by decide +kernel
theorem dL_leaves_2 : decode cL_leaves 2 = .ok (.iadd, 1) := by decide +kernel
theorem dL_leaves_3 : decode cL_leaves 3 = .ok (.istore_n 3, 1) := by decide +kernel
theorem dL_leaves_4 : decode cL_leaves 4 = .ok (.iload_n 3, 1) := by decide +kernel
theorem dL_leaves_5 : decode cL_leaves 5 = .ok (.iload_n 0, 1) := by decide +kernel
theorem dL_leaves_6 : decode cL_leaves 6 = .ok (.if_icmp .ge 40, 3) := by decide +kernel
theorem dL_leaves_9 : decode cL_leaves 9 = .ok (.aload_n 1, 1) := by decide +kernel
theorem dL_leaves_10 : decode cL_leaves 10 = .ok (.iload_n 3, 1) := by decide +kernel
theorem dL_leaves_11 : decode cL_leaves 11 = .ok (.aaload, 1) := by decide +kernel
theorem dL_leaves_12 : decode cL_leaves 12 = .ok (.iconst 0, 1) := by decide +kernel
theorem dL_leaves_13 : decode cL_leaves 13 = .ok (.iaload, 1) := by decide +kernel
theorem dL_leaves_14 : decode cL_leaves 14 = .ok (.aload_n 1, 1) := by decide +kernel
theorem dL_leaves_15 : decode cL_leaves 15 = .ok (.iload_n 2, 1) := by decide +kernel
theorem dL_leaves_16 : decode cL_leaves 16 = .ok (.aaload, 1) := by decide +kernel
theorem dL_leaves_17 : decode cL_leaves 17 = .ok (.iconst 0, 1) := by decide +kernel
theorem dL_leaves_18 : decode cL_leaves 18 = .ok (.iaload, 1) := by decide +kernel
theorem dL_leaves_19 : decode cL_leaves 19 = .ok (.if_icmp .ne 21, 3) := by decide +kernel
theorem dL_leaves_22 : decode cL_leaves 22 = .ok (.aload_n 1, 1) := by decide +kernel
theorem dL_leaves_23 : decode cL_leaves 23 = .ok (.iload_n 3, 1) := by decide +kernel
theorem dL_leaves_24 : decode cL_leaves 24 = .ok (.aaload, 1) := by decide +kernel
theorem dL_leaves_25 : decode cL_leaves 25 = .ok (.iconst 5, 1) := by decide +kernel
theorem dL_leaves_26 : decode cL_leaves 26 = .ok (.iaload, 1) := by decide +kernel
theorem dL_leaves_27 : decode cL_leaves 27 = .ok (.iconst 1, 1) := by decide +kernel
theorem dL_leaves_28 : decode cL_leaves 28 = .ok (.if_icmp .ne 12, 3) := by decide +kernel
theorem dL_leaves_31 : decode cL_leaves 31 = .ok (.aload_n 1, 1) := by decide +kernel
theorem dL_leaves_32 : decode cL_leaves 32 = .ok (.iload_n 3, 1) := by decide +kernel
theorem dL_leaves_33 : decode cL_leaves 33 = .ok (.aaload, 1) := by decide +kernel
theorem dL_leaves_34 : decode cL_leaves 34 = .ok (.iconst 1, 1) := by decide +kernel
theorem dL_leaves_35 : decode cL_leaves 35 = .ok (.iaload, 1) := by decide +kernel
theorem dL_leaves_36 : decode cL_leaves 36 = .ok (.bipush 60, 2) := by decide +kernel
theorem dL_leaves_38 : decode cL_leaves 38 = .ok (.iadd, 1) := by decide +kernel
theorem dL_leaves_39 : decode cL_leaves 39 = .ok (.ireturn, 1) := by decide +kernel
theorem dL_leaves_40 : decode cL_leaves 40 = .ok (.iinc 3 1, 3) := by decide +kernel
theorem dL_leaves_43 : decode cL_leaves 43 = .ok (.goto (-39), 3) := by decide +kernel
theorem dL_leaves_46 : decode cL_leaves 46 = .ok (.ldc 44, 2) := by decide +kernel
theorem dL_leaves_48 : decode cL_leaves 48 = .ok (.ireturn, 1) := by decide +kernel
theorem dL_pilot_0 : decode cL_pilot 0 = .ok (.iconst (-1), 1) := by decide +kernel
theorem dL_pilot_1 : decode cL_pilot 1 = .ok (.istore 7, 2) := by decide +kernel
theorem dL_pilot_3 : decode cL_pilot 3 = .ok (.iconst 0, 1) := by decide +kernel
theorem dL_pilot_4 : decode cL_pilot 4 = .ok (.istore 8, 2) := by decide +kernel
theorem dL_pilot_6 : decode cL_pilot 6 = .ok (.iconst 0, 1) := by decide +kernel
theorem dL_pilot_7 : decode cL_pilot 7 = .ok (.istore 9, 2) := by decide +kernel
theorem dL_pilot_9 : decode cL_pilot 9 = .ok (.iload 9, 2) := by decide +kernel
theorem dL_pilot_11 : decode cL_pilot 11 = .ok (.aload 5, 2) := by decide +kernel
theorem dL_pilot_13 : decode cL_pilot 13 = .ok (.iconst 3, 1) := by decide +kernel
theorem dL_pilot_14 : decode cL_pilot 14 = .ok (.iaload, 1) := by decide +kernel
theorem dL_pilot_15 : decode cL_pilot 15 = .ok (.if_icmp .ge 230, 3) := by decide +kernel
theorem dL_pilot_18 : decode cL_pilot 18 = .ok (.iconst (-1), 1) := by decide +kernel
theorem dL_pilot_19 : decode cL_pilot 19 = .ok (.istore 10, 2) := by decide +kernel
theorem dL_pilot_21 : decode cL_pilot 21 = .ok (.aload 6, 2) := by decide +kernel
theorem dL_pilot_23 : decode cL_pilot 23 = .ok (.iconst 2, 1) := by decide +kernel
theorem dL_pilot_24 : decode cL_pilot 24 = .ok (.iload 9, 2) := by decide +kernel
theorem dL_pilot_26 : decode cL_pilot 26 = .ok (.imul, 1) := by decide +kernel
theorem dL_pilot_27 : decode cL_pilot 27 = .ok (.iconst 1, 1) := by decide +kernel
theorem dL_pilot_28 : decode cL_pilot 28 = .ok (.iadd, 1) := by decide +kernel
theorem dL_pilot_29 : decode cL_pilot 29 = .ok (.iaload, 1) := by decide +kernel
theorem dL_pilot_30 : decode cL_pilot 30 = .ok (.istore 11, 2) := by decide +kernel
theorem dL_pilot_32 : decode cL_pilot 32 = .ok (.iconst 0, 1) := by decide +kernel
theorem dL_pilot_33 : decode cL_pilot 33 = .ok (.istore 12, 2) := by decide +kernel
theorem dL_pilot_35 : decode cL_pilot 35 = .ok (.iconst 0, 1) := by decide +kernel
theorem dL_pilot_36 : decode cL_pilot 36 = .ok (.istore 13, 2) := by decide +kernel
theorem dL_pilot_38 : decode cL_pilot 38 = .ok (.iload 13, 2) := by decide +kernel
theorem dL_pilot_40 : decode cL_pilot 40 = .ok (.iload_n 3, 1) := by decide +kernel
theorem dL_pilot_41 : decode cL_pilot 41 = .ok (.if_icmp .ge 88, 3) := by decide +kernel
theorem dL_pilot_44 : decode cL_pilot 44 = .ok (.aload 4, 2) := by decide +kernel
theorem dL_pilot_46 : decode cL_pilot 46 = .ok (.iload 13, 2) := by decide +kernel
theorem dL_pilot_48 : decode cL_pilot 48 = .ok (.aaload, 1) := by decide +kernel
theorem dL_pilot_49 : decode cL_pilot 49 = .ok (.iconst 2, 1) := by decide +kernel
theorem dL_pilot_50 : decode cL_pilot 50 = .ok (.iaload, 1) := by decide +kernel
theorem dL_pilot_51 : decode cL_pilot 51 = .ok (.iload 9, 2) := by decide +kernel
theorem dL_pilot_53 : decode cL_pilot 53 = .ok (.if_icmp .eq 6, 3) := by decide +kernel
theorem dL_pilot_56 : decode cL_pilot 56 = .ok (.goto 67, 3) := by decide +kernel
theorem dL_pilot_59 : decode cL_pilot 59 = .ok (.iload 12, 2) := by decide +kernel
theorem dL_pilot_61 : decode cL_pilot 61 = .ok (.ifCond .ne 14, 3) := by decide +kernel
theorem dL_pilot_64 : decode cL_pilot 64 = .ok (.aload 4, 2) := by decide +kernel
theorem dL_pilot_66 : decode cL_pilot 66 = .ok (.iload 13, 2) := by decide +kernel
theorem dL_pilot_68 : decode cL_pilot 68 = .ok (.aaload, 1) := by decide +kernel
theorem dL_pilot_69 : decode cL_pilot 69 = .ok (.iconst 1, 1) := by decide +kernel
theorem dL_pilot_70 : decode cL_pilot 70 = .ok (.iaload, 1) := by decide +kernel
theorem dL_pilot_71 : decode cL_pilot 71 = .ok (.iload_n 2, 1) := by decide +kernel
theorem dL_pilot_72 : decode cL_pilot 72 = .ok (.if_icmp .lt 7, 3) := by decide +kernel
theorem dL_pilot_75 : decode cL_pilot 75 = .ok (.iconst 1, 1) := by decide +kernel
theorem dL_pilot_76 : decode cL_pilot 76 = .ok (.goto 4, 3) := by decide +kernel
theorem dL_pilot_79 : decode cL_pilot 79 = .ok (.iconst 0, 1) := by decide +kernel
theorem dL_pilot_80 : decode cL_pilot 80 = .ok (.istore 12, 2) := by decide +kernel
theorem dL_pilot_82 : decode cL_pilot 82 = .ok (.aload 4, 2) := by decide +kernel
theorem dL_pilot_84 : decode cL_pilot 84 = .ok (.iload 13, 2) := by decide +kernel
theorem dL_pilot_86 : decode cL_pilot 86 = .ok (.aaload, 1) := by decide +kernel
theorem dL_pilot_87 : decode cL_pilot 87 = .ok (.iconst 1, 1) := by decide +kernel
theorem dL_pilot_88 : decode cL_pilot 88 = .ok (.iaload, 1) := by decide +kernel
theorem dL_pilot_89 : decode cL_pilot 89 = .ok (.bipush 60, 2) := by decide +kernel
theorem dL_pilot_91 : decode cL_pilot 91 = .ok (.iadd, 1) := by decide +kernel
theorem dL_pilot_92 : decode cL_pilot 92 = .ok (.iload 10, 2) := by decide +kernel
theorem dL_pilot_94 : decode cL_pilot 94 = .ok (.if_icmp .gt 6, 3) := by decide +kernel
theorem dL_pilot_97 : decode cL_pilot 97 = .ok (.goto 26, 3) := by decide +kernel
theorem dL_pilot_100 : decode cL_pilot 100 = .ok (.aload 4, 2) := by decide +kernel
theorem dL_pilot_102 : decode cL_pilot 102 = .ok (.iload 13, 2) := by decide +kernel
theorem dL_pilot_104 : decode cL_pilot 104 = .ok (.aaload, 1) := by decide +kernel
theorem dL_pilot_105 : decode cL_pilot 105 = .ok (.iconst 1, 1) := by decide +kernel
theorem dL_pilot_106 : decode cL_pilot 106 = .ok (.iaload, 1) := by decide +kernel
theorem dL_pilot_107 : decode cL_pilot 107 = .ok (.bipush 60, 2) := by decide +kernel
theorem dL_pilot_109 : decode cL_pilot 109 = .ok (.iadd, 1) := by decide +kernel
theorem dL_pilot_110 : decode cL_pilot 110 = .ok (.istore 10, 2) := by decide +kernel
theorem dL_pilot_112 : decode cL_pilot 112 = .ok (.iconst 1, 1) := by decide +kernel
theorem dL_pilot_113 : decode cL_pilot 113 = .ok (.aload 4, 2) := by decide +kernel
theorem dL_pilot_115 : decode cL_pilot 115 = .ok (.iload 13, 2) := by decide +kernel
theorem dL_pilot_117 : decode cL_pilot 117 = .ok (.aaload, 1) := by decide +kernel
theorem dL_pilot_118 : decode cL_pilot 118 = .ok (.iconst 5, 1) := by decide +kernel
theorem dL_pilot_119 : decode cL_pilot 119 = .ok (.iaload, 1) := by decide +kernel
theorem dL_pilot_120 : decode cL_pilot 120 = .ok (.isub, 1) := by decide +kernel
theorem dL_pilot_121 : decode cL_pilot 121 = .ok (.istore 11, 2) := by decide +kernel
theorem dL_pilot_123 : decode cL_pilot 123 = .ok (.iinc 13 1, 3) := by decide +kernel
theorem dL_pilot_126 : decode cL_pilot 126 = .ok (.goto (-88), 3) := by decide +kernel
theorem dL_pilot_129 : decode cL_pilot 129 = .ok (.iload 11, 2) := by decide +kernel
theorem dL_pilot_131 : decode cL_pilot 131 = .ok (.iload_n 1, 1) := by decide +kernel
theorem dL_pilot_132 : decode cL_pilot 132 = .ok (.ifCond .eq 7, 3) := by decide +kernel
theorem dL_pilot_135 : decode cL_pilot 135 = .ok (.iconst 1, 1) := by decide +kernel
theorem dL_pilot_136 : decode cL_pilot 136 = .ok (.goto 4, 3) := by decide +kernel
theorem dL_pilot_139 : decode cL_pilot 139 = .ok (.iconst 0, 1) := by decide +kernel
theorem dL_pilot_140 : decode cL_pilot 140 = .ok (.if_icmp .ne 7, 3) := by decide +kernel
theorem dL_pilot_143 : decode cL_pilot 143 = .ok (.iconst 1, 1) := by decide +kernel
theorem dL_pilot_144 : decode cL_pilot 144 = .ok (.goto 4, 3) := by decide +kernel
theorem dL_pilot_147 : decode cL_pilot 147 = .ok (.iconst 0, 1) := by decide +kernel
theorem dL_pilot_148 : decode cL_pilot 148 = .ok (.istore 13, 2) := by decide +kernel
theorem dL_pilot_150 : decode cL_pilot 150 = .ok (.aload 6, 2) := by decide +kernel
theorem dL_pilot_152 : decode cL_pilot 152 = .ok (.iconst 2, 1) := by decide +kernel
theorem dL_pilot_153 : decode cL_pilot 153 = .ok (.iload 9, 2) := by decide +kernel
theorem dL_pilot_155 : decode cL_pilot 155 = .ok (.imul, 1) := by decide +kernel
theorem dL_pilot_156 : decode cL_pilot 156 = .ok (.iaload, 1) := by decide +kernel
theorem dL_pilot_157 : decode cL_pilot 157 = .ok (.iload_n 0, 1) := by decide +kernel
theorem dL_pilot_158 : decode cL_pilot 158 = .ok (.if_icmp .lt 50, 3) := by decide +kernel
theorem dL_pilot_161 : decode cL_pilot 161 = .ok (.iload 12, 2) := by decide +kernel
theorem dL_pilot_163 : decode cL_pilot 163 = .ok (.ifCond .ne 45, 3) := by decide +kernel
theorem dL_pilot_166 : decode cL_pilot 166 = .ok (.iload 10, 2) := by decide +kernel
theorem dL_pilot_168 : decode cL_pilot 168 = .ok (.ifCond .ge 17, 3) := by decide +kernel
theorem dL_pilot_171 : decode cL_pilot 171 = .ok (.iload 13, 2) := by decide +kernel
theorem dL_pilot_173 : decode cL_pilot 173 = .ok (.ifCond .ne 31, 3) := by decide +kernel
theorem dL_pilot_176 : decode cL_pilot 176 = .ok (.iload_n 2, 1) := by decide +kernel
theorem dL_pilot_177 : decode cL_pilot 177 = .ok (.bipush 60, 2) := by decide +kernel
theorem dL_pilot_179 : decode cL_pilot 179 = .ok (.if_icmp .lt 29, 3) := by decide +kernel
theorem dL_pilot_182 : decode cL_pilot 182 = .ok (.goto 22, 3) := by decide +kernel
theorem dL_pilot_185 : decode cL_pilot 185 = .ok (.iload_n 2, 1) := by decide +kernel
theorem dL_pilot_186 : decode cL_pilot 186 = .ok (.iload 10, 2) := by decide +kernel
theorem dL_pilot_188 : decode cL_pilot 188 = .ok (.isub, 1) := by decide +kernel
theorem dL_pilot_189 : decode cL_pilot 189 = .ok (.iload 13, 2) := by decide +kernel
theorem dL_pilot_191 : decode cL_pilot 191 = .ok (.ifCond .eq 8, 3) := by decide +kernel
theorem dL_pilot_194 : decode cL_pilot 194 = .ok (.bipush 30, 2) := by decide +kernel
theorem dL_pilot_196 : decode cL_pilot 196 = .ok (.goto 5, 3) := by decide +kernel
theorem dL_pilot_199 : decode cL_pilot 199 = .ok (.bipush 90, 2) := by decide +kernel
theorem dL_pilot_201 : decode cL_pilot 201 = .ok (.if_icmp .lt 7, 3) := by decide +kernel
theorem dL_pilot_204 : decode cL_pilot 204 = .ok (.iconst 1, 1) := by decide +kernel
theorem dL_pilot_205 : decode cL_pilot 205 = .ok (.goto 4, 3) := by decide +kernel
theorem dL_pilot_208 : decode cL_pilot 208 = .ok (.iconst 0, 1) := by decide +kernel
theorem dL_pilot_209 : decode cL_pilot 209 = .ok (.istore 14, 2) := by decide +kernel
theorem dL_pilot_211 : decode cL_pilot 211 = .ok (.iload 14, 2) := by decide +kernel
theorem dL_pilot_213 : decode cL_pilot 213 = .ok (.ifCond .eq 26, 3) := by decide +kernel
theorem dL_pilot_216 : decode cL_pilot 216 = .ok (.iload 7, 2) := by decide +kernel
theorem dL_pilot_218 : decode cL_pilot 218 = .ok (.ifCond .lt 13, 3) := by decide +kernel
theorem dL_pilot_221 : decode cL_pilot 221 = .ok (.iload 10, 2) := by decide +kernel
theorem dL_pilot_223 : decode cL_pilot 223 = .ok (.iload 8, 2) := by decide +kernel
theorem dL_pilot_225 : decode cL_pilot 225 = .ok (.if_icmp .lt 6, 3) := by decide +kernel
theorem dL_pilot_228 : decode cL_pilot 228 = .ok (.goto 11, 3) := by decide +kernel
theorem dL_pilot_231 : decode cL_pilot 231 = .ok (.iload 9, 2) := by decide +kernel
theorem dL_pilot_233 : decode cL_pilot 233 = .ok (.istore 7, 2) := by decide +kernel
theorem dL_pilot_235 : decode cL_pilot 235 = .ok (.iload 10, 2) := by decide +kernel
theorem dL_pilot_237 : decode cL_pilot 237 = .ok (.istore 8, 2) := by decide +kernel
theorem dL_pilot_239 : decode cL_pilot 239 = .ok (.iinc 9 1, 3) := by decide +kernel
theorem dL_pilot_242 : decode cL_pilot 242 = .ok (.goto (-233), 3) := by decide +kernel
theorem dL_pilot_245 : decode cL_pilot 245 = .ok (.iload 7, 2) := by decide +kernel
theorem dL_pilot_247 : decode cL_pilot 247 = .ok (.ireturn, 1) := by decide +kernel
set_option maxRecDepth 20000 in
theorem ggL_canBegin_L_need : GoodIn wsL_canBegin wsL_need := goodIn_r _ [8] (by decide +kernel) (by decide +kernel)
set_option maxRecDepth 20000 in
theorem gL_canBegin_L_need : GoodIn wsL_canBegin (va_wsS RL 45 yL_need wsL_need) := goodIn_app (goodIn_of _ (by decide +kernel)) ggL_canBegin_L_need
set_option maxRecDepth 20000 in
theorem ggL_canBegin_L_height : GoodIn wsL_canBegin wsL_height := goodIn_r _ [11] (by decide +kernel) (by decide +kernel)
set_option maxRecDepth 20000 in
theorem gL_canBegin_L_height : GoodIn wsL_canBegin (va_wsS RL 48 yL_height wsL_height) := goodIn_app (goodIn_of _ (by decide +kernel)) ggL_canBegin_L_height
set_option maxRecDepth 20000 in
theorem ggL_canBegin_L_leaves : GoodIn wsL_canBegin wsL_leaves := goodIn_r _ [14, 15] (by decide +kernel) (by decide +kernel)
set_option maxRecDepth 20000 in
theorem gL_canBegin_L_leaves : GoodIn wsL_canBegin (va_wsS RL 52 yL_leaves wsL_leaves) := goodIn_app (goodIn_of _ (by decide +kernel)) ggL_canBegin_L_leaves
set_option maxRecDepth 20000 in
theorem ggL_canBegin_L_tugs : GoodIn wsL_canBegin wsL_tugs := goodIn_r _ [18] (by decide +kernel) (by decide +kernel)
set_option maxRecDepth 20000 in
theorem gL_canBegin_L_tugs : GoodIn wsL_canBegin (va_wsS RL 61 yL_tugs wsL_tugs) := goodIn_app (goodIn_of _ (by decide +kernel)) ggL_canBegin_L_tugs
set_option maxRecDepth 20000 in
theorem ggL_canBegin_L_tugsAt : GoodIn wsL_canBegin wsL_tugsAt := goodIn_r _ [21] (by decide +kernel) (by decide +kernel)
set_option maxRecDepth 20000 in
theorem gL_canBegin_L_tugsAt : GoodIn wsL_canBegin (va_wsS RL 64 yL_tugsAt wsL_tugsAt) := goodIn_app (goodIn_of _ (by decide +kernel)) ggL_canBegin_L_tugsAt
set_option maxRecDepth 20000 in
theorem ggL_canBegin_L_pilot : GoodIn wsL_canBegin wsL_pilot := goodIn_r _ [24] (by decide +kernel) (by decide +kernel)
set_option maxRecDepth 20000 in
theorem gL_canBegin_L_pilot : GoodIn wsL_canBegin (va_wsS RL 67 yL_pilot wsL_pilot) := goodIn_app (goodIn_of _ (by decide +kernel)) ggL_canBegin_L_pilot
theorem dL_canBegin_0 : decode cL_canBegin 0 = .ok (.iload_n 1, 1) := by decide +kernel
theorem dL_canBegin_1 : decode cL_canBegin 1 = .ok (.ifCond .ge 7, 3) := by decide +kernel
theorem dL_canBegin_4 : decode cL_canBegin 4 = .ok (.iconst 1, 1) := by decide +kernel
theorem dL_canBegin_5 : decode cL_canBegin 5 = .ok (.goto 4, 3) := by decide +kernel
theorem dL_canBegin_8 : decode cL_canBegin 8 = .ok (.iconst 0, 1) := by decide +kernel
theorem dL_canBegin_9 : decode cL_canBegin 9 = .ok (.istore 10, 2) := by decide +kernel
theorem dL_canBegin_11 : decode cL_canBegin 11 = .ok (.iconst (-1), 1) := by decide +kernel
theorem dL_canBegin_12 : decode cL_canBegin 12 = .ok (.istore 11, 2) := by decide +kernel
theorem dL_canBegin_14 : decode cL_canBegin 14 = .ok (.iconst 0, 1) := by decide +kernel
theorem dL_canBegin_15 : decode cL_canBegin 15 = .ok (.istore 12, 2) := by decide +kernel
theorem dL_canBegin_17 : decode cL_canBegin 17 = .ok (.iload 12, 2) := by decide +kernel
theorem dL_canBegin_19 : decode cL_canBegin 19 = .ok (.iload_n 3, 1) := by decide +kernel
theorem dL_canBegin_20 : decode cL_canBegin 20 = .ok (.if_icmp .ge 24, 3) := by decide +kernel
theorem dL_canBegin_23 : decode cL_canBegin 23 = .ok (.aload 4, 2) := by decide +kernel
theorem dL_canBegin_25 : decode cL_canBegin 25 = .ok (.iload 12, 2) := by decide +kernel
theorem dL_canBegin_27 : decode cL_canBegin 27 = .ok (.aaload, 1) := by decide +kernel
theorem dL_canBegin_28 : decode cL_canBegin 28 = .ok (.iconst 0, 1) := by decide +kernel
theorem dL_canBegin_29 : decode cL_canBegin 29 = .ok (.iaload, 1) := by decide +kernel
theorem dL_canBegin_30 : decode cL_canBegin 30 = .ok (.iload_n 0, 1) := by decide +kernel
theorem dL_canBegin_31 : decode cL_canBegin 31 = .ok (.if_icmp .ne 7, 3) := by decide +kernel
theorem dL_canBegin_34 : decode cL_canBegin 34 = .ok (.iload 12, 2) := by decide +kernel
theorem dL_canBegin_36 : decode cL_canBegin 36 = .ok (.istore 11, 2) := by decide +kernel
theorem dL_canBegin_38 : decode cL_canBegin 38 = .ok (.iinc 12 1, 3) := by decide +kernel
theorem dL_canBegin_41 : decode cL_canBegin 41 = .ok (.goto (-24), 3) := by decide +kernel
theorem dL_canBegin_44 : decode cL_canBegin 44 = .ok (.iload 11, 2) := by decide +kernel
theorem dL_canBegin_46 : decode cL_canBegin 46 = .ok (.ifCond .lt 17, 3) := by decide +kernel
theorem dL_canBegin_49 : decode cL_canBegin 49 = .ok (.aload 4, 2) := by decide +kernel
theorem dL_canBegin_51 : decode cL_canBegin 51 = .ok (.iload 11, 2) := by decide +kernel
theorem dL_canBegin_53 : decode cL_canBegin 53 = .ok (.aaload, 1) := by decide +kernel
theorem dL_canBegin_54 : decode cL_canBegin 54 = .ok (.iconst 5, 1) := by decide +kernel
theorem dL_canBegin_55 : decode cL_canBegin 55 = .ok (.iaload, 1) := by decide +kernel
theorem dL_canBegin_56 : decode cL_canBegin 56 = .ok (.ifCond .ne 7, 3) := by decide +kernel
theorem dL_canBegin_59 : decode cL_canBegin 59 = .ok (.iconst 1, 1) := by decide +kernel
theorem dL_canBegin_60 : decode cL_canBegin 60 = .ok (.goto 4, 3) := by decide +kernel
theorem dL_canBegin_63 : decode cL_canBegin 63 = .ok (.iconst 0, 1) := by decide +kernel
theorem dL_canBegin_64 : decode cL_canBegin 64 = .ok (.istore 12, 2) := by decide +kernel
theorem dL_canBegin_66 : decode cL_canBegin 66 = .ok (.iload 10, 2) := by decide +kernel
theorem dL_canBegin_68 : decode cL_canBegin 68 = .ok (.iload 12, 2) := by decide +kernel
theorem dL_canBegin_70 : decode cL_canBegin 70 = .ok (.if_icmp .ne 29, 3) := by decide +kernel
theorem dL_canBegin_73 : decode cL_canBegin 73 = .ok (.iload 11, 2) := by decide +kernel
theorem dL_canBegin_75 : decode cL_canBegin 75 = .ok (.ifCond .lt 17, 3) := by decide +kernel
theorem dL_canBegin_78 : decode cL_canBegin 78 = .ok (.aload 4, 2) := by decide +kernel
theorem dL_canBegin_80 : decode cL_canBegin 80 = .ok (.iload 11, 2) := by decide +kernel
theorem dL_canBegin_82 : decode cL_canBegin 82 = .ok (.aaload, 1) := by decide +kernel
theorem dL_canBegin_83 : decode cL_canBegin 83 = .ok (.iconst 1, 1) := by decide +kernel
theorem dL_canBegin_84 : decode cL_canBegin 84 = .ok (.iaload, 1) := by decide +kernel
theorem dL_canBegin_85 : decode cL_canBegin 85 = .ok (.bipush 60, 2) := by decide +kernel
theorem dL_canBegin_87 : decode cL_canBegin 87 = .ok (.iadd, 1) := by decide +kernel
theorem dL_canBegin_88 : decode cL_canBegin 88 = .ok (.iload_n 2, 1) := by decide +kernel
theorem dL_canBegin_89 : decode cL_canBegin 89 = .ok (.if_icmp .gt 10, 3) := by decide +kernel
theorem dL_canBegin_92 : decode cL_canBegin 92 = .ok (.iload_n 2, 1) := by decide +kernel
theorem dL_canBegin_93 : decode cL_canBegin 93 = .ok (.sipush 2819, 3) := by decide +kernel
theorem dL_canBegin_96 : decode cL_canBegin 96 = .ok (.if_icmp .le 5, 3) := by decide +kernel
theorem dL_canBegin_99 : decode cL_canBegin 99 = .ok (.iconst 0, 1) := by decide +kernel
theorem dL_canBegin_100 : decode cL_canBegin 100 = .ok (.ireturn, 1) := by decide +kernel
theorem dL_canBegin_101 : decode cL_canBegin 101 = .ok (.iload 10, 2) := by decide +kernel
theorem dL_canBegin_103 : decode cL_canBegin 103 = .ok (.ifCond .eq 13, 3) := by decide +kernel
theorem dL_canBegin_106 : decode cL_canBegin 106 = .ok (.aload 4, 2) := by decide +kernel
theorem dL_canBegin_108 : decode cL_canBegin 108 = .ok (.iload 11, 2) := by decide +kernel
theorem dL_canBegin_110 : decode cL_canBegin 110 = .ok (.aaload, 1) := by decide +kernel
theorem dL_canBegin_111 : decode cL_canBegin 111 = .ok (.iconst 4, 1) := by decide +kernel
theorem dL_canBegin_112 : decode cL_canBegin 112 = .ok (.iaload, 1) := by decide +kernel
theorem dL_canBegin_113 : decode cL_canBegin 113 = .ok (.goto 4, 3) := by decide +kernel
theorem dL_canBegin_116 : decode cL_canBegin 116 = .ok (.iload_n 1, 1) := by decide +kernel
theorem dL_canBegin_117 : decode cL_canBegin 117 = .ok (.istore 13, 2) := by decide +kernel
theorem dL_canBegin_119 : decode cL_canBegin 119 = .ok (.aload 5, 2) := by decide +kernel
theorem dL_canBegin_121 : decode cL_canBegin 121 = .ok (.aload 8, 2) := by decide +kernel
theorem dL_canBegin_123 : decode cL_canBegin 123 = .ok (.iconst 2, 1) := by decide +kernel
theorem dL_canBegin_124 : decode cL_canBegin 124 = .ok (.iload_n 0, 1) := by decide +kernel
theorem dL_canBegin_125 : decode cL_canBegin 125 = .ok (.imul, 1) := by decide +kernel
theorem dL_canBegin_126 : decode cL_canBegin 126 = .ok (.iconst 1, 1) := by decide +kernel
theorem dL_canBegin_127 : decode cL_canBegin 127 = .ok (.iadd, 1) := by decide +kernel
theorem dL_canBegin_128 : decode cL_canBegin 128 = .ok (.iaload, 1) := by decide +kernel
theorem dL_canBegin_129 : decode cL_canBegin 129 = .ok (.invokestatic 45, 3) := by decide +kernel
theorem dL_canBegin_132 : decode cL_canBegin 132 = .ok (.istore 14, 2) := by decide +kernel
theorem dL_canBegin_134 : decode cL_canBegin 134 = .ok (.aload 5, 2) := by decide +kernel
theorem dL_canBegin_136 : decode cL_canBegin 136 = .ok (.iconst 5, 1) := by decide +kernel
theorem dL_canBegin_137 : decode cL_canBegin 137 = .ok (.iaload, 1) := by decide +kernel
theorem dL_canBegin_138 : decode cL_canBegin 138 = .ok (.aload 5, 2) := by decide +kernel
theorem dL_canBegin_140 : decode cL_canBegin 140 = .ok (.aload 6, 2) := by decide +kernel
theorem dL_canBegin_142 : decode cL_canBegin 142 = .ok (.iload 10, 2) := by decide +kernel
theorem dL_canBegin_144 : decode cL_canBegin 144 = .ok (.ifCond .eq 10, 3) := by decide +kernel
theorem dL_canBegin_147 : decode cL_canBegin 147 = .ok (.iload_n 2, 1) := by decide +kernel
theorem dL_canBegin_148 : decode cL_canBegin 148 = .ok (.bipush 60, 2) := by decide +kernel
theorem dL_canBegin_150 : decode cL_canBegin 150 = .ok (.iadd, 1) := by decide +kernel
theorem dL_canBegin_151 : decode cL_canBegin 151 = .ok (.goto 4, 3) := by decide +kernel
theorem dL_canBegin_154 : decode cL_canBegin 154 = .ok (.iload_n 2, 1) := by decide +kernel
theorem dL_canBegin_155 : decode cL_canBegin 155 = .ok (.invokestatic 48, 3) := by decide +kernel
theorem dL_canBegin_158 : decode cL_canBegin 158 = .ok (.iadd, 1) := by decide +kernel
theorem dL_canBegin_159 : decode cL_canBegin 159 = .ok (.iload 14, 2) := by decide +kernel
theorem dL_canBegin_161 : decode cL_canBegin 161 = .ok (.if_icmp .lt 38, 3) := by decide +kernel
theorem dL_canBegin_164 : decode cL_canBegin 164 = .ok (.aload 7, 2) := by decide +kernel
theorem dL_canBegin_166 : decode cL_canBegin 166 = .ok (.iconst 2, 1) := by decide +kernel
theorem dL_canBegin_167 : decode cL_canBegin 167 = .ok (.iload 13, 2) := by decide +kernel
theorem dL_canBegin_169 : decode cL_canBegin 169 = .ok (.imul, 1) := by decide +kernel
theorem dL_canBegin_170 : decode cL_canBegin 170 = .ok (.iconst 1, 1) := by decide +kernel
theorem dL_canBegin_171 : decode cL_canBegin 171 = .ok (.iadd, 1) := by decide +kernel
theorem dL_canBegin_172 : decode cL_canBegin 172 = .ok (.iaload, 1) := by decide +kernel
theorem dL_canBegin_173 : decode cL_canBegin 173 = .ok (.aload 5, 2) := by decide +kernel
theorem dL_canBegin_175 : decode cL_canBegin 175 = .ok (.aload 6, 2) := by decide +kernel
theorem dL_canBegin_177 : decode cL_canBegin 177 = .ok (.iload 10, 2) := by decide +kernel
end
section
theorem dL_canBegin_179 : decode cL_canBegin 179 = .ok (.ifCond .eq 7, 3) := by decide +kernel
theorem dL_canBegin_182 : decode cL_canBegin 182 = .ok (.iload_n 2, 1) := by decide +kernel
theorem dL_canBegin_183 : decode cL_canBegin 183 = .ok (.goto 7, 3) := by decide +kernel
theorem dL_canBegin_186 : decode cL_canBegin 186 = .ok (.iload_n 2, 1) := by decide +kernel
theorem dL_canBegin_187 : decode cL_canBegin 187 = .ok (.bipush 60, 2) := by decide +kernel
theorem dL_canBegin_189 : decode cL_canBegin 189 = .ok (.iadd, 1) := by decide +kernel
theorem dL_canBegin_190 : decode cL_canBegin 190 = .ok (.invokestatic 48, 3) := by decide +kernel
theorem dL_canBegin_193 : decode cL_canBegin 193 = .ok (.iadd, 1) := by decide +kernel
theorem dL_canBegin_194 : decode cL_canBegin 194 = .ok (.iload 14, 2) := by decide +kernel
theorem dL_canBegin_196 : decode cL_canBegin 196 = .ok (.if_icmp .ge 5, 3) := by decide +kernel
theorem dL_canBegin_199 : decode cL_canBegin 199 = .ok (.iconst 0, 1) := by decide +kernel
theorem dL_canBegin_200 : decode cL_canBegin 200 = .ok (.ireturn, 1) := by decide +kernel
theorem dL_canBegin_201 : decode cL_canBegin 201 = .ok (.iload 10, 2) := by decide +kernel
theorem dL_canBegin_203 : decode cL_canBegin 203 = .ok (.ifCond .ne 20, 3) := by decide +kernel
theorem dL_canBegin_206 : decode cL_canBegin 206 = .ok (.aload 7, 2) := by decide +kernel
theorem dL_canBegin_208 : decode cL_canBegin 208 = .ok (.iconst 2, 1) := by decide +kernel
theorem dL_canBegin_209 : decode cL_canBegin 209 = .ok (.iload_n 1, 1) := by decide +kernel
theorem dL_canBegin_210 : decode cL_canBegin 210 = .ok (.imul, 1) := by decide +kernel
theorem dL_canBegin_211 : decode cL_canBegin 211 = .ok (.iaload, 1) := by decide +kernel
theorem dL_canBegin_212 : decode cL_canBegin 212 = .ok (.aload 8, 2) := by decide +kernel
theorem dL_canBegin_214 : decode cL_canBegin 214 = .ok (.iconst 2, 1) := by decide +kernel
theorem dL_canBegin_215 : decode cL_canBegin 215 = .ok (.iload_n 0, 1) := by decide +kernel
theorem dL_canBegin_216 : decode cL_canBegin 216 = .ok (.imul, 1) := by decide +kernel
theorem dL_canBegin_217 : decode cL_canBegin 217 = .ok (.iaload, 1) := by decide +kernel
theorem dL_canBegin_218 : decode cL_canBegin 218 = .ok (.if_icmp .ge 5, 3) := by decide +kernel
theorem dL_canBegin_221 : decode cL_canBegin 221 = .ok (.iconst 0, 1) := by decide +kernel
theorem dL_canBegin_222 : decode cL_canBegin 222 = .ok (.ireturn, 1) := by decide +kernel
theorem dL_canBegin_223 : decode cL_canBegin 223 = .ok (.iconst 0, 1) := by decide +kernel
theorem dL_canBegin_224 : decode cL_canBegin 224 = .ok (.istore 15, 2) := by decide +kernel
theorem dL_canBegin_226 : decode cL_canBegin 226 = .ok (.iload 15, 2) := by decide +kernel
theorem dL_canBegin_228 : decode cL_canBegin 228 = .ok (.iload_n 3, 1) := by decide +kernel
theorem dL_canBegin_229 : decode cL_canBegin 229 = .ok (.if_icmp .ge 109, 3) := by decide +kernel
theorem dL_canBegin_232 : decode cL_canBegin 232 = .ok (.iload 10, 2) := by decide +kernel
theorem dL_canBegin_234 : decode cL_canBegin 234 = .ok (.ifCond .ne 49, 3) := by decide +kernel
theorem dL_canBegin_237 : decode cL_canBegin 237 = .ok (.aload 4, 2) := by decide +kernel
theorem dL_canBegin_239 : decode cL_canBegin 239 = .ok (.iload 15, 2) := by decide +kernel
theorem dL_canBegin_241 : decode cL_canBegin 241 = .ok (.aaload, 1) := by decide +kernel
theorem dL_canBegin_242 : decode cL_canBegin 242 = .ok (.iconst 5, 1) := by decide +kernel
theorem dL_canBegin_243 : decode cL_canBegin 243 = .ok (.iaload, 1) := by decide +kernel
theorem dL_canBegin_244 : decode cL_canBegin 244 = .ok (.ifCond .ne 39, 3) := by decide +kernel
theorem dL_canBegin_247 : decode cL_canBegin 247 = .ok (.aload 4, 2) := by decide +kernel
theorem dL_canBegin_249 : decode cL_canBegin 249 = .ok (.iload 15, 2) := by decide +kernel
theorem dL_canBegin_251 : decode cL_canBegin 251 = .ok (.aaload, 1) := by decide +kernel
theorem dL_canBegin_252 : decode cL_canBegin 252 = .ok (.iconst 4, 1) := by decide +kernel
theorem dL_canBegin_253 : decode cL_canBegin 253 = .ok (.iaload, 1) := by decide +kernel
theorem dL_canBegin_254 : decode cL_canBegin 254 = .ok (.iload_n 1, 1) := by decide +kernel
theorem dL_canBegin_255 : decode cL_canBegin 255 = .ok (.if_icmp .ne 28, 3) := by decide +kernel
theorem dL_canBegin_258 : decode cL_canBegin 258 = .ok (.aload 4, 2) := by decide +kernel
theorem dL_canBegin_260 : decode cL_canBegin 260 = .ok (.iload 15, 2) := by decide +kernel
theorem dL_canBegin_262 : decode cL_canBegin 262 = .ok (.aaload, 1) := by decide +kernel
theorem dL_canBegin_263 : decode cL_canBegin 263 = .ok (.iconst 0, 1) := by decide +kernel
theorem dL_canBegin_264 : decode cL_canBegin 264 = .ok (.iaload, 1) := by decide +kernel
theorem dL_canBegin_265 : decode cL_canBegin 265 = .ok (.iload_n 0, 1) := by decide +kernel
theorem dL_canBegin_266 : decode cL_canBegin 266 = .ok (.if_icmp .eq 17, 3) := by decide +kernel
theorem dL_canBegin_269 : decode cL_canBegin 269 = .ok (.iload_n 3, 1) := by decide +kernel
theorem dL_canBegin_270 : decode cL_canBegin 270 = .ok (.aload 4, 2) := by decide +kernel
theorem dL_canBegin_272 : decode cL_canBegin 272 = .ok (.iload 15, 2) := by decide +kernel
theorem dL_canBegin_274 : decode cL_canBegin 274 = .ok (.invokestatic 52, 3) := by decide +kernel
theorem dL_canBegin_277 : decode cL_canBegin 277 = .ok (.iload_n 2, 1) := by decide +kernel
theorem dL_canBegin_278 : decode cL_canBegin 278 = .ok (.if_icmp .le 5, 3) := by decide +kernel
theorem dL_canBegin_281 : decode cL_canBegin 281 = .ok (.iconst 0, 1) := by decide +kernel
theorem dL_canBegin_282 : decode cL_canBegin 282 = .ok (.ireturn, 1) := by decide +kernel
theorem dL_canBegin_283 : decode cL_canBegin 283 = .ok (.aload 4, 2) := by decide +kernel
theorem dL_canBegin_285 : decode cL_canBegin 285 = .ok (.iload 15, 2) := by decide +kernel
theorem dL_canBegin_287 : decode cL_canBegin 287 = .ok (.aaload, 1) := by decide +kernel
theorem dL_canBegin_288 : decode cL_canBegin 288 = .ok (.iconst 1, 1) := by decide +kernel
theorem dL_canBegin_289 : decode cL_canBegin 289 = .ok (.iaload, 1) := by decide +kernel
theorem dL_canBegin_290 : decode cL_canBegin 290 = .ok (.iload_n 2, 1) := by decide +kernel
theorem dL_canBegin_291 : decode cL_canBegin 291 = .ok (.isub, 1) := by decide +kernel
theorem dL_canBegin_292 : decode cL_canBegin 292 = .ok (.invokestatic 56, 3) := by decide +kernel
theorem dL_canBegin_295 : decode cL_canBegin 295 = .ok (.istore 16, 2) := by decide +kernel
theorem dL_canBegin_297 : decode cL_canBegin 297 = .ok (.iload 16, 2) := by decide +kernel
theorem dL_canBegin_299 : decode cL_canBegin 299 = .ok (.aload 4, 2) := by decide +kernel
theorem dL_canBegin_301 : decode cL_canBegin 301 = .ok (.iload 15, 2) := by decide +kernel
theorem dL_canBegin_303 : decode cL_canBegin 303 = .ok (.aaload, 1) := by decide +kernel
theorem dL_canBegin_304 : decode cL_canBegin 304 = .ok (.iconst 5, 1) := by decide +kernel
theorem dL_canBegin_305 : decode cL_canBegin 305 = .ok (.iaload, 1) := by decide +kernel
theorem dL_canBegin_306 : decode cL_canBegin 306 = .ok (.iconst 1, 1) := by decide +kernel
theorem dL_canBegin_307 : decode cL_canBegin 307 = .ok (.if_icmp .ne 7, 3) := by decide +kernel
theorem dL_canBegin_310 : decode cL_canBegin 310 = .ok (.iconst 1, 1) := by decide +kernel
theorem dL_canBegin_311 : decode cL_canBegin 311 = .ok (.goto 4, 3) := by decide +kernel
theorem dL_canBegin_314 : decode cL_canBegin 314 = .ok (.iconst 0, 1) := by decide +kernel
theorem dL_canBegin_315 : decode cL_canBegin 315 = .ok (.iload 10, 2) := by decide +kernel
theorem dL_canBegin_317 : decode cL_canBegin 317 = .ok (.if_icmp .ne 8, 3) := by decide +kernel
theorem dL_canBegin_320 : decode cL_canBegin 320 = .ok (.bipush 20, 2) := by decide +kernel
theorem dL_canBegin_322 : decode cL_canBegin 322 = .ok (.goto 5, 3) := by decide +kernel
theorem dL_canBegin_325 : decode cL_canBegin 325 = .ok (.bipush 60, 2) := by decide +kernel
theorem dL_canBegin_327 : decode cL_canBegin 327 = .ok (.if_icmp .ge 5, 3) := by decide +kernel
theorem dL_canBegin_330 : decode cL_canBegin 330 = .ok (.iconst 0, 1) := by decide +kernel
theorem dL_canBegin_331 : decode cL_canBegin 331 = .ok (.ireturn, 1) := by decide +kernel
theorem dL_canBegin_332 : decode cL_canBegin 332 = .ok (.iinc 15 1, 3) := by decide +kernel
theorem dL_canBegin_335 : decode cL_canBegin 335 = .ok (.goto (-109), 3) := by decide +kernel
theorem dL_canBegin_338 : decode cL_canBegin 338 = .ok (.aload 8, 2) := by decide +kernel
theorem dL_canBegin_340 : decode cL_canBegin 340 = .ok (.iconst 2, 1) := by decide +kernel
theorem dL_canBegin_341 : decode cL_canBegin 341 = .ok (.iload_n 0, 1) := by decide +kernel
theorem dL_canBegin_342 : decode cL_canBegin 342 = .ok (.imul, 1) := by decide +kernel
theorem dL_canBegin_343 : decode cL_canBegin 343 = .ok (.iaload, 1) := by decide +kernel
theorem dL_canBegin_344 : decode cL_canBegin 344 = .ok (.invokestatic 61, 3) := by decide +kernel
theorem dL_canBegin_347 : decode cL_canBegin 347 = .ok (.istore 15, 2) := by decide +kernel
theorem dL_canBegin_349 : decode cL_canBegin 349 = .ok (.iconst 0, 1) := by decide +kernel
theorem dL_canBegin_350 : decode cL_canBegin 350 = .ok (.istore 16, 2) := by decide +kernel
theorem dL_canBegin_352 : decode cL_canBegin 352 = .ok (.iload 16, 2) := by decide +kernel
theorem dL_canBegin_354 : decode cL_canBegin 354 = .ok (.bipush 60, 2) := by decide +kernel
theorem dL_canBegin_356 : decode cL_canBegin 356 = .ok (.if_icmp .ge 58, 3) := by decide +kernel
theorem dL_canBegin_359 : decode cL_canBegin 359 = .ok (.iload 10, 2) := by decide +kernel
theorem dL_canBegin_361 : decode cL_canBegin 361 = .ok (.ifCond .eq 13, 3) := by decide +kernel
theorem dL_canBegin_364 : decode cL_canBegin 364 = .ok (.iload 16, 2) := by decide +kernel
theorem dL_canBegin_366 : decode cL_canBegin 366 = .ok (.bipush 40, 2) := by decide +kernel
theorem dL_canBegin_368 : decode cL_canBegin 368 = .ok (.if_icmp .ge 40, 3) := by decide +kernel
theorem dL_canBegin_371 : decode cL_canBegin 371 = .ok (.goto 10, 3) := by decide +kernel
theorem dL_canBegin_374 : decode cL_canBegin 374 = .ok (.iload 16, 2) := by decide +kernel
theorem dL_canBegin_376 : decode cL_canBegin 376 = .ok (.bipush 20, 2) := by decide +kernel
theorem dL_canBegin_378 : decode cL_canBegin 378 = .ok (.if_icmp .lt 30, 3) := by decide +kernel
theorem dL_canBegin_381 : decode cL_canBegin 381 = .ok (.iload 15, 2) := by decide +kernel
theorem dL_canBegin_383 : decode cL_canBegin 383 = .ok (.ifCond .le 25, 3) := by decide +kernel
theorem dL_canBegin_386 : decode cL_canBegin 386 = .ok (.iload_n 3, 1) := by decide +kernel
theorem dL_canBegin_387 : decode cL_canBegin 387 = .ok (.aload 4, 2) := by decide +kernel
theorem dL_canBegin_389 : decode cL_canBegin 389 = .ok (.iload_n 2, 1) := by decide +kernel
theorem dL_canBegin_390 : decode cL_canBegin 390 = .ok (.iload 16, 2) := by decide +kernel
theorem dL_canBegin_392 : decode cL_canBegin 392 = .ok (.iadd, 1) := by decide +kernel
theorem dL_canBegin_393 : decode cL_canBegin 393 = .ok (.invokestatic 64, 3) := by decide +kernel
theorem dL_canBegin_396 : decode cL_canBegin 396 = .ok (.iload 15, 2) := by decide +kernel
theorem dL_canBegin_398 : decode cL_canBegin 398 = .ok (.iadd, 1) := by decide +kernel
theorem dL_canBegin_399 : decode cL_canBegin 399 = .ok (.aload 5, 2) := by decide +kernel
theorem dL_canBegin_401 : decode cL_canBegin 401 = .ok (.iconst 4, 1) := by decide +kernel
theorem dL_canBegin_402 : decode cL_canBegin 402 = .ok (.iaload, 1) := by decide +kernel
theorem dL_canBegin_403 : decode cL_canBegin 403 = .ok (.if_icmp .le 5, 3) := by decide +kernel
theorem dL_canBegin_406 : decode cL_canBegin 406 = .ok (.iconst 0, 1) := by decide +kernel
theorem dL_canBegin_407 : decode cL_canBegin 407 = .ok (.ireturn, 1) := by decide +kernel
theorem dL_canBegin_408 : decode cL_canBegin 408 = .ok (.iinc 16 1, 3) := by decide +kernel
theorem dL_canBegin_411 : decode cL_canBegin 411 = .ok (.goto (-59), 3) := by decide +kernel
theorem dL_canBegin_414 : decode cL_canBegin 414 = .ok (.aload 8, 2) := by decide +kernel
theorem dL_canBegin_416 : decode cL_canBegin 416 = .ok (.iconst 2, 1) := by decide +kernel
theorem dL_canBegin_417 : decode cL_canBegin 417 = .ok (.iload_n 0, 1) := by decide +kernel
theorem dL_canBegin_418 : decode cL_canBegin 418 = .ok (.imul, 1) := by decide +kernel
theorem dL_canBegin_419 : decode cL_canBegin 419 = .ok (.iaload, 1) := by decide +kernel
theorem dL_canBegin_420 : decode cL_canBegin 420 = .ok (.iload 10, 2) := by decide +kernel
theorem dL_canBegin_422 : decode cL_canBegin 422 = .ok (.iload_n 2, 1) := by decide +kernel
theorem dL_canBegin_423 : decode cL_canBegin 423 = .ok (.iload_n 3, 1) := by decide +kernel
theorem dL_canBegin_424 : decode cL_canBegin 424 = .ok (.aload 4, 2) := by decide +kernel
theorem dL_canBegin_426 : decode cL_canBegin 426 = .ok (.aload 5, 2) := by decide +kernel
theorem dL_canBegin_428 : decode cL_canBegin 428 = .ok (.aload 9, 2) := by decide +kernel
theorem dL_canBegin_430 : decode cL_canBegin 430 = .ok (.invokestatic 67, 3) := by decide +kernel
theorem dL_canBegin_433 : decode cL_canBegin 433 = .ok (.ifCond .lt 7, 3) := by decide +kernel
theorem dL_canBegin_436 : decode cL_canBegin 436 = .ok (.iconst 1, 1) := by decide +kernel
theorem dL_canBegin_437 : decode cL_canBegin 437 = .ok (.goto 4, 3) := by decide +kernel
theorem dL_canBegin_440 : decode cL_canBegin 440 = .ok (.iconst 0, 1) := by decide +kernel
theorem dL_canBegin_441 : decode cL_canBegin 441 = .ok (.ireturn, 1) := by decide +kernel
set_option maxRecDepth 20000 in
theorem ggL_told_X6_book : GoodIn wsL_told wsX6_book := goodIn_ca (goodIn_ca (goodIn_ca (goodIn_r _ [6, 7, 8, 9, 10, 11, 12, 13, 14, 15, 5, 16, 17, 18, 19, 20, 21, 22, 23, 24, 25, 26, 27, 28, 29, 30, 31, 32, 33, 34, 35, 36, 37, 38, 39, 40, 41, 42, 43, 44, 45, 46, 47, 48, 49, 50, 51, 52, 53, 54, 55, 56, 57, 58, 59, 60, 61, 62, 63, 64, 65, 66, 67, 68, 69, 70, 71, 72, 73, 74, 75, 76, 77, 78, 79, 80, 81, 82, 83, 84, 85, 86, 87, 88, 89, 90, 91, 92, 93, 94, 95, 96, 97, 98, 99, 100, 101, 102, 103, 104, 105, 106, 107, 108, 109, 110, 111, 112, 113, 114, 115, 116, 117, 118, 119, 120, 121, 122, 123, 124, 125, 126, 127, 128, 129, 130, 131, 132, 133, 134, 135, 136, 137, 138, 139, 140, 141, 142, 143, 144, 145, 146, 147, 148, 149, 150, 151, 152, 153, 154, 155, 156, 157, 158, 159, 160, 161, 162, 163, 164, 165, 166, 167, 168, 169, 170, 171, 172, 173, 174, 175, 176, 177, 178, 179, 180, 181, 182, 183, 184, 185, 186, 187, 188, 189, 190, 191, 192, 193, 194, 195, 196, 197, 198, 199, 200, 201, 202, 203, 204, 205, 206, 207, 208, 209, 210, 211, 212, 213, 214, 215, 216, 217, 218, 219, 220, 221, 222, 223, 224, 225, 226, 227, 228, 229, 230, 231, 232, 233, 234, 235, 236, 237, 238, 239, 240, 241, 242, 243, 244, 245, 246, 247, 248, 249, 250, 251, 252, 253, 254, 255, 256, 257, 258, 259, 260, 261, 262, 263, 264, 265, 266, 267, 268, 269, 270, 271, 272, 273, 274, 275, 276, 277, 278, 279, 280] (by decide +kernel) (by decide +kernel)) (goodIn_sub (fun _ h => List.mem_cons_of_mem _ (List.mem_append_left _ (List.mem_append_left _ (List.mem_append_right _ h)))) (by decide +kernel))) (goodIn_sub (fun _ h => List.mem_cons_of_mem _ (List.mem_append_left _ (List.mem_append_right _ h))) (by decide +kernel))) (goodIn_sub (fun _ h => List.mem_cons_of_mem _ (List.mem_append_right _ h)) (by decide +kernel))
set_option maxRecDepth 20000 in
theorem gL_told_X6_book : GoodIn wsL_told (wsV RL 75 RX6 yX6_book wsX6_book) := goodIn_app (goodIn_of _ (by decide +kernel)) ggL_told_X6_book
theorem dL_told_0 : decode cL_told 0 = .ok (.aload_n 0, 1) := by decide +kernel
theorem dL_told_1 : decode cL_told 1 = .ok (.iload_n 1, 1) := by decide +kernel
theorem dL_told_2 : decode cL_told 2 = .ok (.iload_n 2, 1) := by decide +kernel
theorem dL_told_3 : decode cL_told 3 = .ok (.iload_n 3, 1) := by decide +kernel
theorem dL_told_4 : decode cL_told 4 = .ok (.invokevirtual 75, 3) := by decide +kernel
theorem dL_told_7 : decode cL_told 7 = .ok (.ireturn, 1) := by decide +kernel
theorem dL_told_8 : decode cL_told 8 = .ok (.astore 4, 2) := by decide +kernel
theorem dL_told_10 : decode cL_told 10 = .ok (.bipush (-3), 2) := by decide +kernel
theorem dL_told_12 : decode cL_told 12 = .ok (.ireturn, 1) := by decide +kernel
set_option maxRecDepth 20000 in
theorem ggL_law_X6_init : GoodIn wsL_law wsX6_init := goodIn_r _ [7, 8, 9, 10, 11, 12, 13, 14, 15, 16, 17, 18, 19, 20, 21, 22, 23, 24, 25, 26, 27, 28, 3, 29, 30, 31, 32, 33, 34, 35, 36, 37, 38, 39, 40, 41, 42, 43, 44, 45, 46, 403, 404, 405, 395, 396, 397, 398, 399, 400, 401, 402, 406, 407, 408] (by decide +kernel) (by decide +kernel)
set_option maxRecDepth 20000 in
theorem gL_law_X6_init : GoodIn wsL_law (wsX6_init) := ggL_law_X6_init
set_option maxRecDepth 20000 in
theorem ggL_law_L_build : GoodIn wsL_law wsL_build := goodIn_ca (goodIn_ca (goodIn_ca (goodIn_k 50 rfl rfl (goodIn_r _ [3, 51, 52, 49, 53, 54, 55, 56, 57, 58, 59, 60, 61, 2, 62, 63, 64, 21, 14, 65, 66, 67, 68, 69, 70, 71, 72, 73, 74, 75, 17, 76, 77, 78, 79, 80, 13, 81, 29, 82, 83, 84, 85, 31, 86, 87, 88, 89, 30, 90, 91, 92, 93, 22, 23, 94, 95, 96, 97, 24, 98, 99, 100, 101, 18, 102, 103, 104, 105, 106, 107, 108, 109, 110, 111, 112, 113, 114, 115, 9, 10, 116, 117, 118, 119, 120, 121, 122, 123, 124, 36, 125, 126, 127, 128, 129, 130, 131, 132, 133, 134, 135, 136, 35, 137, 138, 139, 140, 141, 142, 143, 144, 145, 146, 147, 148, 149, 150, 151, 152, 153, 154, 155, 156, 157, 158, 159, 160, 161, 162, 163, 164, 165, 166, 167, 168, 169, 170, 171, 172, 173, 174, 19, 175, 176, 177, 178, 179, 180, 181, 182, 183, 184, 185, 186, 187, 188, 189, 20, 190, 191, 192, 193, 194, 195, 196, 197, 198, 199, 200, 201, 202, 203, 204, 205, 206, 395, 396, 397, 398, 399, 400, 401, 402, 403, 404, 405, 406, 407, 408, 409, 410, 411, 412, 413, 414, 415, 416, 417, 418, 419] (by decide +kernel) (by decide +kernel))) (goodIn_sub (fun _ h => List.mem_append_left _ (List.mem_append_left _ (List.mem_append_right _ h))) (by decide +kernel))) (goodIn_sub (fun _ h => List.mem_append_left _ (List.mem_append_right _ h)) (by decide +kernel))) (goodIn_sub (fun _ h => List.mem_append_right _ h) (by decide +kernel))
set_option maxRecDepth 20000 in
theorem gL_law_L_build : GoodIn wsL_law (va_wsS RL 95 yL_build wsL_build) := goodIn_app (goodIn_of _ (by decide +kernel)) ggL_law_L_build
set_option maxRecDepth 20000 in
theorem ggL_law_L_cell : GoodIn wsL_law wsL_cell := goodIn_r _ [53, 54] (by decide +kernel) (by decide +kernel)
set_option maxRecDepth 20000 in
theorem gL_law_L_cell : GoodIn wsL_law (va_wsS RL 9 yL_cell wsL_cell) := goodIn_app (goodIn_of _ (by decide +kernel)) ggL_law_L_cell
set_option maxRecDepth 20000 in
theorem ggL_law_L_below : GoodIn wsL_law wsL_below := goodIn_r _ [57, 58] (by decide +kernel) (by decide +kernel)
set_option maxRecDepth 20000 in
theorem gL_law_L_below : GoodIn wsL_law (va_wsS RL 15 yL_below wsL_below) := goodIn_app (goodIn_of _ (by decide +kernel)) ggL_law_L_below
set_option maxRecDepth 20000 in
theorem ggL_law_L_told : GoodIn wsL_law wsL_told := goodIn_ca (goodIn_ca (goodIn_ca (goodIn_r _ [209, 210, 211, 212, 213, 2, 214, 63, 64, 21, 215, 216, 217, 218, 219, 220, 221, 19, 18, 105, 106, 107, 17, 108, 77, 222, 223, 224, 205, 206, 65, 66, 67, 68, 69, 70, 71, 72, 109, 110, 111, 225, 226, 227, 228, 229, 230, 231, 232, 233, 234, 235, 236, 237, 238, 239, 240, 241, 242, 243, 244, 245, 246, 247, 248, 249, 36, 250, 251, 252, 253, 9, 10, 254, 255, 256, 257, 258, 259, 260, 261, 262, 263, 264, 265, 138, 139, 140, 266, 267, 268, 269, 270, 271, 272, 273, 274, 275, 276, 277, 278, 279, 22, 280, 281, 282, 283, 284, 285, 286, 287, 288, 289, 290, 291, 292, 293, 294, 14, 295, 296, 297, 13, 298, 31, 30, 29, 82, 83, 84, 85, 299, 300, 301, 302, 23, 303, 304, 305, 306, 307, 308, 309, 310, 24, 311, 312, 313, 314, 315, 316, 317, 318, 319, 320, 321, 322, 323, 324, 325, 326, 327, 328, 20, 329, 330, 331, 332, 192, 333, 199, 197, 334, 335, 336, 337, 200, 338, 339, 340, 341, 342, 343, 344, 345, 346, 347, 348, 349, 350, 351, 352, 353, 354, 355, 119, 120, 121, 122, 123, 124, 125, 126, 127, 128, 129, 130, 131, 132, 133, 134, 135, 136, 35, 137, 141, 142, 143, 144, 145, 146, 147, 148, 149, 150, 151, 152, 153, 154, 155, 156, 157, 158, 159, 160, 161, 162, 163, 164, 165, 166, 167, 168, 169, 170, 395, 396, 397, 398, 399, 400, 401, 402, 420, 421, 422, 423, 424, 425, 426, 406, 407, 408, 412, 413, 414, 415, 427, 428, 429, 430, 409, 410, 411, 403, 404, 405, 416, 417, 418, 419] (by decide +kernel) (by decide +kernel)) (goodIn_sub (fun _ h => List.mem_append_left _ (List.mem_append_left _ (List.mem_append_right _ h))) (by decide +kernel))) (goodIn_sub (fun _ h => List.mem_append_right _ h) (by decide +kernel))) (goodIn_sub (fun _ h => List.mem_append_left _ (List.mem_append_right _ h)) (by decide +kernel))
set_option maxRecDepth 20000 in
theorem gL_law_L_told : GoodIn wsL_law (va_wsS RL 87 yL_told wsL_told) := goodIn_app (goodIn_of _ (by decide +kernel)) ggL_law_L_told
set_option maxRecDepth 20000 in
theorem ggL_law_X6_earliest : GoodIn wsL_law wsX6_earliest := goodIn_ca (goodIn_ca (goodIn_r _ [359, 218, 219, 220, 2, 221, 19, 18, 105, 106, 107, 17, 108, 77, 222, 223, 224, 205, 206, 65, 66, 67, 68, 69, 70, 71, 72, 225, 226, 227, 228, 229, 230, 231, 232, 233, 234, 235, 236, 237, 238, 239, 240, 241, 242, 243, 244, 245, 246, 247, 248, 249, 36, 250, 251, 252, 253, 9, 10, 254, 255, 256, 257, 258, 259, 260, 261, 262, 263, 264, 265, 138, 139, 140, 266, 267, 268, 269, 21, 270, 271, 272, 273, 217, 274, 275, 276, 277, 278, 279, 22, 280, 281, 282, 283, 284, 285, 286, 287, 288, 289, 290, 291, 292, 293, 294, 14, 295, 296, 297, 13, 298, 31, 30, 29, 82, 83, 84, 85, 299, 300, 301, 302, 23, 303, 304, 305, 306, 307, 308, 309, 310, 24, 311, 312, 313, 314, 315, 316, 317, 318, 319, 320, 321, 322, 323, 324, 325, 326, 327, 328, 20, 329, 330, 331, 332, 192, 333, 199, 197, 334, 335, 336, 337, 200, 338, 339, 340, 341, 342, 395, 396, 397, 398, 399, 400, 401, 402, 406, 407, 408, 412, 413, 414, 415, 420, 421, 422, 423, 424, 425, 426, 427, 428, 429, 430, 409, 410, 411, 403, 404, 405, 416, 417, 418, 419] (by decide +kernel) (by decide +kernel)) (goodIn_sub (fun _ h => List.mem_append_right _ h) (by decide +kernel))) (goodIn_sub (fun _ h => List.mem_append_left _ (List.mem_append_right _ h)) (by decide +kernel))
set_option maxRecDepth 20000 in
theorem gL_law_X6_earliest : GoodIn wsL_law (wsV RL 85 RX6 yX6_earliest wsX6_earliest) := goodIn_app (goodIn_of _ (by decide +kernel)) ggL_law_X6_earliest
set_option maxRecDepth 20000 in
theorem ggL_law_X6_passage : GoodIn wsL_law wsX6_passage := goodIn_ca (goodIn_r _ [363, 205, 206, 21, 270, 105, 106, 107, 17, 108, 77, 222, 223, 2, 224, 234, 235, 236, 237, 238, 239, 240, 241, 242, 243, 244, 245, 246, 247, 248, 249, 36, 395, 396, 397, 398, 399, 400, 401, 402, 420, 421, 422, 423, 424, 425, 426, 427, 428, 429, 430, 412, 413, 414, 415, 416, 417, 418, 419, 409, 410, 411, 406, 407, 408] (by decide +kernel) (by decide +kernel)) (goodIn_sub (fun _ h => List.mem_append_right _ h) (by decide +kernel))
set_option maxRecDepth 20000 in
theorem gL_law_X6_passage : GoodIn wsL_law (wsV RL 91 RX6 yX6_passage wsX6_passage) := goodIn_app (goodIn_of _ (by decide +kernel)) ggL_law_X6_passage
set_option maxRecDepth 20000 in
theorem ggL_law_L_canBegin : GoodIn wsL_law wsL_canBegin := goodIn_k 366 rfl rfl (goodIn_r _ [367, 285, 139, 286, 368, 369, 49, 370, 371, 372, 373, 374, 375, 376, 377, 378, 379, 380, 381, 382, 383, 384, 385, 386] (by decide +kernel) (by decide +kernel))
set_option maxRecDepth 20000 in
theorem gL_law_L_canBegin : GoodIn wsL_law (va_wsS RL 71 yL_canBegin wsL_canBegin) := goodIn_app (goodIn_of _ (by decide +kernel)) ggL_law_L_canBegin
set_option maxRecDepth 20000 in
theorem ggL_law_X6_occupant : GoodIn wsL_law wsX6_occupant := goodIn_ca (goodIn_ca (goodIn_r _ [390, 18, 21, 270, 105, 106, 107, 17, 108, 77, 222, 223, 2, 224, 205, 206, 65, 66, 67, 68, 69, 70, 71, 72, 234, 235, 236, 237, 238, 239, 240, 241, 242, 243, 244, 245, 246, 247, 248, 249, 36, 391, 392, 393, 217, 394, 275, 351, 395, 396, 397, 398, 399, 400, 401, 402, 420, 421, 422, 423, 424, 425, 426, 427, 428, 429, 430, 409, 410, 411, 412, 413, 414, 415, 406, 407, 408] (by decide +kernel) (by decide +kernel)) (goodIn_sub (fun _ h => List.mem_append_right _ h) (by decide +kernel))) (goodIn_sub (fun _ h => List.mem_append_left _ (List.mem_append_right _ h)) (by decide +kernel))
set_option maxRecDepth 20000 in
theorem gL_law_X6_occupant : GoodIn wsL_law (wsV RL 101 RX6 yX6_occupant wsX6_occupant) := goodIn_app (goodIn_of _ (by decide +kernel)) ggL_law_X6_occupant
set_option maxRecDepth 20000 in
theorem ggL_law_L_leaves : GoodIn wsL_law wsL_leaves := goodIn_r _ [376, 377] (by decide +kernel) (by decide +kernel)
set_option maxRecDepth 20000 in
theorem gL_law_L_leaves : GoodIn wsL_law (va_wsS RL 52 yL_leaves wsL_leaves) := goodIn_app (goodIn_of _ (by decide +kernel)) ggL_law_L_leaves
set_option maxRecDepth 20000 in
theorem ggL_law_X6_count : GoodIn wsL_law wsX6_count := goodIn_ca (goodIn_r _ [204, 205, 206, 14, 18, 19, 20, 21, 105, 106, 107, 17, 108, 77, 395, 396, 397, 398, 399, 400, 401, 402, 403, 404, 405, 406, 407, 408] (by decide +kernel) (by decide +kernel)) (goodIn_sub (fun _ h => List.mem_append_right _ h) (by decide +kernel))
set_option maxRecDepth 20000 in
theorem gL_law_X6_count : GoodIn wsL_law (wsV RL 41 RX6 yX6_count wsX6_count) := goodIn_app (goodIn_of _ (by decide +kernel)) ggL_law_X6_count
theorem dL_law_0 : decode cL_law 0 = .ok (.new 20, 3) := by decide +kernel
theorem dL_law_3 : decode cL_law 3 = .ok (.dup, 1) := by decide +kernel
theorem dL_law_4 : decode cL_law 4 = .ok (.invokespecial 94, 3) := by decide +kernel
theorem dL_law_7 : decode cL_law 7 = .ok (.astore_n 1, 1) := by decide +kernel
theorem dL_law_8 : decode cL_law 8 = .ok (.bipush 20, 2) := by decide +kernel
theorem dL_law_10 : decode cL_law 10 = .ok (.newarray .int, 2) := by decide +kernel
theorem dL_law_12 : decode cL_law 12 = .ok (.astore_n 2, 1) := by decide +kernel
theorem dL_law_13 : decode cL_law 13 = .ok (.bipush 6, 2) := by decide +kernel
theorem dL_law_15 : decode cL_law 15 = .ok (.newarray .int, 2) := by decide +kernel
theorem dL_law_17 : decode cL_law 17 = .ok (.astore_n 3, 1) := by decide +kernel
theorem dL_law_18 : decode cL_law 18 = .ok (.bipush 12, 2) := by decide +kernel
theorem dL_law_20 : decode cL_law 20 = .ok (.newarray .int, 2) := by decide +kernel
theorem dL_law_22 : decode cL_law 22 = .ok (.astore 4, 2) := by decide +kernel
theorem dL_law_24 : decode cL_law 24 = .ok (.bipush 6, 2) := by decide +kernel
theorem dL_law_26 : decode cL_law 26 = .ok (.newarray .int, 2) := by decide +kernel
theorem dL_law_28 : decode cL_law 28 = .ok (.astore 5, 2) := by decide +kernel
theorem dL_law_30 : decode cL_law 30 = .ok (.aload_n 1, 1) := by decide +kernel
theorem dL_law_31 : decode cL_law 31 = .ok (.aload_n 0, 1) := by decide +kernel
theorem dL_law_32 : decode cL_law 32 = .ok (.iconst 0, 1) := by decide +kernel
theorem dL_law_33 : decode cL_law 33 = .ok (.aload_n 2, 1) := by decide +kernel
theorem dL_law_34 : decode cL_law 34 = .ok (.aload_n 3, 1) := by decide +kernel
theorem dL_law_35 : decode cL_law 35 = .ok (.aload 4, 2) := by decide +kernel
theorem dL_law_37 : decode cL_law 37 = .ok (.aload 5, 2) := by decide +kernel
theorem dL_law_39 : decode cL_law 39 = .ok (.invokestatic 95, 3) := by decide +kernel
theorem dL_law_42 : decode cL_law 42 = .ok (.astore 6, 2) := by decide +kernel
theorem dL_law_44 : decode cL_law 44 = .ok (.aload 6, 2) := by decide +kernel
theorem dL_law_46 : decode cL_law 46 = .ok (.ifnonnull 5, 3) := by decide +kernel
theorem dL_law_49 : decode cL_law 49 = .ok (.iconst 0, 1) := by decide +kernel
theorem dL_law_50 : decode cL_law 50 = .ok (.ireturn, 1) := by decide +kernel
theorem dL_law_51 : decode cL_law 51 = .ok (.bipush 40, 2) := by decide +kernel
theorem dL_law_53 : decode cL_law 53 = .ok (.anewarray 99, 3) := by decide +kernel
theorem dL_law_56 : decode cL_law 56 = .ok (.astore 7, 2) := by decide +kernel
theorem dL_law_58 : decode cL_law 58 = .ok (.iconst 0, 1) := by decide +kernel
theorem dL_law_59 : decode cL_law 59 = .ok (.istore 8, 2) := by decide +kernel
theorem dL_law_61 : decode cL_law 61 = .ok (.bipush 6, 2) := by decide +kernel
theorem dL_law_63 : decode cL_law 63 = .ok (.newarray .int, 2) := by decide +kernel
theorem dL_law_65 : decode cL_law 65 = .ok (.astore 9, 2) := by decide +kernel
theorem dL_law_67 : decode cL_law 67 = .ok (.iconst 0, 1) := by decide +kernel
theorem dL_law_68 : decode cL_law 68 = .ok (.istore 10, 2) := by decide +kernel
theorem dL_law_70 : decode cL_law 70 = .ok (.iload 10, 2) := by decide +kernel
theorem dL_law_72 : decode cL_law 72 = .ok (.bipush 10, 2) := by decide +kernel
theorem dL_law_74 : decode cL_law 74 = .ok (.if_icmp .ge 294, 3) := by decide +kernel
theorem dL_law_77 : decode cL_law 77 = .ok (.aload_n 0, 1) := by decide +kernel
theorem dL_law_78 : decode cL_law 78 = .ok (.bipush 6, 2) := by decide +kernel
theorem dL_law_80 : decode cL_law 80 = .ok (.iload 10, 2) := by decide +kernel
theorem dL_law_82 : decode cL_law 82 = .ok (.iadd, 1) := by decide +kernel
theorem dL_law_83 : decode cL_law 83 = .ok (.invokestatic 9, 3) := by decide +kernel
theorem dL_law_86 : decode cL_law 86 = .ok (.istore 11, 2) := by decide +kernel
theorem dL_law_88 : decode cL_law 88 = .ok (.iload 11, 2) := by decide +kernel
theorem dL_law_90 : decode cL_law 90 = .ok (.aload 6, 2) := by decide +kernel
theorem dL_law_92 : decode cL_law 92 = .ok (.iconst 2, 1) := by decide +kernel
theorem dL_law_93 : decode cL_law 93 = .ok (.iaload, 1) := by decide +kernel
theorem dL_law_94 : decode cL_law 94 = .ok (.invokestatic 15, 3) := by decide +kernel
theorem dL_law_97 : decode cL_law 97 = .ok (.istore 12, 2) := by decide +kernel
theorem dL_law_99 : decode cL_law 99 = .ok (.aload 9, 2) := by decide +kernel
theorem dL_law_101 : decode cL_law 101 = .ok (.iload 12, 2) := by decide +kernel
theorem dL_law_103 : decode cL_law 103 = .ok (.iaload, 1) := by decide +kernel
theorem dL_law_104 : decode cL_law 104 = .ok (.iconst 2, 1) := by decide +kernel
theorem dL_law_105 : decode cL_law 105 = .ok (.irem, 1) := by decide +kernel
theorem dL_law_106 : decode cL_law 106 = .ok (.iconst 1, 1) := by decide +kernel
theorem dL_law_107 : decode cL_law 107 = .ok (.if_icmp .ne 7, 3) := by decide +kernel
theorem dL_law_110 : decode cL_law 110 = .ok (.iconst (-1), 1) := by decide +kernel
theorem dL_law_111 : decode cL_law 111 = .ok (.goto 14, 3) := by decide +kernel
theorem dL_law_114 : decode cL_law 114 = .ok (.iload 11, 2) := by decide +kernel
theorem dL_law_116 : decode cL_law 116 = .ok (.iconst 3, 1) := by decide +kernel
theorem dL_law_117 : decode cL_law 117 = .ok (.ishr, 1) := by decide +kernel
theorem dL_law_118 : decode cL_law 118 = .ok (.aload 6, 2) := by decide +kernel
theorem dL_law_120 : decode cL_law 120 = .ok (.iconst 1, 1) := by decide +kernel
theorem dL_law_121 : decode cL_law 121 = .ok (.iaload, 1) := by decide +kernel
theorem dL_law_122 : decode cL_law 122 = .ok (.invokestatic 15, 3) := by decide +kernel
theorem dL_law_125 : decode cL_law 125 = .ok (.istore 13, 2) := by decide +kernel
theorem dL_law_127 : decode cL_law 127 = .ok (.iload 11, 2) := by decide +kernel
theorem dL_law_129 : decode cL_law 129 = .ok (.iconst 5, 1) := by decide +kernel
theorem dL_law_130 : decode cL_law 130 = .ok (.ishr, 1) := by decide +kernel
theorem dL_law_131 : decode cL_law 131 = .ok (.sipush 1000, 3) := by decide +kernel
theorem dL_law_134 : decode cL_law 134 = .ok (.invokestatic 15, 3) := by decide +kernel
theorem dL_law_137 : decode cL_law 137 = .ok (.istore 14, 2) := by decide +kernel
theorem dL_law_139 : decode cL_law 139 = .ok (.aload_n 1, 1) := by decide +kernel
theorem dL_law_140 : decode cL_law 140 = .ok (.iload 12, 2) := by decide +kernel
theorem dL_law_142 : decode cL_law 142 = .ok (.iload 13, 2) := by decide +kernel
theorem dL_law_144 : decode cL_law 144 = .ok (.iload 14, 2) := by decide +kernel
theorem dL_law_146 : decode cL_law 146 = .ok (.invokestatic 87, 3) := by decide +kernel
theorem dL_law_149 : decode cL_law 149 = .ok (.istore 15, 2) := by decide +kernel
theorem dL_law_151 : decode cL_law 151 = .ok (.iload 15, 2) := by decide +kernel
theorem dL_law_153 : decode cL_law 153 = .ok (.bipush (-3), 2) := by decide +kernel
theorem dL_law_155 : decode cL_law 155 = .ok (.if_icmp .ne 19, 3) := by decide +kernel
theorem dL_law_158 : decode cL_law 158 = .ok (.aload_n 1, 1) := by decide +kernel
theorem dL_law_159 : decode cL_law 159 = .ok (.iload 12, 2) := by decide +kernel
theorem dL_law_161 : decode cL_law 161 = .ok (.iload 13, 2) := by decide +kernel
theorem dL_law_163 : decode cL_law 163 = .ok (.iload 14, 2) := by decide +kernel
theorem dL_law_165 : decode cL_law 165 = .ok (.invokevirtual 85, 3) := by decide +kernel
theorem dL_law_168 : decode cL_law 168 = .ok (.iconst (-1), 1) := by decide +kernel
theorem dL_law_169 : decode cL_law 169 = .ok (.if_icmp .eq 193, 3) := by decide +kernel
theorem dL_law_172 : decode cL_law 172 = .ok (.iconst 0, 1) := by decide +kernel
theorem dL_law_173 : decode cL_law 173 = .ok (.ireturn, 1) := by decide +kernel
theorem dL_law_174 : decode cL_law 174 = .ok (.aload_n 1, 1) := by decide +kernel
theorem dL_law_175 : decode cL_law 175 = .ok (.iload 15, 2) := by decide +kernel
theorem dL_law_177 : decode cL_law 177 = .ok (.iconst 1, 1) := by decide +kernel
theorem dL_law_178 : decode cL_law 178 = .ok (.invokevirtual 91, 3) := by decide +kernel
theorem dL_law_181 : decode cL_law 181 = .ok (.istore 16, 2) := by decide +kernel
theorem dL_law_183 : decode cL_law 183 = .ok (.iload 15, 2) := by decide +kernel
theorem dL_law_185 : decode cL_law 185 = .ok (.iload 8, 2) := by decide +kernel
theorem dL_law_187 : decode cL_law 187 = .ok (.if_icmp .ne 10, 3) := by decide +kernel
theorem dL_law_190 : decode cL_law 190 = .ok (.iload 16, 2) := by decide +kernel
theorem dL_law_192 : decode cL_law 192 = .ok (.iload 14, 2) := by decide +kernel
theorem dL_law_194 : decode cL_law 194 = .ok (.if_icmp .ge 5, 3) := by decide +kernel
theorem dL_law_197 : decode cL_law 197 = .ok (.iconst 0, 1) := by decide +kernel
theorem dL_law_198 : decode cL_law 198 = .ok (.ireturn, 1) := by decide +kernel
theorem dL_law_199 : decode cL_law 199 = .ok (.iload 14, 2) := by decide +kernel
theorem dL_law_201 : decode cL_law 201 = .ok (.istore 17, 2) := by decide +kernel
theorem dL_law_203 : decode cL_law 203 = .ok (.iload 17, 2) := by decide +kernel
theorem dL_law_205 : decode cL_law 205 = .ok (.iload 16, 2) := by decide +kernel
theorem dL_law_207 : decode cL_law 207 = .ok (.if_icmp .ge 35, 3) := by decide +kernel
theorem dL_law_210 : decode cL_law 210 = .ok (.iload 12, 2) := by decide +kernel
theorem dL_law_212 : decode cL_law 212 = .ok (.iload 13, 2) := by decide +kernel
theorem dL_law_214 : decode cL_law 214 = .ok (.iload 17, 2) := by decide +kernel
theorem dL_law_216 : decode cL_law 216 = .ok (.iload 8, 2) := by decide +kernel
theorem dL_law_218 : decode cL_law 218 = .ok (.aload 7, 2) := by decide +kernel
theorem dL_law_220 : decode cL_law 220 = .ok (.aload 6, 2) := by decide +kernel
theorem dL_law_222 : decode cL_law 222 = .ok (.aload_n 2, 1) := by decide +kernel
theorem dL_law_223 : decode cL_law 223 = .ok (.aload_n 3, 1) := by decide +kernel
theorem dL_law_224 : decode cL_law 224 = .ok (.aload 4, 2) := by decide +kernel
theorem dL_law_226 : decode cL_law 226 = .ok (.aload 5, 2) := by decide +kernel
theorem dL_law_228 : decode cL_law 228 = .ok (.invokestatic 71, 3) := by decide +kernel
theorem dL_law_231 : decode cL_law 231 = .ok (.ifCond .eq 5, 3) := by decide +kernel
theorem dL_law_234 : decode cL_law 234 = .ok (.iconst 0, 1) := by decide +kernel
theorem dL_law_235 : decode cL_law 235 = .ok (.ireturn, 1) := by decide +kernel
theorem dL_law_236 : decode cL_law 236 = .ok (.iinc 17 1, 3) := by decide +kernel
theorem dL_law_239 : decode cL_law 239 = .ok (.goto (-36), 3) := by decide +kernel
theorem dL_law_242 : decode cL_law 242 = .ok (.iload 12, 2) := by decide +kernel
theorem dL_law_244 : decode cL_law 244 = .ok (.iload 13, 2) := by decide +kernel
theorem dL_law_246 : decode cL_law 246 = .ok (.iload 16, 2) := by decide +kernel
theorem dL_law_248 : decode cL_law 248 = .ok (.iload 8, 2) := by decide +kernel
theorem dL_law_250 : decode cL_law 250 = .ok (.aload 7, 2) := by decide +kernel
theorem dL_law_252 : decode cL_law 252 = .ok (.aload 6, 2) := by decide +kernel
theorem dL_law_254 : decode cL_law 254 = .ok (.aload_n 2, 1) := by decide +kernel
theorem dL_law_255 : decode cL_law 255 = .ok (.aload_n 3, 1) := by decide +kernel
theorem dL_law_256 : decode cL_law 256 = .ok (.aload 4, 2) := by decide +kernel
theorem dL_law_258 : decode cL_law 258 = .ok (.aload 5, 2) := by decide +kernel
theorem dL_law_260 : decode cL_law 260 = .ok (.invokestatic 71, 3) := by decide +kernel
theorem dL_law_263 : decode cL_law 263 = .ok (.ifCond .ne 5, 3) := by decide +kernel
theorem dL_law_266 : decode cL_law 266 = .ok (.iconst 0, 1) := by decide +kernel
theorem dL_law_267 : decode cL_law 267 = .ok (.ireturn, 1) := by decide +kernel
theorem dL_law_268 : decode cL_law 268 = .ok (.aload 7, 2) := by decide +kernel
theorem dL_law_270 : decode cL_law 270 = .ok (.iload 8, 2) := by decide +kernel
theorem dL_law_272 : decode cL_law 272 = .ok (.bipush 6, 2) := by decide +kernel
theorem dL_law_274 : decode cL_law 274 = .ok (.newarray .int, 2) := by decide +kernel
theorem dL_law_276 : decode cL_law 276 = .ok (.dup, 1) := by decide +kernel
theorem dL_law_277 : decode cL_law 277 = .ok (.iconst 0, 1) := by decide +kernel
theorem dL_law_278 : decode cL_law 278 = .ok (.iload 12, 2) := by decide +kernel
theorem dL_law_280 : decode cL_law 280 = .ok (.iastore, 1) := by decide +kernel
theorem dL_law_281 : decode cL_law 281 = .ok (.dup, 1) := by decide +kernel
theorem dL_law_282 : decode cL_law 282 = .ok (.iconst 1, 1) := by decide +kernel
theorem dL_law_283 : decode cL_law 283 = .ok (.iload 16, 2) := by decide +kernel
theorem dL_law_285 : decode cL_law 285 = .ok (.iastore, 1) := by decide +kernel
theorem dL_law_286 : decode cL_law 286 = .ok (.dup, 1) := by decide +kernel
theorem dL_law_287 : decode cL_law 287 = .ok (.iconst 2, 1) := by decide +kernel
theorem dL_law_288 : decode cL_law 288 = .ok (.aload_n 1, 1) := by decide +kernel
theorem dL_law_289 : decode cL_law 289 = .ok (.iload 8, 2) := by decide +kernel
theorem dL_law_291 : decode cL_law 291 = .ok (.iconst 2, 1) := by decide +kernel
theorem dL_law_292 : decode cL_law 292 = .ok (.invokevirtual 91, 3) := by decide +kernel
theorem dL_law_295 : decode cL_law 295 = .ok (.iastore, 1) := by decide +kernel
theorem dL_law_296 : decode cL_law 296 = .ok (.dup, 1) := by decide +kernel
theorem dL_law_297 : decode cL_law 297 = .ok (.iconst 3, 1) := by decide +kernel
theorem dL_law_298 : decode cL_law 298 = .ok (.aload_n 1, 1) := by decide +kernel
theorem dL_law_299 : decode cL_law 299 = .ok (.iload 8, 2) := by decide +kernel
theorem dL_law_301 : decode cL_law 301 = .ok (.iconst 3, 1) := by decide +kernel
theorem dL_law_302 : decode cL_law 302 = .ok (.invokevirtual 91, 3) := by decide +kernel
theorem dL_law_305 : decode cL_law 305 = .ok (.iastore, 1) := by decide +kernel
theorem dL_law_306 : decode cL_law 306 = .ok (.dup, 1) := by decide +kernel
theorem dL_law_307 : decode cL_law 307 = .ok (.iconst 4, 1) := by decide +kernel
theorem dL_law_308 : decode cL_law 308 = .ok (.aload_n 1, 1) := by decide +kernel
theorem dL_law_309 : decode cL_law 309 = .ok (.iload 8, 2) := by decide +kernel
theorem dL_law_311 : decode cL_law 311 = .ok (.iconst 4, 1) := by decide +kernel
theorem dL_law_312 : decode cL_law 312 = .ok (.invokevirtual 91, 3) := by decide +kernel
theorem dL_law_315 : decode cL_law 315 = .ok (.iastore, 1) := by decide +kernel
theorem dL_law_316 : decode cL_law 316 = .ok (.dup, 1) := by decide +kernel
theorem dL_law_317 : decode cL_law 317 = .ok (.iconst 5, 1) := by decide +kernel
theorem dL_law_318 : decode cL_law 318 = .ok (.aload_n 1, 1) := by decide +kernel
theorem dL_law_319 : decode cL_law 319 = .ok (.iload 8, 2) := by decide +kernel
theorem dL_law_321 : decode cL_law 321 = .ok (.iconst 5, 1) := by decide +kernel
theorem dL_law_322 : decode cL_law 322 = .ok (.invokevirtual 91, 3) := by decide +kernel
theorem dL_law_325 : decode cL_law 325 = .ok (.iastore, 1) := by decide +kernel
theorem dL_law_326 : decode cL_law 326 = .ok (.aastore, 1) := by decide +kernel
theorem dL_law_327 : decode cL_law 327 = .ok (.iinc 8 1, 3) := by decide +kernel
theorem dL_law_330 : decode cL_law 330 = .ok (.aload 9, 2) := by decide +kernel
theorem dL_law_332 : decode cL_law 332 = .ok (.iload 12, 2) := by decide +kernel
theorem dL_law_334 : decode cL_law 334 = .ok (.dup2, 1) := by decide +kernel
theorem dL_law_335 : decode cL_law 335 = .ok (.iaload, 1) := by decide +kernel
theorem dL_law_336 : decode cL_law 336 = .ok (.iconst 1, 1) := by decide +kernel
theorem dL_law_337 : decode cL_law 337 = .ok (.iadd, 1) := by decide +kernel
theorem dL_law_338 : decode cL_law 338 = .ok (.iastore, 1) := by decide +kernel
theorem dL_law_339 : decode cL_law 339 = .ok (.aload 7, 2) := by decide +kernel
theorem dL_law_341 : decode cL_law 341 = .ok (.iload 8, 2) := by decide +kernel
theorem dL_law_343 : decode cL_law 343 = .ok (.iconst 1, 1) := by decide +kernel
theorem dL_law_344 : decode cL_law 344 = .ok (.isub, 1) := by decide +kernel
theorem dL_law_345 : decode cL_law 345 = .ok (.aaload, 1) := by decide +kernel
theorem dL_law_346 : decode cL_law 346 = .ok (.iconst 5, 1) := by decide +kernel
theorem dL_law_347 : decode cL_law 347 = .ok (.iaload, 1) := by decide +kernel
theorem dL_law_348 : decode cL_law 348 = .ok (.iconst 1, 1) := by decide +kernel
theorem dL_law_349 : decode cL_law 349 = .ok (.aload 9, 2) := by decide +kernel
theorem dL_law_351 : decode cL_law 351 = .ok (.iload 12, 2) := by decide +kernel
theorem dL_law_353 : decode cL_law 353 = .ok (.iaload, 1) := by decide +kernel
theorem dL_law_354 : decode cL_law 354 = .ok (.iconst 2, 1) := by decide +kernel
theorem dL_law_355 : decode cL_law 355 = .ok (.irem, 1) := by decide +kernel
theorem dL_law_356 : decode cL_law 356 = .ok (.isub, 1) := by decide +kernel
theorem dL_law_357 : decode cL_law 357 = .ok (.if_icmp .eq 5, 3) := by decide +kernel
theorem dL_law_360 : decode cL_law 360 = .ok (.iconst 0, 1) := by decide +kernel
theorem dL_law_361 : decode cL_law 361 = .ok (.ireturn, 1) := by decide +kernel
theorem dL_law_362 : decode cL_law 362 = .ok (.iinc 10 1, 3) := by decide +kernel
theorem dL_law_365 : decode cL_law 365 = .ok (.goto (-295), 3) := by decide +kernel
theorem dL_law_368 : decode cL_law 368 = .ok (.iconst 0, 1) := by decide +kernel
theorem dL_law_369 : decode cL_law 369 = .ok (.istore 10, 2) := by decide +kernel
theorem dL_law_371 : decode cL_law 371 = .ok (.iload 10, 2) := by decide +kernel
theorem dL_law_373 : decode cL_law 373 = .ok (.sipush 2880, 3) := by decide +kernel
theorem dL_law_376 : decode cL_law 376 = .ok (.if_icmp .ge 148, 3) := by decide +kernel
theorem dL_law_379 : decode cL_law 379 = .ok (.iconst 0, 1) := by decide +kernel
theorem dL_law_380 : decode cL_law 380 = .ok (.istore 11, 2) := by decide +kernel
theorem dL_law_382 : decode cL_law 382 = .ok (.iconst 0, 1) := by decide +kernel
theorem dL_law_383 : decode cL_law 383 = .ok (.istore 12, 2) := by decide +kernel
theorem dL_law_385 : decode cL_law 385 = .ok (.iload 12, 2) := by decide +kernel
theorem dL_law_387 : decode cL_law 387 = .ok (.aload 6, 2) := by decide +kernel
theorem dL_law_389 : decode cL_law 389 = .ok (.iconst 1, 1) := by decide +kernel
theorem dL_law_390 : decode cL_law 390 = .ok (.iaload, 1) := by decide +kernel
theorem dL_law_391 : decode cL_law 391 = .ok (.if_icmp .ge 49, 3) := by decide +kernel
theorem dL_law_394 : decode cL_law 394 = .ok (.aload_n 1, 1) := by decide +kernel
theorem dL_law_395 : decode cL_law 395 = .ok (.iload 12, 2) := by decide +kernel
theorem dL_law_397 : decode cL_law 397 = .ok (.iload 10, 2) := by decide +kernel
theorem dL_law_399 : decode cL_law 399 = .ok (.invokevirtual 101, 3) := by decide +kernel
theorem dL_law_402 : decode cL_law 402 = .ok (.istore 13, 2) := by decide +kernel
theorem dL_law_404 : decode cL_law 404 = .ok (.iload 13, 2) := by decide +kernel
theorem dL_law_406 : decode cL_law 406 = .ok (.ifCond .ge 6, 3) := by decide +kernel
theorem dL_law_409 : decode cL_law 409 = .ok (.goto 25, 3) := by decide +kernel
theorem dL_law_412 : decode cL_law 412 = .ok (.iload 11, 2) := by decide +kernel
theorem dL_law_414 : decode cL_law 414 = .ok (.iload 13, 2) := by decide +kernel
theorem dL_law_416 : decode cL_law 416 = .ok (.ishr, 1) := by decide +kernel
theorem dL_law_417 : decode cL_law 417 = .ok (.iconst 1, 1) := by decide +kernel
theorem dL_law_418 : decode cL_law 418 = .ok (.iand, 1) := by decide +kernel
theorem dL_law_419 : decode cL_law 419 = .ok (.iconst 1, 1) := by decide +kernel
theorem dL_law_420 : decode cL_law 420 = .ok (.if_icmp .ne 5, 3) := by decide +kernel
theorem dL_law_423 : decode cL_law 423 = .ok (.iconst 0, 1) := by decide +kernel
theorem dL_law_424 : decode cL_law 424 = .ok (.ireturn, 1) := by decide +kernel
theorem dL_law_425 : decode cL_law 425 = .ok (.iload 11, 2) := by decide +kernel
theorem dL_law_427 : decode cL_law 427 = .ok (.iconst 1, 1) := by decide +kernel
theorem dL_law_428 : decode cL_law 428 = .ok (.iload 13, 2) := by decide +kernel
theorem dL_law_430 : decode cL_law 430 = .ok (.ishl, 1) := by decide +kernel
theorem dL_law_431 : decode cL_law 431 = .ok (.ior, 1) := by decide +kernel
theorem dL_law_432 : decode cL_law 432 = .ok (.istore 11, 2) := by decide +kernel
theorem dL_law_434 : decode cL_law 434 = .ok (.iinc 12 1, 3) := by decide +kernel
theorem dL_law_437 : decode cL_law 437 = .ok (.goto (-52), 3) := by decide +kernel
theorem dL_law_440 : decode cL_law 440 = .ok (.iconst 0, 1) := by decide +kernel
theorem dL_law_441 : decode cL_law 441 = .ok (.istore 12, 2) := by decide +kernel
theorem dL_law_443 : decode cL_law 443 = .ok (.iconst 0, 1) := by decide +kernel
theorem dL_law_444 : decode cL_law 444 = .ok (.istore 13, 2) := by decide +kernel
theorem dL_law_446 : decode cL_law 446 = .ok (.iload 13, 2) := by decide +kernel
theorem dL_law_448 : decode cL_law 448 = .ok (.iload 8, 2) := by decide +kernel
theorem dL_law_450 : decode cL_law 450 = .ok (.if_icmp .ge 59, 3) := by decide +kernel
theorem dL_law_453 : decode cL_law 453 = .ok (.aload 7, 2) := by decide +kernel
theorem dL_law_455 : decode cL_law 455 = .ok (.iload 13, 2) := by decide +kernel
theorem dL_law_457 : decode cL_law 457 = .ok (.aaload, 1) := by decide +kernel
theorem dL_law_458 : decode cL_law 458 = .ok (.iconst 5, 1) := by decide +kernel
theorem dL_law_459 : decode cL_law 459 = .ok (.iaload, 1) := by decide +kernel
theorem dL_law_460 : decode cL_law 460 = .ok (.ifCond .ne 43, 3) := by decide +kernel
theorem dL_law_463 : decode cL_law 463 = .ok (.aload 7, 2) := by decide +kernel
theorem dL_law_465 : decode cL_law 465 = .ok (.iload 13, 2) := by decide +kernel
theorem dL_law_467 : decode cL_law 467 = .ok (.aaload, 1) := by decide +kernel
theorem dL_law_468 : decode cL_law 468 = .ok (.iconst 1, 1) := by decide +kernel
theorem dL_law_469 : decode cL_law 469 = .ok (.iaload, 1) := by decide +kernel
theorem dL_law_470 : decode cL_law 470 = .ok (.iload 10, 2) := by decide +kernel
theorem dL_law_472 : decode cL_law 472 = .ok (.if_icmp .gt 31, 3) := by decide +kernel
theorem dL_law_475 : decode cL_law 475 = .ok (.iload 10, 2) := by decide +kernel
theorem dL_law_477 : decode cL_law 477 = .ok (.iload 8, 2) := by decide +kernel
theorem dL_law_479 : decode cL_law 479 = .ok (.aload 7, 2) := by decide +kernel
theorem dL_law_481 : decode cL_law 481 = .ok (.iload 13, 2) := by decide +kernel
theorem dL_law_483 : decode cL_law 483 = .ok (.invokestatic 52, 3) := by decide +kernel
theorem dL_law_486 : decode cL_law 486 = .ok (.if_icmp .ge 17, 3) := by decide +kernel
theorem dL_law_489 : decode cL_law 489 = .ok (.iload 12, 2) := by decide +kernel
theorem dL_law_491 : decode cL_law 491 = .ok (.iconst 1, 1) := by decide +kernel
theorem dL_law_492 : decode cL_law 492 = .ok (.aload 7, 2) := by decide +kernel
theorem dL_law_494 : decode cL_law 494 = .ok (.iload 13, 2) := by decide +kernel
theorem dL_law_496 : decode cL_law 496 = .ok (.aaload, 1) := by decide +kernel
theorem dL_law_497 : decode cL_law 497 = .ok (.iconst 0, 1) := by decide +kernel
theorem dL_law_498 : decode cL_law 498 = .ok (.iaload, 1) := by decide +kernel
theorem dL_law_499 : decode cL_law 499 = .ok (.ishl, 1) := by decide +kernel
theorem dL_law_500 : decode cL_law 500 = .ok (.ior, 1) := by decide +kernel
theorem dL_law_501 : decode cL_law 501 = .ok (.istore 12, 2) := by decide +kernel
theorem dL_law_503 : decode cL_law 503 = .ok (.iinc 13 1, 3) := by decide +kernel
theorem dL_law_506 : decode cL_law 506 = .ok (.goto (-60), 3) := by decide +kernel
theorem dL_law_509 : decode cL_law 509 = .ok (.iload 12, 2) := by decide +kernel
theorem dL_law_511 : decode cL_law 511 = .ok (.iload 11, 2) := by decide +kernel
theorem dL_law_513 : decode cL_law 513 = .ok (.if_icmp .eq 5, 3) := by decide +kernel
theorem dL_law_516 : decode cL_law 516 = .ok (.iconst 0, 1) := by decide +kernel
theorem dL_law_517 : decode cL_law 517 = .ok (.ireturn, 1) := by decide +kernel
theorem dL_law_518 : decode cL_law 518 = .ok (.iinc 10 13, 3) := by decide +kernel
theorem dL_law_521 : decode cL_law 521 = .ok (.goto (-150), 3) := by decide +kernel
theorem dL_law_524 : decode cL_law 524 = .ok (.aload_n 1, 1) := by decide +kernel
theorem dL_law_525 : decode cL_law 525 = .ok (.iconst 4, 1) := by decide +kernel
theorem dL_law_526 : decode cL_law 526 = .ok (.invokevirtual 41, 3) := by decide +kernel
theorem dL_law_529 : decode cL_law 529 = .ok (.iload 8, 2) := by decide +kernel
theorem dL_law_531 : decode cL_law 531 = .ok (.if_icmp .ne 7, 3) := by decide +kernel
theorem dL_law_534 : decode cL_law 534 = .ok (.iconst 1, 1) := by decide +kernel
theorem dL_law_535 : decode cL_law 535 = .ok (.goto 4, 3) := by decide +kernel
theorem dL_law_538 : decode cL_law 538 = .ok (.iconst 0, 1) := by decide +kernel
theorem dL_law_539 : decode cL_law 539 = .ok (.ireturn, 1) := by decide +kernel
abbrev vwCl : List vw_C := [(RJx4a65c, TJx4a65c, 3), (RX0, TX0, 3), (RX1, TX1, 7), (RX2, TX2, 4), (RX3, TX3, 4), (RX4, TX4, 4), (RX5, TX5, 3), (RX6, TX6, 8)]
end
section
/-! THE CLAIM OUT OF ONE WALK OF THE LAW'S BODY. Your part is whole_start (and what it stands on); all else here is the same for every law, but numbers. -/
def R_law : String := "PilotBookLaw"
def lw_P (b : Addr) (xs : List Int32) (args : Array Value) (s : State) : Prop := args = #[.ref b] ∧ s.IntsAt b xs ∧ xs.length ≤ 260 ∧ (Jvm.Cond.and given_1 narrow_1).before args s = true
def lw_Q (_ : Array Value) (s : State) (o : Outcome) (t : State) : Prop := o = .returned (some (.int 1)) ∧ Framed s o t [] 600130 7301080
def lw_Z (below : List Frame) (a : Array Value) (s : State) : State → Prop := fun t => ∃ o, t.status = .running ∧ Ended t below o ∧ lw_Q a s o t
/-- the law's own end, with 1 on the stack, nothing written that was there before, its room as the claim has it -/
theorem lw_ret {p : Program} {l : Launch} {e : Env} {s : State} {m : MethodId} {below : List Frame} {meth : Method} {c : Code} {b : Nat} (hx : p.tables.exec = Jvm.exec) (hb : c.code = code) (hr : meth.sig.returnType = ret) (hlocks : meth.locks = false) {pc : Nat} {H : Heap} {ls : Array Slot} (hdg : decode code pc = .ok (.ireturn, 1)) : W p l e room_1 s m #[Value.ref b] below meth c H [] 600130 7301080 (lw_Z below #[Value.ref b] s) (F0 m pc ls [.int 1]) := by
  intro T hT X
  obtain ⟨fs, hret, hrun, hended, hW, hframe⟩ := X.leave (v := some (.int 1)) (hlocks := hlocks) (fun h => by rw [hr] at h; cases h)
  have hmeth' : T.vm.method? m = some meth := X.method'
  refine ⟨T.setFrames fs, ?_, .returned (some (.int 1)), hrun, hended, rfl, ⟨_, rfl⟩, hW, hframe⟩
  jvm_step X.here [X.here.top, hx, hb, hdg, hmeth', hr, ret, narrow_b1]
  (try refine ⟨rfl, ?_⟩); (try refine ⟨rfl, ?_⟩)
  first | (intro acts; rw [hret _ acts rfl rfl rfl]) | rw [hret _ _ rfl rfl rfl]
  exact Steps.refl _
/-- what holds at the law's entry: the machine, the code, the tables' words (any of lw_tbl by 'hts w (by decide +kernel)'), the script of L ints xs at the cell b, what the Statement gives of the start (any of its parts by flat_of_before) -/
def lw_At (p : Program) (s : State) (m : MethodId) (meth : Method) (c : Code) (b L : Nat) (xs : Nat → Int32) : Prop :=
  p.tables.exec = Jvm.exec ∧ c.code = code ∧ meth.sig.returnType = ret ∧ c.maxLocals = 18 ∧ s.vm.findClass R_law = some m.cls ∧ (∀ w ∈ lw_tbl, w.before #[Value.ref b] s = true) ∧ va_X b L xs s s.heap ∧ b < s.heap.size ∧ meth.locks = false ∧ (Jvm.Cond.and given_1 narrow_1).before #[Value.ref b] s = true
end
section
/-! MY KIT: an abstract heap (a function from addresses to cells), and a judgement V over it: what runs from (pc, locals, stack) comes to the method's end. -/
abbrev XA : Type := (Nat × vp_A) ⊕ (Nat × List Value)
abbrev XH : Type := Nat → Option XA
/-- what a run keeps: the classes' numbers, the arrays' classes by kind (0 int, 1 Object, 2 int[][], 3 the script), the heap at the start, the address of ArrayList's empty row, of the mirror of Object[], the script: its address, its length, its ints -/
abbrev XC : Type := va_G × ((Nat → ClassId) × (Heap × ((Nat × Nat) × (Nat × (Nat × (Nat → Int32))))))
abbrev xG (X : XC) : Heap := X.2.2.1
abbrev xC (X : XC) : Nat → ClassId := X.2.1
abbrev xdc (X : XC) : Nat × Nat := X.2.2.2.1
abbrev xsc (X : XC) : Nat × (Nat × (Nat → Int32)) := X.2.2.2.2
def xE (C : Nat → ClassId) (e : XA) : va_E := match e with
  | .inl q => .inl (C q.1, q.2)
  | .inr o => .inr o
def xro : XA := .inl (1, 0, .inr (.inr (.inr (.inr (fun _ => none)))))
abbrev xscE (X : XC) : XA := .inl (3, (xsc X).2.1, .inl (xsc X).2.2)
def xRO (X : XC) (a : Nat) (e : XA) : Prop := (e = xro ∧ a = (xdc X).1) ∨ (e = xscE X ∧ a = (xsc X).1)
def xR (X : XC) (h : XH) (H : Heap) : Prop := ∀ (a : Nat) (e : XA), h a = some e → (va_at X.1 vwCl (a, xE (xC X) e) H ∧ (xG X).size ≤ a) ∨ (xRO X a e ∧ a < (xG X).size)
abbrev xA (X : XC) : Nat → Prop := fun q => (xG X).size ≤ q
abbrev xT (X : XC) : List (ClassId × FieldType) := [(xC X 0, .int), (xC X 1, .object "java/lang/Object"), (xC X 2, .array .int), (xC X 3, .int)]
def xStr : List (Nat × String) := [(245, "there is no room for one more"), (243, "there is nothing with this number"), (240, "a value is out of its range"), (213, "what is not 0 to 5"), (174, "there is no minute for the passage"), (168, "the ship can't go that way now"), (112, "what is not 0 to 4"), (108, "a passage is booked"), (63, "the point can't be added now")]
def xCast : List (String × String) := [("PilotBook$Berth", "java/lang/Object"), ("PilotBook$Ship", "java/lang/Object"), ("PilotBook$Pilot", "java/lang/Object"), ("PilotBook$Passage", "java/lang/Object"), ("java/lang/IllegalArgumentException", "java/lang/IllegalArgumentException"), ("java/lang/IllegalStateException", "java/lang/IllegalStateException"), ("java/lang/IndexOutOfBoundsException", "java/lang/IndexOutOfBoundsException")]
def xNot : List (String × String) := [("java/lang/IllegalArgumentException", "java/lang/IllegalStateException"), ("java/lang/IndexOutOfBoundsException", "java/lang/IllegalStateException")]
def xNest : List (String × Nat × String × String × String) := [("PilotBook", 54, "PilotBook$Tide", "size", "I"), ("PilotBook", 100, "PilotBook$Ship", "draft", "I"), ("PilotBook", 122, "PilotBook$Berth", "depth", "I"), ("PilotBook", 129, "PilotBook$Ship", "latest", "LPilotBook$Passage;"), ("PilotBook", 133, "PilotBook$Passage", "route", "LPilotBook$Route;"), ("PilotBook", 139, "PilotBook$Route", "isOutbound", "Z"), ("PilotBook", 145, "PilotBook$Passage", "shipBefore", "LPilotBook$Passage;"), ("PilotBook", 153, "PilotBook$Passage", "begin", "I"), ("PilotBook", 188, "PilotBook$Route", "ship", "LPilotBook$Ship;"), ("PilotBook", 192, "PilotBook$Passage", "pilot", "LPilotBook$Pilot;"), ("PilotBook", 199, "PilotBook$Pilot", "latest", "LPilotBook$Passage;"), ("PilotBook", 200, "PilotBook$Passage", "berthUntil", "I"), ("PilotBook", 203, "PilotBook$Ship", "number", "I"), ("PilotBook", 206, "PilotBook$Pilot", "number", "I"), ("PilotBook", 207, "PilotBook$Route", "tugs", "I"), ("PilotBook", 208, "PilotBook$Route", "berth", "LPilotBook$Berth;"), ("PilotBook", 212, "PilotBook$Berth", "number", "I"), ("PilotBook", 255, "PilotBook$Ship", "length", "I"), ("PilotBook", 258, "PilotBook$Berth", "length", "I"), ("PilotBook$Passage", 26, "PilotBook$Route", "ship", "LPilotBook$Ship;"), ("PilotBook$Passage", 32, "PilotBook$Ship", "latest", "LPilotBook$Passage;"), ("PilotBook$Passage", 41, "PilotBook$Pilot", "latest", "LPilotBook$Passage;"), ("PilotBook$Passage", 47, "PilotBook$Route", "isOutbound", "Z"), ("PilotBook$Pilot", 26, "PilotBook$Passage", "route", "LPilotBook$Route;"), ("PilotBook$Pilot", 32, "PilotBook$Route", "isOutbound", "Z"), ("PilotBook$Pilot", 41, "PilotBook$Route", "ship", "LPilotBook$Ship;"), ("PilotBook$Pilot", 45, "PilotBook$Ship", "length", "I"), ("PilotBook$Route", 23, "PilotBook$Ship", "length", "I")]
def xDecl : List MethodName := [⟨"java/lang/RuntimeException", "<init>", "(Ljava/lang/String;)V"⟩, ⟨"java/lang/Exception", "<init>", "(Ljava/lang/String;)V"⟩, ⟨"java/lang/Throwable", "<init>", "(Ljava/lang/String;)V"⟩]
def va_AA (t : FieldType) (U : State) : Prop := (Cond.arrayOver (.array t)).before #[] U = true
theorem va_AA.moved {t : FieldType} {u U : State} (hvm : u.vm.Alike U.vm) (h : va_AA t u) : va_AA t U := by
  obtain ⟨comp, c, k, h1, h2, h3, h4, h5⟩ := arrayOverA_spec h
  obtain ⟨k', hk', he⟩ := hvm.2.2 _ _ h3
  have hi : (U.vm.classes.findIdx? fun (x : Class) => match x.kind with | .array component _ => component == comp | _ => false) = some c := by
    rw [← va_idx_bare]
    first | rw [hvm.bare_eq] | rw [← hvm.bare_eq]
    rw [va_idx_bare]
    exact h2
  have hkind : k'.kind = .array comp (.array t) := by rw [he]; exact h4
  have f1 : U.vm.findClass (FieldType.array t).toString = some comp := by rw [hvm.findClass]; exact h1
  have f2 : U.vm.findClass ("[" ++ (FieldType.array t).toString) = some c := by rw [hvm.findClass]; exact h5
  unfold va_AA Cond.before Cond.holds
  simp only [Cond.value]
  rw [f1, Option.bind_some]
  refine (congrArg (fun o : Option Nat => (o.bind (fun c => (U.vm.classes[c]?).map fun (k : Class) => match k.kind with | .array _ ty => decide (ty = FieldType.array t) && decide (U.vm.findClass ("[" ++ (FieldType.array t).toString) = some c) | _ => false) == some true)) hi).trans ?_
  simp [hk', hkind, f2]
/-- what the start gives that no class of the program writes -/
def xZ (X : XC) (U : State) : Prop :=
  va_Z RJx4a65c "DEFAULTCAPACITY_EMPTY_ELEMENTDATA" "[Ljava/lang/Object;" (.ref (xdc X).1) (xA X) U (xG X) ∧
  vx_Zq Bundle.tN "UNASSIGNED_STACK" Bundle.steD (xA X) U (xG X) ∧ vx_Zq Bundle.tN "SUPPRESSED_SENTINEL" Bundle.listD (xA X) U (xG X) ∧
  va_Mi "[Ljava/lang/Object;" (xdc X).2 U ∧ va_Dc U ∧ va_AO "java/lang/Object" U ∧
  (∀ q ∈ xStr, ∃ sa, vk_R RX6 q.1 q.2 sa U) ∧ (∀ q ∈ xCast, va_Nw (.castable q.1 q.2) U) ∧ (∀ q ∈ xNot, va_Nc q.1 q.2 U) ∧ (∀ q ∈ xNest, va_Nw (.fieldLinkNest q.1 q.2.1 q.2.2.1 q.2.2.2.1 q.2.2.2.2 "PilotBook") U) ∧ (∀ q ∈ xDecl, va_Nw (.declares q) U) ∧ va_T (.object "java/lang/Object") (xdc X).1 0 (fun _ => .null) (xA X) U (xG X) ∧ va_AA .int U ∧ va_X (xsc X).1 (xsc X).2.1 (xsc X).2.2 U (xG X)
theorem xZ.warm {X : XC} {s U : State} (hW : s.WarmedH U.vm) (h : xZ X s) : xZ X U := by
  obtain ⟨h1, h2, h3, h4, h5, h6, h7, h8, h9, h10, h11, h12, h13, h14⟩ := h
  exact ⟨h1.moved hW.alike, h2.moved hW.alike, h3.moved hW.alike, h4.moved hW.alike, h5.moved hW.alike, h6.moved hW.alike, fun q hq => by obtain ⟨sa, h⟩ := h7 q hq; exact ⟨sa, h.warm hW⟩, fun q hq => (h8 q hq).warmC hW, fun q hq => (h9 q hq).moved hW.alike, fun q hq => (h10 q hq).warmF hW, fun q hq => (h11 q hq).warmD hW, h12.moved hW.alike, h13.moved hW.alike, by
    obtain ⟨scr, g1, g2, g3, g4, g5⟩ := h14
    exact ⟨scr, g1, State.isArrayOf_alike hW.alike g2, g3, g4, g5⟩⟩
def xI (X : XC) (h : XH) (U : State) : Prop := (va_K X.1 vwCl (xT X) U ∧ xZ X U) ∧ xR X h U.heap ∧ va_S (xA X) (xG X) U.heap []
theorem xI.blind {X : XC} {h : XH} {U : State} {g : JFrame} {mk : MethodId} {a : Array Value} (q : xI X h U) : xI X h (U.calling g mk a) := by
  obtain ⟨⟨k, z⟩, r, sS⟩ := q
  exact ⟨⟨va_K.moved (u := U) (U := U.calling g mk a) (Vm.Alike.refl U.vm) k, xZ.warm (s := U) (U := U.calling g mk a) (State.WarmedH.refl U) z⟩, r, sS⟩
/-- how a method ends: it returns v over the heap h' -/
def xQ (X : XC) (Po : Option Value → XH → Prop) : Array Value → State → Outcome → State → Prop := fun _ st o t =>
  ∃ (v : Option Value) (h' : XH), o = .returned v ∧ Po v h' ∧ xR X h' t.heap ∧ va_S (xA X) (xG X) t.heap [] ∧ st.heap.size ≤ t.heap.size
def xQX (X : XC) (PX : String → XH → Prop) : String → State → State → Prop := fun E st t =>
  ∃ h' : XH, PX E h' ∧ xR X h' t.heap ∧ va_S (xA X) (xG X) t.heap [] ∧ st.heap.size ≤ t.heap.size
abbrev xRm (fr lo mc ms : Nat) : Room := { frames := fr, cells := mc, slots := ms, locals := lo }
/-- contracts: returning, returning or throwing, drawing -/
def xM (l : Launch) (dc : Nat × Nat) (y : MethodName) (ws : List Cond) (fr lo mc ms : Nat) (As : List Value) (h : XH) (Po : Option Value → XH → Prop) : Prop :=
  ∀ X : XC, xdc X = dc → Met l y ws (xRm fr lo mc ms) (va_Pc As (xI X h)) (xQ X Po) mc ms (xA X)
def xMX (l : Launch) (dc : Nat × Nat) (y : MethodName) (ws : List Cond) (fr lo mc ms : Nat) (As : List Value) (h : XH) (Po : Option Value → XH → Prop) (PX : String → XH → Prop) : Prop :=
  ∀ X : XC, xdc X = dc → vx_Met l y ws (xRm fr lo mc ms) (va_Pc As (xI X h)) (xQ X Po) (xQX X PX) mc ms (xA X)
abbrev xPi (P : Int32 → XH → Prop) : Option Value → XH → Prop := fun v h => ∃ r : Int32, v = some (.int r) ∧ P r h
abbrev xPl (P : Int64 → XH → Prop) : Option Value → XH → Prop := fun v h => ∃ r : Int64, v = some (.long r) ∧ P r h
abbrev xPd (P : UInt64 → XH → Prop) : Option Value → XH → Prop := fun v h => ∃ r : UInt64, v = some (.double r) ∧ P r h
abbrev xPq (P : Option Nat → XH → Prop) : Option Value → XH → Prop := fun v h => ∃ r : Option Nat, v = some (va_rf r) ∧ P r h
abbrev xPv (P : XH → Prop) : Option Value → XH → Prop := fun v h => v = none ∧ P h
/-! the judgement -/
abbrev XVT : Type := Nat → Nat → XH → Nat → List (Nat × Value) → List Value → Prop
def XV (X : XC) (ok : Drawn → Prop) (nL : Nat) (p : Program) (l : Launch) (e : Env) (R : Room) (s : State) (m : MethodId) (args : Array Value) (below : List Frame) (meth : Method) (c : Code) (Q : State → Prop) : XVT := fun cells slots h pc lv st =>
  ∀ (d : Drawn) (H : Heap) (locs : List Loc) (ls : Array Slot), ok d → xR X h H → va_S (xA X) s.heap H locs → lv_has ls nL lv → W p l e R (s.setDrawn d) m args below meth c H locs cells slots Q (F0 m pc ls st)
def xF (X : XC) (own nm : String) (cc : ByteArray) (nL : Nat) (ws : List Cond) (p : Program) (s : State) (m : MethodId) (args : Array Value) (meth : Method) (c : Code) : Prop :=
  p.tables.exec = Jvm.exec ∧ c.code = cc ∧ c.maxLocals = nL ∧ s.vm.findClass own = some m.cls ∧ (∀ w ∈ ws, w.before args s = true) ∧ va_K X.1 vwCl (xT X) s ∧ xZ X s ∧ meth.locks = false ∧ va_S (xA X) (xG X) s.heap [] ∧ meth.name = nm
def xS (V : XVT) (X : XC) (l : Launch) (own nm : String) (cc : ByteArray) (nL : Nat) (ws : List Cond) (R : Room) : Prop :=
  ∃ (ok : Drawn → Prop) (p : Program) (e : Env) (s : State) (m : MethodId) (args : Array Value) (below : List Frame) (meth : Method) (c : Code) (Q : State → Prop), V = XV X ok nL p l e R s m args below meth c Q ∧ xF X own nm cc nL ws p s m args meth c
theorem xr_step {V : XVT} {X : XC} {l : Launch} {own nm : String} {cc : ByteArray} {nL : Nat} {ws : List Cond} {R : Room} {cells slots pc pc' : Nat} {h : XH} {lv lv' : List (Nat × Value)} {st st' : List Value} (S : xS V X l own nm cc nL ws R)
    (f : ∀ (p : Program) (e : Env) (s : State) (m : MethodId) (args : Array Value) (below : List Frame) (meth : Method) (c : Code) (Q : State → Prop) (H : Heap) (locs : List Loc) (ls : Array Slot), xF X own nm cc nL ws p s m args meth c → xR X h H → lv_has ls nL lv → (∀ ls', lv_has ls' nL lv' → W p l e R s m args below meth c H locs cells slots Q (F0 m pc' ls' st')) → W p l e R s m args below meth c H locs cells slots Q (F0 m pc ls st))
    (k : V cells slots h pc' lv' st') : V cells slots h pc lv st := by
  obtain ⟨ok, p, e, s, m, args, below, meth, c, Q, rfl, F⟩ := S
  intro d H locs ls hd hR hS hl
  refine f p e (s.setDrawn d) m args below meth c Q H locs ls ?_ hR hl (fun ls' hl' => k d H locs ls' hd hR hS hl')
  obtain ⟨f1, f2, f3, f4, f5, f6, f7, f8, f9, f10⟩ := F
  exact ⟨f1, f2, f3, f4, dr_words f5 d, f6, f7, f8, f9, f10⟩
/-! the abstract heap as one list of cells -/
def xup (h : XH) (a : Nat) (e : XA) : XH := fun q => if q = a then some e else h q
theorem xup_self (h : XH) (a : Nat) (e : XA) : xup h a e a = some e := if_pos rfl
theorem xup_ne {h : XH} {a q : Nat} {e : XA} (n : q ≠ a) : xup h a e q = h q := if_neg n
def xL (X : XC) (h : XH) (n : Nat) : va_W := (List.range n).filterMap (fun q => if (xG X).size ≤ q then (h q).map (fun e => (q, xE (xC X) e)) else none)
theorem xL_mem {X : XC} {h : XH} {n : Nat} {x : Nat × va_E} (hx : x ∈ xL X h n) : (xG X).size ≤ x.1 ∧ ∃ e, h x.1 = some e ∧ x.2 = xE (xC X) e := by
  obtain ⟨q, -, hq⟩ := List.mem_filterMap.mp hx
  by_cases hc : (xG X).size ≤ q
  · rw [if_pos hc] at hq
    cases he : h q with
    | none => rw [he] at hq; cases hq
    | some e => rw [he] at hq; cases hq; exact ⟨hc, e, he, rfl⟩
  · rw [if_neg hc] at hq; cases hq
theorem xL_get {X : XC} {h : XH} {n a : Nat} {e : XA} (ha : h a = some e) (hl : (xG X).size ≤ a) (hn : a < n) : ∃ k : Nat, (xL X h n)[k]? = some (a, xE (xC X) e) := by
  have hm : (a, xE (xC X) e) ∈ xL X h n := List.mem_filterMap.mpr ⟨a, List.mem_range.mpr hn, by rw [if_pos hl, ha]; rfl⟩
  exact List.getElem?_of_mem hm
theorem xL_inj {X : XC} {h : XH} {n i j : Nat} {p q : Nat × va_E} (hp : (xL X h n)[i]? = some p) (hq : (xL X h n)[j]? = some q) (e : p.1 = q.1) : i = j := by
  have hw : (xL X h n).Pairwise (fun x y => x.1 < y.1) := by
    refine List.Pairwise.filterMap _ ?_ (List.pairwise_lt_range)
    intro a b hab x hx y hy
    have h1 : x.1 = a := by
      by_cases hc : (xG X).size ≤ a
      · rw [if_pos hc] at hx
        cases he : h a with
        | none => rw [he] at hx; cases hx
        | some e => rw [he] at hx; cases hx; rfl
      · rw [if_neg hc] at hx; cases hx
    have h2 : y.1 = b := by
      by_cases hc : (xG X).size ≤ b
      · rw [if_pos hc] at hy
        cases he : h b with
        | none => rw [he] at hy; cases hy
        | some e => rw [he] at hy; cases hy; rfl
      · rw [if_neg hc] at hy; cases hy
    rw [h1, h2]; exact hab
  obtain ⟨hi, hpi⟩ := List.getElem?_eq_some_iff.mp hp
  obtain ⟨hj, hqj⟩ := List.getElem?_eq_some_iff.mp hq
  rcases Nat.lt_trichotomy i j with c | c | c
  · have := List.pairwise_iff_getElem.mp hw i j hi hj c
    rw [hpi, hqj] at this; omega
  · exact c
  · have := List.pairwise_iff_getElem.mp hw j i hj hi c
    rw [hpi, hqj] at this; omega
theorem xR_at {X : XC} {h : XH} {H : Heap} {a : Nat} {e : XA} (hR : xR X h H) (ha : h a = some e) (hl : (xG X).size ≤ a) : va_at X.1 vwCl (a, xE (xC X) e) H := by
  rcases hR a e ha with h1 | h1
  · exact h1.1
  · exact absurd h1.2.2 (Nat.not_lt.mpr hl)
theorem xL_P {X : XC} {h : XH} {H : Heap} (hR : xR X h H) : va_P X.1 vwCl (xL X h H.size) H := by
  intro k q hk
  obtain ⟨-, e, he, h2⟩ := xL_mem (List.mem_of_getElem? hk)
  obtain ⟨a, v⟩ := q
  dsimp only at he h2
  subst h2
  exact xR_at hR he (xL_mem (List.mem_of_getElem? hk)).1
theorem xL_D {X : XC} {h : XH} {n : Nat} : va_D (xA X) (xL X h n) :=
  ⟨fun _ _ _ _ hp hq e => xL_inj hp hq e, fun _ _ hk => (xL_mem (List.mem_of_getElem? hk)).1⟩
theorem xR_lt {X : XC} {h : XH} {H : Heap} {a : Nat} {e : XA} (hR : xR X h H) (ha : h a = some e) (hl : (xG X).size ≤ a) : a < H.size := (xR_at hR ha hl).lt
theorem xR_lo {X : XC} {h : XH} {H : Heap} {a : Nat} {e : XA} (hR : xR X h H) (ha : h a = some e) (hne : e ≠ xro) (hn3 : ∀ (L : Nat) (f : Nat → Int32), e ≠ .inl (3, L, .inl f) := by intro _ _ z; cases z) : (xG X).size ≤ a := (hR a e ha).elim (fun q => q.2) (fun q => q.1.elim (fun w => absurd w.1 hne) (fun w => absurd w.1 (hn3 _ _)))
theorem xS_keep {X : XC} {H H1 : Heap} {locs locs1 : List Loc} (hS : va_S (xA X) (xG X) H locs) (hS1 : va_S (xA X) (xG X) H1 locs1) {q : Nat} (hq : q < (xG X).size) : H1[q]? = H[q]? :=
  (hS1.2.1 q hq (Nat.not_le.mpr hq)).trans (hS.2.1 q hq (Nat.not_le.mpr hq)).symm
theorem xR_keep {X : XC} {h : XH} {H H1 : Heap} {locs locs1 : List Loc} (hR : xR X h H) (hS : va_S (xA X) (xG X) H locs) (hS1 : va_S (xA X) (xG X) H1 locs1) {q : Nat} {e : XA} (he : h q = some e) (hq : q < (xG X).size) : (va_at X.1 vwCl (q, xE (xC X) e) H1 ∧ (xG X).size ≤ q) ∨ (xRO X q e ∧ q < (xG X).size) := by
  rcases hR q e he with h1 | h1
  · exact absurd hq (Nat.not_lt.mpr h1.2)
  · exact Or.inr h1
theorem xR_set {X : XC} {h : XH} {H H1 : Heap} {locs locs1 : List Loc} {k a : Nat} {e e1 : XA} (hR : xR X h H) (hS : va_S (xA X) (xG X) H locs) (hk : (xL X h H.size)[k]? = some (a, xE (xC X) e)) (hP1 : va_P X.1 vwCl ((xL X h H.size).set k (a, xE (xC X) e1)) H1) (hS1 : va_S (xA X) (xG X) H1 locs1) : xR X (xup h a e1) H1 := by
  have hlt : k < (xL X h H.size).length := (List.getElem?_eq_some_iff.mp hk).1
  have hlo : (xG X).size ≤ a := (xL_mem (List.mem_of_getElem? hk)).1
  intro q e0 he
  by_cases hq : q = a
  · subst hq
    rw [xup_self] at he
    cases he
    exact Or.inl ⟨hP1 k _ (by rw [List.getElem?_set_self hlt]), hlo⟩
  · rw [xup_ne hq] at he
    by_cases hl : (xG X).size ≤ q
    · obtain ⟨j, hj⟩ := xL_get (X := X) (n := H.size) he hl (xR_lt hR he hl)
      have hjk : k ≠ j := fun c => hq (by subst c; exact congrArg Prod.fst (Option.some.inj (hj.symm.trans hk)))
      exact Or.inl ⟨hP1 j _ (by rw [List.getElem?_set_ne hjk]; exact hj), hl⟩
    · exact xR_keep hR hS hS1 he (Nat.lt_of_not_le hl)
theorem xR_push {X : XC} {h : XH} {H H1 : Heap} {locs locs1 : List Loc} {q : Nat} {e1 : XA} (hR : xR X h H) (hS : va_S (xA X) (xG X) H locs) (hP1 : va_P X.1 vwCl (xL X h H.size ++ [(q, xE (xC X) e1)]) H1) (hD1 : va_D (xA X) (xL X h H.size ++ [(q, xE (xC X) e1)])) (hS1 : va_S (xA X) (xG X) H1 locs1) : h q = none ∧ xR X (xup h q e1) H1 := by
  have hlast : (xL X h H.size ++ [(q, xE (xC X) e1)])[(xL X h H.size).length]? = some (q, xE (xC X) e1) := by simp
  have hlo : (xG X).size ≤ q := hD1.2 _ _ hlast
  have hn : h q = none := by
    cases he : h q with
    | none => rfl
    | some e0 =>
      obtain ⟨j, hj⟩ := xL_get (X := X) (n := H.size) he hlo (xR_lt hR he hlo)
      have hjl : j < (xL X h H.size).length := (List.getElem?_eq_some_iff.mp hj).1
      have := hD1.1 j _ (q, xE (xC X) e0) _ (by rw [List.getElem?_append_left hjl]; exact hj) hlast rfl
      omega
  refine ⟨hn, fun z e0 he => ?_⟩
  by_cases hz : z = q
  · subst hz
    rw [xup_self] at he
    cases he
    exact Or.inl ⟨hP1 _ _ hlast, hlo⟩
  · rw [xup_ne hz] at he
    by_cases hl : (xG X).size ≤ z
    · obtain ⟨j, hj⟩ := xL_get (X := X) (n := H.size) he hl (xR_lt hR he hl)
      have hjl : j < (xL X h H.size).length := (List.getElem?_eq_some_iff.mp hj).1
      exact Or.inl ⟨hP1 j _ (by rw [List.getElem?_append_left hjl]; exact hj), hl⟩
    · exact xR_keep hR hS hS1 he (Nat.lt_of_not_le hl)
theorem xR_one {X : XC} {h : XH} {H : Heap} {a : Nat} {e : XA} (hR : xR X h H) (ha : h a = some e) (hne : e ≠ xro := by intro z; cases z) (hn3 : ∀ (L : Nat) (f : Nat → Int32), e ≠ .inl (3, L, .inl f) := by intro _ _ z; cases z) : va_P X.1 vwCl [(a, xE (xC X) e)] H := by
  intro k q hk
  have hz : k < 1 := (List.getElem?_eq_some_iff.mp hk).1
  rw [show k = 0 by omega] at hk
  cases hk
  exact xR_at hR ha (xR_lo hR ha hne hn3)
theorem xK_eq {D : va_G} {X : XC} {s : State} {cA : ClassId} {ty : FieldType} (hK : va_K D vwCl (xT X ++ [(cA, ty)]) s) (k : Nat) {c0 : ClassId} (hk : (xT X)[k]? = some (c0, ty)) : cA = c0 := by
  have h1 := (hK.2 4 (cA, ty) rfl).2
  have hk5 : k < 4 := (List.getElem?_eq_some_iff.mp hk).1
  have h2 := (hK.2 k (c0, ty) (by rw [List.getElem?_append_left hk5]; exact hk)).2
  cases ty <;> first
    | (obtain ⟨-, -, -, -, -, e1⟩ := h1; obtain ⟨-, -, -, -, -, e2⟩ := h2; exact Option.some.inj (e1.symm.trans e2))
    | exact Option.some.inj (Eq.trans (Eq.symm h1) h2)
theorem xasg (s : State) (c : ClassId) : s.vm.assignable c c = true := by
  unfold Vm.assignable Vm.assignableAux
  simp
theorem xS_tr {X : XC} {s : State} {H : Heap} {locs : List Loc} (hG : va_S (xA X) (xG X) s.heap []) (hS : va_S (xA X) s.heap H locs) : va_S (xA X) (xG X) H locs :=
  ⟨Nat.le_trans hG.1 hS.1, fun q h1 h2 => (hS.2.1 q (Nat.lt_of_lt_of_le h1 hG.1) h2).trans (hG.2.1 q h1 h2), hS.2.2⟩
section
variable {V : XVT} {X : XC} {l : Launch} {own nm : String} {cc : ByteArray} {nL : Nat} {ws : List Cond} {R : Room} {cells slots pc : Nat} {h : XH} {lv : List (Nat × Value)} {st : List Value}

theorem xr_iadd (S : xS V X l own nm cc nL ws R) {x y : Int32} (hdg : decode cc pc = .ok (.iadd, 1))  (k : V cells slots h (pc + 1) lv (.int (x + y) :: st)) : V cells slots h pc lv (.int y :: .int x :: st) :=
  xr_step S (fun p e s m args below meth c Q H locs ls F hR hl k => by obtain ⟨hx, hb, hml, hown, hts, hK, hZ, hlk, hGs, hnm⟩ := F; exact lv_iadd hx hb hdg (k ls hl)) k
theorem xr_isub (S : xS V X l own nm cc nL ws R) {x y : Int32} (hdg : decode cc pc = .ok (.isub, 1))  (k : V cells slots h (pc + 1) lv (.int (x - y) :: st)) : V cells slots h pc lv (.int y :: .int x :: st) :=
  xr_step S (fun p e s m args below meth c Q H locs ls F hR hl k => by obtain ⟨hx, hb, hml, hown, hts, hK, hZ, hlk, hGs, hnm⟩ := F; exact lv_isub hx hb hdg (k ls hl)) k
theorem xr_imul (S : xS V X l own nm cc nL ws R) {x y : Int32} (hdg : decode cc pc = .ok (.imul, 1))  (k : V cells slots h (pc + 1) lv (.int (x * y) :: st)) : V cells slots h pc lv (.int y :: .int x :: st) :=
  xr_step S (fun p e s m args below meth c Q H locs ls F hR hl k => by obtain ⟨hx, hb, hml, hown, hts, hK, hZ, hlk, hGs, hnm⟩ := F; exact lv_imul hx hb hdg (k ls hl)) k
theorem xr_iand (S : xS V X l own nm cc nL ws R) {x y : Int32} (hdg : decode cc pc = .ok (.iand, 1))  (k : V cells slots h (pc + 1) lv (.int (x &&& y) :: st)) : V cells slots h pc lv (.int y :: .int x :: st) :=
  xr_step S (fun p e s m args below meth c Q H locs ls F hR hl k => by obtain ⟨hx, hb, hml, hown, hts, hK, hZ, hlk, hGs, hnm⟩ := F; exact lv_iand hx hb hdg (k ls hl)) k
theorem xr_ishr (S : xS V X l own nm cc nL ws R) {x y : Int32} (hdg : decode cc pc = .ok (.ishr, 1))  (k : V cells slots h (pc + 1) lv (.int (x >>> (y &&& 31)) :: st)) : V cells slots h pc lv (.int y :: .int x :: st) :=
  xr_step S (fun p e s m args below meth c Q H locs ls F hR hl k => by obtain ⟨hx, hb, hml, hown, hts, hK, hZ, hlk, hGs, hnm⟩ := F; exact lv_ishr hx hb hdg (k ls hl)) k
theorem xr_ior (S : xS V X l own nm cc nL ws R) {x y : Int32} (hdg : decode cc pc = .ok (.ior, 1))  (k : V cells slots h (pc + 1) lv (.int (x ||| y) :: st)) : V cells slots h pc lv (.int y :: .int x :: st) :=
  xr_step S (fun p e s m args below meth c Q H locs ls F hR hl k => by obtain ⟨hx, hb, hml, hown, hts, hK, hZ, hlk, hGs, hnm⟩ := F; exact lv_ior hx hb hdg (k ls hl)) k
theorem xr_ishl (S : xS V X l own nm cc nL ws R) {x y : Int32} (hdg : decode cc pc = .ok (.ishl, 1))  (k : V cells slots h (pc + 1) lv (.int (x <<< (y &&& 31)) :: st)) : V cells slots h pc lv (.int y :: .int x :: st) :=
  xr_step S (fun p e s m args below meth c Q H locs ls F hR hl k => by obtain ⟨hx, hb, hml, hown, hts, hK, hZ, hlk, hGs, hnm⟩ := F; exact lv_ishl hx hb hdg (k ls hl)) k
theorem xr_irem (S : xS V X l own nm cc nL ws R) {x y : Int32} (hdg : decode cc pc = .ok (.irem, 1)) (hne : ¬ y = 0) (k : V cells slots h (pc + 1) lv (.int (x - x / y * y) :: st)) : V cells slots h pc lv (.int y :: .int x :: st) :=
  xr_step S (fun p e s m args below meth c Q H locs ls F hR hl k => by obtain ⟨hx, hb, hml, hown, hts, hK, hZ, hlk, hGs, hnm⟩ := F; exact lv_irem hx hb hdg hne (k ls hl)) k
theorem xr_dup2 (S : xS V X l own nm cc nL ws R) {va vb : Value} (hdg : decode cc pc = .ok (.dup2, 1)) (hva : va.category = 1) (hvb : vb.category = 1) (k : V cells slots h (pc + 1) lv (va :: vb :: va :: vb :: st)) : V cells slots h pc lv (va :: vb :: st) :=
  xr_step S (fun p e s m args below meth c Q H locs ls F hR hl k => by obtain ⟨hx, hb, hml, hown, hts, hK, hZ, hlk, hGs, hnm⟩ := F; exact lv_dup2_11 hx hb hdg hva hvb (k ls hl)) k
theorem xr_idiv (S : xS V X l own nm cc nL ws R) {x y : Int32} (hdg : decode cc pc = .ok (.idiv, 1)) (hne : ¬ y = 0) (k : V cells slots h (pc + 1) lv (.int (x / y) :: st)) : V cells slots h pc lv (.int y :: .int x :: st) :=
  xr_step S (fun p e s m args below meth c Q H locs ls F hR hl k => by obtain ⟨hx, hb, hml, hown, hts, hK, hZ, hlk, hGs, hnm⟩ := F; exact lv_idiv hx hb hdg hne (k ls hl)) k
theorem xr_i2l (S : xS V X l own nm cc nL ws R) {x : Int32} (hdg : decode cc pc = .ok (.i2l, 1))  (k : V cells slots h (pc + 1) lv (.long x.toInt64 :: st)) : V cells slots h pc lv (.int x :: st) :=
  xr_step S (fun p e s m args below meth c Q H locs ls F hR hl k => by obtain ⟨hx, hb, hml, hown, hts, hK, hZ, hlk, hGs, hnm⟩ := F; exact lv_i2l hx hb hdg rfl (k ls hl)) k
theorem xr_i2d (S : xS V X l own nm cc nL ws R) {x : Int32} (hdg : decode cc pc = .ok (.i2d, 1))  (k : V cells slots h (pc + 1) lv (.double (FP.i2d x) :: st)) : V cells slots h pc lv (.int x :: st) :=
  xr_step S (fun p e s m args below meth c Q H locs ls F hR hl k => by obtain ⟨hx, hb, hml, hown, hts, hK, hZ, hlk, hGs, hnm⟩ := F; exact lv_i2d hx hb hdg (k ls hl)) k
theorem xr_ladd (S : xS V X l own nm cc nL ws R) {x y : Int64} (hdg : decode cc pc = .ok (.ladd, 1))  (k : V cells slots h (pc + 1) lv (.long (x + y) :: st)) : V cells slots h pc lv (.long y :: .long x :: st) :=
  xr_step S (fun p e s m args below meth c Q H locs ls F hR hl k => by obtain ⟨hx, hb, hml, hown, hts, hK, hZ, hlk, hGs, hnm⟩ := F; exact lv_ladd hx hb hdg (k ls hl)) k
theorem xr_lmul (S : xS V X l own nm cc nL ws R) {x y : Int64} (hdg : decode cc pc = .ok (.lmul, 1))  (k : V cells slots h (pc + 1) lv (.long (x * y) :: st)) : V cells slots h pc lv (.long y :: .long x :: st) :=
  xr_step S (fun p e s m args below meth c Q H locs ls F hR hl k => by obtain ⟨hx, hb, hml, hown, hts, hK, hZ, hlk, hGs, hnm⟩ := F; exact lv_lmul hx hb hdg (k ls hl)) k
theorem xr_lcmp (S : xS V X l own nm cc nL ws R) {x y : Int64} (hdg : decode cc pc = .ok (.lcmp, 1))  (k : V cells slots h (pc + 1) lv (.int (lg_cmp x y) :: st)) : V cells slots h pc lv (.long y :: .long x :: st) :=
  xr_step S (fun p e s m args below meth c Q H locs ls F hR hl k => by obtain ⟨hx, hb, hml, hown, hts, hK, hZ, hlk, hGs, hnm⟩ := F; exact W.lcmp hx hb hdg (k ls hl)) k
theorem xr_dcmp (S : xS V X l own nm cc nL ws R) {x y : UInt64} {op : CmpOp} (hdg : decode cc pc = .ok (.dcmp op, 1))  (k : V cells slots h (pc + 1) lv (.int (Op.cmpValue (FP.dcmp x y) op) :: st)) : V cells slots h pc lv (.double y :: .double x :: st) :=
  xr_step S (fun p e s m args below meth c Q H locs ls F hR hl k => by obtain ⟨hx, hb, hml, hown, hts, hK, hZ, hlk, hGs, hnm⟩ := F; exact lv_dcmp hx hb hdg (k ls hl)) k
theorem xr_iconst (S : xS V X l own nm cc nL ws R) {n : Int} (v : Int32) (hdg : decode cc pc = .ok (.iconst n, 1)) (hv : Int32.ofInt n = v) (k : V cells slots h (pc + 1) lv (.int v :: st)) : V cells slots h pc lv (st) :=
  xr_step S (fun p e s m args below meth c Q H locs ls F hR hl k => by obtain ⟨hx, hb, hml, hown, hts, hK, hZ, hlk, hGs, hnm⟩ := F; exact lv_iconst hx hb hdg hv (k ls hl)) k
theorem xr_bipush (S : xS V X l own nm cc nL ws R) {n : Int} (v : Int32) (hdg : decode cc pc = .ok (.bipush n, 2)) (hv : (Int8.ofInt n).toInt32 = v) (k : V cells slots h (pc + 2) lv (.int v :: st)) : V cells slots h pc lv (st) :=
  xr_step S (fun p e s m args below meth c Q H locs ls F hR hl k => by obtain ⟨hx, hb, hml, hown, hts, hK, hZ, hlk, hGs, hnm⟩ := F; exact lv_bipush hx hb hdg hv (k ls hl)) k
theorem xr_sipush (S : xS V X l own nm cc nL ws R) {n : Int} (v : Int32) (hdg : decode cc pc = .ok (.sipush n, 3)) (hv : (Int16.ofInt n).toInt32 = v) (k : V cells slots h (pc + 3) lv (.int v :: st)) : V cells slots h pc lv (st) :=
  xr_step S (fun p e s m args below meth c Q H locs ls F hR hl k => by obtain ⟨hx, hb, hml, hown, hts, hK, hZ, hlk, hGs, hnm⟩ := F; exact lv_sipush hx hb hdg hv (k ls hl)) k
theorem xr_lconst (S : xS V X l own nm cc nL ws R) {n : Fin 2} (v : Int64) (hdg : decode cc pc = .ok (.lconst n, 1)) (hv : Int64.ofNat (n : Nat) = v) (k : V cells slots h (pc + 1) lv (.long v :: st)) : V cells slots h pc lv (st) :=
  xr_step S (fun p e s m args below meth c Q H locs ls F hR hl k => by obtain ⟨hx, hb, hml, hown, hts, hK, hZ, hlk, hGs, hnm⟩ := F; exact lv_lconst hx hb hdg hv (k ls hl)) k
theorem xr_dconst0 (S : xS V X l own nm cc nL ws R)  (hdg : decode cc pc = .ok (.dconst 0, 1))  (k : V cells slots h (pc + 1) lv (.double FP.dconst0 :: st)) : V cells slots h pc lv (st) :=
  xr_step S (fun p e s m args below meth c Q H locs ls F hR hl k => by obtain ⟨hx, hb, hml, hown, hts, hK, hZ, hlk, hGs, hnm⟩ := F; exact lv_dconst0 hx hb hdg (k ls hl)) k
theorem xr_ldc (S : xS V X l own nm cc nL ws R) {index : Nat} (v : Int32) (hdg : decode cc pc = .ok (.ldc index, 2)) (hc : Cond.constant own index v ∈ ws) (k : V cells slots h (pc + 2) lv (.int v :: st)) : V cells slots h pc lv (st) :=
  xr_step S (fun p e s m args below meth c Q H locs ls F hR hl k => by obtain ⟨hx, hb, hml, hown, hts, hK, hZ, hlk, hGs, hnm⟩ := F; exact lv_ldc hx hb hown (hts _ hc) hdg (k ls hl)) k
theorem xr_ldc2 (S : xS V X l own nm cc nL ws R) {index : Nat} (v : Int64) (hdg : decode cc pc = .ok (.ldc2_w index, 3)) (hc : Cond.constantLong own index v ∈ ws) (k : V cells slots h (pc + 3) lv (.long v :: st)) : V cells slots h pc lv (st) :=
  xr_step S (fun p e s m args below meth c Q H locs ls F hR hl k => by obtain ⟨hx, hb, hml, hown, hts, hK, hZ, hlk, hGs, hnm⟩ := F; exact lv_ldc2 hx hb hown (hts _ hc) hdg (k ls hl)) k
theorem xr_dup (S : xS V X l own nm cc nL ws R) {va : Value} (hdg : decode cc pc = .ok (.dup, 1)) (hva : va.category = 1) (k : V cells slots h (pc + 1) lv (va :: va :: st)) : V cells slots h pc lv (va :: st) :=
  xr_step S (fun p e s m args below meth c Q H locs ls F hR hl k => by obtain ⟨hx, hb, hml, hown, hts, hK, hZ, hlk, hGs, hnm⟩ := F; exact lv_dup hx hb hdg hva (k ls hl)) k
theorem xr_dup_x1 (S : xS V X l own nm cc nL ws R) {va vb : Value} (hdg : decode cc pc = .ok (.dup_x1, 1)) (hva : va.category = 1) (hvb : vb.category = 1) (k : V cells slots h (pc + 1) lv (va :: vb :: va :: st)) : V cells slots h pc lv (va :: vb :: st) :=
  xr_step S (fun p e s m args below meth c Q H locs ls F hR hl k => by obtain ⟨hx, hb, hml, hown, hts, hK, hZ, hlk, hGs, hnm⟩ := F; exact lv_dup_x1 hx hb hdg hva hvb (k ls hl)) k
theorem xr_pop (S : xS V X l own nm cc nL ws R) {va : Value} (hdg : decode cc pc = .ok (.pop, 1)) (hva : va.category = 1) (k : V cells slots h (pc + 1) lv (st)) : V cells slots h pc lv (va :: st) :=
  xr_step S (fun p e s m args below meth c Q H locs ls F hR hl k => by obtain ⟨hx, hb, hml, hown, hts, hK, hZ, hlk, hGs, hnm⟩ := F; exact lv_pop hx hb hdg hva (k ls hl)) k
theorem xr_null (S : xS V X l own nm cc nL ws R)  (hdg : decode cc pc = .ok (.aconst_null, 1))  (k : V cells slots h (pc + 1) lv (va_rf none :: st)) : V cells slots h pc lv (st) :=
  xr_step S (fun p e s m args below meth c Q H locs ls F hR hl k => by obtain ⟨hx, hb, hml, hown, hts, hK, hZ, hlk, hGs, hnm⟩ := F; exact lv_null hx hb hdg (k ls hl)) k
theorem xr_iload_n (S : xS V X l own nm cc nL ws R) {kf : Fin 4} (kk : Nat) {x : Int32} (hdg : decode cc pc = .ok (.iload_n kf, 1)) (hk : lv[kk]? = some ((kf : Nat), .int x)) (k : V cells slots h (pc + 1) lv (.int x :: st)) : V cells slots h pc lv (st) :=
  xr_step S (fun p e s m args below meth c Q H locs ls F hR hl k => by obtain ⟨hx, hb, hml, hown, hts, hK, hZ, hlk, hGs, hnm⟩ := F; exact lv_iload_n hx hb hdg rfl (lv_at hl kk hk) (k ls hl)) k
theorem xr_iload (S : xS V X l own nm cc nL ws R) {i : Nat} (kk : Nat) {x : Int32} (hdg : decode cc pc = .ok (.iload i, 2)) (hk : lv[kk]? = some (i, .int x)) (k : V cells slots h (pc + 2) lv (.int x :: st)) : V cells slots h pc lv (st) :=
  xr_step S (fun p e s m args below meth c Q H locs ls F hR hl k => by obtain ⟨hx, hb, hml, hown, hts, hK, hZ, hlk, hGs, hnm⟩ := F; exact lv_iload hx hb hdg (lv_at hl kk hk) (k ls hl)) k
theorem xr_lload_n (S : xS V X l own nm cc nL ws R) {kf : Fin 4} (kk : Nat) {x : Int64} (hdg : decode cc pc = .ok (.lload_n kf, 1)) (hk : lv[kk]? = some ((kf : Nat), .long x)) (k : V cells slots h (pc + 1) lv (.long x :: st)) : V cells slots h pc lv (st) :=
  xr_step S (fun p e s m args below meth c Q H locs ls F hR hl k => by obtain ⟨hx, hb, hml, hown, hts, hK, hZ, hlk, hGs, hnm⟩ := F; exact lv_lload_n hx hb hdg rfl (lv_at hl kk hk) (k ls hl)) k
theorem xr_lload (S : xS V X l own nm cc nL ws R) {i : Nat} (kk : Nat) {x : Int64} (hdg : decode cc pc = .ok (.lload i, 2)) (hk : lv[kk]? = some (i, .long x)) (k : V cells slots h (pc + 2) lv (.long x :: st)) : V cells slots h pc lv (st) :=
  xr_step S (fun p e s m args below meth c Q H locs ls F hR hl k => by obtain ⟨hx, hb, hml, hown, hts, hK, hZ, hlk, hGs, hnm⟩ := F; exact lv_lload hx hb hdg (lv_at hl kk hk) (k ls hl)) k
theorem xr_dload_n (S : xS V X l own nm cc nL ws R) {kf : Fin 4} (kk : Nat) {x : UInt64} (hdg : decode cc pc = .ok (.dload_n kf, 1)) (hk : lv[kk]? = some ((kf : Nat), .double x)) (k : V cells slots h (pc + 1) lv (.double x :: st)) : V cells slots h pc lv (st) :=
  xr_step S (fun p e s m args below meth c Q H locs ls F hR hl k => by obtain ⟨hx, hb, hml, hown, hts, hK, hZ, hlk, hGs, hnm⟩ := F; exact lv_dload_n hx hb hdg rfl (lv_at hl kk hk) (k ls hl)) k
theorem xr_dload (S : xS V X l own nm cc nL ws R) {i : Nat} (kk : Nat) {x : UInt64} (hdg : decode cc pc = .ok (.dload i, 2)) (hk : lv[kk]? = some (i, .double x)) (k : V cells slots h (pc + 2) lv (.double x :: st)) : V cells slots h pc lv (st) :=
  xr_step S (fun p e s m args below meth c Q H locs ls F hR hl k => by obtain ⟨hx, hb, hml, hown, hts, hK, hZ, hlk, hGs, hnm⟩ := F; exact lv_dload hx hb hdg (lv_at hl kk hk) (k ls hl)) k
theorem xr_aload_n (S : xS V X l own nm cc nL ws R) {kf : Fin 4} (kk : Nat) {x : Nat} (hdg : decode cc pc = .ok (.aload_n kf, 1)) (hk : lv[kk]? = some ((kf : Nat), .ref x)) (k : V cells slots h (pc + 1) lv (.ref x :: st)) : V cells slots h pc lv (st) :=
  xr_step S (fun p e s m args below meth c Q H locs ls F hR hl k => by obtain ⟨hx, hb, hml, hown, hts, hK, hZ, hlk, hGs, hnm⟩ := F; exact lv_aload_n hx hb hdg rfl (lv_at hl kk hk) (k ls hl)) k
theorem xr_aload (S : xS V X l own nm cc nL ws R) {i : Nat} (kk : Nat) {x : Nat} (hdg : decode cc pc = .ok (.aload i, 2)) (hk : lv[kk]? = some (i, .ref x)) (k : V cells slots h (pc + 2) lv (.ref x :: st)) : V cells slots h pc lv (st) :=
  xr_step S (fun p e s m args below meth c Q H locs ls F hR hl k => by obtain ⟨hx, hb, hml, hown, hts, hK, hZ, hlk, hGs, hnm⟩ := F; exact lv_aload hx hb hdg (lv_at hl kk hk) (k ls hl)) k
theorem xr_aloadq_n (S : xS V X l own nm cc nL ws R) {kf : Fin 4} (kk : Nat) {r : Option Nat} (hdg : decode cc pc = .ok (.aload_n kf, 1)) (hk : lv[kk]? = some ((kf : Nat), va_rf r)) (k : V cells slots h (pc + 1) lv (va_rf r :: st)) : V cells slots h pc lv (st) :=
  xr_step S (fun p e s m args below meth c Q H locs ls F hR hl k => by obtain ⟨hx, hb, hml, hown, hts, hK, hZ, hlk, hGs, hnm⟩ := F; exact (match r, hk, k with | none, hk, k => lv_aload_nN hx hb hdg rfl (lv_at hl kk hk) (k ls hl) | some a, hk, k => lv_aload_n hx hb hdg rfl (lv_at hl kk hk) (k ls hl))) k
theorem xr_aloadq (S : xS V X l own nm cc nL ws R) {i : Nat} (kk : Nat) {r : Option Nat} (hdg : decode cc pc = .ok (.aload i, 2)) (hk : lv[kk]? = some (i, va_rf r)) (k : V cells slots h (pc + 2) lv (va_rf r :: st)) : V cells slots h pc lv (st) :=
  xr_step S (fun p e s m args below meth c Q H locs ls F hR hl k => by obtain ⟨hx, hb, hml, hown, hts, hK, hZ, hlk, hGs, hnm⟩ := F; exact (match r, hk, k with | none, hk, k => lv_aloadN hx hb hdg (lv_at hl kk hk) (k ls hl) | some a, hk, k => lv_aload hx hb hdg (lv_at hl kk hk) (k ls hl))) k
theorem xr_istore_n (S : xS V X l own nm cc nL ws R) {kf : Fin 4} {x : Int32} (lv' : List (Nat × Value)) (hdg : decode cc pc = .ok (.istore_n kf, 1)) (hn : (kf : Nat) < nL) (he : ((kf : Nat), Value.int x) :: lv.filter (fun q => !(q.1 == (kf : Nat)) && !(q.1 + 1 == (kf : Nat) && q.2.category == 2)) = lv') (k : V cells slots h (pc + 1) lv' st) : V cells slots h pc lv (Value.int x :: st) :=
  xr_step S (fun p e s m args below meth c Q H locs ls F hR hl k => by obtain ⟨hx, hb, -⟩ := F; exact lv_istore_n hx hb hdg rfl hl hn he k) k
theorem xr_istore (S : xS V X l own nm cc nL ws R) {i : Nat} {x : Int32} (lv' : List (Nat × Value)) (hdg : decode cc pc = .ok (.istore i, 2)) (hn : i < nL) (he : (i, Value.int x) :: lv.filter (fun q => !(q.1 == i) && !(q.1 + 1 == i && q.2.category == 2)) = lv') (k : V cells slots h (pc + 2) lv' st) : V cells slots h pc lv (Value.int x :: st) :=
  xr_step S (fun p e s m args below meth c Q H locs ls F hR hl k => by obtain ⟨hx, hb, -⟩ := F; exact lv_istore hx hb hdg hl hn he k) k
theorem xr_lstore_n (S : xS V X l own nm cc nL ws R) {kf : Fin 4} {x : Int64} (lv' : List (Nat × Value)) (hdg : decode cc pc = .ok (.lstore_n kf, 1)) (hn : (kf : Nat) + 1 < nL) (he : ((kf : Nat), Value.long x) :: lv.filter (fun q => !(q.1 == (kf : Nat)) && (!(q.1 == (kf : Nat) + 1) && !(q.1 + 1 == (kf : Nat) && q.2.category == 2))) = lv') (k : V cells slots h (pc + 1) lv' st) : V cells slots h pc lv (Value.long x :: st) :=
  xr_step S (fun p e s m args below meth c Q H locs ls F hR hl k => by obtain ⟨hx, hb, -⟩ := F; exact lv_lstore_n hx hb hdg rfl hl hn he k) k
theorem xr_lstore (S : xS V X l own nm cc nL ws R) {i : Nat} {x : Int64} (lv' : List (Nat × Value)) (hdg : decode cc pc = .ok (.lstore i, 2)) (hn : i + 1 < nL) (he : (i, Value.long x) :: lv.filter (fun q => !(q.1 == i) && (!(q.1 == i + 1) && !(q.1 + 1 == i && q.2.category == 2))) = lv') (k : V cells slots h (pc + 2) lv' st) : V cells slots h pc lv (Value.long x :: st) :=
  xr_step S (fun p e s m args below meth c Q H locs ls F hR hl k => by obtain ⟨hx, hb, -⟩ := F; exact lv_lstore hx hb hdg hl hn he k) k
theorem xr_dstore_n (S : xS V X l own nm cc nL ws R) {kf : Fin 4} {x : UInt64} (lv' : List (Nat × Value)) (hdg : decode cc pc = .ok (.dstore_n kf, 1)) (hn : (kf : Nat) + 1 < nL) (he : ((kf : Nat), Value.double x) :: lv.filter (fun q => !(q.1 == (kf : Nat)) && (!(q.1 == (kf : Nat) + 1) && !(q.1 + 1 == (kf : Nat) && q.2.category == 2))) = lv') (k : V cells slots h (pc + 1) lv' st) : V cells slots h pc lv (Value.double x :: st) :=
  xr_step S (fun p e s m args below meth c Q H locs ls F hR hl k => by obtain ⟨hx, hb, -⟩ := F; exact lv_dstore_n hx hb hdg rfl hl hn he k) k
theorem xr_dstore (S : xS V X l own nm cc nL ws R) {i : Nat} {x : UInt64} (lv' : List (Nat × Value)) (hdg : decode cc pc = .ok (.dstore i, 2)) (hn : i + 1 < nL) (he : (i, Value.double x) :: lv.filter (fun q => !(q.1 == i) && (!(q.1 == i + 1) && !(q.1 + 1 == i && q.2.category == 2))) = lv') (k : V cells slots h (pc + 2) lv' st) : V cells slots h pc lv (Value.double x :: st) :=
  xr_step S (fun p e s m args below meth c Q H locs ls F hR hl k => by obtain ⟨hx, hb, -⟩ := F; exact lv_dstore hx hb hdg hl hn he k) k
theorem xr_astore_n (S : xS V X l own nm cc nL ws R) {kf : Fin 4} {x : Nat} (lv' : List (Nat × Value)) (hdg : decode cc pc = .ok (.astore_n kf, 1)) (hn : (kf : Nat) < nL) (he : ((kf : Nat), Value.ref x) :: lv.filter (fun q => !(q.1 == (kf : Nat)) && !(q.1 + 1 == (kf : Nat) && q.2.category == 2)) = lv') (k : V cells slots h (pc + 1) lv' st) : V cells slots h pc lv (Value.ref x :: st) :=
  xr_step S (fun p e s m args below meth c Q H locs ls F hR hl k => by obtain ⟨hx, hb, -⟩ := F; exact lv_astore_n hx hb hdg rfl hl hn he k) k
theorem xr_astore (S : xS V X l own nm cc nL ws R) {i : Nat} {x : Nat} (lv' : List (Nat × Value)) (hdg : decode cc pc = .ok (.astore i, 2)) (hn : i < nL) (he : (i, Value.ref x) :: lv.filter (fun q => !(q.1 == i) && !(q.1 + 1 == i && q.2.category == 2)) = lv') (k : V cells slots h (pc + 2) lv' st) : V cells slots h pc lv (Value.ref x :: st) :=
  xr_step S (fun p e s m args below meth c Q H locs ls F hR hl k => by obtain ⟨hx, hb, -⟩ := F; exact lv_astore hx hb hdg hl hn he k) k
theorem xr_astoreq_n (S : xS V X l own nm cc nL ws R) {kf : Fin 4} {r : Option Nat} (lv' : List (Nat × Value)) (hdg : decode cc pc = .ok (.astore_n kf, 1)) (hn : (kf : Nat) < nL) (he : ((kf : Nat), va_rf r) :: lv.filter (fun q => !(q.1 == (kf : Nat)) && !(q.1 + 1 == (kf : Nat) && q.2.category == 2)) = lv') (k : V cells slots h (pc + 1) lv' st) : V cells slots h pc lv (va_rf r :: st) :=
  xr_step S (fun p e s m args below meth c Q H locs ls F hR hl k => by obtain ⟨hx, hb, -⟩ := F; exact (match r, he with | none, he => lv_astore_nN hx hb hdg rfl hl hn he k | some a, he => lv_astore_n hx hb hdg rfl hl hn he k)) k
theorem xr_astoreq (S : xS V X l own nm cc nL ws R) {i : Nat} {r : Option Nat} (lv' : List (Nat × Value)) (hdg : decode cc pc = .ok (.astore i, 2)) (hn : i < nL) (he : (i, va_rf r) :: lv.filter (fun q => !(q.1 == i) && !(q.1 + 1 == i && q.2.category == 2)) = lv') (k : V cells slots h (pc + 2) lv' st) : V cells slots h pc lv (va_rf r :: st) :=
  xr_step S (fun p e s m args below meth c Q H locs ls F hR hl k => by obtain ⟨hx, hb, -⟩ := F; exact (match r, he with | none, he => lv_astoreN hx hb hdg hl hn he k | some a, he => lv_astore hx hb hdg hl hn he k)) k
theorem xr_iinc (S : xS V X l own nm cc nL ws R) {i : Nat} {n : Int} {x : Int32} (kk : Nat) (v : Int32) (lv' : List (Nat × Value)) (hdg : decode cc pc = .ok (.iinc i n, 3)) (hk : lv[kk]? = some (i, .int x)) (hv : x + Int32.ofInt n = v) (hn : i < nL) (he : (i, Value.int v) :: lv.filter (fun q => !(q.1 == i) && !(q.1 + 1 == i && q.2.category == 2)) = lv') (k : V cells slots h (pc + 3) lv' st) : V cells slots h pc lv st :=
  xr_step S (fun p e s m args below meth c Q H locs ls F hR hl k => by obtain ⟨hx, hb, -⟩ := F; exact lv_iinc hx hb hdg hl hk hv hn he k) k
theorem xr_if_eq (S : xS V X l own nm cc nL ws R) {x : Int32} {off : Int} {tgt : Nat} (hdg : decode cc pc = .ok (.ifCond .eq off, 3)) (ht : (pc : Int) + off = (tgt : Int)) (kt : x = 0 → V cells slots h tgt lv st) (kf : ¬ x = 0 → V cells slots h (pc + 3) lv st) : V cells slots h pc lv (.int x :: st) := by
  obtain ⟨ok, p, e, s, m, args, below, meth, c, Q, rfl, hx, hb, hml, hown, hts, hK, hZ, hlk, hGs, hnm⟩ := S
  intro d H locs ls hd hR hS hl
  exact lv_if_eq hx hb hdg ht (fun z => kt z d H locs ls hd hR hS hl) (fun z => kf z d H locs ls hd hR hS hl)
theorem xr_icmp_eq (S : xS V X l own nm cc nL ws R) {x y : Int32} {off : Int} {tgt : Nat} (hdg : decode cc pc = .ok (.if_icmp .eq off, 3)) (ht : (pc : Int) + off = (tgt : Int)) (kt : x = y → V cells slots h tgt lv st) (kf : ¬ x = y → V cells slots h (pc + 3) lv st) : V cells slots h pc lv (.int y :: .int x :: st) := by
  obtain ⟨ok, p, e, s, m, args, below, meth, c, Q, rfl, hx, hb, hml, hown, hts, hK, hZ, hlk, hGs, hnm⟩ := S
  intro d H locs ls hd hR hS hl
  exact lv_icmp_eq hx hb hdg ht (fun z => kt z d H locs ls hd hR hS hl) (fun z => kf z d H locs ls hd hR hS hl)
theorem xr_if_ne (S : xS V X l own nm cc nL ws R) {x : Int32} {off : Int} {tgt : Nat} (hdg : decode cc pc = .ok (.ifCond .ne off, 3)) (ht : (pc : Int) + off = (tgt : Int)) (kt : ¬ x = 0 → V cells slots h tgt lv st) (kf : x = 0 → V cells slots h (pc + 3) lv st) : V cells slots h pc lv (.int x :: st) := by
  obtain ⟨ok, p, e, s, m, args, below, meth, c, Q, rfl, hx, hb, hml, hown, hts, hK, hZ, hlk, hGs, hnm⟩ := S
  intro d H locs ls hd hR hS hl
  exact lv_if_ne hx hb hdg ht (fun z => kt z d H locs ls hd hR hS hl) (fun z => kf z d H locs ls hd hR hS hl)
theorem xr_icmp_ne (S : xS V X l own nm cc nL ws R) {x y : Int32} {off : Int} {tgt : Nat} (hdg : decode cc pc = .ok (.if_icmp .ne off, 3)) (ht : (pc : Int) + off = (tgt : Int)) (kt : ¬ x = y → V cells slots h tgt lv st) (kf : x = y → V cells slots h (pc + 3) lv st) : V cells slots h pc lv (.int y :: .int x :: st) := by
  obtain ⟨ok, p, e, s, m, args, below, meth, c, Q, rfl, hx, hb, hml, hown, hts, hK, hZ, hlk, hGs, hnm⟩ := S
  intro d H locs ls hd hR hS hl
  exact lv_icmp_ne hx hb hdg ht (fun z => kt z d H locs ls hd hR hS hl) (fun z => kf z d H locs ls hd hR hS hl)
theorem xr_if_lt (S : xS V X l own nm cc nL ws R) {x : Int32} {off : Int} {tgt : Nat} (hdg : decode cc pc = .ok (.ifCond .lt off, 3)) (ht : (pc : Int) + off = (tgt : Int)) (kt : x < 0 → V cells slots h tgt lv st) (kf : ¬ x < 0 → V cells slots h (pc + 3) lv st) : V cells slots h pc lv (.int x :: st) := by
  obtain ⟨ok, p, e, s, m, args, below, meth, c, Q, rfl, hx, hb, hml, hown, hts, hK, hZ, hlk, hGs, hnm⟩ := S
  intro d H locs ls hd hR hS hl
  exact lv_if_lt hx hb hdg ht (fun z => kt z d H locs ls hd hR hS hl) (fun z => kf z d H locs ls hd hR hS hl)
theorem xr_icmp_lt (S : xS V X l own nm cc nL ws R) {x y : Int32} {off : Int} {tgt : Nat} (hdg : decode cc pc = .ok (.if_icmp .lt off, 3)) (ht : (pc : Int) + off = (tgt : Int)) (kt : x < y → V cells slots h tgt lv st) (kf : ¬ x < y → V cells slots h (pc + 3) lv st) : V cells slots h pc lv (.int y :: .int x :: st) := by
  obtain ⟨ok, p, e, s, m, args, below, meth, c, Q, rfl, hx, hb, hml, hown, hts, hK, hZ, hlk, hGs, hnm⟩ := S
  intro d H locs ls hd hR hS hl
  exact lv_icmp_lt hx hb hdg ht (fun z => kt z d H locs ls hd hR hS hl) (fun z => kf z d H locs ls hd hR hS hl)
theorem xr_if_ge (S : xS V X l own nm cc nL ws R) {x : Int32} {off : Int} {tgt : Nat} (hdg : decode cc pc = .ok (.ifCond .ge off, 3)) (ht : (pc : Int) + off = (tgt : Int)) (kt : 0 ≤ x → V cells slots h tgt lv st) (kf : ¬ 0 ≤ x → V cells slots h (pc + 3) lv st) : V cells slots h pc lv (.int x :: st) := by
  obtain ⟨ok, p, e, s, m, args, below, meth, c, Q, rfl, hx, hb, hml, hown, hts, hK, hZ, hlk, hGs, hnm⟩ := S
  intro d H locs ls hd hR hS hl
  exact lv_if_ge hx hb hdg ht (fun z => kt z d H locs ls hd hR hS hl) (fun z => kf z d H locs ls hd hR hS hl)
theorem xr_icmp_ge (S : xS V X l own nm cc nL ws R) {x y : Int32} {off : Int} {tgt : Nat} (hdg : decode cc pc = .ok (.if_icmp .ge off, 3)) (ht : (pc : Int) + off = (tgt : Int)) (kt : y ≤ x → V cells slots h tgt lv st) (kf : ¬ y ≤ x → V cells slots h (pc + 3) lv st) : V cells slots h pc lv (.int y :: .int x :: st) := by
  obtain ⟨ok, p, e, s, m, args, below, meth, c, Q, rfl, hx, hb, hml, hown, hts, hK, hZ, hlk, hGs, hnm⟩ := S
  intro d H locs ls hd hR hS hl
  exact lv_icmp_ge hx hb hdg ht (fun z => kt z d H locs ls hd hR hS hl) (fun z => kf z d H locs ls hd hR hS hl)
theorem xr_if_gt (S : xS V X l own nm cc nL ws R) {x : Int32} {off : Int} {tgt : Nat} (hdg : decode cc pc = .ok (.ifCond .gt off, 3)) (ht : (pc : Int) + off = (tgt : Int)) (kt : 0 < x → V cells slots h tgt lv st) (kf : ¬ 0 < x → V cells slots h (pc + 3) lv st) : V cells slots h pc lv (.int x :: st) := by
  obtain ⟨ok, p, e, s, m, args, below, meth, c, Q, rfl, hx, hb, hml, hown, hts, hK, hZ, hlk, hGs, hnm⟩ := S
  intro d H locs ls hd hR hS hl
  exact lv_if_gt hx hb hdg ht (fun z => kt z d H locs ls hd hR hS hl) (fun z => kf z d H locs ls hd hR hS hl)
theorem xr_icmp_gt (S : xS V X l own nm cc nL ws R) {x y : Int32} {off : Int} {tgt : Nat} (hdg : decode cc pc = .ok (.if_icmp .gt off, 3)) (ht : (pc : Int) + off = (tgt : Int)) (kt : y < x → V cells slots h tgt lv st) (kf : ¬ y < x → V cells slots h (pc + 3) lv st) : V cells slots h pc lv (.int y :: .int x :: st) := by
  obtain ⟨ok, p, e, s, m, args, below, meth, c, Q, rfl, hx, hb, hml, hown, hts, hK, hZ, hlk, hGs, hnm⟩ := S
  intro d H locs ls hd hR hS hl
  exact lv_icmp_gt hx hb hdg ht (fun z => kt z d H locs ls hd hR hS hl) (fun z => kf z d H locs ls hd hR hS hl)
theorem xr_if_le (S : xS V X l own nm cc nL ws R) {x : Int32} {off : Int} {tgt : Nat} (hdg : decode cc pc = .ok (.ifCond .le off, 3)) (ht : (pc : Int) + off = (tgt : Int)) (kt : x ≤ 0 → V cells slots h tgt lv st) (kf : ¬ x ≤ 0 → V cells slots h (pc + 3) lv st) : V cells slots h pc lv (.int x :: st) := by
  obtain ⟨ok, p, e, s, m, args, below, meth, c, Q, rfl, hx, hb, hml, hown, hts, hK, hZ, hlk, hGs, hnm⟩ := S
  intro d H locs ls hd hR hS hl
  exact lv_if_le hx hb hdg ht (fun z => kt z d H locs ls hd hR hS hl) (fun z => kf z d H locs ls hd hR hS hl)
theorem xr_icmp_le (S : xS V X l own nm cc nL ws R) {x y : Int32} {off : Int} {tgt : Nat} (hdg : decode cc pc = .ok (.if_icmp .le off, 3)) (ht : (pc : Int) + off = (tgt : Int)) (kt : x ≤ y → V cells slots h tgt lv st) (kf : ¬ x ≤ y → V cells slots h (pc + 3) lv st) : V cells slots h pc lv (.int y :: .int x :: st) := by
  obtain ⟨ok, p, e, s, m, args, below, meth, c, Q, rfl, hx, hb, hml, hown, hts, hK, hZ, hlk, hGs, hnm⟩ := S
  intro d H locs ls hd hR hS hl
  exact lv_icmp_le hx hb hdg ht (fun z => kt z d H locs ls hd hR hS hl) (fun z => kf z d H locs ls hd hR hS hl)
theorem xr_acmp_eq (S : xS V X l own nm cc nL ws R) {rx ry : Option Nat} {off : Int} {tgt : Nat} (hdg : decode cc pc = .ok (.if_acmp .eq off, 3)) (ht : (pc : Int) + off = (tgt : Int)) (kt : rx = ry → V cells slots h tgt lv st) (kf : ¬ rx = ry → V cells slots h (pc + 3) lv st) : V cells slots h pc lv (va_rf ry :: va_rf rx :: st) := by
  obtain ⟨ok, p, e, s, m, args, below, meth, c, Q, rfl, hx, hb, hml, hown, hts, hK, hZ, hlk, hGs, hnm⟩ := S
  intro d H locs ls hd hR hS hl
  exact lv_acmp_eq hx hb hdg ht (fun z => kt z d H locs ls hd hR hS hl) (fun z => kf z d H locs ls hd hR hS hl)
theorem xr_acmp_ne (S : xS V X l own nm cc nL ws R) {rx ry : Option Nat} {off : Int} {tgt : Nat} (hdg : decode cc pc = .ok (.if_acmp .ne off, 3)) (ht : (pc : Int) + off = (tgt : Int)) (kt : ¬ rx = ry → V cells slots h tgt lv st) (kf : rx = ry → V cells slots h (pc + 3) lv st) : V cells slots h pc lv (va_rf ry :: va_rf rx :: st) := by
  obtain ⟨ok, p, e, s, m, args, below, meth, c, Q, rfl, hx, hb, hml, hown, hts, hK, hZ, hlk, hGs, hnm⟩ := S
  intro d H locs ls hd hR hS hl
  exact lv_acmp_ne hx hb hdg ht (fun z => kt z d H locs ls hd hR hS hl) (fun z => kf z d H locs ls hd hR hS hl)
theorem xr_goto (S : xS V X l own nm cc nL ws R) {off : Int} {tgt : Nat} (hdg : decode cc pc = .ok (.goto off, 3)) (ht : (pc : Int) + off = (tgt : Int)) (k : V cells slots h tgt lv st) : V cells slots h pc lv st :=
  xr_step S (fun p e s m args below meth c Q H locs ls F hR hl k => by obtain ⟨hx, hb, -⟩ := F; exact lv_goto hx hb hdg ht (k ls hl)) k
theorem xr_ifnull (S : xS V X l own nm cc nL ws R) {r : Option Nat} {off : Int} {tgt : Nat} (hdg : decode cc pc = .ok (.ifnull off, 3)) (ht : (pc : Int) + off = (tgt : Int)) (kt : r = none → V cells slots h tgt lv st) (kf : ∀ a, r = some a → V cells slots h (pc + 3) lv st) : V cells slots h pc lv (va_rf r :: st) := by
  obtain ⟨ok, p, e, s, m, args, below, meth, c, Q, rfl, hx, hb, hml, hown, hts, hK, hZ, hlk, hGs, hnm⟩ := S
  intro d H locs ls hd hR hS hl
  cases r with
  | none => exact lv_ifnullN hx hb hdg ht (kt rfl d H locs ls hd hR hS hl)
  | some a => exact lv_ifnull hx hb hdg (kf a rfl d H locs ls hd hR hS hl)
theorem xr_ifnonnull (S : xS V X l own nm cc nL ws R) {r : Option Nat} {off : Int} {tgt : Nat} (hdg : decode cc pc = .ok (.ifnonnull off, 3)) (ht : (pc : Int) + off = (tgt : Int)) (kt : ∀ a, r = some a → V cells slots h tgt lv st) (kf : r = none → V cells slots h (pc + 3) lv st) : V cells slots h pc lv (va_rf r :: st) := by
  obtain ⟨ok, p, e, s, m, args, below, meth, c, Q, rfl, hx, hb, hml, hown, hts, hK, hZ, hlk, hGs, hnm⟩ := S
  intro d H locs ls hd hR hS hl
  cases r with
  | none => exact lv_ifnonnullN hx hb hdg (kf rfl d H locs ls hd hR hS hl)
  | some a => exact lv_ifnonnull hx hb hdg ht (kt a rfl d H locs ls hd hR hS hl)
theorem xr_swIn (S : xS V X l own nm cc nL ws R) {dflt lo hi : Int} {offs : Array Int} {len : Nat} {x : Int32} {off : Int} {tgt : Nat} (v : Int) (hdg : decode cc pc = .ok (.tableswitch dflt lo hi offs, len)) (hv : x.toInt = v) (h1 : ¬ v < lo) (h2 : ¬ hi < v) (ho : offs[(v - lo).toNat]? = some off) (ht : (pc : Int) + off = (tgt : Int)) (k : V cells slots h tgt lv st) : V cells slots h pc lv (.int x :: st) :=
  xr_step S (fun p e s m args below meth c Q H locs ls F hR hl k => by obtain ⟨hx, hb, -⟩ := F; subst hv; exact lv_tableIn hx hb hdg h1 h2 ho ht (k ls hl)) k
theorem xr_swOut (S : xS V X l own nm cc nL ws R) {dflt lo hi : Int} {offs : Array Int} {len : Nat} {x : Int32} {tgt : Nat} (hdg : decode cc pc = .ok (.tableswitch dflt lo hi offs, len)) (hv : x.toInt < lo ∨ hi < x.toInt) (ht : (pc : Int) + dflt = (tgt : Int)) (k : V cells slots h tgt lv st) : V cells slots h pc lv (.int x :: st) :=
  xr_step S (fun p e s m args below meth c Q H locs ls F hR hl k => by obtain ⟨hx, hb, -⟩ := F; exact lv_tableOut hx hb hdg hv ht (k ls hl)) k
/-- fewer locals -/
theorem xr_sub (S : xS V X l own nm cc nL ws R) (lv' : List (Nat × Value)) (is : List Nat) (he : is.filterMap (fun i => lv[i]?) = lv') (k : V cells slots h pc lv' st) : V cells slots h pc lv st :=
  xr_step S (fun p e s m args below meth c Q H locs ls F hR hl k => k ls (lv_sub hl is he)) k
theorem xr_widen (S : xS V X l own nm cc nL ws R) {k n : Nat} (h1 : cells ≤ k) (h2 : slots ≤ n) (kk : V k n h pc lv st) : V cells slots h pc lv st := by
  obtain ⟨ok, p, e, s, m, args, below, meth, c, Q, rfl, hx, hb, hml, hown, hts, hK, hZ, hlk, hGs, hnm⟩ := S
  intro d H locs ls hd hR hS hl
  exact W.widen h1 h2 (kk d H locs ls hd hR hS hl)
/-- an abstract heap with fewer cells -/
theorem xr_less (S : xS V X l own nm cc nL ws R) {h' : XH} (he : ∀ a e, h' a = some e → h a = some e) (kk : V cells slots h' pc lv st) : V cells slots h pc lv st := by
  obtain ⟨ok, p, e, s, m, args, below, meth, c, Q, rfl, hx, hb, hml, hown, hts, hK, hZ, hlk, hGs, hnm⟩ := S
  intro d H locs ls hd hR hS hl
  exact kk d H locs ls hd (fun a e q => hR a e (he a e q)) hS hl

theorem xsame {args : Array Value} {s : State} {ref o n d : String} (hts : ∀ w ∈ ws, w.before args s = true) (hsame : ref = o ∨ Cond.sameField ref o n d ∈ ws) : ∀ x, s.fieldFound? o n d = some x → s.fieldFound? ref n d = some x := by
  rcases hsame with rfl | h
  · exact fun _ q => q
  · intro x hx
    have h0 := hts _ h
    cases hr : s.fieldFound? ref n d with
    | none => simp [Cond.before, Cond.holds, Cond.value, hr] at h0
    | some y =>
      obtain ⟨c, k, i, f⟩ := y
      have h1 := Cond.sameField_spec hr h0
      rw [h1] at hx
      exact hx
theorem xr_get (S : xS V X l own nm cc nL ws R) {a index : Nat} {ref C : String} {T : u_T} {N : Nat} {fs : List Value} {v : Value} (ci k : Nat) (hdg : decode cc pc = .ok (.getfield index, 3)) (hin : ∀ w ∈ u_ws C T N, w ∈ ws) (hc : vwCl[ci]? = some (C, T, N)) (hk : k < N) (hlink : Cond.fieldLink own index ref (T k).2.1 (T k).2.2.1 ∈ ws ∨ (own, index, ref, (T k).2.1, (T k).2.2.1) ∈ xNest) (hsame : ref = (T k).1 ∨ Cond.sameField ref (T k).1 (T k).2.1 (T k).2.2.1 ∈ ws) (ha : h a = some (.inr (ci, fs))) (hv : fs[k]? = some v) (kz : V cells slots h (pc + 3) lv (v :: st)) : V cells slots h pc lv (.ref a :: st) :=
  xr_step S (fun p e s m args below meth c Q H locs ls F hR hl kz => by obtain ⟨hx, hb, hml, hown, hts, hK, hZ, hlk, hGs, hnm⟩ := F; rcases hlink with hlink | hlink; exact va_get (D := X.1) (ci := ci) (v := v) hx hb hts hin hown hK (xR_one hR ha) 0 rfl hc k hk (hts _ hlink) (xsame hts hsame) hv hdg (kz ls hl); exact va_getN (D := X.1) (ci := ci) (v := v) hx hb hts hin hown hK (xR_one hR ha) 0 rfl hc k hk ((hZ.2.2.2.2.2.2.2.2.2.1 _ hlink).use rfl) (xsame hts hsame) hv hdg (kz ls hl)) kz
theorem xr_iald (S : xS V X l own nm cc nL ws R) {a n : Nat} {i : Int32} {f : Nat → Int32} (t : Nat) (hdg : decode cc pc = .ok (.iaload, 1)) (ht : t = 0) (ha : h a = some (.inl (t, n, .inl f))) (hi : vp_in i n) (kz : V cells slots h (pc + 1) lv (.int (f i.toNatClampNeg) :: st)) : V cells slots h pc lv (.int i :: .ref a :: st) :=
  xr_step S (fun p e s m args below meth c Q H locs ls F hR hl kz => by obtain ⟨hx, hb, hml, hown, hts, hK, hZ, hlk, hGs, hnm⟩ := F; exact va_iald (D := X.1) hx hb hK (xR_one hR ha (fun z => by cases z; cases ht) (fun _ _ z => by cases z; cases ht)) 0 t rfl (by subst ht; rfl) hi hdg (kz ls hl)) kz
theorem xr_aald (S : xS V X l own nm cc nL ws R) {a n : Nat} {i : Int32} {f : Nat → Option Nat} (hdg : decode cc pc = .ok (.aaload, 1)) (ha : h a = some (.inl (1, n, .inr (.inr (.inr (.inr f)))))) (hi : vp_in i n) (kz : V cells slots h (pc + 1) lv (va_rf (f i.toNatClampNeg) :: st)) : V cells slots h pc lv (.int i :: .ref a :: st) :=
  xr_step S (fun p e s m args below meth c Q H locs ls F hR hl kz => by obtain ⟨hx, hb, hml, hown, hts, hK, hZ, hlk, hGs, hnm⟩ := F; exact va_aldq (D := X.1) hx hb hK (xR_one hR ha (fun z => by cases z; exact hi (Or.inr (Nat.zero_le _)))) 0 1 rfl rfl hi hdg (kz ls hl)) kz
theorem xr_alen (S : xS V X l own nm cc nL ws R) {a t : Nat} {b : vp_A} {ty : FieldType} (hdg : decode cc pc = .ok (.arraylength, 1)) (ht : ∀ X : XC, ∃ q, (xT X)[t]? = some (q, ty) ∧ q = xC X t) (ha : h a = some (.inl (t, b))) (kz : V cells slots h (pc + 1) lv (.int (Int32.ofNat b.1) :: st)) (h3 : t ≠ 3 := by decide) : V cells slots h pc lv (.ref a :: st) := by
  obtain ⟨ok, p, e, s, m, args, below, meth, c, Q, rfl, hx, hb, hml, hown, hts, hK, hZ, hlk, hGs, hnm⟩ := S
  intro d H locs ls hd hR hS hl
  by_cases hne : (.inl (t, b) : XA) = xro
  · cases hne
    rcases hR a _ ha with h1 | h1
    · have hP1 : va_P X.1 vwCl [(a, xE (xC X) xro)] H := by
        intro k q hk
        have hz : k < 1 := (List.getElem?_eq_some_iff.mp hk).1
        rw [show k = 0 by omega] at hk
        cases hk
        exact h1.1
      exact va_alen (D := X.1) (ty := .object "java/lang/Object") (s := s.setDrawn d) hx hb hK hP1 0 1 rfl rfl rfl hdg (kz d H locs ls hd hR hS hl)
    · obtain ⟨h1 | h1, -⟩ := h1
      on_goal 2 => cases h1.1
      obtain ⟨-, rfl⟩ := h1
      exact va_tlen (s := s.setDrawn d) hx hb ((hZ.2.2.2.2.2.2.2.2.2.2.2.1).kept (fun a h1 h2 => hGs.2.1 a h1 h2)) hS rfl hdg (kz d H locs ls hd hR hS hl)
  · exact va_alen (D := X.1) (ty := ty) (s := s.setDrawn d) hx hb hK (xR_one hR ha hne (fun _ _ z => by cases z; exact h3 rfl)) 0 t rfl (by obtain ⟨q, h1, h2⟩ := ht X; rw [h1, h2]) rfl hdg (kz d H locs ls hd hR hS hl)
/-- the script -/
theorem xr_sld (S : xS V X l own nm cc nL ws R) {a n : Nat} {i : Int32} {f : Nat → Int32} (hdg : decode cc pc = .ok (.iaload, 1)) (ha : h a = some (.inl (3, n, .inl f))) (hi : vp_in i n) (kz : V cells slots h (pc + 1) lv (.int (f i.toNatClampNeg) :: st)) : V cells slots h pc lv (.int i :: .ref a :: st) := by
  obtain ⟨ok, p, e, s, m, args, below, meth, c, Q, rfl, hx, hb, hml, hown, hts, hK, hZ, hlk, hGs, hnm⟩ := S
  intro d H locs ls hd hR hS hl
  rcases hR a _ ha with h1 | h1
  · have hP1 : va_P X.1 vwCl [(a, xE (xC X) (.inl (3, n, .inl f)))] H := by
      intro k q hk
      have hz : k < 1 := (List.getElem?_eq_some_iff.mp hk).1
      rw [show k = 0 by omega] at hk
      cases hk
      exact h1.1
    exact va_iald (D := X.1) (s := s.setDrawn d) hx hb hK hP1 0 3 rfl rfl hi hdg (kz d H locs ls hd hR hS hl)
  · obtain ⟨h1 | h1, hlt⟩ := h1
    · exact absurd h1.1 (fun z => by cases z)
    · obtain ⟨h1, rfl⟩ := h1
      cases h1
      exact va_sld (s := s.setDrawn d) (A := xA X) hx hb hZ.2.2.2.2.2.2.2.2.2.2.2.2.2 hlt (Nat.not_le.mpr hlt) (xS_tr hGs hS) hi hdg (kz d H locs ls hd hR hS hl)
theorem xr_slen (S : xS V X l own nm cc nL ws R) {a n : Nat} {f : Nat → Int32} (hdg : decode cc pc = .ok (.arraylength, 1)) (ha : h a = some (.inl (3, n, .inl f))) (kz : V cells slots h (pc + 1) lv (.int (Int32.ofNat n) :: st)) : V cells slots h pc lv (.ref a :: st) := by
  obtain ⟨ok, p, e, s, m, args, below, meth, c, Q, rfl, hx, hb, hml, hown, hts, hK, hZ, hlk, hGs, hnm⟩ := S
  intro d H locs ls hd hR hS hl
  rcases hR a _ ha with h1 | h1
  · have hP1 : va_P X.1 vwCl [(a, xE (xC X) (.inl (3, n, .inl f)))] H := by
      intro k q hk
      have hz : k < 1 := (List.getElem?_eq_some_iff.mp hk).1
      rw [show k = 0 by omega] at hk
      cases hk
      exact h1.1
    exact va_alen (D := X.1) (ty := .int) (s := s.setDrawn d) hx hb hK hP1 0 3 rfl rfl rfl hdg (kz d H locs ls hd hR hS hl)
  · obtain ⟨h1 | h1, hlt⟩ := h1
    · exact absurd h1.1 (fun z => by cases z)
    · obtain ⟨h1, rfl⟩ := h1
      cases h1
      exact va_slen (s := s.setDrawn d) (A := xA X) hx hb hZ.2.2.2.2.2.2.2.2.2.2.2.2.2 hlt (Nat.not_le.mpr hlt) (xS_tr hGs hS) hdg (kz d H locs ls hd hR hS hl)
theorem xr_put (S : xS V X l own nm cc nL ws R) {a index : Nat} {ref C : String} {T : u_T} {N : Nat} {fs : List Value} {v : Value} (ci k : Nat) {ty : FieldType} (ty0 : Nat → FieldType) (hdg : decode cc pc = .ok (.putfield index, 3)) (hin : ∀ w ∈ u_ws C T N, w ∈ ws) (hc : vwCl[ci]? = some (C, T, N)) (hk : k < N) (hlink : Cond.fieldLink own index ref (T k).2.1 (T k).2.2.1 ∈ ws ∨ (own, index, ref, (T k).2.1, (T k).2.2.1) ∈ xNest) (hsame : ref = (T k).1 ∨ Cond.sameField ref (T k).1 (T k).2.1 (T k).2.2.1 ∈ ws) (ha : h a = some (.inr (ci, fs))) (hty : ∀ k, k < N → parseFieldDescriptor (T k).2.2.1 = some (ty0 k)) (hnm1 : ∀ a, a < N → ∀ b, b < N → a ≠ b → (T a).2.1 ≠ (T b).2.1) (hfin : (T k).2.2.2 = false) (hd1 : parseFieldDescriptor (T k).2.2.1 = some ty) (hn : narrow ty v = v) (hfit : fits ty v = true) (hlen : k < fs.length) (kz : V cells slots (xup h a (.inr (ci, fs.set k v))) (pc + 3) lv st) : V cells slots h pc lv (v :: .ref a :: st) := by
  obtain ⟨ok, p, e, s, m, args, below, meth, c, Q, rfl, hx, hb, hml, hown, hts, hK, hZ, hlk, hGs, hnm⟩ := S
  intro d H locs ls hd hR hS hl
  have hlo := xR_lo hR ha (fun z => by cases z)
  obtain ⟨q0, hq0⟩ := xL_get (X := X) (n := H.size) ha hlo (xR_lt hR ha hlo)
  rcases hlink with hlink | hlink
  · exact va_put (D := X.1) (A := xA X) (ci := ci) (v := v) (ty := ty) (s := s.setDrawn d) hx hb (dr_words hts d) hin ty0 hty hnm1 hown hK (xL_P hR) xL_D hS q0 hq0 hc k hk (dr_words hts d _ hlink) (xsame (dr_words hts d) hsame) hfin hd1 hn hfit hlen hdg (fun H1 locs1 hP1 hD1 hS1 => kz d H1 locs1 ls hd (xR_set hR (xS_tr hGs hS) hq0 (e1 := .inr (ci, fs.set k v)) hP1 (xS_tr hGs hS1)) hS1 hl)
  · exact va_putN (D := X.1) (A := xA X) (ci := ci) (v := v) (ty := ty) (s := s.setDrawn d) hx hb (dr_words hts d) hin ty0 hty hnm1 hown hK (xL_P hR) xL_D hS q0 hq0 hc k hk ((Cond.before_setDrawn args s d _).trans ((hZ.2.2.2.2.2.2.2.2.2.1 _ hlink).use (A := args) rfl)) (xsame (dr_words hts d) hsame) hfin hd1 hn hfit hlen hdg (fun H1 locs1 hP1 hD1 hS1 => kz d H1 locs1 ls hd (xR_set hR (xS_tr hGs hS) hq0 (e1 := .inr (ci, fs.set k v)) hP1 (xS_tr hGs hS1)) hS1 hl)
theorem xr_putF (S : xS V X l own nm cc nL ws R) {a index : Nat} {ref C : String} {T : u_T} {N : Nat} {fs : List Value} {v : Value} (ci k : Nat) {ty : FieldType} (ty0 : Nat → FieldType) (hdg : decode cc pc = .ok (.putfield index, 3)) (hin : ∀ w ∈ u_ws C T N, w ∈ ws) (hc : vwCl[ci]? = some (C, T, N)) (hk : k < N) (hlink : Cond.fieldLink own index ref (T k).2.1 (T k).2.2.1 ∈ ws) (hsame : ref = (T k).1 ∨ Cond.sameField ref (T k).1 (T k).2.1 (T k).2.2.1 ∈ ws) (ha : h a = some (.inr (ci, fs))) (hty : ∀ k, k < N → parseFieldDescriptor (T k).2.2.1 = some (ty0 k)) (hnm1 : ∀ a, a < N → ∀ b, b < N → a ≠ b → (T a).2.1 ≠ (T b).2.1) (hfin : (T k).2.2.2 = true) (hin2 : nm = "<init>") (hdecl : (T k).1 = own) (hd1 : parseFieldDescriptor (T k).2.2.1 = some ty) (hn : narrow ty v = v) (hfit : fits ty v = true) (hlen : k < fs.length) (kz : V cells slots (xup h a (.inr (ci, fs.set k v))) (pc + 3) lv st) : V cells slots h pc lv (v :: .ref a :: st) := by
  obtain ⟨ok, p, e, s, m, args, below, meth, c, Q, rfl, hx, hb, hml, hown, hts, hK, hZ, hlk, hGs, hnm⟩ := S
  intro d H locs ls hd hR hS hl
  have hlo := xR_lo hR ha (fun z => by cases z)
  obtain ⟨q0, hq0⟩ := xL_get (X := X) (n := H.size) ha hlo (xR_lt hR ha hlo)
  exact va_putF (D := X.1) (A := xA X) (ci := ci) (v := v) (ty := ty) (s := s.setDrawn d) hx hb (dr_words hts d) hin ty0 hty hnm1 hown hK (xL_P hR) xL_D hS q0 hq0 hc k hk (dr_words hts d _ hlink) (xsame (dr_words hts d) hsame) hfin (hnm.trans hin2) hdecl hd1 hn hfit hlen hdg (fun H1 locs1 hP1 hD1 hS1 => kz d H1 locs1 ls hd (xR_set hR (xS_tr hGs hS) hq0 (e1 := .inr (ci, fs.set k v)) hP1 (xS_tr hGs hS1)) hS1 hl)
theorem xr_iast (S : xS V X l own nm cc nL ws R) {a n : Nat} {i : Int32} {f : Nat → Int32} {x : Int32} (t : Nat) (hdg : decode cc pc = .ok (.iastore, 1)) (ht : t = 0) (ha : h a = some (.inl (t, n, .inl f))) (hi : vp_in i n) (kz : V cells slots (xup h a (.inl (t, n, .inl (upd f i.toNatClampNeg x)))) (pc + 1) lv st) : V cells slots h pc lv (.int x :: .int i :: .ref a :: st) := by
  obtain ⟨ok, p, e, s, m, args, below, meth, c, Q, rfl, hx, hb, hml, hown, hts, hK, hZ, hlk, hGs, hnm⟩ := S
  intro d H locs ls hd hR hS hl
  have hlo := xR_lo hR ha (fun z => by cases z <;> exact hi (Or.inr (Nat.zero_le _))) (fun _ _ z => by cases z; cases ht)
  obtain ⟨q0, hq0⟩ := xL_get (X := X) (n := H.size) ha hlo (xR_lt hR ha hlo)
  exact va_iast (D := X.1) (A := xA X) (s := s.setDrawn d) hx hb hK (xL_P hR) xL_D hS q0 t hq0 (by subst ht; rfl) hi hdg (fun H1 locs1 hP1 hD1 hS1 => kz d H1 locs1 ls hd (xR_set hR (xS_tr hGs hS) hq0 (e1 := (.inl (t, n, .inl (upd f i.toNatClampNeg x)))) hP1 (xS_tr hGs hS1)) hS1 hl)
theorem xr_aast (S : xS V X l own nm cc nL ws R) {a n : Nat} {i : Int32} {f : Nat → Option Nat} {v : Nat} {r : vw_C} {fs : List Value} (ci : Nat) (hdg : decode cc pc = .ok (.aastore, 1))  (ha : h a = some (.inl (1, n, .inr (.inr (.inr (.inr f)))))) (hi : vp_in i n) (hv : h v = some (.inr (ci, fs))) (hr : vwCl[ci]? = some r) (hcast : (r.1, "java/lang/Object") ∈ xCast) (kz : V cells slots (xup h a (.inl (1, n, .inr (.inr (.inr (.inr (va_up f i.toNatClampNeg (some v)))))))) (pc + 1) lv st) : V cells slots h pc lv (.ref v :: .int i :: .ref a :: st) := by
  obtain ⟨ok, p, e, s, m, args, below, meth, c, Q, rfl, hx, hb, hml, hown, hts, hK, hZ, hlk, hGs, hnm⟩ := S
  intro d H locs ls hd hR hS hl
  have hlo := xR_lo hR ha (fun z => by cases z <;> exact hi (Or.inr (Nat.zero_le _)))
  obtain ⟨q0, hq0⟩ := xL_get (X := X) (n := H.size) ha hlo (xR_lt hR ha hlo)
  exact va_astqM (D := X.1) (A := xA X) (s := s.setDrawn d) hx hb hK (xL_P hR) xL_D hS q0 1 hq0 rfl (va_rAny hK (xR_one hR hv) (q0 := 0) rfl hr (fun comp c0 h1 h2 => vb_asgC (hZ.2.2.2.2.2.2.2.1 _ hcast) comp c0 h1 h2)) hi hdg (fun H1 locs1 hP1 hD1 hS1 => kz d H1 locs1 ls hd (xR_set hR (xS_tr hGs hS) hq0 (e1 := (.inl (1, n, .inr (.inr (.inr (.inr (va_up f i.toNatClampNeg (some v)))))))) hP1 (xS_tr hGs hS1)) hS1 hl)
theorem xr_aastN (S : xS V X l own nm cc nL ws R) {a n : Nat} {i : Int32} {f : Nat → Option Nat} (hdg : decode cc pc = .ok (.aastore, 1))  (ha : h a = some (.inl (1, n, .inr (.inr (.inr (.inr f)))))) (hi : vp_in i n) (kz : V cells slots (xup h a (.inl (1, n, .inr (.inr (.inr (.inr (va_up f i.toNatClampNeg none))))))) (pc + 1) lv st) : V cells slots h pc lv (va_rf none :: .int i :: .ref a :: st) := by
  obtain ⟨ok, p, e, s, m, args, below, meth, c, Q, rfl, hx, hb, hml, hown, hts, hK, hZ, hlk, hGs, hnm⟩ := S
  intro d H locs ls hd hR hS hl
  have hlo := xR_lo hR ha (fun z => by cases z <;> exact hi (Or.inr (Nat.zero_le _)))
  obtain ⟨q0, hq0⟩ := xL_get (X := X) (n := H.size) ha hlo (xR_lt hR ha hlo)
  exact va_astqN (D := X.1) (A := xA X) (s := s.setDrawn d) hx hb hK (xL_P hR) xL_D hS q0 1 hq0 rfl hi hdg (fun H1 locs1 hP1 hD1 hS1 => kz d H1 locs1 ls hd (xR_set hR (xS_tr hGs hS) hq0 (e1 := (.inl (1, n, .inr (.inr (.inr (.inr (va_up f i.toNatClampNeg none))))))) hP1 (xS_tr hGs hS1)) hS1 hl)
theorem xr_new (S : xS V X l own nm cc nL ws R) {index : Nat} {C : String} {T : u_T} {N : Nat} (ci : Nat) (ty0 : Nat → FieldType) (fs : List Value) (hdg : decode cc pc = .ok (.new index, 3)) (hin : ∀ w ∈ u_ws C T N, w ∈ ws) (hty : ∀ k, k < N → parseFieldDescriptor (T k).2.2.1 = some (ty0 k)) (hcl : Cond.classLink own index C ∈ ws) (hinst : Cond.instantiable C N ∈ ws) (hini : Cond.initialized C ∈ ws) (hc : vwCl[ci]? = some (C, T, N)) (hfs : ∀ j, j < N → defaultValue (ty0 j) = vp_V fs j) (hcells : cells + 1 ≤ R.cells) (hslots : slots + N ≤ R.slots) (kz : ∀ q : Nat, h q = none → V (cells + 1) (slots + N) (xup h q (.inr (ci, fs))) (pc + 3) lv (.ref q :: st)) : V cells slots h pc lv (st) := by
  obtain ⟨ok, p, e, s, m, args, below, meth, c, Q, rfl, hx, hb, hml, hown, hts, hK, hZ, hlk, hGs, hnm⟩ := S
  intro d H locs ls hd hR hS hl
  exact va_new (D := X.1) (A := xA X) (ci := ci) (s := s.setDrawn d) hx hb (dr_words hts d) hin ty0 hty hown (dr_words hts d _ hcl) (dr_words hts d _ hinst) (dr_words hts d _ hini) hK (xL_P hR) xL_D hS (fun q hq => Nat.le_trans hGs.1 hq) hc hfs hcells hslots hdg (fun q H1 hP1 hD1 hS1 => by
    obtain ⟨hn, hR1⟩ := xR_push (e1 := .inr (ci, fs)) hR (xS_tr hGs hS) hP1 hD1 (xS_tr hGs hS1)
    exact kz q hn d H1 locs ls hd hR1 hS1 hl)
theorem xr_newi (S : xS V X l own nm cc nL ws R) {x : Int32} {N : Nat} (t : Nat) (hdg : decode cc pc = .ok (.newarray .int, 2)) (ht : t = 0) (harr : Cond.arrayClass .int ∈ ws) (hn : ¬ x < 0) (hN : x.toNatClampNeg = N) (hbytes : N * componentBytes .int ≤ 536870912) (hcells : cells + 1 ≤ R.cells) (hslots : slots + N ≤ R.slots) (kz : ∀ q : Nat, h q = none → V (cells + 1) (slots + N) (xup h q (.inl (t, N, .inl (fun _ => 0)))) (pc + 2) lv (.ref q :: st)) : V cells slots h pc lv (.int x :: st) := by
  obtain ⟨ok, p, e, s, m, args, below, meth, c, Q, rfl, hx, hb, hml, hown, hts, hK, hZ, hlk, hGs, hnm⟩ := S
  intro d H locs ls hd hR hS hl
  exact va_newa (D := X.1) (A := xA X) (atype := .int) (ty := .int) (s := s.setDrawn d) (a0 := (N, .inl (fun _ => 0))) hx hb (dr_words hts d _ harr) rfl hK (xL_P hR) xL_D hS (fun q hq => Nat.le_trans hGs.1 hq) (fun cA => rfl) hn hN hbytes hcells hslots hdg (fun q cA H1 hK1 hP1 hD1 hS1 => by
    have hcA : cA = xC X t := xK_eq hK1 t (by subst ht; rfl)
    subst hcA
    obtain ⟨hn, hR1⟩ := xR_push (e1 := .inl (t, N, .inl (fun _ => 0))) hR (xS_tr hGs hS) hP1 hD1 (xS_tr hGs hS1)
    exact kz q hn d H1 locs ls hd hR1 hS1 hl)
theorem xr_newq (S : xS V X l own nm cc nL ws R) {x : Int32} {N index : Nat} (hdg : decode cc pc = .ok (.anewarray index, 3)) (hcl : Cond.classLink own index "java/lang/Object" ∈ ws) (hn : ¬ x < 0) (hN : x.toNatClampNeg = N) (hbytes : N * 4 ≤ 536870912) (hcells : cells + 1 ≤ R.cells) (hslots : slots + N ≤ R.slots) (kz : ∀ q : Nat, h q = none → V (cells + 1) (slots + N) (xup h q (.inl (1, N, .inr (.inr (.inr (.inr (fun _ => none))))))) (pc + 3) lv (.ref q :: st)) : V cells slots h pc lv (.int x :: st) := by
  obtain ⟨ok, p, e, s, m, args, below, meth, c, Q, rfl, hx, hb, hml, hown, hts, hK, hZ, hlk, hGs, hnm⟩ := S
  intro d H locs ls hd hR hS hl
  exact va_newq (D := X.1) (A := xA X) (s := s.setDrawn d) hx hb hown (dr_words hts d _ hcl) hZ.2.2.2.2.2.1 hK (xL_P hR) xL_D hS (fun q hq => Nat.le_trans hGs.1 hq) hn hN hbytes hcells hslots hdg (fun q cA H1 hK1 hP1 hD1 hS1 => by
    have hcA : cA = xC X 1 := xK_eq hK1 1 rfl
    subst hcA
    obtain ⟨hn, hR1⟩ := xR_push (e1 := .inl (1, N, .inr (.inr (.inr (.inr (fun _ => none)))))) hR (xS_tr hGs hS) hP1 hD1 (xS_tr hGs hS1)
    exact kz q hn d H1 locs ls hd hR1 hS1 hl)
/-- rows of rows of ints -/
theorem xr_ald2 (S : xS V X l own nm cc nL ws R) {a n : Nat} {i : Int32} {f : Nat → Option Nat} (hdg : decode cc pc = .ok (.aaload, 1)) (ha : h a = some (.inl (2, n, .inr (.inr (.inr (.inr f)))))) (hi : vp_in i n) (kz : V cells slots h (pc + 1) lv (va_rf (f i.toNatClampNeg) :: st)) : V cells slots h pc lv (.int i :: .ref a :: st) :=
  xr_step S (fun p e s m args below meth c Q H locs ls F hR hl kz => by
    obtain ⟨hx, hb, hml, hown, hts, hK, hZ, hlk, hGs, hnm⟩ := F
    have hlt : i.toNatClampNeg < n := Nat.not_le.mp fun q => hi (Or.inr q)
    exact W.aald (v := va_rf (f i.toNatClampNeg)) (ty := .array .int) hx hb (xR_one hR ha 0 _ rfl) ((hK.2 2 _ rfl).1 n (fun j => va_rf (f j))) rfl (fun q => by cases q) (by show ¬ (i < 0 ∨ (arrV _ _ _).slots.size ≤ _); rw [arrV_size]; exact hi) (by show (arrV _ _ _).slots[_]? = _; rw [arrV_read _ _ hlt]) rfl rfl hdg (kz ls hl)) kz
theorem xr_ast2 (S : xS V X l own nm cc nL ws R) {a n v m2 : Nat} {g : Nat → Int32} {i : Int32} {f : Nat → Option Nat} (hdg : decode cc pc = .ok (.aastore, 1)) (ha : h a = some (.inl (2, n, .inr (.inr (.inr (.inr f)))))) (hi : vp_in i n) (hv : h v = some (.inl (0, m2, .inl g))) (kz : V cells slots (xup h a (.inl (2, n, .inr (.inr (.inr (.inr (va_up f i.toNatClampNeg (some v)))))))) (pc + 1) lv st) : V cells slots h pc lv (.ref v :: .int i :: .ref a :: st) := by
  obtain ⟨ok, p, e, s, m, args, below, meth, c, Q, rfl, hx, hb, hml, hown, hts, hK, hZ, hlk, hGs, hnm⟩ := S
  intro d H locs ls hd hR hS hl
  have hlo := xR_lo hR ha (fun z => by cases z)
  obtain ⟨q0, hq0⟩ := xL_get (X := X) (n := H.size) ha hlo (xR_lt hR ha hlo)
  have hlt : i.toNatClampNeg < n := Nat.not_le.mp fun q => hi (Or.inr q)
  have h0 : ¬ i < 0 := fun q => hi (Or.inl q)
  obtain ⟨comp, cA, kA, f1, f2, f3, f4, f5⟩ := arrayOverA_spec hZ.2.2.2.2.2.2.2.2.2.2.2.2.1
  have hcA : cA = xC X 2 := Option.some.inj (f5.symm.trans (hK.2 2 _ rfl).2)
  have hcI : comp = xC X 0 := Option.some.inj (f1.symm.trans (hK.2 0 _ rfl).2)
  subst hcA hcI
  obtain ⟨kI, hkI, -⟩ := Vm.findClass_spec f1
  have hvc : H[v]? = some (vp_cell (xC X 0) (m2, .inl g)) := xR_one hR hv 0 _ rfl
  refine W.aast (s := s.setDrawn d) hx hb (xR_one hR ha 0 _ rfl) (fun q h => by cases h) (fun h => by cases h) f3 f4 rfl hkI ⟨h0, by show _ < (arrV _ _ _).slots.size; rw [arrV_size]; exact hlt⟩ hvc (fun q h => by cases h) hkI (xasg _ _) rfl rfl hdg fun H1 e z oq => ?_
  have hP0 := xL_P hR
  have hD0 := xL_D (X := X) (h := h) (n := H.size)
  have hcell : H1[a]? = some (vp_cell (xC X 2) (n, .inr (.inr (.inr (.inr (va_up f i.toNatClampNeg (some v))))))) := by
    rw [e]
    show some ((vp_cell _ _).setSlot _ _) = _
    rw [vp_cell_q, vp_cell_q, arrV_store]
    congr 2
    funext q
    by_cases hq : q = i.toNatClampNeg
    · subst hq
      simp [updV, va_up, va_rf]
    · simp [updV, va_up, hq]
  have hS1 := hS.put z oq (hD0.2 q0 _ hq0)
  exact kz d H1 _ ls hd (xR_set hR (xS_tr hGs hS) hq0 (e1 := (.inl (2, n, .inr (.inr (.inr (.inr (va_up f i.toNatClampNeg (some v)))))))) (hP0.set hD0 hq0 hcell oq) (xS_tr hGs hS1)) hS1 hl
theorem xr_new2 (S : xS V X l own nm cc nL ws R) {x : Int32} {N index : Nat} (hdg : decode cc pc = .ok (.anewarray index, 3)) (hcl : Cond.classLink own index "[I" ∈ ws) (hn : ¬ x < 0) (hN : x.toNatClampNeg = N) (hbytes : N * 4 ≤ 536870912) (hcells : cells + 1 ≤ R.cells) (hslots : slots + N ≤ R.slots) (kz : ∀ q : Nat, h q = none → V (cells + 1) (slots + N) (xup h q (.inl (2, N, .inr (.inr (.inr (.inr (fun _ => none))))))) (pc + 3) lv (.ref q :: st)) : V cells slots h pc lv (.int x :: st) := by
  obtain ⟨ok, p, e, s, m, args, below, meth, c, Q, rfl, hx, hb, hml, hown, hts, hK, hZ, hlk, hGs, hnm⟩ := S
  intro d H locs ls hd hR hS hl
  subst hN
  refine W.anewA (s := s.setDrawn d) (t := .int) hx hb hown (dr_words hts d _ hcl) (show (Cond.arrayOver (.array .int)).before args (s.setDrawn d) = true from hZ.2.2.2.2.2.2.2.2.2.2.2.2.1) rfl hdg rfl hn hbytes hcells hslots fun cA kA comp f1 f2 f3 f4 => ?_
  have hcA : cA = xC X 2 := Option.some.inj (f1.symm.trans (hK.2 2 _ rfl).2)
  subst hcA
  generalize hH1 : H.push ({ cls := xC X 2, slots := Array.replicate x.toNatClampNeg .null, vm := .none } : Cell) = H1
  have z1 : H1.size = H.size + 1 := by rw [← hH1, Array.size_push]
  have e1 : H1[H.size]? = some (arrV (xC X 2) x.toNatClampNeg (fun _ => .null)) := by rw [← hH1, Array.getElem?_push_size, ← arrV_new]
  have o1 : ∀ q : Nat, q < H.size → H1[q]? = H[q]? := fun q hq => by rw [← hH1, Array.getElem?_push, if_neg (Nat.ne_of_lt hq)]
  have hP := xL_P hR
  have hk : ∀ (k : Nat) (y : Nat × va_E), (xL X h H.size)[k]? = some y → H1[y.1]? = H[y.1]? := fun k y hy => o1 y.1 ((hP k y hy).lt)
  have hS1 : va_S (xA X) s.heap H1 locs := ⟨Nat.le_trans hS.1 (by omega), fun y h1 h2 => (o1 y (Nat.lt_of_lt_of_le h1 hS.1)).trans (hS.2.1 y h1 h2), hS.2.2⟩
  have hP1 : va_P X.1 vwCl (xL X h H.size ++ [(H.size, xE (xC X) (.inl (2, x.toNatClampNeg, .inr (.inr (.inr (.inr (fun _ => none)))))))]) H1 := (hP.kept hk).app (fun k y hy => by
    have hz : k < 1 := (List.getElem?_eq_some_iff.mp hy).1
    rw [show k = 0 by omega] at hy
    cases hy
    show H1[H.size]? = some (vp_cell _ _)
    rw [vp_cell_q]
    exact e1)
  obtain ⟨hnn, hR1⟩ := xR_push (e1 := .inl (2, x.toNatClampNeg, .inr (.inr (.inr (.inr (fun _ => none)))))) hR (xS_tr hGs hS) hP1 (xL_D.push hP rfl (show (xG X).size ≤ H.size from Nat.le_trans hGs.1 hS.1)) (xS_tr hGs hS1)
  exact kz H.size hnn d H1 locs ls hd hR1 hS1 hl
end
/-! ends, calls, throws, contracts -/
def xEnd (V : XVT) (cc : ByteArray) (ret : Option FieldType) (mc ms : Nat) (Po : Option Value → XH → Prop) : Prop :=
  (∀ (cells slots : Nat) (h : XH) (pc : Nat) (lv : List (Nat × Value)) (x : Int32), ret = some .int → decode cc pc = .ok (.ireturn, 1) → Po (some (.int x)) h → cells ≤ mc → slots ≤ ms → V cells slots h pc lv [.int x]) ∧
  (∀ (cells slots : Nat) (h : XH) (pc : Nat) (lv : List (Nat × Value)) (x : Int32), ret = some .boolean → narrow .boolean (.int x) = .int x → decode cc pc = .ok (.ireturn, 1) → Po (some (.int x)) h → cells ≤ mc → slots ≤ ms → V cells slots h pc lv [.int x]) ∧
  (∀ (cells slots : Nat) (h : XH) (pc : Nat) (lv : List (Nat × Value)), ret = none → decode cc pc = .ok (.return_, 1) → Po none h → cells ≤ mc → slots ≤ ms → V cells slots h pc lv []) ∧
  (∀ (cells slots : Nat) (h : XH) (pc : Nat) (lv : List (Nat × Value)) (rt : FieldType) (r : Option Nat), ret = some rt → ((∃ n, rt = .object n) ∨ ∃ t, rt = .array t) → decode cc pc = .ok (.areturn, 1) → Po (some (va_rf r)) h → cells ≤ mc → slots ≤ ms → V cells slots h pc lv [va_rf r]) ∧
  (∀ (cells slots : Nat) (h : XH) (pc : Nat) (lv : List (Nat × Value)) (x : Int64), ret = some .long → decode cc pc = .ok (.lreturn, 1) → Po (some (.long x)) h → cells ≤ mc → slots ≤ ms → V cells slots h pc lv [.long x]) ∧
  (∀ (cells slots : Nat) (h : XH) (pc : Nat) (lv : List (Nat × Value)) (x : UInt64), ret = some .double → decode cc pc = .ok (.dreturn, 1) → Po (some (.double x)) h → cells ≤ mc → slots ≤ ms → V cells slots h pc lv [.double x])
theorem xQ_end {X : XC} {Po : Option Value → XH → Prop} {args : Array Value} {s t : State} {H : Heap} {locs : List Loc} {h : XH} {v : Option Value} (hGs : va_S (xA X) (xG X) s.heap []) (hR : xR X h H) (hS : va_S (xA X) s.heap H locs) (hP : Po v h) (ht : t.heap = H) : xQ X Po args s (.returned v) t := by
  subst ht
  have hG := xS_tr hGs hS
  exact ⟨v, h, rfl, hP, hR, ⟨hG.1, hG.2.1, fun _ q => absurd q List.not_mem_nil⟩, hS.1⟩
theorem xEnd_of {X : XC} {ok : Drawn → Prop} {nL : Nat} {p : Program} {l : Launch} {e : Env} {R : Room} {s : State} {m : MethodId} {args : Array Value} {below : List Frame} {meth : Method} {c : Code} {Q : State → Prop} {cc : ByteArray} {ret : Option FieldType} {mc ms : Nat} {Po : Option Value → XH → Prop}
    (hx : p.tables.exec = Jvm.exec) (hb : c.code = cc) (hr : meth.sig.returnType = ret) (hlk : meth.locks = false) (hGs : va_S (xA X) (xG X) s.heap [])
    (lift : ∀ (d : Drawn) (H : Heap) (locs : List Loc) (g : JFrame), ok d → W p l e R (s.setDrawn d) m args below meth c H locs mc ms (MQ below (xQ X Po) args (s.setDrawn d) mc ms (xA X)) g → W p l e R (s.setDrawn d) m args below meth c H locs mc ms Q g) :
    xEnd (XV X ok nL p l e R s m args below meth c Q) cc ret mc ms Po := by
  refine ⟨?_, ?_, ?_, ?_, ?_, ?_⟩
  · intro cells slots h pc lv x hret hdg hP hc hs d H locs ls hd hR hS hl
    exact W.widen hc hs (lift d H locs _ hd (W.iret (s := s.setDrawn d) hx hb (hr.trans hret) (fun t ht hW => xQ_end (s := s.setDrawn d) hGs hR hS hP ht) (fun q hq => hS.2.2 q hq) hdg hlk))
  · intro cells slots h pc lv x hret hn hdg hP hc hs d H locs ls hd hR hS hl
    exact W.widen hc hs (lift d H locs _ hd (W.zret (s := s.setDrawn d) hx hb (hr.trans hret) hn (fun t ht hW => xQ_end (s := s.setDrawn d) hGs hR hS hP ht) (fun q hq => hS.2.2 q hq) hdg hlk))
  · intro cells slots h pc lv hret hdg hP hc hs d H locs ls hd hR hS hl
    exact W.widen hc hs (lift d H locs _ hd (W.vret (s := s.setDrawn d) hx hb (hr.trans hret) (fun t ht hW => xQ_end (s := s.setDrawn d) hGs hR hS hP ht) (fun q hq => hS.2.2 q hq) hdg hlk))
  · intro cells slots h pc lv rt r hret hrt hdg hP hc hs d H locs ls hd hR hS hl
    exact W.widen hc hs (lift d H locs _ hd (W.aret (s := s.setDrawn d) hx hb (hr.trans hret) hrt (by cases r with | none => exact Or.inl rfl | some a => exact Or.inr ⟨a, rfl⟩) (fun t ht hW => xQ_end (s := s.setDrawn d) hGs hR hS hP ht) (fun q hq => hS.2.2 q hq) hdg hlk))
  · intro cells slots h pc lv x hret hdg hP hc hs d H locs ls hd hR hS hl
    exact W.widen hc hs (lift d H locs _ hd (W.lret (s := s.setDrawn d) hx hb (hr.trans hret) (fun t ht hW => xQ_end (s := s.setDrawn d) hGs hR hS hP ht) (fun q hq => hS.2.2 q hq) hdg hlk))
  · intro cells slots h pc lv x hret hdg hP hc hs d H locs ls hd hR hS hl
    exact W.widen hc hs (lift d H locs _ hd (W.dret (s := s.setDrawn d) hx hb (hr.trans hret) (fun t ht hW => xQ_end (s := s.setDrawn d) hGs hR hS hP ht) (fun q hq => hS.2.2 q hq) hdg hlk))
theorem xM_of {l : Launch} {dc : Nat × Nat} {y : MethodName} {wsy ws' : List Cond} {own : String} {cc : ByteArray} {nL : Nat} {ret : Option FieldType} {fr lo mc ms : Nat} {As : List Value} (lv0 : List (Nat × Value)) {h : XH} {Po : Option Value → XH → Prop}
    (hy : plainName y.cls = true) (hown : y.cls = own) (hw : wsy = Cond.code y cc nL ret :: ws') (hlen : (lg_sl As).length ≤ nL) (hlv : lv_args 0 As = lv0)
    (body : ∀ (X : XC) (V : XVT), xdc X = dc → xS V X l own y.name cc nL wsy (xRm fr lo mc ms) → xEnd V cc ret mc ms Po → V 0 0 h 0 lv0 []) : xM l dc y wsy fr lo mc ms As h Po := by
  intro X hX
  refine Met.ofW (cc := cc) (maxL := nL) (ret := ret) hy hw ?_
  intro p e s m args below meth c s₁ B hml hv
  obtain ⟨rfl, ⟨hK, hZ⟩, hR, hSG⟩ := hv
  have hl := lv_entry As (n := nL) hlen
  rw [hlv] at hl
  rw [lg_entry_eq]
  generalize (lg_sl As ++ List.replicate (nL - (lg_sl As).length) Slot.unset).toArray = ls at hl ⊢
  have hfc : s.vm.findClass own = some m.cls := by rw [← hown]; exact findClass_of_methodNamed B.named
  exact body X (XV X (fun d => d = s.drawn) nL p l e (xRm fr lo mc ms) s m As.toArray below meth c (MQ below (xQ X Po) As.toArray s mc ms (xA X))) hX
    ⟨_, p, e, s, m, _, below, meth, c, _, rfl, B.exec, B.bytes, hml, hfc, atoms_spec (ws := wsy) B.pre, hK, hZ, B.notSynchronized, hSG, (name_of_methodNamed B.named B.method).1⟩
    (xEnd_of B.exec B.bytes B.returns B.notSynchronized hSG (fun d H locs g hd k => by subst hd; exact k)) s.drawn s.heap [] ls rfl hR va_S.rf hl
theorem xS_after {X : XC} {s : State} {H H1 : Heap} {locs L : List Loc} (hGs : va_S (xA X) (xG X) s.heap []) (hS : va_S (xA X) s.heap H locs) (hz : H.size ≤ H1.size) (h1 : va_S (xA X) (xG X) H1 []) (hL : ∀ z ∈ L, xA X z.base) : va_S (xA X) s.heap H1 (locs ++ L) := by
  refine ⟨Nat.le_trans hS.1 hz, fun q hq hn => ?_, fun z hz' => (List.mem_append.mp hz').elim (hS.2.2 z) (hL z)⟩
  have hlt : q < (xG X).size := Nat.lt_of_not_le hn
  rw [h1.2.1 q hlt hn, hGs.2.1 q hlt hn]
theorem xI_of {X : XC} {h : XH} {s U : State} {H : Heap} {locs : List Loc} (hK : va_K X.1 vwCl (xT X) s) (hZ : xZ X s) (hR : xR X h H) (hSG : va_S (xA X) (xG X) H locs) (hU : U.heap = H) (hW : s.WarmedH U.vm) : xI X h U := by
  subst hU
  exact ⟨⟨hK.moved hW.alike, hZ.warm hW⟩, hR, hSG.1, hSG.2.1, fun _ q => absurd q List.not_mem_nil⟩
theorem xPre {X : XC} {h : XH} {As : List Value} : FrameBlind (va_Pc As (xI X h)) := fun a U g mk q => ⟨q.1, q.2.blind⟩
section
variable {V : XVT} {X : XC} {l : Launch} {own nm : String} {cc : ByteArray} {nL : Nat} {ws : List Cond} {R : Room} {cells slots pc : Nat} {h : XH} {lv : List (Nat × Value)} {st : List Value}
  {index maxL : Nat} {y : MethodName} {bytes : ByteArray} {ret : Option FieldType} {wsy ws' : List Cond} {fr lo mc ms : Nat} {Po : Option Value → XH → Prop}
theorem xr_callV (S : xS V X l own nm cc nL ws R) {C : String} {T : u_T} {N b : Nat} {fs : List Value} (ci : Nat) (As rest : List Value) (hdg : decode cc pc = .ok (.invokevirtual index, 3)) (hM : xM l (xdc X) y wsy fr lo mc ms (.ref b :: As) h Po) (hG : GoodIn ws (wsV own index C y wsy)) (hw : wsy = Cond.code y bytes maxL ret :: ws')
    (hd1 : y.cls = C ∧ y.cls ≠ "java/lang/invoke/MethodHandle" ∧ y.cls ≠ "java/lang/invoke/VarHandle" ∧ (parseMethodDescriptor y.desc).map (fun d => d.parameters.length) = some As.length) (hRm : fr + 1 ≤ R.frames ∧ 8 + (maxL + 11) + lo ≤ R.locals) (hst : st = As.reverse ++ .ref b :: rest) (hrest : (rest.map fun v => v.category).sum ≤ 8) (hcs : cells + mc ≤ R.cells ∧ slots + ms ≤ R.slots) (hb1 : h b = some (.inr (ci, fs))) (hc : vwCl[ci]? = some (C, T, N))
    (k : ∀ (v : Option Value) (h' : XH), Po v h' → V (cells + mc) (slots + ms) h' (pc + 3) lv (v.toList ++ rest)) : V cells slots h pc lv st := by
  obtain ⟨ok, p, e, s, m, args, below, meth, c, Q, rfl, hx, hb, hml, hown, hts, hK, hZ, hlk, hGs, hnm⟩ := S
  intro d H locs ls hd hR hS hl T0 hT X0
  obtain ⟨v, st₀, t, T', L, h0, X', hL, e1, e2, ⟨v', h', ho, hPo, hR', hSG', hz⟩, stp⟩ := va_runV (s := s.setDrawn d) (As := As) (rest := rest) (g := F0 m pc ls st) ⟨hx, hb, hml, hown, dr_words hts d⟩ (hM X rfl) (cwV As.length (dr_words hts d) hG hw rfl rfl hd1 hRm) ⟨xPre, va_recv hK (xR_one hR hb1) (ci := ci) (q0 := 0) hc rfl, fun U hU hW => ⟨rfl, xI_of hK hZ hR (xS_tr hGs hS) hU hW⟩⟩ rfl rfl hl.1 hst (lv_room hrest) hdg hcs T0 hT X0
  cases ho
  rw [h0] at hz
  obtain ⟨t2, a1, b1⟩ := k v h' hPo d T'.heap (locs ++ L) ls hd (by rw [e1]; exact hR') (by rw [e1]; exact xS_after hGs hS hz hSG' hL) hl T' rfl X'
  exact ⟨t2, stp t2 a1, b1⟩
theorem xr_callS (S : xS V X l own nm cc nL ws R) (As rest : List Value) (hdg : decode cc pc = .ok (.invokestatic index, 3)) (hM : xM l (xdc X) y wsy fr lo mc ms As h Po) (hG : GoodIn ws (va_wsS own index y wsy)) (hw : wsy = Cond.code y bytes maxL ret :: ws')
    (hd1 : y.cls ≠ "java/lang/invoke/MethodHandle" ∧ y.cls ≠ "java/lang/invoke/VarHandle" ∧ (parseMethodDescriptor y.desc).map (fun d => d.parameters.length) = some As.length) (hRm : fr + 1 ≤ R.frames ∧ 8 + (maxL + 11) + lo ≤ R.locals) (hst : st = As.reverse ++ rest) (hrest : (rest.map fun v => v.category).sum ≤ 8) (hcs : cells + mc ≤ R.cells ∧ slots + ms ≤ R.slots)
    (k : ∀ (v : Option Value) (h' : XH), Po v h' → V (cells + mc) (slots + ms) h' (pc + 3) lv (v.toList ++ rest)) : V cells slots h pc lv st := by
  obtain ⟨ok, p, e, s, m, args, below, meth, c, Q, rfl, hx, hb, hml, hown, hts, hK, hZ, hlk, hGs, hnm⟩ := S
  intro d H locs ls hd hR hS hl T0 hT X0
  obtain ⟨v, st₀, t, T', L, h0, X', hL, e1, e2, ⟨v', h', ho, hPo, hR', hSG', hz⟩, stp⟩ := va_runS (s := s.setDrawn d) (As := As) (rest := rest) (g := F0 m pc ls st) ⟨hx, hb, hml, hown, dr_words hts d⟩ (hM X rfl) (va_cwS As.length (dr_words hts d) hG hw rfl rfl hd1 hRm) ⟨xPre, fun U hU hW => ⟨rfl, xI_of hK hZ hR (xS_tr hGs hS) hU hW⟩⟩ rfl rfl hl.1 hst (lv_room hrest) hdg hcs T0 hT X0
  cases ho
  rw [h0] at hz
  obtain ⟨t2, a1, b1⟩ := k v h' hPo d T'.heap (locs ++ L) ls hd (by rw [e1]; exact hR') (by rw [e1]; exact xS_after hGs hS hz hSG' hL) hl T' rfl X'
  exact ⟨t2, stp t2 a1, b1⟩
theorem xr_callI (S : xS V X l own nm cc nL ws R) {b : Nat} (As rest : List Value) (hdg : decode cc pc = .ok (.invokespecial index, 3)) (hM : xM l (xdc X) y wsy fr lo mc ms (.ref b :: As) h Po) (hG : GoodIn ws wsy) (hw : wsy = Cond.code y bytes maxL none :: ws') (hini : Cond.initialized y.cls ∈ ws) (hlink : Cond.methodLink own index y ∈ ws) (hinst : Cond.instanceMethod y ∈ ws) (hy1 : y.name = "<init>")
    (hd1 : y.cls ≠ "java/lang/invoke/MethodHandle" ∧ y.cls ≠ "java/lang/invoke/VarHandle" ∧ (parseMethodDescriptor y.desc).map (fun d => d.parameters.length) = some As.length) (hRm : fr + 1 ≤ R.frames ∧ 8 + (maxL + 11) + lo ≤ R.locals) (hst : st = As.reverse ++ .ref b :: rest) (hrest : (rest.map fun v => v.category).sum ≤ 8) (hcs : cells + mc ≤ R.cells ∧ slots + ms ≤ R.slots)
    (k : ∀ (v : Option Value) (h' : XH), Po v h' → V (cells + mc) (slots + ms) h' (pc + 3) lv (v.toList ++ rest)) : V cells slots h pc lv st := by
  obtain ⟨ok, p, e, s, m, args, below, meth, c, Q, rfl, hx, hb, hml, hown, hts, hK, hZ, hlk, hGs, hnm⟩ := S
  intro d H locs ls hd hR hS hl T0 hT X0
  have ht := dr_words hts d
  obtain ⟨v, st₀, t, T', L, h0, X', hL, e1, e2, ⟨v', h', ho, hPo, hR', hSG', hz⟩, stp⟩ := va_runI (s := s.setDrawn d) (As := As) (rest := rest) (b := b) (g := F0 m pc ls st) ⟨hx, hb, hml, hown, ht⟩ (hM X rfl) (cwI As.length ht hG hw rfl rfl (ht _ hini) (ht _ hlink) (ht _ hinst) hy1 hd1 hRm) ⟨xPre, fun U hU hW => ⟨rfl, xI_of hK hZ hR (xS_tr hGs hS) hU hW⟩⟩ rfl rfl hl.1 hst (lv_room hrest) hdg hcs T0 hT X0
  cases ho
  rw [h0] at hz
  obtain ⟨t2, a1, b1⟩ := k v h' hPo d T'.heap (locs ++ L) ls hd (by rw [e1]; exact hR') (by rw [e1]; exact xS_after hGs hS hz hSG' hL) hl T' rfl X'
  exact ⟨t2, stp t2 a1, b1⟩
end
section
variable {V : XVT} {X : XC} {l : Launch} {own nm : String} {cc : ByteArray} {nL : Nat} {ws : List Cond} {R : Room} {cells slots pc : Nat} {h : XH} {lv : List (Nat × Value)} {st : List Value}
theorem xr_objInit (S : xS V X l own nm cc nL ws R) {index a : Nat} (hdg : decode cc pc = .ok (.invokespecial index, 3)) (hlink : Cond.methodLink own index objectInit ∈ ws) (hinst : Cond.instanceMethod objectInit ∈ ws) (hcode : Cond.code objectInit ⟨#[0xb1]⟩ 1 none ∈ ws) (hf : 1 ≤ R.frames) (hlo : (st.map fun v => v.category).sum + 12 ≤ R.locals) (k : V cells slots h (pc + 3) lv st) : V cells slots h pc lv (.ref a :: st) :=
  xr_step S (fun p e s m args below meth c Q H locs ls F hR hl k => by
    obtain ⟨hx, hb, hml, hown, hts, hK, hZ, hlk, hGs, hnm⟩ := F
    exact W.objInit hx hb hown (hts _ hlink) (hts _ hinst) (hts _ hcode) rfl (by rw [hml]; exact hl.1) rfl hdg hf (by show 2 * 0 + _ + 12 ≤ _; omega) (k ls hl)) k
theorem xr_mmax (S : xS V X l own nm cc nL ws R) {index : Nat} {x y : Int32} (hdg : decode cc pc = .ok (.invokestatic index, 3)) (hlink : Cond.methodLink own index Lib.Math.max.name ∈ ws) (hstat : Cond.static Lib.Math.max.name ∈ ws) (hini : Cond.initialized "java/lang/Math" ∈ ws) (hcode : Cond.code Lib.Math.max.name Lib.Math.max.code 2 (some .int) ∈ ws) (hf : 1 ≤ R.frames) (hlo : (st.map fun v => v.category).sum + 13 ≤ R.locals) (hcs : cells ≤ R.cells ∧ slots ≤ R.slots) (k : V cells slots h (pc + 3) lv (.int (if x < y then y else x) :: st)) : V cells slots h pc lv (.int y :: .int x :: st) :=
  xr_step S (fun p e s m args below meth c Q H locs ls F hR hl k => by
    obtain ⟨hx, hb, hml, hown, hts, hK, hZ, hlk, hGs, hnm⟩ := F
    exact va_mmax hx hb (hml.trans hl.1.symm) hown (hts _ hlink) (hts _ hstat) (hts _ hini) (hts _ hcode) hf hlo hcs.1 hcs.2 hdg (k ls hl)) k
theorem xr_mmin (S : xS V X l own nm cc nL ws R) {index : Nat} {x y : Int32} (hdg : decode cc pc = .ok (.invokestatic index, 3)) (hlink : Cond.methodLink own index Lib.Math.min.name ∈ ws) (hstat : Cond.static Lib.Math.min.name ∈ ws) (hini : Cond.initialized "java/lang/Math" ∈ ws) (hcode : Cond.code Lib.Math.min.name Lib.Math.min.code 2 (some .int) ∈ ws) (hf : 1 ≤ R.frames) (hlo : (st.map fun v => v.category).sum + 13 ≤ R.locals) (hcs : cells ≤ R.cells ∧ slots ≤ R.slots) (k : V cells slots h (pc + 3) lv (.int (if y < x then y else x) :: st)) : V cells slots h pc lv (.int y :: .int x :: st) :=
  xr_step S (fun p e s m args below meth c Q H locs ls F hR hl k => by
    obtain ⟨hx, hb, hml, hown, hts, hK, hZ, hlk, hGs, hnm⟩ := F
    exact va_mmin hx hb (hml.trans hl.1.symm) hown (hts _ hlink) (hts _ hstat) (hts _ hini) (hts _ hcode) hf hlo hcs.1 hcs.2 hdg (k ls hl)) k
theorem xr_mabs (S : xS V X l own nm cc nL ws R) {index : Nat} {x : Int32} (hdg : decode cc pc = .ok (.invokestatic index, 3)) (hlink : Cond.methodLink own index Lib.Math.abs.name ∈ ws) (hstat : Cond.static Lib.Math.abs.name ∈ ws) (hini : Cond.initialized "java/lang/Math" ∈ ws) (hcode : Cond.code Lib.Math.abs.name Lib.Math.abs.code 1 (some .int) ∈ ws) (hf : 1 ≤ R.frames) (hlo : (st.map fun v => v.category).sum + 13 ≤ R.locals) (hcs : cells ≤ R.cells ∧ slots ≤ R.slots) (k : V cells slots h (pc + 3) lv (.int (if 0 ≤ x then x else 0 - x) :: st)) : V cells slots h pc lv (.int x :: st) :=
  xr_step S (fun p e s m args below meth c Q H locs ls F hR hl k => by
    obtain ⟨hx, hb, hml, hown, hts, hK, hZ, hlk, hGs, hnm⟩ := F
    exact va_mabs hx hb (hml.trans hl.1.symm) hown (hts _ hlink) (hts _ hstat) (hts _ hini) (hts _ hcode) hf hlo hcs.1 hcs.2 hdg (k ls hl)) k
/-- a cast to the object's own class -/
theorem xr_cast (S : xS V X l own nm cc nL ws R) {index a : Nat} {C : String} {T : u_T} {N : Nat} {fs : List Value} (ci : Nat) (hdg : decode cc pc = .ok (.checkcast index, 3)) (hlink : Cond.classLink own index C ∈ ws) (ha : h a = some (.inr (ci, fs))) (hc : vwCl[ci]? = some (C, T, N)) (k : V cells slots h (pc + 3) lv (.ref a :: st)) : V cells slots h pc lv (.ref a :: st) :=
  xr_step S (fun p e s m args below meth c Q H locs ls F hR hl k => by
    obtain ⟨hx, hb, hml, hown, hts, hK, hZ, hlk, hGs, hnm⟩ := F
    exact va_castS hx hb hown (hts _ hlink) (hK.1 ci _ hc).2 (va_recv hK (xR_one hR ha) (ci := ci) (q0 := 0) hc rfl) hdg (k ls hl)) k
/-- ArrayList's static empty row -/
theorem xr_getsE (S : xS V X l own nm cc nL ws R) {index : Nat} (hdg : decode cc pc = .ok (.getstatic index, 3)) (hlink : Cond.fieldLink own index RJx4a65c "DEFAULTCAPACITY_EMPTY_ELEMENTDATA" "[Ljava/lang/Object;" ∈ ws) (k : V cells slots h (pc + 3) lv (.ref (xdc X).1 :: st)) : V cells slots h pc lv st := by
  obtain ⟨ok, p, e, s, m, args, below, meth, c, Q, rfl, hx, hb, hml, hown, hts, hK, hZ, hlk, hGs, hnm⟩ := S
  intro d H locs ls hd hR hS hl
  have hZ0 : va_Z RJx4a65c "DEFAULTCAPACITY_EMPTY_ELEMENTDATA" "[Ljava/lang/Object;" (.ref (xdc X).1) (xA X) s s.heap := hZ.1.kept (fun a h1 h2 => hGs.2.1 a h1 h2)
  exact va_gets (s := s.setDrawn d) hx hb hZ0 hS hown (dr_words hts d _ hlink) (fun _ q => q) hdg (k d H locs ls hd hR hS hl)
end
end
section
/-! exceptions: a second judgement, for what has been thrown -/
abbrev XWT : Type := Nat → Nat → XH → Nat → List (Nat × Value) → String → Prop
def XVX (X : XC) (ok : Drawn → Prop) (nL : Nat) (p : Program) (l : Launch) (e : Env) (R : Room) (s : State) (m : MethodId) (args : Array Value) (below : List Frame) (meth : Method) (c : Code) (Q : State → Prop) : XWT := fun cells slots h pc lv E =>
  ∀ (d : Drawn) (H : Heap) (locs : List Loc) (ls : Array Slot) (rest : List Value) (q : Addr) (ce : Cell), ok d → xR X h H → va_S (xA X) s.heap H locs → lv_has ls nL lv → H[q]? = some ce → ce.vm = .none → s.vm.findClass E = some ce.cls → vx_W p l e R (s.setDrawn d) m args below meth c H locs cells slots Q (F0 m pc ls rest) q
def xSX (V : XVT) (VX : XWT) (X : XC) (l : Launch) (own nm : String) (cc : ByteArray) (nL : Nat) (ws : List Cond) (R : Room) : Prop :=
  ∃ (ok : Drawn → Prop) (p : Program) (e : Env) (s : State) (m : MethodId) (args : Array Value) (below : List Frame) (meth : Method) (c : Code) (Q : State → Prop), V = XV X ok nL p l e R s m args below meth c Q ∧ VX = XVX X ok nL p l e R s m args below meth c Q ∧ xF X own nm cc nL ws p s m args meth c
theorem xSX.S {V : XVT} {VX : XWT} {X : XC} {l : Launch} {own nm : String} {cc : ByteArray} {nL : Nat} {ws : List Cond} {R : Room} (S : xSX V VX X l own nm cc nL ws R) : xS V X l own nm cc nL ws R := by
  obtain ⟨ok, p, e, s, m, args, below, meth, c, Q, h1, -, F⟩ := S
  exact ⟨ok, p, e, s, m, args, below, meth, c, Q, h1, F⟩
def xEndX (VX : XWT) (mc ms : Nat) (PX : String → XH → Prop) : Prop := ∀ (cells slots : Nat) (h : XH) (pc : Nat) (lv : List (Nat × Value)) (E : String), PX E h → cells ≤ mc → slots ≤ ms → VX cells slots h pc lv E
abbrev xNms : List String := ["java/lang/RuntimeException", "java/lang/Exception"]
/-- throw new E("..") -/
def xThr (V : XVT) (own : String) (cc : ByteArray) (ws : List Cond) (R : Room) (mc ms : Nat) (PX : String → XH → Prop) : Prop :=
  ∀ (cells slots : Nat) (h : XH) (pc : Nat) (lv : List (Nat × Value)) (st : List Value) (cls text : String) (ik is ic : Nat), decode cc pc = .ok (.new ik, 3) → decode cc (pc + 3) = .ok (.dup, 1) → decode cc (pc + 4) = .ok (.ldc is, 2) → decode cc (pc + 6) = .ok (.invokespecial ic, 3) → decode cc (pc + 9) = .ok (.athrow, 1) →
    own = RX6 → (is, text) ∈ xStr → Bundle.fit cls = true → (cls, cls) ∈ xCast → Cond.classLink own ik cls ∈ ws → Cond.initialized cls ∈ ws → (∀ w ∈ (vx_atS own ic cls xNms).filter goodWord, w ∈ ws) → (∀ w ∈ (vx_atS own ic cls xNms).filter (fun w => !goodWord w), w ∈ Cond.castable cls cls :: xDecl.map Cond.declares) → (∀ w ∈ Cond.classLink own ik cls :: Cond.initialized cls :: vx_atS own ic cls xNms, vx_ot w = true) →
    (st.map fun v => v.category).sum + 82 ≤ R.locals → 5 < R.frames → cells + 1 ≤ R.cells → slots + 6 ≤ R.slots → PX cls h → cells + 1 ≤ mc → slots + 6 ≤ ms → V cells slots h pc lv st
theorem xMX_of {l : Launch} (hfl : l.stackTraces = false) {dc : Nat × Nat} {y : MethodName} {wsy ws' : List Cond} {own : String} {cc : ByteArray} {nL : Nat} {ret : Option FieldType} {fr lo mc ms : Nat} {As : List Value} (lv0 : List (Nat × Value)) {h : XH} {Po : Option Value → XH → Prop} {PX : String → XH → Prop}
    (hy : plainName y.cls = true) (hown : y.cls = own) (hw : wsy = Cond.code y cc nL ret :: ws') (hlen : (lg_sl As).length ≤ nL) (hlv : lv_args 0 As = lv0)
    (body : ∀ (X : XC) (V : XVT) (VX : XWT), xdc X = dc → xSX V VX X l own y.name cc nL wsy (xRm fr lo mc ms) → xEnd V cc ret mc ms Po → xEndX VX mc ms PX → xThr V own cc wsy (xRm fr lo mc ms) mc ms PX → V 0 0 h 0 lv0 []) : xMX l dc y wsy fr lo mc ms As h Po PX := by
  intro X hX
  refine vx_ofW (cc := cc) (maxL := nL) (ret := ret) hy hw ?_
  intro p e s m args below meth c s₁ B hml htab hv
  obtain ⟨rfl, ⟨hK, hZ⟩, hR, hSG⟩ := hv
  have hl := lv_entry As (n := nL) hlen
  rw [hlv] at hl
  rw [lg_entry_eq]
  generalize (lg_sl As ++ List.replicate (nL - (lg_sl As).length) Slot.unset).toArray = ls at hl ⊢
  have hfc : s.vm.findClass own = some m.cls := by rw [← hown]; exact findClass_of_methodNamed B.named
  have hts := atoms_spec (ws := wsy) B.pre
  refine body X (XV X (fun d => d = s.drawn) nL p l e (xRm fr lo mc ms) s m As.toArray below meth c (vx_MQ below (xQ X Po) (xQX X PX) As.toArray s mc ms (xA X))) (XVX X (fun d => d = s.drawn) nL p l e (xRm fr lo mc ms) s m As.toArray below meth c (vx_MQ below (xQ X Po) (xQX X PX) As.toArray s mc ms (xA X))) hX
    ⟨_, p, e, s, m, _, below, meth, c, _, rfl, rfl, B.exec, B.bytes, hml, hfc, hts, hK, hZ, B.notSynchronized, hSG, (name_of_methodNamed B.named B.method).1⟩
    (xEnd_of B.exec B.bytes B.returns B.notSynchronized hSG (fun d H locs g hd k => by subst hd; exact vx_ret k)) ?_ ?_ s.drawn s.heap [] ls rfl hR va_S.rf hl
  · intro cells slots h pc lv E hPX hc hs d H locs ls rest q ce hd hR hS hl hcell hvm hcl
    subst hd
    refine vx_out (fun x hx => (htab x hx).elim) B.notSynchronized hcell hvm hcl (fun t ht hW => ?_) (fun z hz => hS.2.2 z hz) hc hs
    have hG := xS_tr hSG hS
    subst ht
    exact ⟨h, hPX, hR, ⟨hG.1, hG.2.1, fun _ q => absurd q List.not_mem_nil⟩, hS.1⟩
  · intro cells slots h pc lv st cls text ik is ic d0 d3 d4 d6 d9 ho hstr hfit hcast hk hini hgd hbad hot hlo hfr hce hsl hPX hc hs d H locs ls hd hR hS hl
    subst hd
    subst ho
    obtain ⟨sa, hsa⟩ := hZ.2.2.2.2.2.2.1 _ hstr
    have hG := xS_tr hSG hS
    refine vx_throwS (names := xNms) (A := xA X) B.exec B.bytes hfl hfc hfit (by decide +kernel) (hts _ hk) (hts _ hini) hsa (vx_hat (B := Cond.castable cls cls :: xDecl.map Cond.declares) (fun w hw => hts w (hgd w hw)) hbad (fun w hw => by
      rcases List.mem_cons.mp hw with rfl | hw
      · exact (hZ.2.2.2.2.2.2.2.1 _ hcast).use rfl
      · obtain ⟨x, hx, rfl⟩ := List.mem_map.mp hw
        exact (hZ.2.2.2.2.2.2.2.2.2.2.1 _ hx).use rfl)) hot (hZ.2.1.kept (fun a h1 h2 => hSG.2.1 a h1 h2)) (hZ.2.2.1.kept (fun a h1 h2 => hSG.2.1 a h1 h2)) hS (hl.1.trans hml.symm) d0 d3 d4 d6 d9 (fun x hx => (htab x hx).elim) hfr hlo hce hsl B.notSynchronized (fun t hal hz hq => ?_) (fun z hz => hS.2.2 z hz) hc hs
    refine ⟨h, hPX, fun a e ha => (hR a e ha).elim (fun g => Or.inl ⟨g.1.kept (hq a (xR_lt hR ha g.2)), g.2⟩) Or.inr, ⟨Nat.le_trans hG.1 hz, fun q h1 h2 => ?_, fun _ q => absurd q List.not_mem_nil⟩, Nat.le_trans hS.1 hz⟩
    rw [hq q (Nat.lt_of_lt_of_le h1 hG.1)]
    exact hG.2.1 q h1 h2
section
variable {V : XVT} {VX : XWT} {X : XC} {l : Launch} {own nm : String} {cc : ByteArray} {nL : Nat} {ws : List Cond} {R : Room} {cells slots pc : Nat} {h : XH} {lv : List (Nat × Value)} {st : List Value}
  {index maxL : Nat} {y : MethodName} {bytes : ByteArray} {ret : Option FieldType} {wsy ws' : List Cond} {fr lo mc ms : Nat} {Po : Option Value → XH → Prop} {PX : String → XH → Prop}
theorem xr_callVX (S : xSX V VX X l own nm cc nL ws R) {C : String} {T : u_T} {N b : Nat} {fs : List Value} (ci : Nat) (As rest : List Value) (hdg : decode cc pc = .ok (.invokevirtual index, 3)) (hM : xMX l (xdc X) y wsy fr lo mc ms (.ref b :: As) h Po PX) (hG : GoodIn ws (wsV own index C y wsy)) (hw : wsy = Cond.code y bytes maxL ret :: ws')
    (hd1 : y.cls = C ∧ y.cls ≠ "java/lang/invoke/MethodHandle" ∧ y.cls ≠ "java/lang/invoke/VarHandle" ∧ (parseMethodDescriptor y.desc).map (fun d => d.parameters.length) = some As.length) (hRm : fr + 1 ≤ R.frames ∧ 8 + (maxL + 11) + lo ≤ R.locals) (hst : st = As.reverse ++ .ref b :: rest) (hrest : (rest.map fun v => v.category).sum ≤ 8) (hcs : cells + mc ≤ R.cells ∧ slots + ms ≤ R.slots) (hb1 : h b = some (.inr (ci, fs))) (hc : vwCl[ci]? = some (C, T, N))
    (kx : ∀ (E : String) (h' : XH), PX E h' → VX (cells + mc) (slots + ms) h' pc lv E)
    (k : ∀ (v : Option Value) (h' : XH), Po v h' → V (cells + mc) (slots + ms) h' (pc + 3) lv (v.toList ++ rest)) : V cells slots h pc lv st := by
  obtain ⟨ok, p, e, s, m, args, below, meth, c, Q, rfl, rfl, hx, hb, hml, hown, hts, hK, hZ, hlk, hGs, hnm⟩ := S
  intro d H locs ls hd hR hS hl T0 hT X0
  rcases vx_runV (s := s.setDrawn d) (As := As) (rest := rest) (g := F0 m pc ls st) ⟨hx, hb, hml, hown, dr_words hts d⟩ (hM X rfl) (cwV As.length (dr_words hts d) hG hw rfl rfl hd1 hRm) ⟨xPre, va_recv hK (xR_one hR hb1) (ci := ci) (q0 := 0) hc rfl, fun U hU hW => ⟨rfl, xI_of hK hZ hR (xS_tr hGs hS) hU hW⟩⟩ rfl rfl hl.1 hst (lv_room hrest) hdg hcs T0 hT X0 with ⟨v, st₀, t, T', L, h0, X', hL, e1, e2, ⟨v', h', ho, hPo, hR', hSG', hz⟩, stp⟩ | ⟨q, st₀, t, T', L, E, ce, h0, X', hL, e1, e2, ⟨h', hPX, hR', hSG', hz⟩, hce, hcv, hcl, stp⟩
  · cases ho
    rw [h0] at hz
    obtain ⟨t2, a1, b1⟩ := k v h' hPo d T'.heap (locs ++ L) ls hd (by rw [e1]; exact hR') (by rw [e1]; exact xS_after hGs hS hz hSG' hL) hl T' rfl X'
    exact ⟨t2, stp t2 a1, b1⟩
  · rw [h0] at hz
    obtain ⟨t2, a1, b1⟩ := kx E h' hPX d T'.heap (locs ++ L) ls rest q ce hd (by rw [e1]; exact hR') (by rw [e1]; exact xS_after hGs hS hz hSG' hL) hl (by rw [e1]; exact hce) hcv hcl T' rfl X'
    exact ⟨t2, stp.trans a1, b1⟩
theorem xr_callSX (S : xSX V VX X l own nm cc nL ws R) (As rest : List Value) (hdg : decode cc pc = .ok (.invokestatic index, 3)) (hM : xMX l (xdc X) y wsy fr lo mc ms As h Po PX) (hG : GoodIn ws (va_wsS own index y wsy)) (hw : wsy = Cond.code y bytes maxL ret :: ws')
    (hd1 : y.cls ≠ "java/lang/invoke/MethodHandle" ∧ y.cls ≠ "java/lang/invoke/VarHandle" ∧ (parseMethodDescriptor y.desc).map (fun d => d.parameters.length) = some As.length) (hRm : fr + 1 ≤ R.frames ∧ 8 + (maxL + 11) + lo ≤ R.locals) (hst : st = As.reverse ++ rest) (hrest : (rest.map fun v => v.category).sum ≤ 8) (hcs : cells + mc ≤ R.cells ∧ slots + ms ≤ R.slots)
    (kx : ∀ (E : String) (h' : XH), PX E h' → VX (cells + mc) (slots + ms) h' pc lv E)
    (k : ∀ (v : Option Value) (h' : XH), Po v h' → V (cells + mc) (slots + ms) h' (pc + 3) lv (v.toList ++ rest)) : V cells slots h pc lv st := by
  obtain ⟨ok, p, e, s, m, args, below, meth, c, Q, rfl, rfl, hx, hb, hml, hown, hts, hK, hZ, hlk, hGs, hnm⟩ := S
  intro d H locs ls hd hR hS hl T0 hT X0
  rcases vx_runS (s := s.setDrawn d) (As := As) (rest := rest) (g := F0 m pc ls st) ⟨hx, hb, hml, hown, dr_words hts d⟩ (hM X rfl) (va_cwS As.length (dr_words hts d) hG hw rfl rfl hd1 hRm) ⟨xPre, fun U hU hW => ⟨rfl, xI_of hK hZ hR (xS_tr hGs hS) hU hW⟩⟩ rfl rfl hl.1 hst (lv_room hrest) hdg hcs T0 hT X0 with ⟨v, st₀, t, T', L, h0, X', hL, e1, e2, ⟨v', h', ho, hPo, hR', hSG', hz⟩, stp⟩ | ⟨q, st₀, t, T', L, E, ce, h0, X', hL, e1, e2, ⟨h', hPX, hR', hSG', hz⟩, hce, hcv, hcl, stp⟩
  · cases ho
    rw [h0] at hz
    obtain ⟨t2, a1, b1⟩ := k v h' hPo d T'.heap (locs ++ L) ls hd (by rw [e1]; exact hR') (by rw [e1]; exact xS_after hGs hS hz hSG' hL) hl T' rfl X'
    exact ⟨t2, stp t2 a1, b1⟩
  · rw [h0] at hz
    obtain ⟨t2, a1, b1⟩ := kx E h' hPX d T'.heap (locs ++ L) ls rest q ce hd (by rw [e1]; exact hR') (by rw [e1]; exact xS_after hGs hS hz hSG' hL) hl (by rw [e1]; exact hce) hcv hcl T' rfl X'
    exact ⟨t2, stp.trans a1, b1⟩
end
/-! copies, the class of an Object row -/
def xElem (h : XH) (y : Nat) : Prop := ∃ (ci : Nat) (fs : List Value) (r : vw_C), h y = some (.inr (ci, fs)) ∧ vwCl[ci]? = some r ∧ (r.1, "java/lang/Object") ∈ xCast
section
variable {V : XVT} {X : XC} {l : Launch} {own nm : String} {cc : ByteArray} {nL : Nat} {ws : List Cond} {R : Room} {cells slots pc : Nat} {h : XH} {lv : List (Nat × Value)} {st : List Value}
theorem xr_aastE (S : xS V X l own nm cc nL ws R) {a n v : Nat} {i : Int32} {f : Nat → Option Nat} (hdg : decode cc pc = .ok (.aastore, 1)) (ha : h a = some (.inl (1, n, .inr (.inr (.inr (.inr f)))))) (hi : vp_in i n) (hv : xElem h v) (kz : V cells slots (xup h a (.inl (1, n, .inr (.inr (.inr (.inr (va_up f i.toNatClampNeg (some v)))))))) (pc + 1) lv st) : V cells slots h pc lv (.ref v :: .int i :: .ref a :: st) := by
  obtain ⟨ci, fs, r, h1, h2, h3⟩ := hv
  exact xr_aast S ci hdg ha hi h1 h2 h3 kz
theorem xr_copyq (S : xS V X l own nm cc nL ws R) {index a0 a n0 n1 : Nat} {f g : Nat → Option Nat} {sp dp n : Int32} (hdg : decode cc pc = .ok (.invokestatic index, 3)) (hlink : Cond.methodLink own index arraycopyName ∈ ws) (hnat : Cond.native arraycopyName ∈ ws) (hstat : Cond.static arraycopyName ∈ ws) (hini : Cond.initialized "java/lang/System" ∈ ws)
    (ha0 : h a0 = some (.inl (1, n0, .inr (.inr (.inr (.inr f)))))) (ha1 : h a = some (.inl (1, n1, .inr (.inr (.inr (.inr g)))))) (hp0 : 0 < n0) (hp1 : 0 < n1) (h1 : ¬ sp < 0) (h2 : ¬ dp < 0) (h3 : ¬ n < 0) (h4 : sp.toNatClampNeg + n.toNatClampNeg ≤ n0) (h5 : dp.toNatClampNeg + n.toNatClampNeg ≤ n1) (hel : ∀ i : Nat, i < n.toNatClampNeg → ∀ y : Nat, f (sp.toNatClampNeg + i) = some y → xElem h y) (hf : 1 ≤ R.frames) (hlo : (st.map fun v => v.category).sum + (nativeFrameWords "java/lang/System" "arraycopy" 5 + 11) ≤ R.locals)
    (kz : V cells slots (xup h a (.inl (1, n1, .inr (.inr (.inr (.inr (va_cpy f g sp.toNatClampNeg dp.toNatClampNeg n.toNatClampNeg))))))) (pc + 3) lv st) : V cells slots h pc lv (.int n :: .int dp :: .ref a :: .int sp :: .ref a0 :: st) := by
  obtain ⟨ok, p, e, s, m, args, below, meth, c, Q, rfl, hx, hb, hml, hown, hts, hK, hZ, hlk, hGs, hnm⟩ := S
  intro d H locs ls hd hR hS hl
  have ht := dr_words hts d
  have l0 := xR_lo hR ha0 (fun z => by cases z; exact absurd hp0 (by decide))
  have l1 := xR_lo hR ha1 (fun z => by cases z; exact absurd hp1 (by decide))
  obtain ⟨q0, hq0⟩ := xL_get (X := X) (n := H.size) ha0 l0 (xR_lt hR ha0 l0)
  obtain ⟨q1, hq1⟩ := xL_get (X := X) (n := H.size) ha1 l1 (xR_lt hR ha1 l1)
  exact va_copyM (D := X.1) (A := xA X) (s := s.setDrawn d) hx hb (hml.trans hl.1.symm) hown (ht _ hlink) (ht _ hnat) (ht _ hstat) (ht _ hini) hK (xL_P hR) xL_D hS q0 q1 1 1 hq0 hq1 rfl rfl h1 h2 h3 h4 h5 (fun i hi y hy => by
    obtain ⟨ci, fs, r, g1, g2, g3⟩ := hel i hi y hy
    exact va_rAny hK (xR_one hR g1) (q0 := 0) rfl g2 (fun comp c0 k1 k2 => vb_asgC (hZ.2.2.2.2.2.2.2.1 _ g3) comp c0 k1 k2)) hf hlo hdg (fun H1 locs1 hP1 hD1 hS1 => kz d H1 locs1 ls hd (xR_set hR (xS_tr hGs hS) hq1 (e1 := .inl (1, n1, .inr (.inr (.inr (.inr (va_cpy f g sp.toNatClampNeg dp.toNatClampNeg n.toNatClampNeg)))))) hP1 (xS_tr hGs hS1)) hS1 hl)
theorem xr_ldcM (S : xS V X l own nm cc nL ws R) {index : Nat} (hdg : decode cc pc = .ok (.ldc index, 2)) (hlink : Cond.classLink own index "[Ljava/lang/Object;" ∈ ws) (k : V cells slots h (pc + 2) lv (.ref (xdc X).2 :: st)) : V cells slots h pc lv st :=
  xr_step S (fun p e s m args below meth c Q H locs ls F hR hl k => by
    obtain ⟨hx, hb, hml, hown, hts, hK, hZ, hlk, hGs, hnm⟩ := F
    exact va_ldcM hx hb hown (hts _ hlink) hZ.2.2.2.1 hdg (k ls hl)) k
abbrev xgc : MethodName := ⟨"java/lang/Object", "getClass", "()Ljava/lang/Class;"⟩
theorem xr_getC (S : xS V X l own nm cc nL ws R) {index a : Nat} {b : vp_A} (hdg : decode cc pc = .ok (.invokevirtual index, 3)) (hlink : Cond.methodLink own index xgc ∈ ws) (hsel : Cond.selects "[Ljava/lang/Object;" xgc xgc ∈ ws) (hinst : Cond.instanceMethod xgc ∈ ws) (hnat : Cond.native xgc ∈ ws) (ha : 0 < b.1 ∧ h a = some (.inl (1, b))) (hf : 1 ≤ R.frames) (hlo : (st.map fun v => v.category).sum + 14 ≤ R.locals) (k : V cells slots h (pc + 3) lv (.ref (xdc X).2 :: st)) : V cells slots h pc lv (.ref a :: st) :=
  xr_step S (fun p e s m args below meth c Q H locs ls F hR hl k => by
    obtain ⟨hx, hb, hml, hown, hts, hK, hZ, hlk, hGs, hnm⟩ := F
    obtain ⟨hb0, ha⟩ := ha
    have hcell : H[a]? = some (vp_cell (xC X 1) b) := xR_at hR ha (xR_lo hR ha (fun z => by cases z; exact absurd hb0 (by decide)))
    have hcl : (vp_cell (xC X 1) b).cls = xC X 1 ∧ (vp_cell (xC X 1) b).vm.isStatics = false := by
      obtain ⟨n, f⟩ := b
      rcases f with f | f | f | f | f <;> exact ⟨rfl, rfl⟩
    exact va_getC hx hb (hml.trans hl.1.symm) hown (hts _ hlink) hZ.2.2.2.2.1 (hts _ hsel) (hts _ hinst) (hts _ hnat) hZ.2.2.2.1 ⟨_, hcell, hcl.2, by rw [hcl.1]; exact va_nmO (hK.2 1 _ rfl).2 rfl⟩ hf hlo hdg (k ls hl)) k
end
end
