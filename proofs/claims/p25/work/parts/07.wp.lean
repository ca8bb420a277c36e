/-! the words of the printed predicates (weakest preconditions over the abstract heap), and the rows that use them -/
def wI (h : XH) (a ci k : Nat) (K : Int32 → Prop) : Prop := ∃ (fs : List Value) (v : Int32), h a = some (.inr (ci, fs)) ∧ fs[k]? = some (.int v) ∧ K v
def wQ (h : XH) (a ci k : Nat) (K : Option Nat → Prop) : Prop := ∃ (fs : List Value) (r : Option Nat), h a = some (.inr (ci, fs)) ∧ fs[k]? = some (va_rf r) ∧ K r
def wR (h : XH) (a ci k : Nat) (K : Nat → Prop) : Prop := ∃ (fs : List Value) (r : Nat), h a = some (.inr (ci, fs)) ∧ fs[k]? = some (.ref r) ∧ K r
def wP (h : XH) (a ci k : Nat) (v : Value) (K : XH → Prop) : Prop := ∃ fs : List Value, h a = some (.inr (ci, fs)) ∧ k < fs.length ∧ K (xup h a (.inr (ci, fs.set k v)))
def wPz (h : XH) (a ci k : Nat) (x : Int32) (K : XH → Prop) : Prop := (narrow .boolean (.int x) = .int x ∧ fits .boolean (.int x) = true) ∧ wP h a ci k (.int x) K
def wO (h : XH) (a ci : Nat) (K : Prop) : Prop := (∃ fs : List Value, h a = some (.inr (ci, fs))) ∧ K
def wAI (h : XH) (t a : Nat) (i : Int32) (K : Int32 → Prop) : Prop := ∃ (n : Nat) (f : Nat → Int32), h a = some (.inl (t, n, .inl f)) ∧ vp_in i n ∧ K (f i.toNatClampNeg)
def wAQ (h : XH) (a : Nat) (i : Int32) (K : Option Nat → Prop) : Prop := ∃ (n : Nat) (f : Nat → Option Nat), h a = some (.inl (1, n, .inr (.inr (.inr (.inr f))))) ∧ vp_in i n ∧ K (f i.toNatClampNeg)
def wSI (h : XH) (t a : Nat) (i x : Int32) (K : XH → Prop) : Prop := ∃ (n : Nat) (f : Nat → Int32), h a = some (.inl (t, n, .inl f)) ∧ vp_in i n ∧ K (xup h a (.inl (t, n, .inl (upd f i.toNatClampNeg x))))
def wSE (h : XH) (a : Nat) (i : Int32) (v : Nat) (K : XH → Prop) : Prop := ∃ (n : Nat) (f : Nat → Option Nat), h a = some (.inl (1, n, .inr (.inr (.inr (.inr f))))) ∧ vp_in i n ∧ xElem h v ∧ K (xup h a (.inl (1, n, .inr (.inr (.inr (.inr (va_up f i.toNatClampNeg (some v))))))))
def wSN (h : XH) (a : Nat) (i : Int32) (K : XH → Prop) : Prop := ∃ (n : Nat) (f : Nat → Option Nat), h a = some (.inl (1, n, .inr (.inr (.inr (.inr f))))) ∧ vp_in i n ∧ K (xup h a (.inl (1, n, .inr (.inr (.inr (.inr (va_up f i.toNatClampNeg none)))))))
def wLen (h : XH) (t a : Nat) (K : Int32 → Prop) : Prop := ∃ b : vp_A, h a = some (.inl (t, b)) ∧ K (Int32.ofNat b.1)
def wSLen (h : XH) (a : Nat) (K : Int32 → Prop) : Prop := ∃ (n : Nat) (f : Nat → Int32), h a = some (.inl (3, n, .inl f)) ∧ K (Int32.ofNat n)
def wA2 (h : XH) (a : Nat) (i : Int32) (K : Option Nat → Prop) : Prop := ∃ (n : Nat) (f : Nat → Option Nat), h a = some (.inl (4, n, .inr (.inr (.inr (.inr f))))) ∧ vp_in i n ∧ K (f i.toNatClampNeg)
def wS2 (h : XH) (a : Nat) (i : Int32) (v : Nat) (K : XH → Prop) : Prop := ∃ (n m2 : Nat) (f : Nat → Option Nat) (g : Nat → Int32), h a = some (.inl (4, n, .inr (.inr (.inr (.inr f))))) ∧ vp_in i n ∧ h v = some (.inl (2, m2, .inl g)) ∧ K (xup h a (.inl (4, n, .inr (.inr (.inr (.inr (va_up f i.toNatClampNeg (some v))))))))
def wNew2 (h : XH) (N : Nat) (K : Nat → XH → Prop) : Prop := ∀ q : Nat, h q = none → K q (xup h q (.inl (4, N, .inr (.inr (.inr (.inr (fun _ => none)))))))
def wNew (h : XH) (ci : Nat) (fs : List Value) (K : Nat → XH → Prop) : Prop := ∀ q : Nat, h q = none → K q (xup h q (.inr (ci, fs)))
def wNewI (h : XH) (t N : Nat) (K : Nat → XH → Prop) : Prop := ∀ q : Nat, h q = none → K q (xup h q (.inl (t, N, .inl (fun _ => 0))))
def wNewQ (h : XH) (x : Int32) (K : Nat → XH → Prop) : Prop := ¬ x < 0 ∧ x.toNatClampNeg ≤ 64 ∧ ∀ q : Nat, h q = none → K q (xup h q (.inl (1, x.toNatClampNeg, .inr (.inr (.inr (.inr (fun _ => none)))))))
def wDiv (y : Int32) (K : Prop) : Prop := ¬ y = 0 ∧ K
def wIf (c A B : Prop) : Prop := (c → A) ∧ (¬ c → B)
def wOpt (r : Option Nat) (A : Prop) (B : Nat → Prop) : Prop := (r = none → A) ∧ ∀ a : Nat, r = some a → B a
def wDer (r : Option Nat) (B : Nat → Prop) : Prop := ∃ a : Nat, r = some a ∧ B a
def wZ (x : Int32) (K : Prop) : Prop := narrow .boolean (.int x) = .int x ∧ K
def wCpyQ (h : XH) (a0 : Nat) (sp : Int32) (a : Nat) (dp n : Int32) (K : XH → Prop) : Prop := ∃ (n0 n1 : Nat) (f g : Nat → Option Nat), h a0 = some (.inl (1, n0, .inr (.inr (.inr (.inr f))))) ∧ h a = some (.inl (1, n1, .inr (.inr (.inr (.inr g))))) ∧ (0 < n0 ∧ 0 < n1 ∧ ¬ sp < 0 ∧ ¬ dp < 0 ∧ ¬ n < 0 ∧ sp.toNatClampNeg + n.toNatClampNeg ≤ n0 ∧ dp.toNatClampNeg + n.toNatClampNeg ≤ n1) ∧ (∀ i : Nat, i < n.toNatClampNeg → ∀ y : Nat, f (sp.toNatClampNeg + i) = some y → xElem h y) ∧ K (xup h a (.inl (1, n1, .inr (.inr (.inr (.inr (va_cpy f g sp.toNatClampNeg dp.toNatClampNeg n.toNatClampNeg)))))))
def wCpyI (h : XH) (t a0 : Nat) (sp : Int32) (a : Nat) (dp n : Int32) (K : XH → Prop) : Prop := ∃ (n0 n1 : Nat) (f g : Nat → Int32), h a0 = some (.inl (t, n0, .inl f)) ∧ h a = some (.inl (t, n1, .inl g)) ∧ (¬ sp < 0 ∧ ¬ dp < 0 ∧ ¬ n < 0 ∧ sp.toNatClampNeg + n.toNatClampNeg ≤ n0 ∧ dp.toNatClampNeg + n.toNatClampNeg ≤ n1) ∧ K (xup h a (.inl (t, n1, .inl (va_cpy f g sp.toNatClampNeg dp.toNatClampNeg n.toNatClampNeg))))
/-- loops: n times round at most -/
def xiter {σ : Type} (F : (σ → Prop) → σ → Prop) : Nat → σ → Prop
  | 0 => fun _ => False
  | n + 1 => F (xiter F n)
def xloop {σ : Type} (F : (σ → Prop) → σ → Prop) (s : σ) : Prop := ∃ n, xiter F n s
theorem xloop_of {σ : Type} {F : (σ → Prop) → σ → Prop} (I : σ → Prop) (μ : σ → Nat) (hs : ∀ (rec : σ → Prop) (s : σ), I s → (∀ s', I s' → μ s' < μ s → rec s') → F rec s) (s : σ) (h : I s) : xloop F s := by
  have key : ∀ n s, I s → μ s < n → xiter F n s := by
    intro n
    induction n with
    | zero => intro s _ hn; exact absurd hn (Nat.not_lt_zero _)
    | succ n ih => intro s hI hn; exact hs _ s hI (fun s' h1 h2 => ih s' h1 (by omega))
  exact ⟨μ s + 1, key _ s h (Nat.lt_succ_self _)⟩
theorem xloop_use {σ : Type} {F : (σ → Prop) → σ → Prop} {P : σ → Prop} (hs : ∀ (rec : σ → Prop), (∀ s, rec s → P s) → ∀ s, F rec s → P s) {s : σ} (h : xloop F s) : P s := by
  obtain ⟨n, h⟩ := h
  have key : ∀ n s, xiter F n s → P s := by
    intro n
    induction n with
    | zero => intro s h; exact absurd h id
    | succ n ih => intro s h; exact hs _ ih s h
  exact key n s h
abbrev xRi (h : XH) (P : Int32 → Prop) : Option Value → XH → Prop := fun v h' => ∃ r : Int32, v = some (.int r) ∧ h = h' ∧ P r
abbrev xRl (h : XH) (P : Int64 → Prop) : Option Value → XH → Prop := fun v h' => ∃ r : Int64, v = some (.long r) ∧ h = h' ∧ P r
abbrev xRd (h : XH) (P : UInt64 → Prop) : Option Value → XH → Prop := fun v h' => ∃ r : UInt64, v = some (.double r) ∧ h = h' ∧ P r
abbrev xRq (h : XH) (P : Option Nat → Prop) : Option Value → XH → Prop := fun v h' => ∃ r : Option Nat, v = some (va_rf r) ∧ h = h' ∧ P r
abbrev xRr (h : XH) (P : Nat → Prop) : Option Value → XH → Prop := fun v h' => ∃ r : Nat, v = some (.ref r) ∧ h = h' ∧ P r
abbrev xRv (h : XH) (P : Prop) : Option Value → XH → Prop := fun v h' => v = none ∧ h = h' ∧ P
abbrev xPr (P : Nat → XH → Prop) : Option Value → XH → Prop := fun v h => ∃ r : Nat, v = some (.ref r) ∧ P r h
abbrev xXr (h : XH) (P : String → Prop) : String → XH → Prop := fun E h' => h = h' ∧ P E
section
variable {V : XVT} {X : XC} {l : Launch} {own nm : String} {cc : ByteArray} {nL : Nat} {ws : List Cond} {R : Room} {cells slots pc : Nat} {h : XH} {lv : List (Nat × Value)} {st : List Value}
  {a index : Nat} {ref C : String} {T : u_T} {N : Nat}
theorem xw_getI (S : xS V X l own nm cc nL ws R) (ci k : Nat) {K : Int32 → Prop} (hdg : decode cc pc = .ok (.getfield index, 3)) (hin : ∀ w ∈ u_ws C T N, w ∈ ws) (hc : vwCl[ci]? = some (C, T, N)) (hk : k < N) (hlink : Cond.fieldLink own index ref (T k).2.1 (T k).2.2.1 ∈ ws ∨ (own, index, ref, (T k).2.1, (T k).2.2.1) ∈ xNest) (hsame : ref = (T k).1 ∨ Cond.sameField ref (T k).1 (T k).2.1 (T k).2.2.1 ∈ ws) (hw : wI h a ci k K) (kz : ∀ v : Int32, K v → V cells slots h (pc + 3) lv (.int v :: st)) : V cells slots h pc lv (.ref a :: st) := by
  obtain ⟨fs, v, e, f, hw⟩ := hw
  exact xr_get S ci k hdg hin hc hk hlink hsame e f (kz v hw)
theorem xw_getQ (S : xS V X l own nm cc nL ws R) (ci k : Nat) {K : Option Nat → Prop} (hdg : decode cc pc = .ok (.getfield index, 3)) (hin : ∀ w ∈ u_ws C T N, w ∈ ws) (hc : vwCl[ci]? = some (C, T, N)) (hk : k < N) (hlink : Cond.fieldLink own index ref (T k).2.1 (T k).2.2.1 ∈ ws ∨ (own, index, ref, (T k).2.1, (T k).2.2.1) ∈ xNest) (hsame : ref = (T k).1 ∨ Cond.sameField ref (T k).1 (T k).2.1 (T k).2.2.1 ∈ ws) (hw : wQ h a ci k K) (kz : ∀ r : Option Nat, K r → V cells slots h (pc + 3) lv (va_rf r :: st)) : V cells slots h pc lv (.ref a :: st) := by
  obtain ⟨fs, v, e, f, hw⟩ := hw
  exact xr_get S ci k hdg hin hc hk hlink hsame e f (kz v hw)
theorem xw_getR (S : xS V X l own nm cc nL ws R) (ci k : Nat) {K : Nat → Prop} (hdg : decode cc pc = .ok (.getfield index, 3)) (hin : ∀ w ∈ u_ws C T N, w ∈ ws) (hc : vwCl[ci]? = some (C, T, N)) (hk : k < N) (hlink : Cond.fieldLink own index ref (T k).2.1 (T k).2.2.1 ∈ ws ∨ (own, index, ref, (T k).2.1, (T k).2.2.1) ∈ xNest) (hsame : ref = (T k).1 ∨ Cond.sameField ref (T k).1 (T k).2.1 (T k).2.2.1 ∈ ws) (hw : wR h a ci k K) (kz : ∀ r : Nat, K r → V cells slots h (pc + 3) lv (.ref r :: st)) : V cells slots h pc lv (.ref a :: st) := by
  obtain ⟨fs, v, e, f, hw⟩ := hw
  exact xr_get S ci k hdg hin hc hk hlink hsame e f (kz v hw)
theorem xfit_q (n : String) (r : Option Nat) : narrow (.object n) (va_rf r) = va_rf r ∧ fits (.object n) (va_rf r) = true := by cases r <;> exact ⟨rfl, rfl⟩
theorem xfit_a (t : FieldType) (r : Option Nat) : narrow (.array t) (va_rf r) = va_rf r ∧ fits (.array t) (va_rf r) = true := by cases r <;> exact ⟨rfl, rfl⟩
theorem xw_put (S : xS V X l own nm cc nL ws R) (ci k : Nat) {v : Value} {ty : FieldType} {K : XH → Prop} (ty0 : Nat → FieldType) (hdg : decode cc pc = .ok (.putfield index, 3)) (hin : ∀ w ∈ u_ws C T N, w ∈ ws) (hc : vwCl[ci]? = some (C, T, N)) (hk : k < N) (hlink : Cond.fieldLink own index ref (T k).2.1 (T k).2.2.1 ∈ ws ∨ (own, index, ref, (T k).2.1, (T k).2.2.1) ∈ xNest) (hsame : ref = (T k).1 ∨ Cond.sameField ref (T k).1 (T k).2.1 (T k).2.2.1 ∈ ws)
    (hty : ∀ k, k < N → parseFieldDescriptor (T k).2.2.1 = some (ty0 k)) (hnm1 : ∀ a, a < N → ∀ b, b < N → a ≠ b → (T a).2.1 ≠ (T b).2.1) (hfin : (T k).2.2.2 = false) (hd1 : ty0 k = ty) (hn : narrow ty v = v ∧ fits ty v = true) (hw : wP h a ci k v K) (kz : ∀ h' : XH, K h' → V cells slots h' (pc + 3) lv st) : V cells slots h pc lv (v :: .ref a :: st) := by
  obtain ⟨fs, e, f, hw⟩ := hw
  exact xr_put S ci k ty0 hdg hin hc hk hlink hsame e hty hnm1 hfin (hd1 ▸ hty k hk) hn.1 hn.2 f (kz _ hw)
theorem xw_putF (S : xS V X l own nm cc nL ws R) (ci k : Nat) {v : Value} {ty : FieldType} {K : XH → Prop} (ty0 : Nat → FieldType) (hdg : decode cc pc = .ok (.putfield index, 3)) (hin : ∀ w ∈ u_ws C T N, w ∈ ws) (hc : vwCl[ci]? = some (C, T, N)) (hk : k < N) (hlink : Cond.fieldLink own index ref (T k).2.1 (T k).2.2.1 ∈ ws) (hsame : ref = (T k).1 ∨ Cond.sameField ref (T k).1 (T k).2.1 (T k).2.2.1 ∈ ws)
    (hty : ∀ k, k < N → parseFieldDescriptor (T k).2.2.1 = some (ty0 k)) (hnm1 : ∀ a, a < N → ∀ b, b < N → a ≠ b → (T a).2.1 ≠ (T b).2.1) (hfin : (T k).2.2.2 = true) (hin2 : nm = "<init>") (hdecl : (T k).1 = own) (hd1 : ty0 k = ty) (hn : narrow ty v = v ∧ fits ty v = true) (hw : wP h a ci k v K) (kz : ∀ h' : XH, K h' → V cells slots h' (pc + 3) lv st) : V cells slots h pc lv (v :: .ref a :: st) := by
  obtain ⟨fs, e, f, hw⟩ := hw
  exact xr_putF S ci k ty0 hdg hin hc hk hlink hsame e hty hnm1 hfin hin2 hdecl (hd1 ▸ hty k hk) hn.1 hn.2 f (kz _ hw)
theorem xw_iald (S : xS V X l own nm cc nL ws R) (t : Nat) {i : Int32} {K : Int32 → Prop} (hdg : decode cc pc = .ok (.iaload, 1)) (ht : t = 0 ∨ t = 2) (hw : wAI h t a i K) (kz : ∀ v : Int32, K v → V cells slots h (pc + 1) lv (.int v :: st)) : V cells slots h pc lv (.int i :: .ref a :: st) := by
  obtain ⟨n, f, e, hi, hw⟩ := hw
  exact xr_iald S t hdg ht e hi (kz _ hw)
theorem xw_aald (S : xS V X l own nm cc nL ws R) {i : Int32} {K : Option Nat → Prop} (hdg : decode cc pc = .ok (.aaload, 1)) (hw : wAQ h a i K) (kz : ∀ r : Option Nat, K r → V cells slots h (pc + 1) lv (va_rf r :: st)) : V cells slots h pc lv (.int i :: .ref a :: st) := by
  obtain ⟨n, f, e, hi, hw⟩ := hw
  exact xr_aald S hdg e hi (kz _ hw)
theorem xw_alen (S : xS V X l own nm cc nL ws R) (t : Nat) (ty : FieldType) {K : Int32 → Prop} (hdg : decode cc pc = .ok (.arraylength, 1)) (ht : ∀ X : XC, ∃ q, (xT X)[t]? = some (q, ty) ∧ q = xC X t) (hw : wLen h t a K) (kz : ∀ v : Int32, K v → V cells slots h (pc + 1) lv (.int v :: st)) (h3 : t ≠ 3 := by decide) : V cells slots h pc lv (.ref a :: st) := by
  obtain ⟨b, e, hw⟩ := hw
  exact xr_alen S hdg ht e (kz _ hw) h3
theorem xw_iast (S : xS V X l own nm cc nL ws R) (t : Nat) {i x : Int32} {K : XH → Prop} (hdg : decode cc pc = .ok (.iastore, 1)) (ht : t = 0 ∨ t = 2) (hw : wSI h t a i x K) (kz : ∀ h' : XH, K h' → V cells slots h' (pc + 1) lv st) : V cells slots h pc lv (.int x :: .int i :: .ref a :: st) := by
  obtain ⟨n, f, e, hi, hw⟩ := hw
  exact xr_iast S t hdg ht e hi (kz _ hw)
theorem xw_aast (S : xS V X l own nm cc nL ws R) {i : Int32} {v : Nat} {K : XH → Prop} (hdg : decode cc pc = .ok (.aastore, 1)) (hw : wSE h a i v K) (kz : ∀ h' : XH, K h' → V cells slots h' (pc + 1) lv st) : V cells slots h pc lv (.ref v :: .int i :: .ref a :: st) := by
  obtain ⟨n, f, e, hi, hv, hw⟩ := hw
  exact xr_aastE S hdg e hi hv (kz _ hw)
theorem xw_aastN (S : xS V X l own nm cc nL ws R) {i : Int32} {K : XH → Prop} (hdg : decode cc pc = .ok (.aastore, 1)) (hw : wSN h a i K) (kz : ∀ h' : XH, K h' → V cells slots h' (pc + 1) lv st) : V cells slots h pc lv (va_rf none :: .int i :: .ref a :: st) := by
  obtain ⟨n, f, e, hi, hw⟩ := hw
  exact xr_aastN S hdg e hi (kz _ hw)
theorem xw_sld (S : xS V X l own nm cc nL ws R) {i : Int32} {K : Int32 → Prop} (hdg : decode cc pc = .ok (.iaload, 1)) (hw : wAI h 3 a i K) (kz : ∀ v : Int32, K v → V cells slots h (pc + 1) lv (.int v :: st)) : V cells slots h pc lv (.int i :: .ref a :: st) := by
  obtain ⟨n, f, e, hi, hw⟩ := hw
  exact xr_sld S hdg e hi (kz _ hw)
theorem xw_slen (S : xS V X l own nm cc nL ws R) {K : Int32 → Prop} (hdg : decode cc pc = .ok (.arraylength, 1)) (hw : wSLen h a K) (kz : ∀ v : Int32, K v → V cells slots h (pc + 1) lv (.int v :: st)) : V cells slots h pc lv (.ref a :: st) := by
  obtain ⟨n, f, e, hw⟩ := hw
  exact xr_slen S hdg e (kz _ hw)
theorem xw_ald2 (S : xS V X l own nm cc nL ws R) {i : Int32} {K : Option Nat → Prop} (hdg : decode cc pc = .ok (.aaload, 1)) (hw : wA2 h a i K) (kz : ∀ r : Option Nat, K r → V cells slots h (pc + 1) lv (va_rf r :: st)) : V cells slots h pc lv (.int i :: .ref a :: st) := by
  obtain ⟨n, f, e, hi, hw⟩ := hw
  exact xr_ald2 S hdg e hi (kz _ hw)
theorem xw_ast2 (S : xS V X l own nm cc nL ws R) {i : Int32} {v : Nat} {K : XH → Prop} (hdg : decode cc pc = .ok (.aastore, 1)) (hw : wS2 h a i v K) (kz : ∀ h' : XH, K h' → V cells slots h' (pc + 1) lv st) : V cells slots h pc lv (.ref v :: .int i :: .ref a :: st) := by
  obtain ⟨n, m2, f, g, e, hi, hv, hw⟩ := hw
  exact xr_ast2 S hdg e hi hv (kz _ hw)
theorem xw_newq (S : xS V X l own nm cc nL ws R) {x : Int32} {K : Nat → XH → Prop} (hdg : decode cc pc = .ok (.anewarray index, 3)) (hcl : Cond.classLink own index "java/lang/Object" ∈ ws) (hcells : cells + 1 ≤ R.cells) (hslots : slots + 64 ≤ R.slots) (hw : wNewQ h x K) (kz : ∀ (q : Nat) (h' : XH), K q h' → V (cells + 1) (slots + 64) h' (pc + 3) lv (.ref q :: st)) : V cells slots h pc lv (.int x :: st) := by
  obtain ⟨h0, h1, hw⟩ := hw
  refine xr_newq S hdg hcl h0 rfl (by omega) hcells (by omega) (fun q hq => xr_widen S (Nat.le_refl _) (by omega) (kz q _ (hw q hq)))
theorem xw_copyq (S : xS V X l own nm cc nL ws R) {a0 : Nat} {sp dp n : Int32} {K : XH → Prop} (hdg : decode cc pc = .ok (.invokestatic index, 3)) (hlink : Cond.methodLink own index arraycopyName ∈ ws) (hnat : Cond.native arraycopyName ∈ ws) (hstat : Cond.static arraycopyName ∈ ws) (hini : Cond.initialized "java/lang/System" ∈ ws) (hf : 1 ≤ R.frames) (hlo : (st.map fun v => v.category).sum + (nativeFrameWords "java/lang/System" "arraycopy" 5 + 11) ≤ R.locals) (hw : wCpyQ h a0 sp a dp n K)
    (kz : ∀ h' : XH, K h' → V cells slots h' (pc + 3) lv st) : V cells slots h pc lv (.int n :: .int dp :: .ref a :: .int sp :: .ref a0 :: st) := by
  obtain ⟨n0, n1, f, g, e0, e1, ⟨b0, b1, b2, b3, b4, b5, b6⟩, hel, hw⟩ := hw
  exact xr_copyq S hdg hlink hnat hstat hini e0 e1 b0 b1 b2 b3 b4 b5 b6 hel hf hlo (kz _ hw)
theorem xw_copyi (S : xS V X l own nm cc nL ws R) (t : Nat) {a0 : Nat} {sp dp n : Int32} {K : XH → Prop} (hdg : decode cc pc = .ok (.invokestatic index, 3)) (hlink : Cond.methodLink own index arraycopyName ∈ ws) (hnat : Cond.native arraycopyName ∈ ws) (hstat : Cond.static arraycopyName ∈ ws) (hini : Cond.initialized "java/lang/System" ∈ ws) (htt : t = 0 ∨ t = 2) (hf : 1 ≤ R.frames) (hlo : (st.map fun v => v.category).sum + (nativeFrameWords "java/lang/System" "arraycopy" 5 + 11) ≤ R.locals) (hw : wCpyI h t a0 sp a dp n K)
    (kz : ∀ h' : XH, K h' → V cells slots h' (pc + 3) lv st) : V cells slots h pc lv (.int n :: .int dp :: .ref a :: .int sp :: .ref a0 :: st) := by
  obtain ⟨n0, n1, f, g, e0, e1, ⟨b2, b3, b4, b5, b6⟩, hw⟩ := hw
  exact xr_copyi S t hdg hlink hnat hstat hini htt e0 e1 b2 b3 b4 b5 b6 hf hlo (kz _ hw)
theorem xw_if_eq (S : xS V X l own nm cc nL ws R) {x : Int32} {off : Int} (tgt : Nat) {A B : Prop} (hdg : decode cc pc = .ok (.ifCond .eq off, 3)) (ht : (pc : Int) + off = (tgt : Int)) (hw : wIf (x = 0) A B) (kt : x = 0 → A → V cells slots h tgt lv st) (kf : ¬ x = 0 → B → V cells slots h (pc + 3) lv st) : V cells slots h pc lv (.int x :: st) :=
  xr_if_eq S hdg ht (fun z => kt z (hw.1 z)) (fun z => kf z (hw.2 z))
theorem xw_if_ne (S : xS V X l own nm cc nL ws R) {x : Int32} {off : Int} (tgt : Nat) {A B : Prop} (hdg : decode cc pc = .ok (.ifCond .ne off, 3)) (ht : (pc : Int) + off = (tgt : Int)) (hw : wIf (x = 0) A B) (kt : ¬ x = 0 → B → V cells slots h tgt lv st) (kf : x = 0 → A → V cells slots h (pc + 3) lv st) : V cells slots h pc lv (.int x :: st) :=
  xr_if_ne S hdg ht (fun z => kt z (hw.2 z)) (fun z => kf z (hw.1 z))
theorem xw_if_lt (S : xS V X l own nm cc nL ws R) {x : Int32} {off : Int} (tgt : Nat) {A B : Prop} (hdg : decode cc pc = .ok (.ifCond .lt off, 3)) (ht : (pc : Int) + off = (tgt : Int)) (hw : wIf (x < 0) A B) (kt : x < 0 → A → V cells slots h tgt lv st) (kf : ¬ x < 0 → B → V cells slots h (pc + 3) lv st) : V cells slots h pc lv (.int x :: st) :=
  xr_if_lt S hdg ht (fun z => kt z (hw.1 z)) (fun z => kf z (hw.2 z))
theorem xw_if_ge (S : xS V X l own nm cc nL ws R) {x : Int32} {off : Int} (tgt : Nat) {A B : Prop} (hdg : decode cc pc = .ok (.ifCond .ge off, 3)) (ht : (pc : Int) + off = (tgt : Int)) (hw : wIf (0 ≤ x) A B) (kt : 0 ≤ x → A → V cells slots h tgt lv st) (kf : ¬ 0 ≤ x → B → V cells slots h (pc + 3) lv st) : V cells slots h pc lv (.int x :: st) :=
  xr_if_ge S hdg ht (fun z => kt z (hw.1 z)) (fun z => kf z (hw.2 z))
theorem xw_if_gt (S : xS V X l own nm cc nL ws R) {x : Int32} {off : Int} (tgt : Nat) {A B : Prop} (hdg : decode cc pc = .ok (.ifCond .gt off, 3)) (ht : (pc : Int) + off = (tgt : Int)) (hw : wIf (0 < x) A B) (kt : 0 < x → A → V cells slots h tgt lv st) (kf : ¬ 0 < x → B → V cells slots h (pc + 3) lv st) : V cells slots h pc lv (.int x :: st) :=
  xr_if_gt S hdg ht (fun z => kt z (hw.1 z)) (fun z => kf z (hw.2 z))
theorem xw_if_le (S : xS V X l own nm cc nL ws R) {x : Int32} {off : Int} (tgt : Nat) {A B : Prop} (hdg : decode cc pc = .ok (.ifCond .le off, 3)) (ht : (pc : Int) + off = (tgt : Int)) (hw : wIf (x ≤ 0) A B) (kt : x ≤ 0 → A → V cells slots h tgt lv st) (kf : ¬ x ≤ 0 → B → V cells slots h (pc + 3) lv st) : V cells slots h pc lv (.int x :: st) :=
  xr_if_le S hdg ht (fun z => kt z (hw.1 z)) (fun z => kf z (hw.2 z))
theorem xw_icmp_eq (S : xS V X l own nm cc nL ws R) {x y : Int32} {off : Int} (tgt : Nat) {A B : Prop} (hdg : decode cc pc = .ok (.if_icmp .eq off, 3)) (ht : (pc : Int) + off = (tgt : Int)) (hw : wIf (x = y) A B) (kt : x = y → A → V cells slots h tgt lv st) (kf : ¬ x = y → B → V cells slots h (pc + 3) lv st) : V cells slots h pc lv (.int y :: .int x :: st) :=
  xr_icmp_eq S hdg ht (fun z => kt z (hw.1 z)) (fun z => kf z (hw.2 z))
theorem xw_icmp_ne (S : xS V X l own nm cc nL ws R) {x y : Int32} {off : Int} (tgt : Nat) {A B : Prop} (hdg : decode cc pc = .ok (.if_icmp .ne off, 3)) (ht : (pc : Int) + off = (tgt : Int)) (hw : wIf (x = y) A B) (kt : ¬ x = y → B → V cells slots h tgt lv st) (kf : x = y → A → V cells slots h (pc + 3) lv st) : V cells slots h pc lv (.int y :: .int x :: st) :=
  xr_icmp_ne S hdg ht (fun z => kt z (hw.2 z)) (fun z => kf z (hw.1 z))
theorem xw_icmp_lt (S : xS V X l own nm cc nL ws R) {x y : Int32} {off : Int} (tgt : Nat) {A B : Prop} (hdg : decode cc pc = .ok (.if_icmp .lt off, 3)) (ht : (pc : Int) + off = (tgt : Int)) (hw : wIf (x < y) A B) (kt : x < y → A → V cells slots h tgt lv st) (kf : ¬ x < y → B → V cells slots h (pc + 3) lv st) : V cells slots h pc lv (.int y :: .int x :: st) :=
  xr_icmp_lt S hdg ht (fun z => kt z (hw.1 z)) (fun z => kf z (hw.2 z))
theorem xw_icmp_ge (S : xS V X l own nm cc nL ws R) {x y : Int32} {off : Int} (tgt : Nat) {A B : Prop} (hdg : decode cc pc = .ok (.if_icmp .ge off, 3)) (ht : (pc : Int) + off = (tgt : Int)) (hw : wIf (y ≤ x) A B) (kt : y ≤ x → A → V cells slots h tgt lv st) (kf : ¬ y ≤ x → B → V cells slots h (pc + 3) lv st) : V cells slots h pc lv (.int y :: .int x :: st) :=
  xr_icmp_ge S hdg ht (fun z => kt z (hw.1 z)) (fun z => kf z (hw.2 z))
theorem xw_icmp_gt (S : xS V X l own nm cc nL ws R) {x y : Int32} {off : Int} (tgt : Nat) {A B : Prop} (hdg : decode cc pc = .ok (.if_icmp .gt off, 3)) (ht : (pc : Int) + off = (tgt : Int)) (hw : wIf (y < x) A B) (kt : y < x → A → V cells slots h tgt lv st) (kf : ¬ y < x → B → V cells slots h (pc + 3) lv st) : V cells slots h pc lv (.int y :: .int x :: st) :=
  xr_icmp_gt S hdg ht (fun z => kt z (hw.1 z)) (fun z => kf z (hw.2 z))
theorem xw_icmp_le (S : xS V X l own nm cc nL ws R) {x y : Int32} {off : Int} (tgt : Nat) {A B : Prop} (hdg : decode cc pc = .ok (.if_icmp .le off, 3)) (ht : (pc : Int) + off = (tgt : Int)) (hw : wIf (x ≤ y) A B) (kt : x ≤ y → A → V cells slots h tgt lv st) (kf : ¬ x ≤ y → B → V cells slots h (pc + 3) lv st) : V cells slots h pc lv (.int y :: .int x :: st) :=
  xr_icmp_le S hdg ht (fun z => kt z (hw.1 z)) (fun z => kf z (hw.2 z))
theorem xw_acmp_eq (S : xS V X l own nm cc nL ws R) (rx ry : Option Nat) {off : Int} (tgt : Nat) {A B : Prop} (hdg : decode cc pc = .ok (.if_acmp .eq off, 3)) (ht : (pc : Int) + off = (tgt : Int)) (hw : wIf (rx = ry) A B) (kt : rx = ry → A → V cells slots h tgt lv st) (kf : ¬ rx = ry → B → V cells slots h (pc + 3) lv st) : V cells slots h pc lv (va_rf ry :: va_rf rx :: st) :=
  xr_acmp_eq S hdg ht (fun z => kt z (hw.1 z)) (fun z => kf z (hw.2 z))
theorem xw_acmp_ne (S : xS V X l own nm cc nL ws R) (rx ry : Option Nat) {off : Int} (tgt : Nat) {A B : Prop} (hdg : decode cc pc = .ok (.if_acmp .ne off, 3)) (ht : (pc : Int) + off = (tgt : Int)) (hw : wIf (rx = ry) A B) (kt : ¬ rx = ry → B → V cells slots h tgt lv st) (kf : rx = ry → A → V cells slots h (pc + 3) lv st) : V cells slots h pc lv (va_rf ry :: va_rf rx :: st) :=
  xr_acmp_ne S hdg ht (fun z => kt z (hw.2 z)) (fun z => kf z (hw.1 z))
theorem xw_ifnull (S : xS V X l own nm cc nL ws R) {r : Option Nat} {off : Int} (tgt : Nat) {A : Prop} {K : Nat → Prop} (hdg : decode cc pc = .ok (.ifnull off, 3)) (ht : (pc : Int) + off = (tgt : Int)) (hw : wOpt r A K) (kt : r = none → A → V cells slots h tgt lv st) (kf : ∀ a, r = some a → K a → V cells slots h (pc + 3) lv st) : V cells slots h pc lv (va_rf r :: st) :=
  xr_ifnull S hdg ht (fun z => kt z (hw.1 z)) (fun a z => kf a z (hw.2 a z))
theorem xw_ifnonnull (S : xS V X l own nm cc nL ws R) {r : Option Nat} {off : Int} (tgt : Nat) {A : Prop} {K : Nat → Prop} (hdg : decode cc pc = .ok (.ifnonnull off, 3)) (ht : (pc : Int) + off = (tgt : Int)) (hw : wOpt r A K) (kt : ∀ a, r = some a → K a → V cells slots h tgt lv st) (kf : r = none → A → V cells slots h (pc + 3) lv st) : V cells slots h pc lv (va_rf r :: st) :=
  xr_ifnonnull S hdg ht (fun a z => kt a z (hw.2 a z)) (fun z => kf z (hw.1 z))
end
