/-! PURE ROWS: the predicates' words by what the abstract heap holds -/
theorem wI_i {h : XH} {a ci k : Nat} {fs : List Value} {v : Int32} {K : Int32 → Prop} (ha : h a = some (.inr (ci, fs))) (hv : fs[k]? = some (.int v)) (hk : K v) : wI h a ci k K := ⟨fs, v, ha, hv, hk⟩
theorem wQ_i {h : XH} {a ci k : Nat} {fs : List Value} {K : Option Nat → Prop} (r : Option Nat) (ha : h a = some (.inr (ci, fs))) (hv : fs[k]? = some (va_rf r)) (hk : K r) : wQ h a ci k K := ⟨fs, r, ha, hv, hk⟩
theorem wR_i {h : XH} {a ci k : Nat} {fs : List Value} {v : Nat} {K : Nat → Prop} (ha : h a = some (.inr (ci, fs))) (hv : fs[k]? = some (.ref v)) (hk : K v) : wR h a ci k K := ⟨fs, v, ha, hv, hk⟩
theorem wP_i {h : XH} {a ci k : Nat} {fs : List Value} {v : Value} {K : XH → Prop} (ha : h a = some (.inr (ci, fs))) (hl : k < fs.length) (hk : K (xup h a (.inr (ci, fs.set k v)))) : wP h a ci k v K := ⟨fs, ha, hl, hk⟩
theorem wO_i {h : XH} {a ci : Nat} {fs : List Value} {K : Prop} (ha : h a = some (.inr (ci, fs))) (hk : K) : wO h a ci K := ⟨⟨fs, ha⟩, hk⟩
theorem wAI_i {h : XH} {t a n : Nat} {f : Nat → Int32} {x : Int32} {K : Int32 → Prop} (i : Nat) (ha : h a = some (.inl (t, n, .inl f))) (hi : i < n) (hx : x = nI i) (hn : n < 2 ^ 31) (hk : K (f i)) : wAI h t a x K := by
  subst hx
  exact ⟨n, f, ha, vp_in_nI hi hn, by rw [nI_clamp (by omega)]; exact hk⟩
theorem wAQ_i {h : XH} {a n : Nat} {f : Nat → Option Nat} {x : Int32} {K : Option Nat → Prop} (i : Nat) (ha : h a = some (.inl (1, n, .inr (.inr (.inr (.inr f)))))) (hi : i < n) (hx : x = nI i) (hn : n < 2 ^ 31) (hk : K (f i)) : wAQ h a x K := by
  subst hx
  exact ⟨n, f, ha, vp_in_nI hi hn, by rw [nI_clamp (by omega)]; exact hk⟩
theorem wSI_i {h : XH} {t a n : Nat} {f : Nat → Int32} {x v : Int32} {K : XH → Prop} (i : Nat) (ha : h a = some (.inl (t, n, .inl f))) (hi : i < n) (hx : x = nI i) (hn : n < 2 ^ 31) (hk : K (xup h a (.inl (t, n, .inl (upd f i v))))) : wSI h t a x v K := by
  subst hx
  exact ⟨n, f, ha, vp_in_nI hi hn, by rw [nI_clamp (by omega)]; exact hk⟩
theorem wIf_t {c A B : Prop} (hc : c) (a : A) : wIf c A B := ⟨fun _ => a, fun q => absurd hc q⟩
theorem wIf_f {c A B : Prop} (hc : ¬ c) (b : B) : wIf c A B := ⟨fun q => absurd q hc, fun _ => b⟩
theorem wIf_i {c A B : Prop} (a : c → A) (b : ¬ c → B) : wIf c A B := ⟨a, b⟩
theorem wIf_d {c A B : Prop} (d : Prop) (e : c ↔ d) (a : d → A) (b : ¬ d → B) : wIf c A B := ⟨fun q => a (e.mp q), fun q => b (fun z => q (e.mpr z))⟩
theorem wDer_i {a : Nat} {B : Nat → Prop} (hb : B a) : wDer (some a) B := ⟨a, rfl, hb⟩
theorem wOpt_n {A : Prop} {B : Nat → Prop} (ha : A) : wOpt none A B := ⟨fun _ => ha, fun a q => (by cases q)⟩
theorem wOpt_s {a : Nat} {A : Prop} {B : Nat → Prop} (hb : B a) : wOpt (some a) A B := ⟨fun q => (by cases q), fun z q => (by cases q; exact hb)⟩
theorem wZ_0 {K : Prop} (h : K) : wZ 0 K := ⟨rfl, h⟩
theorem wZ_1 {K : Prop} (h : K) : wZ 1 K := ⟨rfl, h⟩
/-- a truth as an int -/
noncomputable def bI (c : Prop) : Int32 := @ite _ c (Classical.propDecidable c) 1 0
theorem bI_t {c : Prop} (h : c) : bI c = 1 := if_pos h
theorem bI_f {c : Prop} (h : ¬ c) : bI c = 0 := if_neg h
theorem bI_0 {c : Prop} : bI c = 0 ↔ ¬ c := by
  by_cases h : c
  · rw [bI_t h]; exact ⟨fun q => absurd q (by decide), fun q => absurd h q⟩
  · rw [bI_f h]; exact ⟨fun _ => h, fun _ => rfl⟩
theorem bI_1 {c : Prop} : bI c = 1 ↔ c := by
  by_cases h : c
  · rw [bI_t h]; exact ⟨fun _ => h, fun _ => rfl⟩
  · rw [bI_f h]; exact ⟨fun q => absurd q (by decide), fun q => absurd q h⟩
theorem bI_c {c d : Prop} (h : c ↔ d) : bI c = bI d := by rw [propext h]
theorem wZ_b {c : Prop} {K : Int32 → Prop} (h : K (bI c)) : wZ (bI c) (K (bI c)) := by
  refine ⟨?_, h⟩
  by_cases g : c
  · rw [bI_t g]; rfl
  · rw [bI_f g]; rfl
/-- a loop that counts up -/
theorem xloop_up {σ : Type} {F : (σ → Prop) → σ → Prop} (f : Nat → σ) (P : Nat → Prop) (e i0 : Nat) (hi : i0 ≤ e) (h0 : P i0) (hs : ∀ (rec : σ → Prop) (i : Nat), i0 ≤ i → i < e → P i → (P (i + 1) → rec (f (i + 1))) → F rec (f i)) (he : ∀ rec : σ → Prop, P e → F rec (f e)) : xloop F (f i0) := by
  have key : ∀ n i : Nat, i0 ≤ i → i ≤ e → P i → e - i < n → xiter F n (f i) := by
    intro n
    induction n with
    | zero => intro i _ _ _ h; exact absurd h (Nat.not_lt_zero _)
    | succ n ih =>
      intro i h1 h2 h3 h4
      by_cases hie : i = e
      · subst hie; exact he _ h3
      · exact hs _ i h1 (by omega) h3 (fun hp => ih (i + 1) (by omega) (by omega) hp (by omega))
  exact ⟨e - i0 + 1, key _ i0 (Nat.le_refl _) hi h0 (Nat.lt_succ_self _)⟩
/-! numbers -/
theorem nI_ne_m1 {n : Nat} (h : n < 2 ^ 31) : ¬ nI n = -1 := by
  intro q
  have h1 : (nI n).toInt = (-1 : Int32).toInt := by rw [q]
  rw [nI_toInt h] at h1
  have h2 : (-1 : Int32).toInt = -1 := rfl
  omega
theorem n_lt {a b : Nat} (ha : a < 2 ^ 31) (hb : b < 2 ^ 31) : nI a < nI b ↔ a < b := nI_ltI ha hb
theorem n_le {a b : Nat} (ha : a < 2 ^ 31) (hb : b < 2 ^ 31) : nI a ≤ nI b ↔ a ≤ b := nI_leI ha hb
/-- an int that is 0 to n - 1 -/
def isIx (x : Int32) (n : Nat) : Prop := ∃ j : Nat, j < n ∧ x = nI j
theorem ix_neg {x : Int32} {n : Nat} (h : x < 0) (hn : n ≤ 2 ^ 31) : ¬ isIx x n := by
  rintro ⟨j, hj, rfl⟩
  exact nI_pos (by omega) h
theorem ix_big {x : Int32} {n : Nat} (h : nI n ≤ x) (hn : n < 2 ^ 31) : ¬ isIx x n := by
  rintro ⟨j, hj, rfl⟩
  rw [n_le hn (by omega)] at h
  omega
theorem ix_in {x : Int32} {n : Nat} (h0 : ¬ x < 0) (h : x < nI n) (hn : n < 2 ^ 31) : isIx x n := by
  rcases pk_ix x hn with q | q | q
  · exact absurd q h0
  · rw [Int32.lt_iff_toInt_lt] at h; rw [Int32.le_iff_toInt_le] at q; omega
  · exact q
/-- math: the state that class and reference have in common. mn: 0 points, 1 berths, 2 ships, 3 pilots, 4 passages, 5 the bar's depth, 6 margin, 7 tugs; mt: 0 times, 1 berths' lengths, 2 their depths, 3 ships' lengths, 4 drafts, 5 limits, 6 in port at first (1), 7.. the columns of the passages (ship, begin, pilot, tugs, berth, 1 if outbound, asked from); mg: heights -/
abbrev MS : Type := (Nat → Nat) × ((Nat → Nat → Nat) × (Nat → Int32))
abbrev mn (M : MS) (k : Nat) : Nat := M.1 k
abbrev mt (M : MS) (a i : Nat) : Nat := M.2.1 a i
abbrev mg (M : MS) (i : Nat) : Int32 := M.2.2 i
abbrev pS (M : MS) (i : Nat) : Nat := mt M 7 i
abbrev pB (M : MS) (i : Nat) : Nat := mt M 8 i
abbrev pP (M : MS) (i : Nat) : Nat := mt M 9 i
abbrev pT (M : MS) (i : Nat) : Nat := mt M 10 i
abbrev pA (M : MS) (i : Nat) : Nat := mt M 11 i
abbrev pO (M : MS) (i : Nat) : Nat := mt M 12 i
abbrev pQ (M : MS) (i : Nat) : Nat := mt M 13 i
/-- the last passage of a ship, of a pilot, of a ship's inbound ones, among the first n -/
def lastS (M : MS) (s : Nat) : Nat → Option Nat
  | 0 => none
  | n + 1 => if pS M n = s then some n else lastS M s n
def lastP (M : MS) (p : Nat) : Nat → Option Nat
  | 0 => none
  | n + 1 => if pP M n = p then some n else lastP M p n
/-- when an inbound passage i gives its berth up, among the first n -/
def buN (M : MS) (i : Nat) : Nat → Nat
  | 0 => 2880
  | q + 1 => if buN M i q = 2880 ∧ i < q ∧ pS M q = pS M i ∧ pO M q = 1 then pB M q + 60 else buN M i q
/-- tugs -/
def tFrom (o t : Nat) : Nat := t + if o = 1 then 0 else 20
def uAt (M : MS) (t : Nat) : Nat → Nat
  | 0 => 0
  | n + 1 => uAt M t n + if tFrom (pO M n) (pB M n) ≤ t ∧ t ≤ tFrom (pO M n) (pB M n) + 39 then pT M n else 0
def tugsFor (n : Nat) : Nat := if n < 100 then 0 else if n < 160 then 1 else if n < 220 then 2 else 3
/-- the tide: k is the first point at a time or behind it -/
def isK (M : MS) (t k : Nat) : Prop := k ≤ mn M 0 ∧ (∀ j, j < k → mt M 0 j < t) ∧ (k < mn M 0 → t ≤ mt M 0 k)
def fGe (M : MS) (t : Nat) : Nat → Nat → Nat
  | 0, k => k
  | n + 1, k => if t ≤ mt M 0 k then k else fGe M t n (k + 1)
theorem fGe_K (M : MS) (t : Nat) : isK M t (fGe M t (mn M 0) 0) := by
  have key : ∀ n k, k + n = mn M 0 → (∀ j, j < k → mt M 0 j < t) → isK M t (fGe M t n k) := by
    intro n
    induction n with
    | zero => intro k hk hj; exact ⟨by show k ≤ _; omega, hj, fun q => absurd (show k < _ from q) (by omega)⟩
    | succ n ih =>
      intro k hk hj
      show isK M t (if t ≤ mt M 0 k then k else fGe M t n (k + 1))
      by_cases c : t ≤ mt M 0 k
      · rw [if_pos c]; exact ⟨by omega, hj, fun _ => c⟩
      · rw [if_neg c]
        refine ih (k + 1) (by omega) (fun j h => ?_)
        by_cases e : j = k
        · subst e; omega
        · exact hj j (by omega)
  exact key _ 0 (Nat.zero_add _) (fun j h => absurd h (Nat.not_lt_zero j))
def htv (M : MS) (t k : Nat) : Int32 :=
  if mn M 0 = 0 then 0 else if k = mn M 0 then mg M (mn M 0 - 1) else if k = 0 ∨ mt M 0 k = t then mg M k else
    mg M (k - 1) + ((mg M k - mg M (k - 1)) * (nI t - nI (mt M 0 (k - 1)))) / (nI (mt M 0 k) - nI (mt M 0 (k - 1)))
def ht (M : MS) (t : Nat) : Int32 := htv M t (fGe M t (mn M 0) 0)
def need (M : MS) (s : Nat) : Int32 := (nI (mt M 4 s) + nI (mt M 4 s) / 10) + nI (mn M 6)
/-- there is enough water for ship s over a place of depth d at t -/
def wtr (M : MS) (s d t : Nat) : Prop := ¬ (nI d + ht M t < need M s)
/-- ends -/
def oN (r : Option Nat) : Int32 := match r with
  | none => -1
  | some i => nI i

