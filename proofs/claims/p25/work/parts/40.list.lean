/-! PURE ROWS: the JDK's list -/
theorem wLen_i {h : XH} {t a : Nat} {b : vp_A} {K : Int32 → Prop} (ha : h a = some (.inl (t, b))) (hk : K (nI b.1)) : wLen h t a K := ⟨b, ha, hk⟩
abbrev qRow (n : Nat) (f : Nat → Option Nat) : XA := .inl (1, n, .inr (.inr (.inr (.inr f))))
/-- a list l with its row r: n elements e -/
def isL (dc : Nat × Nat) (h : XH) (l r n : Nat) (e : Nat → Nat) : Prop :=
  (∃ mc : Int32, h l = some (.inr (0, [.int mc, .ref r, .int (nI n)]))) ∧ ((r = dc.1 ∧ n = 0) ∨ (r ≠ dc.1 ∧ ∃ cap f, h r = some (qRow cap f) ∧ n ≤ cap ∧ 0 < cap ∧ cap ≤ 64 ∧ ∀ i, i < n → f i = some (e i)))
/-- what a list's change leaves -/
def lkept (dc : Nat × Nat) (h h' : XH) (l r : Nat) : Prop := ∀ a e, h a = some e → a ≠ l → (a ≠ r ∨ a = dc.1) → h' a = some e
theorem shr1 (c : Nat) (h : c < 64) : nI c >>> ((1 : Int32) &&& 31) = nI (c / 2) := (show ∀ c : Fin 64, nI c.1 >>> ((1 : Int32) &&& 31) = nI (c.1 / 2) by decide +kernel) ⟨c, h⟩
section
variable {dc : Nat × Nat} {h : XH} {l r n : Nat} {e : Nat → Nat}
theorem sl_size (hL : isL dc h l r n e) {Po : Int32 → Prop} (hh : Po (nI n)) : w_Jx4a65c_size_8abf5 dc h l Po := by
  obtain ⟨⟨mc, h1⟩, -⟩ := hL
  exact wI_i h1 rfl hh
theorem sl_isEmpty (hL : isL dc h l r n e) (hn : n < 2 ^ 31) {Po : Int32 → Prop} (hh : Po (bI (n = 0))) : w_Jx4a65c_isEmpty_aae02 dc h l Po := by
  obtain ⟨⟨mc, h1⟩, -⟩ := hL
  refine wI_i h1 rfl (wIf_d (n = 0) (nI_eq hn (by decide)) (fun c => ?_) (fun c => ?_))
  · rw [bI_t c] at hh; exact wZ_1 hh
  · rw [bI_f c] at hh; exact wZ_0 hh
theorem sl_wO (hL : isL dc h l r n e) {K : Prop} (hh : K) : wO h l 0 K := by
  obtain ⟨⟨mc, h1⟩, -⟩ := hL
  exact wO_i h1 hh
theorem sl_get (hL : isL dc h l r n e) (i : Nat) (hi : i < n) (hn : n ≤ 64) {x : Int32} (hx : x = nI i) {Po : Option Nat → Prop} (hh : Po (some (e i))) : w_Jx4a65c_get_915e3 dc h l x Po := by
  obtain ⟨⟨mc, h1⟩, h2⟩ := hL
  subst hx
  refine wO_i h1 (wI_i h1 rfl (wIf_f (nI_pos (by omega)) (wIf_t ((n_lt (by omega) (by omega)).mpr hi) (wR_i h1 rfl ?_))))
  rcases h2 with ⟨-, h2⟩ | ⟨-, cap, f, h3, h4, h5, h6, h7⟩
  · omega
  · refine wAQ_i i h3 (by omega) rfl (by omega) ?_
    rw [h7 i hi]; exact hh
theorem sl_newLength (n : Nat) (hn : n ≤ 40) (c2 : Nat) (hc2 : c2 = n + (if n / 2 ≤ 1 then 1 else n / 2)) {x y : Int32} (hx : x = nI 1) (hy : y = nI (n / 2)) {Po : Int32 → XH → Prop} (hh : Po (nI c2) h) : w_J8_newLength_cabcc dc h (nI n) x y Po := by
  subst hx hy
  have e2 : (if nI 1 < nI (n / 2) then nI (n / 2) else nI 1) = nI (if n / 2 ≤ 1 then 1 else n / 2) := by
    by_cases g : n / 2 ≤ 1
    · rw [if_pos g, if_neg (fun z => absurd ((n_lt (by omega) (by omega)).mp z) (by omega))]
    · rw [if_neg g, if_pos ((n_lt (by omega) (by omega)).mpr (by omega))]
  have hc3 : n < c2 ∧ c2 ≤ 64 := by
    rw [hc2]; split <;> omega
  unfold w_J8_newLength_cabcc
  rw [e2, nI_add, ← hc2]
  exact wIf_f (fun z => absurd ((n_le (b := 0) (by omega) (by decide)).mp z) (by omega)) (wIf_f (fun z => absurd ((n_lt (a := 2147483639) (by decide) (by omega)).mp z) (by omega)) hh)
theorem lkept_t {h h' h'' : XH} (hl : ∀ a e, h a = some e → a ≠ l → (a ≠ r ∨ a = dc.1) → h' a = some e) (h2 : ∀ a e, h' a = some e → a ≠ l → (a ≠ r ∨ a = dc.1) → h'' a = some e) : lkept dc h h'' l r := fun a e q1 q2 q3 => h2 a e (hl a e q1 q2 q3) q2 q3
theorem lkept_u {a : Nat} {e0 : XA} (c : a = l ∨ (a = r ∧ r ≠ dc.1) ∨ h a = none) : lkept dc h (xup h a e0) l r := by
  intro b e1 h1 h2 h3
  rw [xup_o]; · exact h1
  intro z
  subst z
  rcases c with c | c | c
  · exact h2 c
  · rcases h3 with h3 | h3
    · exact h3 c.1
    · exact c.2 (c.1.symm.trans h3)
  · rw [c] at h1; cases h1
/-- the element is put behind the last one -/
theorem sl_add_11 {h0 : XH} {mc : Int32} {v r' cap : Nat} {f : Nat → Option Nat} (h1 : h l = some (.inr (0, [.int mc, .ref r', .int (nI n)]))) (h2 : h r' = some (qRow cap f)) (hd : r' ≠ dc.1) (hn : n < cap) (hcap : cap ≤ 64) (hf : ∀ i, i < n → f i = some (e i)) (hv : xElem h v)
    (hk : lkept dc h0 h l r) (hr' : r' = r ∨ h0 r' = none) {Po : XH → Prop} (hh : ∀ h', isL dc h' l r' (n + 1) (fun i => if i = n then v else e i) → lkept dc h0 h' l r → Po h') : w_Jx4a65c_add_72be8_11 dc h l v r' (nI n) Po := by
  have hne : l ≠ r' := fun z => by rw [z, h2] at h1; cases h1
  refine ⟨cap, f, h2, vp_in_nI hn (by omega), hv, ?_⟩
  rw [nI_clamp (by omega)]
  have h3 : xup h r' (qRow cap (va_up f n (some v))) l = some (.inr (0, [.int mc, .ref r', .int (nI n)])) := by rw [xup_o hne]; exact h1
  refine wP_i h3 (by decide : 2 < 3) (hh _ ⟨⟨mc, ?_⟩, Or.inr ⟨hd, cap, va_up f n (some v), ?_, hn, by omega, hcap, fun i hi => ?_⟩⟩ ?_)
  · rw [xup_s, nI_s]; rfl
  · rw [xup_o (fun z => hne z.symm), xup_s]
  · unfold va_up
    dsimp only
    by_cases c : i = n
    · rw [if_pos c, if_pos c]
    · rw [if_neg c, if_neg c]; exact hf i (by omega)
  · intro a e1 q1 q2 q3
    rw [xup_o q2, xup_o]
    · exact hk a e1 q1 q2 q3
    · intro z
      subst z
      rcases hr' with c | c
      · rcases q3 with q3 | q3
        · exact q3 c
        · exact hd q3
      · rw [c] at q1; cases q1
theorem sl_add (hL : isL dc h l r n e) (hx0 : h dc.1 = some xro) (hn : n < 40) (v : Nat) (hv : xElem h v) (hel : ∀ i, i < n → xElem h (e i)) {Po : Int32 → XH → Prop} (hh : ∀ h' r', isL dc h' l r' (n + 1) (fun i => if i = n then v else e i) → lkept dc h h' l r → (r' = r ∨ h r' = none) → Po 1 h') : w_Jx4a65c_add_9ea2d dc h l v Po := by
  obtain ⟨⟨mc, h1⟩, h2⟩ := hL
  have hne : l ≠ dc.1 := fun z => by rw [z, hx0] at h1; cases h1
  refine wI_i h1 rfl (wP_i h1 (by decide : 0 < 3) ?_)
  have k1 : lkept dc h (xup h l (.inr (0, [.int (mc + 1), .ref r, .int (nI n)]))) l r := lkept_u (Or.inl rfl)
  have h3 : xup h l (.inr (0, [.int (mc + 1), .ref r, .int (nI n)])) l = some (.inr (0, [.int (mc + 1), .ref r, .int (nI n)])) := xup_s
  have el : ∀ y, xElem h y → xElem (xup h l (.inr (0, [.int (mc + 1), .ref r, .int (nI n)]))) y := by
    rintro y ⟨ci, fs, q, q1, q2, q3⟩
    by_cases c : y = l
    · subst c
      rw [h1] at q1; cases q1
      cases q2
      exact absurd q3 (by decide)
    · exact ⟨ci, fs, q, by rw [xup_o c]; exact q1, q2, q3⟩
  refine wR_i h3 rfl (wI_i h3 rfl (wO_i h3 ?_))
  show w_Jx4a65c_add_72be8 dc (xup h l (.inr (0, [.int (mc + 1), .ref r, .int (nI n)]))) l v r (nI n) (fun h8 => wZ 1 (Po 1 h8))
  generalize hH : xup h l (.inr (0, [.int (mc + 1), .ref r, .int (nI n)])) = H at h3 k1 el
  have hx1 : H dc.1 = some xro := k1 _ _ hx0 (fun z => hne z.symm) (Or.inr rfl)
  rcases h2 with ⟨hr, hn0⟩ | ⟨hr, cap, f, h4, h5, h6, h7, h8⟩
  · -- nothing in it: a first row
    subst hr hn0
    refine wLen_i (b := (0, .inr (.inr (.inr (.inr (fun _ => none)))))) hx1 (wIf_t rfl (wO_i h3 (wI_i h3 rfl (wO_i h3 ?_))))
    refine wR_i h3 rfl (wLen_i (b := (0, .inr (.inr (.inr (.inr (fun _ => none)))))) hx1 (wIf_f (by decide) (wR_i h3 rfl (wIf_t rfl ?_))))
    refine ⟨by decide, by decide, fun q hq => ?_⟩
    rw [show (if (10 : Int32) < nI 0 + 1 then nI 0 + 1 else 10).toNatClampNeg = 10 by decide]
    have hlq : l ≠ q := fun z => by rw [← z, h3] at hq; cases hq
    have hqd : q ≠ dc.1 := fun z => by rw [z, hx1] at hq; cases hq
    have h9 : xup H q (qRow 10 (fun _ => none)) l = some (.inr (0, [.int (mc + 1), .ref dc.1, .int (nI 0)])) := by rw [xup_o hlq]; exact h3
    have hqn : h q = none := by
      have : H q = h q := by rw [← hH, xup_o (fun z => hlq z.symm)]
      rw [← this]; exact hq
    refine wP_i h9 (by decide : 1 < 3) ?_
    refine sl_add_11 (h0 := h) (r := dc.1) (r' := q) (cap := 10) (f := fun _ => none) (mc := mc + 1) (e := e) xup_s (by rw [xup_o (fun z => hlq z.symm), xup_s]) hqd (by decide) (by decide) (fun i hi => absurd hi (Nat.not_lt_zero i)) ?_ ?_ (Or.inr hqn) (fun h' q1 q2 => wZ_1 (hh h' q q1 q2 (Or.inr hqn)))
    · obtain ⟨ci, fs, y, q1, q2, q3⟩ := el v hv
      refine ⟨ci, fs, y, ?_, q2, q3⟩
      rw [xup_o, xup_o]; · exact q1
      · intro z; rw [z, hq] at q1; cases q1
      · intro z
        rw [z, h3] at q1; cases q1; cases q2
        exact absurd q3 (by decide)
    · exact lkept_t k1 (lkept_t (lkept_u (Or.inr (Or.inr hq))) (lkept_u (Or.inl rfl)))
  · have hrl : r ≠ l := fun z => by rw [z, h1] at h4; cases h4
    have h4' : H r = some (qRow cap f) := by rw [← hH, xup_o hrl]; exact h4
    refine wLen_i (b := (cap, .inr (.inr (.inr (.inr f))))) h4' (wIf_d (n = cap) (nI_eq (by omega) (by omega)) (fun c => ?_) (fun c => ?_))
    · -- full: a longer row
      subst c
      refine wO_i h3 (wI_i h3 rfl (wO_i h3 (wR_i h3 rfl (wLen_i (b := (n, .inr (.inr (.inr (.inr f))))) h4' (wIf_t ((n_lt (a := 0) (by decide) (by omega)).mpr h6) ?_)))))
      have e1 : (nI n + 1) - nI n = nI 1 := by rw [nI_s, pk_sub (by omega)]; congr 1; omega
      obtain ⟨c2, hc2⟩ : ∃ c2, c2 = n + (if n / 2 ≤ 1 then 1 else n / 2) := ⟨_, rfl⟩
      have hc3 : n < c2 ∧ c2 ≤ 64 := by
        rw [hc2]; split <;> omega
      refine sl_newLength n (by omega) c2 hc2 e1 (shr1 n (by omega)) ?_
      refine wR_i h3 rfl ⟨⟨_, h6, h4'⟩, wIf_t rfl ⟨nI_pos (by omega), by rw [nI_clamp (by omega)]; omega, fun q hq => ?_⟩⟩
      rw [nI_clamp (by omega)]
      have hlq : l ≠ q := fun z => by rw [← z, h3] at hq; cases hq
      have hrq : r ≠ q := fun z => by rw [← z, h4'] at hq; cases hq
      have hqd : q ≠ dc.1 := fun z => by rw [z, hx1] at hq; cases hq
      have hqn : h q = none := by
        have : H q = h q := by rw [← hH, xup_o (fun z => hlq z.symm)]
        rw [← this]; exact hq
      have h9 : xup H q (qRow c2 (fun _ => none)) l = some (.inr (0, [.int (mc + 1), .ref r, .int (nI n)])) := by rw [xup_o hlq]; exact h3
      have h10 : xup H q (qRow c2 (fun _ => none)) r = some (qRow n f) := by rw [xup_o hrq]; exact h4'
      refine wLen_i (b := (n, .inr (.inr (.inr (.inr f))))) h10 ?_
      have e4 : (if nI c2 < nI n then nI c2 else nI n) = nI n := if_neg (fun z => absurd ((n_lt (by omega) (by omega)).mp z) (by omega))
      show wCpyQ _ _ _ _ _ (if nI c2 < nI n then nI c2 else nI n) _
      rw [e4]
      have elq : ∀ y, xElem H y → xElem (xup H q (qRow c2 (fun _ => none))) y := by
        rintro y ⟨ci, fs, w, q1, q2, q3⟩
        exact ⟨ci, fs, w, by rw [xup_o (fun z => by rw [z, hq] at q1; cases q1)]; exact q1, q2, q3⟩
      have n0 : (0 : Int32).toNatClampNeg = 0 := rfl
      refine ⟨n, c2, f, fun _ => none, h10, xup_s, ⟨h6, by omega, by decide, by decide, nI_pos (by omega), by rw [n0, nI_clamp (by omega)]; omega, by rw [n0, nI_clamp (by omega)]; omega⟩, fun i hi y hy => ?_, ?_⟩
      · rw [nI_clamp (by omega)] at hi
        rw [n0, Nat.zero_add, h8 i hi] at hy; cases hy
        exact elq _ (el _ (hel i hi))
      rw [n0, nI_clamp (by omega)]
      have h11 : xup (xup H q (qRow c2 (fun _ => none))) q (qRow c2 (va_cpy f (fun _ => none) 0 0 n)) l = some (.inr (0, [.int (mc + 1), .ref r, .int (nI n)])) := by rw [xup_o hlq]; exact h9
      refine wP_i h11 (by decide : 1 < 3) ?_
      refine sl_add_11 (h0 := h) (r := r) (r' := q) (cap := c2) (f := va_cpy f (fun _ => none) 0 0 n) (mc := mc + 1) (e := e) xup_s (by rw [xup_o (fun z => hlq z.symm), xup_s]) hqd hc3.1 hc3.2 (fun i hi => ?_) ?_ ?_ (Or.inr hqn) (fun h' q1 q2 => wZ_1 (hh h' q q1 q2 (Or.inr hqn)))
      · unfold va_cpy
        rw [if_pos (by omega), show 0 + (i - 0) = i by omega]; exact h8 i hi
      · obtain ⟨ci, fs, y, q1, q2, q3⟩ := elq v (el v hv)
        refine ⟨ci, fs, y, ?_, q2, q3⟩
        rw [xup_o, xup_o]; · exact q1
        · intro z; rw [z, xup_s] at q1; cases q1
        · intro z
          rw [z, h9] at q1; cases q1; cases q2
          exact absurd q3 (by decide)
      · intro a e1 q1 q2 q3
        have q4 := k1 a e1 q1 q2 q3
        have q5 : a ≠ q := fun z => by rw [z, hqn] at q1; cases q1
        rw [xup_o q2, xup_o q5, xup_o q5]; exact q4
    · exact sl_add_11 (h0 := h) (r := r) (r' := r) (cap := cap) (f := f) (mc := mc + 1) (e := e) h3 h4' hr (by omega) h7 h8 (el v hv) k1 (Or.inl rfl) (fun h' q1 q2 => wZ_1 (hh h' r q1 q2 (Or.inl rfl)))
end
