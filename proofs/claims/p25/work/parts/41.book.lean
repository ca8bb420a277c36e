/-! PURE ROWS: the class's cells, and what its readers answer -/
def bU (M : MS) (i : Nat) : Nat := if pO M i = 1 then pB M i else buN M i (mn M 4)
def cn (M : MS) (k : Nat) : Nat := if k = 5 then mn M 4 else mn M k
/-- the objects: 1 berths, 2 ships, 3 pilots, 4 passages, 5 ways -/
def obj (g : Nat → Nat → Nat) (M : MS) (k i : Nat) : Nat × List Value := match k with
  | 1 => (1, [.int (nI i), .int (nI (mt M 1 i)), .int (nI (mt M 2 i))])
  | 2 => (5, [.int (nI i), .int (nI (mt M 3 i)), .int (nI (mt M 4 i)), va_rf ((lastS M i (mn M 4)).map (g 4))])
  | 3 => (3, [.int (nI i), .int (nI (mt M 5 i)), .int (nI (mt M 6 i)), va_rf ((lastP M i (mn M 4)).map (g 4))])
  | 4 => (2, [.ref (g 5 i), .int (nI (pQ M i)), .int (nI (pB M i)), .ref (g 3 (pP M i)), va_rf ((lastS M (pS M i) i).map (g 4)), va_rf ((lastP M (pP M i) i).map (g 4)), .int (nI (bU M i))])
  | _ => (4, [.ref (g 2 (pS M i)), .ref (g 1 (pA M i)), .int (nI (pO M i)), .int (nI (pT M i))])
def bfs (g : Nat → Nat → Nat) (M : MS) : List Value := [.ref (g 0 0), .ref (g 0 1), .ref (g 0 2), .ref (g 0 3), .ref (g 0 4), .int (nI (mn M 5)), .int (nI (mn M 6)), .int (nI (mn M 7))]
def isT (h : XH) (g : Nat → Nat → Nat) (M : MS) : Prop := h (g 0 0) = some (.inr (6, [.ref (g 0 5), .ref (g 0 6), .int (nI (mn M 0))])) ∧ g 0 5 ≠ g 0 6 ∧ ∃ T0 T1, h (g 0 5) = some (.inl (0, 30, .inl T0)) ∧ h (g 0 6) = some (.inl (0, 30, .inl T1)) ∧ ∀ i, i < mn M 0 → T0 i = nI (mt M 0 i) ∧ T1 i = mg M i
def isB (dc : Nat × Nat) (h : XH) (x : Nat) (g : Nat → Nat → Nat) (M : MS) : Prop :=
  h x = some (.inr (7, bfs g M)) ∧ isT h g M ∧ (∀ k, 1 ≤ k → k ≤ 4 → isL dc h (g 0 k) (g 0 (6 + k)) (mn M k) (g k)) ∧
  (∀ k, 1 ≤ k → k ≤ 5 → ∀ i, i < cn M k → h (g k i) = some (.inr (obj g M k i))) ∧ h dc.1 = some xro ∧
  (∀ j k, 1 ≤ j → j ≤ 4 → 1 ≤ k → k ≤ 4 → j ≠ k → g 0 j ≠ g 0 k ∧ (g 0 (6 + j) = g 0 (6 + k) → g 0 (6 + j) = dc.1)) ∧
  (∀ k, 1 ≤ k → k ≤ 5 → ∀ i j, i < cn M k → j < cn M k → g k i = g k j → i = j)
section
variable {dc : Nat × Nat} {h : XH} {x : Nat} {g : Nat → Nat → Nat} {M : MS} {Po : Int32 → Prop}
theorem isB.T (q : isB dc h x g M) : isT h g M := q.2.1
theorem isB.L (q : isB dc h x g M) (k : Nat) (h1 : 1 ≤ k) (h2 : k ≤ 4) : isL dc h (g 0 k) (g 0 (6 + k)) (mn M k) (g k) := q.2.2.1 k h1 h2
theorem isB.O (q : isB dc h x g M) (k : Nat) (h1 : 1 ≤ k) (h2 : k ≤ 5) {i : Nat} (hi : i < cn M k) : h (g k i) = some (.inr (obj g M k i)) := q.2.2.2.1 k h1 h2 i hi
theorem isB.D (q : isB dc h x g M) : h dc.1 = some xro := q.2.2.2.2.1
theorem isB.J (q : isB dc h x g M) : ∀ j k, 1 ≤ j → j ≤ 4 → 1 ≤ k → k ≤ 4 → j ≠ k → g 0 j ≠ g 0 k ∧ (g 0 (6 + j) = g 0 (6 + k) → g 0 (6 + j) = dc.1) := q.2.2.2.2.2.1
theorem isB.I (q : isB dc h x g M) : ∀ k, 1 ≤ k → k ≤ 5 → ∀ i j, i < cn M k → j < cn M k → g k i = g k j → i = j := q.2.2.2.2.2.2
theorem isB.berth (q : isB dc h x g M) {i : Nat} (hi : i < mn M 1) : h (g 1 i) = some (.inr (1, [.int (nI i), .int (nI (mt M 1 i)), .int (nI (mt M 2 i))])) := q.O 1 (by decide) (by decide) hi
theorem isB.ship (q : isB dc h x g M) {i : Nat} (hi : i < mn M 2) : h (g 2 i) = some (.inr (5, [.int (nI i), .int (nI (mt M 3 i)), .int (nI (mt M 4 i)), va_rf ((lastS M i (mn M 4)).map (g 4))])) := q.O 2 (by decide) (by decide) hi
theorem isB.pilot (q : isB dc h x g M) {i : Nat} (hi : i < mn M 3) : h (g 3 i) = some (.inr (3, [.int (nI i), .int (nI (mt M 5 i)), .int (nI (mt M 6 i)), va_rf ((lastP M i (mn M 4)).map (g 4))])) := q.O 3 (by decide) (by decide) hi
theorem isB.pas (q : isB dc h x g M) {i : Nat} (hi : i < mn M 4) : h (g 4 i) = some (.inr (2, [.ref (g 5 i), .int (nI (pQ M i)), .int (nI (pB M i)), .ref (g 3 (pP M i)), va_rf ((lastS M (pS M i) i).map (g 4)), va_rf ((lastP M (pP M i) i).map (g 4)), .int (nI (bU M i))])) := q.O 4 (by decide) (by decide) hi
theorem isB.way (q : isB dc h x g M) {i : Nat} (hi : i < mn M 4) : h (g 5 i) = some (.inr (4, [.ref (g 2 (pS M i)), .ref (g 1 (pA M i)), .int (nI (pO M i)), .int (nI (pT M i))])) := q.O 5 (by decide) (by decide) hi
theorem sb_lst (hB : isB dc h x g M) (k : Nat) (h1 : 1 ≤ k) (h2 : k ≤ 4) {K : Nat → Prop} (hh : K (g 0 k)) : wR h x 7 k (fun a => wO h a 0 (K a)) := by
  have hL := hB.L k h1 h2
  rcases (show k = 1 ∨ k = 2 ∨ k = 3 ∨ k = 4 by omega) with z | z | z | z
  · subst z; exact wR_i hB.1 rfl (sl_wO hL hh)
  · subst z; exact wR_i hB.1 rfl (sl_wO hL hh)
  · subst z; exact wR_i hB.1 rfl (sl_wO hL hh)
  · subst z; exact wR_i hB.1 rfl (sl_wO hL hh)
theorem sb_size (hB : isB dc h x g M) (k : Nat) (h1 : 1 ≤ k) (h2 : k ≤ 4) (hh : Po (nI (mn M k))) : wR h x 7 k (fun a => wO h a 0 (w_Jx4a65c_size_8abf5 dc h a Po)) :=
  sb_lst hB k h1 h2 (sl_size (hB.L k h1 h2) hh)
theorem sb_el (hB : isB dc h x g M) (hI : Inv M) (k : Nat) (h1 : 1 ≤ k) (h2 : k ≤ 4) (i : Nat) (hi : i < mn M k) {y : Int32} (hy : y = nI i) {K : Nat → Prop} (hh : K (g k i)) : wR h x 7 k (fun a => wO h a 0 (w_Jx4a65c_get_915e3 dc h a y (fun r => wDer r K))) := by
  have hc := hI.c
  have hb : mn M k ≤ 64 := by
    rcases (show k = 1 ∨ k = 2 ∨ k = 3 ∨ k = 4 by omega) with z | z | z | z <;> subst z <;> omega
  exact sb_lst hB k h1 h2 (sl_get (hB.L k h1 h2) i hi hb hy (wDer_i hh))
theorem sb_checkNumber {n : Nat} {y : Int32} {z : Int32} (hz : z = nI n) (hn : n < 2 ^ 31) {A : Prop} {PX : String → Prop} (h1 : isIx y n → A) (h2 : ¬ isIx y n → PX "java/lang/IndexOutOfBoundsException") : w_X6_checkNumber dc h y z A PX := by
  subst hz
  refine wIf_i (fun c => h2 (ix_neg c (by omega))) (fun c => wIf_i (fun d => h1 (ix_in c d hn)) (fun d => h2 (ix_big ?_ hn)))
  exact Int32.not_lt.mp d
theorem sb_checkRange {a b y z v : Int32} (hy : y = a) (hz : z = b) {A : Prop} {PX : String → Prop} (h1 : (a ≤ v ∧ v ≤ b) → A) (h2 : ¬ (a ≤ v ∧ v ≤ b) → PX "java/lang/IllegalArgumentException") : w_X6_checkRange dc h v y z A PX := by
  subst hy hz
  exact wIf_i (fun c => h2 (fun q => Int32.not_le.mpr c q.1)) (fun c => wIf_i (fun d => h1 ⟨Int32.not_lt.mp c, d⟩) (fun d => h2 (fun q => d q.2)))
theorem sb_range {a b : Nat} (hb : b < 2 ^ 30) (hab : a ≤ b) {y z v : Int32} (hy : y = nI a) (hz : z = nI b) {A : Prop} {PX : String → Prop} (h1 : inR v a b → A) (h2 : ¬ inR v a b → PX "java/lang/IllegalArgumentException") : w_X6_checkRange dc h v y z A PX :=
  sb_checkRange hy hz (fun q => h1 ((inR_iff hb hab).mp q)) (fun q => h2 (fun z => q ((inR_iff hb hab).mpr z)))
theorem sb_checkTime {v : Int32} {A : Prop} {PX : String → Prop} (h1 : isIx v 2880 → A) (h2 : ¬ isIx v 2880 → PX "java/lang/IllegalArgumentException") : w_X6_checkTime dc h v A PX := by
  have e : inR v 0 2879 ↔ isIx v 2880 := ⟨fun ⟨j, _, q2, q3⟩ => ⟨j, by omega, q3⟩, fun ⟨j, q2, q3⟩ => ⟨j, by omega, by omega, q3⟩⟩
  exact sb_range (a := 0) (b := 2879) (by decide) (by decide) rfl rfl (fun q => h1 (e.mp q)) (fun q => h2 (fun z => q (e.mpr z)))
theorem sb_checkRoom {n m : Nat} {y z : Int32} (hy : y = nI n) (hz : z = nI m) (hn : n < 2 ^ 31) (hm : m < 2 ^ 31) {A : Prop} {PX : String → Prop} (h1 : n < m → A) (h2 : ¬ n < m → PX "java/lang/IllegalStateException") : w_X6_checkRoom dc h y z A PX := by
  subst hy hz
  exact wIf_d (n < m) (n_lt hn hm) h1 h2
/-- the number of the points at a time or ahead of it -/
def isU (M : MS) (t k : Nat) : Prop := k ≤ mn M 0 ∧ (∀ j, j < k → mt M 0 j ≤ t) ∧ (k < mn M 0 → t < mt M 0 k)
theorem isU_u {M : MS} {t k k' : Nat} (h : isU M t k) (h' : isU M t k') : k = k' := by
  rcases Nat.lt_trichotomy k k' with c | c | c
  · have h1 := h'.2.1 k c
    have h2 := h.2.2 (by have := h'.1; omega)
    omega
  · exact c
  · have h1 := h.2.1 k' c
    have h2 := h'.2.2 (by have := h.1; omega)
    omega
def uP (M : MS) (t : Nat) : Nat := if fGe M t (mn M 0) 0 < mn M 0 ∧ mt M 0 (fGe M t (mn M 0) 0) = t then fGe M t (mn M 0) 0 + 1 else fGe M t (mn M 0) 0
theorem uP_U {M : MS} (hI : Inv M) (t : Nat) : isU M t (uP M t) := by
  have hK := fGe_K M t
  unfold uP
  generalize fGe M t (mn M 0) 0 = k at hK
  by_cases c : k < mn M 0 ∧ mt M 0 k = t
  · rw [if_pos c]
    refine ⟨by omega, fun j hj => ?_, fun q => ?_⟩
    · by_cases e : j = k
      · subst e; omega
      · have := hK.2.1 j (by omega); omega
    · have := hI.tup (i := k) (j := k + 1) (by omega) q; omega
  · rw [if_neg c]
    refine ⟨hK.1, fun j hj => by have := hK.2.1 j hj; omega, fun q => ?_⟩
    have := hK.2.2 q
    have : mt M 0 k ≠ t := fun z => c ⟨q, z⟩
    omega
/-- the same with the tide's own cells alone -/
theorem st_pointsUpTo (hT : isT h g M) (hI : Inv M) (t : Nat) (ht2 : t < 2880) {y : Int32} (hy : y = nI t) (hh : Po (nI (uP M t))) : w_X5_pointsUpTo dc h (g 0 0) y Po := by
  have hc := hI.c
  subst hy
  obtain ⟨h1, h2, T0, T1, h3, h4, h5⟩ := hT
  refine xloop_up (fun i => nI i) (fun i => ∀ j, j < i → mt M 0 j ≤ t) (mn M 0) 0 (Nat.zero_le _) (fun j hj => absurd hj (Nat.not_lt_zero j)) (fun rec i _ hi hP hr => ?_) (fun rec hP => ?_)
  · have hT := hI.tide hi
    refine wI_i h1 rfl (wIf_f (nI_ge hi (by omega)) (wR_i h1 rfl (wAI_i i h3 (by omega) rfl (by decide) ?_)))
    rw [(h5 i hi).1]
    refine wIf_d (t < mt M 0 i) (n_lt (by omega) (by omega)) (fun c => ?_) (fun c => ?_)
    · rw [isU_u (uP_U hI t) (show isU M t i from ⟨by omega, hP, fun _ => c⟩)] at hh; exact hh
    · have := hr (fun j hj => by
        by_cases e : j = i
        · subst e; omega
        · exact hP j (by omega))
      rw [nI_succ] at this; exact this
  · refine wI_i h1 rfl (wIf_t (nI_le (Nat.le_refl _) (by omega)) ?_)
    rw [isU_u (uP_U hI t) (show isU M t (mn M 0) from ⟨Nat.le_refl _, hP, fun q => absurd q (Nat.lt_irrefl _)⟩)] at hh; exact hh
theorem i_zdiv (y : Int32) : (0 : Int32) / y = 0 := by
  apply Int32.toInt_inj.mp
  have h0 : (0 : Int32).toInt = 0 := rfl
  rw [Int32.toInt_div, h0, Int.zero_tdiv]; rfl
theorem st_heightAt (hT : isT h g M) (hI : Inv M) (t : Nat) (ht2 : t < 2880) {y : Int32} (hy : y = nI t) (hh : Po (ht M t)) : w_X5_heightAt dc h (g 0 0) y Po := by
  have hc := hI.c
  subst hy
  have hT2 := hT
  obtain ⟨h1, h2, T0, T1, h3, h4, h5⟩ := hT
  refine wO_i h1 (wI_i h1 rfl (wIf_d (mn M 0 = 0) (nI_eq (b := 0) (by omega) (by decide)) (fun c => ?_) (fun c => ?_)))
  · have e : ht M t = 0 := by unfold ht htv; rw [if_pos c]
    rw [e] at hh; exact hh
  refine st_pointsUpTo hT2 hI t ht2 rfl ?_
  have hK := fGe_K M t
  have hu : uP M t = if fGe M t (mn M 0) 0 < mn M 0 ∧ mt M 0 (fGe M t (mn M 0) 0) = t then fGe M t (mn M 0) 0 + 1 else fGe M t (mn M 0) 0 := rfl
  have hU := uP_U hI t
  unfold ht at hh
  generalize fGe M t (mn M 0) 0 = k at hK hh hu
  generalize uP M t = u at hu hU
  unfold htv at hh
  rw [if_neg c] at hh
  have hkn := hK.1
  have hun := hU.1
  refine wIf_d (u = 0) (nI_eq (b := 0) (by omega) (by decide)) (fun d => ?_) (fun d => ?_)
  · have hk0 : k = 0 := by
      by_cases z : k < mn M 0 ∧ mt M 0 k = t
      · rw [if_pos z] at hu; omega
      · rw [if_neg z] at hu; omega
    subst hk0
    refine wR_i h1 rfl (wAI_i 0 h4 (by decide) rfl (by decide) ?_)
    rw [(h5 0 (by omega)).2]
    rw [if_neg (by omega), if_pos (Or.inl rfl)] at hh; exact hh
  have em : nI u - 1 = nI (u - 1) := pk_sub (a := u) (b := 1) (by omega)
  refine wI_i h1 rfl (wIf_d (u = mn M 0) (nI_eq (by omega) (by omega)) (fun e => ?_) (fun e => ?_))
  · refine wR_i h1 rfl (wAI_i (u - 1) h4 (by omega) em (by decide) ?_)
    rw [(h5 (u - 1) (by omega)).2]
    by_cases z : k < mn M 0 ∧ mt M 0 k = t
    · rw [if_pos z] at hu
      rw [if_neg (by omega), if_pos (Or.inr z.2)] at hh
      rw [show u - 1 = k by omega]; exact hh
    · rw [if_neg z] at hu
      rw [if_pos (by omega)] at hh
      rw [e]; exact hh
  have hlt : u < mn M 0 := by omega
  have hs := hI.tup (i := u - 1) (j := u) (by omega) hlt
  have ht1 := hI.tide (i := u - 1) (by omega)
  have ht3 := hI.tide (i := u) hlt
  refine wR_i h1 rfl (wAI_i u h3 (by omega) rfl (by decide) (wR_i h1 rfl (wAI_i (u - 1) h3 (by omega) em (by decide) ?_)))
  refine wR_i h1 rfl (wAI_i u h4 (by omega) rfl (by decide) (wR_i h1 rfl (wAI_i (u - 1) h4 (by omega) em (by decide) ?_)))
  refine wR_i h1 rfl (wAI_i (u - 1) h3 (by omega) em (by decide) ?_)
  rw [(h5 u hlt).1, (h5 u hlt).2, (h5 (u - 1) (by omega)).1, (h5 (u - 1) (by omega)).2]
  have e3 : nI (mt M 0 u) - nI (mt M 0 (u - 1)) = nI (mt M 0 u - mt M 0 (u - 1)) := pk_sub (by omega)
  refine wIf_f ?_ (wR_i h1 rfl (wAI_i (u - 1) h4 (by omega) em (by decide) ?_))
  · rw [e3]; exact fun z => absurd ((n_le (b := 0) (by omega) (by decide)).mp z) (by omega)
  rw [(h5 (u - 1) (by omega)).2]
  refine ⟨?_, ?_⟩
  · rw [e3]; exact nI_ne0 (by omega) (by omega)
  by_cases z : k < mn M 0 ∧ mt M 0 k = t
  · rw [if_pos z] at hu
    rw [if_neg (by omega), if_pos (Or.inr z.2)] at hh
    rw [show u - 1 = k by omega, z.2]
    rw [show nI t - nI t = (0 : Int32) by rw [pk_sub (Nat.le_refl t), Nat.sub_self]; rfl, Int32.mul_zero, i_zdiv, Int32.add_zero]
    exact hh
  · rw [if_neg z] at hu
    subst hu
    rw [if_neg (by omega), if_neg (fun w => w.elim d (fun w => z ⟨hlt, w⟩))] at hh
    exact hh
end
