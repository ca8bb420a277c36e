/-! PURE ROWS: the law's calls of the class that change nothing -/
def kM (h h' : XH) : Prop := ∀ a e, h a = some e → xk e = 1 → h' a = some e
theorem kM_r {h : XH} : kM h h := fun _ _ q _ => q
theorem kM_k {n : Nat} {h h' : XH} (hn : n ≠ 1) (q : kept n h h') : kM h h' := fun a e z z2 => q a e z (by rw [z2]; exact fun w => hn w.symm)
section
variable {dc : Nat × Nat} {h h0 : XH} {x o : Nat} {g : Nat → Nat → Nat} {M : MS} {Po : Int32 → XH → Prop}
theorem sb_counted {Po : Int32 → Prop} (hB : isB dc h x g M) (k : Nat) (hk : k < 5) (hh : Po (nI (mn M k))) {A : Prop} {z : Int32} (hz : z = nI k) : ((z = 0 → wR h x 7 0 (fun a1 => wI h a1 6 2 (fun v2 => Po v2))) ∧ (z = 1 → wR h x 7 1 (fun a3 => wO h a3 0 ( w_Jx4a65c_size_8abf5 dc h a3 (fun r6 => Po r6)))) ∧ (z = 2 → wR h x 7 2 (fun a9 => wO h a9 0 ( w_Jx4a65c_size_8abf5 dc h a9 (fun r12 => Po r12)))) ∧ (z = 3 → wR h x 7 3 (fun a15 => wO h a15 0 ( w_Jx4a65c_size_8abf5 dc h a15 (fun r18 => Po r18)))) ∧ (z = 4 → wR h x 7 4 (fun a21 => wO h a21 0 ( w_Jx4a65c_size_8abf5 dc h a21 (fun r24 => Po r24)))) ∧ ((z).toInt < 0 ∨ 4 < (z).toInt → A)) := by
  subst hz
  have e : ∀ j : Nat, j < 5 → nI k = nI j → k = j := fun j hj q => (nI_eq (a := k) (b := j) (by omega) (by omega)).mp q
  refine ⟨fun q => ?_, fun q => ?_, fun q => ?_, fun q => ?_, fun q => ?_, fun q => ?_⟩
  · have := e 0 (by decide) q; subst this; exact wR_i hB.1 rfl (wI_i hB.T.1 rfl hh)
  · have := e 1 (by decide) q; subst this; exact sb_size hB 1 (by decide) (by decide) hh
  · have := e 2 (by decide) q; subst this; exact sb_size hB 2 (by decide) (by decide) hh
  · have := e 3 (by decide) q; subst this; exact sb_size hB 3 (by decide) (by decide) hh
  · have := e 4 (by decide) q; subst this; exact sb_size hB 4 (by decide) (by decide) hh
  · rw [nI_toInt (by omega)] at q; omega
theorem sb_told {Po : Int32 → Prop} (hB : isB dc h x g M) (hI : Inv M) (i : Nat) (hi : i < mn M 4) (k : Nat) (hk : k < 6) {z : Int32} (hz : z = nI k) {A : Prop} (hh : Po (nI (mt M (7 + k) i))) : ((z = 0 → wR h (g 4 i) 2 0 (fun a19 => wR h a19 4 0 (fun a20 => wI h a20 5 0 (fun v21 => Po v21)))) ∧ (z = 1 → wI h (g 4 i) 2 2 (fun v22 => Po v22)) ∧ (z = 2 → wR h (g 4 i) 2 3 (fun a23 => wI h a23 3 0 (fun v24 => Po v24))) ∧ (z = 3 → wR h (g 4 i) 2 0 (fun a25 => wI h a25 4 3 (fun v26 => Po v26))) ∧ (z = 4 → wR h (g 4 i) 2 0 (fun a27 => wR h a27 4 1 (fun a28 => wI h a28 1 0 (fun v29 => Po v29)))) ∧ (z = 5 → wR h (g 4 i) 2 0 (fun a30 => wI h a30 4 2 (fun v31 => wIf (v31 = 0) (Po 0) (Po 1)))) ∧ ((z).toInt < 0 ∨ 5 < (z).toInt → A)) := by
  have hp := hI.pas hi
  subst hz
  have e : ∀ j : Nat, j < 6 → nI k = nI j → k = j := fun j hj q => (nI_eq (a := k) (b := j) (by omega) (by omega)).mp q
  refine ⟨fun q => ?_, fun q => ?_, fun q => ?_, fun q => ?_, fun q => ?_, fun q => ?_, fun q => ?_⟩
  · have := e 0 (by decide) q; subst this
    exact wR_i (hB.pas hi) rfl (wR_i (hB.way hi) rfl (wI_i (hB.ship hp.1) rfl hh))
  · have := e 1 (by decide) q; subst this
    exact wI_i (hB.pas hi) rfl hh
  · have := e 2 (by decide) q; subst this
    exact wR_i (hB.pas hi) rfl (wI_i (hB.pilot hp.2.2.1) rfl hh)
  · have := e 3 (by decide) q; subst this
    exact wR_i (hB.pas hi) rfl (wI_i (hB.way hi) rfl hh)
  · have := e 4 (by decide) q; subst this
    exact wR_i (hB.pas hi) rfl (wR_i (hB.way hi) rfl (wI_i (hB.berth hp.2.2.2.1) rfl hh))
  · have := e 5 (by decide) q; subst this
    refine wR_i (hB.pas hi) rfl (wI_i (hB.way hi) rfl (wIf_d (pO M i = 0) (nI_eq (a := pO M i) (b := 0) (by omega) (by decide)) (fun d => ?_) (fun d => ?_)))
    · rw [show mt M (7 + 5) i = 0 from d] at hh; exact hh
    · rw [show mt M (7 + 5) i = 1 from (show pO M i = 1 by omega)] at hh; exact hh
  · rw [nI_toInt (by omega)] at q; omega
end
