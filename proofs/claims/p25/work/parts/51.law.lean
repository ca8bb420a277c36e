/-! PURE ROWS: a new book; the law's steps; every script -/
def extx (x : Nat) (h h' : XH) : Prop := ∀ a e, h a = some e → a ≠ x → h' a = some e
theorem extx_t {x : Nat} {h h' h'' : XH} (p : extx x h h') (q : extx x h' h'') : extx x h h'' := fun a e z z2 => q a e (p a e z z2) z2
section
variable {dc : Nat × Nat} {h h0 : XH} {x m o : Nat} {g : Nat → Nat → Nat} {M : MS}
theorem ni_list {fs : List Value} {k : Nat} (hx : h x = some (.inr (7, fs))) (hk : k < fs.length) {K : XH → Prop} (hh : ∀ h' q, h' x = some (.inr (7, fs.set k (.ref q))) → h' q = some (.inr (0, [.int 0, .ref dc.1, .int 0])) → h q = none → q ≠ x → extx x h h' → K h') : wNew h 0 [.int 0, .null, .int 0] (fun q h8 => w_Jx4a65c_init_da8c8 dc h8 q (fun h10 => wP h10 x 7 k (.ref q) K)) := by
  intro q hq
  have hqx : x ≠ q := fun z => by rw [z, hq] at hx; cases hx
  refine wP_i xup_s (by decide : 0 < 3) (wP_i xup_s (by decide : 1 < 3) ?_)
  refine wP_i (by rw [xup_o hqx, xup_o hqx, xup_o hqx]; exact hx) hk (hh _ q xup_s (by rw [xup_o (fun z => hqx z.symm), xup_s]; rfl) hq (fun z => hqx z.symm) (fun a e q0 q1 => ?_))
  have : a ≠ q := fun z => by rw [z, hq] at q0; cases q0
  rw [xup_o q1, xup_o this, xup_o this, xup_o this]; exact q0
theorem ni_put {fs : List Value} {k : Nat} {v : Value} (hx : h x = some (.inr (7, fs))) (hk : k < fs.length) {K : XH → Prop} (hh : ∀ h', h' x = some (.inr (7, fs.set k v)) → extx x h h' → K h') : wP h x 7 k v K :=
  wP_i hx hk (hh _ xup_s (fun a e q0 q1 => by rw [xup_o q1]; exact q0))
theorem ni_tide {fs : List Value} (hx : h x = some (.inr (7, fs))) (hk : 0 < fs.length) {K : XH → Prop} (hh : ∀ h' q r0 r1, h' x = some (.inr (7, fs.set 0 (.ref q))) → h' q = some (.inr (6, [.ref r0, .ref r1, .int 0])) → h' r0 = some (.inl (0, 30, .inl (fun _ => 0))) → h' r1 = some (.inl (0, 30, .inl (fun _ => 0))) → r0 ≠ r1 → q ≠ x → r0 ≠ x → r1 ≠ x → extx x h h' → K h') : wNew h 6 [.null, .null, .int 0] (fun q1 h2 => w_X5_init dc h2 q1 (fun h4 => wP h4 x 7 0 (.ref q1) K)) := by
  intro q hq
  have hqx : x ≠ q := fun z => by rw [z, hq] at hx; cases hx
  intro r0 hr0
  have r0q : r0 ≠ q := fun z => by rw [z, xup_s] at hr0; cases hr0
  have r0x : r0 ≠ x := fun z => by rw [z, xup_o hqx, hx] at hr0; cases hr0
  have hr0' : h r0 = none := by rw [xup_o r0q] at hr0; exact hr0
  refine wP_i (fs := [.null, .null, .int 0]) (by rw [xup_o (fun z => r0q z.symm), xup_s]) (by decide : 0 < 3) (fun r1 hr1 => ?_)
  have r1q : r1 ≠ q := fun z => by rw [z, xup_s] at hr1; cases hr1
  have r1r : r1 ≠ r0 := fun z => by rw [z, xup_o r0q, xup_s] at hr1; cases hr1
  have r1x : r1 ≠ x := fun z => by rw [z, xup_o hqx, xup_o (fun y => r0x y.symm), xup_o hqx, hx] at hr1; cases hr1
  have hr1' : h r1 = none := by rw [xup_o r1q, xup_o r1r, xup_o r1q] at hr1; exact hr1
  refine wP_i (fs := [.ref r0, .null, .int 0]) (by rw [xup_o (fun z => r1q z.symm), xup_s]; rfl) (by decide : 1 < 3) (wP_i xup_s (by decide : 2 < 3) ?_)
  refine wP_i (by rw [xup_o hqx, xup_o hqx, xup_o (fun z => r1x z.symm), xup_o hqx, xup_o (fun z => r0x z.symm), xup_o hqx]; exact hx) hk (hh _ q r0 r1 xup_s ?_ ?_ ?_ (fun z => r1r z.symm) (fun z => hqx z.symm) r0x r1x (fun a e q0 q1 => ?_))
  · rw [xup_o (fun z => hqx z.symm), xup_s]; rfl
  · rw [xup_o r0x, xup_o r0q, xup_o r0q, xup_o (fun z => r1r z.symm), xup_o r0q, xup_s]
  · rw [xup_o r1x, xup_o r1q, xup_o r1q, xup_s]
  · have a1 : a ≠ q := fun z => by rw [z, hq] at q0; cases q0
    have a2 : a ≠ r0 := fun z => by rw [z, hr0'] at q0; cases q0
    have a3 : a ≠ r1 := fun z => by rw [z, hr1'] at q0; cases q0
    rw [xup_o q1, xup_o a1, xup_o a1, xup_o a3, xup_o a1, xup_o a2, xup_o a1]; exact q0
theorem sb_init {Po : XH → Prop} (hx : h x = some (.inr (7, [.null, .null, .null, .null, .null, .int 0, .int 0, .int 0]))) (hd : h dc.1 = some xro) (hh : ∀ h' g, isB dc h' x g M0 → Po h') : w_X6_init dc h x Po := by
  refine ni_tide hx (by decide) (fun h1 q0 r0 r1 x1 c1 c2 c3 n1 n2 n3 n4 e1 => ?_)
  refine ni_list x1 (by decide : 1 < 8) (fun h2 q1 x2 d1 f1 p1 e2 => ?_)
  refine ni_list x2 (by decide : 2 < 8) (fun h3 q2 x3 d2 f2 p2 e3 => ?_)
  refine ni_list x3 (by decide : 3 < 8) (fun h4 q3 x4 d3 f3 p3 e4 => ?_)
  refine ni_list x4 (by decide : 4 < 8) (fun h5 q4 x5 d4 f4 p4 e5 => ?_)
  refine ni_put x5 (by decide : 5 < 8) (fun h6 x6 e6 => ni_put x6 (by decide : 6 < 8) (fun h7 x7 e7 => ni_put x7 (by decide : 7 < 8) (fun h8 x8 e8 => ?_)))
  have E5 : extx x h5 h8 := extx_t e6 (extx_t e7 e8)
  have E4 : extx x h4 h8 := extx_t e5 E5
  have E3 : extx x h3 h8 := extx_t e4 E4
  have E2 : extx x h2 h8 := extx_t e3 E3
  have E1 : extx x h1 h8 := extx_t e2 E2
  have dx : dc.1 ≠ x := fun z => by rw [z, hx] at hd; cases hd
  have q12 : q1 ≠ q2 := fun z => by rw [z, f2] at d1; cases d1
  have q13 : q1 ≠ q3 := fun z => by have := e3 _ _ d1 p1; rw [z, f3] at this; cases this
  have q14 : q1 ≠ q4 := fun z => by have := e4 _ _ (e3 _ _ d1 p1) p1; rw [z, f4] at this; cases this
  have q23 : q2 ≠ q3 := fun z => by rw [z, f3] at d2; cases d2
  have q24 : q2 ≠ q4 := fun z => by have := e4 _ _ d2 p2; rw [z, f4] at this; cases this
  have q34 : q3 ≠ q4 := fun z => by rw [z, f4] at d3; cases d3
  refine hh h8 (fun k i => match i with
    | 0 => q0
    | 1 => q1
    | 2 => q2
    | 3 => q3
    | 4 => q4
    | 5 => r0
    | 6 => r1
    | _ => dc.1) ⟨x8, ⟨E1 _ _ c1 n2, n1, _, _, E1 _ _ c2 n3, E1 _ _ c3 n4, fun i hi => absurd hi (Nat.not_lt_zero i)⟩, fun k k1 k2 => ?_, fun k k1 k2 i hi => ?_, extx_t e1 E1 _ _ hd dx, fun j k j1 j2 k1 k2 hjk => ⟨?_, ?_⟩, fun k k1 k2 i j hi _ _ => ?_⟩
  · rcases (show k = 1 ∨ k = 2 ∨ k = 3 ∨ k = 4 by omega) with z | z | z | z
    · subst z; exact ⟨⟨0, E2 _ _ d1 p1⟩, Or.inl ⟨rfl, rfl⟩⟩
    · subst z; exact ⟨⟨0, E3 _ _ d2 p2⟩, Or.inl ⟨rfl, rfl⟩⟩
    · subst z; exact ⟨⟨0, E4 _ _ d3 p3⟩, Or.inl ⟨rfl, rfl⟩⟩
    · subst z; exact ⟨⟨0, E5 _ _ d4 p4⟩, Or.inl ⟨rfl, rfl⟩⟩
  · exfalso
    rcases (show k = 1 ∨ k = 2 ∨ k = 3 ∨ k = 4 ∨ k = 5 by omega) with z | z | z | z | z <;> subst z <;> exact absurd hi (Nat.not_lt_zero i)
  · rcases (show j = 1 ∨ j = 2 ∨ j = 3 ∨ j = 4 by omega) with z | z | z | z <;> rcases (show k = 1 ∨ k = 2 ∨ k = 3 ∨ k = 4 by omega) with w | w | w | w <;> subst z w <;> first | exact absurd rfl hjk | assumption | exact fun y => q12 y.symm | exact fun y => q13 y.symm | exact fun y => q14 y.symm | exact fun y => q23 y.symm | exact fun y => q24 y.symm | exact fun y => q34 y.symm
  · rcases (show j = 1 ∨ j = 2 ∨ j = 3 ∨ j = 4 by omega) with z | z | z | z <;> subst z <;> exact fun _ => rfl
  · exfalso
    rcases (show k = 1 ∨ k = 2 ∨ k = 3 ∨ k = 4 ∨ k = 5 by omega) with z | z | z | z | z <;> subst z <;> exact absurd hi (Nat.not_lt_zero i)
end
