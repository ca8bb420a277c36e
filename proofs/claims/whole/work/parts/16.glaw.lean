theorem in_L_law_X6 : ∀ w ∈ wsX60, w ∈ wsL_law := by decide +kernel
theorem m_L_law_1 : Cond.classLink RL 8 RX6 ∈ wsL_law := by decide +kernel
theorem m_L_law_2 : Cond.instantiable RX6 8 ∈ wsL_law := by decide +kernel
theorem m_L_law_3 : Cond.initialized RX6 ∈ wsL_law := by decide +kernel
theorem m_L_law_4 : Cond.methodLink RL 81 yX6_init ∈ wsL_law := by decide +kernel
theorem m_L_law_5 : Cond.instanceMethod yX6_init ∈ wsL_law := by decide +kernel
theorem in_L_law_X7 : ∀ w ∈ wsX70, w ∈ wsL_law := by decide +kernel
theorem m_L_law_7 : Cond.classLink RL 82 RX7 ∈ wsL_law := by decide +kernel
theorem m_L_law_8 : Cond.instantiable RX7 18 ∈ wsL_law := by decide +kernel
theorem m_L_law_9 : Cond.initialized RX7 ∈ wsL_law := by decide +kernel
theorem m_L_law_10 : Cond.methodLink RL 84 yX7_init ∈ wsL_law := by decide +kernel
theorem m_L_law_11 : Cond.instanceMethod yX7_init ∈ wsL_law := by decide +kernel
theorem m_L_law_12 : Cond.arrayClass .long ∈ wsL_law := by decide +kernel
def w_L_law_c0 (dc : Nat × Nat) (L : Nat) (xs : Nat → Int32) (h : XH) (l1 l2 l3 : Nat) (l4 : Int32) (rec : XH → Prop) : Prop :=
  wScr L xs (l4 + 1) (fun v1 => wScr L xs (l4 + 2) (fun v3 => w_L_addTide dc h l1 v1 v3 l3 (fun r5 h6 => wScr L xs (l4 + 1) (fun v8 => wScr L xs (l4 + 2) (fun v10 => wO h6 l2 8 ( w_X7_addTide dc h6 l2 v8 v10 (fun r14 h15 => wO h15 l2 8 ( w_X7_thrown dc h15 l2 (fun r19 => wIf (r19 = r5) (wIf (r5 = 0) (wAL h15 l3 0 (fun v22 => wIf ((lg_cmp v22 r14.toInt64) = 0) (rec h15) (False))) (rec h15)) (False))))))))))
set_option maxRecDepth 100000 in
set_option maxHeartbeats 4000000 in
theorem k_L_law_c0 {V : XVT} {X : XC} {l : Launch} (hfl : l.stackTraces = false) {nm : String} {b L : Nat} {xs : Nat → Int32} (SL0 : xLaw V X l nm wsL_law b L xs) (cells slots : Nat) (hc : cells + 64 ≤ 601024) (hs : slots + 1500 ≤ 7293034) (h : XH) (l1 l2 l3 : Nat) (l4 : Int32) (rec : XH → Prop) (hr : ∀ h' : XH, rec h' → V (cells + 64) (slots + 1500) h' 1494 [(0, .ref b), (1, .ref l1), (2, .ref l2), (3, .ref l3), (4, .int l4)] []) (hw : w_L_law_c0 (xdc X) L xs h l1 l2 l3 l4 rec) : V cells slots h 140 [(0, .ref b), (1, .ref l1), (2, .ref l2), (3, .ref l3), (4, .int l4)] [] := by
  obtain ⟨S, EL, SLN, SC, DC⟩ := id SL0
  refine xr_aload_n S 1 dL_law_140 rfl ?_
  refine xr_aload_n S 0 dL_law_141 rfl ?_
  refine xr_iload S 4 dL_law_142 rfl ?_
  refine xr_iconst S (1) dL_law_144 (by decide) ?_
  refine xr_iadd S dL_law_145 ?_
  obtain ⟨hi2, hw⟩ := hw
  refine SC _ _ _ _ _ _ _ dL_law_146 hi2 ?_
  generalize xs (Int32.toNatClampNeg (l4 + 1)) = v1 at hw ⊢
  refine xr_aload_n S 0 dL_law_147 rfl ?_
  refine xr_iload S 4 dL_law_148 rfl ?_
  refine xr_iconst S (2) dL_law_150 (by decide) ?_
  refine xr_iadd S dL_law_151 ?_
  obtain ⟨hi4, hw⟩ := hw
  refine SC _ _ _ _ _ _ _ dL_law_152 hi4 ?_
  generalize xs (Int32.toNatClampNeg (l4 + 2)) = v3 at hw ⊢
  refine xr_aload_n S 3 dL_law_153 rfl ?_
  refine xr_callSW S [.ref l1, .int v1, .int v3, .ref l3] [] dL_law_154 (k_L_addTide l hfl (xdc X) h l1 v1 v3 l3 _ hw) gL_law_L_addTide rfl pd_L_addTide ⟨Nat.le_of_ble_eq_true rfl, Nat.le_of_ble_eq_true rfl⟩ rfl (Nat.le_of_ble_eq_true rfl) ⟨by show _ ≤ 601024; omega, by show _ ≤ 7293034; omega⟩ (fun v9 h6 hv => ?_)
  obtain ⟨r5, rfl, hw⟩ := hv
  refine xr_istore S [(5, .int r5), (0, .ref b), (1, .ref l1), (2, .ref l2), (3, .ref l3), (4, .int l4)] dL_law_157 (by decide) rfl ?_
  refine xr_aload_n S 3 dL_law_159 rfl ?_
  refine xr_aload_n S 1 dL_law_160 rfl ?_
  refine xr_iload S 5 dL_law_161 rfl ?_
  refine xr_iconst S (1) dL_law_163 (by decide) ?_
  refine xr_iadd S dL_law_164 ?_
  obtain ⟨hi9, hw⟩ := hw
  refine SC _ _ _ _ _ _ _ dL_law_165 hi9 ?_
  generalize xs (Int32.toNatClampNeg (l4 + 1)) = v8 at hw ⊢
  refine xr_aload_n S 1 dL_law_166 rfl ?_
  refine xr_iload S 5 dL_law_167 rfl ?_
  refine xr_iconst S (2) dL_law_169 (by decide) ?_
  refine xr_iadd S dL_law_170 ?_
  obtain ⟨hi11, hw⟩ := hw
  refine SC _ _ _ _ _ _ _ dL_law_171 hi11 ?_
  generalize xs (Int32.toNatClampNeg (l4 + 2)) = v10 at hw ⊢
  obtain ⟨e12, hw⟩ := hw
  obtain ⟨f13, f13x⟩ := id e12
  refine xr_callV S 8 [.int v8, .int v10] [] dL_law_172 (k_X7_addTide l (xdc X) h6 l2 v8 v10 _ hw) gL_law_X7_addTide rfl pd_X7_addTide ⟨Nat.le_of_ble_eq_true rfl, Nat.le_of_ble_eq_true rfl⟩ rfl (Nat.le_of_ble_eq_true rfl) ⟨by show _ ≤ 601024; omega, by show _ ≤ 7293034; omega⟩ f13x rfl (fun v9 h15 hv => ?_)
  obtain ⟨r14, rfl, hw⟩ := hv
  refine xr_istore S [(6, .int r14), (5, .int r5), (0, .ref b), (1, .ref l1), (2, .ref l2), (3, .ref l3), (4, .int l4)] dL_law_175 (by decide) rfl ?_
  refine xr_aload_n S 4 dL_law_177 rfl ?_
  obtain ⟨e17, hw⟩ := hw
  obtain ⟨f18, f18x⟩ := id e17
  refine xr_callV S 8 [] [] dL_law_178 (k_X7_thrown l (xdc X) h15 l2 _ hw) gL_law_X7_thrown rfl pd_X7_thrown ⟨Nat.le_of_ble_eq_true rfl, Nat.le_of_ble_eq_true rfl⟩ rfl (Nat.le_of_ble_eq_true rfl) ⟨by show _ ≤ 601024; omega, by show _ ≤ 7293034; omega⟩ f18x rfl (fun v9 h21 hv => ?_)
  obtain ⟨r19, rfl, rfl, hw⟩ := hv
  refine xr_iload S 1 dL_law_181 rfl ?_
  refine xw_icmp_eq S 188 dL_law_183 (by decide) hw (fun c hw => ?_) (fun c hw => ?_)
  · refine xr_iload S 1 dL_law_188 rfl ?_
    refine xw_if_ne S 205 dL_law_190 (by decide) hw (fun c hw => ?_) (fun c hw => ?_)
    · refine xr_goto S (tgt := 1494) dL_law_205 (by decide) ?_
      refine xr_widen S (k := cells + 64) (n := slots + 1500) (by omega) (by omega) ?_
      refine xr_sub S [(0, .ref b), (1, .ref l1), (2, .ref l2), (3, .ref l3), (4, .int l4)] [2, 3, 4, 5, 6] rfl ?_
      exact hr h15 hw
    · refine xr_aload_n S 5 dL_law_193 rfl ?_
      refine xr_iconst S (0) dL_law_194 (by decide) ?_
      refine xw_lald S dL_law_195 hw (fun v22 hw => ?_)
      refine xr_iload S 0 dL_law_196 rfl ?_
      refine xr_i2l S dL_law_198 ?_
      refine xr_lcmp S dL_law_199 ?_
      refine xw_if_eq S 205 dL_law_200 (by decide) hw (fun c hw => ?_) (fun c hw => ?_)
      · refine xr_goto S (tgt := 1494) dL_law_205 (by decide) ?_
        refine xr_widen S (k := cells + 64) (n := slots + 1500) (by omega) (by omega) ?_
        refine xr_sub S [(0, .ref b), (1, .ref l1), (2, .ref l2), (3, .ref l3), (4, .int l4)] [2, 3, 4, 5, 6] rfl ?_
        exact hr h15 hw
      · refine xr_iconst S (0) dL_law_203 (by decide) ?_
        exact hw.elim
  · refine xr_iconst S (0) dL_law_186 (by decide) ?_
    exact hw.elim
def w_L_law_c1 (dc : Nat × Nat) (L : Nat) (xs : Nat → Int32) (h : XH) (l1 l2 l3 : Nat) (l4 : Int32) (rec : XH → Prop) : Prop :=
  wScr L xs (l4 + 1) (fun v23 => w_L_height dc h l1 v23 l3 (fun r25 h26 => wScr L xs (l4 + 1) (fun v28 => wO h26 l2 8 ( w_X7_height dc h26 l2 v28 (fun r32 h33 => wO h33 l2 8 ( w_X7_thrown dc h33 l2 (fun r37 => wIf (r37 = r25) (wIf (r25 = 0) (wAL h33 l3 0 (fun v40 => wIf ((lg_cmp v40 r32.toInt64) = 0) (rec h33) (False))) (rec h33)) (False))))))))
set_option maxRecDepth 100000 in
set_option maxHeartbeats 4000000 in
theorem k_L_law_c1 {V : XVT} {X : XC} {l : Launch} (hfl : l.stackTraces = false) {nm : String} {b L : Nat} {xs : Nat → Int32} (SL0 : xLaw V X l nm wsL_law b L xs) (cells slots : Nat) (hc : cells + 64 ≤ 601024) (hs : slots + 1500 ≤ 7293034) (h : XH) (l1 l2 l3 : Nat) (l4 : Int32) (rec : XH → Prop) (hr : ∀ h' : XH, rec h' → V (cells + 64) (slots + 1500) h' 1494 [(0, .ref b), (1, .ref l1), (2, .ref l2), (3, .ref l3), (4, .int l4)] []) (hw : w_L_law_c1 (xdc X) L xs h l1 l2 l3 l4 rec) : V cells slots h 208 [(0, .ref b), (1, .ref l1), (2, .ref l2), (3, .ref l3), (4, .int l4)] [] := by
  obtain ⟨S, EL, SLN, SC, DC⟩ := id SL0
  refine xr_aload_n S 1 dL_law_208 rfl ?_
  refine xr_aload_n S 0 dL_law_209 rfl ?_
  refine xr_iload S 4 dL_law_210 rfl ?_
  refine xr_iconst S (1) dL_law_212 (by decide) ?_
  refine xr_iadd S dL_law_213 ?_
  obtain ⟨hi24, hw⟩ := hw
  refine SC _ _ _ _ _ _ _ dL_law_214 hi24 ?_
  generalize xs (Int32.toNatClampNeg (l4 + 1)) = v23 at hw ⊢
  refine xr_aload_n S 3 dL_law_215 rfl ?_
  refine xr_callSW S [.ref l1, .int v23, .ref l3] [] dL_law_216 (k_L_height l hfl (xdc X) h l1 v23 l3 _ hw) gL_law_L_height rfl pd_L_height ⟨Nat.le_of_ble_eq_true rfl, Nat.le_of_ble_eq_true rfl⟩ rfl (Nat.le_of_ble_eq_true rfl) ⟨by show _ ≤ 601024; omega, by show _ ≤ 7293034; omega⟩ (fun v9 h26 hv => ?_)
  obtain ⟨r25, rfl, hw⟩ := hv
  refine xr_istore S [(5, .int r25), (0, .ref b), (1, .ref l1), (2, .ref l2), (3, .ref l3), (4, .int l4)] dL_law_219 (by decide) rfl ?_
  refine xr_aload_n S 3 dL_law_221 rfl ?_
  refine xr_aload_n S 1 dL_law_222 rfl ?_
  refine xr_iload S 5 dL_law_223 rfl ?_
  refine xr_iconst S (1) dL_law_225 (by decide) ?_
  refine xr_iadd S dL_law_226 ?_
  obtain ⟨hi29, hw⟩ := hw
  refine SC _ _ _ _ _ _ _ dL_law_227 hi29 ?_
  generalize xs (Int32.toNatClampNeg (l4 + 1)) = v28 at hw ⊢
  obtain ⟨e30, hw⟩ := hw
  obtain ⟨f31, f31x⟩ := id e30
  refine xr_callV S 8 [.int v28] [] dL_law_228 (k_X7_height l (xdc X) h26 l2 v28 _ hw) gL_law_X7_height rfl pd_X7_height ⟨Nat.le_of_ble_eq_true rfl, Nat.le_of_ble_eq_true rfl⟩ rfl (Nat.le_of_ble_eq_true rfl) ⟨by show _ ≤ 601024; omega, by show _ ≤ 7293034; omega⟩ f31x rfl (fun v9 h33 hv => ?_)
  obtain ⟨r32, rfl, hw⟩ := hv
  refine xr_istore S [(6, .int r32), (5, .int r25), (0, .ref b), (1, .ref l1), (2, .ref l2), (3, .ref l3), (4, .int l4)] dL_law_231 (by decide) rfl ?_
  refine xr_aload_n S 4 dL_law_233 rfl ?_
  obtain ⟨e35, hw⟩ := hw
  obtain ⟨f36, f36x⟩ := id e35
  refine xr_callV S 8 [] [] dL_law_234 (k_X7_thrown l (xdc X) h33 l2 _ hw) gL_law_X7_thrown rfl pd_X7_thrown ⟨Nat.le_of_ble_eq_true rfl, Nat.le_of_ble_eq_true rfl⟩ rfl (Nat.le_of_ble_eq_true rfl) ⟨by show _ ≤ 601024; omega, by show _ ≤ 7293034; omega⟩ f36x rfl (fun v9 h39 hv => ?_)
  obtain ⟨r37, rfl, rfl, hw⟩ := hv
  refine xr_iload S 1 dL_law_237 rfl ?_
  refine xw_icmp_eq S 244 dL_law_239 (by decide) hw (fun c hw => ?_) (fun c hw => ?_)
  · refine xr_iload S 1 dL_law_244 rfl ?_
    refine xw_if_ne S 261 dL_law_246 (by decide) hw (fun c hw => ?_) (fun c hw => ?_)
    · refine xr_goto S (tgt := 1494) dL_law_261 (by decide) ?_
      refine xr_widen S (k := cells + 64) (n := slots + 1500) (by omega) (by omega) ?_
      refine xr_sub S [(0, .ref b), (1, .ref l1), (2, .ref l2), (3, .ref l3), (4, .int l4)] [2, 3, 4, 5, 6] rfl ?_
      exact hr h33 hw
    · refine xr_aload_n S 5 dL_law_249 rfl ?_
      refine xr_iconst S (0) dL_law_250 (by decide) ?_
      refine xw_lald S dL_law_251 hw (fun v40 hw => ?_)
      refine xr_iload S 0 dL_law_252 rfl ?_
      refine xr_i2l S dL_law_254 ?_
      refine xr_lcmp S dL_law_255 ?_
      refine xw_if_eq S 261 dL_law_256 (by decide) hw (fun c hw => ?_) (fun c hw => ?_)
      · refine xr_goto S (tgt := 1494) dL_law_261 (by decide) ?_
        refine xr_widen S (k := cells + 64) (n := slots + 1500) (by omega) (by omega) ?_
        refine xr_sub S [(0, .ref b), (1, .ref l1), (2, .ref l2), (3, .ref l3), (4, .int l4)] [2, 3, 4, 5, 6] rfl ?_
        exact hr h33 hw
      · refine xr_iconst S (0) dL_law_259 (by decide) ?_
        exact hw.elim
  · refine xr_iconst S (0) dL_law_242 (by decide) ?_
    exact hw.elim
def w_L_law_c2 (dc : Nat × Nat) (L : Nat) (xs : Nat → Int32) (h : XH) (l1 l2 l3 : Nat) (l4 : Int32) (rec : XH → Prop) : Prop :=
  wScr L xs (l4 + 1) (fun v41 => wScr L xs (l4 + 2) (fun v43 => w_L_setWater dc h l1 v41 v43 l3 (fun r45 h46 => wScr L xs (l4 + 1) (fun v48 => wScr L xs (l4 + 2) (fun v50 => wO h46 l2 8 ( w_X7_setWater dc h46 l2 v48 v50 (fun r54 h55 => wO h55 l2 8 ( w_X7_thrown dc h55 l2 (fun r59 => wIf (r59 = r45) (wIf (r45 = 0) (wAL h55 l3 0 (fun v62 => wIf ((lg_cmp v62 r54.toInt64) = 0) (rec h55) (False))) (rec h55)) (False))))))))))
set_option maxRecDepth 100000 in
set_option maxHeartbeats 4000000 in
theorem k_L_law_c2 {V : XVT} {X : XC} {l : Launch} (hfl : l.stackTraces = false) {nm : String} {b L : Nat} {xs : Nat → Int32} (SL0 : xLaw V X l nm wsL_law b L xs) (cells slots : Nat) (hc : cells + 64 ≤ 601024) (hs : slots + 1500 ≤ 7293034) (h : XH) (l1 l2 l3 : Nat) (l4 : Int32) (rec : XH → Prop) (hr : ∀ h' : XH, rec h' → V (cells + 64) (slots + 1500) h' 1494 [(0, .ref b), (1, .ref l1), (2, .ref l2), (3, .ref l3), (4, .int l4)] []) (hw : w_L_law_c2 (xdc X) L xs h l1 l2 l3 l4 rec) : V cells slots h 264 [(0, .ref b), (1, .ref l1), (2, .ref l2), (3, .ref l3), (4, .int l4)] [] := by
  obtain ⟨S, EL, SLN, SC, DC⟩ := id SL0
  refine xr_aload_n S 1 dL_law_264 rfl ?_
  refine xr_aload_n S 0 dL_law_265 rfl ?_
  refine xr_iload S 4 dL_law_266 rfl ?_
  refine xr_iconst S (1) dL_law_268 (by decide) ?_
  refine xr_iadd S dL_law_269 ?_
  obtain ⟨hi42, hw⟩ := hw
  refine SC _ _ _ _ _ _ _ dL_law_270 hi42 ?_
  generalize xs (Int32.toNatClampNeg (l4 + 1)) = v41 at hw ⊢
  refine xr_aload_n S 0 dL_law_271 rfl ?_
  refine xr_iload S 4 dL_law_272 rfl ?_
  refine xr_iconst S (2) dL_law_274 (by decide) ?_
  refine xr_iadd S dL_law_275 ?_
  obtain ⟨hi44, hw⟩ := hw
  refine SC _ _ _ _ _ _ _ dL_law_276 hi44 ?_
  generalize xs (Int32.toNatClampNeg (l4 + 2)) = v43 at hw ⊢
  refine xr_aload_n S 3 dL_law_277 rfl ?_
  refine xr_callSW S [.ref l1, .int v41, .int v43, .ref l3] [] dL_law_278 (k_L_setWater l hfl (xdc X) h l1 v41 v43 l3 _ hw) gL_law_L_setWater rfl pd_L_setWater ⟨Nat.le_of_ble_eq_true rfl, Nat.le_of_ble_eq_true rfl⟩ rfl (Nat.le_of_ble_eq_true rfl) ⟨by show _ ≤ 601024; omega, by show _ ≤ 7293034; omega⟩ (fun v9 h46 hv => ?_)
  obtain ⟨r45, rfl, hw⟩ := hv
  refine xr_istore S [(5, .int r45), (0, .ref b), (1, .ref l1), (2, .ref l2), (3, .ref l3), (4, .int l4)] dL_law_281 (by decide) rfl ?_
  refine xr_aload_n S 3 dL_law_283 rfl ?_
  refine xr_aload_n S 1 dL_law_284 rfl ?_
  refine xr_iload S 5 dL_law_285 rfl ?_
  refine xr_iconst S (1) dL_law_287 (by decide) ?_
  refine xr_iadd S dL_law_288 ?_
  obtain ⟨hi49, hw⟩ := hw
  refine SC _ _ _ _ _ _ _ dL_law_289 hi49 ?_
  generalize xs (Int32.toNatClampNeg (l4 + 1)) = v48 at hw ⊢
  refine xr_aload_n S 1 dL_law_290 rfl ?_
  refine xr_iload S 5 dL_law_291 rfl ?_
  refine xr_iconst S (2) dL_law_293 (by decide) ?_
  refine xr_iadd S dL_law_294 ?_
  obtain ⟨hi51, hw⟩ := hw
  refine SC _ _ _ _ _ _ _ dL_law_295 hi51 ?_
  generalize xs (Int32.toNatClampNeg (l4 + 2)) = v50 at hw ⊢
  obtain ⟨e52, hw⟩ := hw
  obtain ⟨f53, f53x⟩ := id e52
  refine xr_callV S 8 [.int v48, .int v50] [] dL_law_296 (k_X7_setWater l (xdc X) h46 l2 v48 v50 _ hw) gL_law_X7_setWater rfl pd_X7_setWater ⟨Nat.le_of_ble_eq_true rfl, Nat.le_of_ble_eq_true rfl⟩ rfl (Nat.le_of_ble_eq_true rfl) ⟨by show _ ≤ 601024; omega, by show _ ≤ 7293034; omega⟩ f53x rfl (fun v9 h55 hv => ?_)
  obtain ⟨r54, rfl, hw⟩ := hv
  refine xr_istore S [(6, .int r54), (5, .int r45), (0, .ref b), (1, .ref l1), (2, .ref l2), (3, .ref l3), (4, .int l4)] dL_law_299 (by decide) rfl ?_
  refine xr_aload_n S 4 dL_law_301 rfl ?_
  obtain ⟨e57, hw⟩ := hw
  obtain ⟨f58, f58x⟩ := id e57
  refine xr_callV S 8 [] [] dL_law_302 (k_X7_thrown l (xdc X) h55 l2 _ hw) gL_law_X7_thrown rfl pd_X7_thrown ⟨Nat.le_of_ble_eq_true rfl, Nat.le_of_ble_eq_true rfl⟩ rfl (Nat.le_of_ble_eq_true rfl) ⟨by show _ ≤ 601024; omega, by show _ ≤ 7293034; omega⟩ f58x rfl (fun v9 h61 hv => ?_)
  obtain ⟨r59, rfl, rfl, hw⟩ := hv
  refine xr_iload S 1 dL_law_305 rfl ?_
  refine xw_icmp_eq S 312 dL_law_307 (by decide) hw (fun c hw => ?_) (fun c hw => ?_)
  · refine xr_iload S 1 dL_law_312 rfl ?_
    refine xw_if_ne S 329 dL_law_314 (by decide) hw (fun c hw => ?_) (fun c hw => ?_)
    · refine xr_goto S (tgt := 1494) dL_law_329 (by decide) ?_
      refine xr_widen S (k := cells + 64) (n := slots + 1500) (by omega) (by omega) ?_
      refine xr_sub S [(0, .ref b), (1, .ref l1), (2, .ref l2), (3, .ref l3), (4, .int l4)] [2, 3, 4, 5, 6] rfl ?_
      exact hr h55 hw
    · refine xr_aload_n S 5 dL_law_317 rfl ?_
      refine xr_iconst S (0) dL_law_318 (by decide) ?_
      refine xw_lald S dL_law_319 hw (fun v62 hw => ?_)
      refine xr_iload S 0 dL_law_320 rfl ?_
      refine xr_i2l S dL_law_322 ?_
      refine xr_lcmp S dL_law_323 ?_
      refine xw_if_eq S 329 dL_law_324 (by decide) hw (fun c hw => ?_) (fun c hw => ?_)
      · refine xr_goto S (tgt := 1494) dL_law_329 (by decide) ?_
        refine xr_widen S (k := cells + 64) (n := slots + 1500) (by omega) (by omega) ?_
        refine xr_sub S [(0, .ref b), (1, .ref l1), (2, .ref l2), (3, .ref l3), (4, .int l4)] [2, 3, 4, 5, 6] rfl ?_
        exact hr h55 hw
      · refine xr_iconst S (0) dL_law_327 (by decide) ?_
        exact hw.elim
  · refine xr_iconst S (0) dL_law_310 (by decide) ?_
    exact hw.elim
def w_L_law_c3 (dc : Nat × Nat) (L : Nat) (xs : Nat → Int32) (h : XH) (l1 l2 l3 : Nat) (l4 : Int32) (rec : XH → Prop) : Prop :=
  wScr L xs (l4 + 1) (fun v63 => wScr L xs (l4 + 2) (fun v65 => w_L_addBerth dc h l1 v63 v65 l3 (fun r67 h68 => wScr L xs (l4 + 1) (fun v70 => wScr L xs (l4 + 2) (fun v72 => wO h68 l2 8 ( w_X7_addBerth dc h68 l2 v70 v72 (fun r76 h77 => wO h77 l2 8 ( w_X7_thrown dc h77 l2 (fun r81 => wIf (r81 = r67) (wIf (r67 = 0) (wAL h77 l3 0 (fun v84 => wIf ((lg_cmp v84 r76.toInt64) = 0) (rec h77) (False))) (rec h77)) (False))))))))))
set_option maxRecDepth 100000 in
set_option maxHeartbeats 4000000 in
theorem k_L_law_c3 {V : XVT} {X : XC} {l : Launch} (hfl : l.stackTraces = false) {nm : String} {b L : Nat} {xs : Nat → Int32} (SL0 : xLaw V X l nm wsL_law b L xs) (cells slots : Nat) (hc : cells + 64 ≤ 601024) (hs : slots + 1500 ≤ 7293034) (h : XH) (l1 l2 l3 : Nat) (l4 : Int32) (rec : XH → Prop) (hr : ∀ h' : XH, rec h' → V (cells + 64) (slots + 1500) h' 1494 [(0, .ref b), (1, .ref l1), (2, .ref l2), (3, .ref l3), (4, .int l4)] []) (hw : w_L_law_c3 (xdc X) L xs h l1 l2 l3 l4 rec) : V cells slots h 332 [(0, .ref b), (1, .ref l1), (2, .ref l2), (3, .ref l3), (4, .int l4)] [] := by
  obtain ⟨S, EL, SLN, SC, DC⟩ := id SL0
  refine xr_aload_n S 1 dL_law_332 rfl ?_
  refine xr_aload_n S 0 dL_law_333 rfl ?_
  refine xr_iload S 4 dL_law_334 rfl ?_
  refine xr_iconst S (1) dL_law_336 (by decide) ?_
  refine xr_iadd S dL_law_337 ?_
  obtain ⟨hi64, hw⟩ := hw
  refine SC _ _ _ _ _ _ _ dL_law_338 hi64 ?_
  generalize xs (Int32.toNatClampNeg (l4 + 1)) = v63 at hw ⊢
  refine xr_aload_n S 0 dL_law_339 rfl ?_
  refine xr_iload S 4 dL_law_340 rfl ?_
  refine xr_iconst S (2) dL_law_342 (by decide) ?_
  refine xr_iadd S dL_law_343 ?_
  obtain ⟨hi66, hw⟩ := hw
  refine SC _ _ _ _ _ _ _ dL_law_344 hi66 ?_
  generalize xs (Int32.toNatClampNeg (l4 + 2)) = v65 at hw ⊢
  refine xr_aload_n S 3 dL_law_345 rfl ?_
  refine xr_callSW S [.ref l1, .int v63, .int v65, .ref l3] [] dL_law_346 (k_L_addBerth l hfl (xdc X) h l1 v63 v65 l3 _ hw) gL_law_L_addBerth rfl pd_L_addBerth ⟨Nat.le_of_ble_eq_true rfl, Nat.le_of_ble_eq_true rfl⟩ rfl (Nat.le_of_ble_eq_true rfl) ⟨by show _ ≤ 601024; omega, by show _ ≤ 7293034; omega⟩ (fun v9 h68 hv => ?_)
  obtain ⟨r67, rfl, hw⟩ := hv
  refine xr_istore S [(5, .int r67), (0, .ref b), (1, .ref l1), (2, .ref l2), (3, .ref l3), (4, .int l4)] dL_law_349 (by decide) rfl ?_
  refine xr_aload_n S 3 dL_law_351 rfl ?_
  refine xr_aload_n S 1 dL_law_352 rfl ?_
  refine xr_iload S 5 dL_law_353 rfl ?_
  refine xr_iconst S (1) dL_law_355 (by decide) ?_
  refine xr_iadd S dL_law_356 ?_
  obtain ⟨hi71, hw⟩ := hw
  refine SC _ _ _ _ _ _ _ dL_law_357 hi71 ?_
  generalize xs (Int32.toNatClampNeg (l4 + 1)) = v70 at hw ⊢
  refine xr_aload_n S 1 dL_law_358 rfl ?_
  refine xr_iload S 5 dL_law_359 rfl ?_
  refine xr_iconst S (2) dL_law_361 (by decide) ?_
  refine xr_iadd S dL_law_362 ?_
  obtain ⟨hi73, hw⟩ := hw
  refine SC _ _ _ _ _ _ _ dL_law_363 hi73 ?_
  generalize xs (Int32.toNatClampNeg (l4 + 2)) = v72 at hw ⊢
  obtain ⟨e74, hw⟩ := hw
  obtain ⟨f75, f75x⟩ := id e74
  refine xr_callV S 8 [.int v70, .int v72] [] dL_law_364 (k_X7_addBerth l (xdc X) h68 l2 v70 v72 _ hw) gL_law_X7_addBerth rfl pd_X7_addBerth ⟨Nat.le_of_ble_eq_true rfl, Nat.le_of_ble_eq_true rfl⟩ rfl (Nat.le_of_ble_eq_true rfl) ⟨by show _ ≤ 601024; omega, by show _ ≤ 7293034; omega⟩ f75x rfl (fun v9 h77 hv => ?_)
  obtain ⟨r76, rfl, hw⟩ := hv
  refine xr_istore S [(6, .int r76), (5, .int r67), (0, .ref b), (1, .ref l1), (2, .ref l2), (3, .ref l3), (4, .int l4)] dL_law_367 (by decide) rfl ?_
  refine xr_aload_n S 4 dL_law_369 rfl ?_
  obtain ⟨e79, hw⟩ := hw
  obtain ⟨f80, f80x⟩ := id e79
  refine xr_callV S 8 [] [] dL_law_370 (k_X7_thrown l (xdc X) h77 l2 _ hw) gL_law_X7_thrown rfl pd_X7_thrown ⟨Nat.le_of_ble_eq_true rfl, Nat.le_of_ble_eq_true rfl⟩ rfl (Nat.le_of_ble_eq_true rfl) ⟨by show _ ≤ 601024; omega, by show _ ≤ 7293034; omega⟩ f80x rfl (fun v9 h83 hv => ?_)
  obtain ⟨r81, rfl, rfl, hw⟩ := hv
  refine xr_iload S 1 dL_law_373 rfl ?_
  refine xw_icmp_eq S 380 dL_law_375 (by decide) hw (fun c hw => ?_) (fun c hw => ?_)
  · refine xr_iload S 1 dL_law_380 rfl ?_
    refine xw_if_ne S 397 dL_law_382 (by decide) hw (fun c hw => ?_) (fun c hw => ?_)
    · refine xr_goto S (tgt := 1494) dL_law_397 (by decide) ?_
      refine xr_widen S (k := cells + 64) (n := slots + 1500) (by omega) (by omega) ?_
      refine xr_sub S [(0, .ref b), (1, .ref l1), (2, .ref l2), (3, .ref l3), (4, .int l4)] [2, 3, 4, 5, 6] rfl ?_
      exact hr h77 hw
    · refine xr_aload_n S 5 dL_law_385 rfl ?_
      refine xr_iconst S (0) dL_law_386 (by decide) ?_
      refine xw_lald S dL_law_387 hw (fun v84 hw => ?_)
      refine xr_iload S 0 dL_law_388 rfl ?_
      refine xr_i2l S dL_law_390 ?_
      refine xr_lcmp S dL_law_391 ?_
      refine xw_if_eq S 397 dL_law_392 (by decide) hw (fun c hw => ?_) (fun c hw => ?_)
      · refine xr_goto S (tgt := 1494) dL_law_397 (by decide) ?_
        refine xr_widen S (k := cells + 64) (n := slots + 1500) (by omega) (by omega) ?_
        refine xr_sub S [(0, .ref b), (1, .ref l1), (2, .ref l2), (3, .ref l3), (4, .int l4)] [2, 3, 4, 5, 6] rfl ?_
        exact hr h77 hw
      · refine xr_iconst S (0) dL_law_395 (by decide) ?_
        exact hw.elim
  · refine xr_iconst S (0) dL_law_378 (by decide) ?_
    exact hw.elim
def w_L_law_c4 (dc : Nat × Nat) (L : Nat) (xs : Nat → Int32) (h : XH) (l1 l2 l3 : Nat) (l4 : Int32) (rec : XH → Prop) : Prop :=
  wScr L xs (l4 + 1) (fun v85 => wScr L xs (l4 + 2) (fun v87 => w_L_addShip dc h l1 v85 v87 l3 (fun r89 h90 => wScr L xs (l4 + 1) (fun v92 => wScr L xs (l4 + 2) (fun v94 => wO h90 l2 8 ( w_X7_addShip dc h90 l2 v92 v94 (fun r98 h99 => wO h99 l2 8 ( w_X7_thrown dc h99 l2 (fun r103 => wIf (r103 = r89) (wIf (r89 = 0) (wAL h99 l3 0 (fun v106 => wIf ((lg_cmp v106 r98.toInt64) = 0) (rec h99) (False))) (rec h99)) (False))))))))))
set_option maxRecDepth 100000 in
set_option maxHeartbeats 4000000 in
theorem k_L_law_c4 {V : XVT} {X : XC} {l : Launch} (hfl : l.stackTraces = false) {nm : String} {b L : Nat} {xs : Nat → Int32} (SL0 : xLaw V X l nm wsL_law b L xs) (cells slots : Nat) (hc : cells + 64 ≤ 601024) (hs : slots + 1500 ≤ 7293034) (h : XH) (l1 l2 l3 : Nat) (l4 : Int32) (rec : XH → Prop) (hr : ∀ h' : XH, rec h' → V (cells + 64) (slots + 1500) h' 1494 [(0, .ref b), (1, .ref l1), (2, .ref l2), (3, .ref l3), (4, .int l4)] []) (hw : w_L_law_c4 (xdc X) L xs h l1 l2 l3 l4 rec) : V cells slots h 400 [(0, .ref b), (1, .ref l1), (2, .ref l2), (3, .ref l3), (4, .int l4)] [] := by
  obtain ⟨S, EL, SLN, SC, DC⟩ := id SL0
  refine xr_aload_n S 1 dL_law_400 rfl ?_
  refine xr_aload_n S 0 dL_law_401 rfl ?_
  refine xr_iload S 4 dL_law_402 rfl ?_
  refine xr_iconst S (1) dL_law_404 (by decide) ?_
  refine xr_iadd S dL_law_405 ?_
  obtain ⟨hi86, hw⟩ := hw
  refine SC _ _ _ _ _ _ _ dL_law_406 hi86 ?_
  generalize xs (Int32.toNatClampNeg (l4 + 1)) = v85 at hw ⊢
  refine xr_aload_n S 0 dL_law_407 rfl ?_
  refine xr_iload S 4 dL_law_408 rfl ?_
  refine xr_iconst S (2) dL_law_410 (by decide) ?_
  refine xr_iadd S dL_law_411 ?_
  obtain ⟨hi88, hw⟩ := hw
  refine SC _ _ _ _ _ _ _ dL_law_412 hi88 ?_
  generalize xs (Int32.toNatClampNeg (l4 + 2)) = v87 at hw ⊢
  refine xr_aload_n S 3 dL_law_413 rfl ?_
  refine xr_callSW S [.ref l1, .int v85, .int v87, .ref l3] [] dL_law_414 (k_L_addShip l hfl (xdc X) h l1 v85 v87 l3 _ hw) gL_law_L_addShip rfl pd_L_addShip ⟨Nat.le_of_ble_eq_true rfl, Nat.le_of_ble_eq_true rfl⟩ rfl (Nat.le_of_ble_eq_true rfl) ⟨by show _ ≤ 601024; omega, by show _ ≤ 7293034; omega⟩ (fun v9 h90 hv => ?_)
  obtain ⟨r89, rfl, hw⟩ := hv
  refine xr_istore S [(5, .int r89), (0, .ref b), (1, .ref l1), (2, .ref l2), (3, .ref l3), (4, .int l4)] dL_law_417 (by decide) rfl ?_
  refine xr_aload_n S 3 dL_law_419 rfl ?_
  refine xr_aload_n S 1 dL_law_420 rfl ?_
  refine xr_iload S 5 dL_law_421 rfl ?_
  refine xr_iconst S (1) dL_law_423 (by decide) ?_
  refine xr_iadd S dL_law_424 ?_
  obtain ⟨hi93, hw⟩ := hw
  refine SC _ _ _ _ _ _ _ dL_law_425 hi93 ?_
  generalize xs (Int32.toNatClampNeg (l4 + 1)) = v92 at hw ⊢
  refine xr_aload_n S 1 dL_law_426 rfl ?_
  refine xr_iload S 5 dL_law_427 rfl ?_
  refine xr_iconst S (2) dL_law_429 (by decide) ?_
  refine xr_iadd S dL_law_430 ?_
  obtain ⟨hi95, hw⟩ := hw
  refine SC _ _ _ _ _ _ _ dL_law_431 hi95 ?_
  generalize xs (Int32.toNatClampNeg (l4 + 2)) = v94 at hw ⊢
  obtain ⟨e96, hw⟩ := hw
  obtain ⟨f97, f97x⟩ := id e96
  refine xr_callV S 8 [.int v92, .int v94] [] dL_law_432 (k_X7_addShip l (xdc X) h90 l2 v92 v94 _ hw) gL_law_X7_addShip rfl pd_X7_addShip ⟨Nat.le_of_ble_eq_true rfl, Nat.le_of_ble_eq_true rfl⟩ rfl (Nat.le_of_ble_eq_true rfl) ⟨by show _ ≤ 601024; omega, by show _ ≤ 7293034; omega⟩ f97x rfl (fun v9 h99 hv => ?_)
  obtain ⟨r98, rfl, hw⟩ := hv
  refine xr_istore S [(6, .int r98), (5, .int r89), (0, .ref b), (1, .ref l1), (2, .ref l2), (3, .ref l3), (4, .int l4)] dL_law_435 (by decide) rfl ?_
  refine xr_aload_n S 4 dL_law_437 rfl ?_
  obtain ⟨e101, hw⟩ := hw
  obtain ⟨f102, f102x⟩ := id e101
  refine xr_callV S 8 [] [] dL_law_438 (k_X7_thrown l (xdc X) h99 l2 _ hw) gL_law_X7_thrown rfl pd_X7_thrown ⟨Nat.le_of_ble_eq_true rfl, Nat.le_of_ble_eq_true rfl⟩ rfl (Nat.le_of_ble_eq_true rfl) ⟨by show _ ≤ 601024; omega, by show _ ≤ 7293034; omega⟩ f102x rfl (fun v9 h105 hv => ?_)
  obtain ⟨r103, rfl, rfl, hw⟩ := hv
  refine xr_iload S 1 dL_law_441 rfl ?_
  refine xw_icmp_eq S 448 dL_law_443 (by decide) hw (fun c hw => ?_) (fun c hw => ?_)
  · refine xr_iload S 1 dL_law_448 rfl ?_
    refine xw_if_ne S 465 dL_law_450 (by decide) hw (fun c hw => ?_) (fun c hw => ?_)
    · refine xr_goto S (tgt := 1494) dL_law_465 (by decide) ?_
      refine xr_widen S (k := cells + 64) (n := slots + 1500) (by omega) (by omega) ?_
      refine xr_sub S [(0, .ref b), (1, .ref l1), (2, .ref l2), (3, .ref l3), (4, .int l4)] [2, 3, 4, 5, 6] rfl ?_
      exact hr h99 hw
    · refine xr_aload_n S 5 dL_law_453 rfl ?_
      refine xr_iconst S (0) dL_law_454 (by decide) ?_
      refine xw_lald S dL_law_455 hw (fun v106 hw => ?_)
      refine xr_iload S 0 dL_law_456 rfl ?_
      refine xr_i2l S dL_law_458 ?_
      refine xr_lcmp S dL_law_459 ?_
      refine xw_if_eq S 465 dL_law_460 (by decide) hw (fun c hw => ?_) (fun c hw => ?_)
      · refine xr_goto S (tgt := 1494) dL_law_465 (by decide) ?_
        refine xr_widen S (k := cells + 64) (n := slots + 1500) (by omega) (by omega) ?_
        refine xr_sub S [(0, .ref b), (1, .ref l1), (2, .ref l2), (3, .ref l3), (4, .int l4)] [2, 3, 4, 5, 6] rfl ?_
        exact hr h99 hw
      · refine xr_iconst S (0) dL_law_463 (by decide) ?_
        exact hw.elim
  · refine xr_iconst S (0) dL_law_446 (by decide) ?_
    exact hw.elim
def w_L_law_c5 (dc : Nat × Nat) (L : Nat) (xs : Nat → Int32) (h : XH) (l1 l2 l3 : Nat) (l4 : Int32) (rec : XH → Prop) : Prop :=
  wScr L xs (l4 + 1) (fun v107 => wScr L xs (l4 + 2) (fun v109 => w_L_load dc h l1 v107 v109 l3 (fun r111 h112 => wScr L xs (l4 + 1) (fun v114 => wScr L xs (l4 + 2) (fun v116 => wO h112 l2 8 ( w_X7_load dc h112 l2 v114 v116 (fun r120 h121 => wO h121 l2 8 ( w_X7_thrown dc h121 l2 (fun r125 => wIf (r125 = r111) (wIf (r111 = 0) (wAL h121 l3 0 (fun v128 => wIf ((lg_cmp v128 r120.toInt64) = 0) (rec h121) (False))) (rec h121)) (False))))))))))
set_option maxRecDepth 100000 in
set_option maxHeartbeats 4000000 in
theorem k_L_law_c5 {V : XVT} {X : XC} {l : Launch} (hfl : l.stackTraces = false) {nm : String} {b L : Nat} {xs : Nat → Int32} (SL0 : xLaw V X l nm wsL_law b L xs) (cells slots : Nat) (hc : cells + 64 ≤ 601024) (hs : slots + 1500 ≤ 7293034) (h : XH) (l1 l2 l3 : Nat) (l4 : Int32) (rec : XH → Prop) (hr : ∀ h' : XH, rec h' → V (cells + 64) (slots + 1500) h' 1494 [(0, .ref b), (1, .ref l1), (2, .ref l2), (3, .ref l3), (4, .int l4)] []) (hw : w_L_law_c5 (xdc X) L xs h l1 l2 l3 l4 rec) : V cells slots h 468 [(0, .ref b), (1, .ref l1), (2, .ref l2), (3, .ref l3), (4, .int l4)] [] := by
  obtain ⟨S, EL, SLN, SC, DC⟩ := id SL0
  refine xr_aload_n S 1 dL_law_468 rfl ?_
  refine xr_aload_n S 0 dL_law_469 rfl ?_
  refine xr_iload S 4 dL_law_470 rfl ?_
  refine xr_iconst S (1) dL_law_472 (by decide) ?_
  refine xr_iadd S dL_law_473 ?_
  obtain ⟨hi108, hw⟩ := hw
  refine SC _ _ _ _ _ _ _ dL_law_474 hi108 ?_
  generalize xs (Int32.toNatClampNeg (l4 + 1)) = v107 at hw ⊢
  refine xr_aload_n S 0 dL_law_475 rfl ?_
  refine xr_iload S 4 dL_law_476 rfl ?_
  refine xr_iconst S (2) dL_law_478 (by decide) ?_
  refine xr_iadd S dL_law_479 ?_
  obtain ⟨hi110, hw⟩ := hw
  refine SC _ _ _ _ _ _ _ dL_law_480 hi110 ?_
  generalize xs (Int32.toNatClampNeg (l4 + 2)) = v109 at hw ⊢
  refine xr_aload_n S 3 dL_law_481 rfl ?_
  refine xr_callSW S [.ref l1, .int v107, .int v109, .ref l3] [] dL_law_482 (k_L_load l hfl (xdc X) h l1 v107 v109 l3 _ hw) gL_law_L_load rfl pd_L_load ⟨Nat.le_of_ble_eq_true rfl, Nat.le_of_ble_eq_true rfl⟩ rfl (Nat.le_of_ble_eq_true rfl) ⟨by show _ ≤ 601024; omega, by show _ ≤ 7293034; omega⟩ (fun v9 h112 hv => ?_)
  obtain ⟨r111, rfl, hw⟩ := hv
  refine xr_istore S [(5, .int r111), (0, .ref b), (1, .ref l1), (2, .ref l2), (3, .ref l3), (4, .int l4)] dL_law_485 (by decide) rfl ?_
  refine xr_aload_n S 3 dL_law_487 rfl ?_
  refine xr_aload_n S 1 dL_law_488 rfl ?_
  refine xr_iload S 5 dL_law_489 rfl ?_
  refine xr_iconst S (1) dL_law_491 (by decide) ?_
  refine xr_iadd S dL_law_492 ?_
  obtain ⟨hi115, hw⟩ := hw
  refine SC _ _ _ _ _ _ _ dL_law_493 hi115 ?_
  generalize xs (Int32.toNatClampNeg (l4 + 1)) = v114 at hw ⊢
  refine xr_aload_n S 1 dL_law_494 rfl ?_
  refine xr_iload S 5 dL_law_495 rfl ?_
  refine xr_iconst S (2) dL_law_497 (by decide) ?_
  refine xr_iadd S dL_law_498 ?_
  obtain ⟨hi117, hw⟩ := hw
  refine SC _ _ _ _ _ _ _ dL_law_499 hi117 ?_
  generalize xs (Int32.toNatClampNeg (l4 + 2)) = v116 at hw ⊢
  obtain ⟨e118, hw⟩ := hw
  obtain ⟨f119, f119x⟩ := id e118
  refine xr_callV S 8 [.int v114, .int v116] [] dL_law_500 (k_X7_load l (xdc X) h112 l2 v114 v116 _ hw) gL_law_X7_load rfl pd_X7_load ⟨Nat.le_of_ble_eq_true rfl, Nat.le_of_ble_eq_true rfl⟩ rfl (Nat.le_of_ble_eq_true rfl) ⟨by show _ ≤ 601024; omega, by show _ ≤ 7293034; omega⟩ f119x rfl (fun v9 h121 hv => ?_)
  obtain ⟨r120, rfl, hw⟩ := hv
  refine xr_istore S [(6, .int r120), (5, .int r111), (0, .ref b), (1, .ref l1), (2, .ref l2), (3, .ref l3), (4, .int l4)] dL_law_503 (by decide) rfl ?_
  refine xr_aload_n S 4 dL_law_505 rfl ?_
  obtain ⟨e123, hw⟩ := hw
  obtain ⟨f124, f124x⟩ := id e123
  refine xr_callV S 8 [] [] dL_law_506 (k_X7_thrown l (xdc X) h121 l2 _ hw) gL_law_X7_thrown rfl pd_X7_thrown ⟨Nat.le_of_ble_eq_true rfl, Nat.le_of_ble_eq_true rfl⟩ rfl (Nat.le_of_ble_eq_true rfl) ⟨by show _ ≤ 601024; omega, by show _ ≤ 7293034; omega⟩ f124x rfl (fun v9 h127 hv => ?_)
  obtain ⟨r125, rfl, rfl, hw⟩ := hv
  refine xr_iload S 1 dL_law_509 rfl ?_
  refine xw_icmp_eq S 516 dL_law_511 (by decide) hw (fun c hw => ?_) (fun c hw => ?_)
  · refine xr_iload S 1 dL_law_516 rfl ?_
    refine xw_if_ne S 533 dL_law_518 (by decide) hw (fun c hw => ?_) (fun c hw => ?_)
    · refine xr_goto S (tgt := 1494) dL_law_533 (by decide) ?_
      refine xr_widen S (k := cells + 64) (n := slots + 1500) (by omega) (by omega) ?_
      refine xr_sub S [(0, .ref b), (1, .ref l1), (2, .ref l2), (3, .ref l3), (4, .int l4)] [2, 3, 4, 5, 6] rfl ?_
      exact hr h121 hw
    · refine xr_aload_n S 5 dL_law_521 rfl ?_
      refine xr_iconst S (0) dL_law_522 (by decide) ?_
      refine xw_lald S dL_law_523 hw (fun v128 hw => ?_)
      refine xr_iload S 0 dL_law_524 rfl ?_
      refine xr_i2l S dL_law_526 ?_
      refine xr_lcmp S dL_law_527 ?_
      refine xw_if_eq S 533 dL_law_528 (by decide) hw (fun c hw => ?_) (fun c hw => ?_)
      · refine xr_goto S (tgt := 1494) dL_law_533 (by decide) ?_
        refine xr_widen S (k := cells + 64) (n := slots + 1500) (by omega) (by omega) ?_
        refine xr_sub S [(0, .ref b), (1, .ref l1), (2, .ref l2), (3, .ref l3), (4, .int l4)] [2, 3, 4, 5, 6] rfl ?_
        exact hr h121 hw
      · refine xr_iconst S (0) dL_law_531 (by decide) ?_
        exact hw.elim
  · refine xr_iconst S (0) dL_law_514 (by decide) ?_
    exact hw.elim
def w_L_law_c6 (dc : Nat × Nat) (L : Nat) (xs : Nat → Int32) (h : XH) (l1 l2 l3 : Nat) (l4 : Int32) (rec : XH → Prop) : Prop :=
  wScr L xs (l4 + 1) (fun v129 => wScr L xs (l4 + 2) (fun v131 => wIf (v131 = 0) (w_L_addPilot dc h l1 v129 0 l3 (fun r133 h134 => wScr L xs (l4 + 1) (fun v136 => wScr L xs (l4 + 2) (fun v138 => wIf (v138 = 0) (wO h134 l2 8 ( w_X7_addPilot dc h134 l2 v136 0 (fun r142 h143 => wO h143 l2 8 ( w_X7_thrown dc h143 l2 (fun r147 => wIf (r147 = r133) (wIf (r133 = 0) (wAL h143 l3 0 (fun v150 => wIf ((lg_cmp v150 r142.toInt64) = 0) (rec h143) (False))) (rec h143)) (False)))))) (wO h134 l2 8 ( w_X7_addPilot dc h134 l2 v136 1 (fun r153 h154 => wO h154 l2 8 ( w_X7_thrown dc h154 l2 (fun r158 => wIf (r158 = r133) (wIf (r133 = 0) (wAL h154 l3 0 (fun v161 => wIf ((lg_cmp v161 r153.toInt64) = 0) (rec h154) (False))) (rec h154)) (False)))))))))) (w_L_addPilot dc h l1 v129 1 l3 (fun r162 h163 => wScr L xs (l4 + 1) (fun v165 => wScr L xs (l4 + 2) (fun v167 => wIf (v167 = 0) (wO h163 l2 8 ( w_X7_addPilot dc h163 l2 v165 0 (fun r171 h172 => wO h172 l2 8 ( w_X7_thrown dc h172 l2 (fun r176 => wIf (r176 = r162) (wIf (r162 = 0) (wAL h172 l3 0 (fun v179 => wIf ((lg_cmp v179 r171.toInt64) = 0) (rec h172) (False))) (rec h172)) (False)))))) (wO h163 l2 8 ( w_X7_addPilot dc h163 l2 v165 1 (fun r182 h183 => wO h183 l2 8 ( w_X7_thrown dc h183 l2 (fun r187 => wIf (r187 = r162) (wIf (r162 = 0) (wAL h183 l3 0 (fun v190 => wIf ((lg_cmp v190 r182.toInt64) = 0) (rec h183) (False))) (rec h183)) (False))))))))))))
set_option maxRecDepth 100000 in
set_option maxHeartbeats 4000000 in
theorem k_L_law_c6 {V : XVT} {X : XC} {l : Launch} (hfl : l.stackTraces = false) {nm : String} {b L : Nat} {xs : Nat → Int32} (SL0 : xLaw V X l nm wsL_law b L xs) (cells slots : Nat) (hc : cells + 64 ≤ 601024) (hs : slots + 1500 ≤ 7293034) (h : XH) (l1 l2 l3 : Nat) (l4 : Int32) (rec : XH → Prop) (hr : ∀ h' : XH, rec h' → V (cells + 64) (slots + 1500) h' 1494 [(0, .ref b), (1, .ref l1), (2, .ref l2), (3, .ref l3), (4, .int l4)] []) (hw : w_L_law_c6 (xdc X) L xs h l1 l2 l3 l4 rec) : V cells slots h 536 [(0, .ref b), (1, .ref l1), (2, .ref l2), (3, .ref l3), (4, .int l4)] [] := by
  obtain ⟨S, EL, SLN, SC, DC⟩ := id SL0
  refine xr_aload_n S 1 dL_law_536 rfl ?_
  refine xr_aload_n S 0 dL_law_537 rfl ?_
  refine xr_iload S 4 dL_law_538 rfl ?_
  refine xr_iconst S (1) dL_law_540 (by decide) ?_
  refine xr_iadd S dL_law_541 ?_
  obtain ⟨hi130, hw⟩ := hw
  refine SC _ _ _ _ _ _ _ dL_law_542 hi130 ?_
  generalize xs (Int32.toNatClampNeg (l4 + 1)) = v129 at hw ⊢
  refine xr_aload_n S 0 dL_law_543 rfl ?_
  refine xr_iload S 4 dL_law_544 rfl ?_
  refine xr_iconst S (2) dL_law_546 (by decide) ?_
  refine xr_iadd S dL_law_547 ?_
  obtain ⟨hi132, hw⟩ := hw
  refine SC _ _ _ _ _ _ _ dL_law_548 hi132 ?_
  generalize xs (Int32.toNatClampNeg (l4 + 2)) = v131 at hw ⊢
  refine xw_if_eq S 556 dL_law_549 (by decide) hw (fun c hw => ?_) (fun c hw => ?_)
  · refine xr_iconst S (0) dL_law_556 (by decide) ?_
    refine xr_aload_n S 3 dL_law_557 rfl ?_
    refine xr_callSW S [.ref l1, .int v129, .int 0, .ref l3] [] dL_law_558 (k_L_addPilot l hfl (xdc X) h l1 v129 0 l3 _ hw) gL_law_L_addPilot rfl pd_L_addPilot ⟨Nat.le_of_ble_eq_true rfl, Nat.le_of_ble_eq_true rfl⟩ rfl (Nat.le_of_ble_eq_true rfl) ⟨by show _ ≤ 601024; omega, by show _ ≤ 7293034; omega⟩ (fun v9 h134 hv => ?_)
    obtain ⟨r133, rfl, hw⟩ := hv
    refine xr_istore S [(5, .int r133), (0, .ref b), (1, .ref l1), (2, .ref l2), (3, .ref l3), (4, .int l4)] dL_law_561 (by decide) rfl ?_
    refine xr_aload_n S 3 dL_law_563 rfl ?_
    refine xr_aload_n S 1 dL_law_564 rfl ?_
    refine xr_iload S 5 dL_law_565 rfl ?_
    refine xr_iconst S (1) dL_law_567 (by decide) ?_
    refine xr_iadd S dL_law_568 ?_
    obtain ⟨hi137, hw⟩ := hw
    refine SC _ _ _ _ _ _ _ dL_law_569 hi137 ?_
    generalize xs (Int32.toNatClampNeg (l4 + 1)) = v136 at hw ⊢
    refine xr_aload_n S 1 dL_law_570 rfl ?_
    refine xr_iload S 5 dL_law_571 rfl ?_
    refine xr_iconst S (2) dL_law_573 (by decide) ?_
    refine xr_iadd S dL_law_574 ?_
    obtain ⟨hi139, hw⟩ := hw
    refine SC _ _ _ _ _ _ _ dL_law_575 hi139 ?_
    generalize xs (Int32.toNatClampNeg (l4 + 2)) = v138 at hw ⊢
    refine xw_if_eq S 583 dL_law_576 (by decide) hw (fun c hw => ?_) (fun c hw => ?_)
    · refine xr_iconst S (0) dL_law_583 (by decide) ?_
      obtain ⟨e140, hw⟩ := hw
      obtain ⟨f141, f141x⟩ := id e140
      refine xr_callV S 8 [.int v136, .int 0] [] dL_law_584 (k_X7_addPilot l (xdc X) h134 l2 v136 0 _ hw) gL_law_X7_addPilot rfl pd_X7_addPilot ⟨Nat.le_of_ble_eq_true rfl, Nat.le_of_ble_eq_true rfl⟩ rfl (Nat.le_of_ble_eq_true rfl) ⟨by show _ ≤ 601024; omega, by show _ ≤ 7293034; omega⟩ f141x rfl (fun v9 h143 hv => ?_)
      obtain ⟨r142, rfl, hw⟩ := hv
      refine xr_istore S [(6, .int r142), (5, .int r133), (0, .ref b), (1, .ref l1), (2, .ref l2), (3, .ref l3), (4, .int l4)] dL_law_587 (by decide) rfl ?_
      refine xr_aload_n S 4 dL_law_589 rfl ?_
      obtain ⟨e145, hw⟩ := hw
      obtain ⟨f146, f146x⟩ := id e145
      refine xr_callV S 8 [] [] dL_law_590 (k_X7_thrown l (xdc X) h143 l2 _ hw) gL_law_X7_thrown rfl pd_X7_thrown ⟨Nat.le_of_ble_eq_true rfl, Nat.le_of_ble_eq_true rfl⟩ rfl (Nat.le_of_ble_eq_true rfl) ⟨by show _ ≤ 601024; omega, by show _ ≤ 7293034; omega⟩ f146x rfl (fun v9 h149 hv => ?_)
      obtain ⟨r147, rfl, rfl, hw⟩ := hv
      refine xr_iload S 1 dL_law_593 rfl ?_
      refine xw_icmp_eq S 600 dL_law_595 (by decide) hw (fun c hw => ?_) (fun c hw => ?_)
      · refine xr_iload S 1 dL_law_600 rfl ?_
        refine xw_if_ne S 617 dL_law_602 (by decide) hw (fun c hw => ?_) (fun c hw => ?_)
        · refine xr_goto S (tgt := 1494) dL_law_617 (by decide) ?_
          refine xr_widen S (k := cells + 64) (n := slots + 1500) (by omega) (by omega) ?_
          refine xr_sub S [(0, .ref b), (1, .ref l1), (2, .ref l2), (3, .ref l3), (4, .int l4)] [2, 3, 4, 5, 6] rfl ?_
          exact hr h143 hw
        · refine xr_aload_n S 5 dL_law_605 rfl ?_
          refine xr_iconst S (0) dL_law_606 (by decide) ?_
          refine xw_lald S dL_law_607 hw (fun v150 hw => ?_)
          refine xr_iload S 0 dL_law_608 rfl ?_
          refine xr_i2l S dL_law_610 ?_
          refine xr_lcmp S dL_law_611 ?_
          refine xw_if_eq S 617 dL_law_612 (by decide) hw (fun c hw => ?_) (fun c hw => ?_)
          · refine xr_goto S (tgt := 1494) dL_law_617 (by decide) ?_
            refine xr_widen S (k := cells + 64) (n := slots + 1500) (by omega) (by omega) ?_
            refine xr_sub S [(0, .ref b), (1, .ref l1), (2, .ref l2), (3, .ref l3), (4, .int l4)] [2, 3, 4, 5, 6] rfl ?_
            exact hr h143 hw
          · refine xr_iconst S (0) dL_law_615 (by decide) ?_
            exact hw.elim
      · refine xr_iconst S (0) dL_law_598 (by decide) ?_
        exact hw.elim
    · refine xr_iconst S (1) dL_law_579 (by decide) ?_
      refine xr_goto S (tgt := 584) dL_law_580 (by decide) ?_
      obtain ⟨e151, hw⟩ := hw
      obtain ⟨f152, f152x⟩ := id e151
      refine xr_callV S 8 [.int v136, .int 1] [] dL_law_584 (k_X7_addPilot l (xdc X) h134 l2 v136 1 _ hw) gL_law_X7_addPilot rfl pd_X7_addPilot ⟨Nat.le_of_ble_eq_true rfl, Nat.le_of_ble_eq_true rfl⟩ rfl (Nat.le_of_ble_eq_true rfl) ⟨by show _ ≤ 601024; omega, by show _ ≤ 7293034; omega⟩ f152x rfl (fun v9 h154 hv => ?_)
      obtain ⟨r153, rfl, hw⟩ := hv
      refine xr_istore S [(6, .int r153), (5, .int r133), (0, .ref b), (1, .ref l1), (2, .ref l2), (3, .ref l3), (4, .int l4)] dL_law_587 (by decide) rfl ?_
      refine xr_aload_n S 4 dL_law_589 rfl ?_
      obtain ⟨e156, hw⟩ := hw
      obtain ⟨f157, f157x⟩ := id e156
      refine xr_callV S 8 [] [] dL_law_590 (k_X7_thrown l (xdc X) h154 l2 _ hw) gL_law_X7_thrown rfl pd_X7_thrown ⟨Nat.le_of_ble_eq_true rfl, Nat.le_of_ble_eq_true rfl⟩ rfl (Nat.le_of_ble_eq_true rfl) ⟨by show _ ≤ 601024; omega, by show _ ≤ 7293034; omega⟩ f157x rfl (fun v9 h160 hv => ?_)
      obtain ⟨r158, rfl, rfl, hw⟩ := hv
      refine xr_iload S 1 dL_law_593 rfl ?_
      refine xw_icmp_eq S 600 dL_law_595 (by decide) hw (fun c hw => ?_) (fun c hw => ?_)
      · refine xr_iload S 1 dL_law_600 rfl ?_
        refine xw_if_ne S 617 dL_law_602 (by decide) hw (fun c hw => ?_) (fun c hw => ?_)
        · refine xr_goto S (tgt := 1494) dL_law_617 (by decide) ?_
          refine xr_widen S (k := cells + 64) (n := slots + 1500) (by omega) (by omega) ?_
          refine xr_sub S [(0, .ref b), (1, .ref l1), (2, .ref l2), (3, .ref l3), (4, .int l4)] [2, 3, 4, 5, 6] rfl ?_
          exact hr h154 hw
        · refine xr_aload_n S 5 dL_law_605 rfl ?_
          refine xr_iconst S (0) dL_law_606 (by decide) ?_
          refine xw_lald S dL_law_607 hw (fun v161 hw => ?_)
          refine xr_iload S 0 dL_law_608 rfl ?_
          refine xr_i2l S dL_law_610 ?_
          refine xr_lcmp S dL_law_611 ?_
          refine xw_if_eq S 617 dL_law_612 (by decide) hw (fun c hw => ?_) (fun c hw => ?_)
          · refine xr_goto S (tgt := 1494) dL_law_617 (by decide) ?_
            refine xr_widen S (k := cells + 64) (n := slots + 1500) (by omega) (by omega) ?_
            refine xr_sub S [(0, .ref b), (1, .ref l1), (2, .ref l2), (3, .ref l3), (4, .int l4)] [2, 3, 4, 5, 6] rfl ?_
            exact hr h154 hw
          · refine xr_iconst S (0) dL_law_615 (by decide) ?_
            exact hw.elim
      · refine xr_iconst S (0) dL_law_598 (by decide) ?_
        exact hw.elim
  · refine xr_iconst S (1) dL_law_552 (by decide) ?_
    refine xr_goto S (tgt := 557) dL_law_553 (by decide) ?_
    refine xr_aload_n S 3 dL_law_557 rfl ?_
    refine xr_callSW S [.ref l1, .int v129, .int 1, .ref l3] [] dL_law_558 (k_L_addPilot l hfl (xdc X) h l1 v129 1 l3 _ hw) gL_law_L_addPilot rfl pd_L_addPilot ⟨Nat.le_of_ble_eq_true rfl, Nat.le_of_ble_eq_true rfl⟩ rfl (Nat.le_of_ble_eq_true rfl) ⟨by show _ ≤ 601024; omega, by show _ ≤ 7293034; omega⟩ (fun v9 h163 hv => ?_)
    obtain ⟨r162, rfl, hw⟩ := hv
    refine xr_istore S [(5, .int r162), (0, .ref b), (1, .ref l1), (2, .ref l2), (3, .ref l3), (4, .int l4)] dL_law_561 (by decide) rfl ?_
    refine xr_aload_n S 3 dL_law_563 rfl ?_
    refine xr_aload_n S 1 dL_law_564 rfl ?_
    refine xr_iload S 5 dL_law_565 rfl ?_
    refine xr_iconst S (1) dL_law_567 (by decide) ?_
    refine xr_iadd S dL_law_568 ?_
    obtain ⟨hi166, hw⟩ := hw
    refine SC _ _ _ _ _ _ _ dL_law_569 hi166 ?_
    generalize xs (Int32.toNatClampNeg (l4 + 1)) = v165 at hw ⊢
    refine xr_aload_n S 1 dL_law_570 rfl ?_
    refine xr_iload S 5 dL_law_571 rfl ?_
    refine xr_iconst S (2) dL_law_573 (by decide) ?_
    refine xr_iadd S dL_law_574 ?_
    obtain ⟨hi168, hw⟩ := hw
    refine SC _ _ _ _ _ _ _ dL_law_575 hi168 ?_
    generalize xs (Int32.toNatClampNeg (l4 + 2)) = v167 at hw ⊢
    refine xw_if_eq S 583 dL_law_576 (by decide) hw (fun c hw => ?_) (fun c hw => ?_)
    · refine xr_iconst S (0) dL_law_583 (by decide) ?_
      obtain ⟨e169, hw⟩ := hw
      obtain ⟨f170, f170x⟩ := id e169
      refine xr_callV S 8 [.int v165, .int 0] [] dL_law_584 (k_X7_addPilot l (xdc X) h163 l2 v165 0 _ hw) gL_law_X7_addPilot rfl pd_X7_addPilot ⟨Nat.le_of_ble_eq_true rfl, Nat.le_of_ble_eq_true rfl⟩ rfl (Nat.le_of_ble_eq_true rfl) ⟨by show _ ≤ 601024; omega, by show _ ≤ 7293034; omega⟩ f170x rfl (fun v9 h172 hv => ?_)
      obtain ⟨r171, rfl, hw⟩ := hv
      refine xr_istore S [(6, .int r171), (5, .int r162), (0, .ref b), (1, .ref l1), (2, .ref l2), (3, .ref l3), (4, .int l4)] dL_law_587 (by decide) rfl ?_
      refine xr_aload_n S 4 dL_law_589 rfl ?_
      obtain ⟨e174, hw⟩ := hw
      obtain ⟨f175, f175x⟩ := id e174
      refine xr_callV S 8 [] [] dL_law_590 (k_X7_thrown l (xdc X) h172 l2 _ hw) gL_law_X7_thrown rfl pd_X7_thrown ⟨Nat.le_of_ble_eq_true rfl, Nat.le_of_ble_eq_true rfl⟩ rfl (Nat.le_of_ble_eq_true rfl) ⟨by show _ ≤ 601024; omega, by show _ ≤ 7293034; omega⟩ f175x rfl (fun v9 h178 hv => ?_)
      obtain ⟨r176, rfl, rfl, hw⟩ := hv
      refine xr_iload S 1 dL_law_593 rfl ?_
      refine xw_icmp_eq S 600 dL_law_595 (by decide) hw (fun c hw => ?_) (fun c hw => ?_)
      · refine xr_iload S 1 dL_law_600 rfl ?_
        refine xw_if_ne S 617 dL_law_602 (by decide) hw (fun c hw => ?_) (fun c hw => ?_)
        · refine xr_goto S (tgt := 1494) dL_law_617 (by decide) ?_
          refine xr_widen S (k := cells + 64) (n := slots + 1500) (by omega) (by omega) ?_
          refine xr_sub S [(0, .ref b), (1, .ref l1), (2, .ref l2), (3, .ref l3), (4, .int l4)] [2, 3, 4, 5, 6] rfl ?_
          exact hr h172 hw
        · refine xr_aload_n S 5 dL_law_605 rfl ?_
          refine xr_iconst S (0) dL_law_606 (by decide) ?_
          refine xw_lald S dL_law_607 hw (fun v179 hw => ?_)
          refine xr_iload S 0 dL_law_608 rfl ?_
          refine xr_i2l S dL_law_610 ?_
          refine xr_lcmp S dL_law_611 ?_
          refine xw_if_eq S 617 dL_law_612 (by decide) hw (fun c hw => ?_) (fun c hw => ?_)
          · refine xr_goto S (tgt := 1494) dL_law_617 (by decide) ?_
            refine xr_widen S (k := cells + 64) (n := slots + 1500) (by omega) (by omega) ?_
            refine xr_sub S [(0, .ref b), (1, .ref l1), (2, .ref l2), (3, .ref l3), (4, .int l4)] [2, 3, 4, 5, 6] rfl ?_
            exact hr h172 hw
          · refine xr_iconst S (0) dL_law_615 (by decide) ?_
            exact hw.elim
      · refine xr_iconst S (0) dL_law_598 (by decide) ?_
        exact hw.elim
    · refine xr_iconst S (1) dL_law_579 (by decide) ?_
      refine xr_goto S (tgt := 584) dL_law_580 (by decide) ?_
      obtain ⟨e180, hw⟩ := hw
      obtain ⟨f181, f181x⟩ := id e180
      refine xr_callV S 8 [.int v165, .int 1] [] dL_law_584 (k_X7_addPilot l (xdc X) h163 l2 v165 1 _ hw) gL_law_X7_addPilot rfl pd_X7_addPilot ⟨Nat.le_of_ble_eq_true rfl, Nat.le_of_ble_eq_true rfl⟩ rfl (Nat.le_of_ble_eq_true rfl) ⟨by show _ ≤ 601024; omega, by show _ ≤ 7293034; omega⟩ f181x rfl (fun v9 h183 hv => ?_)
      obtain ⟨r182, rfl, hw⟩ := hv
      refine xr_istore S [(6, .int r182), (5, .int r162), (0, .ref b), (1, .ref l1), (2, .ref l2), (3, .ref l3), (4, .int l4)] dL_law_587 (by decide) rfl ?_
      refine xr_aload_n S 4 dL_law_589 rfl ?_
      obtain ⟨e185, hw⟩ := hw
      obtain ⟨f186, f186x⟩ := id e185
      refine xr_callV S 8 [] [] dL_law_590 (k_X7_thrown l (xdc X) h183 l2 _ hw) gL_law_X7_thrown rfl pd_X7_thrown ⟨Nat.le_of_ble_eq_true rfl, Nat.le_of_ble_eq_true rfl⟩ rfl (Nat.le_of_ble_eq_true rfl) ⟨by show _ ≤ 601024; omega, by show _ ≤ 7293034; omega⟩ f186x rfl (fun v9 h189 hv => ?_)
      obtain ⟨r187, rfl, rfl, hw⟩ := hv
      refine xr_iload S 1 dL_law_593 rfl ?_
      refine xw_icmp_eq S 600 dL_law_595 (by decide) hw (fun c hw => ?_) (fun c hw => ?_)
      · refine xr_iload S 1 dL_law_600 rfl ?_
        refine xw_if_ne S 617 dL_law_602 (by decide) hw (fun c hw => ?_) (fun c hw => ?_)
        · refine xr_goto S (tgt := 1494) dL_law_617 (by decide) ?_
          refine xr_widen S (k := cells + 64) (n := slots + 1500) (by omega) (by omega) ?_
          refine xr_sub S [(0, .ref b), (1, .ref l1), (2, .ref l2), (3, .ref l3), (4, .int l4)] [2, 3, 4, 5, 6] rfl ?_
          exact hr h183 hw
        · refine xr_aload_n S 5 dL_law_605 rfl ?_
          refine xr_iconst S (0) dL_law_606 (by decide) ?_
          refine xw_lald S dL_law_607 hw (fun v190 hw => ?_)
          refine xr_iload S 0 dL_law_608 rfl ?_
          refine xr_i2l S dL_law_610 ?_
          refine xr_lcmp S dL_law_611 ?_
          refine xw_if_eq S 617 dL_law_612 (by decide) hw (fun c hw => ?_) (fun c hw => ?_)
          · refine xr_goto S (tgt := 1494) dL_law_617 (by decide) ?_
            refine xr_widen S (k := cells + 64) (n := slots + 1500) (by omega) (by omega) ?_
            refine xr_sub S [(0, .ref b), (1, .ref l1), (2, .ref l2), (3, .ref l3), (4, .int l4)] [2, 3, 4, 5, 6] rfl ?_
            exact hr h183 hw
          · refine xr_iconst S (0) dL_law_615 (by decide) ?_
            exact hw.elim
      · refine xr_iconst S (0) dL_law_598 (by decide) ?_
        exact hw.elim
def w_L_law_c7 (dc : Nat × Nat) (L : Nat) (xs : Nat → Int32) (h : XH) (l1 l2 l3 : Nat) (l4 : Int32) (rec : XH → Prop) : Prop :=
  wScr L xs (l4 + 1) (fun v191 => w_L_setTugs dc h l1 v191 l3 (fun r193 h194 => wScr L xs (l4 + 1) (fun v196 => wO h194 l2 8 ( w_X7_setTugs dc h194 l2 v196 (fun r200 h201 => wO h201 l2 8 ( w_X7_thrown dc h201 l2 (fun r205 => wIf (r205 = r193) (wIf (r193 = 0) (wAL h201 l3 0 (fun v208 => wIf ((lg_cmp v208 r200.toInt64) = 0) (rec h201) (False))) (rec h201)) (False))))))))
set_option maxRecDepth 100000 in
set_option maxHeartbeats 4000000 in
theorem k_L_law_c7 {V : XVT} {X : XC} {l : Launch} (hfl : l.stackTraces = false) {nm : String} {b L : Nat} {xs : Nat → Int32} (SL0 : xLaw V X l nm wsL_law b L xs) (cells slots : Nat) (hc : cells + 64 ≤ 601024) (hs : slots + 1500 ≤ 7293034) (h : XH) (l1 l2 l3 : Nat) (l4 : Int32) (rec : XH → Prop) (hr : ∀ h' : XH, rec h' → V (cells + 64) (slots + 1500) h' 1494 [(0, .ref b), (1, .ref l1), (2, .ref l2), (3, .ref l3), (4, .int l4)] []) (hw : w_L_law_c7 (xdc X) L xs h l1 l2 l3 l4 rec) : V cells slots h 620 [(0, .ref b), (1, .ref l1), (2, .ref l2), (3, .ref l3), (4, .int l4)] [] := by
  obtain ⟨S, EL, SLN, SC, DC⟩ := id SL0
  refine xr_aload_n S 1 dL_law_620 rfl ?_
  refine xr_aload_n S 0 dL_law_621 rfl ?_
  refine xr_iload S 4 dL_law_622 rfl ?_
  refine xr_iconst S (1) dL_law_624 (by decide) ?_
  refine xr_iadd S dL_law_625 ?_
  obtain ⟨hi192, hw⟩ := hw
  refine SC _ _ _ _ _ _ _ dL_law_626 hi192 ?_
  generalize xs (Int32.toNatClampNeg (l4 + 1)) = v191 at hw ⊢
  refine xr_aload_n S 3 dL_law_627 rfl ?_
  refine xr_callSW S [.ref l1, .int v191, .ref l3] [] dL_law_628 (k_L_setTugs l hfl (xdc X) h l1 v191 l3 _ hw) gL_law_L_setTugs rfl pd_L_setTugs ⟨Nat.le_of_ble_eq_true rfl, Nat.le_of_ble_eq_true rfl⟩ rfl (Nat.le_of_ble_eq_true rfl) ⟨by show _ ≤ 601024; omega, by show _ ≤ 7293034; omega⟩ (fun v9 h194 hv => ?_)
  obtain ⟨r193, rfl, hw⟩ := hv
  refine xr_istore S [(5, .int r193), (0, .ref b), (1, .ref l1), (2, .ref l2), (3, .ref l3), (4, .int l4)] dL_law_631 (by decide) rfl ?_
  refine xr_aload_n S 3 dL_law_633 rfl ?_
  refine xr_aload_n S 1 dL_law_634 rfl ?_
  refine xr_iload S 5 dL_law_635 rfl ?_
  refine xr_iconst S (1) dL_law_637 (by decide) ?_
  refine xr_iadd S dL_law_638 ?_
  obtain ⟨hi197, hw⟩ := hw
  refine SC _ _ _ _ _ _ _ dL_law_639 hi197 ?_
  generalize xs (Int32.toNatClampNeg (l4 + 1)) = v196 at hw ⊢
  obtain ⟨e198, hw⟩ := hw
  obtain ⟨f199, f199x⟩ := id e198
  refine xr_callV S 8 [.int v196] [] dL_law_640 (k_X7_setTugs l (xdc X) h194 l2 v196 _ hw) gL_law_X7_setTugs rfl pd_X7_setTugs ⟨Nat.le_of_ble_eq_true rfl, Nat.le_of_ble_eq_true rfl⟩ rfl (Nat.le_of_ble_eq_true rfl) ⟨by show _ ≤ 601024; omega, by show _ ≤ 7293034; omega⟩ f199x rfl (fun v9 h201 hv => ?_)
  obtain ⟨r200, rfl, hw⟩ := hv
  refine xr_istore S [(6, .int r200), (5, .int r193), (0, .ref b), (1, .ref l1), (2, .ref l2), (3, .ref l3), (4, .int l4)] dL_law_643 (by decide) rfl ?_
  refine xr_aload_n S 4 dL_law_645 rfl ?_
  obtain ⟨e203, hw⟩ := hw
  obtain ⟨f204, f204x⟩ := id e203
  refine xr_callV S 8 [] [] dL_law_646 (k_X7_thrown l (xdc X) h201 l2 _ hw) gL_law_X7_thrown rfl pd_X7_thrown ⟨Nat.le_of_ble_eq_true rfl, Nat.le_of_ble_eq_true rfl⟩ rfl (Nat.le_of_ble_eq_true rfl) ⟨by show _ ≤ 601024; omega, by show _ ≤ 7293034; omega⟩ f204x rfl (fun v9 h207 hv => ?_)
  obtain ⟨r205, rfl, rfl, hw⟩ := hv
  refine xr_iload S 1 dL_law_649 rfl ?_
  refine xw_icmp_eq S 656 dL_law_651 (by decide) hw (fun c hw => ?_) (fun c hw => ?_)
  · refine xr_iload S 1 dL_law_656 rfl ?_
    refine xw_if_ne S 673 dL_law_658 (by decide) hw (fun c hw => ?_) (fun c hw => ?_)
    · refine xr_goto S (tgt := 1494) dL_law_673 (by decide) ?_
      refine xr_widen S (k := cells + 64) (n := slots + 1500) (by omega) (by omega) ?_
      refine xr_sub S [(0, .ref b), (1, .ref l1), (2, .ref l2), (3, .ref l3), (4, .int l4)] [2, 3, 4, 5, 6] rfl ?_
      exact hr h201 hw
    · refine xr_aload_n S 5 dL_law_661 rfl ?_
      refine xr_iconst S (0) dL_law_662 (by decide) ?_
      refine xw_lald S dL_law_663 hw (fun v208 hw => ?_)
      refine xr_iload S 0 dL_law_664 rfl ?_
      refine xr_i2l S dL_law_666 ?_
      refine xr_lcmp S dL_law_667 ?_
      refine xw_if_eq S 673 dL_law_668 (by decide) hw (fun c hw => ?_) (fun c hw => ?_)
      · refine xr_goto S (tgt := 1494) dL_law_673 (by decide) ?_
        refine xr_widen S (k := cells + 64) (n := slots + 1500) (by omega) (by omega) ?_
        refine xr_sub S [(0, .ref b), (1, .ref l1), (2, .ref l2), (3, .ref l3), (4, .int l4)] [2, 3, 4, 5, 6] rfl ?_
        exact hr h201 hw
      · refine xr_iconst S (0) dL_law_671 (by decide) ?_
        exact hw.elim
  · refine xr_iconst S (0) dL_law_654 (by decide) ?_
    exact hw.elim
def w_L_law_c8 (dc : Nat × Nat) (L : Nat) (xs : Nat → Int32) (h : XH) (l1 l2 l3 : Nat) (l4 : Int32) (rec : XH → Prop) : Prop :=
  wScr L xs (l4 + 1) (fun v209 => w_L_count dc h l1 v209 l3 (fun r211 h212 => wScr L xs (l4 + 1) (fun v214 => wO h212 l2 8 ( w_X7_count dc h212 l2 v214 (fun r218 h219 => wO h219 l2 8 ( w_X7_thrown dc h219 l2 (fun r223 => wIf (r223 = r211) (wIf (r211 = 0) (wAL h219 l3 0 (fun v226 => wIf ((lg_cmp v226 r218.toInt64) = 0) (rec h219) (False))) (rec h219)) (False))))))))
set_option maxRecDepth 100000 in
set_option maxHeartbeats 4000000 in
theorem k_L_law_c8 {V : XVT} {X : XC} {l : Launch} (hfl : l.stackTraces = false) {nm : String} {b L : Nat} {xs : Nat → Int32} (SL0 : xLaw V X l nm wsL_law b L xs) (cells slots : Nat) (hc : cells + 64 ≤ 601024) (hs : slots + 1500 ≤ 7293034) (h : XH) (l1 l2 l3 : Nat) (l4 : Int32) (rec : XH → Prop) (hr : ∀ h' : XH, rec h' → V (cells + 64) (slots + 1500) h' 1494 [(0, .ref b), (1, .ref l1), (2, .ref l2), (3, .ref l3), (4, .int l4)] []) (hw : w_L_law_c8 (xdc X) L xs h l1 l2 l3 l4 rec) : V cells slots h 676 [(0, .ref b), (1, .ref l1), (2, .ref l2), (3, .ref l3), (4, .int l4)] [] := by
  obtain ⟨S, EL, SLN, SC, DC⟩ := id SL0
  refine xr_aload_n S 1 dL_law_676 rfl ?_
  refine xr_aload_n S 0 dL_law_677 rfl ?_
  refine xr_iload S 4 dL_law_678 rfl ?_
  refine xr_iconst S (1) dL_law_680 (by decide) ?_
  refine xr_iadd S dL_law_681 ?_
  obtain ⟨hi210, hw⟩ := hw
  refine SC _ _ _ _ _ _ _ dL_law_682 hi210 ?_
  generalize xs (Int32.toNatClampNeg (l4 + 1)) = v209 at hw ⊢
  refine xr_aload_n S 3 dL_law_683 rfl ?_
  refine xr_callSW S [.ref l1, .int v209, .ref l3] [] dL_law_684 (k_L_count l hfl (xdc X) h l1 v209 l3 _ hw) gL_law_L_count rfl pd_L_count ⟨Nat.le_of_ble_eq_true rfl, Nat.le_of_ble_eq_true rfl⟩ rfl (Nat.le_of_ble_eq_true rfl) ⟨by show _ ≤ 601024; omega, by show _ ≤ 7293034; omega⟩ (fun v9 h212 hv => ?_)
  obtain ⟨r211, rfl, hw⟩ := hv
  refine xr_istore S [(5, .int r211), (0, .ref b), (1, .ref l1), (2, .ref l2), (3, .ref l3), (4, .int l4)] dL_law_687 (by decide) rfl ?_
  refine xr_aload_n S 3 dL_law_689 rfl ?_
  refine xr_aload_n S 1 dL_law_690 rfl ?_
  refine xr_iload S 5 dL_law_691 rfl ?_
  refine xr_iconst S (1) dL_law_693 (by decide) ?_
  refine xr_iadd S dL_law_694 ?_
  obtain ⟨hi215, hw⟩ := hw
  refine SC _ _ _ _ _ _ _ dL_law_695 hi215 ?_
  generalize xs (Int32.toNatClampNeg (l4 + 1)) = v214 at hw ⊢
  obtain ⟨e216, hw⟩ := hw
  obtain ⟨f217, f217x⟩ := id e216
  refine xr_callV S 8 [.int v214] [] dL_law_696 (k_X7_count l (xdc X) h212 l2 v214 _ hw) gL_law_X7_count rfl pd_X7_count ⟨Nat.le_of_ble_eq_true rfl, Nat.le_of_ble_eq_true rfl⟩ rfl (Nat.le_of_ble_eq_true rfl) ⟨by show _ ≤ 601024; omega, by show _ ≤ 7293034; omega⟩ f217x rfl (fun v9 h219 hv => ?_)
  obtain ⟨r218, rfl, hw⟩ := hv
  refine xr_istore S [(6, .int r218), (5, .int r211), (0, .ref b), (1, .ref l1), (2, .ref l2), (3, .ref l3), (4, .int l4)] dL_law_699 (by decide) rfl ?_
  refine xr_aload_n S 4 dL_law_701 rfl ?_
  obtain ⟨e221, hw⟩ := hw
  obtain ⟨f222, f222x⟩ := id e221
  refine xr_callV S 8 [] [] dL_law_702 (k_X7_thrown l (xdc X) h219 l2 _ hw) gL_law_X7_thrown rfl pd_X7_thrown ⟨Nat.le_of_ble_eq_true rfl, Nat.le_of_ble_eq_true rfl⟩ rfl (Nat.le_of_ble_eq_true rfl) ⟨by show _ ≤ 601024; omega, by show _ ≤ 7293034; omega⟩ f222x rfl (fun v9 h225 hv => ?_)
  obtain ⟨r223, rfl, rfl, hw⟩ := hv
  refine xr_iload S 1 dL_law_705 rfl ?_
  refine xw_icmp_eq S 712 dL_law_707 (by decide) hw (fun c hw => ?_) (fun c hw => ?_)
  · refine xr_iload S 1 dL_law_712 rfl ?_
    refine xw_if_ne S 729 dL_law_714 (by decide) hw (fun c hw => ?_) (fun c hw => ?_)
    · refine xr_goto S (tgt := 1494) dL_law_729 (by decide) ?_
      refine xr_widen S (k := cells + 64) (n := slots + 1500) (by omega) (by omega) ?_
      refine xr_sub S [(0, .ref b), (1, .ref l1), (2, .ref l2), (3, .ref l3), (4, .int l4)] [2, 3, 4, 5, 6] rfl ?_
      exact hr h219 hw
    · refine xr_aload_n S 5 dL_law_717 rfl ?_
      refine xr_iconst S (0) dL_law_718 (by decide) ?_
      refine xw_lald S dL_law_719 hw (fun v226 hw => ?_)
      refine xr_iload S 0 dL_law_720 rfl ?_
      refine xr_i2l S dL_law_722 ?_
      refine xr_lcmp S dL_law_723 ?_
      refine xw_if_eq S 729 dL_law_724 (by decide) hw (fun c hw => ?_) (fun c hw => ?_)
      · refine xr_goto S (tgt := 1494) dL_law_729 (by decide) ?_
        refine xr_widen S (k := cells + 64) (n := slots + 1500) (by omega) (by omega) ?_
        refine xr_sub S [(0, .ref b), (1, .ref l1), (2, .ref l2), (3, .ref l3), (4, .int l4)] [2, 3, 4, 5, 6] rfl ?_
        exact hr h219 hw
      · refine xr_iconst S (0) dL_law_727 (by decide) ?_
        exact hw.elim
  · refine xr_iconst S (0) dL_law_710 (by decide) ?_
    exact hw.elim
def w_L_law_c9 (dc : Nat × Nat) (L : Nat) (xs : Nat → Int32) (h : XH) (l1 l2 l3 : Nat) (l4 : Int32) (rec : XH → Prop) : Prop :=
  wScr L xs (l4 + 1) (fun v227 => w_L_need dc h l1 v227 l3 (fun r229 h230 => wScr L xs (l4 + 1) (fun v232 => wO h230 l2 8 ( w_X7_need dc h230 l2 v232 (fun r236 h237 => wO h237 l2 8 ( w_X7_thrown dc h237 l2 (fun r241 => wIf (r241 = r229) (wIf (r229 = 0) (wAL h237 l3 0 (fun v244 => wIf ((lg_cmp v244 r236.toInt64) = 0) (rec h237) (False))) (rec h237)) (False))))))))
set_option maxRecDepth 100000 in
set_option maxHeartbeats 4000000 in
theorem k_L_law_c9 {V : XVT} {X : XC} {l : Launch} (hfl : l.stackTraces = false) {nm : String} {b L : Nat} {xs : Nat → Int32} (SL0 : xLaw V X l nm wsL_law b L xs) (cells slots : Nat) (hc : cells + 64 ≤ 601024) (hs : slots + 1500 ≤ 7293034) (h : XH) (l1 l2 l3 : Nat) (l4 : Int32) (rec : XH → Prop) (hr : ∀ h' : XH, rec h' → V (cells + 64) (slots + 1500) h' 1494 [(0, .ref b), (1, .ref l1), (2, .ref l2), (3, .ref l3), (4, .int l4)] []) (hw : w_L_law_c9 (xdc X) L xs h l1 l2 l3 l4 rec) : V cells slots h 732 [(0, .ref b), (1, .ref l1), (2, .ref l2), (3, .ref l3), (4, .int l4)] [] := by
  obtain ⟨S, EL, SLN, SC, DC⟩ := id SL0
  refine xr_aload_n S 1 dL_law_732 rfl ?_
  refine xr_aload_n S 0 dL_law_733 rfl ?_
  refine xr_iload S 4 dL_law_734 rfl ?_
  refine xr_iconst S (1) dL_law_736 (by decide) ?_
  refine xr_iadd S dL_law_737 ?_
  obtain ⟨hi228, hw⟩ := hw
  refine SC _ _ _ _ _ _ _ dL_law_738 hi228 ?_
  generalize xs (Int32.toNatClampNeg (l4 + 1)) = v227 at hw ⊢
  refine xr_aload_n S 3 dL_law_739 rfl ?_
  refine xr_callSW S [.ref l1, .int v227, .ref l3] [] dL_law_740 (k_L_need l hfl (xdc X) h l1 v227 l3 _ hw) gL_law_L_need rfl pd_L_need ⟨Nat.le_of_ble_eq_true rfl, Nat.le_of_ble_eq_true rfl⟩ rfl (Nat.le_of_ble_eq_true rfl) ⟨by show _ ≤ 601024; omega, by show _ ≤ 7293034; omega⟩ (fun v9 h230 hv => ?_)
  obtain ⟨r229, rfl, hw⟩ := hv
  refine xr_istore S [(5, .int r229), (0, .ref b), (1, .ref l1), (2, .ref l2), (3, .ref l3), (4, .int l4)] dL_law_743 (by decide) rfl ?_
  refine xr_aload_n S 3 dL_law_745 rfl ?_
  refine xr_aload_n S 1 dL_law_746 rfl ?_
  refine xr_iload S 5 dL_law_747 rfl ?_
  refine xr_iconst S (1) dL_law_749 (by decide) ?_
  refine xr_iadd S dL_law_750 ?_
  obtain ⟨hi233, hw⟩ := hw
  refine SC _ _ _ _ _ _ _ dL_law_751 hi233 ?_
  generalize xs (Int32.toNatClampNeg (l4 + 1)) = v232 at hw ⊢
  obtain ⟨e234, hw⟩ := hw
  obtain ⟨f235, f235x⟩ := id e234
  refine xr_callV S 8 [.int v232] [] dL_law_752 (k_X7_need l (xdc X) h230 l2 v232 _ hw) gL_law_X7_need rfl pd_X7_need ⟨Nat.le_of_ble_eq_true rfl, Nat.le_of_ble_eq_true rfl⟩ rfl (Nat.le_of_ble_eq_true rfl) ⟨by show _ ≤ 601024; omega, by show _ ≤ 7293034; omega⟩ f235x rfl (fun v9 h237 hv => ?_)
  obtain ⟨r236, rfl, hw⟩ := hv
  refine xr_istore S [(6, .int r236), (5, .int r229), (0, .ref b), (1, .ref l1), (2, .ref l2), (3, .ref l3), (4, .int l4)] dL_law_755 (by decide) rfl ?_
  refine xr_aload_n S 4 dL_law_757 rfl ?_
  obtain ⟨e239, hw⟩ := hw
  obtain ⟨f240, f240x⟩ := id e239
  refine xr_callV S 8 [] [] dL_law_758 (k_X7_thrown l (xdc X) h237 l2 _ hw) gL_law_X7_thrown rfl pd_X7_thrown ⟨Nat.le_of_ble_eq_true rfl, Nat.le_of_ble_eq_true rfl⟩ rfl (Nat.le_of_ble_eq_true rfl) ⟨by show _ ≤ 601024; omega, by show _ ≤ 7293034; omega⟩ f240x rfl (fun v9 h243 hv => ?_)
  obtain ⟨r241, rfl, rfl, hw⟩ := hv
  refine xr_iload S 1 dL_law_761 rfl ?_
  refine xw_icmp_eq S 768 dL_law_763 (by decide) hw (fun c hw => ?_) (fun c hw => ?_)
  · refine xr_iload S 1 dL_law_768 rfl ?_
    refine xw_if_ne S 785 dL_law_770 (by decide) hw (fun c hw => ?_) (fun c hw => ?_)
    · refine xr_goto S (tgt := 1494) dL_law_785 (by decide) ?_
      refine xr_widen S (k := cells + 64) (n := slots + 1500) (by omega) (by omega) ?_
      refine xr_sub S [(0, .ref b), (1, .ref l1), (2, .ref l2), (3, .ref l3), (4, .int l4)] [2, 3, 4, 5, 6] rfl ?_
      exact hr h237 hw
    · refine xr_aload_n S 5 dL_law_773 rfl ?_
      refine xr_iconst S (0) dL_law_774 (by decide) ?_
      refine xw_lald S dL_law_775 hw (fun v244 hw => ?_)
      refine xr_iload S 0 dL_law_776 rfl ?_
      refine xr_i2l S dL_law_778 ?_
      refine xr_lcmp S dL_law_779 ?_
      refine xw_if_eq S 785 dL_law_780 (by decide) hw (fun c hw => ?_) (fun c hw => ?_)
      · refine xr_goto S (tgt := 1494) dL_law_785 (by decide) ?_
        refine xr_widen S (k := cells + 64) (n := slots + 1500) (by omega) (by omega) ?_
        refine xr_sub S [(0, .ref b), (1, .ref l1), (2, .ref l2), (3, .ref l3), (4, .int l4)] [2, 3, 4, 5, 6] rfl ?_
        exact hr h237 hw
      · refine xr_iconst S (0) dL_law_783 (by decide) ?_
        exact hw.elim
  · refine xr_iconst S (0) dL_law_766 (by decide) ?_
    exact hw.elim
def w_L_law_c10 (dc : Nat × Nat) (L : Nat) (xs : Nat → Int32) (h : XH) (l1 l2 l3 : Nat) (l4 : Int32) (rec : XH → Prop) : Prop :=
  wScr L xs (l4 + 1) (fun v245 => wScr L xs (l4 + 2) (fun v247 => wScr L xs (l4 + 3) (fun v249 => w_L_window dc h l1 v245 v247 v249 l3 (fun r251 h252 => wScr L xs (l4 + 1) (fun v254 => wScr L xs (l4 + 2) (fun v256 => wScr L xs (l4 + 3) (fun v258 => wO h252 l2 8 ( w_X7_window dc h252 l2 v254 v256 v258 (fun r262 h263 => wO h263 l2 8 ( w_X7_thrown dc h263 l2 (fun r267 => wIf (r267 = r251) (wIf (r251 = 0) (wAL h263 l3 0 (fun v270 => wIf ((lg_cmp v270 r262.toInt64) = 0) (rec h263) (False))) (rec h263)) (False))))))))))))
set_option maxRecDepth 100000 in
set_option maxHeartbeats 4000000 in
theorem k_L_law_c10 {V : XVT} {X : XC} {l : Launch} (hfl : l.stackTraces = false) {nm : String} {b L : Nat} {xs : Nat → Int32} (SL0 : xLaw V X l nm wsL_law b L xs) (cells slots : Nat) (hc : cells + 64 ≤ 601024) (hs : slots + 1500 ≤ 7293034) (h : XH) (l1 l2 l3 : Nat) (l4 : Int32) (rec : XH → Prop) (hr : ∀ h' : XH, rec h' → V (cells + 64) (slots + 1500) h' 1494 [(0, .ref b), (1, .ref l1), (2, .ref l2), (3, .ref l3), (4, .int l4)] []) (hw : w_L_law_c10 (xdc X) L xs h l1 l2 l3 l4 rec) : V cells slots h 788 [(0, .ref b), (1, .ref l1), (2, .ref l2), (3, .ref l3), (4, .int l4)] [] := by
  obtain ⟨S, EL, SLN, SC, DC⟩ := id SL0
  refine xr_aload_n S 1 dL_law_788 rfl ?_
  refine xr_aload_n S 0 dL_law_789 rfl ?_
  refine xr_iload S 4 dL_law_790 rfl ?_
  refine xr_iconst S (1) dL_law_792 (by decide) ?_
  refine xr_iadd S dL_law_793 ?_
  obtain ⟨hi246, hw⟩ := hw
  refine SC _ _ _ _ _ _ _ dL_law_794 hi246 ?_
  generalize xs (Int32.toNatClampNeg (l4 + 1)) = v245 at hw ⊢
  refine xr_aload_n S 0 dL_law_795 rfl ?_
  refine xr_iload S 4 dL_law_796 rfl ?_
  refine xr_iconst S (2) dL_law_798 (by decide) ?_
  refine xr_iadd S dL_law_799 ?_
  obtain ⟨hi248, hw⟩ := hw
  refine SC _ _ _ _ _ _ _ dL_law_800 hi248 ?_
  generalize xs (Int32.toNatClampNeg (l4 + 2)) = v247 at hw ⊢
  refine xr_aload_n S 0 dL_law_801 rfl ?_
  refine xr_iload S 4 dL_law_802 rfl ?_
  refine xr_iconst S (3) dL_law_804 (by decide) ?_
  refine xr_iadd S dL_law_805 ?_
  obtain ⟨hi250, hw⟩ := hw
  refine SC _ _ _ _ _ _ _ dL_law_806 hi250 ?_
  generalize xs (Int32.toNatClampNeg (l4 + 3)) = v249 at hw ⊢
  refine xr_aload_n S 3 dL_law_807 rfl ?_
  refine xr_callSW S [.ref l1, .int v245, .int v247, .int v249, .ref l3] [] dL_law_808 (k_L_window l hfl (xdc X) h l1 v245 v247 v249 l3 _ hw) gL_law_L_window rfl pd_L_window ⟨Nat.le_of_ble_eq_true rfl, Nat.le_of_ble_eq_true rfl⟩ rfl (Nat.le_of_ble_eq_true rfl) ⟨by show _ ≤ 601024; omega, by show _ ≤ 7293034; omega⟩ (fun v9 h252 hv => ?_)
  obtain ⟨r251, rfl, hw⟩ := hv
  refine xr_istore S [(5, .int r251), (0, .ref b), (1, .ref l1), (2, .ref l2), (3, .ref l3), (4, .int l4)] dL_law_811 (by decide) rfl ?_
  refine xr_aload_n S 3 dL_law_813 rfl ?_
  refine xr_aload_n S 1 dL_law_814 rfl ?_
  refine xr_iload S 5 dL_law_815 rfl ?_
  refine xr_iconst S (1) dL_law_817 (by decide) ?_
  refine xr_iadd S dL_law_818 ?_
  obtain ⟨hi255, hw⟩ := hw
  refine SC _ _ _ _ _ _ _ dL_law_819 hi255 ?_
  generalize xs (Int32.toNatClampNeg (l4 + 1)) = v254 at hw ⊢
  refine xr_aload_n S 1 dL_law_820 rfl ?_
  refine xr_iload S 5 dL_law_821 rfl ?_
  refine xr_iconst S (2) dL_law_823 (by decide) ?_
  refine xr_iadd S dL_law_824 ?_
  obtain ⟨hi257, hw⟩ := hw
  refine SC _ _ _ _ _ _ _ dL_law_825 hi257 ?_
  generalize xs (Int32.toNatClampNeg (l4 + 2)) = v256 at hw ⊢
  refine xr_aload_n S 1 dL_law_826 rfl ?_
  refine xr_iload S 5 dL_law_827 rfl ?_
  refine xr_iconst S (3) dL_law_829 (by decide) ?_
  refine xr_iadd S dL_law_830 ?_
  obtain ⟨hi259, hw⟩ := hw
  refine SC _ _ _ _ _ _ _ dL_law_831 hi259 ?_
  generalize xs (Int32.toNatClampNeg (l4 + 3)) = v258 at hw ⊢
  obtain ⟨e260, hw⟩ := hw
  obtain ⟨f261, f261x⟩ := id e260
  refine xr_callV S 8 [.int v254, .int v256, .int v258] [] dL_law_832 (k_X7_window l (xdc X) h252 l2 v254 v256 v258 _ hw) gL_law_X7_window rfl pd_X7_window ⟨Nat.le_of_ble_eq_true rfl, Nat.le_of_ble_eq_true rfl⟩ rfl (Nat.le_of_ble_eq_true rfl) ⟨by show _ ≤ 601024; omega, by show _ ≤ 7293034; omega⟩ f261x rfl (fun v9 h263 hv => ?_)
  obtain ⟨r262, rfl, hw⟩ := hv
  refine xr_istore S [(6, .int r262), (5, .int r251), (0, .ref b), (1, .ref l1), (2, .ref l2), (3, .ref l3), (4, .int l4)] dL_law_835 (by decide) rfl ?_
  refine xr_aload_n S 4 dL_law_837 rfl ?_
  obtain ⟨e265, hw⟩ := hw
  obtain ⟨f266, f266x⟩ := id e265
  refine xr_callV S 8 [] [] dL_law_838 (k_X7_thrown l (xdc X) h263 l2 _ hw) gL_law_X7_thrown rfl pd_X7_thrown ⟨Nat.le_of_ble_eq_true rfl, Nat.le_of_ble_eq_true rfl⟩ rfl (Nat.le_of_ble_eq_true rfl) ⟨by show _ ≤ 601024; omega, by show _ ≤ 7293034; omega⟩ f266x rfl (fun v9 h269 hv => ?_)
  obtain ⟨r267, rfl, rfl, hw⟩ := hv
  refine xr_iload S 1 dL_law_841 rfl ?_
  refine xw_icmp_eq S 848 dL_law_843 (by decide) hw (fun c hw => ?_) (fun c hw => ?_)
  · refine xr_iload S 1 dL_law_848 rfl ?_
    refine xw_if_ne S 865 dL_law_850 (by decide) hw (fun c hw => ?_) (fun c hw => ?_)
    · refine xr_goto S (tgt := 1494) dL_law_865 (by decide) ?_
      refine xr_widen S (k := cells + 64) (n := slots + 1500) (by omega) (by omega) ?_
      refine xr_sub S [(0, .ref b), (1, .ref l1), (2, .ref l2), (3, .ref l3), (4, .int l4)] [2, 3, 4, 5, 6] rfl ?_
      exact hr h263 hw
    · refine xr_aload_n S 5 dL_law_853 rfl ?_
      refine xr_iconst S (0) dL_law_854 (by decide) ?_
      refine xw_lald S dL_law_855 hw (fun v270 hw => ?_)
      refine xr_iload S 0 dL_law_856 rfl ?_
      refine xr_i2l S dL_law_858 ?_
      refine xr_lcmp S dL_law_859 ?_
      refine xw_if_eq S 865 dL_law_860 (by decide) hw (fun c hw => ?_) (fun c hw => ?_)
      · refine xr_goto S (tgt := 1494) dL_law_865 (by decide) ?_
        refine xr_widen S (k := cells + 64) (n := slots + 1500) (by omega) (by omega) ?_
        refine xr_sub S [(0, .ref b), (1, .ref l1), (2, .ref l2), (3, .ref l3), (4, .int l4)] [2, 3, 4, 5, 6] rfl ?_
        exact hr h263 hw
      · refine xr_iconst S (0) dL_law_863 (by decide) ?_
        exact hw.elim
  · refine xr_iconst S (0) dL_law_846 (by decide) ?_
    exact hw.elim
def w_L_law_c11 (dc : Nat × Nat) (L : Nat) (xs : Nat → Int32) (h : XH) (l1 l2 l3 : Nat) (l4 : Int32) (rec : XH → Prop) : Prop :=
  wScr L xs (l4 + 1) (fun v271 => w_L_least dc h l1 v271 l3 (fun r273 h274 => wScr L xs (l4 + 1) (fun v276 => wO h274 l2 8 ( w_X7_least dc h274 l2 v276 (fun r280 h281 => wO h281 l2 8 ( w_X7_thrown dc h281 l2 (fun r285 => wIf (r285 = r273) (wIf (r273 = 0) (wAL h281 l3 0 (fun v288 => wIf ((lg_cmp v288 r280.toInt64) = 0) (rec h281) (False))) (rec h281)) (False))))))))
set_option maxRecDepth 100000 in
set_option maxHeartbeats 4000000 in
theorem k_L_law_c11 {V : XVT} {X : XC} {l : Launch} (hfl : l.stackTraces = false) {nm : String} {b L : Nat} {xs : Nat → Int32} (SL0 : xLaw V X l nm wsL_law b L xs) (cells slots : Nat) (hc : cells + 64 ≤ 601024) (hs : slots + 1500 ≤ 7293034) (h : XH) (l1 l2 l3 : Nat) (l4 : Int32) (rec : XH → Prop) (hr : ∀ h' : XH, rec h' → V (cells + 64) (slots + 1500) h' 1494 [(0, .ref b), (1, .ref l1), (2, .ref l2), (3, .ref l3), (4, .int l4)] []) (hw : w_L_law_c11 (xdc X) L xs h l1 l2 l3 l4 rec) : V cells slots h 868 [(0, .ref b), (1, .ref l1), (2, .ref l2), (3, .ref l3), (4, .int l4)] [] := by
  obtain ⟨S, EL, SLN, SC, DC⟩ := id SL0
  refine xr_aload_n S 1 dL_law_868 rfl ?_
  refine xr_aload_n S 0 dL_law_869 rfl ?_
  refine xr_iload S 4 dL_law_870 rfl ?_
  refine xr_iconst S (1) dL_law_872 (by decide) ?_
  refine xr_iadd S dL_law_873 ?_
  obtain ⟨hi272, hw⟩ := hw
  refine SC _ _ _ _ _ _ _ dL_law_874 hi272 ?_
  generalize xs (Int32.toNatClampNeg (l4 + 1)) = v271 at hw ⊢
  refine xr_aload_n S 3 dL_law_875 rfl ?_
  refine xr_callSW S [.ref l1, .int v271, .ref l3] [] dL_law_876 (k_L_least l hfl (xdc X) h l1 v271 l3 _ hw) gL_law_L_least rfl pd_L_least ⟨Nat.le_of_ble_eq_true rfl, Nat.le_of_ble_eq_true rfl⟩ rfl (Nat.le_of_ble_eq_true rfl) ⟨by show _ ≤ 601024; omega, by show _ ≤ 7293034; omega⟩ (fun v9 h274 hv => ?_)
  obtain ⟨r273, rfl, hw⟩ := hv
  refine xr_istore S [(5, .int r273), (0, .ref b), (1, .ref l1), (2, .ref l2), (3, .ref l3), (4, .int l4)] dL_law_879 (by decide) rfl ?_
  refine xr_aload_n S 3 dL_law_881 rfl ?_
  refine xr_aload_n S 1 dL_law_882 rfl ?_
  refine xr_iload S 5 dL_law_883 rfl ?_
  refine xr_iconst S (1) dL_law_885 (by decide) ?_
  refine xr_iadd S dL_law_886 ?_
  obtain ⟨hi277, hw⟩ := hw
  refine SC _ _ _ _ _ _ _ dL_law_887 hi277 ?_
  generalize xs (Int32.toNatClampNeg (l4 + 1)) = v276 at hw ⊢
  obtain ⟨e278, hw⟩ := hw
  obtain ⟨f279, f279x⟩ := id e278
  refine xr_callV S 8 [.int v276] [] dL_law_888 (k_X7_least l (xdc X) h274 l2 v276 _ hw) gL_law_X7_least rfl pd_X7_least ⟨Nat.le_of_ble_eq_true rfl, Nat.le_of_ble_eq_true rfl⟩ rfl (Nat.le_of_ble_eq_true rfl) ⟨by show _ ≤ 601024; omega, by show _ ≤ 7293034; omega⟩ f279x rfl (fun v9 h281 hv => ?_)
  obtain ⟨r280, rfl, hw⟩ := hv
  refine xr_istore S [(6, .int r280), (5, .int r273), (0, .ref b), (1, .ref l1), (2, .ref l2), (3, .ref l3), (4, .int l4)] dL_law_891 (by decide) rfl ?_
  refine xr_aload_n S 4 dL_law_893 rfl ?_
  obtain ⟨e283, hw⟩ := hw
  obtain ⟨f284, f284x⟩ := id e283
  refine xr_callV S 8 [] [] dL_law_894 (k_X7_thrown l (xdc X) h281 l2 _ hw) gL_law_X7_thrown rfl pd_X7_thrown ⟨Nat.le_of_ble_eq_true rfl, Nat.le_of_ble_eq_true rfl⟩ rfl (Nat.le_of_ble_eq_true rfl) ⟨by show _ ≤ 601024; omega, by show _ ≤ 7293034; omega⟩ f284x rfl (fun v9 h287 hv => ?_)
  obtain ⟨r285, rfl, rfl, hw⟩ := hv
  refine xr_iload S 1 dL_law_897 rfl ?_
  refine xw_icmp_eq S 904 dL_law_899 (by decide) hw (fun c hw => ?_) (fun c hw => ?_)
  · refine xr_iload S 1 dL_law_904 rfl ?_
    refine xw_if_ne S 921 dL_law_906 (by decide) hw (fun c hw => ?_) (fun c hw => ?_)
    · refine xr_goto S (tgt := 1494) dL_law_921 (by decide) ?_
      refine xr_widen S (k := cells + 64) (n := slots + 1500) (by omega) (by omega) ?_
      refine xr_sub S [(0, .ref b), (1, .ref l1), (2, .ref l2), (3, .ref l3), (4, .int l4)] [2, 3, 4, 5, 6] rfl ?_
      exact hr h281 hw
    · refine xr_aload_n S 5 dL_law_909 rfl ?_
      refine xr_iconst S (0) dL_law_910 (by decide) ?_
      refine xw_lald S dL_law_911 hw (fun v288 hw => ?_)
      refine xr_iload S 0 dL_law_912 rfl ?_
      refine xr_i2l S dL_law_914 ?_
      refine xr_lcmp S dL_law_915 ?_
      refine xw_if_eq S 921 dL_law_916 (by decide) hw (fun c hw => ?_) (fun c hw => ?_)
      · refine xr_goto S (tgt := 1494) dL_law_921 (by decide) ?_
        refine xr_widen S (k := cells + 64) (n := slots + 1500) (by omega) (by omega) ?_
        refine xr_sub S [(0, .ref b), (1, .ref l1), (2, .ref l2), (3, .ref l3), (4, .int l4)] [2, 3, 4, 5, 6] rfl ?_
        exact hr h281 hw
      · refine xr_iconst S (0) dL_law_919 (by decide) ?_
        exact hw.elim
  · refine xr_iconst S (0) dL_law_902 (by decide) ?_
    exact hw.elim
def w_L_law_c12 (dc : Nat × Nat) (L : Nat) (xs : Nat → Int32) (h : XH) (l1 l2 l3 : Nat) (l4 : Int32) (rec : XH → Prop) : Prop :=
  wScr L xs (l4 + 1) (fun v289 => wScr L xs (l4 + 2) (fun v291 => wScr L xs (l4 + 3) (fun v293 => w_L_earliest dc h l1 v289 v291 v293 l3 (fun r295 h296 => wScr L xs (l4 + 1) (fun v298 => wScr L xs (l4 + 2) (fun v300 => wScr L xs (l4 + 3) (fun v302 => wO h296 l2 8 ( w_X7_earliest dc h296 l2 v298 v300 v302 (fun r306 h307 => wO h307 l2 8 ( w_X7_thrown dc h307 l2 (fun r311 => wIf (r311 = r295) (wIf (r295 = 0) (wAL h307 l3 0 (fun v314 => wIf ((lg_cmp v314 r306.toInt64) = 0) (rec h307) (False))) (rec h307)) (False))))))))))))
set_option maxRecDepth 100000 in
set_option maxHeartbeats 4000000 in
theorem k_L_law_c12 {V : XVT} {X : XC} {l : Launch} (hfl : l.stackTraces = false) {nm : String} {b L : Nat} {xs : Nat → Int32} (SL0 : xLaw V X l nm wsL_law b L xs) (cells slots : Nat) (hc : cells + 64 ≤ 601024) (hs : slots + 1500 ≤ 7293034) (h : XH) (l1 l2 l3 : Nat) (l4 : Int32) (rec : XH → Prop) (hr : ∀ h' : XH, rec h' → V (cells + 64) (slots + 1500) h' 1494 [(0, .ref b), (1, .ref l1), (2, .ref l2), (3, .ref l3), (4, .int l4)] []) (hw : w_L_law_c12 (xdc X) L xs h l1 l2 l3 l4 rec) : V cells slots h 924 [(0, .ref b), (1, .ref l1), (2, .ref l2), (3, .ref l3), (4, .int l4)] [] := by
  obtain ⟨S, EL, SLN, SC, DC⟩ := id SL0
  refine xr_aload_n S 1 dL_law_924 rfl ?_
  refine xr_aload_n S 0 dL_law_925 rfl ?_
  refine xr_iload S 4 dL_law_926 rfl ?_
  refine xr_iconst S (1) dL_law_928 (by decide) ?_
  refine xr_iadd S dL_law_929 ?_
  obtain ⟨hi290, hw⟩ := hw
  refine SC _ _ _ _ _ _ _ dL_law_930 hi290 ?_
  generalize xs (Int32.toNatClampNeg (l4 + 1)) = v289 at hw ⊢
  refine xr_aload_n S 0 dL_law_931 rfl ?_
  refine xr_iload S 4 dL_law_932 rfl ?_
  refine xr_iconst S (2) dL_law_934 (by decide) ?_
  refine xr_iadd S dL_law_935 ?_
  obtain ⟨hi292, hw⟩ := hw
  refine SC _ _ _ _ _ _ _ dL_law_936 hi292 ?_
  generalize xs (Int32.toNatClampNeg (l4 + 2)) = v291 at hw ⊢
  refine xr_aload_n S 0 dL_law_937 rfl ?_
  refine xr_iload S 4 dL_law_938 rfl ?_
  refine xr_iconst S (3) dL_law_940 (by decide) ?_
  refine xr_iadd S dL_law_941 ?_
  obtain ⟨hi294, hw⟩ := hw
  refine SC _ _ _ _ _ _ _ dL_law_942 hi294 ?_
  generalize xs (Int32.toNatClampNeg (l4 + 3)) = v293 at hw ⊢
  refine xr_aload_n S 3 dL_law_943 rfl ?_
  refine xr_callSW S [.ref l1, .int v289, .int v291, .int v293, .ref l3] [] dL_law_944 (k_L_earliest l hfl (xdc X) h l1 v289 v291 v293 l3 _ hw) gL_law_L_earliest rfl pd_L_earliest ⟨Nat.le_of_ble_eq_true rfl, Nat.le_of_ble_eq_true rfl⟩ rfl (Nat.le_of_ble_eq_true rfl) ⟨by show _ ≤ 601024; omega, by show _ ≤ 7293034; omega⟩ (fun v9 h296 hv => ?_)
  obtain ⟨r295, rfl, hw⟩ := hv
  refine xr_istore S [(5, .int r295), (0, .ref b), (1, .ref l1), (2, .ref l2), (3, .ref l3), (4, .int l4)] dL_law_947 (by decide) rfl ?_
  refine xr_aload_n S 3 dL_law_949 rfl ?_
  refine xr_aload_n S 1 dL_law_950 rfl ?_
  refine xr_iload S 5 dL_law_951 rfl ?_
  refine xr_iconst S (1) dL_law_953 (by decide) ?_
  refine xr_iadd S dL_law_954 ?_
  obtain ⟨hi299, hw⟩ := hw
  refine SC _ _ _ _ _ _ _ dL_law_955 hi299 ?_
  generalize xs (Int32.toNatClampNeg (l4 + 1)) = v298 at hw ⊢
  refine xr_aload_n S 1 dL_law_956 rfl ?_
  refine xr_iload S 5 dL_law_957 rfl ?_
  refine xr_iconst S (2) dL_law_959 (by decide) ?_
  refine xr_iadd S dL_law_960 ?_
  obtain ⟨hi301, hw⟩ := hw
  refine SC _ _ _ _ _ _ _ dL_law_961 hi301 ?_
  generalize xs (Int32.toNatClampNeg (l4 + 2)) = v300 at hw ⊢
  refine xr_aload_n S 1 dL_law_962 rfl ?_
  refine xr_iload S 5 dL_law_963 rfl ?_
  refine xr_iconst S (3) dL_law_965 (by decide) ?_
  refine xr_iadd S dL_law_966 ?_
  obtain ⟨hi303, hw⟩ := hw
  refine SC _ _ _ _ _ _ _ dL_law_967 hi303 ?_
  generalize xs (Int32.toNatClampNeg (l4 + 3)) = v302 at hw ⊢
  obtain ⟨e304, hw⟩ := hw
  obtain ⟨f305, f305x⟩ := id e304
  refine xr_callV S 8 [.int v298, .int v300, .int v302] [] dL_law_968 (k_X7_earliest l (xdc X) h296 l2 v298 v300 v302 _ hw) gL_law_X7_earliest rfl pd_X7_earliest ⟨Nat.le_of_ble_eq_true rfl, Nat.le_of_ble_eq_true rfl⟩ rfl (Nat.le_of_ble_eq_true rfl) ⟨by show _ ≤ 601024; omega, by show _ ≤ 7293034; omega⟩ f305x rfl (fun v9 h307 hv => ?_)
  obtain ⟨r306, rfl, hw⟩ := hv
  refine xr_istore S [(6, .int r306), (5, .int r295), (0, .ref b), (1, .ref l1), (2, .ref l2), (3, .ref l3), (4, .int l4)] dL_law_971 (by decide) rfl ?_
  refine xr_aload_n S 4 dL_law_973 rfl ?_
  obtain ⟨e309, hw⟩ := hw
  obtain ⟨f310, f310x⟩ := id e309
  refine xr_callV S 8 [] [] dL_law_974 (k_X7_thrown l (xdc X) h307 l2 _ hw) gL_law_X7_thrown rfl pd_X7_thrown ⟨Nat.le_of_ble_eq_true rfl, Nat.le_of_ble_eq_true rfl⟩ rfl (Nat.le_of_ble_eq_true rfl) ⟨by show _ ≤ 601024; omega, by show _ ≤ 7293034; omega⟩ f310x rfl (fun v9 h313 hv => ?_)
  obtain ⟨r311, rfl, rfl, hw⟩ := hv
  refine xr_iload S 1 dL_law_977 rfl ?_
  refine xw_icmp_eq S 984 dL_law_979 (by decide) hw (fun c hw => ?_) (fun c hw => ?_)
  · refine xr_iload S 1 dL_law_984 rfl ?_
    refine xw_if_ne S 1001 dL_law_986 (by decide) hw (fun c hw => ?_) (fun c hw => ?_)
    · refine xr_goto S (tgt := 1494) dL_law_1001 (by decide) ?_
      refine xr_widen S (k := cells + 64) (n := slots + 1500) (by omega) (by omega) ?_
      refine xr_sub S [(0, .ref b), (1, .ref l1), (2, .ref l2), (3, .ref l3), (4, .int l4)] [2, 3, 4, 5, 6] rfl ?_
      exact hr h307 hw
    · refine xr_aload_n S 5 dL_law_989 rfl ?_
      refine xr_iconst S (0) dL_law_990 (by decide) ?_
      refine xw_lald S dL_law_991 hw (fun v314 hw => ?_)
      refine xr_iload S 0 dL_law_992 rfl ?_
      refine xr_i2l S dL_law_994 ?_
      refine xr_lcmp S dL_law_995 ?_
      refine xw_if_eq S 1001 dL_law_996 (by decide) hw (fun c hw => ?_) (fun c hw => ?_)
      · refine xr_goto S (tgt := 1494) dL_law_1001 (by decide) ?_
        refine xr_widen S (k := cells + 64) (n := slots + 1500) (by omega) (by omega) ?_
        refine xr_sub S [(0, .ref b), (1, .ref l1), (2, .ref l2), (3, .ref l3), (4, .int l4)] [2, 3, 4, 5, 6] rfl ?_
        exact hr h307 hw
      · refine xr_iconst S (0) dL_law_999 (by decide) ?_
        exact hw.elim
  · refine xr_iconst S (0) dL_law_982 (by decide) ?_
    exact hw.elim
def w_L_law_c13 (dc : Nat × Nat) (L : Nat) (xs : Nat → Int32) (h : XH) (l1 l2 l3 : Nat) (l4 : Int32) (rec : XH → Prop) : Prop :=
  wScr L xs (l4 + 1) (fun v315 => wScr L xs (l4 + 2) (fun v317 => wScr L xs (l4 + 3) (fun v319 => w_L_book dc h l1 v315 v317 v319 l3 (fun r321 h322 => wScr L xs (l4 + 1) (fun v324 => wScr L xs (l4 + 2) (fun v326 => wScr L xs (l4 + 3) (fun v328 => wO h322 l2 8 ( w_X7_book dc h322 l2 v324 v326 v328 (fun r332 h333 => wO h333 l2 8 ( w_X7_thrown dc h333 l2 (fun r337 => wIf (r337 = r321) (wIf (r321 = 0) (wAL h333 l3 0 (fun v340 => wIf ((lg_cmp v340 r332.toInt64) = 0) (rec h333) (False))) (rec h333)) (False))))))))))))
set_option maxRecDepth 100000 in
set_option maxHeartbeats 4000000 in
theorem k_L_law_c13 {V : XVT} {X : XC} {l : Launch} (hfl : l.stackTraces = false) {nm : String} {b L : Nat} {xs : Nat → Int32} (SL0 : xLaw V X l nm wsL_law b L xs) (cells slots : Nat) (hc : cells + 64 ≤ 601024) (hs : slots + 1500 ≤ 7293034) (h : XH) (l1 l2 l3 : Nat) (l4 : Int32) (rec : XH → Prop) (hr : ∀ h' : XH, rec h' → V (cells + 64) (slots + 1500) h' 1494 [(0, .ref b), (1, .ref l1), (2, .ref l2), (3, .ref l3), (4, .int l4)] []) (hw : w_L_law_c13 (xdc X) L xs h l1 l2 l3 l4 rec) : V cells slots h 1004 [(0, .ref b), (1, .ref l1), (2, .ref l2), (3, .ref l3), (4, .int l4)] [] := by
  obtain ⟨S, EL, SLN, SC, DC⟩ := id SL0
  refine xr_aload_n S 1 dL_law_1004 rfl ?_
  refine xr_aload_n S 0 dL_law_1005 rfl ?_
  refine xr_iload S 4 dL_law_1006 rfl ?_
  refine xr_iconst S (1) dL_law_1008 (by decide) ?_
  refine xr_iadd S dL_law_1009 ?_
  obtain ⟨hi316, hw⟩ := hw
  refine SC _ _ _ _ _ _ _ dL_law_1010 hi316 ?_
  generalize xs (Int32.toNatClampNeg (l4 + 1)) = v315 at hw ⊢
  refine xr_aload_n S 0 dL_law_1011 rfl ?_
  refine xr_iload S 4 dL_law_1012 rfl ?_
  refine xr_iconst S (2) dL_law_1014 (by decide) ?_
  refine xr_iadd S dL_law_1015 ?_
  obtain ⟨hi318, hw⟩ := hw
  refine SC _ _ _ _ _ _ _ dL_law_1016 hi318 ?_
  generalize xs (Int32.toNatClampNeg (l4 + 2)) = v317 at hw ⊢
  refine xr_aload_n S 0 dL_law_1017 rfl ?_
  refine xr_iload S 4 dL_law_1018 rfl ?_
  refine xr_iconst S (3) dL_law_1020 (by decide) ?_
  refine xr_iadd S dL_law_1021 ?_
  obtain ⟨hi320, hw⟩ := hw
  refine SC _ _ _ _ _ _ _ dL_law_1022 hi320 ?_
  generalize xs (Int32.toNatClampNeg (l4 + 3)) = v319 at hw ⊢
  refine xr_aload_n S 3 dL_law_1023 rfl ?_
  refine xr_callSW S [.ref l1, .int v315, .int v317, .int v319, .ref l3] [] dL_law_1024 (k_L_book l hfl (xdc X) h l1 v315 v317 v319 l3 _ hw) gL_law_L_book rfl pd_L_book ⟨Nat.le_of_ble_eq_true rfl, Nat.le_of_ble_eq_true rfl⟩ rfl (Nat.le_of_ble_eq_true rfl) ⟨by show _ ≤ 601024; omega, by show _ ≤ 7293034; omega⟩ (fun v9 h322 hv => ?_)
  obtain ⟨r321, rfl, hw⟩ := hv
  refine xr_istore S [(5, .int r321), (0, .ref b), (1, .ref l1), (2, .ref l2), (3, .ref l3), (4, .int l4)] dL_law_1027 (by decide) rfl ?_
  refine xr_aload_n S 3 dL_law_1029 rfl ?_
  refine xr_aload_n S 1 dL_law_1030 rfl ?_
  refine xr_iload S 5 dL_law_1031 rfl ?_
  refine xr_iconst S (1) dL_law_1033 (by decide) ?_
  refine xr_iadd S dL_law_1034 ?_
  obtain ⟨hi325, hw⟩ := hw
  refine SC _ _ _ _ _ _ _ dL_law_1035 hi325 ?_
  generalize xs (Int32.toNatClampNeg (l4 + 1)) = v324 at hw ⊢
  refine xr_aload_n S 1 dL_law_1036 rfl ?_
  refine xr_iload S 5 dL_law_1037 rfl ?_
  refine xr_iconst S (2) dL_law_1039 (by decide) ?_
  refine xr_iadd S dL_law_1040 ?_
  obtain ⟨hi327, hw⟩ := hw
  refine SC _ _ _ _ _ _ _ dL_law_1041 hi327 ?_
  generalize xs (Int32.toNatClampNeg (l4 + 2)) = v326 at hw ⊢
  refine xr_aload_n S 1 dL_law_1042 rfl ?_
  refine xr_iload S 5 dL_law_1043 rfl ?_
  refine xr_iconst S (3) dL_law_1045 (by decide) ?_
  refine xr_iadd S dL_law_1046 ?_
  obtain ⟨hi329, hw⟩ := hw
  refine SC _ _ _ _ _ _ _ dL_law_1047 hi329 ?_
  generalize xs (Int32.toNatClampNeg (l4 + 3)) = v328 at hw ⊢
  obtain ⟨e330, hw⟩ := hw
  obtain ⟨f331, f331x⟩ := id e330
  refine xr_callV S 8 [.int v324, .int v326, .int v328] [] dL_law_1048 (k_X7_book l (xdc X) h322 l2 v324 v326 v328 _ hw) gL_law_X7_book rfl pd_X7_book ⟨Nat.le_of_ble_eq_true rfl, Nat.le_of_ble_eq_true rfl⟩ rfl (Nat.le_of_ble_eq_true rfl) ⟨by show _ ≤ 601024; omega, by show _ ≤ 7293034; omega⟩ f331x rfl (fun v9 h333 hv => ?_)
  obtain ⟨r332, rfl, hw⟩ := hv
  refine xr_istore S [(6, .int r332), (5, .int r321), (0, .ref b), (1, .ref l1), (2, .ref l2), (3, .ref l3), (4, .int l4)] dL_law_1051 (by decide) rfl ?_
  refine xr_aload_n S 4 dL_law_1053 rfl ?_
  obtain ⟨e335, hw⟩ := hw
  obtain ⟨f336, f336x⟩ := id e335
  refine xr_callV S 8 [] [] dL_law_1054 (k_X7_thrown l (xdc X) h333 l2 _ hw) gL_law_X7_thrown rfl pd_X7_thrown ⟨Nat.le_of_ble_eq_true rfl, Nat.le_of_ble_eq_true rfl⟩ rfl (Nat.le_of_ble_eq_true rfl) ⟨by show _ ≤ 601024; omega, by show _ ≤ 7293034; omega⟩ f336x rfl (fun v9 h339 hv => ?_)
  obtain ⟨r337, rfl, rfl, hw⟩ := hv
  refine xr_iload S 1 dL_law_1057 rfl ?_
  refine xw_icmp_eq S 1064 dL_law_1059 (by decide) hw (fun c hw => ?_) (fun c hw => ?_)
  · refine xr_iload S 1 dL_law_1064 rfl ?_
    refine xw_if_ne S 1081 dL_law_1066 (by decide) hw (fun c hw => ?_) (fun c hw => ?_)
    · refine xr_goto S (tgt := 1494) dL_law_1081 (by decide) ?_
      refine xr_widen S (k := cells + 64) (n := slots + 1500) (by omega) (by omega) ?_
      refine xr_sub S [(0, .ref b), (1, .ref l1), (2, .ref l2), (3, .ref l3), (4, .int l4)] [2, 3, 4, 5, 6] rfl ?_
      exact hr h333 hw
    · refine xr_aload_n S 5 dL_law_1069 rfl ?_
      refine xr_iconst S (0) dL_law_1070 (by decide) ?_
      refine xw_lald S dL_law_1071 hw (fun v340 hw => ?_)
      refine xr_iload S 0 dL_law_1072 rfl ?_
      refine xr_i2l S dL_law_1074 ?_
      refine xr_lcmp S dL_law_1075 ?_
      refine xw_if_eq S 1081 dL_law_1076 (by decide) hw (fun c hw => ?_) (fun c hw => ?_)
      · refine xr_goto S (tgt := 1494) dL_law_1081 (by decide) ?_
        refine xr_widen S (k := cells + 64) (n := slots + 1500) (by omega) (by omega) ?_
        refine xr_sub S [(0, .ref b), (1, .ref l1), (2, .ref l2), (3, .ref l3), (4, .int l4)] [2, 3, 4, 5, 6] rfl ?_
        exact hr h333 hw
      · refine xr_iconst S (0) dL_law_1079 (by decide) ?_
        exact hw.elim
  · refine xr_iconst S (0) dL_law_1062 (by decide) ?_
    exact hw.elim
def w_L_law_c14 (dc : Nat × Nat) (L : Nat) (xs : Nat → Int32) (h : XH) (l1 l2 l3 : Nat) (l4 : Int32) (rec : XH → Prop) : Prop :=
  w_L_cancel dc h l1 l3 (fun r341 h342 => wO h342 l2 8 ( w_X7_cancel dc h342 l2 (fun r346 h347 => wO h347 l2 8 ( w_X7_thrown dc h347 l2 (fun r351 => wIf (r351 = r341) (wIf (r341 = 0) (wAL h347 l3 0 (fun v354 => wIf ((lg_cmp v354 r346.toInt64) = 0) (rec h347) (False))) (rec h347)) (False))))))
set_option maxRecDepth 100000 in
set_option maxHeartbeats 4000000 in
theorem k_L_law_c14 {V : XVT} {X : XC} {l : Launch} (hfl : l.stackTraces = false) {nm : String} {b L : Nat} {xs : Nat → Int32} (SL0 : xLaw V X l nm wsL_law b L xs) (cells slots : Nat) (hc : cells + 64 ≤ 601024) (hs : slots + 1500 ≤ 7293034) (h : XH) (l1 l2 l3 : Nat) (l4 : Int32) (rec : XH → Prop) (hr : ∀ h' : XH, rec h' → V (cells + 64) (slots + 1500) h' 1494 [(0, .ref b), (1, .ref l1), (2, .ref l2), (3, .ref l3), (4, .int l4)] []) (hw : w_L_law_c14 (xdc X) L xs h l1 l2 l3 l4 rec) : V cells slots h 1084 [(0, .ref b), (1, .ref l1), (2, .ref l2), (3, .ref l3), (4, .int l4)] [] := by
  obtain ⟨S, EL, SLN, SC, DC⟩ := id SL0
  refine xr_aload_n S 1 dL_law_1084 rfl ?_
  refine xr_aload_n S 3 dL_law_1085 rfl ?_
  refine xr_callSW S [.ref l1, .ref l3] [] dL_law_1086 (k_L_cancel l hfl (xdc X) h l1 l3 _ hw) gL_law_L_cancel rfl pd_L_cancel ⟨Nat.le_of_ble_eq_true rfl, Nat.le_of_ble_eq_true rfl⟩ rfl (Nat.le_of_ble_eq_true rfl) ⟨by show _ ≤ 601024; omega, by show _ ≤ 7293034; omega⟩ (fun v9 h342 hv => ?_)
  obtain ⟨r341, rfl, hw⟩ := hv
  refine xr_istore S [(5, .int r341), (0, .ref b), (1, .ref l1), (2, .ref l2), (3, .ref l3), (4, .int l4)] dL_law_1089 (by decide) rfl ?_
  refine xr_aload_n S 3 dL_law_1091 rfl ?_
  obtain ⟨e344, hw⟩ := hw
  obtain ⟨f345, f345x⟩ := id e344
  refine xr_callV S 8 [] [] dL_law_1092 (k_X7_cancel l (xdc X) h342 l2 _ hw) gL_law_X7_cancel rfl pd_X7_cancel ⟨Nat.le_of_ble_eq_true rfl, Nat.le_of_ble_eq_true rfl⟩ rfl (Nat.le_of_ble_eq_true rfl) ⟨by show _ ≤ 601024; omega, by show _ ≤ 7293034; omega⟩ f345x rfl (fun v9 h347 hv => ?_)
  obtain ⟨r346, rfl, hw⟩ := hv
  refine xr_istore S [(6, .int r346), (5, .int r341), (0, .ref b), (1, .ref l1), (2, .ref l2), (3, .ref l3), (4, .int l4)] dL_law_1095 (by decide) rfl ?_
  refine xr_aload_n S 4 dL_law_1097 rfl ?_
  obtain ⟨e349, hw⟩ := hw
  obtain ⟨f350, f350x⟩ := id e349
  refine xr_callV S 8 [] [] dL_law_1098 (k_X7_thrown l (xdc X) h347 l2 _ hw) gL_law_X7_thrown rfl pd_X7_thrown ⟨Nat.le_of_ble_eq_true rfl, Nat.le_of_ble_eq_true rfl⟩ rfl (Nat.le_of_ble_eq_true rfl) ⟨by show _ ≤ 601024; omega, by show _ ≤ 7293034; omega⟩ f350x rfl (fun v9 h353 hv => ?_)
  obtain ⟨r351, rfl, rfl, hw⟩ := hv
  refine xr_iload S 1 dL_law_1101 rfl ?_
  refine xw_icmp_eq S 1108 dL_law_1103 (by decide) hw (fun c hw => ?_) (fun c hw => ?_)
  · refine xr_iload S 1 dL_law_1108 rfl ?_
    refine xw_if_ne S 1125 dL_law_1110 (by decide) hw (fun c hw => ?_) (fun c hw => ?_)
    · refine xr_goto S (tgt := 1494) dL_law_1125 (by decide) ?_
      refine xr_widen S (k := cells + 64) (n := slots + 1500) (by omega) (by omega) ?_
      refine xr_sub S [(0, .ref b), (1, .ref l1), (2, .ref l2), (3, .ref l3), (4, .int l4)] [2, 3, 4, 5, 6] rfl ?_
      exact hr h347 hw
    · refine xr_aload_n S 5 dL_law_1113 rfl ?_
      refine xr_iconst S (0) dL_law_1114 (by decide) ?_
      refine xw_lald S dL_law_1115 hw (fun v354 hw => ?_)
      refine xr_iload S 0 dL_law_1116 rfl ?_
      refine xr_i2l S dL_law_1118 ?_
      refine xr_lcmp S dL_law_1119 ?_
      refine xw_if_eq S 1125 dL_law_1120 (by decide) hw (fun c hw => ?_) (fun c hw => ?_)
      · refine xr_goto S (tgt := 1494) dL_law_1125 (by decide) ?_
        refine xr_widen S (k := cells + 64) (n := slots + 1500) (by omega) (by omega) ?_
        refine xr_sub S [(0, .ref b), (1, .ref l1), (2, .ref l2), (3, .ref l3), (4, .int l4)] [2, 3, 4, 5, 6] rfl ?_
        exact hr h347 hw
      · refine xr_iconst S (0) dL_law_1123 (by decide) ?_
        exact hw.elim
  · refine xr_iconst S (0) dL_law_1106 (by decide) ?_
    exact hw.elim
def w_L_law_c15 (dc : Nat × Nat) (L : Nat) (xs : Nat → Int32) (h : XH) (l1 l2 l3 : Nat) (l4 : Int32) (rec : XH → Prop) : Prop :=
  wScr L xs (l4 + 1) (fun v355 => wScr L xs (l4 + 2) (fun v357 => w_L_passage dc h l1 v355 v357 l3 (fun r359 h360 => wScr L xs (l4 + 1) (fun v362 => wScr L xs (l4 + 2) (fun v364 => wO h360 l2 8 ( w_X7_passage dc h360 l2 v362 v364 (fun r368 h369 => wO h369 l2 8 ( w_X7_thrown dc h369 l2 (fun r373 => wIf (r373 = r359) (wIf (r359 = 0) (wAL h369 l3 0 (fun v376 => wIf ((lg_cmp v376 r368.toInt64) = 0) (rec h369) (False))) (rec h369)) (False))))))))))
set_option maxRecDepth 100000 in
set_option maxHeartbeats 4000000 in
theorem k_L_law_c15 {V : XVT} {X : XC} {l : Launch} (hfl : l.stackTraces = false) {nm : String} {b L : Nat} {xs : Nat → Int32} (SL0 : xLaw V X l nm wsL_law b L xs) (cells slots : Nat) (hc : cells + 64 ≤ 601024) (hs : slots + 1500 ≤ 7293034) (h : XH) (l1 l2 l3 : Nat) (l4 : Int32) (rec : XH → Prop) (hr : ∀ h' : XH, rec h' → V (cells + 64) (slots + 1500) h' 1494 [(0, .ref b), (1, .ref l1), (2, .ref l2), (3, .ref l3), (4, .int l4)] []) (hw : w_L_law_c15 (xdc X) L xs h l1 l2 l3 l4 rec) : V cells slots h 1128 [(0, .ref b), (1, .ref l1), (2, .ref l2), (3, .ref l3), (4, .int l4)] [] := by
  obtain ⟨S, EL, SLN, SC, DC⟩ := id SL0
  refine xr_aload_n S 1 dL_law_1128 rfl ?_
  refine xr_aload_n S 0 dL_law_1129 rfl ?_
  refine xr_iload S 4 dL_law_1130 rfl ?_
  refine xr_iconst S (1) dL_law_1132 (by decide) ?_
  refine xr_iadd S dL_law_1133 ?_
  obtain ⟨hi356, hw⟩ := hw
  refine SC _ _ _ _ _ _ _ dL_law_1134 hi356 ?_
  generalize xs (Int32.toNatClampNeg (l4 + 1)) = v355 at hw ⊢
  refine xr_aload_n S 0 dL_law_1135 rfl ?_
  refine xr_iload S 4 dL_law_1136 rfl ?_
  refine xr_iconst S (2) dL_law_1138 (by decide) ?_
  refine xr_iadd S dL_law_1139 ?_
  obtain ⟨hi358, hw⟩ := hw
  refine SC _ _ _ _ _ _ _ dL_law_1140 hi358 ?_
  generalize xs (Int32.toNatClampNeg (l4 + 2)) = v357 at hw ⊢
  refine xr_aload_n S 3 dL_law_1141 rfl ?_
  refine xr_callSW S [.ref l1, .int v355, .int v357, .ref l3] [] dL_law_1142 (k_L_passage l hfl (xdc X) h l1 v355 v357 l3 _ hw) gL_law_L_passage rfl pd_L_passage ⟨Nat.le_of_ble_eq_true rfl, Nat.le_of_ble_eq_true rfl⟩ rfl (Nat.le_of_ble_eq_true rfl) ⟨by show _ ≤ 601024; omega, by show _ ≤ 7293034; omega⟩ (fun v9 h360 hv => ?_)
  obtain ⟨r359, rfl, hw⟩ := hv
  refine xr_istore S [(5, .int r359), (0, .ref b), (1, .ref l1), (2, .ref l2), (3, .ref l3), (4, .int l4)] dL_law_1145 (by decide) rfl ?_
  refine xr_aload_n S 3 dL_law_1147 rfl ?_
  refine xr_aload_n S 1 dL_law_1148 rfl ?_
  refine xr_iload S 5 dL_law_1149 rfl ?_
  refine xr_iconst S (1) dL_law_1151 (by decide) ?_
  refine xr_iadd S dL_law_1152 ?_
  obtain ⟨hi363, hw⟩ := hw
  refine SC _ _ _ _ _ _ _ dL_law_1153 hi363 ?_
  generalize xs (Int32.toNatClampNeg (l4 + 1)) = v362 at hw ⊢
  refine xr_aload_n S 1 dL_law_1154 rfl ?_
  refine xr_iload S 5 dL_law_1155 rfl ?_
  refine xr_iconst S (2) dL_law_1157 (by decide) ?_
  refine xr_iadd S dL_law_1158 ?_
  obtain ⟨hi365, hw⟩ := hw
  refine SC _ _ _ _ _ _ _ dL_law_1159 hi365 ?_
  generalize xs (Int32.toNatClampNeg (l4 + 2)) = v364 at hw ⊢
  obtain ⟨e366, hw⟩ := hw
  obtain ⟨f367, f367x⟩ := id e366
  refine xr_callV S 8 [.int v362, .int v364] [] dL_law_1160 (k_X7_passage l (xdc X) h360 l2 v362 v364 _ hw) gL_law_X7_passage rfl pd_X7_passage ⟨Nat.le_of_ble_eq_true rfl, Nat.le_of_ble_eq_true rfl⟩ rfl (Nat.le_of_ble_eq_true rfl) ⟨by show _ ≤ 601024; omega, by show _ ≤ 7293034; omega⟩ f367x rfl (fun v9 h369 hv => ?_)
  obtain ⟨r368, rfl, hw⟩ := hv
  refine xr_istore S [(6, .int r368), (5, .int r359), (0, .ref b), (1, .ref l1), (2, .ref l2), (3, .ref l3), (4, .int l4)] dL_law_1163 (by decide) rfl ?_
  refine xr_aload_n S 4 dL_law_1165 rfl ?_
  obtain ⟨e371, hw⟩ := hw
  obtain ⟨f372, f372x⟩ := id e371
  refine xr_callV S 8 [] [] dL_law_1166 (k_X7_thrown l (xdc X) h369 l2 _ hw) gL_law_X7_thrown rfl pd_X7_thrown ⟨Nat.le_of_ble_eq_true rfl, Nat.le_of_ble_eq_true rfl⟩ rfl (Nat.le_of_ble_eq_true rfl) ⟨by show _ ≤ 601024; omega, by show _ ≤ 7293034; omega⟩ f372x rfl (fun v9 h375 hv => ?_)
  obtain ⟨r373, rfl, rfl, hw⟩ := hv
  refine xr_iload S 1 dL_law_1169 rfl ?_
  refine xw_icmp_eq S 1176 dL_law_1171 (by decide) hw (fun c hw => ?_) (fun c hw => ?_)
  · refine xr_iload S 1 dL_law_1176 rfl ?_
    refine xw_if_ne S 1193 dL_law_1178 (by decide) hw (fun c hw => ?_) (fun c hw => ?_)
    · refine xr_goto S (tgt := 1494) dL_law_1193 (by decide) ?_
      refine xr_widen S (k := cells + 64) (n := slots + 1500) (by omega) (by omega) ?_
      refine xr_sub S [(0, .ref b), (1, .ref l1), (2, .ref l2), (3, .ref l3), (4, .int l4)] [2, 3, 4, 5, 6] rfl ?_
      exact hr h369 hw
    · refine xr_aload_n S 5 dL_law_1181 rfl ?_
      refine xr_iconst S (0) dL_law_1182 (by decide) ?_
      refine xw_lald S dL_law_1183 hw (fun v376 hw => ?_)
      refine xr_iload S 0 dL_law_1184 rfl ?_
      refine xr_i2l S dL_law_1186 ?_
      refine xr_lcmp S dL_law_1187 ?_
      refine xw_if_eq S 1193 dL_law_1188 (by decide) hw (fun c hw => ?_) (fun c hw => ?_)
      · refine xr_goto S (tgt := 1494) dL_law_1193 (by decide) ?_
        refine xr_widen S (k := cells + 64) (n := slots + 1500) (by omega) (by omega) ?_
        refine xr_sub S [(0, .ref b), (1, .ref l1), (2, .ref l2), (3, .ref l3), (4, .int l4)] [2, 3, 4, 5, 6] rfl ?_
        exact hr h369 hw
      · refine xr_iconst S (0) dL_law_1191 (by decide) ?_
        exact hw.elim
  · refine xr_iconst S (0) dL_law_1174 (by decide) ?_
    exact hw.elim
def w_L_law_c16 (dc : Nat × Nat) (L : Nat) (xs : Nat → Int32) (h : XH) (l1 l2 l3 : Nat) (l4 : Int32) (rec : XH → Prop) : Prop :=
  wScr L xs (l4 + 1) (fun v377 => wScr L xs (l4 + 2) (fun v379 => w_L_occupant dc h l1 v377 v379 l3 (fun r381 h382 => wScr L xs (l4 + 1) (fun v384 => wScr L xs (l4 + 2) (fun v386 => wO h382 l2 8 ( w_X7_occupant dc h382 l2 v384 v386 (fun r390 h391 => wO h391 l2 8 ( w_X7_thrown dc h391 l2 (fun r395 => wIf (r395 = r381) (wIf (r381 = 0) (wAL h391 l3 0 (fun v398 => wIf ((lg_cmp v398 r390.toInt64) = 0) (rec h391) (False))) (rec h391)) (False))))))))))
set_option maxRecDepth 100000 in
set_option maxHeartbeats 4000000 in
theorem k_L_law_c16 {V : XVT} {X : XC} {l : Launch} (hfl : l.stackTraces = false) {nm : String} {b L : Nat} {xs : Nat → Int32} (SL0 : xLaw V X l nm wsL_law b L xs) (cells slots : Nat) (hc : cells + 64 ≤ 601024) (hs : slots + 1500 ≤ 7293034) (h : XH) (l1 l2 l3 : Nat) (l4 : Int32) (rec : XH → Prop) (hr : ∀ h' : XH, rec h' → V (cells + 64) (slots + 1500) h' 1494 [(0, .ref b), (1, .ref l1), (2, .ref l2), (3, .ref l3), (4, .int l4)] []) (hw : w_L_law_c16 (xdc X) L xs h l1 l2 l3 l4 rec) : V cells slots h 1196 [(0, .ref b), (1, .ref l1), (2, .ref l2), (3, .ref l3), (4, .int l4)] [] := by
  obtain ⟨S, EL, SLN, SC, DC⟩ := id SL0
  refine xr_aload_n S 1 dL_law_1196 rfl ?_
  refine xr_aload_n S 0 dL_law_1197 rfl ?_
  refine xr_iload S 4 dL_law_1198 rfl ?_
  refine xr_iconst S (1) dL_law_1200 (by decide) ?_
  refine xr_iadd S dL_law_1201 ?_
  obtain ⟨hi378, hw⟩ := hw
  refine SC _ _ _ _ _ _ _ dL_law_1202 hi378 ?_
  generalize xs (Int32.toNatClampNeg (l4 + 1)) = v377 at hw ⊢
  refine xr_aload_n S 0 dL_law_1203 rfl ?_
  refine xr_iload S 4 dL_law_1204 rfl ?_
  refine xr_iconst S (2) dL_law_1206 (by decide) ?_
  refine xr_iadd S dL_law_1207 ?_
  obtain ⟨hi380, hw⟩ := hw
  refine SC _ _ _ _ _ _ _ dL_law_1208 hi380 ?_
  generalize xs (Int32.toNatClampNeg (l4 + 2)) = v379 at hw ⊢
  refine xr_aload_n S 3 dL_law_1209 rfl ?_
  refine xr_callSW S [.ref l1, .int v377, .int v379, .ref l3] [] dL_law_1210 (k_L_occupant l hfl (xdc X) h l1 v377 v379 l3 _ hw) gL_law_L_occupant rfl pd_L_occupant ⟨Nat.le_of_ble_eq_true rfl, Nat.le_of_ble_eq_true rfl⟩ rfl (Nat.le_of_ble_eq_true rfl) ⟨by show _ ≤ 601024; omega, by show _ ≤ 7293034; omega⟩ (fun v9 h382 hv => ?_)
  obtain ⟨r381, rfl, hw⟩ := hv
  refine xr_istore S [(5, .int r381), (0, .ref b), (1, .ref l1), (2, .ref l2), (3, .ref l3), (4, .int l4)] dL_law_1213 (by decide) rfl ?_
  refine xr_aload_n S 3 dL_law_1215 rfl ?_
  refine xr_aload_n S 1 dL_law_1216 rfl ?_
  refine xr_iload S 5 dL_law_1217 rfl ?_
  refine xr_iconst S (1) dL_law_1219 (by decide) ?_
  refine xr_iadd S dL_law_1220 ?_
  obtain ⟨hi385, hw⟩ := hw
  refine SC _ _ _ _ _ _ _ dL_law_1221 hi385 ?_
  generalize xs (Int32.toNatClampNeg (l4 + 1)) = v384 at hw ⊢
  refine xr_aload_n S 1 dL_law_1222 rfl ?_
  refine xr_iload S 5 dL_law_1223 rfl ?_
  refine xr_iconst S (2) dL_law_1225 (by decide) ?_
  refine xr_iadd S dL_law_1226 ?_
  obtain ⟨hi387, hw⟩ := hw
  refine SC _ _ _ _ _ _ _ dL_law_1227 hi387 ?_
  generalize xs (Int32.toNatClampNeg (l4 + 2)) = v386 at hw ⊢
  obtain ⟨e388, hw⟩ := hw
  obtain ⟨f389, f389x⟩ := id e388
  refine xr_callV S 8 [.int v384, .int v386] [] dL_law_1228 (k_X7_occupant l (xdc X) h382 l2 v384 v386 _ hw) gL_law_X7_occupant rfl pd_X7_occupant ⟨Nat.le_of_ble_eq_true rfl, Nat.le_of_ble_eq_true rfl⟩ rfl (Nat.le_of_ble_eq_true rfl) ⟨by show _ ≤ 601024; omega, by show _ ≤ 7293034; omega⟩ f389x rfl (fun v9 h391 hv => ?_)
  obtain ⟨r390, rfl, hw⟩ := hv
  refine xr_istore S [(6, .int r390), (5, .int r381), (0, .ref b), (1, .ref l1), (2, .ref l2), (3, .ref l3), (4, .int l4)] dL_law_1231 (by decide) rfl ?_
  refine xr_aload_n S 4 dL_law_1233 rfl ?_
  obtain ⟨e393, hw⟩ := hw
  obtain ⟨f394, f394x⟩ := id e393
  refine xr_callV S 8 [] [] dL_law_1234 (k_X7_thrown l (xdc X) h391 l2 _ hw) gL_law_X7_thrown rfl pd_X7_thrown ⟨Nat.le_of_ble_eq_true rfl, Nat.le_of_ble_eq_true rfl⟩ rfl (Nat.le_of_ble_eq_true rfl) ⟨by show _ ≤ 601024; omega, by show _ ≤ 7293034; omega⟩ f394x rfl (fun v9 h397 hv => ?_)
  obtain ⟨r395, rfl, rfl, hw⟩ := hv
  refine xr_iload S 1 dL_law_1237 rfl ?_
  refine xw_icmp_eq S 1244 dL_law_1239 (by decide) hw (fun c hw => ?_) (fun c hw => ?_)
  · refine xr_iload S 1 dL_law_1244 rfl ?_
    refine xw_if_ne S 1261 dL_law_1246 (by decide) hw (fun c hw => ?_) (fun c hw => ?_)
    · refine xr_goto S (tgt := 1494) dL_law_1261 (by decide) ?_
      refine xr_widen S (k := cells + 64) (n := slots + 1500) (by omega) (by omega) ?_
      refine xr_sub S [(0, .ref b), (1, .ref l1), (2, .ref l2), (3, .ref l3), (4, .int l4)] [2, 3, 4, 5, 6] rfl ?_
      exact hr h391 hw
    · refine xr_aload_n S 5 dL_law_1249 rfl ?_
      refine xr_iconst S (0) dL_law_1250 (by decide) ?_
      refine xw_lald S dL_law_1251 hw (fun v398 hw => ?_)
      refine xr_iload S 0 dL_law_1252 rfl ?_
      refine xr_i2l S dL_law_1254 ?_
      refine xr_lcmp S dL_law_1255 ?_
      refine xw_if_eq S 1261 dL_law_1256 (by decide) hw (fun c hw => ?_) (fun c hw => ?_)
      · refine xr_goto S (tgt := 1494) dL_law_1261 (by decide) ?_
        refine xr_widen S (k := cells + 64) (n := slots + 1500) (by omega) (by omega) ?_
        refine xr_sub S [(0, .ref b), (1, .ref l1), (2, .ref l2), (3, .ref l3), (4, .int l4)] [2, 3, 4, 5, 6] rfl ?_
        exact hr h391 hw
      · refine xr_iconst S (0) dL_law_1259 (by decide) ?_
        exact hw.elim
  · refine xr_iconst S (0) dL_law_1242 (by decide) ?_
    exact hw.elim
def w_L_law_c17 (dc : Nat × Nat) (L : Nat) (xs : Nat → Int32) (h : XH) (l1 l2 l3 : Nat) (l4 : Int32) (rec : XH → Prop) : Prop :=
  wScr L xs (l4 + 1) (fun v399 => w_L_freeTugs dc h l1 v399 l3 (fun r401 h402 => wScr L xs (l4 + 1) (fun v404 => wO h402 l2 8 ( w_X7_freeTugs dc h402 l2 v404 (fun r408 h409 => wO h409 l2 8 ( w_X7_thrown dc h409 l2 (fun r413 => wIf (r413 = r401) (wIf (r401 = 0) (wAL h409 l3 0 (fun v416 => wIf ((lg_cmp v416 r408.toInt64) = 0) (rec h409) (False))) (rec h409)) (False))))))))
set_option maxRecDepth 100000 in
set_option maxHeartbeats 4000000 in
theorem k_L_law_c17 {V : XVT} {X : XC} {l : Launch} (hfl : l.stackTraces = false) {nm : String} {b L : Nat} {xs : Nat → Int32} (SL0 : xLaw V X l nm wsL_law b L xs) (cells slots : Nat) (hc : cells + 64 ≤ 601024) (hs : slots + 1500 ≤ 7293034) (h : XH) (l1 l2 l3 : Nat) (l4 : Int32) (rec : XH → Prop) (hr : ∀ h' : XH, rec h' → V (cells + 64) (slots + 1500) h' 1494 [(0, .ref b), (1, .ref l1), (2, .ref l2), (3, .ref l3), (4, .int l4)] []) (hw : w_L_law_c17 (xdc X) L xs h l1 l2 l3 l4 rec) : V cells slots h 1264 [(0, .ref b), (1, .ref l1), (2, .ref l2), (3, .ref l3), (4, .int l4)] [] := by
  obtain ⟨S, EL, SLN, SC, DC⟩ := id SL0
  refine xr_aload_n S 1 dL_law_1264 rfl ?_
  refine xr_aload_n S 0 dL_law_1265 rfl ?_
  refine xr_iload S 4 dL_law_1266 rfl ?_
  refine xr_iconst S (1) dL_law_1268 (by decide) ?_
  refine xr_iadd S dL_law_1269 ?_
  obtain ⟨hi400, hw⟩ := hw
  refine SC _ _ _ _ _ _ _ dL_law_1270 hi400 ?_
  generalize xs (Int32.toNatClampNeg (l4 + 1)) = v399 at hw ⊢
  refine xr_aload_n S 3 dL_law_1271 rfl ?_
  refine xr_callSW S [.ref l1, .int v399, .ref l3] [] dL_law_1272 (k_L_freeTugs l hfl (xdc X) h l1 v399 l3 _ hw) gL_law_L_freeTugs rfl pd_L_freeTugs ⟨Nat.le_of_ble_eq_true rfl, Nat.le_of_ble_eq_true rfl⟩ rfl (Nat.le_of_ble_eq_true rfl) ⟨by show _ ≤ 601024; omega, by show _ ≤ 7293034; omega⟩ (fun v9 h402 hv => ?_)
  obtain ⟨r401, rfl, hw⟩ := hv
  refine xr_istore S [(5, .int r401), (0, .ref b), (1, .ref l1), (2, .ref l2), (3, .ref l3), (4, .int l4)] dL_law_1275 (by decide) rfl ?_
  refine xr_aload_n S 3 dL_law_1277 rfl ?_
  refine xr_aload_n S 1 dL_law_1278 rfl ?_
  refine xr_iload S 5 dL_law_1279 rfl ?_
  refine xr_iconst S (1) dL_law_1281 (by decide) ?_
  refine xr_iadd S dL_law_1282 ?_
  obtain ⟨hi405, hw⟩ := hw
  refine SC _ _ _ _ _ _ _ dL_law_1283 hi405 ?_
  generalize xs (Int32.toNatClampNeg (l4 + 1)) = v404 at hw ⊢
  obtain ⟨e406, hw⟩ := hw
  obtain ⟨f407, f407x⟩ := id e406
  refine xr_callV S 8 [.int v404] [] dL_law_1284 (k_X7_freeTugs l (xdc X) h402 l2 v404 _ hw) gL_law_X7_freeTugs rfl pd_X7_freeTugs ⟨Nat.le_of_ble_eq_true rfl, Nat.le_of_ble_eq_true rfl⟩ rfl (Nat.le_of_ble_eq_true rfl) ⟨by show _ ≤ 601024; omega, by show _ ≤ 7293034; omega⟩ f407x rfl (fun v9 h409 hv => ?_)
  obtain ⟨r408, rfl, hw⟩ := hv
  refine xr_istore S [(6, .int r408), (5, .int r401), (0, .ref b), (1, .ref l1), (2, .ref l2), (3, .ref l3), (4, .int l4)] dL_law_1287 (by decide) rfl ?_
  refine xr_aload_n S 4 dL_law_1289 rfl ?_
  obtain ⟨e411, hw⟩ := hw
  obtain ⟨f412, f412x⟩ := id e411
  refine xr_callV S 8 [] [] dL_law_1290 (k_X7_thrown l (xdc X) h409 l2 _ hw) gL_law_X7_thrown rfl pd_X7_thrown ⟨Nat.le_of_ble_eq_true rfl, Nat.le_of_ble_eq_true rfl⟩ rfl (Nat.le_of_ble_eq_true rfl) ⟨by show _ ≤ 601024; omega, by show _ ≤ 7293034; omega⟩ f412x rfl (fun v9 h415 hv => ?_)
  obtain ⟨r413, rfl, rfl, hw⟩ := hv
  refine xr_iload S 1 dL_law_1293 rfl ?_
  refine xw_icmp_eq S 1300 dL_law_1295 (by decide) hw (fun c hw => ?_) (fun c hw => ?_)
  · refine xr_iload S 1 dL_law_1300 rfl ?_
    refine xw_if_ne S 1317 dL_law_1302 (by decide) hw (fun c hw => ?_) (fun c hw => ?_)
    · refine xr_goto S (tgt := 1494) dL_law_1317 (by decide) ?_
      refine xr_widen S (k := cells + 64) (n := slots + 1500) (by omega) (by omega) ?_
      refine xr_sub S [(0, .ref b), (1, .ref l1), (2, .ref l2), (3, .ref l3), (4, .int l4)] [2, 3, 4, 5, 6] rfl ?_
      exact hr h409 hw
    · refine xr_aload_n S 5 dL_law_1305 rfl ?_
      refine xr_iconst S (0) dL_law_1306 (by decide) ?_
      refine xw_lald S dL_law_1307 hw (fun v416 hw => ?_)
      refine xr_iload S 0 dL_law_1308 rfl ?_
      refine xr_i2l S dL_law_1310 ?_
      refine xr_lcmp S dL_law_1311 ?_
      refine xw_if_eq S 1317 dL_law_1312 (by decide) hw (fun c hw => ?_) (fun c hw => ?_)
      · refine xr_goto S (tgt := 1494) dL_law_1317 (by decide) ?_
        refine xr_widen S (k := cells + 64) (n := slots + 1500) (by omega) (by omega) ?_
        refine xr_sub S [(0, .ref b), (1, .ref l1), (2, .ref l2), (3, .ref l3), (4, .int l4)] [2, 3, 4, 5, 6] rfl ?_
        exact hr h409 hw
      · refine xr_iconst S (0) dL_law_1315 (by decide) ?_
        exact hw.elim
  · refine xr_iconst S (0) dL_law_1298 (by decide) ?_
    exact hw.elim
def w_L_law_c18 (dc : Nat × Nat) (L : Nat) (xs : Nat → Int32) (h : XH) (l1 l2 l3 : Nat) (l4 : Int32) (rec : XH → Prop) : Prop :=
  wScr L xs (l4 + 1) (fun v417 => w_L_trips dc h l1 v417 l3 (fun r419 h420 => wScr L xs (l4 + 1) (fun v422 => wO h420 l2 8 ( w_X7_trips dc h420 l2 v422 (fun r426 h427 => wO h427 l2 8 ( w_X7_thrown dc h427 l2 (fun r431 => wIf (r431 = r419) (wIf (r419 = 0) (wAL h427 l3 0 (fun v434 => wIf ((lg_cmp v434 r426.toInt64) = 0) (rec h427) (False))) (rec h427)) (False))))))))
set_option maxRecDepth 100000 in
set_option maxHeartbeats 4000000 in
theorem k_L_law_c18 {V : XVT} {X : XC} {l : Launch} (hfl : l.stackTraces = false) {nm : String} {b L : Nat} {xs : Nat → Int32} (SL0 : xLaw V X l nm wsL_law b L xs) (cells slots : Nat) (hc : cells + 64 ≤ 601024) (hs : slots + 1500 ≤ 7293034) (h : XH) (l1 l2 l3 : Nat) (l4 : Int32) (rec : XH → Prop) (hr : ∀ h' : XH, rec h' → V (cells + 64) (slots + 1500) h' 1494 [(0, .ref b), (1, .ref l1), (2, .ref l2), (3, .ref l3), (4, .int l4)] []) (hw : w_L_law_c18 (xdc X) L xs h l1 l2 l3 l4 rec) : V cells slots h 1320 [(0, .ref b), (1, .ref l1), (2, .ref l2), (3, .ref l3), (4, .int l4)] [] := by
  obtain ⟨S, EL, SLN, SC, DC⟩ := id SL0
  refine xr_aload_n S 1 dL_law_1320 rfl ?_
  refine xr_aload_n S 0 dL_law_1321 rfl ?_
  refine xr_iload S 4 dL_law_1322 rfl ?_
  refine xr_iconst S (1) dL_law_1324 (by decide) ?_
  refine xr_iadd S dL_law_1325 ?_
  obtain ⟨hi418, hw⟩ := hw
  refine SC _ _ _ _ _ _ _ dL_law_1326 hi418 ?_
  generalize xs (Int32.toNatClampNeg (l4 + 1)) = v417 at hw ⊢
  refine xr_aload_n S 3 dL_law_1327 rfl ?_
  refine xr_callSW S [.ref l1, .int v417, .ref l3] [] dL_law_1328 (k_L_trips l hfl (xdc X) h l1 v417 l3 _ hw) gL_law_L_trips rfl pd_L_trips ⟨Nat.le_of_ble_eq_true rfl, Nat.le_of_ble_eq_true rfl⟩ rfl (Nat.le_of_ble_eq_true rfl) ⟨by show _ ≤ 601024; omega, by show _ ≤ 7293034; omega⟩ (fun v9 h420 hv => ?_)
  obtain ⟨r419, rfl, hw⟩ := hv
  refine xr_istore S [(5, .int r419), (0, .ref b), (1, .ref l1), (2, .ref l2), (3, .ref l3), (4, .int l4)] dL_law_1331 (by decide) rfl ?_
  refine xr_aload_n S 3 dL_law_1333 rfl ?_
  refine xr_aload_n S 1 dL_law_1334 rfl ?_
  refine xr_iload S 5 dL_law_1335 rfl ?_
  refine xr_iconst S (1) dL_law_1337 (by decide) ?_
  refine xr_iadd S dL_law_1338 ?_
  obtain ⟨hi423, hw⟩ := hw
  refine SC _ _ _ _ _ _ _ dL_law_1339 hi423 ?_
  generalize xs (Int32.toNatClampNeg (l4 + 1)) = v422 at hw ⊢
  obtain ⟨e424, hw⟩ := hw
  obtain ⟨f425, f425x⟩ := id e424
  refine xr_callV S 8 [.int v422] [] dL_law_1340 (k_X7_trips l (xdc X) h420 l2 v422 _ hw) gL_law_X7_trips rfl pd_X7_trips ⟨Nat.le_of_ble_eq_true rfl, Nat.le_of_ble_eq_true rfl⟩ rfl (Nat.le_of_ble_eq_true rfl) ⟨by show _ ≤ 601024; omega, by show _ ≤ 7293034; omega⟩ f425x rfl (fun v9 h427 hv => ?_)
  obtain ⟨r426, rfl, hw⟩ := hv
  refine xr_istore S [(6, .int r426), (5, .int r419), (0, .ref b), (1, .ref l1), (2, .ref l2), (3, .ref l3), (4, .int l4)] dL_law_1343 (by decide) rfl ?_
  refine xr_aload_n S 4 dL_law_1345 rfl ?_
  obtain ⟨e429, hw⟩ := hw
  obtain ⟨f430, f430x⟩ := id e429
  refine xr_callV S 8 [] [] dL_law_1346 (k_X7_thrown l (xdc X) h427 l2 _ hw) gL_law_X7_thrown rfl pd_X7_thrown ⟨Nat.le_of_ble_eq_true rfl, Nat.le_of_ble_eq_true rfl⟩ rfl (Nat.le_of_ble_eq_true rfl) ⟨by show _ ≤ 601024; omega, by show _ ≤ 7293034; omega⟩ f430x rfl (fun v9 h433 hv => ?_)
  obtain ⟨r431, rfl, rfl, hw⟩ := hv
  refine xr_iload S 1 dL_law_1349 rfl ?_
  refine xw_icmp_eq S 1356 dL_law_1351 (by decide) hw (fun c hw => ?_) (fun c hw => ?_)
  · refine xr_iload S 1 dL_law_1356 rfl ?_
    refine xw_if_ne S 1373 dL_law_1358 (by decide) hw (fun c hw => ?_) (fun c hw => ?_)
    · refine xr_goto S (tgt := 1494) dL_law_1373 (by decide) ?_
      refine xr_widen S (k := cells + 64) (n := slots + 1500) (by omega) (by omega) ?_
      refine xr_sub S [(0, .ref b), (1, .ref l1), (2, .ref l2), (3, .ref l3), (4, .int l4)] [2, 3, 4, 5, 6] rfl ?_
      exact hr h427 hw
    · refine xr_aload_n S 5 dL_law_1361 rfl ?_
      refine xr_iconst S (0) dL_law_1362 (by decide) ?_
      refine xw_lald S dL_law_1363 hw (fun v434 hw => ?_)
      refine xr_iload S 0 dL_law_1364 rfl ?_
      refine xr_i2l S dL_law_1366 ?_
      refine xr_lcmp S dL_law_1367 ?_
      refine xw_if_eq S 1373 dL_law_1368 (by decide) hw (fun c hw => ?_) (fun c hw => ?_)
      · refine xr_goto S (tgt := 1494) dL_law_1373 (by decide) ?_
        refine xr_widen S (k := cells + 64) (n := slots + 1500) (by omega) (by omega) ?_
        refine xr_sub S [(0, .ref b), (1, .ref l1), (2, .ref l2), (3, .ref l3), (4, .int l4)] [2, 3, 4, 5, 6] rfl ?_
        exact hr h427 hw
      · refine xr_iconst S (0) dL_law_1371 (by decide) ?_
        exact hw.elim
  · refine xr_iconst S (0) dL_law_1354 (by decide) ?_
    exact hw.elim
def w_L_law_c19 (dc : Nat × Nat) (L : Nat) (xs : Nat → Int32) (h : XH) (l1 l2 l3 : Nat) (l4 : Int32) (rec : XH → Prop) : Prop :=
  wScr L xs (l4 + 1) (fun v435 => w_L_isInPort dc h l1 v435 l3 (fun r437 h438 => wScr L xs (l4 + 1) (fun v440 => wO h438 l2 8 ( w_X7_isInPort dc h438 l2 v440 (fun r444 h445 => wO h445 l2 8 ( w_X7_thrown dc h445 l2 (fun r449 => wIf (r449 = r437) (wIf (r437 = 0) (wAL h445 l3 0 (fun v452 => wIf (r444 = 0) (wIf ((lg_cmp v452 0) = 0) (rec h445) (False)) (wIf ((lg_cmp v452 1) = 0) (rec h445) (False)))) (rec h445)) (False))))))))
set_option maxRecDepth 100000 in
set_option maxHeartbeats 4000000 in
theorem k_L_law_c19 {V : XVT} {X : XC} {l : Launch} (hfl : l.stackTraces = false) {nm : String} {b L : Nat} {xs : Nat → Int32} (SL0 : xLaw V X l nm wsL_law b L xs) (cells slots : Nat) (hc : cells + 64 ≤ 601024) (hs : slots + 1500 ≤ 7293034) (h : XH) (l1 l2 l3 : Nat) (l4 : Int32) (rec : XH → Prop) (hr : ∀ h' : XH, rec h' → V (cells + 64) (slots + 1500) h' 1494 [(0, .ref b), (1, .ref l1), (2, .ref l2), (3, .ref l3), (4, .int l4)] []) (hw : w_L_law_c19 (xdc X) L xs h l1 l2 l3 l4 rec) : V cells slots h 1376 [(0, .ref b), (1, .ref l1), (2, .ref l2), (3, .ref l3), (4, .int l4)] [] := by
  obtain ⟨S, EL, SLN, SC, DC⟩ := id SL0
  refine xr_aload_n S 1 dL_law_1376 rfl ?_
  refine xr_aload_n S 0 dL_law_1377 rfl ?_
  refine xr_iload S 4 dL_law_1378 rfl ?_
  refine xr_iconst S (1) dL_law_1380 (by decide) ?_
  refine xr_iadd S dL_law_1381 ?_
  obtain ⟨hi436, hw⟩ := hw
  refine SC _ _ _ _ _ _ _ dL_law_1382 hi436 ?_
  generalize xs (Int32.toNatClampNeg (l4 + 1)) = v435 at hw ⊢
  refine xr_aload_n S 3 dL_law_1383 rfl ?_
  refine xr_callSW S [.ref l1, .int v435, .ref l3] [] dL_law_1384 (k_L_isInPort l hfl (xdc X) h l1 v435 l3 _ hw) gL_law_L_isInPort rfl pd_L_isInPort ⟨Nat.le_of_ble_eq_true rfl, Nat.le_of_ble_eq_true rfl⟩ rfl (Nat.le_of_ble_eq_true rfl) ⟨by show _ ≤ 601024; omega, by show _ ≤ 7293034; omega⟩ (fun v9 h438 hv => ?_)
  obtain ⟨r437, rfl, hw⟩ := hv
  refine xr_istore S [(5, .int r437), (0, .ref b), (1, .ref l1), (2, .ref l2), (3, .ref l3), (4, .int l4)] dL_law_1387 (by decide) rfl ?_
  refine xr_aload_n S 3 dL_law_1389 rfl ?_
  refine xr_aload_n S 1 dL_law_1390 rfl ?_
  refine xr_iload S 5 dL_law_1391 rfl ?_
  refine xr_iconst S (1) dL_law_1393 (by decide) ?_
  refine xr_iadd S dL_law_1394 ?_
  obtain ⟨hi441, hw⟩ := hw
  refine SC _ _ _ _ _ _ _ dL_law_1395 hi441 ?_
  generalize xs (Int32.toNatClampNeg (l4 + 1)) = v440 at hw ⊢
  obtain ⟨e442, hw⟩ := hw
  obtain ⟨f443, f443x⟩ := id e442
  refine xr_callV S 8 [.int v440] [] dL_law_1396 (k_X7_isInPort l (xdc X) h438 l2 v440 _ hw) gL_law_X7_isInPort rfl pd_X7_isInPort ⟨Nat.le_of_ble_eq_true rfl, Nat.le_of_ble_eq_true rfl⟩ rfl (Nat.le_of_ble_eq_true rfl) ⟨by show _ ≤ 601024; omega, by show _ ≤ 7293034; omega⟩ f443x rfl (fun v9 h445 hv => ?_)
  obtain ⟨r444, rfl, hw⟩ := hv
  refine xr_istore S [(6, .int r444), (5, .int r437), (0, .ref b), (1, .ref l1), (2, .ref l2), (3, .ref l3), (4, .int l4)] dL_law_1399 (by decide) rfl ?_
  refine xr_aload_n S 4 dL_law_1401 rfl ?_
  obtain ⟨e447, hw⟩ := hw
  obtain ⟨f448, f448x⟩ := id e447
  refine xr_callV S 8 [] [] dL_law_1402 (k_X7_thrown l (xdc X) h445 l2 _ hw) gL_law_X7_thrown rfl pd_X7_thrown ⟨Nat.le_of_ble_eq_true rfl, Nat.le_of_ble_eq_true rfl⟩ rfl (Nat.le_of_ble_eq_true rfl) ⟨by show _ ≤ 601024; omega, by show _ ≤ 7293034; omega⟩ f448x rfl (fun v9 h451 hv => ?_)
  obtain ⟨r449, rfl, rfl, hw⟩ := hv
  refine xr_iload S 1 dL_law_1405 rfl ?_
  refine xw_icmp_eq S 1412 dL_law_1407 (by decide) hw (fun c hw => ?_) (fun c hw => ?_)
  · refine xr_iload S 1 dL_law_1412 rfl ?_
    refine xw_if_ne S 1436 dL_law_1414 (by decide) hw (fun c hw => ?_) (fun c hw => ?_)
    · refine xr_goto S (tgt := 1494) dL_law_1436 (by decide) ?_
      refine xr_widen S (k := cells + 64) (n := slots + 1500) (by omega) (by omega) ?_
      refine xr_sub S [(0, .ref b), (1, .ref l1), (2, .ref l2), (3, .ref l3), (4, .int l4)] [2, 3, 4, 5, 6] rfl ?_
      exact hr h445 hw
    · refine xr_aload_n S 5 dL_law_1417 rfl ?_
      refine xr_iconst S (0) dL_law_1418 (by decide) ?_
      refine xw_lald S dL_law_1419 hw (fun v452 hw => ?_)
      refine xr_iload S 0 dL_law_1420 rfl ?_
      refine xw_if_eq S 1429 dL_law_1422 (by decide) hw (fun c hw => ?_) (fun c hw => ?_)
      · refine xr_lconst S 0 dL_law_1429 (by decide) ?_
        refine xr_lcmp S dL_law_1430 ?_
        refine xw_if_eq S 1436 dL_law_1431 (by decide) hw (fun c hw => ?_) (fun c hw => ?_)
        · refine xr_goto S (tgt := 1494) dL_law_1436 (by decide) ?_
          refine xr_widen S (k := cells + 64) (n := slots + 1500) (by omega) (by omega) ?_
          refine xr_sub S [(0, .ref b), (1, .ref l1), (2, .ref l2), (3, .ref l3), (4, .int l4)] [2, 3, 4, 5, 6] rfl ?_
          exact hr h445 hw
        · refine xr_iconst S (0) dL_law_1434 (by decide) ?_
          exact hw.elim
      · refine xr_lconst S 1 dL_law_1425 (by decide) ?_
        refine xr_goto S (tgt := 1430) dL_law_1426 (by decide) ?_
        refine xr_lcmp S dL_law_1430 ?_
        refine xw_if_eq S 1436 dL_law_1431 (by decide) hw (fun c hw => ?_) (fun c hw => ?_)
        · refine xr_goto S (tgt := 1494) dL_law_1436 (by decide) ?_
          refine xr_widen S (k := cells + 64) (n := slots + 1500) (by omega) (by omega) ?_
          refine xr_sub S [(0, .ref b), (1, .ref l1), (2, .ref l2), (3, .ref l3), (4, .int l4)] [2, 3, 4, 5, 6] rfl ?_
          exact hr h445 hw
        · refine xr_iconst S (0) dL_law_1434 (by decide) ?_
          exact hw.elim
  · refine xr_iconst S (0) dL_law_1410 (by decide) ?_
    exact hw.elim
def w_L_law_c20 (dc : Nat × Nat) (L : Nat) (xs : Nat → Int32) (h : XH) (l1 l2 l3 : Nat) (l4 : Int32) (rec : XH → Prop) : Prop :=
  wO h l1 7 ( w_X6_delay dc h l1 (fun r455 => wO h l2 8 ( w_X7_delay dc h l2 (fun r460 h461 => wIf ((Op.cmpValue (FP.dcmp r455 r460) .l) = 0) (rec h461) (wIf ((Op.cmpValue (FP.dcmp r455 r455) .l) = 0) (False) (wIf ((Op.cmpValue (FP.dcmp r460 r460) .l) = 0) (False) (rec h461)))))))
set_option maxRecDepth 100000 in
set_option maxHeartbeats 4000000 in
theorem k_L_law_c20 {V : XVT} {X : XC} {l : Launch} (hfl : l.stackTraces = false) {nm : String} {b L : Nat} {xs : Nat → Int32} (SL0 : xLaw V X l nm wsL_law b L xs) (cells slots : Nat) (hc : cells + 64 ≤ 601024) (hs : slots + 1500 ≤ 7293034) (h : XH) (l1 l2 l3 : Nat) (l4 : Int32) (rec : XH → Prop) (hr : ∀ h' : XH, rec h' → V (cells + 64) (slots + 1500) h' 1494 [(0, .ref b), (1, .ref l1), (2, .ref l2), (3, .ref l3), (4, .int l4)] []) (hw : w_L_law_c20 (xdc X) L xs h l1 l2 l3 l4 rec) : V cells slots h 1439 [(0, .ref b), (1, .ref l1), (2, .ref l2), (3, .ref l3), (4, .int l4)] [] := by
  obtain ⟨S, EL, SLN, SC, DC⟩ := id SL0
  refine xr_aload_n S 1 dL_law_1439 rfl ?_
  obtain ⟨e453, hw⟩ := hw
  obtain ⟨f454, f454x⟩ := id e453
  refine DC _ _ _ _ _ [] _ _ _ _ _ l1 _ 7 _ _ _ _ _ _ _ _ _ dL_law_1440 (k_X6_delay l (xdc X) h l1 _ hw) gL_law_X6_delay rfl pd_X6_delay ⟨Nat.le_of_ble_eq_true rfl, Nat.le_of_ble_eq_true rfl⟩ (Nat.le_of_ble_eq_true rfl) ⟨by show _ ≤ 601024; omega, by show _ ≤ 7293034; omega⟩ f454x rfl (fun v9 h457 hv => ?_)
  obtain ⟨r455, rfl, rfl, hw⟩ := hv
  refine xr_dstore S [(5, .double r455), (0, .ref b), (1, .ref l1), (2, .ref l2), (3, .ref l3), (4, .int l4)] dL_law_1443 (by decide) rfl ?_
  refine xr_aload_n S 3 dL_law_1445 rfl ?_
  obtain ⟨e458, hw⟩ := hw
  obtain ⟨f459, f459x⟩ := id e458
  refine DC _ _ _ _ _ [] _ _ _ _ _ l2 _ 8 _ _ _ _ _ _ _ _ _ dL_law_1446 (k_X7_delay l (xdc X) h l2 _ hw) gL_law_X7_delay rfl pd_X7_delay ⟨Nat.le_of_ble_eq_true rfl, Nat.le_of_ble_eq_true rfl⟩ (Nat.le_of_ble_eq_true rfl) ⟨by show _ ≤ 601024; omega, by show _ ≤ 7293034; omega⟩ f459x rfl (fun v9 h461 hv => ?_)
  obtain ⟨r460, rfl, hw⟩ := hv
  refine xr_dstore S [(7, .double r460), (5, .double r455), (0, .ref b), (1, .ref l1), (2, .ref l2), (3, .ref l3), (4, .int l4)] dL_law_1449 (by decide) rfl ?_
  refine xr_dload S 1 dL_law_1451 rfl ?_
  refine xr_dload S 0 dL_law_1453 rfl ?_
  refine xr_dcmp S dL_law_1455 ?_
  refine xw_if_eq S 1477 dL_law_1456 (by decide) hw (fun c hw => ?_) (fun c hw => ?_)
  · refine xr_goto S (tgt := 1494) dL_law_1477 (by decide) ?_
    refine xr_widen S (k := cells + 64) (n := slots + 1500) (by omega) (by omega) ?_
    refine xr_sub S [(0, .ref b), (1, .ref l1), (2, .ref l2), (3, .ref l3), (4, .int l4)] [2, 3, 4, 5, 6] rfl ?_
    exact hr h461 hw
  · refine xr_dload S 1 dL_law_1459 rfl ?_
    refine xr_dload S 1 dL_law_1461 rfl ?_
    refine xr_dcmp S dL_law_1463 ?_
    refine xw_if_eq S 1475 dL_law_1464 (by decide) hw (fun c hw => ?_) (fun c hw => ?_)
    · refine xr_iconst S (0) dL_law_1475 (by decide) ?_
      exact hw.elim
    · refine xr_dload S 0 dL_law_1467 rfl ?_
      refine xr_dload S 0 dL_law_1469 rfl ?_
      refine xr_dcmp S dL_law_1471 ?_
      refine xw_if_ne S 1477 dL_law_1472 (by decide) hw (fun c hw => ?_) (fun c hw => ?_)
      · refine xr_goto S (tgt := 1494) dL_law_1477 (by decide) ?_
        refine xr_widen S (k := cells + 64) (n := slots + 1500) (by omega) (by omega) ?_
        refine xr_sub S [(0, .ref b), (1, .ref l1), (2, .ref l2), (3, .ref l3), (4, .int l4)] [2, 3, 4, 5, 6] rfl ?_
        exact hr h461 hw
      · refine xr_iconst S (0) dL_law_1475 (by decide) ?_
        exact hw.elim
def w_L_law_c21 (dc : Nat × Nat) (L : Nat) (xs : Nat → Int32) (h : XH) (l1 l2 l3 : Nat) (l4 : Int32) (rec : XH → Prop) : Prop :=
  wO h l1 7 ( w_X6_digest dc h l1 (fun r465 => wO h l2 8 ( w_X7_digest dc h l2 (fun r470 h471 => wIf ((lg_cmp r465 r470) = 0) (rec h471) (False)))))
set_option maxRecDepth 100000 in
set_option maxHeartbeats 4000000 in
theorem k_L_law_c21 {V : XVT} {X : XC} {l : Launch} (hfl : l.stackTraces = false) {nm : String} {b L : Nat} {xs : Nat → Int32} (SL0 : xLaw V X l nm wsL_law b L xs) (cells slots : Nat) (hc : cells + 64 ≤ 601024) (hs : slots + 1500 ≤ 7293034) (h : XH) (l1 l2 l3 : Nat) (l4 : Int32) (rec : XH → Prop) (hr : ∀ h' : XH, rec h' → V (cells + 64) (slots + 1500) h' 1494 [(0, .ref b), (1, .ref l1), (2, .ref l2), (3, .ref l3), (4, .int l4)] []) (hw : w_L_law_c21 (xdc X) L xs h l1 l2 l3 l4 rec) : V cells slots h 1480 [(0, .ref b), (1, .ref l1), (2, .ref l2), (3, .ref l3), (4, .int l4)] [] := by
  obtain ⟨S, EL, SLN, SC, DC⟩ := id SL0
  refine xr_aload_n S 1 dL_law_1480 rfl ?_
  obtain ⟨e463, hw⟩ := hw
  obtain ⟨f464, f464x⟩ := id e463
  refine xr_callV S 7 [] [] dL_law_1481 (k_X6_digest l (xdc X) h l1 _ hw) gL_law_X6_digest rfl pd_X6_digest ⟨Nat.le_of_ble_eq_true rfl, Nat.le_of_ble_eq_true rfl⟩ rfl (Nat.le_of_ble_eq_true rfl) ⟨by show _ ≤ 601024; omega, by show _ ≤ 7293034; omega⟩ f464x rfl (fun v9 h467 hv => ?_)
  obtain ⟨r465, rfl, rfl, hw⟩ := hv
  refine xr_aload_n S 2 dL_law_1484 rfl ?_
  obtain ⟨e468, hw⟩ := hw
  obtain ⟨f469, f469x⟩ := id e468
  refine xr_callV S 8 [] [.long r465] dL_law_1485 (k_X7_digest l (xdc X) h l2 _ hw) gL_law_X7_digest rfl pd_X7_digest ⟨Nat.le_of_ble_eq_true rfl, Nat.le_of_ble_eq_true rfl⟩ rfl (Nat.le_of_ble_eq_true rfl) ⟨by show _ ≤ 601024; omega, by show _ ≤ 7293034; omega⟩ f469x rfl (fun v9 h471 hv => ?_)
  obtain ⟨r470, rfl, hw⟩ := hv
  refine xr_lcmp S dL_law_1488 ?_
  refine xw_if_eq S 1494 dL_law_1489 (by decide) hw (fun c hw => ?_) (fun c hw => ?_)
  · refine xr_widen S (k := cells + 64) (n := slots + 1500) (by omega) (by omega) ?_
    exact hr h471 hw
  · refine xr_iconst S (0) dL_law_1492 (by decide) ?_
    exact hw.elim
def w_L_law_23_F (dc : Nat × Nat) (L : Nat) (xs : Nat → Int32) (l1 l2 l3 : Nat) (rec : XH × Int32 → Prop) : XH × Int32 → Prop := fun s => match s with
  | (h, l4) =>
  wIf (Int32.ofNat L - 4 < l4) True (wScr L xs l4 (fun v => ((v &&& 31) = 0 → w_L_law_c0 dc L xs h l1 l2 l3 l4 (fun h' => rec (h', l4 + 4))) ∧ ((v &&& 31) = 1 → w_L_law_c1 dc L xs h l1 l2 l3 l4 (fun h' => rec (h', l4 + 4))) ∧ ((v &&& 31) = 2 → w_L_law_c2 dc L xs h l1 l2 l3 l4 (fun h' => rec (h', l4 + 4))) ∧ ((v &&& 31) = 3 → w_L_law_c3 dc L xs h l1 l2 l3 l4 (fun h' => rec (h', l4 + 4))) ∧ ((v &&& 31) = 4 → w_L_law_c4 dc L xs h l1 l2 l3 l4 (fun h' => rec (h', l4 + 4))) ∧ ((v &&& 31) = 5 → w_L_law_c5 dc L xs h l1 l2 l3 l4 (fun h' => rec (h', l4 + 4))) ∧ ((v &&& 31) = 6 → w_L_law_c6 dc L xs h l1 l2 l3 l4 (fun h' => rec (h', l4 + 4))) ∧ ((v &&& 31) = 7 → w_L_law_c7 dc L xs h l1 l2 l3 l4 (fun h' => rec (h', l4 + 4))) ∧ ((v &&& 31) = 8 → w_L_law_c8 dc L xs h l1 l2 l3 l4 (fun h' => rec (h', l4 + 4))) ∧ ((v &&& 31) = 9 → w_L_law_c9 dc L xs h l1 l2 l3 l4 (fun h' => rec (h', l4 + 4))) ∧ ((v &&& 31) = 10 → w_L_law_c10 dc L xs h l1 l2 l3 l4 (fun h' => rec (h', l4 + 4))) ∧ ((v &&& 31) = 11 → w_L_law_c11 dc L xs h l1 l2 l3 l4 (fun h' => rec (h', l4 + 4))) ∧ ((v &&& 31) = 12 → w_L_law_c12 dc L xs h l1 l2 l3 l4 (fun h' => rec (h', l4 + 4))) ∧ ((v &&& 31) = 13 → w_L_law_c13 dc L xs h l1 l2 l3 l4 (fun h' => rec (h', l4 + 4))) ∧ ((v &&& 31) = 14 → w_L_law_c14 dc L xs h l1 l2 l3 l4 (fun h' => rec (h', l4 + 4))) ∧ ((v &&& 31) = 15 → w_L_law_c15 dc L xs h l1 l2 l3 l4 (fun h' => rec (h', l4 + 4))) ∧ ((v &&& 31) = 16 → w_L_law_c16 dc L xs h l1 l2 l3 l4 (fun h' => rec (h', l4 + 4))) ∧ ((v &&& 31) = 17 → w_L_law_c17 dc L xs h l1 l2 l3 l4 (fun h' => rec (h', l4 + 4))) ∧ ((v &&& 31) = 18 → w_L_law_c18 dc L xs h l1 l2 l3 l4 (fun h' => rec (h', l4 + 4))) ∧ ((v &&& 31) = 19 → w_L_law_c19 dc L xs h l1 l2 l3 l4 (fun h' => rec (h', l4 + 4))) ∧ ((v &&& 31) = 20 → w_L_law_c20 dc L xs h l1 l2 l3 l4 (fun h' => rec (h', l4 + 4))) ∧ ((v &&& 31) = 21 → w_L_law_c21 dc L xs h l1 l2 l3 l4 (fun h' => rec (h', l4 + 4))) ∧ ((v &&& 31).toInt < 0 ∨ 21 < (v &&& 31).toInt → rec (h, l4 + 4))))
def w_L_law_23 (dc : Nat × Nat) (L : Nat) (xs : Nat → Int32) (l1 l2 l3 : Nat) : XH × Int32 → Prop := xloop (w_L_law_23_F dc L xs l1 l2 l3)
set_option maxRecDepth 100000 in
set_option maxHeartbeats 4000000 in
theorem k_L_law_23 {V : XVT} {X : XC} {l : Launch} (hfl : l.stackTraces = false) {nm : String} {b L : Nat} {xs : Nat → Int32} (SL0 : xLaw V X l nm wsL_law b L xs) (hL : L ≤ 2048) (l1 l2 l3 : Nat) (s0 : XH × Int32) (hw : w_L_law_23 (xdc X) L xs l1 l2 l3 s0) : ∀ n : Nat, s0.2 = nI (4 * n) → n ≤ 512 → V (40 + 64 * n) (800 + 1500 * n) s0.1 23 [(0, .ref b), (1, .ref l1), (2, .ref l2), (3, .ref l3), (4, .int s0.2)] [] := by
  refine xloop_use (P := fun s : XH × Int32 => ∀ n : Nat, s.2 = nI (4 * n) → n ≤ 512 → V (40 + 64 * n) (800 + 1500 * n) s.1 23 [(0, .ref b), (1, .ref l1), (2, .ref l2), (3, .ref l3), (4, .int s.2)] []) (fun rec23 hr23 s hw => ?_) hw
  obtain ⟨h, l4⟩ := s
  intro n hn hle
  dsimp only at hn ⊢
  obtain ⟨S, EL, SLN, SC, DC⟩ := id SL0
  refine xr_iload S 4 dL_law_23 rfl ?_
  refine xr_aload_n S 0 dL_law_25 rfl ?_
  refine SLN _ _ _ _ _ _ dL_law_26 ?_
  refine xr_iconst S 4 dL_law_27 (by decide) ?_
  refine xr_isub S dL_law_28 ?_
  refine xw_icmp_gt S 1500 dL_law_29 (by decide) hw (fun c hw => ?_) (fun c hw => ?_)
  · refine xr_iconst S 1 dL_law_1500 (by decide) ?_
    exact EL _ _ _ _ _ dL_law_1501 (by omega) (by omega)
  · obtain ⟨hn1, hn2⟩ := law_n hL hn hle c
    have back : ∀ h' : XH, rec23 (h', l4 + 4) → V (40 + 64 * n + 64) (800 + 1500 * n + 1500) h' 1494 [(0, .ref b), (1, .ref l1), (2, .ref l2), (3, .ref l3), (4, .int l4)] [] := fun h' hr => by
      refine xr_iinc S 4 (l4 + 4) [(4, .int (l4 + 4)), (0, .ref b), (1, .ref l1), (2, .ref l2), (3, .ref l3)] dL_law_1494 rfl rfl (by decide) rfl ?_
      refine xr_goto S (tgt := 23) dL_law_1497 (by decide) ?_
      refine xr_sub S [(0, .ref b), (1, .ref l1), (2, .ref l2), (3, .ref l3), (4, .int (l4 + 4))] [1, 2, 3, 4, 0] rfl ?_
      refine xr_widen S (k := 40 + 64 * (n + 1)) (n := 800 + 1500 * (n + 1)) (by omega) (by omega) ?_
      exact hr23 (h', l4 + 4) hr (n + 1) (by show l4 + 4 = _; rw [hn]; exact law_i4 n) hn1
    refine xr_aload_n S 0 dL_law_32 rfl ?_
    refine xr_iload S 4 dL_law_33 rfl ?_
    obtain ⟨hi, hw⟩ := hw
    refine SC _ _ _ _ _ _ _ dL_law_35 hi ?_
    generalize xs (Int32.toNatClampNeg l4) = v at hw ⊢
    refine xr_bipush S 31 dL_law_36 (by decide) ?_
    refine xr_iand S dL_law_38 ?_
    by_cases c0 : (v &&& 31) = 0
    · refine xr_swIn S 0 dL_law_39 (by rw [c0]; rfl) (by decide) (by decide) rfl (tgt := 140) (by decide) ?_
      exact k_L_law_c0 hfl SL0 _ _ (by omega) (by omega) h l1 l2 l3 l4 (fun h' => rec23 (h', l4 + 4)) back (hw.1 c0)
    by_cases c1 : (v &&& 31) = 1
    · refine xr_swIn S 1 dL_law_39 (by rw [c1]; rfl) (by decide) (by decide) rfl (tgt := 208) (by decide) ?_
      exact k_L_law_c1 hfl SL0 _ _ (by omega) (by omega) h l1 l2 l3 l4 (fun h' => rec23 (h', l4 + 4)) back (hw.2.1 c1)
    by_cases c2 : (v &&& 31) = 2
    · refine xr_swIn S 2 dL_law_39 (by rw [c2]; rfl) (by decide) (by decide) rfl (tgt := 264) (by decide) ?_
      exact k_L_law_c2 hfl SL0 _ _ (by omega) (by omega) h l1 l2 l3 l4 (fun h' => rec23 (h', l4 + 4)) back (hw.2.2.1 c2)
    by_cases c3 : (v &&& 31) = 3
    · refine xr_swIn S 3 dL_law_39 (by rw [c3]; rfl) (by decide) (by decide) rfl (tgt := 332) (by decide) ?_
      exact k_L_law_c3 hfl SL0 _ _ (by omega) (by omega) h l1 l2 l3 l4 (fun h' => rec23 (h', l4 + 4)) back (hw.2.2.2.1 c3)
    by_cases c4 : (v &&& 31) = 4
    · refine xr_swIn S 4 dL_law_39 (by rw [c4]; rfl) (by decide) (by decide) rfl (tgt := 400) (by decide) ?_
      exact k_L_law_c4 hfl SL0 _ _ (by omega) (by omega) h l1 l2 l3 l4 (fun h' => rec23 (h', l4 + 4)) back (hw.2.2.2.2.1 c4)
    by_cases c5 : (v &&& 31) = 5
    · refine xr_swIn S 5 dL_law_39 (by rw [c5]; rfl) (by decide) (by decide) rfl (tgt := 468) (by decide) ?_
      exact k_L_law_c5 hfl SL0 _ _ (by omega) (by omega) h l1 l2 l3 l4 (fun h' => rec23 (h', l4 + 4)) back (hw.2.2.2.2.2.1 c5)
    by_cases c6 : (v &&& 31) = 6
    · refine xr_swIn S 6 dL_law_39 (by rw [c6]; rfl) (by decide) (by decide) rfl (tgt := 536) (by decide) ?_
      exact k_L_law_c6 hfl SL0 _ _ (by omega) (by omega) h l1 l2 l3 l4 (fun h' => rec23 (h', l4 + 4)) back (hw.2.2.2.2.2.2.1 c6)
    by_cases c7 : (v &&& 31) = 7
    · refine xr_swIn S 7 dL_law_39 (by rw [c7]; rfl) (by decide) (by decide) rfl (tgt := 620) (by decide) ?_
      exact k_L_law_c7 hfl SL0 _ _ (by omega) (by omega) h l1 l2 l3 l4 (fun h' => rec23 (h', l4 + 4)) back (hw.2.2.2.2.2.2.2.1 c7)
    by_cases c8 : (v &&& 31) = 8
    · refine xr_swIn S 8 dL_law_39 (by rw [c8]; rfl) (by decide) (by decide) rfl (tgt := 676) (by decide) ?_
      exact k_L_law_c8 hfl SL0 _ _ (by omega) (by omega) h l1 l2 l3 l4 (fun h' => rec23 (h', l4 + 4)) back (hw.2.2.2.2.2.2.2.2.1 c8)
    by_cases c9 : (v &&& 31) = 9
    · refine xr_swIn S 9 dL_law_39 (by rw [c9]; rfl) (by decide) (by decide) rfl (tgt := 732) (by decide) ?_
      exact k_L_law_c9 hfl SL0 _ _ (by omega) (by omega) h l1 l2 l3 l4 (fun h' => rec23 (h', l4 + 4)) back (hw.2.2.2.2.2.2.2.2.2.1 c9)
    by_cases c10 : (v &&& 31) = 10
    · refine xr_swIn S 10 dL_law_39 (by rw [c10]; rfl) (by decide) (by decide) rfl (tgt := 788) (by decide) ?_
      exact k_L_law_c10 hfl SL0 _ _ (by omega) (by omega) h l1 l2 l3 l4 (fun h' => rec23 (h', l4 + 4)) back (hw.2.2.2.2.2.2.2.2.2.2.1 c10)
    by_cases c11 : (v &&& 31) = 11
    · refine xr_swIn S 11 dL_law_39 (by rw [c11]; rfl) (by decide) (by decide) rfl (tgt := 868) (by decide) ?_
      exact k_L_law_c11 hfl SL0 _ _ (by omega) (by omega) h l1 l2 l3 l4 (fun h' => rec23 (h', l4 + 4)) back (hw.2.2.2.2.2.2.2.2.2.2.2.1 c11)
    by_cases c12 : (v &&& 31) = 12
    · refine xr_swIn S 12 dL_law_39 (by rw [c12]; rfl) (by decide) (by decide) rfl (tgt := 924) (by decide) ?_
      exact k_L_law_c12 hfl SL0 _ _ (by omega) (by omega) h l1 l2 l3 l4 (fun h' => rec23 (h', l4 + 4)) back (hw.2.2.2.2.2.2.2.2.2.2.2.2.1 c12)
    by_cases c13 : (v &&& 31) = 13
    · refine xr_swIn S 13 dL_law_39 (by rw [c13]; rfl) (by decide) (by decide) rfl (tgt := 1004) (by decide) ?_
      exact k_L_law_c13 hfl SL0 _ _ (by omega) (by omega) h l1 l2 l3 l4 (fun h' => rec23 (h', l4 + 4)) back (hw.2.2.2.2.2.2.2.2.2.2.2.2.2.1 c13)
    by_cases c14 : (v &&& 31) = 14
    · refine xr_swIn S 14 dL_law_39 (by rw [c14]; rfl) (by decide) (by decide) rfl (tgt := 1084) (by decide) ?_
      exact k_L_law_c14 hfl SL0 _ _ (by omega) (by omega) h l1 l2 l3 l4 (fun h' => rec23 (h', l4 + 4)) back (hw.2.2.2.2.2.2.2.2.2.2.2.2.2.2.1 c14)
    by_cases c15 : (v &&& 31) = 15
    · refine xr_swIn S 15 dL_law_39 (by rw [c15]; rfl) (by decide) (by decide) rfl (tgt := 1128) (by decide) ?_
      exact k_L_law_c15 hfl SL0 _ _ (by omega) (by omega) h l1 l2 l3 l4 (fun h' => rec23 (h', l4 + 4)) back (hw.2.2.2.2.2.2.2.2.2.2.2.2.2.2.2.1 c15)
    by_cases c16 : (v &&& 31) = 16
    · refine xr_swIn S 16 dL_law_39 (by rw [c16]; rfl) (by decide) (by decide) rfl (tgt := 1196) (by decide) ?_
      exact k_L_law_c16 hfl SL0 _ _ (by omega) (by omega) h l1 l2 l3 l4 (fun h' => rec23 (h', l4 + 4)) back (hw.2.2.2.2.2.2.2.2.2.2.2.2.2.2.2.2.1 c16)
    by_cases c17 : (v &&& 31) = 17
    · refine xr_swIn S 17 dL_law_39 (by rw [c17]; rfl) (by decide) (by decide) rfl (tgt := 1264) (by decide) ?_
      exact k_L_law_c17 hfl SL0 _ _ (by omega) (by omega) h l1 l2 l3 l4 (fun h' => rec23 (h', l4 + 4)) back (hw.2.2.2.2.2.2.2.2.2.2.2.2.2.2.2.2.2.1 c17)
    by_cases c18 : (v &&& 31) = 18
    · refine xr_swIn S 18 dL_law_39 (by rw [c18]; rfl) (by decide) (by decide) rfl (tgt := 1320) (by decide) ?_
      exact k_L_law_c18 hfl SL0 _ _ (by omega) (by omega) h l1 l2 l3 l4 (fun h' => rec23 (h', l4 + 4)) back (hw.2.2.2.2.2.2.2.2.2.2.2.2.2.2.2.2.2.2.1 c18)
    by_cases c19 : (v &&& 31) = 19
    · refine xr_swIn S 19 dL_law_39 (by rw [c19]; rfl) (by decide) (by decide) rfl (tgt := 1376) (by decide) ?_
      exact k_L_law_c19 hfl SL0 _ _ (by omega) (by omega) h l1 l2 l3 l4 (fun h' => rec23 (h', l4 + 4)) back (hw.2.2.2.2.2.2.2.2.2.2.2.2.2.2.2.2.2.2.2.1 c19)
    by_cases c20 : (v &&& 31) = 20
    · refine xr_swIn S 20 dL_law_39 (by rw [c20]; rfl) (by decide) (by decide) rfl (tgt := 1439) (by decide) ?_
      exact k_L_law_c20 hfl SL0 _ _ (by omega) (by omega) h l1 l2 l3 l4 (fun h' => rec23 (h', l4 + 4)) back (hw.2.2.2.2.2.2.2.2.2.2.2.2.2.2.2.2.2.2.2.2.1 c20)
    by_cases c21 : (v &&& 31) = 21
    · refine xr_swIn S 21 dL_law_39 (by rw [c21]; rfl) (by decide) (by decide) rfl (tgt := 1480) (by decide) ?_
      exact k_L_law_c21 hfl SL0 _ _ (by omega) (by omega) h l1 l2 l3 l4 (fun h' => rec23 (h', l4 + 4)) back (hw.2.2.2.2.2.2.2.2.2.2.2.2.2.2.2.2.2.2.2.2.2.1 c21)
    have hx : (v &&& 31).toInt < 0 ∨ 21 < (v &&& 31).toInt := by
      have h0 := lv_neT c0 (a := 0) rfl
      have h1 := lv_neT c1 (a := 1) rfl
      have h2 := lv_neT c2 (a := 2) rfl
      have h3 := lv_neT c3 (a := 3) rfl
      have h4 := lv_neT c4 (a := 4) rfl
      have h5 := lv_neT c5 (a := 5) rfl
      have h6 := lv_neT c6 (a := 6) rfl
      have h7 := lv_neT c7 (a := 7) rfl
      have h8 := lv_neT c8 (a := 8) rfl
      have h9 := lv_neT c9 (a := 9) rfl
      have h10 := lv_neT c10 (a := 10) rfl
      have h11 := lv_neT c11 (a := 11) rfl
      have h12 := lv_neT c12 (a := 12) rfl
      have h13 := lv_neT c13 (a := 13) rfl
      have h14 := lv_neT c14 (a := 14) rfl
      have h15 := lv_neT c15 (a := 15) rfl
      have h16 := lv_neT c16 (a := 16) rfl
      have h17 := lv_neT c17 (a := 17) rfl
      have h18 := lv_neT c18 (a := 18) rfl
      have h19 := lv_neT c19 (a := 19) rfl
      have h20 := lv_neT c20 (a := 20) rfl
      have h21 := lv_neT c21 (a := 21) rfl
      omega
    refine xr_swOut S (tgt := 1494) dL_law_39 hx (by decide) ?_
    exact xr_widen S (by omega) (by omega) (back h (hw.2.2.2.2.2.2.2.2.2.2.2.2.2.2.2.2.2.2.2.2.2.2 hx))
def w_L_law (dc : Nat × Nat) (L : Nat) (xs : Nat → Int32) (h : XH) : Prop :=
  wNew h 7 [.null, .null, .null, .null, .null, .int 0, .int 0, .int 0] (fun q473 h474 => w_X6_init dc h474 q473 (fun h476 => wNew h476 8 [.int 0, .int 0, .null, .null, .int 0, .int 0, .int 0, .null, .null, .int 0, .null, .null, .int 0, .null, .null, .int 0, .int 0, .null] (fun q478 h479 => w_X7_init dc h479 q478 (fun h481 => wNewL h481 1 (fun q483 h484 => (w_L_law_23 dc L xs q473 q478 q483 (h484, 0)))))))
set_option maxRecDepth 100000 in
set_option maxHeartbeats 4000000 in
theorem k_L_law {V : XVT} {X : XC} {l : Launch} (hfl : l.stackTraces = false) {nm : String} {b L : Nat} {xs : Nat → Int32} (SL0 : xLaw V X l nm wsL_law b L xs) (hL : L ≤ 2048) (h : XH) (hw : w_L_law (xdc X) L xs h) : V 0 0 h 0 [(0, .ref b)] [] := by
  obtain ⟨S, EL, SLN, SC, DC⟩ := id SL0
  refine xr_new S 7 tyX6 [.null, .null, .null, .null, .null, .int 0, .int 0, .int 0] dL_law_0 in_L_law_X6 tyX6_ok m_L_law_1 m_L_law_2 m_L_law_3 rfl dfX6 (by show _ ≤ 601024; omega) (by show _ ≤ 7293034; omega) (fun q473 hq => ?_)
  have hw := hw q473 hq
  generalize xup h q473 (.inr (7, [.null, .null, .null, .null, .null, .int 0, .int 0, .int 0])) = h474 at hw ⊢
  refine xr_dup S dL_law_3 rfl ?_
  refine xr_callI S [] [.ref q473] dL_law_4 (k_X6_init l (xdc X) h474 q473 _ hw) gL_law_X6_init rfl m_L_law_3 m_L_law_4 m_L_law_5 rfl pd_X6_init ⟨Nat.le_of_ble_eq_true rfl, Nat.le_of_ble_eq_true rfl⟩ rfl (Nat.le_of_ble_eq_true rfl) ⟨by show _ ≤ 601024; omega, by show _ ≤ 7293034; omega⟩ (fun v9 h476 hv => ?_)
  obtain ⟨rfl, hw⟩ := hv
  refine xr_astore_n S [(1, .ref q473), (0, .ref b)] dL_law_7 (by decide) rfl ?_
  refine xr_new S 8 tyX7 [.int 0, .int 0, .null, .null, .int 0, .int 0, .int 0, .null, .null, .int 0, .null, .null, .int 0, .null, .null, .int 0, .int 0, .null] dL_law_8 in_L_law_X7 tyX7_ok m_L_law_7 m_L_law_8 m_L_law_9 rfl dfX7 (by show _ ≤ 601024; omega) (by show _ ≤ 7293034; omega) (fun q478 hq => ?_)
  have hw := hw q478 hq
  generalize xup h476 q478 (.inr (8, [.int 0, .int 0, .null, .null, .int 0, .int 0, .int 0, .null, .null, .int 0, .null, .null, .int 0, .null, .null, .int 0, .int 0, .null])) = h479 at hw ⊢
  refine xr_dup S dL_law_11 rfl ?_
  refine xr_callI S [] [.ref q478] dL_law_12 (k_X7_init l (xdc X) h479 q478 _ hw) gL_law_X7_init rfl m_L_law_9 m_L_law_10 m_L_law_11 rfl pd_X7_init ⟨Nat.le_of_ble_eq_true rfl, Nat.le_of_ble_eq_true rfl⟩ rfl (Nat.le_of_ble_eq_true rfl) ⟨by show _ ≤ 601024; omega, by show _ ≤ 7293034; omega⟩ (fun v9 h481 hv => ?_)
  obtain ⟨rfl, hw⟩ := hv
  refine xr_astore_n S [(2, .ref q478), (1, .ref q473), (0, .ref b)] dL_law_15 (by decide) rfl ?_
  refine xr_iconst S (1) dL_law_16 (by decide) ?_
  refine xr_newl S dL_law_17 m_L_law_12 (by decide) (N := 1) (by decide) (by decide) (by show _ ≤ 601024; omega) (by show _ ≤ 7293034; omega) (fun q483 hq => ?_)
  have hw := hw q483 hq
  generalize xup h481 q483 (.inl (4, 1, .inr (.inl (fun _ => 0)))) = h484 at hw ⊢
  refine xr_astore_n S [(3, .ref q483), (2, .ref q478), (1, .ref q473), (0, .ref b)] dL_law_19 (by decide) rfl ?_
  refine xr_iconst S (0) dL_law_20 (by decide) ?_
  refine xr_istore S [(4, .int 0), (3, .ref q483), (2, .ref q478), (1, .ref q473), (0, .ref b)] dL_law_21 (by decide) rfl ?_
  refine xr_widen S (k := 40) (n := 800) (Nat.le_of_ble_eq_true rfl) (Nat.le_of_ble_eq_true rfl) ?_
  refine xr_sub S [(0, .ref b), (1, .ref q473), (2, .ref q478), (3, .ref q483), (4, .int 0)] [4, 3, 2, 1, 0] rfl ?_
  exact k_L_law_23 hfl SL0 hL q473 q478 q483 (h484, 0) hw 0 rfl (by decide)
