/-! ===== the law's cases ===== -/
section Cases
variable {G : gG} {l : Launch} {b L : Nat} {xs : Nat → Int32} {x m oa t : Nat} {A : Nat → Nat} {h : gHp} {sz k w : Nat} {fs : List Value} {Qw : gRs → gHp → Nat → Prop} {Wn : gHp → Nat → Prop}
theorem lk_edit {v5 v6 : Option Value} (ht : 5 * t + 5 ≤ L) (hL : L ≤ 2560) (hk : k + 6 ≤ 601024) (hw : w + 98 ≤ 7293033) (hWr : SM G l 11 y_L_edit M_L_edit [.ref x, .int (xs (5 * t + 1)), .int (xs (5 * t + 2)), .int (xs (5 * t + 3)), .int (xs (5 * t + 4))] h sz 6 98 Qw) (hQ : ∀ r h1 sz1, Qw r h1 sz1 → ∃ (r0 : Int32) (Qm : gRs → gHp → Nat → Prop) (fs : List Value), r = .inl (some (.int r0)) ∧ h1 m = some (gO 6 fs) ∧ SM G l 5 y_R_edit M_R_edit [.ref m, .int (xs (5 * t + 1)), .int (xs (5 * t + 2)), .int (xs (5 * t + 3)), .int (xs (5 * t + 4))] h1 sz1 0 0 Qm ∧ ∀ r' h2 sz2, Qm r' h2 sz2 → r' = .inl none ∧ (∃ (T : Int32) (vs : Nat) (lf : Int32) (U : gU), MV h2 m A T vs lf U ∧ T = r0) ∧ Wn h2 sz2) (kk : ∀ h2 sz2 q5 q6, Wn h2 sz2 → GW G l (Zl G b L xs) room_1 M_L_law 1192 [some (.ref b), some (.ref x), some (.ref m), some (.ref oa), some (.int (nI (5 * t))), q5, q6] [] h2 sz2 (k + 6) (w + 98)) : GW G l (Zl G b L xs) room_1 M_L_law 116 [some (.ref b), some (.ref x), some (.ref m), some (.ref oa), some (.int (nI (5 * t))), v5, v6] [] h sz k w := by
  refine gw_al1 d_L_law_116 ?_
  refine gw_al0 d_L_law_117 ?_
  refine gw_il4 d_L_law_118 ?_
  refine gw_push d_L_law_120 ?_
  refine gw_iadd d_L_law_121 ?_; rw [show nI (5 * t) + 1 = nI (5 * t + 1) from nI_add (a := 5 * t) (b := 1)]
  refine gw_sld d_L_law_122 (5 * t + 1) rfl (by omega) (by omega) ?_
  refine gw_al0 d_L_law_123 ?_
  refine gw_il4 d_L_law_124 ?_
  refine gw_push d_L_law_126 ?_
  refine gw_iadd d_L_law_127 ?_; rw [show nI (5 * t) + 2 = nI (5 * t + 2) from nI_add (a := 5 * t) (b := 2)]
  refine gw_sld d_L_law_128 (5 * t + 2) rfl (by omega) (by omega) ?_
  refine gw_al0 d_L_law_129 ?_
  refine gw_il4 d_L_law_130 ?_
  refine gw_push d_L_law_132 ?_
  refine gw_iadd d_L_law_133 ?_; rw [show nI (5 * t) + 3 = nI (5 * t + 3) from nI_add (a := 5 * t) (b := 3)]
  refine gw_sld d_L_law_134 (5 * t + 3) rfl (by omega) (by omega) ?_
  refine gw_al0 d_L_law_135 ?_
  refine gw_il4 d_L_law_136 ?_
  refine gw_push d_L_law_138 ?_
  refine gw_iadd d_L_law_139 ?_; rw [show nI (5 * t) + 4 = nI (5 * t + 4) from nI_add (a := 5 * t) (b := 4)]
  refine gw_sld d_L_law_140 (5 * t + 4) rfl (by omega) (by omega) ?_
  refine gw_callS (As := [.ref x, .int (xs (5 * t + 1)), .int (xs (5 * t + 2)), .int (xs (5 * t + 3)), .int (xs (5 * t + 4))]) d_L_law_141 cs_L_law_141 rfl rfl (Nat.le_of_ble_eq_true rfl) ⟨by decide, by decide⟩ hk hw hWr (fun v h1 sz1 hq hz => ?_) (fun E h1 sz1 hq hz => by obtain ⟨r0, Qm, fs, e1, -⟩ := hQ _ _ _ hq; cases e1); obtain ⟨r0, Qm, fs, e1, hm, hS, hR⟩ := hQ _ _ _ hq; cases e1
  refine gw_is5 d_L_law_144 ?_
  refine gw_al2 d_L_law_146 ?_
  refine gw_al0 d_L_law_147 ?_
  refine gw_il4 d_L_law_148 ?_
  refine gw_push d_L_law_150 ?_
  refine gw_iadd d_L_law_151 ?_; rw [show nI (5 * t) + 1 = nI (5 * t + 1) from nI_add (a := 5 * t) (b := 1)]
  refine gw_sld d_L_law_152 (5 * t + 1) rfl (by omega) (by omega) ?_
  refine gw_al0 d_L_law_153 ?_
  refine gw_il4 d_L_law_154 ?_
  refine gw_push d_L_law_156 ?_
  refine gw_iadd d_L_law_157 ?_; rw [show nI (5 * t) + 2 = nI (5 * t + 2) from nI_add (a := 5 * t) (b := 2)]
  refine gw_sld d_L_law_158 (5 * t + 2) rfl (by omega) (by omega) ?_
  refine gw_al0 d_L_law_159 ?_
  refine gw_il4 d_L_law_160 ?_
  refine gw_push d_L_law_162 ?_
  refine gw_iadd d_L_law_163 ?_; rw [show nI (5 * t) + 3 = nI (5 * t + 3) from nI_add (a := 5 * t) (b := 3)]
  refine gw_sld d_L_law_164 (5 * t + 3) rfl (by omega) (by omega) ?_
  refine gw_al0 d_L_law_165 ?_
  refine gw_il4 d_L_law_166 ?_
  refine gw_push d_L_law_168 ?_
  refine gw_iadd d_L_law_169 ?_; rw [show nI (5 * t) + 4 = nI (5 * t + 4) from nI_add (a := 5 * t) (b := 4)]
  refine gw_sld d_L_law_170 (5 * t + 4) rfl (by omega) (by omega) ?_
  refine gw_callV (As := [.int (xs (5 * t + 1)), .int (xs (5 * t + 2)), .int (xs (5 * t + 3)), .int (xs (5 * t + 4))]) d_L_law_171 cs_L_law_171 hm rfl rfl (Nat.le_of_ble_eq_true rfl) ⟨by decide, by decide⟩ (by show k + 6 + 0 ≤ 601024; omega) (by show w + 98 + 0 ≤ 7293033; omega) hS (fun v h2 sz2 hq2 hz2 => ?_) (fun E h2 sz2 hq2 _ => by cases (hR _ _ _ hq2).1); obtain ⟨e2, ⟨T, vs, lf, U, hM, hT⟩, hW⟩ := hR _ _ _ hq2; cases e2; have hm2 := hM.1
  refine gw_al2 d_L_law_174 ?_
  refine gw_rV0 d_L_law_175 cs_L_law_175 hm2 (c_R_thrown hM) ?_ (hcs := by show k + 6 + 0 + 0 ≤ 601024; omega) (hss := by show w + 98 + 0 + 0 ≤ 7293033; omega)
  refine gw_il5 d_L_law_178 ?_
  refine gw_iceq d_L_law_180 (fun c_0 => ?_) (fun c_0 => absurd hT c_0)
  refine gw_goto d_L_law_185 ?_
  exact kk h2 sz2 _ _ hW
theorem lk_erase {v5 v6 : Option Value} (ht : 5 * t + 5 ≤ L) (hL : L ≤ 2560) (hk : k + 6 ≤ 601024) (hw : w + 98 ≤ 7293033) (hWr : SM G l 11 y_L_erase M_L_erase [.ref x, .int (xs (5 * t + 1)), .int (xs (5 * t + 2))] h sz 6 98 Qw) (hQ : ∀ r h1 sz1, Qw r h1 sz1 → ∃ (r0 : Int32) (Qm : gRs → gHp → Nat → Prop) (fs : List Value), r = .inl (some (.int r0)) ∧ h1 m = some (gO 6 fs) ∧ SM G l 5 y_R_erase M_R_erase [.ref m, .int (xs (5 * t + 1)), .int (xs (5 * t + 2))] h1 sz1 0 0 Qm ∧ ∀ r' h2 sz2, Qm r' h2 sz2 → r' = .inl none ∧ (∃ (T : Int32) (vs : Nat) (lf : Int32) (U : gU), MV h2 m A T vs lf U ∧ T = r0) ∧ Wn h2 sz2) (kk : ∀ h2 sz2 q5 q6, Wn h2 sz2 → GW G l (Zl G b L xs) room_1 M_L_law 1192 [some (.ref b), some (.ref x), some (.ref m), some (.ref oa), some (.int (nI (5 * t))), q5, q6] [] h2 sz2 (k + 6) (w + 98)) : GW G l (Zl G b L xs) room_1 M_L_law 188 [some (.ref b), some (.ref x), some (.ref m), some (.ref oa), some (.int (nI (5 * t))), v5, v6] [] h sz k w := by
  refine gw_al1 d_L_law_188 ?_
  refine gw_al0 d_L_law_189 ?_
  refine gw_il4 d_L_law_190 ?_
  refine gw_push d_L_law_192 ?_
  refine gw_iadd d_L_law_193 ?_; rw [show nI (5 * t) + 1 = nI (5 * t + 1) from nI_add (a := 5 * t) (b := 1)]
  refine gw_sld d_L_law_194 (5 * t + 1) rfl (by omega) (by omega) ?_
  refine gw_al0 d_L_law_195 ?_
  refine gw_il4 d_L_law_196 ?_
  refine gw_push d_L_law_198 ?_
  refine gw_iadd d_L_law_199 ?_; rw [show nI (5 * t) + 2 = nI (5 * t + 2) from nI_add (a := 5 * t) (b := 2)]
  refine gw_sld d_L_law_200 (5 * t + 2) rfl (by omega) (by omega) ?_
  refine gw_callS (As := [.ref x, .int (xs (5 * t + 1)), .int (xs (5 * t + 2))]) d_L_law_201 cs_L_law_201 rfl rfl (Nat.le_of_ble_eq_true rfl) ⟨by decide, by decide⟩ hk hw hWr (fun v h1 sz1 hq hz => ?_) (fun E h1 sz1 hq hz => by obtain ⟨r0, Qm, fs, e1, -⟩ := hQ _ _ _ hq; cases e1); obtain ⟨r0, Qm, fs, e1, hm, hS, hR⟩ := hQ _ _ _ hq; cases e1
  refine gw_is5 d_L_law_204 ?_
  refine gw_al2 d_L_law_206 ?_
  refine gw_al0 d_L_law_207 ?_
  refine gw_il4 d_L_law_208 ?_
  refine gw_push d_L_law_210 ?_
  refine gw_iadd d_L_law_211 ?_; rw [show nI (5 * t) + 1 = nI (5 * t + 1) from nI_add (a := 5 * t) (b := 1)]
  refine gw_sld d_L_law_212 (5 * t + 1) rfl (by omega) (by omega) ?_
  refine gw_al0 d_L_law_213 ?_
  refine gw_il4 d_L_law_214 ?_
  refine gw_push d_L_law_216 ?_
  refine gw_iadd d_L_law_217 ?_; rw [show nI (5 * t) + 2 = nI (5 * t + 2) from nI_add (a := 5 * t) (b := 2)]
  refine gw_sld d_L_law_218 (5 * t + 2) rfl (by omega) (by omega) ?_
  refine gw_callV (As := [.int (xs (5 * t + 1)), .int (xs (5 * t + 2))]) d_L_law_219 cs_L_law_219 hm rfl rfl (Nat.le_of_ble_eq_true rfl) ⟨by decide, by decide⟩ (by show k + 6 + 0 ≤ 601024; omega) (by show w + 98 + 0 ≤ 7293033; omega) hS (fun v h2 sz2 hq2 hz2 => ?_) (fun E h2 sz2 hq2 _ => by cases (hR _ _ _ hq2).1); obtain ⟨e2, ⟨T, vs, lf, U, hM, hT⟩, hW⟩ := hR _ _ _ hq2; cases e2; have hm2 := hM.1
  refine gw_al2 d_L_law_222 ?_
  refine gw_rV0 d_L_law_223 cs_L_law_223 hm2 (c_R_thrown hM) ?_ (hcs := by show k + 6 + 0 + 0 ≤ 601024; omega) (hss := by show w + 98 + 0 + 0 ≤ 7293033; omega)
  refine gw_il5 d_L_law_226 ?_
  refine gw_iceq d_L_law_228 (fun c_0 => ?_) (fun c_0 => absurd hT c_0)
  refine gw_goto d_L_law_233 ?_
  exact kk h2 sz2 _ _ hW
theorem lz_siblings {r0 X : Int32} {f1 : Nat → Int64} {k w : Nat} (hr0 : r0 = 0) (ho1 : h oa = some (gL 1 f1)) (ho2 : f1 0 = X.toInt64) (kk : GW G l (Zl G b L xs) room_1 M_L_law 1192 [some (.ref b), some (.ref x), some (.ref m), some (.ref oa), some (.int (nI (5 * t))), some (.int r0), some (.int X)] [] h sz k w) : GW G l (Zl G b L xs) room_1 M_L_law 284 [some (.ref b), some (.ref x), some (.ref m), some (.ref oa), some (.int (nI (5 * t))), some (.int r0), some (.int X)] [] h sz k w := by
  subst hr0
  refine gw_il5 d_L_law_284 ?_
  refine gw_ifne d_L_law_286 (fun c_0 => absurd rfl c_0) (fun c_0 => ?_)
  refine gw_al3 d_L_law_289 ?_
  refine gw_push d_L_law_290 ?_
  refine gw_lald d_L_law_291 ho1 0 rfl (by omega) (by omega) ?_; rw [ho2]
  refine gw_il6 d_L_law_292 ?_
  refine gw_i2l d_L_law_294 ?_
  refine gw_lcmp d_L_law_295 ?_; rw [lg_cmp_self]
  refine gw_ifeq d_L_law_296 (fun c_1 => ?_) (fun c_1 => absurd rfl c_1)
  refine gw_goto d_L_law_301 ?_
  exact kk
theorem lk_siblings {v5 v6 : Option Value} (ht : 5 * t + 5 ≤ L) (hL : L ≤ 2560) (hk : k + 4 ≤ 601024) (hw : w + 24 ≤ 7293033) (hWr : SM G l 6 y_L_siblings M_L_siblings [.ref x, .int (xs (5 * t + 1)), .int (xs (5 * t + 2)), .ref oa] h sz 4 24 Qw) (hQ : ∀ r h1 sz1, Qw r h1 sz1 → ∃ (r0 : Int32) (Qm : gRs → gHp → Nat → Prop) (fs : List Value), r = .inl (some (.int r0)) ∧ h1 m = some (gO 6 fs) ∧ SM G l 3 y_R_siblings M_R_siblings [.ref m, .int (xs (5 * t + 1)), .int (xs (5 * t + 2))] h1 sz1 0 0 Qm ∧ ∀ r' h2 sz2, Qm r' h2 sz2 → ∃ X : Int32, r' = .inl (some (.int X)) ∧ (∃ (T : Int32) (vs : Nat) (lf : Int32) (U : gU), MV h2 m A T vs lf U ∧ T = r0) ∧ (r0 = 0 → ∃ f1, h2 oa = some (gL 1 f1) ∧ f1 0 = X.toInt64) ∧ Wn h2 sz2) (kk : ∀ h2 sz2 q5 q6, Wn h2 sz2 → GW G l (Zl G b L xs) room_1 M_L_law 1192 [some (.ref b), some (.ref x), some (.ref m), some (.ref oa), some (.int (nI (5 * t))), q5, q6] [] h2 sz2 (k + 4) (w + 24)) : GW G l (Zl G b L xs) room_1 M_L_law 236 [some (.ref b), some (.ref x), some (.ref m), some (.ref oa), some (.int (nI (5 * t))), v5, v6] [] h sz k w := by
  refine gw_al1 d_L_law_236 ?_
  refine gw_al0 d_L_law_237 ?_
  refine gw_il4 d_L_law_238 ?_
  refine gw_push d_L_law_240 ?_
  refine gw_iadd d_L_law_241 ?_; rw [show nI (5 * t) + 1 = nI (5 * t + 1) from nI_add (a := 5 * t) (b := 1)]
  refine gw_sld d_L_law_242 (5 * t + 1) rfl (by omega) (by omega) ?_
  refine gw_al0 d_L_law_243 ?_
  refine gw_il4 d_L_law_244 ?_
  refine gw_push d_L_law_246 ?_
  refine gw_iadd d_L_law_247 ?_; rw [show nI (5 * t) + 2 = nI (5 * t + 2) from nI_add (a := 5 * t) (b := 2)]
  refine gw_sld d_L_law_248 (5 * t + 2) rfl (by omega) (by omega) ?_
  refine gw_al3 d_L_law_249 ?_
  refine gw_callS (As := [.ref x, .int (xs (5 * t + 1)), .int (xs (5 * t + 2)), .ref oa]) d_L_law_250 cs_L_law_250 rfl rfl (Nat.le_of_ble_eq_true rfl) ⟨by decide, by decide⟩ hk hw hWr (fun v h1 sz1 hq hz => ?_) (fun E h1 sz1 hq hz => by obtain ⟨r0, Qm, fs, e1, -⟩ := hQ _ _ _ hq; cases e1); obtain ⟨r0, Qm, fs, e1, hm, hS, hR⟩ := hQ _ _ _ hq; cases e1
  refine gw_is5 d_L_law_253 ?_
  refine gw_al2 d_L_law_255 ?_
  refine gw_al0 d_L_law_256 ?_
  refine gw_il4 d_L_law_257 ?_
  refine gw_push d_L_law_259 ?_
  refine gw_iadd d_L_law_260 ?_; rw [show nI (5 * t) + 1 = nI (5 * t + 1) from nI_add (a := 5 * t) (b := 1)]
  refine gw_sld d_L_law_261 (5 * t + 1) rfl (by omega) (by omega) ?_
  refine gw_al0 d_L_law_262 ?_
  refine gw_il4 d_L_law_263 ?_
  refine gw_push d_L_law_265 ?_
  refine gw_iadd d_L_law_266 ?_; rw [show nI (5 * t) + 2 = nI (5 * t + 2) from nI_add (a := 5 * t) (b := 2)]
  refine gw_sld d_L_law_267 (5 * t + 2) rfl (by omega) (by omega) ?_
  refine gw_callV (As := [.int (xs (5 * t + 1)), .int (xs (5 * t + 2))]) d_L_law_268 cs_L_law_268 hm rfl rfl (Nat.le_of_ble_eq_true rfl) ⟨by decide, by decide⟩ (by show k + 4 + 0 ≤ 601024; omega) (by show w + 24 + 0 ≤ 7293033; omega) hS (fun v h2 sz2 hq2 hz2 => ?_) (fun E h2 sz2 hq2 _ => by obtain ⟨X, e2, -⟩ := hR _ _ _ hq2; cases e2); obtain ⟨X, e2, ⟨T, vs, lf, U, hM, hT⟩, ho, hW⟩ := hR _ _ _ hq2; cases e2; have hm2 := hM.1
  refine gw_is6 d_L_law_271 ?_
  refine gw_al2 d_L_law_273 ?_
  refine gw_rV0 d_L_law_274 cs_L_law_274 hm2 (c_R_thrown hM) ?_ (hcs := by show k + 4 + 0 + 0 ≤ 601024; omega) (hss := by show w + 24 + 0 + 0 ≤ 7293033; omega)
  refine gw_il5 d_L_law_277 ?_
  refine gw_iceq d_L_law_279 (fun c_0 => ?_) (fun c_0 => absurd hT c_0)
  by_cases hr0 : r0 = 0
  · obtain ⟨f1, ho1, ho2⟩ := ho hr0
    exact lz_siblings hr0 ho1 ho2 (kk h2 sz2 _ _ hW)
  · exact gw_il5 d_L_law_284 (gw_ifne d_L_law_286 (fun _ => gw_goto d_L_law_301 (kk h2 sz2 _ _ hW)) (fun c => absurd c hr0))
theorem lz_counter {r0 X : Int32} {f1 : Nat → Int64} {k w : Nat} (hr0 : r0 = 0) (ho1 : h oa = some (gL 1 f1)) (ho2 : f1 0 = X.toInt64) (kk : GW G l (Zl G b L xs) room_1 M_L_law 1192 [some (.ref b), some (.ref x), some (.ref m), some (.ref oa), some (.int (nI (5 * t))), some (.int r0), some (.int X)] [] h sz k w) : GW G l (Zl G b L xs) room_1 M_L_law 376 [some (.ref b), some (.ref x), some (.ref m), some (.ref oa), some (.int (nI (5 * t))), some (.int r0), some (.int X)] [] h sz k w := by
  subst hr0
  refine gw_il5 d_L_law_376 ?_
  refine gw_ifne d_L_law_378 (fun c_0 => absurd rfl c_0) (fun c_0 => ?_)
  refine gw_al3 d_L_law_381 ?_
  refine gw_push d_L_law_382 ?_
  refine gw_lald d_L_law_383 ho1 0 rfl (by omega) (by omega) ?_; rw [ho2]
  refine gw_il6 d_L_law_384 ?_
  refine gw_i2l d_L_law_386 ?_
  refine gw_lcmp d_L_law_387 ?_; rw [lg_cmp_self]
  refine gw_ifeq d_L_law_388 (fun c_1 => ?_) (fun c_1 => absurd rfl c_1)
  refine gw_goto d_L_law_393 ?_
  exact kk
theorem lk_counter {v5 v6 : Option Value} (ht : 5 * t + 5 ≤ L) (hL : L ≤ 2560) (hk : k + 4 ≤ 601024) (hw : w + 24 ≤ 7293033) (hWr : SM G l 7 y_L_counter M_L_counter [.ref x, .int (xs (5 * t + 1)), .int (xs (5 * t + 2)), .int (xs (5 * t + 3)), .int (xs (5 * t + 4)), .ref oa] h sz 4 24 Qw) (hQ : ∀ r h1 sz1, Qw r h1 sz1 → ∃ (r0 : Int32) (Qm : gRs → gHp → Nat → Prop) (fs : List Value), r = .inl (some (.int r0)) ∧ h1 m = some (gO 6 fs) ∧ SM G l 4 y_R_counter M_R_counter [.ref m, .int (xs (5 * t + 1)), .int (xs (5 * t + 2)), .int (xs (5 * t + 3)), .int (xs (5 * t + 4))] h1 sz1 0 0 Qm ∧ ∀ r' h2 sz2, Qm r' h2 sz2 → ∃ X : Int32, r' = .inl (some (.int X)) ∧ (∃ (T : Int32) (vs : Nat) (lf : Int32) (U : gU), MV h2 m A T vs lf U ∧ T = r0) ∧ (r0 = 0 → ∃ f1, h2 oa = some (gL 1 f1) ∧ f1 0 = X.toInt64) ∧ Wn h2 sz2) (kk : ∀ h2 sz2 q5 q6, Wn h2 sz2 → GW G l (Zl G b L xs) room_1 M_L_law 1192 [some (.ref b), some (.ref x), some (.ref m), some (.ref oa), some (.int (nI (5 * t))), q5, q6] [] h2 sz2 (k + 4) (w + 24)) : GW G l (Zl G b L xs) room_1 M_L_law 304 [some (.ref b), some (.ref x), some (.ref m), some (.ref oa), some (.int (nI (5 * t))), v5, v6] [] h sz k w := by
  refine gw_al1 d_L_law_304 ?_
  refine gw_al0 d_L_law_305 ?_
  refine gw_il4 d_L_law_306 ?_
  refine gw_push d_L_law_308 ?_
  refine gw_iadd d_L_law_309 ?_; rw [show nI (5 * t) + 1 = nI (5 * t + 1) from nI_add (a := 5 * t) (b := 1)]
  refine gw_sld d_L_law_310 (5 * t + 1) rfl (by omega) (by omega) ?_
  refine gw_al0 d_L_law_311 ?_
  refine gw_il4 d_L_law_312 ?_
  refine gw_push d_L_law_314 ?_
  refine gw_iadd d_L_law_315 ?_; rw [show nI (5 * t) + 2 = nI (5 * t + 2) from nI_add (a := 5 * t) (b := 2)]
  refine gw_sld d_L_law_316 (5 * t + 2) rfl (by omega) (by omega) ?_
  refine gw_al0 d_L_law_317 ?_
  refine gw_il4 d_L_law_318 ?_
  refine gw_push d_L_law_320 ?_
  refine gw_iadd d_L_law_321 ?_; rw [show nI (5 * t) + 3 = nI (5 * t + 3) from nI_add (a := 5 * t) (b := 3)]
  refine gw_sld d_L_law_322 (5 * t + 3) rfl (by omega) (by omega) ?_
  refine gw_al0 d_L_law_323 ?_
  refine gw_il4 d_L_law_324 ?_
  refine gw_push d_L_law_326 ?_
  refine gw_iadd d_L_law_327 ?_; rw [show nI (5 * t) + 4 = nI (5 * t + 4) from nI_add (a := 5 * t) (b := 4)]
  refine gw_sld d_L_law_328 (5 * t + 4) rfl (by omega) (by omega) ?_
  refine gw_al3 d_L_law_329 ?_
  refine gw_callS (As := [.ref x, .int (xs (5 * t + 1)), .int (xs (5 * t + 2)), .int (xs (5 * t + 3)), .int (xs (5 * t + 4)), .ref oa]) d_L_law_330 cs_L_law_330 rfl rfl (Nat.le_of_ble_eq_true rfl) ⟨by decide, by decide⟩ hk hw hWr (fun v h1 sz1 hq hz => ?_) (fun E h1 sz1 hq hz => by obtain ⟨r0, Qm, fs, e1, -⟩ := hQ _ _ _ hq; cases e1); obtain ⟨r0, Qm, fs, e1, hm, hS, hR⟩ := hQ _ _ _ hq; cases e1
  refine gw_is5 d_L_law_333 ?_
  refine gw_al2 d_L_law_335 ?_
  refine gw_al0 d_L_law_336 ?_
  refine gw_il4 d_L_law_337 ?_
  refine gw_push d_L_law_339 ?_
  refine gw_iadd d_L_law_340 ?_; rw [show nI (5 * t) + 1 = nI (5 * t + 1) from nI_add (a := 5 * t) (b := 1)]
  refine gw_sld d_L_law_341 (5 * t + 1) rfl (by omega) (by omega) ?_
  refine gw_al0 d_L_law_342 ?_
  refine gw_il4 d_L_law_343 ?_
  refine gw_push d_L_law_345 ?_
  refine gw_iadd d_L_law_346 ?_; rw [show nI (5 * t) + 2 = nI (5 * t + 2) from nI_add (a := 5 * t) (b := 2)]
  refine gw_sld d_L_law_347 (5 * t + 2) rfl (by omega) (by omega) ?_
  refine gw_al0 d_L_law_348 ?_
  refine gw_il4 d_L_law_349 ?_
  refine gw_push d_L_law_351 ?_
  refine gw_iadd d_L_law_352 ?_; rw [show nI (5 * t) + 3 = nI (5 * t + 3) from nI_add (a := 5 * t) (b := 3)]
  refine gw_sld d_L_law_353 (5 * t + 3) rfl (by omega) (by omega) ?_
  refine gw_al0 d_L_law_354 ?_
  refine gw_il4 d_L_law_355 ?_
  refine gw_push d_L_law_357 ?_
  refine gw_iadd d_L_law_358 ?_; rw [show nI (5 * t) + 4 = nI (5 * t + 4) from nI_add (a := 5 * t) (b := 4)]
  refine gw_sld d_L_law_359 (5 * t + 4) rfl (by omega) (by omega) ?_
  refine gw_callV (As := [.int (xs (5 * t + 1)), .int (xs (5 * t + 2)), .int (xs (5 * t + 3)), .int (xs (5 * t + 4))]) d_L_law_360 cs_L_law_360 hm rfl rfl (Nat.le_of_ble_eq_true rfl) ⟨by decide, by decide⟩ (by show k + 4 + 0 ≤ 601024; omega) (by show w + 24 + 0 ≤ 7293033; omega) hS (fun v h2 sz2 hq2 hz2 => ?_) (fun E h2 sz2 hq2 _ => by obtain ⟨X, e2, -⟩ := hR _ _ _ hq2; cases e2); obtain ⟨X, e2, ⟨T, vs, lf, U, hM, hT⟩, ho, hW⟩ := hR _ _ _ hq2; cases e2; have hm2 := hM.1
  refine gw_is6 d_L_law_363 ?_
  refine gw_al2 d_L_law_365 ?_
  refine gw_rV0 d_L_law_366 cs_L_law_366 hm2 (c_R_thrown hM) ?_ (hcs := by show k + 4 + 0 + 0 ≤ 601024; omega) (hss := by show w + 24 + 0 + 0 ≤ 7293033; omega)
  refine gw_il5 d_L_law_369 ?_
  refine gw_iceq d_L_law_371 (fun c_0 => ?_) (fun c_0 => absurd hT c_0)
  by_cases hr0 : r0 = 0
  · obtain ⟨f1, ho1, ho2⟩ := ho hr0
    exact lz_counter hr0 ho1 ho2 (kk h2 sz2 _ _ hW)
  · exact gw_il5 d_L_law_376 (gw_ifne d_L_law_378 (fun _ => gw_goto d_L_law_393 (kk h2 sz2 _ _ hW)) (fun c => absurd c hr0))
theorem lz_byteOf {r0 X : Int32} {f1 : Nat → Int64} {k w : Nat} (hr0 : r0 = 0) (ho1 : h oa = some (gL 1 f1)) (ho2 : f1 0 = X.toInt64) (kk : GW G l (Zl G b L xs) room_1 M_L_law 1192 [some (.ref b), some (.ref x), some (.ref m), some (.ref oa), some (.int (nI (5 * t))), some (.int r0), some (.int X)] [] h sz k w) : GW G l (Zl G b L xs) room_1 M_L_law 468 [some (.ref b), some (.ref x), some (.ref m), some (.ref oa), some (.int (nI (5 * t))), some (.int r0), some (.int X)] [] h sz k w := by
  subst hr0
  refine gw_il5 d_L_law_468 ?_
  refine gw_ifne d_L_law_470 (fun c_0 => absurd rfl c_0) (fun c_0 => ?_)
  refine gw_al3 d_L_law_473 ?_
  refine gw_push d_L_law_474 ?_
  refine gw_lald d_L_law_475 ho1 0 rfl (by omega) (by omega) ?_; rw [ho2]
  refine gw_il6 d_L_law_476 ?_
  refine gw_i2l d_L_law_478 ?_
  refine gw_lcmp d_L_law_479 ?_; rw [lg_cmp_self]
  refine gw_ifeq d_L_law_480 (fun c_1 => ?_) (fun c_1 => absurd rfl c_1)
  refine gw_goto d_L_law_485 ?_
  exact kk
theorem lk_byteOf {v5 v6 : Option Value} (ht : 5 * t + 5 ≤ L) (hL : L ≤ 2560) (hk : k + 4 ≤ 601024) (hw : w + 24 ≤ 7293033) (hWr : SM G l 7 y_L_byteOf M_L_byteOf [.ref x, .int (xs (5 * t + 1)), .int (xs (5 * t + 2)), .int (xs (5 * t + 3)), .int (xs (5 * t + 4)), .ref oa] h sz 4 24 Qw) (hQ : ∀ r h1 sz1, Qw r h1 sz1 → ∃ (r0 : Int32) (Qm : gRs → gHp → Nat → Prop) (fs : List Value), r = .inl (some (.int r0)) ∧ h1 m = some (gO 6 fs) ∧ SM G l 4 y_R_byteOf M_R_byteOf [.ref m, .int (xs (5 * t + 1)), .int (xs (5 * t + 2)), .int (xs (5 * t + 3)), .int (xs (5 * t + 4))] h1 sz1 0 0 Qm ∧ ∀ r' h2 sz2, Qm r' h2 sz2 → ∃ X : Int32, r' = .inl (some (.int X)) ∧ (∃ (T : Int32) (vs : Nat) (lf : Int32) (U : gU), MV h2 m A T vs lf U ∧ T = r0) ∧ (r0 = 0 → ∃ f1, h2 oa = some (gL 1 f1) ∧ f1 0 = X.toInt64) ∧ Wn h2 sz2) (kk : ∀ h2 sz2 q5 q6, Wn h2 sz2 → GW G l (Zl G b L xs) room_1 M_L_law 1192 [some (.ref b), some (.ref x), some (.ref m), some (.ref oa), some (.int (nI (5 * t))), q5, q6] [] h2 sz2 (k + 4) (w + 24)) : GW G l (Zl G b L xs) room_1 M_L_law 396 [some (.ref b), some (.ref x), some (.ref m), some (.ref oa), some (.int (nI (5 * t))), v5, v6] [] h sz k w := by
  refine gw_al1 d_L_law_396 ?_
  refine gw_al0 d_L_law_397 ?_
  refine gw_il4 d_L_law_398 ?_
  refine gw_push d_L_law_400 ?_
  refine gw_iadd d_L_law_401 ?_; rw [show nI (5 * t) + 1 = nI (5 * t + 1) from nI_add (a := 5 * t) (b := 1)]
  refine gw_sld d_L_law_402 (5 * t + 1) rfl (by omega) (by omega) ?_
  refine gw_al0 d_L_law_403 ?_
  refine gw_il4 d_L_law_404 ?_
  refine gw_push d_L_law_406 ?_
  refine gw_iadd d_L_law_407 ?_; rw [show nI (5 * t) + 2 = nI (5 * t + 2) from nI_add (a := 5 * t) (b := 2)]
  refine gw_sld d_L_law_408 (5 * t + 2) rfl (by omega) (by omega) ?_
  refine gw_al0 d_L_law_409 ?_
  refine gw_il4 d_L_law_410 ?_
  refine gw_push d_L_law_412 ?_
  refine gw_iadd d_L_law_413 ?_; rw [show nI (5 * t) + 3 = nI (5 * t + 3) from nI_add (a := 5 * t) (b := 3)]
  refine gw_sld d_L_law_414 (5 * t + 3) rfl (by omega) (by omega) ?_
  refine gw_al0 d_L_law_415 ?_
  refine gw_il4 d_L_law_416 ?_
  refine gw_push d_L_law_418 ?_
  refine gw_iadd d_L_law_419 ?_; rw [show nI (5 * t) + 4 = nI (5 * t + 4) from nI_add (a := 5 * t) (b := 4)]
  refine gw_sld d_L_law_420 (5 * t + 4) rfl (by omega) (by omega) ?_
  refine gw_al3 d_L_law_421 ?_
  refine gw_callS (As := [.ref x, .int (xs (5 * t + 1)), .int (xs (5 * t + 2)), .int (xs (5 * t + 3)), .int (xs (5 * t + 4)), .ref oa]) d_L_law_422 cs_L_law_422 rfl rfl (Nat.le_of_ble_eq_true rfl) ⟨by decide, by decide⟩ hk hw hWr (fun v h1 sz1 hq hz => ?_) (fun E h1 sz1 hq hz => by obtain ⟨r0, Qm, fs, e1, -⟩ := hQ _ _ _ hq; cases e1); obtain ⟨r0, Qm, fs, e1, hm, hS, hR⟩ := hQ _ _ _ hq; cases e1
  refine gw_is5 d_L_law_425 ?_
  refine gw_al2 d_L_law_427 ?_
  refine gw_al0 d_L_law_428 ?_
  refine gw_il4 d_L_law_429 ?_
  refine gw_push d_L_law_431 ?_
  refine gw_iadd d_L_law_432 ?_; rw [show nI (5 * t) + 1 = nI (5 * t + 1) from nI_add (a := 5 * t) (b := 1)]
  refine gw_sld d_L_law_433 (5 * t + 1) rfl (by omega) (by omega) ?_
  refine gw_al0 d_L_law_434 ?_
  refine gw_il4 d_L_law_435 ?_
  refine gw_push d_L_law_437 ?_
  refine gw_iadd d_L_law_438 ?_; rw [show nI (5 * t) + 2 = nI (5 * t + 2) from nI_add (a := 5 * t) (b := 2)]
  refine gw_sld d_L_law_439 (5 * t + 2) rfl (by omega) (by omega) ?_
  refine gw_al0 d_L_law_440 ?_
  refine gw_il4 d_L_law_441 ?_
  refine gw_push d_L_law_443 ?_
  refine gw_iadd d_L_law_444 ?_; rw [show nI (5 * t) + 3 = nI (5 * t + 3) from nI_add (a := 5 * t) (b := 3)]
  refine gw_sld d_L_law_445 (5 * t + 3) rfl (by omega) (by omega) ?_
  refine gw_al0 d_L_law_446 ?_
  refine gw_il4 d_L_law_447 ?_
  refine gw_push d_L_law_449 ?_
  refine gw_iadd d_L_law_450 ?_; rw [show nI (5 * t) + 4 = nI (5 * t + 4) from nI_add (a := 5 * t) (b := 4)]
  refine gw_sld d_L_law_451 (5 * t + 4) rfl (by omega) (by omega) ?_
  refine gw_callV (As := [.int (xs (5 * t + 1)), .int (xs (5 * t + 2)), .int (xs (5 * t + 3)), .int (xs (5 * t + 4))]) d_L_law_452 cs_L_law_452 hm rfl rfl (Nat.le_of_ble_eq_true rfl) ⟨by decide, by decide⟩ (by show k + 4 + 0 ≤ 601024; omega) (by show w + 24 + 0 ≤ 7293033; omega) hS (fun v h2 sz2 hq2 hz2 => ?_) (fun E h2 sz2 hq2 _ => by obtain ⟨X, e2, -⟩ := hR _ _ _ hq2; cases e2); obtain ⟨X, e2, ⟨T, vs, lf, U, hM, hT⟩, ho, hW⟩ := hR _ _ _ hq2; cases e2; have hm2 := hM.1
  refine gw_is6 d_L_law_455 ?_
  refine gw_al2 d_L_law_457 ?_
  refine gw_rV0 d_L_law_458 cs_L_law_458 hm2 (c_R_thrown hM) ?_ (hcs := by show k + 4 + 0 + 0 ≤ 601024; omega) (hss := by show w + 24 + 0 + 0 ≤ 7293033; omega)
  refine gw_il5 d_L_law_461 ?_
  refine gw_iceq d_L_law_463 (fun c_0 => ?_) (fun c_0 => absurd hT c_0)
  by_cases hr0 : r0 = 0
  · obtain ⟨f1, ho1, ho2⟩ := ho hr0
    exact lz_byteOf hr0 ho1 ho2 (kk h2 sz2 _ _ hW)
  · exact gw_il5 d_L_law_468 (gw_ifne d_L_law_470 (fun _ => gw_goto d_L_law_485 (kk h2 sz2 _ _ hW)) (fun c => absurd c hr0))
theorem lz_visit {r0 X : Int32} {f1 : Nat → Int64} {k w : Nat} (hr0 : r0 = 0) (ho1 : h oa = some (gL 1 f1)) (ho2 : f1 0 = X.toInt64) (kk : GW G l (Zl G b L xs) room_1 M_L_law 1192 [some (.ref b), some (.ref x), some (.ref m), some (.ref oa), some (.int (nI (5 * t))), some (.int r0), some (.int X)] [] h sz k w) : GW G l (Zl G b L xs) room_1 M_L_law 548 [some (.ref b), some (.ref x), some (.ref m), some (.ref oa), some (.int (nI (5 * t))), some (.int r0), some (.int X)] [] h sz k w := by
  subst hr0
  refine gw_il5 d_L_law_548 ?_
  refine gw_ifne d_L_law_550 (fun c_0 => absurd rfl c_0) (fun c_0 => ?_)
  refine gw_al3 d_L_law_553 ?_
  refine gw_push d_L_law_554 ?_
  refine gw_lald d_L_law_555 ho1 0 rfl (by omega) (by omega) ?_; rw [ho2]
  refine gw_il6 d_L_law_556 ?_
  refine gw_i2l d_L_law_558 ?_
  refine gw_lcmp d_L_law_559 ?_; rw [lg_cmp_self]
  refine gw_ifeq d_L_law_560 (fun c_1 => ?_) (fun c_1 => absurd rfl c_1)
  refine gw_goto d_L_law_565 ?_
  exact kk
theorem lk_visit {v5 v6 : Option Value} (ht : 5 * t + 5 ≤ L) (hL : L ≤ 2560) (hk : k + 146 ≤ 601024) (hw : w + 10380 ≤ 7293033) (hWr : SM G l 12 y_L_visit M_L_visit [.ref x, .int (xs (5 * t + 1)), .int (xs (5 * t + 2)), .int (xs (5 * t + 3)), .ref oa] h sz 146 10380 Qw) (hQ : ∀ r h1 sz1, Qw r h1 sz1 → ∃ (r0 : Int32) (Qm : gRs → gHp → Nat → Prop) (fs : List Value), r = .inl (some (.int r0)) ∧ h1 m = some (gO 6 fs) ∧ SM G l 6 y_R_visit M_R_visit [.ref m, .int (xs (5 * t + 1)), .int (xs (5 * t + 2)), .int (xs (5 * t + 3))] h1 sz1 0 0 Qm ∧ ∀ r' h2 sz2, Qm r' h2 sz2 → ∃ X : Int32, r' = .inl (some (.int X)) ∧ (∃ (T : Int32) (vs : Nat) (lf : Int32) (U : gU), MV h2 m A T vs lf U ∧ T = r0) ∧ (r0 = 0 → ∃ f1, h2 oa = some (gL 1 f1) ∧ f1 0 = X.toInt64) ∧ Wn h2 sz2) (kk : ∀ h2 sz2 q5 q6, Wn h2 sz2 → GW G l (Zl G b L xs) room_1 M_L_law 1192 [some (.ref b), some (.ref x), some (.ref m), some (.ref oa), some (.int (nI (5 * t))), q5, q6] [] h2 sz2 (k + 146) (w + 10380)) : GW G l (Zl G b L xs) room_1 M_L_law 488 [some (.ref b), some (.ref x), some (.ref m), some (.ref oa), some (.int (nI (5 * t))), v5, v6] [] h sz k w := by
  refine gw_al1 d_L_law_488 ?_
  refine gw_al0 d_L_law_489 ?_
  refine gw_il4 d_L_law_490 ?_
  refine gw_push d_L_law_492 ?_
  refine gw_iadd d_L_law_493 ?_; rw [show nI (5 * t) + 1 = nI (5 * t + 1) from nI_add (a := 5 * t) (b := 1)]
  refine gw_sld d_L_law_494 (5 * t + 1) rfl (by omega) (by omega) ?_
  refine gw_al0 d_L_law_495 ?_
  refine gw_il4 d_L_law_496 ?_
  refine gw_push d_L_law_498 ?_
  refine gw_iadd d_L_law_499 ?_; rw [show nI (5 * t) + 2 = nI (5 * t + 2) from nI_add (a := 5 * t) (b := 2)]
  refine gw_sld d_L_law_500 (5 * t + 2) rfl (by omega) (by omega) ?_
  refine gw_al0 d_L_law_501 ?_
  refine gw_il4 d_L_law_502 ?_
  refine gw_push d_L_law_504 ?_
  refine gw_iadd d_L_law_505 ?_; rw [show nI (5 * t) + 3 = nI (5 * t + 3) from nI_add (a := 5 * t) (b := 3)]
  refine gw_sld d_L_law_506 (5 * t + 3) rfl (by omega) (by omega) ?_
  refine gw_al3 d_L_law_507 ?_
  refine gw_callS (As := [.ref x, .int (xs (5 * t + 1)), .int (xs (5 * t + 2)), .int (xs (5 * t + 3)), .ref oa]) d_L_law_508 cs_L_law_508 rfl rfl (Nat.le_of_ble_eq_true rfl) ⟨by decide, by decide⟩ hk hw hWr (fun v h1 sz1 hq hz => ?_) (fun E h1 sz1 hq hz => by obtain ⟨r0, Qm, fs, e1, -⟩ := hQ _ _ _ hq; cases e1); obtain ⟨r0, Qm, fs, e1, hm, hS, hR⟩ := hQ _ _ _ hq; cases e1
  refine gw_is5 d_L_law_511 ?_
  refine gw_al2 d_L_law_513 ?_
  refine gw_al0 d_L_law_514 ?_
  refine gw_il4 d_L_law_515 ?_
  refine gw_push d_L_law_517 ?_
  refine gw_iadd d_L_law_518 ?_; rw [show nI (5 * t) + 1 = nI (5 * t + 1) from nI_add (a := 5 * t) (b := 1)]
  refine gw_sld d_L_law_519 (5 * t + 1) rfl (by omega) (by omega) ?_
  refine gw_al0 d_L_law_520 ?_
  refine gw_il4 d_L_law_521 ?_
  refine gw_push d_L_law_523 ?_
  refine gw_iadd d_L_law_524 ?_; rw [show nI (5 * t) + 2 = nI (5 * t + 2) from nI_add (a := 5 * t) (b := 2)]
  refine gw_sld d_L_law_525 (5 * t + 2) rfl (by omega) (by omega) ?_
  refine gw_al0 d_L_law_526 ?_
  refine gw_il4 d_L_law_527 ?_
  refine gw_push d_L_law_529 ?_
  refine gw_iadd d_L_law_530 ?_; rw [show nI (5 * t) + 3 = nI (5 * t + 3) from nI_add (a := 5 * t) (b := 3)]
  refine gw_sld d_L_law_531 (5 * t + 3) rfl (by omega) (by omega) ?_
  refine gw_callV (As := [.int (xs (5 * t + 1)), .int (xs (5 * t + 2)), .int (xs (5 * t + 3))]) d_L_law_532 cs_L_law_532 hm rfl rfl (Nat.le_of_ble_eq_true rfl) ⟨by decide, by decide⟩ (by show k + 146 + 0 ≤ 601024; omega) (by show w + 10380 + 0 ≤ 7293033; omega) hS (fun v h2 sz2 hq2 hz2 => ?_) (fun E h2 sz2 hq2 _ => by obtain ⟨X, e2, -⟩ := hR _ _ _ hq2; cases e2); obtain ⟨X, e2, ⟨T, vs, lf, U, hM, hT⟩, ho, hW⟩ := hR _ _ _ hq2; cases e2; have hm2 := hM.1
  refine gw_is6 d_L_law_535 ?_
  refine gw_al2 d_L_law_537 ?_
  refine gw_rV0 d_L_law_538 cs_L_law_538 hm2 (c_R_thrown hM) ?_ (hcs := by show k + 146 + 0 + 0 ≤ 601024; omega) (hss := by show w + 10380 + 0 + 0 ≤ 7293033; omega)
  refine gw_il5 d_L_law_541 ?_
  refine gw_iceq d_L_law_543 (fun c_0 => ?_) (fun c_0 => absurd hT c_0)
  by_cases hr0 : r0 = 0
  · obtain ⟨f1, ho1, ho2⟩ := ho hr0
    exact lz_visit hr0 ho1 ho2 (kk h2 sz2 _ _ hW)
  · exact gw_il5 d_L_law_548 (gw_ifne d_L_law_550 (fun _ => gw_goto d_L_law_565 (kk h2 sz2 _ _ hW)) (fun c => absurd c hr0))
theorem lz_cut {r0 X : Int32} {f1 : Nat → Int64} {k w : Nat} (hr0 : r0 = 0) (ho1 : h oa = some (gL 1 f1)) (ho2 : f1 0 = X.toInt64) (kk : GW G l (Zl G b L xs) room_1 M_L_law 1192 [some (.ref b), some (.ref x), some (.ref m), some (.ref oa), some (.int (nI (5 * t))), some (.int r0), some (.int X)] [] h sz k w) : GW G l (Zl G b L xs) room_1 M_L_law 640 [some (.ref b), some (.ref x), some (.ref m), some (.ref oa), some (.int (nI (5 * t))), some (.int r0), some (.int X)] [] h sz k w := by
  subst hr0
  refine gw_il5 d_L_law_640 ?_
  refine gw_ifne d_L_law_642 (fun c_0 => absurd rfl c_0) (fun c_0 => ?_)
  refine gw_al3 d_L_law_645 ?_
  refine gw_push d_L_law_646 ?_
  refine gw_lald d_L_law_647 ho1 0 rfl (by omega) (by omega) ?_; rw [ho2]
  refine gw_il6 d_L_law_648 ?_
  refine gw_i2l d_L_law_650 ?_
  refine gw_lcmp d_L_law_651 ?_; rw [lg_cmp_self]
  refine gw_ifeq d_L_law_652 (fun c_1 => ?_) (fun c_1 => absurd rfl c_1)
  refine gw_goto d_L_law_657 ?_
  exact kk
theorem lk_cut {v5 v6 : Option Value} (ht : 5 * t + 5 ≤ L) (hL : L ≤ 2560) (hk : k + 147 ≤ 601024) (hw : w + 10386 ≤ 7293033) (hWr : SM G l 12 y_L_cut M_L_cut [.ref x, .int (xs (5 * t + 1)), .int (xs (5 * t + 2)), .int (xs (5 * t + 3)), .int (xs (5 * t + 4)), .ref oa] h sz 147 10386 Qw) (hQ : ∀ r h1 sz1, Qw r h1 sz1 → ∃ (r0 : Int32) (Qm : gRs → gHp → Nat → Prop) (fs : List Value), r = .inl (some (.int r0)) ∧ h1 m = some (gO 6 fs) ∧ SM G l 6 y_R_cut M_R_cut [.ref m, .int (xs (5 * t + 1)), .int (xs (5 * t + 2)), .int (xs (5 * t + 3)), .int (xs (5 * t + 4))] h1 sz1 0 0 Qm ∧ ∀ r' h2 sz2, Qm r' h2 sz2 → ∃ X : Int32, r' = .inl (some (.int X)) ∧ (∃ (T : Int32) (vs : Nat) (lf : Int32) (U : gU), MV h2 m A T vs lf U ∧ T = r0) ∧ (r0 = 0 → ∃ f1, h2 oa = some (gL 1 f1) ∧ f1 0 = X.toInt64) ∧ Wn h2 sz2) (kk : ∀ h2 sz2 q5 q6, Wn h2 sz2 → GW G l (Zl G b L xs) room_1 M_L_law 1192 [some (.ref b), some (.ref x), some (.ref m), some (.ref oa), some (.int (nI (5 * t))), q5, q6] [] h2 sz2 (k + 147) (w + 10386)) : GW G l (Zl G b L xs) room_1 M_L_law 568 [some (.ref b), some (.ref x), some (.ref m), some (.ref oa), some (.int (nI (5 * t))), v5, v6] [] h sz k w := by
  refine gw_al1 d_L_law_568 ?_
  refine gw_al0 d_L_law_569 ?_
  refine gw_il4 d_L_law_570 ?_
  refine gw_push d_L_law_572 ?_
  refine gw_iadd d_L_law_573 ?_; rw [show nI (5 * t) + 1 = nI (5 * t + 1) from nI_add (a := 5 * t) (b := 1)]
  refine gw_sld d_L_law_574 (5 * t + 1) rfl (by omega) (by omega) ?_
  refine gw_al0 d_L_law_575 ?_
  refine gw_il4 d_L_law_576 ?_
  refine gw_push d_L_law_578 ?_
  refine gw_iadd d_L_law_579 ?_; rw [show nI (5 * t) + 2 = nI (5 * t + 2) from nI_add (a := 5 * t) (b := 2)]
  refine gw_sld d_L_law_580 (5 * t + 2) rfl (by omega) (by omega) ?_
  refine gw_al0 d_L_law_581 ?_
  refine gw_il4 d_L_law_582 ?_
  refine gw_push d_L_law_584 ?_
  refine gw_iadd d_L_law_585 ?_; rw [show nI (5 * t) + 3 = nI (5 * t + 3) from nI_add (a := 5 * t) (b := 3)]
  refine gw_sld d_L_law_586 (5 * t + 3) rfl (by omega) (by omega) ?_
  refine gw_al0 d_L_law_587 ?_
  refine gw_il4 d_L_law_588 ?_
  refine gw_push d_L_law_590 ?_
  refine gw_iadd d_L_law_591 ?_; rw [show nI (5 * t) + 4 = nI (5 * t + 4) from nI_add (a := 5 * t) (b := 4)]
  refine gw_sld d_L_law_592 (5 * t + 4) rfl (by omega) (by omega) ?_
  refine gw_al3 d_L_law_593 ?_
  refine gw_callS (As := [.ref x, .int (xs (5 * t + 1)), .int (xs (5 * t + 2)), .int (xs (5 * t + 3)), .int (xs (5 * t + 4)), .ref oa]) d_L_law_594 cs_L_law_594 rfl rfl (Nat.le_of_ble_eq_true rfl) ⟨by decide, by decide⟩ hk hw hWr (fun v h1 sz1 hq hz => ?_) (fun E h1 sz1 hq hz => by obtain ⟨r0, Qm, fs, e1, -⟩ := hQ _ _ _ hq; cases e1); obtain ⟨r0, Qm, fs, e1, hm, hS, hR⟩ := hQ _ _ _ hq; cases e1
  refine gw_is5 d_L_law_597 ?_
  refine gw_al2 d_L_law_599 ?_
  refine gw_al0 d_L_law_600 ?_
  refine gw_il4 d_L_law_601 ?_
  refine gw_push d_L_law_603 ?_
  refine gw_iadd d_L_law_604 ?_; rw [show nI (5 * t) + 1 = nI (5 * t + 1) from nI_add (a := 5 * t) (b := 1)]
  refine gw_sld d_L_law_605 (5 * t + 1) rfl (by omega) (by omega) ?_
  refine gw_al0 d_L_law_606 ?_
  refine gw_il4 d_L_law_607 ?_
  refine gw_push d_L_law_609 ?_
  refine gw_iadd d_L_law_610 ?_; rw [show nI (5 * t) + 2 = nI (5 * t + 2) from nI_add (a := 5 * t) (b := 2)]
  refine gw_sld d_L_law_611 (5 * t + 2) rfl (by omega) (by omega) ?_
  refine gw_al0 d_L_law_612 ?_
  refine gw_il4 d_L_law_613 ?_
  refine gw_push d_L_law_615 ?_
  refine gw_iadd d_L_law_616 ?_; rw [show nI (5 * t) + 3 = nI (5 * t + 3) from nI_add (a := 5 * t) (b := 3)]
  refine gw_sld d_L_law_617 (5 * t + 3) rfl (by omega) (by omega) ?_
  refine gw_al0 d_L_law_618 ?_
  refine gw_il4 d_L_law_619 ?_
  refine gw_push d_L_law_621 ?_
  refine gw_iadd d_L_law_622 ?_; rw [show nI (5 * t) + 4 = nI (5 * t + 4) from nI_add (a := 5 * t) (b := 4)]
  refine gw_sld d_L_law_623 (5 * t + 4) rfl (by omega) (by omega) ?_
  refine gw_callV (As := [.int (xs (5 * t + 1)), .int (xs (5 * t + 2)), .int (xs (5 * t + 3)), .int (xs (5 * t + 4))]) d_L_law_624 cs_L_law_624 hm rfl rfl (Nat.le_of_ble_eq_true rfl) ⟨by decide, by decide⟩ (by show k + 147 + 0 ≤ 601024; omega) (by show w + 10386 + 0 ≤ 7293033; omega) hS (fun v h2 sz2 hq2 hz2 => ?_) (fun E h2 sz2 hq2 _ => by obtain ⟨X, e2, -⟩ := hR _ _ _ hq2; cases e2); obtain ⟨X, e2, ⟨T, vs, lf, U, hM, hT⟩, ho, hW⟩ := hR _ _ _ hq2; cases e2; have hm2 := hM.1
  refine gw_is6 d_L_law_627 ?_
  refine gw_al2 d_L_law_629 ?_
  refine gw_rV0 d_L_law_630 cs_L_law_630 hm2 (c_R_thrown hM) ?_ (hcs := by show k + 147 + 0 + 0 ≤ 601024; omega) (hss := by show w + 10386 + 0 + 0 ≤ 7293033; omega)
  refine gw_il5 d_L_law_633 ?_
  refine gw_iceq d_L_law_635 (fun c_0 => ?_) (fun c_0 => absurd hT c_0)
  by_cases hr0 : r0 = 0
  · obtain ⟨f1, ho1, ho2⟩ := ho hr0
    exact lz_cut hr0 ho1 ho2 (kk h2 sz2 _ _ hW)
  · exact gw_il5 d_L_law_640 (gw_ifne d_L_law_642 (fun _ => gw_goto d_L_law_657 (kk h2 sz2 _ _ hW)) (fun c => absurd c hr0))
theorem lz_lose {r0 X : Int32} {f1 : Nat → Int64} {k w : Nat} (hr0 : r0 = 0) (ho1 : h oa = some (gL 1 f1)) (ho2 : f1 0 = X.toInt64) (kk : GW G l (Zl G b L xs) room_1 M_L_law 1192 [some (.ref b), some (.ref x), some (.ref m), some (.ref oa), some (.int (nI (5 * t))), some (.int r0), some (.int X)] [] h sz k w) : GW G l (Zl G b L xs) room_1 M_L_law 696 [some (.ref b), some (.ref x), some (.ref m), some (.ref oa), some (.int (nI (5 * t))), some (.int r0), some (.int X)] [] h sz k w := by
  subst hr0
  refine gw_il5 d_L_law_696 ?_
  refine gw_ifne d_L_law_698 (fun c_0 => absurd rfl c_0) (fun c_0 => ?_)
  refine gw_al3 d_L_law_701 ?_
  refine gw_push d_L_law_702 ?_
  refine gw_lald d_L_law_703 ho1 0 rfl (by omega) (by omega) ?_; rw [ho2]
  refine gw_il6 d_L_law_704 ?_
  refine gw_i2l d_L_law_706 ?_
  refine gw_lcmp d_L_law_707 ?_; rw [lg_cmp_self]
  refine gw_ifeq d_L_law_708 (fun c_1 => ?_) (fun c_1 => absurd rfl c_1)
  refine gw_goto d_L_law_713 ?_
  exact kk
theorem lk_lose {v5 v6 : Option Value} (ht : 5 * t + 5 ≤ L) (hL : L ≤ 2560) (hk : k + 1 ≤ 601024) (hw : w + 6 ≤ 7293033) (hWr : SM G l 6 y_L_lose M_L_lose [.ref x, .int (xs (5 * t + 1)), .ref oa] h sz 1 6 Qw) (hQ : ∀ r h1 sz1, Qw r h1 sz1 → ∃ (r0 : Int32) (Qm : gRs → gHp → Nat → Prop) (fs : List Value), r = .inl (some (.int r0)) ∧ h1 m = some (gO 6 fs) ∧ SM G l 2 y_R_lose M_R_lose [.ref m, .int (xs (5 * t + 1))] h1 sz1 0 0 Qm ∧ ∀ r' h2 sz2, Qm r' h2 sz2 → ∃ X : Int32, r' = .inl (some (.int X)) ∧ (∃ (T : Int32) (vs : Nat) (lf : Int32) (U : gU), MV h2 m A T vs lf U ∧ T = r0) ∧ (r0 = 0 → ∃ f1, h2 oa = some (gL 1 f1) ∧ f1 0 = X.toInt64) ∧ Wn h2 sz2) (kk : ∀ h2 sz2 q5 q6, Wn h2 sz2 → GW G l (Zl G b L xs) room_1 M_L_law 1192 [some (.ref b), some (.ref x), some (.ref m), some (.ref oa), some (.int (nI (5 * t))), q5, q6] [] h2 sz2 (k + 1) (w + 6)) : GW G l (Zl G b L xs) room_1 M_L_law 660 [some (.ref b), some (.ref x), some (.ref m), some (.ref oa), some (.int (nI (5 * t))), v5, v6] [] h sz k w := by
  refine gw_al1 d_L_law_660 ?_
  refine gw_al0 d_L_law_661 ?_
  refine gw_il4 d_L_law_662 ?_
  refine gw_push d_L_law_664 ?_
  refine gw_iadd d_L_law_665 ?_; rw [show nI (5 * t) + 1 = nI (5 * t + 1) from nI_add (a := 5 * t) (b := 1)]
  refine gw_sld d_L_law_666 (5 * t + 1) rfl (by omega) (by omega) ?_
  refine gw_al3 d_L_law_667 ?_
  refine gw_callS (As := [.ref x, .int (xs (5 * t + 1)), .ref oa]) d_L_law_668 cs_L_law_668 rfl rfl (Nat.le_of_ble_eq_true rfl) ⟨by decide, by decide⟩ hk hw hWr (fun v h1 sz1 hq hz => ?_) (fun E h1 sz1 hq hz => by obtain ⟨r0, Qm, fs, e1, -⟩ := hQ _ _ _ hq; cases e1); obtain ⟨r0, Qm, fs, e1, hm, hS, hR⟩ := hQ _ _ _ hq; cases e1
  refine gw_is5 d_L_law_671 ?_
  refine gw_al2 d_L_law_673 ?_
  refine gw_al0 d_L_law_674 ?_
  refine gw_il4 d_L_law_675 ?_
  refine gw_push d_L_law_677 ?_
  refine gw_iadd d_L_law_678 ?_; rw [show nI (5 * t) + 1 = nI (5 * t + 1) from nI_add (a := 5 * t) (b := 1)]
  refine gw_sld d_L_law_679 (5 * t + 1) rfl (by omega) (by omega) ?_
  refine gw_callV (As := [.int (xs (5 * t + 1))]) d_L_law_680 cs_L_law_680 hm rfl rfl (Nat.le_of_ble_eq_true rfl) ⟨by decide, by decide⟩ (by show k + 1 + 0 ≤ 601024; omega) (by show w + 6 + 0 ≤ 7293033; omega) hS (fun v h2 sz2 hq2 hz2 => ?_) (fun E h2 sz2 hq2 _ => by obtain ⟨X, e2, -⟩ := hR _ _ _ hq2; cases e2); obtain ⟨X, e2, ⟨T, vs, lf, U, hM, hT⟩, ho, hW⟩ := hR _ _ _ hq2; cases e2; have hm2 := hM.1
  refine gw_is6 d_L_law_683 ?_
  refine gw_al2 d_L_law_685 ?_
  refine gw_rV0 d_L_law_686 cs_L_law_686 hm2 (c_R_thrown hM) ?_ (hcs := by show k + 1 + 0 + 0 ≤ 601024; omega) (hss := by show w + 6 + 0 + 0 ≤ 7293033; omega)
  refine gw_il5 d_L_law_689 ?_
  refine gw_iceq d_L_law_691 (fun c_0 => ?_) (fun c_0 => absurd hT c_0)
  by_cases hr0 : r0 = 0
  · obtain ⟨f1, ho1, ho2⟩ := ho hr0
    exact lz_lose hr0 ho1 ho2 (kk h2 sz2 _ _ hW)
  · exact gw_il5 d_L_law_696 (gw_ifne d_L_law_698 (fun _ => gw_goto d_L_law_713 (kk h2 sz2 _ _ hW)) (fun c => absurd c hr0))
theorem lk_copy {v5 v6 : Option Value} (ht : 5 * t + 5 ≤ L) (hL : L ≤ 2560) (hk : k + 50 ≤ 601024) (hw : w + 3468 ≤ 7293033) (hWr : SM G l 10 y_L_copy M_L_copy [.ref x, .int (xs (5 * t + 1)), .int (xs (5 * t + 2))] h sz 50 3468 Qw) (hQ : ∀ r h1 sz1, Qw r h1 sz1 → ∃ (r0 : Int32) (Qm : gRs → gHp → Nat → Prop) (fs : List Value), r = .inl (some (.int r0)) ∧ h1 m = some (gO 6 fs) ∧ SM G l 2 y_R_copy M_R_copy [.ref m, .int (xs (5 * t + 1)), .int (xs (5 * t + 2))] h1 sz1 0 0 Qm ∧ ∀ r' h2 sz2, Qm r' h2 sz2 → r' = .inl none ∧ (∃ (T : Int32) (vs : Nat) (lf : Int32) (U : gU), MV h2 m A T vs lf U ∧ T = r0) ∧ Wn h2 sz2) (kk : ∀ h2 sz2 q5 q6, Wn h2 sz2 → GW G l (Zl G b L xs) room_1 M_L_law 1192 [some (.ref b), some (.ref x), some (.ref m), some (.ref oa), some (.int (nI (5 * t))), q5, q6] [] h2 sz2 (k + 50) (w + 3468)) : GW G l (Zl G b L xs) room_1 M_L_law 716 [some (.ref b), some (.ref x), some (.ref m), some (.ref oa), some (.int (nI (5 * t))), v5, v6] [] h sz k w := by
  refine gw_al1 d_L_law_716 ?_
  refine gw_al0 d_L_law_717 ?_
  refine gw_il4 d_L_law_718 ?_
  refine gw_push d_L_law_720 ?_
  refine gw_iadd d_L_law_721 ?_; rw [show nI (5 * t) + 1 = nI (5 * t + 1) from nI_add (a := 5 * t) (b := 1)]
  refine gw_sld d_L_law_722 (5 * t + 1) rfl (by omega) (by omega) ?_
  refine gw_al0 d_L_law_723 ?_
  refine gw_il4 d_L_law_724 ?_
  refine gw_push d_L_law_726 ?_
  refine gw_iadd d_L_law_727 ?_; rw [show nI (5 * t) + 2 = nI (5 * t + 2) from nI_add (a := 5 * t) (b := 2)]
  refine gw_sld d_L_law_728 (5 * t + 2) rfl (by omega) (by omega) ?_
  refine gw_callS (As := [.ref x, .int (xs (5 * t + 1)), .int (xs (5 * t + 2))]) d_L_law_729 cs_L_law_729 rfl rfl (Nat.le_of_ble_eq_true rfl) ⟨by decide, by decide⟩ hk hw hWr (fun v h1 sz1 hq hz => ?_) (fun E h1 sz1 hq hz => by obtain ⟨r0, Qm, fs, e1, -⟩ := hQ _ _ _ hq; cases e1); obtain ⟨r0, Qm, fs, e1, hm, hS, hR⟩ := hQ _ _ _ hq; cases e1
  refine gw_is5 d_L_law_732 ?_
  refine gw_al2 d_L_law_734 ?_
  refine gw_al0 d_L_law_735 ?_
  refine gw_il4 d_L_law_736 ?_
  refine gw_push d_L_law_738 ?_
  refine gw_iadd d_L_law_739 ?_; rw [show nI (5 * t) + 1 = nI (5 * t + 1) from nI_add (a := 5 * t) (b := 1)]
  refine gw_sld d_L_law_740 (5 * t + 1) rfl (by omega) (by omega) ?_
  refine gw_al0 d_L_law_741 ?_
  refine gw_il4 d_L_law_742 ?_
  refine gw_push d_L_law_744 ?_
  refine gw_iadd d_L_law_745 ?_; rw [show nI (5 * t) + 2 = nI (5 * t + 2) from nI_add (a := 5 * t) (b := 2)]
  refine gw_sld d_L_law_746 (5 * t + 2) rfl (by omega) (by omega) ?_
  refine gw_callV (As := [.int (xs (5 * t + 1)), .int (xs (5 * t + 2))]) d_L_law_747 cs_L_law_747 hm rfl rfl (Nat.le_of_ble_eq_true rfl) ⟨by decide, by decide⟩ (by show k + 50 + 0 ≤ 601024; omega) (by show w + 3468 + 0 ≤ 7293033; omega) hS (fun v h2 sz2 hq2 hz2 => ?_) (fun E h2 sz2 hq2 _ => by cases (hR _ _ _ hq2).1); obtain ⟨e2, ⟨T, vs, lf, U, hM, hT⟩, hW⟩ := hR _ _ _ hq2; cases e2; have hm2 := hM.1
  refine gw_al2 d_L_law_750 ?_
  refine gw_rV0 d_L_law_751 cs_L_law_751 hm2 (c_R_thrown hM) ?_ (hcs := by show k + 50 + 0 + 0 ≤ 601024; omega) (hss := by show w + 3468 + 0 + 0 ≤ 7293033; omega)
  refine gw_il5 d_L_law_754 ?_
  refine gw_iceq d_L_law_756 (fun c_0 => ?_) (fun c_0 => absurd hT c_0)
  refine gw_goto d_L_law_761 ?_
  exact kk h2 sz2 _ _ hW
theorem lz_known {r0 X : Int32} {f1 : Nat → Int64} {k w : Nat} (hr0 : r0 = 0) (ho1 : h oa = some (gL 1 f1)) (ho2 : f1 0 = X.toInt64) (kk : GW G l (Zl G b L xs) room_1 M_L_law 1192 [some (.ref b), some (.ref x), some (.ref m), some (.ref oa), some (.int (nI (5 * t))), some (.int r0), some (.int X)] [] h sz k w) : GW G l (Zl G b L xs) room_1 M_L_law 836 [some (.ref b), some (.ref x), some (.ref m), some (.ref oa), some (.int (nI (5 * t))), some (.int r0), some (.int X)] [] h sz k w := by
  subst hr0
  refine gw_il5 d_L_law_836 ?_
  refine gw_ifne d_L_law_838 (fun c_0 => absurd rfl c_0) (fun c_0 => ?_)
  refine gw_al3 d_L_law_841 ?_
  refine gw_push d_L_law_842 ?_
  refine gw_lald d_L_law_843 ho1 0 rfl (by omega) (by omega) ?_; rw [ho2]
  refine gw_il6 d_L_law_844 ?_
  refine gw_i2l d_L_law_846 ?_
  refine gw_lcmp d_L_law_847 ?_; rw [lg_cmp_self]
  refine gw_ifeq d_L_law_848 (fun c_1 => ?_) (fun c_1 => absurd rfl c_1)
  refine gw_goto d_L_law_853 ?_
  exact kk
theorem lk_known {v5 v6 : Option Value} (ht : 5 * t + 5 ≤ L) (hL : L ≤ 2560) (hk : k + 4 ≤ 601024) (hw : w + 24 ≤ 7293033) (hWr : SM G l 6 y_L_known M_L_known [.ref x, .int (xs (5 * t + 1)), .int (xs (5 * t + 2)), .int (xs (5 * t + 3)), .int (xs (5 * t + 4)), .ref oa] h sz 4 24 Qw) (hQ : ∀ r h1 sz1, Qw r h1 sz1 → ∃ (r0 : Int32) (Qm : gRs → gHp → Nat → Prop) (fs : List Value), r = .inl (some (.int r0)) ∧ h1 m = some (gO 6 fs) ∧ SM G l 3 y_R_known M_R_known [.ref m, .int (xs (5 * t + 1)), .int (xs (5 * t + 2)), .int (xs (5 * t + 3)), .int (xs (5 * t + 4))] h1 sz1 0 0 Qm ∧ ∀ r' h2 sz2, Qm r' h2 sz2 → ∃ X : Int32, r' = .inl (some (.int X)) ∧ (∃ (T : Int32) (vs : Nat) (lf : Int32) (U : gU), MV h2 m A T vs lf U ∧ T = r0) ∧ (r0 = 0 → ∃ f1, h2 oa = some (gL 1 f1) ∧ f1 0 = X.toInt64) ∧ Wn h2 sz2) (kk : ∀ h2 sz2 q5 q6, Wn h2 sz2 → GW G l (Zl G b L xs) room_1 M_L_law 1192 [some (.ref b), some (.ref x), some (.ref m), some (.ref oa), some (.int (nI (5 * t))), q5, q6] [] h2 sz2 (k + 4) (w + 24)) : GW G l (Zl G b L xs) room_1 M_L_law 764 [some (.ref b), some (.ref x), some (.ref m), some (.ref oa), some (.int (nI (5 * t))), v5, v6] [] h sz k w := by
  refine gw_al1 d_L_law_764 ?_
  refine gw_al0 d_L_law_765 ?_
  refine gw_il4 d_L_law_766 ?_
  refine gw_push d_L_law_768 ?_
  refine gw_iadd d_L_law_769 ?_; rw [show nI (5 * t) + 1 = nI (5 * t + 1) from nI_add (a := 5 * t) (b := 1)]
  refine gw_sld d_L_law_770 (5 * t + 1) rfl (by omega) (by omega) ?_
  refine gw_al0 d_L_law_771 ?_
  refine gw_il4 d_L_law_772 ?_
  refine gw_push d_L_law_774 ?_
  refine gw_iadd d_L_law_775 ?_; rw [show nI (5 * t) + 2 = nI (5 * t + 2) from nI_add (a := 5 * t) (b := 2)]
  refine gw_sld d_L_law_776 (5 * t + 2) rfl (by omega) (by omega) ?_
  refine gw_al0 d_L_law_777 ?_
  refine gw_il4 d_L_law_778 ?_
  refine gw_push d_L_law_780 ?_
  refine gw_iadd d_L_law_781 ?_; rw [show nI (5 * t) + 3 = nI (5 * t + 3) from nI_add (a := 5 * t) (b := 3)]
  refine gw_sld d_L_law_782 (5 * t + 3) rfl (by omega) (by omega) ?_
  refine gw_al0 d_L_law_783 ?_
  refine gw_il4 d_L_law_784 ?_
  refine gw_push d_L_law_786 ?_
  refine gw_iadd d_L_law_787 ?_; rw [show nI (5 * t) + 4 = nI (5 * t + 4) from nI_add (a := 5 * t) (b := 4)]
  refine gw_sld d_L_law_788 (5 * t + 4) rfl (by omega) (by omega) ?_
  refine gw_al3 d_L_law_789 ?_
  refine gw_callS (As := [.ref x, .int (xs (5 * t + 1)), .int (xs (5 * t + 2)), .int (xs (5 * t + 3)), .int (xs (5 * t + 4)), .ref oa]) d_L_law_790 cs_L_law_790 rfl rfl (Nat.le_of_ble_eq_true rfl) ⟨by decide, by decide⟩ hk hw hWr (fun v h1 sz1 hq hz => ?_) (fun E h1 sz1 hq hz => by obtain ⟨r0, Qm, fs, e1, -⟩ := hQ _ _ _ hq; cases e1); obtain ⟨r0, Qm, fs, e1, hm, hS, hR⟩ := hQ _ _ _ hq; cases e1
  refine gw_is5 d_L_law_793 ?_
  refine gw_al2 d_L_law_795 ?_
  refine gw_al0 d_L_law_796 ?_
  refine gw_il4 d_L_law_797 ?_
  refine gw_push d_L_law_799 ?_
  refine gw_iadd d_L_law_800 ?_; rw [show nI (5 * t) + 1 = nI (5 * t + 1) from nI_add (a := 5 * t) (b := 1)]
  refine gw_sld d_L_law_801 (5 * t + 1) rfl (by omega) (by omega) ?_
  refine gw_al0 d_L_law_802 ?_
  refine gw_il4 d_L_law_803 ?_
  refine gw_push d_L_law_805 ?_
  refine gw_iadd d_L_law_806 ?_; rw [show nI (5 * t) + 2 = nI (5 * t + 2) from nI_add (a := 5 * t) (b := 2)]
  refine gw_sld d_L_law_807 (5 * t + 2) rfl (by omega) (by omega) ?_
  refine gw_al0 d_L_law_808 ?_
  refine gw_il4 d_L_law_809 ?_
  refine gw_push d_L_law_811 ?_
  refine gw_iadd d_L_law_812 ?_; rw [show nI (5 * t) + 3 = nI (5 * t + 3) from nI_add (a := 5 * t) (b := 3)]
  refine gw_sld d_L_law_813 (5 * t + 3) rfl (by omega) (by omega) ?_
  refine gw_al0 d_L_law_814 ?_
  refine gw_il4 d_L_law_815 ?_
  refine gw_push d_L_law_817 ?_
  refine gw_iadd d_L_law_818 ?_; rw [show nI (5 * t) + 4 = nI (5 * t + 4) from nI_add (a := 5 * t) (b := 4)]
  refine gw_sld d_L_law_819 (5 * t + 4) rfl (by omega) (by omega) ?_
  refine gw_callV (As := [.int (xs (5 * t + 1)), .int (xs (5 * t + 2)), .int (xs (5 * t + 3)), .int (xs (5 * t + 4))]) d_L_law_820 cs_L_law_820 hm rfl rfl (Nat.le_of_ble_eq_true rfl) ⟨by decide, by decide⟩ (by show k + 4 + 0 ≤ 601024; omega) (by show w + 24 + 0 ≤ 7293033; omega) hS (fun v h2 sz2 hq2 hz2 => ?_) (fun E h2 sz2 hq2 _ => by obtain ⟨X, e2, -⟩ := hR _ _ _ hq2; cases e2); obtain ⟨X, e2, ⟨T, vs, lf, U, hM, hT⟩, ho, hW⟩ := hR _ _ _ hq2; cases e2; have hm2 := hM.1
  refine gw_is6 d_L_law_823 ?_
  refine gw_al2 d_L_law_825 ?_
  refine gw_rV0 d_L_law_826 cs_L_law_826 hm2 (c_R_thrown hM) ?_ (hcs := by show k + 4 + 0 + 0 ≤ 601024; omega) (hss := by show w + 24 + 0 + 0 ≤ 7293033; omega)
  refine gw_il5 d_L_law_829 ?_
  refine gw_iceq d_L_law_831 (fun c_0 => ?_) (fun c_0 => absurd hT c_0)
  by_cases hr0 : r0 = 0
  · obtain ⟨f1, ho1, ho2⟩ := ho hr0
    exact lz_known hr0 ho1 ho2 (kk h2 sz2 _ _ hW)
  · exact gw_il5 d_L_law_836 (gw_ifne d_L_law_838 (fun _ => gw_goto d_L_law_853 (kk h2 sz2 _ _ hW)) (fun c => absurd c hr0))
theorem lz_marks {r0 X : Int32} {f1 : Nat → Int64} {k w : Nat} (hr0 : r0 = 0) (ho1 : h oa = some (gL 1 f1)) (ho2 : f1 0 = X.toInt64) (kk : GW G l (Zl G b L xs) room_1 M_L_law 1192 [some (.ref b), some (.ref x), some (.ref m), some (.ref oa), some (.int (nI (5 * t))), some (.int r0), some (.int X)] [] h sz k w) : GW G l (Zl G b L xs) room_1 M_L_law 892 [some (.ref b), some (.ref x), some (.ref m), some (.ref oa), some (.int (nI (5 * t))), some (.int r0), some (.int X)] [] h sz k w := by
  subst hr0
  refine gw_il5 d_L_law_892 ?_
  refine gw_ifne d_L_law_894 (fun c_0 => absurd rfl c_0) (fun c_0 => ?_)
  refine gw_al3 d_L_law_897 ?_
  refine gw_push d_L_law_898 ?_
  refine gw_lald d_L_law_899 ho1 0 rfl (by omega) (by omega) ?_; rw [ho2]
  refine gw_il6 d_L_law_900 ?_
  refine gw_i2l d_L_law_902 ?_
  refine gw_lcmp d_L_law_903 ?_; rw [lg_cmp_self]
  refine gw_ifeq d_L_law_904 (fun c_1 => ?_) (fun c_1 => absurd rfl c_1)
  refine gw_goto d_L_law_909 ?_
  exact kk
theorem lk_marks {v5 v6 : Option Value} (ht : 5 * t + 5 ≤ L) (hL : L ≤ 2560) (hk : k + 4 ≤ 601024) (hw : w + 24 ≤ 7293033) (hWr : SM G l 6 y_L_marks M_L_marks [.ref x, .int (xs (5 * t + 1)), .ref oa] h sz 4 24 Qw) (hQ : ∀ r h1 sz1, Qw r h1 sz1 → ∃ (r0 : Int32) (Qm : gRs → gHp → Nat → Prop) (fs : List Value), r = .inl (some (.int r0)) ∧ h1 m = some (gO 6 fs) ∧ SM G l 3 y_R_marks M_R_marks [.ref m, .int (xs (5 * t + 1))] h1 sz1 0 0 Qm ∧ ∀ r' h2 sz2, Qm r' h2 sz2 → ∃ X : Int32, r' = .inl (some (.int X)) ∧ (∃ (T : Int32) (vs : Nat) (lf : Int32) (U : gU), MV h2 m A T vs lf U ∧ T = r0) ∧ (r0 = 0 → ∃ f1, h2 oa = some (gL 1 f1) ∧ f1 0 = X.toInt64) ∧ Wn h2 sz2) (kk : ∀ h2 sz2 q5 q6, Wn h2 sz2 → GW G l (Zl G b L xs) room_1 M_L_law 1192 [some (.ref b), some (.ref x), some (.ref m), some (.ref oa), some (.int (nI (5 * t))), q5, q6] [] h2 sz2 (k + 4) (w + 24)) : GW G l (Zl G b L xs) room_1 M_L_law 856 [some (.ref b), some (.ref x), some (.ref m), some (.ref oa), some (.int (nI (5 * t))), v5, v6] [] h sz k w := by
  refine gw_al1 d_L_law_856 ?_
  refine gw_al0 d_L_law_857 ?_
  refine gw_il4 d_L_law_858 ?_
  refine gw_push d_L_law_860 ?_
  refine gw_iadd d_L_law_861 ?_; rw [show nI (5 * t) + 1 = nI (5 * t + 1) from nI_add (a := 5 * t) (b := 1)]
  refine gw_sld d_L_law_862 (5 * t + 1) rfl (by omega) (by omega) ?_
  refine gw_al3 d_L_law_863 ?_
  refine gw_callS (As := [.ref x, .int (xs (5 * t + 1)), .ref oa]) d_L_law_864 cs_L_law_864 rfl rfl (Nat.le_of_ble_eq_true rfl) ⟨by decide, by decide⟩ hk hw hWr (fun v h1 sz1 hq hz => ?_) (fun E h1 sz1 hq hz => by obtain ⟨r0, Qm, fs, e1, -⟩ := hQ _ _ _ hq; cases e1); obtain ⟨r0, Qm, fs, e1, hm, hS, hR⟩ := hQ _ _ _ hq; cases e1
  refine gw_is5 d_L_law_867 ?_
  refine gw_al2 d_L_law_869 ?_
  refine gw_al0 d_L_law_870 ?_
  refine gw_il4 d_L_law_871 ?_
  refine gw_push d_L_law_873 ?_
  refine gw_iadd d_L_law_874 ?_; rw [show nI (5 * t) + 1 = nI (5 * t + 1) from nI_add (a := 5 * t) (b := 1)]
  refine gw_sld d_L_law_875 (5 * t + 1) rfl (by omega) (by omega) ?_
  refine gw_callV (As := [.int (xs (5 * t + 1))]) d_L_law_876 cs_L_law_876 hm rfl rfl (Nat.le_of_ble_eq_true rfl) ⟨by decide, by decide⟩ (by show k + 4 + 0 ≤ 601024; omega) (by show w + 24 + 0 ≤ 7293033; omega) hS (fun v h2 sz2 hq2 hz2 => ?_) (fun E h2 sz2 hq2 _ => by obtain ⟨X, e2, -⟩ := hR _ _ _ hq2; cases e2); obtain ⟨X, e2, ⟨T, vs, lf, U, hM, hT⟩, ho, hW⟩ := hR _ _ _ hq2; cases e2; have hm2 := hM.1
  refine gw_is6 d_L_law_879 ?_
  refine gw_al2 d_L_law_881 ?_
  refine gw_rV0 d_L_law_882 cs_L_law_882 hm2 (c_R_thrown hM) ?_ (hcs := by show k + 4 + 0 + 0 ≤ 601024; omega) (hss := by show w + 24 + 0 + 0 ≤ 7293033; omega)
  refine gw_il5 d_L_law_885 ?_
  refine gw_iceq d_L_law_887 (fun c_0 => ?_) (fun c_0 => absurd hT c_0)
  by_cases hr0 : r0 = 0
  · obtain ⟨f1, ho1, ho2⟩ := ho hr0
    exact lz_marks hr0 ho1 ho2 (kk h2 sz2 _ _ hW)
  · exact gw_il5 d_L_law_892 (gw_ifne d_L_law_894 (fun _ => gw_goto d_L_law_909 (kk h2 sz2 _ _ hW)) (fun c => absurd c hr0))
theorem lz_bytes {r0 X : Int32} {f1 : Nat → Int64} {k w : Nat} (hr0 : r0 = 0) (ho1 : h oa = some (gL 1 f1)) (ho2 : f1 0 = X.toInt64) (kk : GW G l (Zl G b L xs) room_1 M_L_law 1192 [some (.ref b), some (.ref x), some (.ref m), some (.ref oa), some (.int (nI (5 * t))), some (.int r0), some (.int X)] [] h sz k w) : GW G l (Zl G b L xs) room_1 M_L_law 948 [some (.ref b), some (.ref x), some (.ref m), some (.ref oa), some (.int (nI (5 * t))), some (.int r0), some (.int X)] [] h sz k w := by
  subst hr0
  refine gw_il5 d_L_law_948 ?_
  refine gw_ifne d_L_law_950 (fun c_0 => absurd rfl c_0) (fun c_0 => ?_)
  refine gw_al3 d_L_law_953 ?_
  refine gw_push d_L_law_954 ?_
  refine gw_lald d_L_law_955 ho1 0 rfl (by omega) (by omega) ?_; rw [ho2]
  refine gw_il6 d_L_law_956 ?_
  refine gw_i2l d_L_law_958 ?_
  refine gw_lcmp d_L_law_959 ?_; rw [lg_cmp_self]
  refine gw_ifeq d_L_law_960 (fun c_1 => ?_) (fun c_1 => absurd rfl c_1)
  refine gw_goto d_L_law_965 ?_
  exact kk
theorem lk_bytes {v5 v6 : Option Value} (ht : 5 * t + 5 ≤ L) (hL : L ≤ 2560) (hk : k + 4 ≤ 601024) (hw : w + 24 ≤ 7293033) (hWr : SM G l 6 y_L_bytes M_L_bytes [.ref x, .int (xs (5 * t + 1)), .ref oa] h sz 4 24 Qw) (hQ : ∀ r h1 sz1, Qw r h1 sz1 → ∃ (r0 : Int32) (Qm : gRs → gHp → Nat → Prop) (fs : List Value), r = .inl (some (.int r0)) ∧ h1 m = some (gO 6 fs) ∧ SM G l 3 y_R_bytes M_R_bytes [.ref m, .int (xs (5 * t + 1))] h1 sz1 0 0 Qm ∧ ∀ r' h2 sz2, Qm r' h2 sz2 → ∃ X : Int32, r' = .inl (some (.int X)) ∧ (∃ (T : Int32) (vs : Nat) (lf : Int32) (U : gU), MV h2 m A T vs lf U ∧ T = r0) ∧ (r0 = 0 → ∃ f1, h2 oa = some (gL 1 f1) ∧ f1 0 = X.toInt64) ∧ Wn h2 sz2) (kk : ∀ h2 sz2 q5 q6, Wn h2 sz2 → GW G l (Zl G b L xs) room_1 M_L_law 1192 [some (.ref b), some (.ref x), some (.ref m), some (.ref oa), some (.int (nI (5 * t))), q5, q6] [] h2 sz2 (k + 4) (w + 24)) : GW G l (Zl G b L xs) room_1 M_L_law 912 [some (.ref b), some (.ref x), some (.ref m), some (.ref oa), some (.int (nI (5 * t))), v5, v6] [] h sz k w := by
  refine gw_al1 d_L_law_912 ?_
  refine gw_al0 d_L_law_913 ?_
  refine gw_il4 d_L_law_914 ?_
  refine gw_push d_L_law_916 ?_
  refine gw_iadd d_L_law_917 ?_; rw [show nI (5 * t) + 1 = nI (5 * t + 1) from nI_add (a := 5 * t) (b := 1)]
  refine gw_sld d_L_law_918 (5 * t + 1) rfl (by omega) (by omega) ?_
  refine gw_al3 d_L_law_919 ?_
  refine gw_callS (As := [.ref x, .int (xs (5 * t + 1)), .ref oa]) d_L_law_920 cs_L_law_920 rfl rfl (Nat.le_of_ble_eq_true rfl) ⟨by decide, by decide⟩ hk hw hWr (fun v h1 sz1 hq hz => ?_) (fun E h1 sz1 hq hz => by obtain ⟨r0, Qm, fs, e1, -⟩ := hQ _ _ _ hq; cases e1); obtain ⟨r0, Qm, fs, e1, hm, hS, hR⟩ := hQ _ _ _ hq; cases e1
  refine gw_is5 d_L_law_923 ?_
  refine gw_al2 d_L_law_925 ?_
  refine gw_al0 d_L_law_926 ?_
  refine gw_il4 d_L_law_927 ?_
  refine gw_push d_L_law_929 ?_
  refine gw_iadd d_L_law_930 ?_; rw [show nI (5 * t) + 1 = nI (5 * t + 1) from nI_add (a := 5 * t) (b := 1)]
  refine gw_sld d_L_law_931 (5 * t + 1) rfl (by omega) (by omega) ?_
  refine gw_callV (As := [.int (xs (5 * t + 1))]) d_L_law_932 cs_L_law_932 hm rfl rfl (Nat.le_of_ble_eq_true rfl) ⟨by decide, by decide⟩ (by show k + 4 + 0 ≤ 601024; omega) (by show w + 24 + 0 ≤ 7293033; omega) hS (fun v h2 sz2 hq2 hz2 => ?_) (fun E h2 sz2 hq2 _ => by obtain ⟨X, e2, -⟩ := hR _ _ _ hq2; cases e2); obtain ⟨X, e2, ⟨T, vs, lf, U, hM, hT⟩, ho, hW⟩ := hR _ _ _ hq2; cases e2; have hm2 := hM.1
  refine gw_is6 d_L_law_935 ?_
  refine gw_al2 d_L_law_937 ?_
  refine gw_rV0 d_L_law_938 cs_L_law_938 hm2 (c_R_thrown hM) ?_ (hcs := by show k + 4 + 0 + 0 ≤ 601024; omega) (hss := by show w + 24 + 0 + 0 ≤ 7293033; omega)
  refine gw_il5 d_L_law_941 ?_
  refine gw_iceq d_L_law_943 (fun c_0 => ?_) (fun c_0 => absurd hT c_0)
  by_cases hr0 : r0 = 0
  · obtain ⟨f1, ho1, ho2⟩ := ho hr0
    exact lz_bytes hr0 ho1 ho2 (kk h2 sz2 _ _ hW)
  · exact gw_il5 d_L_law_948 (gw_ifne d_L_law_950 (fun _ => gw_goto d_L_law_965 (kk h2 sz2 _ _ hW)) (fun c => absurd c hr0))
theorem lz_same {r0 X : Int32} {f1 : Nat → Int64} {k w : Nat} (hr0 : r0 = 0) (ho1 : h oa = some (gL 1 f1)) (ho2 : f1 0 = X.toInt64) (hX01 : X = 0 ∨ X = 1) (kk : GW G l (Zl G b L xs) room_1 M_L_law 1192 [some (.ref b), some (.ref x), some (.ref m), some (.ref oa), some (.int (nI (5 * t))), some (.int r0), some (.int X)] [] h sz k w) : GW G l (Zl G b L xs) room_1 M_L_law 1016 [some (.ref b), some (.ref x), some (.ref m), some (.ref oa), some (.int (nI (5 * t))), some (.int r0), some (.int X)] [] h sz k w := by
  subst hr0
  rcases hX01 with rfl | rfl
  · refine gw_il5 d_L_law_1016 ?_
    refine gw_ifne d_L_law_1018 (fun c_0 => absurd rfl c_0) (fun c_0 => ?_)
    refine gw_al3 d_L_law_1021 ?_
    refine gw_push d_L_law_1022 ?_
    refine gw_lald d_L_law_1023 ho1 0 rfl (by omega) (by omega) ?_; rw [ho2]
    refine gw_il6 d_L_law_1024 ?_
    refine gw_ifeq d_L_law_1026 (fun c_2 => ?_) (fun c_2 => absurd rfl c_2)
    refine gw_lconst (v := 0) d_L_law_1033 (by decide) ?_
    refine gw_lcmp d_L_law_1034 ?_; rw [show lg_cmp (0 : Int32).toInt64 0 = 0 by decide]
    refine gw_ifeq d_L_law_1035 (fun c_1 => ?_) (fun c_1 => absurd rfl c_1)
    refine gw_goto d_L_law_1040 ?_
    exact kk
  · refine gw_il5 d_L_law_1016 ?_
    refine gw_ifne d_L_law_1018 (fun c_0 => absurd rfl c_0) (fun c_0 => ?_)
    refine gw_al3 d_L_law_1021 ?_
    refine gw_push d_L_law_1022 ?_
    refine gw_lald d_L_law_1023 ho1 0 rfl (by omega) (by omega) ?_; rw [ho2]
    refine gw_il6 d_L_law_1024 ?_
    refine gw_ifeq d_L_law_1026 (fun c_2 => absurd c_2 (by decide)) (fun c_2 => ?_)
    refine gw_lconst (v := 1) d_L_law_1029 (by decide) ?_
    refine gw_goto d_L_law_1030 ?_
    refine gw_lcmp d_L_law_1034 ?_; rw [show lg_cmp (1 : Int32).toInt64 1 = 0 by decide]
    refine gw_ifeq d_L_law_1035 (fun c_1 => ?_) (fun c_1 => absurd rfl c_1)
    refine gw_goto d_L_law_1040 ?_
    exact kk
theorem lk_same {v5 v6 : Option Value} (ht : 5 * t + 5 ≤ L) (hL : L ≤ 2560) (hk : k + 4 ≤ 601024) (hw : w + 24 ≤ 7293033) (hWr : SM G l 7 y_L_same M_L_same [.ref x, .int (xs (5 * t + 1)), .int (xs (5 * t + 2)), .ref oa] h sz 4 24 Qw) (hQ : ∀ r h1 sz1, Qw r h1 sz1 → ∃ (r0 : Int32) (Qm : gRs → gHp → Nat → Prop) (fs : List Value), r = .inl (some (.int r0)) ∧ h1 m = some (gO 6 fs) ∧ SM G l 3 y_R_same M_R_same [.ref m, .int (xs (5 * t + 1)), .int (xs (5 * t + 2))] h1 sz1 0 0 Qm ∧ ∀ r' h2 sz2, Qm r' h2 sz2 → ∃ X : Int32, r' = .inl (some (.int X)) ∧ (X = 0 ∨ X = 1) ∧ (∃ (T : Int32) (vs : Nat) (lf : Int32) (U : gU), MV h2 m A T vs lf U ∧ T = r0) ∧ (r0 = 0 → ∃ f1, h2 oa = some (gL 1 f1) ∧ f1 0 = X.toInt64) ∧ Wn h2 sz2) (kk : ∀ h2 sz2 q5 q6, Wn h2 sz2 → GW G l (Zl G b L xs) room_1 M_L_law 1192 [some (.ref b), some (.ref x), some (.ref m), some (.ref oa), some (.int (nI (5 * t))), q5, q6] [] h2 sz2 (k + 4) (w + 24)) : GW G l (Zl G b L xs) room_1 M_L_law 968 [some (.ref b), some (.ref x), some (.ref m), some (.ref oa), some (.int (nI (5 * t))), v5, v6] [] h sz k w := by
  refine gw_al1 d_L_law_968 ?_
  refine gw_al0 d_L_law_969 ?_
  refine gw_il4 d_L_law_970 ?_
  refine gw_push d_L_law_972 ?_
  refine gw_iadd d_L_law_973 ?_; rw [show nI (5 * t) + 1 = nI (5 * t + 1) from nI_add (a := 5 * t) (b := 1)]
  refine gw_sld d_L_law_974 (5 * t + 1) rfl (by omega) (by omega) ?_
  refine gw_al0 d_L_law_975 ?_
  refine gw_il4 d_L_law_976 ?_
  refine gw_push d_L_law_978 ?_
  refine gw_iadd d_L_law_979 ?_; rw [show nI (5 * t) + 2 = nI (5 * t + 2) from nI_add (a := 5 * t) (b := 2)]
  refine gw_sld d_L_law_980 (5 * t + 2) rfl (by omega) (by omega) ?_
  refine gw_al3 d_L_law_981 ?_
  refine gw_callS (As := [.ref x, .int (xs (5 * t + 1)), .int (xs (5 * t + 2)), .ref oa]) d_L_law_982 cs_L_law_982 rfl rfl (Nat.le_of_ble_eq_true rfl) ⟨by decide, by decide⟩ hk hw hWr (fun v h1 sz1 hq hz => ?_) (fun E h1 sz1 hq hz => by obtain ⟨r0, Qm, fs, e1, -⟩ := hQ _ _ _ hq; cases e1); obtain ⟨r0, Qm, fs, e1, hm, hS, hR⟩ := hQ _ _ _ hq; cases e1
  refine gw_is5 d_L_law_985 ?_
  refine gw_al2 d_L_law_987 ?_
  refine gw_al0 d_L_law_988 ?_
  refine gw_il4 d_L_law_989 ?_
  refine gw_push d_L_law_991 ?_
  refine gw_iadd d_L_law_992 ?_; rw [show nI (5 * t) + 1 = nI (5 * t + 1) from nI_add (a := 5 * t) (b := 1)]
  refine gw_sld d_L_law_993 (5 * t + 1) rfl (by omega) (by omega) ?_
  refine gw_al0 d_L_law_994 ?_
  refine gw_il4 d_L_law_995 ?_
  refine gw_push d_L_law_997 ?_
  refine gw_iadd d_L_law_998 ?_; rw [show nI (5 * t) + 2 = nI (5 * t + 2) from nI_add (a := 5 * t) (b := 2)]
  refine gw_sld d_L_law_999 (5 * t + 2) rfl (by omega) (by omega) ?_
  refine gw_callV (As := [.int (xs (5 * t + 1)), .int (xs (5 * t + 2))]) d_L_law_1000 cs_L_law_1000 hm rfl rfl (Nat.le_of_ble_eq_true rfl) ⟨by decide, by decide⟩ (by show k + 4 + 0 ≤ 601024; omega) (by show w + 24 + 0 ≤ 7293033; omega) hS (fun v h2 sz2 hq2 hz2 => ?_) (fun E h2 sz2 hq2 _ => by obtain ⟨X, e2, -⟩ := hR _ _ _ hq2; cases e2); obtain ⟨X, e2, hX01, ⟨T, vs, lf, U, hM, hT⟩, ho, hW⟩ := hR _ _ _ hq2; cases e2; have hm2 := hM.1
  refine gw_is6 d_L_law_1003 ?_
  refine gw_al2 d_L_law_1005 ?_
  refine gw_rV0 d_L_law_1006 cs_L_law_1006 hm2 (c_R_thrown hM) ?_ (hcs := by show k + 4 + 0 + 0 ≤ 601024; omega) (hss := by show w + 24 + 0 + 0 ≤ 7293033; omega)
  refine gw_il5 d_L_law_1009 ?_
  refine gw_iceq d_L_law_1011 (fun c_0 => ?_) (fun c_0 => absurd hT c_0)
  by_cases hr0 : r0 = 0
  · obtain ⟨f1, ho1, ho2⟩ := ho hr0
    exact lz_same hr0 ho1 ho2 hX01 (kk h2 sz2 _ _ hW)
  · exact gw_il5 d_L_law_1016 (gw_ifne d_L_law_1018 (fun _ => gw_goto d_L_law_1040 (kk h2 sz2 _ _ hW)) (fun c => absurd c hr0))
theorem lz_room {r0 X : Int32} {f1 : Nat → Int64} {k w : Nat} (hr0 : r0 = 0) (ho1 : h oa = some (gL 1 f1)) (ho2 : f1 0 = X.toInt64) (kk : GW G l (Zl G b L xs) room_1 M_L_law 1192 [some (.ref b), some (.ref x), some (.ref m), some (.ref oa), some (.int (nI (5 * t))), some (.int r0), some (.int X)] [] h sz k w) : GW G l (Zl G b L xs) room_1 M_L_law 1079 [some (.ref b), some (.ref x), some (.ref m), some (.ref oa), some (.int (nI (5 * t))), some (.int r0), some (.int X)] [] h sz k w := by
  subst hr0
  refine gw_il5 d_L_law_1079 ?_
  refine gw_ifne d_L_law_1081 (fun c_0 => absurd rfl c_0) (fun c_0 => ?_)
  refine gw_al3 d_L_law_1084 ?_
  refine gw_push d_L_law_1085 ?_
  refine gw_lald d_L_law_1086 ho1 0 rfl (by omega) (by omega) ?_; rw [ho2]
  refine gw_il6 d_L_law_1087 ?_
  refine gw_i2l d_L_law_1089 ?_
  refine gw_lcmp d_L_law_1090 ?_; rw [lg_cmp_self]
  refine gw_ifeq d_L_law_1091 (fun c_1 => ?_) (fun c_1 => absurd rfl c_1)
  refine gw_goto d_L_law_1096 ?_
  exact kk
theorem lk_room {v5 v6 : Option Value} (ht : 5 * t + 5 ≤ L) (hL : L ≤ 2560) (hk : k + 4 ≤ 601024) (hw : w + 24 ≤ 7293033) (hWr : SM G l 6 y_L_room M_L_room [.ref x, .int (xs (5 * t + 1)), .ref oa] h sz 4 24 Qw) (hQ : ∀ r h1 sz1, Qw r h1 sz1 → ∃ (r0 : Int32) (Qm : gRs → gHp → Nat → Prop) (fs : List Value), r = .inl (some (.int r0)) ∧ h1 m = some (gO 6 fs) ∧ SM G l 3 y_R_room M_R_room [.ref m, .int (xs (5 * t + 1))] h1 sz1 0 0 Qm ∧ ∀ r' h2 sz2, Qm r' h2 sz2 → ∃ X : Int32, r' = .inl (some (.int X)) ∧ (∃ (T : Int32) (vs : Nat) (lf : Int32) (U : gU), MV h2 m A T vs lf U ∧ T = r0) ∧ (r0 = 0 → ∃ f1, h2 oa = some (gL 1 f1) ∧ f1 0 = X.toInt64) ∧ Wn h2 sz2) (kk : ∀ h2 sz2 q5 q6, Wn h2 sz2 → GW G l (Zl G b L xs) room_1 M_L_law 1192 [some (.ref b), some (.ref x), some (.ref m), some (.ref oa), some (.int (nI (5 * t))), q5, q6] [] h2 sz2 (k + 4) (w + 24)) : GW G l (Zl G b L xs) room_1 M_L_law 1043 [some (.ref b), some (.ref x), some (.ref m), some (.ref oa), some (.int (nI (5 * t))), v5, v6] [] h sz k w := by
  refine gw_al1 d_L_law_1043 ?_
  refine gw_al0 d_L_law_1044 ?_
  refine gw_il4 d_L_law_1045 ?_
  refine gw_push d_L_law_1047 ?_
  refine gw_iadd d_L_law_1048 ?_; rw [show nI (5 * t) + 1 = nI (5 * t + 1) from nI_add (a := 5 * t) (b := 1)]
  refine gw_sld d_L_law_1049 (5 * t + 1) rfl (by omega) (by omega) ?_
  refine gw_al3 d_L_law_1050 ?_
  refine gw_callS (As := [.ref x, .int (xs (5 * t + 1)), .ref oa]) d_L_law_1051 cs_L_law_1051 rfl rfl (Nat.le_of_ble_eq_true rfl) ⟨by decide, by decide⟩ hk hw hWr (fun v h1 sz1 hq hz => ?_) (fun E h1 sz1 hq hz => by obtain ⟨r0, Qm, fs, e1, -⟩ := hQ _ _ _ hq; cases e1); obtain ⟨r0, Qm, fs, e1, hm, hS, hR⟩ := hQ _ _ _ hq; cases e1
  refine gw_is5 d_L_law_1054 ?_
  refine gw_al2 d_L_law_1056 ?_
  refine gw_al0 d_L_law_1057 ?_
  refine gw_il4 d_L_law_1058 ?_
  refine gw_push d_L_law_1060 ?_
  refine gw_iadd d_L_law_1061 ?_; rw [show nI (5 * t) + 1 = nI (5 * t + 1) from nI_add (a := 5 * t) (b := 1)]
  refine gw_sld d_L_law_1062 (5 * t + 1) rfl (by omega) (by omega) ?_
  refine gw_callV (As := [.int (xs (5 * t + 1))]) d_L_law_1063 cs_L_law_1063 hm rfl rfl (Nat.le_of_ble_eq_true rfl) ⟨by decide, by decide⟩ (by show k + 4 + 0 ≤ 601024; omega) (by show w + 24 + 0 ≤ 7293033; omega) hS (fun v h2 sz2 hq2 hz2 => ?_) (fun E h2 sz2 hq2 _ => by obtain ⟨X, e2, -⟩ := hR _ _ _ hq2; cases e2); obtain ⟨X, e2, ⟨T, vs, lf, U, hM, hT⟩, ho, hW⟩ := hR _ _ _ hq2; cases e2; have hm2 := hM.1
  refine gw_is6 d_L_law_1066 ?_
  refine gw_al2 d_L_law_1068 ?_
  refine gw_rV0 d_L_law_1069 cs_L_law_1069 hm2 (c_R_thrown hM) ?_ (hcs := by show k + 4 + 0 + 0 ≤ 601024; omega) (hss := by show w + 24 + 0 + 0 ≤ 7293033; omega)
  refine gw_il5 d_L_law_1072 ?_
  refine gw_iceq d_L_law_1074 (fun c_0 => ?_) (fun c_0 => absurd hT c_0)
  by_cases hr0 : r0 = 0
  · obtain ⟨f1, ho1, ho2⟩ := ho hr0
    exact lz_room hr0 ho1 ho2 (kk h2 sz2 _ _ hW)
  · exact gw_il5 d_L_law_1079 (gw_ifne d_L_law_1081 (fun _ => gw_goto d_L_law_1096 (kk h2 sz2 _ _ hW)) (fun c => absurd c hr0))
theorem lz_item {r0 X : Int32} {f1 : Nat → Int64} {k w : Nat} (hr0 : r0 = 0) (ho1 : h oa = some (gL 1 f1)) (ho2 : f1 0 = X.toInt64) (kk : GW G l (Zl G b L xs) room_1 M_L_law 1192 [some (.ref b), some (.ref x), some (.ref m), some (.ref oa), some (.int (nI (5 * t))), some (.int r0), some (.int X)] [] h sz k w) : GW G l (Zl G b L xs) room_1 M_L_law 1159 [some (.ref b), some (.ref x), some (.ref m), some (.ref oa), some (.int (nI (5 * t))), some (.int r0), some (.int X)] [] h sz k w := by
  subst hr0
  refine gw_il5 d_L_law_1159 ?_
  refine gw_ifne d_L_law_1161 (fun c_0 => absurd rfl c_0) (fun c_0 => ?_)
  refine gw_al3 d_L_law_1164 ?_
  refine gw_push d_L_law_1165 ?_
  refine gw_lald d_L_law_1166 ho1 0 rfl (by omega) (by omega) ?_; rw [ho2]
  refine gw_il6 d_L_law_1167 ?_
  refine gw_i2l d_L_law_1169 ?_
  refine gw_lcmp d_L_law_1170 ?_; rw [lg_cmp_self]
  refine gw_ifeq d_L_law_1171 (fun c_1 => ?_) (fun c_1 => absurd rfl c_1)
  refine gw_goto d_L_law_1176 ?_
  exact kk
theorem lk_item {v5 v6 : Option Value} (ht : 5 * t + 5 ≤ L) (hL : L ≤ 2560) (hk : k + 4 ≤ 601024) (hw : w + 24 ≤ 7293033) (hWr : SM G l 6 y_L_item M_L_item [.ref x, .int (xs (5 * t + 1)), .int (xs (5 * t + 2)), .int (xs (5 * t + 3)), .ref oa] h sz 4 24 Qw) (hQ : ∀ r h1 sz1, Qw r h1 sz1 → ∃ (r0 : Int32) (Qm : gRs → gHp → Nat → Prop) (fs : List Value), r = .inl (some (.int r0)) ∧ h1 m = some (gO 6 fs) ∧ SM G l 3 y_R_item M_R_item [.ref m, .int (xs (5 * t + 1)), .int (xs (5 * t + 2)), .int (xs (5 * t + 3))] h1 sz1 0 0 Qm ∧ ∀ r' h2 sz2, Qm r' h2 sz2 → ∃ X : Int32, r' = .inl (some (.int X)) ∧ (∃ (T : Int32) (vs : Nat) (lf : Int32) (U : gU), MV h2 m A T vs lf U ∧ T = r0) ∧ (r0 = 0 → ∃ f1, h2 oa = some (gL 1 f1) ∧ f1 0 = X.toInt64) ∧ Wn h2 sz2) (kk : ∀ h2 sz2 q5 q6, Wn h2 sz2 → GW G l (Zl G b L xs) room_1 M_L_law 1192 [some (.ref b), some (.ref x), some (.ref m), some (.ref oa), some (.int (nI (5 * t))), q5, q6] [] h2 sz2 (k + 4) (w + 24)) : GW G l (Zl G b L xs) room_1 M_L_law 1099 [some (.ref b), some (.ref x), some (.ref m), some (.ref oa), some (.int (nI (5 * t))), v5, v6] [] h sz k w := by
  refine gw_al1 d_L_law_1099 ?_
  refine gw_al0 d_L_law_1100 ?_
  refine gw_il4 d_L_law_1101 ?_
  refine gw_push d_L_law_1103 ?_
  refine gw_iadd d_L_law_1104 ?_; rw [show nI (5 * t) + 1 = nI (5 * t + 1) from nI_add (a := 5 * t) (b := 1)]
  refine gw_sld d_L_law_1105 (5 * t + 1) rfl (by omega) (by omega) ?_
  refine gw_al0 d_L_law_1106 ?_
  refine gw_il4 d_L_law_1107 ?_
  refine gw_push d_L_law_1109 ?_
  refine gw_iadd d_L_law_1110 ?_; rw [show nI (5 * t) + 2 = nI (5 * t + 2) from nI_add (a := 5 * t) (b := 2)]
  refine gw_sld d_L_law_1111 (5 * t + 2) rfl (by omega) (by omega) ?_
  refine gw_al0 d_L_law_1112 ?_
  refine gw_il4 d_L_law_1113 ?_
  refine gw_push d_L_law_1115 ?_
  refine gw_iadd d_L_law_1116 ?_; rw [show nI (5 * t) + 3 = nI (5 * t + 3) from nI_add (a := 5 * t) (b := 3)]
  refine gw_sld d_L_law_1117 (5 * t + 3) rfl (by omega) (by omega) ?_
  refine gw_al3 d_L_law_1118 ?_
  refine gw_callS (As := [.ref x, .int (xs (5 * t + 1)), .int (xs (5 * t + 2)), .int (xs (5 * t + 3)), .ref oa]) d_L_law_1119 cs_L_law_1119 rfl rfl (Nat.le_of_ble_eq_true rfl) ⟨by decide, by decide⟩ hk hw hWr (fun v h1 sz1 hq hz => ?_) (fun E h1 sz1 hq hz => by obtain ⟨r0, Qm, fs, e1, -⟩ := hQ _ _ _ hq; cases e1); obtain ⟨r0, Qm, fs, e1, hm, hS, hR⟩ := hQ _ _ _ hq; cases e1
  refine gw_is5 d_L_law_1122 ?_
  refine gw_al2 d_L_law_1124 ?_
  refine gw_al0 d_L_law_1125 ?_
  refine gw_il4 d_L_law_1126 ?_
  refine gw_push d_L_law_1128 ?_
  refine gw_iadd d_L_law_1129 ?_; rw [show nI (5 * t) + 1 = nI (5 * t + 1) from nI_add (a := 5 * t) (b := 1)]
  refine gw_sld d_L_law_1130 (5 * t + 1) rfl (by omega) (by omega) ?_
  refine gw_al0 d_L_law_1131 ?_
  refine gw_il4 d_L_law_1132 ?_
  refine gw_push d_L_law_1134 ?_
  refine gw_iadd d_L_law_1135 ?_; rw [show nI (5 * t) + 2 = nI (5 * t + 2) from nI_add (a := 5 * t) (b := 2)]
  refine gw_sld d_L_law_1136 (5 * t + 2) rfl (by omega) (by omega) ?_
  refine gw_al0 d_L_law_1137 ?_
  refine gw_il4 d_L_law_1138 ?_
  refine gw_push d_L_law_1140 ?_
  refine gw_iadd d_L_law_1141 ?_; rw [show nI (5 * t) + 3 = nI (5 * t + 3) from nI_add (a := 5 * t) (b := 3)]
  refine gw_sld d_L_law_1142 (5 * t + 3) rfl (by omega) (by omega) ?_
  refine gw_callV (As := [.int (xs (5 * t + 1)), .int (xs (5 * t + 2)), .int (xs (5 * t + 3))]) d_L_law_1143 cs_L_law_1143 hm rfl rfl (Nat.le_of_ble_eq_true rfl) ⟨by decide, by decide⟩ (by show k + 4 + 0 ≤ 601024; omega) (by show w + 24 + 0 ≤ 7293033; omega) hS (fun v h2 sz2 hq2 hz2 => ?_) (fun E h2 sz2 hq2 _ => by obtain ⟨X, e2, -⟩ := hR _ _ _ hq2; cases e2); obtain ⟨X, e2, ⟨T, vs, lf, U, hM, hT⟩, ho, hW⟩ := hR _ _ _ hq2; cases e2; have hm2 := hM.1
  refine gw_is6 d_L_law_1146 ?_
  refine gw_al2 d_L_law_1148 ?_
  refine gw_rV0 d_L_law_1149 cs_L_law_1149 hm2 (c_R_thrown hM) ?_ (hcs := by show k + 4 + 0 + 0 ≤ 601024; omega) (hss := by show w + 24 + 0 + 0 ≤ 7293033; omega)
  refine gw_il5 d_L_law_1152 ?_
  refine gw_iceq d_L_law_1154 (fun c_0 => ?_) (fun c_0 => absurd hT c_0)
  by_cases hr0 : r0 = 0
  · obtain ⟨f1, ho1, ho2⟩ := ho hr0
    exact lz_item hr0 ho1 ho2 (kk h2 sz2 _ _ hW)
  · exact gw_il5 d_L_law_1159 (gw_ifne d_L_law_1161 (fun _ => gw_goto d_L_law_1176 (kk h2 sz2 _ _ hW)) (fun c => absurd c hr0))
end Cases
