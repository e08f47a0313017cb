/-! THE LAW'S CASES -/
theorem kcL_71 : Cond.constantLong RL 71 4294967295 ∈ ob_tb := ob_in 843 (by decide +kernel) (by decide +kernel)
theorem ob_nI0 {a : Nat} (h : a ≤ 2) (h0 : nI a = 0) : a = 0 := by
  have := (nI_eq (a := a) (b := 0) (by omega) (by decide)).mp h0
  exact this
section LWD
variable {X : ob_X} {R : Room} {Q : ob_r → ob_w → Prop} {T : ob_T} {V : ob_V} {B : ob_B} {J : ob_J} {S : sp_S} {k n x m mt mr mb mk mv out me mu cap thr i r : Nat}
theorem lc_feed (IH : ob_Lo X R Q x m mt mr mb mk mv out me mu i r) (hZ : ob_Z R T V B x m mt mr mb mk mv out me mu cap thr S k n (r + 1)) (hR : 48 ≤ R.frames ∧ 3600 ≤ R.locals) (hi : i + 3 < sc_L X) (hL : sc_L X ≤ 2050) : ob_G X mL_law R Q 132 (ob_l5 X x m out (nI i)) [] (T, V, B, J) k n := by
  obtain ⟨hI, hM, ho, hk, hn⟩ := hZ
  have hp := ob_ph_le hI
  have x1 := hI.Tx
  refine og_aload_n dL_law_132 rfl rfl ?_
  refine og_aload_n dL_law_133 rfl rfl ?_
  refine og_iload dL_law_134 rfl ?_
  refine og_iconst (v := 1) dL_law_136 (by decide) ?_
  refine og_iadd dL_law_137 ?_
  refine og_saldz (j := i + 1) dL_law_138 (by rw [← nI_add]; rfl) (by omega) hL ?_
  refine og_i2l dL_law_139 rfl ?_
  refine og_bipush (v := 32) dL_law_140 (by decide) ?_
  refine og_lshl dL_law_142 rfl ?_
  refine og_aload_n dL_law_143 rfl rfl ?_
  refine og_iload dL_law_144 rfl ?_
  refine og_iconst (v := 2) dL_law_146 (by decide) ?_
  refine og_iadd dL_law_147 ?_
  refine og_saldz (j := i + 2) dL_law_148 (by rw [← nI_add]; rfl) (by omega) hL ?_
  refine og_i2l dL_law_149 rfl ?_
  refine og_ldc2 dL_law_150 kcL_71 ?_
  refine og_land dL_law_153 ?_
  refine og_lor dL_law_154 ?_
  refine og_aload_n dL_law_155 rfl rfl ?_
  refine og_iload dL_law_156 rfl ?_
  refine og_iconst (v := 3) dL_law_158 (by decide) ?_
  refine og_iadd dL_law_159 ?_
  refine og_saldz (j := i + 3) dL_law_160 (by rw [← nI_add]; rfl) (by omega) hL ?_
  refine og_aload_n dL_law_161 rfl rfl ?_
  refine og_callSW (st := []) dL_law_162 kwL_73 (cl_feed hI ho) rfl rfl ⟨by omega, by show 8 + (6 + 11) + 60 * 9 ≤ R.locals; omega⟩ (by omega) (by omega) (by decide) ?_
  rintro v w9 ⟨T', V', B', J', rfl, hw, hI', hv, hJ, h2⟩
  cases hv
  have hM' := hM.ext hw.1 hw.2
  have ho' : T' out = some (9, 1) := hw.1 _ _ ho
  refine og_istore dL_law_165 (by decide) ?_
  refine og_aload_n dL_law_167 rfl rfl ?_
  refine og_aload_n dL_law_168 rfl rfl ?_
  refine og_iload dL_law_169 rfl ?_
  refine og_iconst (v := 1) dL_law_171 (by decide) ?_
  refine og_iadd dL_law_172 ?_
  refine og_saldz (j := i + 1) dL_law_173 (by rw [← nI_add]; rfl) (by omega) hL ?_
  refine og_i2l dL_law_174 rfl ?_
  refine og_bipush (v := 32) dL_law_175 (by decide) ?_
  refine og_lshl dL_law_177 rfl ?_
  refine og_aload_n dL_law_178 rfl rfl ?_
  refine og_iload dL_law_179 rfl ?_
  refine og_iconst (v := 2) dL_law_181 (by decide) ?_
  refine og_iadd dL_law_182 ?_
  refine og_saldz (j := i + 2) dL_law_183 (by rw [← nI_add]; rfl) (by omega) hL ?_
  refine og_i2l dL_law_184 rfl ?_
  refine og_ldc2 dL_law_185 kcL_71 ?_
  refine og_land dL_law_188 ?_
  refine og_lor dL_law_189 ?_
  refine og_aload_n dL_law_190 rfl rfl ?_
  refine og_iload dL_law_191 rfl ?_
  refine og_iconst (v := 3) dL_law_193 (by decide) ?_
  refine og_iadd dL_law_194 ?_
  refine og_saldz (j := i + 3) dL_law_195 (by rw [← nI_add]; rfl) (by omega) hL ?_
  refine og_callVn (st := []) dL_law_196 kvL_76 (cm_feed hM' hI.ok) rfl hM'.1.1.1 rfl rfl ⟨by omega, by show 8 + (_ + 11) + 60 * 4 ≤ R.locals; exact Nat.le_trans (by decide) hR.2⟩ (by omega) (by omega) (Nat.le_of_ble_eq_true rfl) rfl (fun E w9 h9 => by obtain ⟨_, _, _, _, _, _, h9, _⟩ := h9; cases h9) ?_
  rintro v w9 ⟨V2, B2, z, rfl, hM2, hwm, hv, hz⟩
  cases hv
  refine og_istore dL_law_199 (by decide) ?_
  refine og_aload_n dL_law_201 rfl rfl ?_
  refine og_callVe (st := []) dL_law_202 kvL_77 (cm_thrown hM2.1.1.1 hM2.2.2.1) rfl hM2.1.1.1 rfl rfl ⟨by omega, by show 8 + (_ + 11) + 60 * 0 ≤ R.locals; exact Nat.le_trans (by decide) hR.2⟩ (by omega) (by omega) (Nat.le_of_ble_eq_true rfl) rfl ?_
  refine og_iload dL_law_205 rfl ?_
  refine og_icmp_eq (tgt := 212) dL_law_207 (by decide) (fun _ => ?_) (fun z9 => absurd (rfl) z9)
  refine og_iload dL_law_212 rfl ?_
  refine og_if_ne (tgt := 229) dL_law_214 (by decide) (fun hc => ?_) (fun hc => ?_)
  · refine og_goto (tgt := 876) dL_law_229 (by decide) ?_
    refine og_lv (ob_l5 X x m out (nI i)) rfl ?_
    exact IH _ _ _ _ _ _ _ _ _ ⟨hI'.wm hM' hwm, hM2, ho', by omega, by omega⟩
  · have hA := ob_nI0 h2 hc
    refine og_aload_n dL_law_217 rfl rfl ?_
    refine og_iconst (v := 0) dL_law_218 (by decide) ?_
    refine og_lald dL_law_219 ho' (vp_in_nI (n := 0) (by decide) (by decide)) ?_
    refine og_iload dL_law_220 rfl ?_
    refine og_i2l dL_law_222 rfl ?_
    refine og_lcmp dL_law_223 ?_
    refine og_if_eq (tgt := 229) dL_law_224 (by decide) (fun _ => ?_) (fun z9 => absurd (ob_cmp0 ((hJ hA).trans (by rw [hz hA]; rfl))) z9)
    refine og_goto (tgt := 876) dL_law_229 (by decide) ?_
    refine og_lv (ob_l5 X x m out (nI i)) rfl ?_
    exact IH _ _ _ _ _ _ _ _ _ ⟨hI'.wm hM' hwm, hM2, ho', by omega, by omega⟩
theorem lc_put (IH : ob_Lo X R Q x m mt mr mb mk mv out me mu i r) (hZ : ob_Z R T V B x m mt mr mb mk mv out me mu cap thr S k n (r + 1)) (hR : 48 ≤ R.frames ∧ 3600 ≤ R.locals) (hi : i + 3 < sc_L X) (hL : sc_L X ≤ 2050) : ob_G X mL_law R Q 232 (ob_l5 X x m out (nI i)) [] (T, V, B, J) k n := by
  obtain ⟨hI, hM, ho, hk, hn⟩ := hZ
  have hp := ob_ph_le hI
  have x1 := hI.Tx
  refine og_aload_n dL_law_232 rfl rfl ?_
  refine og_aload_n dL_law_233 rfl rfl ?_
  refine og_iload dL_law_234 rfl ?_
  refine og_iconst (v := 1) dL_law_236 (by decide) ?_
  refine og_iadd dL_law_237 ?_
  refine og_saldz (j := i + 1) dL_law_238 (by rw [← nI_add]; rfl) (by omega) hL ?_
  refine og_aload_n dL_law_239 rfl rfl ?_
  obtain ⟨g, hg, hC⟩ := cl_put (X := X) (J := J) (iv := sc_v X (i + 1)) hI ho
  have hu := ob_ph_up hI.lim hg
  refine og_callSW (st := []) dL_law_240 kwL_80 hC rfl rfl ⟨by omega, by show 8 + (4 + 11) + 60 * 9 ≤ R.locals; omega⟩ (by omega) (by omega) (by decide) ?_
  rintro v w9 ⟨T', V', B', J', rfl, hw, hI', hv, hJ, h2⟩
  cases hv
  have hM' := hM.ext hw.1 hw.2
  have ho' : T' out = some (9, 1) := hw.1 _ _ ho
  refine og_istore dL_law_243 (by decide) ?_
  refine og_aload_n dL_law_245 rfl rfl ?_
  refine og_aload_n dL_law_246 rfl rfl ?_
  refine og_iload dL_law_247 rfl ?_
  refine og_iconst (v := 1) dL_law_249 (by decide) ?_
  refine og_iadd dL_law_250 ?_
  refine og_saldz (j := i + 1) dL_law_251 (by rw [← nI_add]; rfl) (by omega) hL ?_
  refine og_callVn (st := []) dL_law_252 kvL_83 (cm_put hM' hI.ok) rfl hM'.1.1.1 rfl rfl ⟨by omega, by show 8 + (_ + 11) + 60 * 4 ≤ R.locals; exact Nat.le_trans (by decide) hR.2⟩ (by omega) (by omega) (Nat.le_of_ble_eq_true rfl) rfl (fun E w9 h9 => by obtain ⟨_, _, _, _, _, _, h9, _⟩ := h9; cases h9) ?_
  rintro v w9 ⟨V2, B2, z, rfl, hM2, hwm, hv, hz⟩
  cases hv
  refine og_istore dL_law_255 (by decide) ?_
  refine og_aload_n dL_law_257 rfl rfl ?_
  refine og_callVe (st := []) dL_law_258 kvL_77 (cm_thrown hM2.1.1.1 hM2.2.2.1) rfl hM2.1.1.1 rfl rfl ⟨by omega, by show 8 + (_ + 11) + 60 * 0 ≤ R.locals; exact Nat.le_trans (by decide) hR.2⟩ (by omega) (by omega) (Nat.le_of_ble_eq_true rfl) rfl ?_
  refine og_iload dL_law_261 rfl ?_
  refine og_icmp_eq (tgt := 268) dL_law_263 (by decide) (fun _ => ?_) (fun z9 => absurd (rfl) z9)
  refine og_iload dL_law_268 rfl ?_
  refine og_if_ne (tgt := 292) dL_law_270 (by decide) (fun hc => ?_) (fun hc => ?_)
  · refine og_goto (tgt := 876) dL_law_292 (by decide) ?_
    refine og_lv (ob_l5 X x m out (nI i)) rfl ?_
    exact IH _ _ _ _ _ _ _ _ _ ⟨hI'.wm hM' hwm, hM2, ho', by omega, by omega⟩
  · have hA := ob_nI0 h2 hc
    refine og_aload_n dL_law_273 rfl rfl ?_
    refine og_iconst (v := 0) dL_law_274 (by decide) ?_
    refine og_lald dL_law_275 ho' (vp_in_nI (n := 0) (by decide) (by decide)) ?_
    refine og_iload dL_law_276 rfl ?_
    have hz := hz hA
    subst hz
    refine og_if_eq (tgt := 285) dL_law_278 (by decide) (fun hd => ?_) (fun hd => ?_)
    · refine og_lconst (v := 0) dL_law_285 (by decide) ?_
      refine og_lcmp dL_law_286 ?_
      refine og_if_eq (tgt := 292) dL_law_287 (by decide) (fun _ => ?_) (fun z9 => absurd (ob_cmp0 ((hJ hA).trans (by unfold ob_ov; rw [if_pos rfl, if_pos hd]))) z9)
      refine og_goto (tgt := 876) dL_law_292 (by decide) ?_
      refine og_lv (ob_l5 X x m out (nI i)) rfl ?_
      exact IH _ _ _ _ _ _ _ _ _ ⟨hI'.wm hM' hwm, hM2, ho', by omega, by omega⟩
    · refine og_lconst (v := 1) dL_law_281 (by decide) ?_
      refine og_goto (tgt := 286) dL_law_282 (by decide) ?_
      refine og_lcmp dL_law_286 ?_
      refine og_if_eq (tgt := 292) dL_law_287 (by decide) (fun _ => ?_) (fun z9 => absurd (ob_cmp0 ((hJ hA).trans (by unfold ob_ov; rw [if_pos rfl, if_neg hd]))) z9)
      refine og_goto (tgt := 876) dL_law_292 (by decide) ?_
      refine og_lv (ob_l5 X x m out (nI i)) rfl ?_
      exact IH _ _ _ _ _ _ _ _ _ ⟨hI'.wm hM' hwm, hM2, ho', by omega, by omega⟩
theorem lc_get (IH : ob_Lo X R Q x m mt mr mb mk mv out me mu i r) (hZ : ob_Z R T V B x m mt mr mb mk mv out me mu cap thr S k n (r + 1)) (hR : 48 ≤ R.frames ∧ 3600 ≤ R.locals) (hi : i + 3 < sc_L X) (hL : sc_L X ≤ 2050) : ob_G X mL_law R Q 295 (ob_l5 X x m out (nI i)) [] (T, V, B, J) k n := by
  obtain ⟨hI, hM, ho, hk, hn⟩ := hZ
  have hp := ob_ph_le hI
  have x1 := hI.Tx
  refine og_aload_n dL_law_295 rfl rfl ?_
  refine og_aload_n dL_law_296 rfl rfl ?_
  refine og_callSW (st := []) dL_law_297 kwL_84 (cl_get hI ho) rfl rfl ⟨by omega, by show 8 + (3 + 11) + 60 * 9 ≤ R.locals; omega⟩ (by omega) (by omega) (by decide) ?_
  rintro v w9 ⟨T', V', B', J', rfl, hw, hI', hv, hJ, h2⟩
  cases hv
  have hM' := hM.ext hw.1 hw.2
  have ho' : T' out = some (9, 1) := hw.1 _ _ ho
  refine og_istore dL_law_300 (by decide) ?_
  refine og_aload_n dL_law_302 rfl rfl ?_
  refine og_callVn (st := []) dL_law_303 kvL_87 (cm_get hM' hI.ok) rfl hM'.1.1.1 rfl rfl ⟨by omega, by show 8 + (_ + 11) + 60 * 4 ≤ R.locals; exact Nat.le_trans (by decide) hR.2⟩ (by omega) (by omega) (Nat.le_of_ble_eq_true rfl) rfl (fun E w9 h9 => by obtain ⟨_, _, _, _, _, _, h9, _⟩ := h9; cases h9) ?_
  rintro v w9 ⟨V2, B2, z, rfl, hM2, hwm, hv, hz⟩
  cases hv
  refine og_istore dL_law_306 (by decide) ?_
  refine og_aload_n dL_law_308 rfl rfl ?_
  refine og_callVe (st := []) dL_law_309 kvL_77 (cm_thrown hM2.1.1.1 hM2.2.2.1) rfl hM2.1.1.1 rfl rfl ⟨by omega, by show 8 + (_ + 11) + 60 * 0 ≤ R.locals; exact Nat.le_trans (by decide) hR.2⟩ (by omega) (by omega) (Nat.le_of_ble_eq_true rfl) rfl ?_
  refine og_iload dL_law_312 rfl ?_
  refine og_icmp_eq (tgt := 319) dL_law_314 (by decide) (fun _ => ?_) (fun z9 => absurd (rfl) z9)
  refine og_iload dL_law_319 rfl ?_
  refine og_if_ne (tgt := 336) dL_law_321 (by decide) (fun hc => ?_) (fun hc => ?_)
  · refine og_goto (tgt := 876) dL_law_336 (by decide) ?_
    refine og_lv (ob_l5 X x m out (nI i)) rfl ?_
    exact IH _ _ _ _ _ _ _ _ _ ⟨hI'.wm hM' hwm, hM2, ho', by omega, by omega⟩
  · have hA := ob_nI0 h2 hc
    refine og_aload_n dL_law_324 rfl rfl ?_
    refine og_iconst (v := 0) dL_law_325 (by decide) ?_
    refine og_lald dL_law_326 ho' (vp_in_nI (n := 0) (by decide) (by decide)) ?_
    refine og_iload dL_law_327 rfl ?_
    refine og_i2l dL_law_329 rfl ?_
    refine og_lcmp dL_law_330 ?_
    refine og_if_eq (tgt := 336) dL_law_331 (by decide) (fun _ => ?_) (fun z9 => absurd (ob_cmp0 ((hJ hA).trans (by rw [hz hA]; rfl))) z9)
    refine og_goto (tgt := 876) dL_law_336 (by decide) ?_
    refine og_lv (ob_l5 X x m out (nI i)) rfl ?_
    exact IH _ _ _ _ _ _ _ _ _ ⟨hI'.wm hM' hwm, hM2, ho', by omega, by omega⟩
theorem lc_remove (IH : ob_Lo X R Q x m mt mr mb mk mv out me mu i r) (hZ : ob_Z R T V B x m mt mr mb mk mv out me mu cap thr S k n (r + 1)) (hR : 48 ≤ R.frames ∧ 3600 ≤ R.locals) (hi : i + 3 < sc_L X) (hL : sc_L X ≤ 2050) : ob_G X mL_law R Q 339 (ob_l5 X x m out (nI i)) [] (T, V, B, J) k n := by
  obtain ⟨hI, hM, ho, hk, hn⟩ := hZ
  have hp := ob_ph_le hI
  have x1 := hI.Tx
  refine og_aload_n dL_law_339 rfl rfl ?_
  refine og_aload_n dL_law_340 rfl rfl ?_
  refine og_callSW (st := []) dL_law_341 kwL_88 (cl_remove hI ho) rfl rfl ⟨by omega, by show 8 + (3 + 11) + 60 * 9 ≤ R.locals; omega⟩ (by omega) (by omega) (by decide) ?_
  rintro v w9 ⟨T', V', B', J', rfl, hw, hI', hv, hJ, h2⟩
  cases hv
  have hM' := hM.ext hw.1 hw.2
  have ho' : T' out = some (9, 1) := hw.1 _ _ ho
  refine og_istore dL_law_344 (by decide) ?_
  refine og_aload_n dL_law_346 rfl rfl ?_
  refine og_callVn (st := []) dL_law_347 kvL_90 (cm_remove hM' hI.ok) rfl hM'.1.1.1 rfl rfl ⟨by omega, by show 8 + (_ + 11) + 60 * 4 ≤ R.locals; exact Nat.le_trans (by decide) hR.2⟩ (by omega) (by omega) (Nat.le_of_ble_eq_true rfl) rfl (fun E w9 h9 => by obtain ⟨_, _, _, _, _, _, h9, _⟩ := h9; cases h9) ?_
  rintro v w9 ⟨V2, B2, z, rfl, hM2, hwm, hv, hz⟩
  cases hv
  refine og_istore dL_law_350 (by decide) ?_
  refine og_aload_n dL_law_352 rfl rfl ?_
  refine og_callVe (st := []) dL_law_353 kvL_77 (cm_thrown hM2.1.1.1 hM2.2.2.1) rfl hM2.1.1.1 rfl rfl ⟨by omega, by show 8 + (_ + 11) + 60 * 0 ≤ R.locals; exact Nat.le_trans (by decide) hR.2⟩ (by omega) (by omega) (Nat.le_of_ble_eq_true rfl) rfl ?_
  refine og_iload dL_law_356 rfl ?_
  refine og_icmp_eq (tgt := 363) dL_law_358 (by decide) (fun _ => ?_) (fun z9 => absurd (rfl) z9)
  refine og_iload dL_law_363 rfl ?_
  refine og_if_ne (tgt := 387) dL_law_365 (by decide) (fun hc => ?_) (fun hc => ?_)
  · refine og_goto (tgt := 876) dL_law_387 (by decide) ?_
    refine og_lv (ob_l5 X x m out (nI i)) rfl ?_
    exact IH _ _ _ _ _ _ _ _ _ ⟨hI'.wm hM' hwm, hM2, ho', by omega, by omega⟩
  · have hA := ob_nI0 h2 hc
    refine og_aload_n dL_law_368 rfl rfl ?_
    refine og_iconst (v := 0) dL_law_369 (by decide) ?_
    refine og_lald dL_law_370 ho' (vp_in_nI (n := 0) (by decide) (by decide)) ?_
    refine og_iload dL_law_371 rfl ?_
    have hz := hz hA
    subst hz
    refine og_if_eq (tgt := 380) dL_law_373 (by decide) (fun hd => ?_) (fun hd => ?_)
    · refine og_lconst (v := 0) dL_law_380 (by decide) ?_
      refine og_lcmp dL_law_381 ?_
      refine og_if_eq (tgt := 387) dL_law_382 (by decide) (fun _ => ?_) (fun z9 => absurd (ob_cmp0 ((hJ hA).trans (by unfold ob_ov; rw [if_pos rfl, if_pos hd]))) z9)
      refine og_goto (tgt := 876) dL_law_387 (by decide) ?_
      refine og_lv (ob_l5 X x m out (nI i)) rfl ?_
      exact IH _ _ _ _ _ _ _ _ _ ⟨hI'.wm hM' hwm, hM2, ho', by omega, by omega⟩
    · refine og_lconst (v := 1) dL_law_376 (by decide) ?_
      refine og_goto (tgt := 381) dL_law_377 (by decide) ?_
      refine og_lcmp dL_law_381 ?_
      refine og_if_eq (tgt := 387) dL_law_382 (by decide) (fun _ => ?_) (fun z9 => absurd (ob_cmp0 ((hJ hA).trans (by unfold ob_ov; rw [if_pos rfl, if_neg hd]))) z9)
      refine og_goto (tgt := 876) dL_law_387 (by decide) ?_
      refine og_lv (ob_l5 X x m out (nI i)) rfl ?_
      exact IH _ _ _ _ _ _ _ _ _ ⟨hI'.wm hM' hwm, hM2, ho', by omega, by omega⟩
theorem lc_seek (IH : ob_Lo X R Q x m mt mr mb mk mv out me mu i r) (hZ : ob_Z R T V B x m mt mr mb mk mv out me mu cap thr S k n (r + 1)) (hR : 48 ≤ R.frames ∧ 3600 ≤ R.locals) (hi : i + 3 < sc_L X) (hL : sc_L X ≤ 2050) : ob_G X mL_law R Q 390 (ob_l5 X x m out (nI i)) [] (T, V, B, J) k n := by
  obtain ⟨hI, hM, ho, hk, hn⟩ := hZ
  have hp := ob_ph_le hI
  have x1 := hI.Tx
  refine og_aload_n dL_law_390 rfl rfl ?_
  refine og_aload_n dL_law_391 rfl rfl ?_
  refine og_iload dL_law_392 rfl ?_
  refine og_iconst (v := 1) dL_law_394 (by decide) ?_
  refine og_iadd dL_law_395 ?_
  refine og_saldz (j := i + 1) dL_law_396 (by rw [← nI_add]; rfl) (by omega) hL ?_
  refine og_aload_n dL_law_397 rfl rfl ?_
  refine og_callSW (st := []) dL_law_398 kwL_91 (cl_seek hI ho) rfl rfl ⟨by omega, by show 8 + (4 + 11) + 60 * 9 ≤ R.locals; omega⟩ (by omega) (by omega) (by decide) ?_
  rintro v w9 ⟨T', V', B', J', rfl, hw, hI', hv, hJ, h2⟩
  cases hv
  have hM' := hM.ext hw.1 hw.2
  have ho' : T' out = some (9, 1) := hw.1 _ _ ho
  refine og_istore dL_law_401 (by decide) ?_
  refine og_aload_n dL_law_403 rfl rfl ?_
  refine og_aload_n dL_law_404 rfl rfl ?_
  refine og_iload dL_law_405 rfl ?_
  refine og_iconst (v := 1) dL_law_407 (by decide) ?_
  refine og_iadd dL_law_408 ?_
  refine og_saldz (j := i + 1) dL_law_409 (by rw [← nI_add]; rfl) (by omega) hL ?_
  refine og_callVn (st := []) dL_law_410 kvL_93 (cm_seek hM' hI.ok) rfl hM'.1.1.1 rfl rfl ⟨by omega, by show 8 + (_ + 11) + 60 * 4 ≤ R.locals; exact Nat.le_trans (by decide) hR.2⟩ (by omega) (by omega) (Nat.le_of_ble_eq_true rfl) rfl (fun E w9 h9 => by obtain ⟨_, _, _, _, _, _, h9, _⟩ := h9; cases h9) ?_
  rintro v w9 ⟨V2, B2, z, rfl, hM2, hwm, hv, hz⟩
  cases hv
  refine og_istore dL_law_413 (by decide) ?_
  refine og_aload_n dL_law_415 rfl rfl ?_
  refine og_callVe (st := []) dL_law_416 kvL_77 (cm_thrown hM2.1.1.1 hM2.2.2.1) rfl hM2.1.1.1 rfl rfl ⟨by omega, by show 8 + (_ + 11) + 60 * 0 ≤ R.locals; exact Nat.le_trans (by decide) hR.2⟩ (by omega) (by omega) (Nat.le_of_ble_eq_true rfl) rfl ?_
  refine og_iload dL_law_419 rfl ?_
  refine og_icmp_eq (tgt := 426) dL_law_421 (by decide) (fun _ => ?_) (fun z9 => absurd (rfl) z9)
  refine og_iload dL_law_426 rfl ?_
  refine og_if_ne (tgt := 443) dL_law_428 (by decide) (fun hc => ?_) (fun hc => ?_)
  · refine og_goto (tgt := 876) dL_law_443 (by decide) ?_
    refine og_lv (ob_l5 X x m out (nI i)) rfl ?_
    exact IH _ _ _ _ _ _ _ _ _ ⟨hI'.wm hM' hwm, hM2, ho', by omega, by omega⟩
  · have hA := ob_nI0 h2 hc
    refine og_aload_n dL_law_431 rfl rfl ?_
    refine og_iconst (v := 0) dL_law_432 (by decide) ?_
    refine og_lald dL_law_433 ho' (vp_in_nI (n := 0) (by decide) (by decide)) ?_
    refine og_iload dL_law_434 rfl ?_
    refine og_i2l dL_law_436 rfl ?_
    refine og_lcmp dL_law_437 ?_
    refine og_if_eq (tgt := 443) dL_law_438 (by decide) (fun _ => ?_) (fun z9 => absurd (ob_cmp0 ((hJ hA).trans (by rw [hz hA]; rfl))) z9)
    refine og_goto (tgt := 876) dL_law_443 (by decide) ?_
    refine og_lv (ob_l5 X x m out (nI i)) rfl ?_
    exact IH _ _ _ _ _ _ _ _ _ ⟨hI'.wm hM' hwm, hM2, ho', by omega, by omega⟩
theorem lc_at (IH : ob_Lo X R Q x m mt mr mb mk mv out me mu i r) (hZ : ob_Z R T V B x m mt mr mb mk mv out me mu cap thr S k n (r + 1)) (hR : 48 ≤ R.frames ∧ 3600 ≤ R.locals) (hi : i + 3 < sc_L X) (hL : sc_L X ≤ 2050) : ob_G X mL_law R Q 446 (ob_l5 X x m out (nI i)) [] (T, V, B, J) k n := by
  obtain ⟨hI, hM, ho, hk, hn⟩ := hZ
  have hp := ob_ph_le hI
  have x1 := hI.Tx
  refine og_aload_n dL_law_446 rfl rfl ?_
  refine og_aload_n dL_law_447 rfl rfl ?_
  refine og_iload dL_law_448 rfl ?_
  refine og_iconst (v := 1) dL_law_450 (by decide) ?_
  refine og_iadd dL_law_451 ?_
  refine og_saldz (j := i + 1) dL_law_452 (by rw [← nI_add]; rfl) (by omega) hL ?_
  refine og_aload_n dL_law_453 rfl rfl ?_
  refine og_callSW (st := []) dL_law_454 kwL_94 (cl_at hI ho) rfl rfl ⟨by omega, by show 8 + (4 + 11) + 60 * 9 ≤ R.locals; omega⟩ (by omega) (by omega) (by decide) ?_
  rintro v w9 ⟨T', V', B', J', rfl, hw, hI', hv, hJ, h2⟩
  cases hv
  have hM' := hM.ext hw.1 hw.2
  have ho' : T' out = some (9, 1) := hw.1 _ _ ho
  refine og_istore dL_law_457 (by decide) ?_
  refine og_aload_n dL_law_459 rfl rfl ?_
  refine og_aload_n dL_law_460 rfl rfl ?_
  refine og_iload dL_law_461 rfl ?_
  refine og_iconst (v := 1) dL_law_463 (by decide) ?_
  refine og_iadd dL_law_464 ?_
  refine og_saldz (j := i + 1) dL_law_465 (by rw [← nI_add]; rfl) (by omega) hL ?_
  refine og_callVn (st := []) dL_law_466 kvL_96 (cm_at hM' hI.ok) rfl hM'.1.1.1 rfl rfl ⟨by omega, by show 8 + (_ + 11) + 60 * 4 ≤ R.locals; exact Nat.le_trans (by decide) hR.2⟩ (by omega) (by omega) (Nat.le_of_ble_eq_true rfl) rfl (fun E w9 h9 => by obtain ⟨_, _, _, _, _, _, h9, _⟩ := h9; cases h9) ?_
  rintro v w9 ⟨V2, B2, z, rfl, hM2, hwm, hv, hz⟩
  cases hv
  refine og_istore dL_law_469 (by decide) ?_
  refine og_aload_n dL_law_471 rfl rfl ?_
  refine og_callVe (st := []) dL_law_472 kvL_77 (cm_thrown hM2.1.1.1 hM2.2.2.1) rfl hM2.1.1.1 rfl rfl ⟨by omega, by show 8 + (_ + 11) + 60 * 0 ≤ R.locals; exact Nat.le_trans (by decide) hR.2⟩ (by omega) (by omega) (Nat.le_of_ble_eq_true rfl) rfl ?_
  refine og_iload dL_law_475 rfl ?_
  refine og_icmp_eq (tgt := 482) dL_law_477 (by decide) (fun _ => ?_) (fun z9 => absurd (rfl) z9)
  refine og_iload dL_law_482 rfl ?_
  refine og_if_ne (tgt := 499) dL_law_484 (by decide) (fun hc => ?_) (fun hc => ?_)
  · refine og_goto (tgt := 876) dL_law_499 (by decide) ?_
    refine og_lv (ob_l5 X x m out (nI i)) rfl ?_
    exact IH _ _ _ _ _ _ _ _ _ ⟨hI'.wm hM' hwm, hM2, ho', by omega, by omega⟩
  · have hA := ob_nI0 h2 hc
    refine og_aload_n dL_law_487 rfl rfl ?_
    refine og_iconst (v := 0) dL_law_488 (by decide) ?_
    refine og_lald dL_law_489 ho' (vp_in_nI (n := 0) (by decide) (by decide)) ?_
    refine og_iload dL_law_490 rfl ?_
    refine og_i2l dL_law_492 rfl ?_
    refine og_lcmp dL_law_493 ?_
    refine og_if_eq (tgt := 499) dL_law_494 (by decide) (fun _ => ?_) (fun z9 => absurd (ob_cmp0 ((hJ hA).trans (by rw [hz hA]; rfl))) z9)
    refine og_goto (tgt := 876) dL_law_499 (by decide) ?_
    refine og_lv (ob_l5 X x m out (nI i)) rfl ?_
    exact IH _ _ _ _ _ _ _ _ _ ⟨hI'.wm hM' hwm, hM2, ho', by omega, by omega⟩
theorem lc_step (IH : ob_Lo X R Q x m mt mr mb mk mv out me mu i r) (hZ : ob_Z R T V B x m mt mr mb mk mv out me mu cap thr S k n (r + 1)) (hR : 48 ≤ R.frames ∧ 3600 ≤ R.locals) (hi : i + 3 < sc_L X) (hL : sc_L X ≤ 2050) : ob_G X mL_law R Q 502 (ob_l5 X x m out (nI i)) [] (T, V, B, J) k n := by
  obtain ⟨hI, hM, ho, hk, hn⟩ := hZ
  have hp := ob_ph_le hI
  have x1 := hI.Tx
  by_cases h0 : sc_v X (i + 1) = 0
  · skip
    refine og_aload_n dL_law_502 rfl rfl ?_
    refine og_aload_n dL_law_503 rfl rfl ?_
    refine og_iload dL_law_504 rfl ?_
    refine og_iconst (v := 1) dL_law_506 (by decide) ?_
    refine og_iadd dL_law_507 ?_
    refine og_saldz (j := i + 1) dL_law_508 (by rw [← nI_add]; rfl) (by omega) hL ?_
    refine og_if_eq (tgt := 516) dL_law_509 (by decide) (fun _ => ?_) (fun z9 => absurd (h0) z9)
    refine og_iconst (v := 0) dL_law_516 (by decide) ?_
    refine og_aload_n dL_law_517 rfl rfl ?_
    refine og_callSW (st := []) dL_law_518 kwL_97 (cl_step (iv := false) hI ho) rfl rfl ⟨by omega, by show 8 + (4 + 11) + 60 * 9 ≤ R.locals; omega⟩ (by omega) (by omega) (by decide) ?_
    rintro v w9 ⟨T', V', B', J', rfl, hw, hI', hv, hJ, h2⟩
    cases hv
    have hM' := hM.ext hw.1 hw.2
    have ho' : T' out = some (9, 1) := hw.1 _ _ ho
    refine og_istore dL_law_521 (by decide) ?_
    refine og_aload_n dL_law_523 rfl rfl ?_
    refine og_aload_n dL_law_524 rfl rfl ?_
    refine og_iload dL_law_525 rfl ?_
    refine og_iconst (v := 1) dL_law_527 (by decide) ?_
    refine og_iadd dL_law_528 ?_
    refine og_saldz (j := i + 1) dL_law_529 (by rw [← nI_add]; rfl) (by omega) hL ?_
    refine og_if_eq (tgt := 537) dL_law_530 (by decide) (fun _ => ?_) (fun z9 => absurd (h0) z9)
    refine og_iconst (v := 0) dL_law_537 (by decide) ?_
    refine og_callVn (st := []) dL_law_538 kvL_100 (cm_step (back := false) hM' hI.ok) rfl hM'.1.1.1 rfl rfl ⟨by omega, by show 8 + (_ + 11) + 60 * 4 ≤ R.locals; exact Nat.le_trans (by decide) hR.2⟩ (by omega) (by omega) (Nat.le_of_ble_eq_true rfl) rfl (fun E w9 h9 => by obtain ⟨_, _, _, _, _, _, h9, _⟩ := h9; cases h9) ?_
    rintro v w9 ⟨V2, B2, z, rfl, hM2, hwm, hv, hz⟩
    cases hv
    refine og_istore dL_law_541 (by decide) ?_
    refine og_aload_n dL_law_543 rfl rfl ?_
    refine og_callVe (st := []) dL_law_544 kvL_77 (cm_thrown hM2.1.1.1 hM2.2.2.1) rfl hM2.1.1.1 rfl rfl ⟨by omega, by show 8 + (_ + 11) + 60 * 0 ≤ R.locals; exact Nat.le_trans (by decide) hR.2⟩ (by omega) (by omega) (Nat.le_of_ble_eq_true rfl) rfl ?_
    refine og_iload dL_law_547 rfl ?_
    refine og_icmp_eq (tgt := 554) dL_law_549 (by decide) (fun _ => ?_) (fun z9 => absurd (rfl) z9)
    refine og_iload dL_law_554 rfl ?_
    refine og_if_ne (tgt := 578) dL_law_556 (by decide) (fun hc => ?_) (fun hc => ?_)
    · refine og_goto (tgt := 876) dL_law_578 (by decide) ?_
      refine og_lv (ob_l5 X x m out (nI i)) rfl ?_
      exact IH _ _ _ _ _ _ _ _ _ ⟨hI'.wm hM' hwm, hM2, ho', by omega, by omega⟩
    · have hA := ob_nI0 h2 hc
      refine og_aload_n dL_law_559 rfl rfl ?_
      refine og_iconst (v := 0) dL_law_560 (by decide) ?_
      refine og_lald dL_law_561 ho' (vp_in_nI (n := 0) (by decide) (by decide)) ?_
      refine og_iload dL_law_562 rfl ?_
      have hz := hz hA
      subst hz
      refine og_if_eq (tgt := 571) dL_law_564 (by decide) (fun hd => ?_) (fun hd => ?_)
      · refine og_lconst (v := 0) dL_law_571 (by decide) ?_
        refine og_lcmp dL_law_572 ?_
        refine og_if_eq (tgt := 578) dL_law_573 (by decide) (fun _ => ?_) (fun z9 => absurd (ob_cmp0 ((hJ hA).trans (by unfold ob_ov; rw [if_pos rfl, if_pos hd]))) z9)
        refine og_goto (tgt := 876) dL_law_578 (by decide) ?_
        refine og_lv (ob_l5 X x m out (nI i)) rfl ?_
        exact IH _ _ _ _ _ _ _ _ _ ⟨hI'.wm hM' hwm, hM2, ho', by omega, by omega⟩
      · refine og_lconst (v := 1) dL_law_567 (by decide) ?_
        refine og_goto (tgt := 572) dL_law_568 (by decide) ?_
        refine og_lcmp dL_law_572 ?_
        refine og_if_eq (tgt := 578) dL_law_573 (by decide) (fun _ => ?_) (fun z9 => absurd (ob_cmp0 ((hJ hA).trans (by unfold ob_ov; rw [if_pos rfl, if_neg hd]))) z9)
        refine og_goto (tgt := 876) dL_law_578 (by decide) ?_
        refine og_lv (ob_l5 X x m out (nI i)) rfl ?_
        exact IH _ _ _ _ _ _ _ _ _ ⟨hI'.wm hM' hwm, hM2, ho', by omega, by omega⟩
  · skip
    refine og_aload_n dL_law_502 rfl rfl ?_
    refine og_aload_n dL_law_503 rfl rfl ?_
    refine og_iload dL_law_504 rfl ?_
    refine og_iconst (v := 1) dL_law_506 (by decide) ?_
    refine og_iadd dL_law_507 ?_
    refine og_saldz (j := i + 1) dL_law_508 (by rw [← nI_add]; rfl) (by omega) hL ?_
    refine og_if_eq (tgt := 516) dL_law_509 (by decide) (fun z9 => absurd z9 (h0)) (fun _ => ?_)
    refine og_iconst (v := 1) dL_law_512 (by decide) ?_
    refine og_goto (tgt := 517) dL_law_513 (by decide) ?_
    refine og_aload_n dL_law_517 rfl rfl ?_
    refine og_callSW (st := []) dL_law_518 kwL_97 (cl_step (iv := true) hI ho) rfl rfl ⟨by omega, by show 8 + (4 + 11) + 60 * 9 ≤ R.locals; omega⟩ (by omega) (by omega) (by decide) ?_
    rintro v w9 ⟨T', V', B', J', rfl, hw, hI', hv, hJ, h2⟩
    cases hv
    have hM' := hM.ext hw.1 hw.2
    have ho' : T' out = some (9, 1) := hw.1 _ _ ho
    refine og_istore dL_law_521 (by decide) ?_
    refine og_aload_n dL_law_523 rfl rfl ?_
    refine og_aload_n dL_law_524 rfl rfl ?_
    refine og_iload dL_law_525 rfl ?_
    refine og_iconst (v := 1) dL_law_527 (by decide) ?_
    refine og_iadd dL_law_528 ?_
    refine og_saldz (j := i + 1) dL_law_529 (by rw [← nI_add]; rfl) (by omega) hL ?_
    refine og_if_eq (tgt := 537) dL_law_530 (by decide) (fun z9 => absurd z9 (h0)) (fun _ => ?_)
    refine og_iconst (v := 1) dL_law_533 (by decide) ?_
    refine og_goto (tgt := 538) dL_law_534 (by decide) ?_
    refine og_callVn (st := []) dL_law_538 kvL_100 (cm_step (back := true) hM' hI.ok) rfl hM'.1.1.1 rfl rfl ⟨by omega, by show 8 + (_ + 11) + 60 * 4 ≤ R.locals; exact Nat.le_trans (by decide) hR.2⟩ (by omega) (by omega) (Nat.le_of_ble_eq_true rfl) rfl (fun E w9 h9 => by obtain ⟨_, _, _, _, _, _, h9, _⟩ := h9; cases h9) ?_
    rintro v w9 ⟨V2, B2, z, rfl, hM2, hwm, hv, hz⟩
    cases hv
    refine og_istore dL_law_541 (by decide) ?_
    refine og_aload_n dL_law_543 rfl rfl ?_
    refine og_callVe (st := []) dL_law_544 kvL_77 (cm_thrown hM2.1.1.1 hM2.2.2.1) rfl hM2.1.1.1 rfl rfl ⟨by omega, by show 8 + (_ + 11) + 60 * 0 ≤ R.locals; exact Nat.le_trans (by decide) hR.2⟩ (by omega) (by omega) (Nat.le_of_ble_eq_true rfl) rfl ?_
    refine og_iload dL_law_547 rfl ?_
    refine og_icmp_eq (tgt := 554) dL_law_549 (by decide) (fun _ => ?_) (fun z9 => absurd (rfl) z9)
    refine og_iload dL_law_554 rfl ?_
    refine og_if_ne (tgt := 578) dL_law_556 (by decide) (fun hc => ?_) (fun hc => ?_)
    · refine og_goto (tgt := 876) dL_law_578 (by decide) ?_
      refine og_lv (ob_l5 X x m out (nI i)) rfl ?_
      exact IH _ _ _ _ _ _ _ _ _ ⟨hI'.wm hM' hwm, hM2, ho', by omega, by omega⟩
    · have hA := ob_nI0 h2 hc
      refine og_aload_n dL_law_559 rfl rfl ?_
      refine og_iconst (v := 0) dL_law_560 (by decide) ?_
      refine og_lald dL_law_561 ho' (vp_in_nI (n := 0) (by decide) (by decide)) ?_
      refine og_iload dL_law_562 rfl ?_
      have hz := hz hA
      subst hz
      refine og_if_eq (tgt := 571) dL_law_564 (by decide) (fun hd => ?_) (fun hd => ?_)
      · refine og_lconst (v := 0) dL_law_571 (by decide) ?_
        refine og_lcmp dL_law_572 ?_
        refine og_if_eq (tgt := 578) dL_law_573 (by decide) (fun _ => ?_) (fun z9 => absurd (ob_cmp0 ((hJ hA).trans (by unfold ob_ov; rw [if_pos rfl, if_pos hd]))) z9)
        refine og_goto (tgt := 876) dL_law_578 (by decide) ?_
        refine og_lv (ob_l5 X x m out (nI i)) rfl ?_
        exact IH _ _ _ _ _ _ _ _ _ ⟨hI'.wm hM' hwm, hM2, ho', by omega, by omega⟩
      · refine og_lconst (v := 1) dL_law_567 (by decide) ?_
        refine og_goto (tgt := 572) dL_law_568 (by decide) ?_
        refine og_lcmp dL_law_572 ?_
        refine og_if_eq (tgt := 578) dL_law_573 (by decide) (fun _ => ?_) (fun z9 => absurd (ob_cmp0 ((hJ hA).trans (by unfold ob_ov; rw [if_pos rfl, if_neg hd]))) z9)
        refine og_goto (tgt := 876) dL_law_578 (by decide) ?_
        refine og_lv (ob_l5 X x m out (nI i)) rfl ?_
        exact IH _ _ _ _ _ _ _ _ _ ⟨hI'.wm hM' hwm, hM2, ho', by omega, by omega⟩
theorem lc_value (IH : ob_Lo X R Q x m mt mr mb mk mv out me mu i r) (hZ : ob_Z R T V B x m mt mr mb mk mv out me mu cap thr S k n (r + 1)) (hR : 48 ≤ R.frames ∧ 3600 ≤ R.locals) (hi : i + 3 < sc_L X) (hL : sc_L X ≤ 2050) : ob_G X mL_law R Q 581 (ob_l5 X x m out (nI i)) [] (T, V, B, J) k n := by
  obtain ⟨hI, hM, ho, hk, hn⟩ := hZ
  have hp := ob_ph_le hI
  have x1 := hI.Tx
  refine og_aload_n dL_law_581 rfl rfl ?_
  refine og_aload_n dL_law_582 rfl rfl ?_
  refine og_callSW (st := []) dL_law_583 kwL_101 (cl_value hI ho) rfl rfl ⟨by omega, by show 8 + (3 + 11) + 60 * 9 ≤ R.locals; omega⟩ (by omega) (by omega) (by decide) ?_
  rintro v w9 ⟨T', V', B', J', rfl, hw, hI', hv, hJ, h2⟩
  cases hv
  have hM' := hM.ext hw.1 hw.2
  have ho' : T' out = some (9, 1) := hw.1 _ _ ho
  refine og_istore dL_law_586 (by decide) ?_
  refine og_aload_n dL_law_588 rfl rfl ?_
  refine og_callVn (st := []) dL_law_589 kvL_103 (cm_value hM' hI.ok) rfl hM'.1.1.1 rfl rfl ⟨by omega, by show 8 + (_ + 11) + 60 * 4 ≤ R.locals; exact Nat.le_trans (by decide) hR.2⟩ (by omega) (by omega) (Nat.le_of_ble_eq_true rfl) rfl (fun E w9 h9 => by obtain ⟨_, _, _, _, _, _, h9, _⟩ := h9; cases h9) ?_
  rintro v w9 ⟨V2, B2, z, rfl, hM2, hwm, hv, hz⟩
  cases hv
  refine og_istore dL_law_592 (by decide) ?_
  refine og_aload_n dL_law_594 rfl rfl ?_
  refine og_callVe (st := []) dL_law_595 kvL_77 (cm_thrown hM2.1.1.1 hM2.2.2.1) rfl hM2.1.1.1 rfl rfl ⟨by omega, by show 8 + (_ + 11) + 60 * 0 ≤ R.locals; exact Nat.le_trans (by decide) hR.2⟩ (by omega) (by omega) (Nat.le_of_ble_eq_true rfl) rfl ?_
  refine og_iload dL_law_598 rfl ?_
  refine og_icmp_eq (tgt := 605) dL_law_600 (by decide) (fun _ => ?_) (fun z9 => absurd (rfl) z9)
  refine og_iload dL_law_605 rfl ?_
  refine og_if_ne (tgt := 622) dL_law_607 (by decide) (fun hc => ?_) (fun hc => ?_)
  · refine og_goto (tgt := 876) dL_law_622 (by decide) ?_
    refine og_lv (ob_l5 X x m out (nI i)) rfl ?_
    exact IH _ _ _ _ _ _ _ _ _ ⟨hI'.wm hM' hwm, hM2, ho', by omega, by omega⟩
  · have hA := ob_nI0 h2 hc
    refine og_aload_n dL_law_610 rfl rfl ?_
    refine og_iconst (v := 0) dL_law_611 (by decide) ?_
    refine og_lald dL_law_612 ho' (vp_in_nI (n := 0) (by decide) (by decide)) ?_
    refine og_iload dL_law_613 rfl ?_
    refine og_i2l dL_law_615 rfl ?_
    refine og_lcmp dL_law_616 ?_
    refine og_if_eq (tgt := 622) dL_law_617 (by decide) (fun _ => ?_) (fun z9 => absurd (ob_cmp0 ((hJ hA).trans (by rw [hz hA]; rfl))) z9)
    refine og_goto (tgt := 876) dL_law_622 (by decide) ?_
    refine og_lv (ob_l5 X x m out (nI i)) rfl ?_
    exact IH _ _ _ _ _ _ _ _ _ ⟨hI'.wm hM' hwm, hM2, ho', by omega, by omega⟩
theorem lc_place (IH : ob_Lo X R Q x m mt mr mb mk mv out me mu i r) (hZ : ob_Z R T V B x m mt mr mb mk mv out me mu cap thr S k n (r + 1)) (hR : 48 ≤ R.frames ∧ 3600 ≤ R.locals) (hi : i + 3 < sc_L X) (hL : sc_L X ≤ 2050) : ob_G X mL_law R Q 625 (ob_l5 X x m out (nI i)) [] (T, V, B, J) k n := by
  obtain ⟨hI, hM, ho, hk, hn⟩ := hZ
  have hp := ob_ph_le hI
  have x1 := hI.Tx
  refine og_aload_n dL_law_625 rfl rfl ?_
  refine og_aload_n dL_law_626 rfl rfl ?_
  refine og_callSW (st := []) dL_law_627 kwL_104 (cl_place hI ho) rfl rfl ⟨by omega, by show 8 + (3 + 11) + 60 * 9 ≤ R.locals; omega⟩ (by omega) (by omega) (by decide) ?_
  rintro v w9 ⟨T', V', B', J', rfl, hw, hI', hv, hJ, h2⟩
  cases hv
  have hM' := hM.ext hw.1 hw.2
  have ho' : T' out = some (9, 1) := hw.1 _ _ ho
  refine og_istore dL_law_630 (by decide) ?_
  refine og_aload_n dL_law_632 rfl rfl ?_
  refine og_callVn (st := []) dL_law_633 kvL_106 (cm_place hM' hI.ok) rfl hM'.1.1.1 rfl rfl ⟨by omega, by show 8 + (_ + 11) + 60 * 4 ≤ R.locals; exact Nat.le_trans (by decide) hR.2⟩ (by omega) (by omega) (Nat.le_of_ble_eq_true rfl) rfl (fun E w9 h9 => by obtain ⟨_, _, _, _, _, _, h9, _⟩ := h9; cases h9) ?_
  rintro v w9 ⟨V2, B2, z, rfl, hM2, hwm, hv, hz⟩
  cases hv
  refine og_istore dL_law_636 (by decide) ?_
  refine og_aload_n dL_law_638 rfl rfl ?_
  refine og_callVe (st := []) dL_law_639 kvL_77 (cm_thrown hM2.1.1.1 hM2.2.2.1) rfl hM2.1.1.1 rfl rfl ⟨by omega, by show 8 + (_ + 11) + 60 * 0 ≤ R.locals; exact Nat.le_trans (by decide) hR.2⟩ (by omega) (by omega) (Nat.le_of_ble_eq_true rfl) rfl ?_
  refine og_iload dL_law_642 rfl ?_
  refine og_icmp_eq (tgt := 649) dL_law_644 (by decide) (fun _ => ?_) (fun z9 => absurd (rfl) z9)
  refine og_iload dL_law_649 rfl ?_
  refine og_if_ne (tgt := 666) dL_law_651 (by decide) (fun hc => ?_) (fun hc => ?_)
  · refine og_goto (tgt := 876) dL_law_666 (by decide) ?_
    refine og_lv (ob_l5 X x m out (nI i)) rfl ?_
    exact IH _ _ _ _ _ _ _ _ _ ⟨hI'.wm hM' hwm, hM2, ho', by omega, by omega⟩
  · have hA := ob_nI0 h2 hc
    refine og_aload_n dL_law_654 rfl rfl ?_
    refine og_iconst (v := 0) dL_law_655 (by decide) ?_
    refine og_lald dL_law_656 ho' (vp_in_nI (n := 0) (by decide) (by decide)) ?_
    refine og_iload dL_law_657 rfl ?_
    refine og_i2l dL_law_659 rfl ?_
    refine og_lcmp dL_law_660 ?_
    refine og_if_eq (tgt := 666) dL_law_661 (by decide) (fun _ => ?_) (fun z9 => absurd (ob_cmp0 ((hJ hA).trans (by rw [hz hA]; rfl))) z9)
    refine og_goto (tgt := 876) dL_law_666 (by decide) ?_
    refine og_lv (ob_l5 X x m out (nI i)) rfl ?_
    exact IH _ _ _ _ _ _ _ _ _ ⟨hI'.wm hM' hwm, hM2, ho', by omega, by omega⟩
theorem lc_range (IH : ob_Lo X R Q x m mt mr mb mk mv out me mu i r) (hZ : ob_Z R T V B x m mt mr mb mk mv out me mu cap thr S k n (r + 1)) (hR : 48 ≤ R.frames ∧ 3600 ≤ R.locals) (hi : i + 3 < sc_L X) (hL : sc_L X ≤ 2050) : ob_G X mL_law R Q 669 (ob_l5 X x m out (nI i)) [] (T, V, B, J) k n := by
  obtain ⟨hI, hM, ho, hk, hn⟩ := hZ
  have hp := ob_ph_le hI
  have x1 := hI.Tx
  refine og_aload_n dL_law_669 rfl rfl ?_
  refine og_aload_n dL_law_670 rfl rfl ?_
  refine og_callSW (st := []) dL_law_671 kwL_107 (cl_range hI ho) rfl rfl ⟨by omega, by show 8 + (3 + 11) + 60 * 9 ≤ R.locals; omega⟩ (by omega) (by omega) (by decide) ?_
  rintro v w9 ⟨T', V', B', J', rfl, hw, hI', hv, hJ, h2⟩
  cases hv
  have hM' := hM.ext hw.1 hw.2
  have ho' : T' out = some (9, 1) := hw.1 _ _ ho
  refine og_istore dL_law_674 (by decide) ?_
  refine og_aload_n dL_law_676 rfl rfl ?_
  refine og_callVn (st := []) dL_law_677 kvL_109 (cm_range hM' hI.ok) rfl hM'.1.1.1 rfl rfl ⟨by omega, by show 8 + (_ + 11) + 60 * 4 ≤ R.locals; exact Nat.le_trans (by decide) hR.2⟩ (by omega) (by omega) (Nat.le_of_ble_eq_true rfl) rfl (fun E w9 h9 => by obtain ⟨_, _, _, _, _, _, h9, _⟩ := h9; cases h9) ?_
  rintro v w9 ⟨V2, B2, z, rfl, hM2, hwm, hv, hz⟩
  cases hv
  refine og_istore dL_law_680 (by decide) ?_
  refine og_aload_n dL_law_682 rfl rfl ?_
  refine og_callVe (st := []) dL_law_683 kvL_77 (cm_thrown hM2.1.1.1 hM2.2.2.1) rfl hM2.1.1.1 rfl rfl ⟨by omega, by show 8 + (_ + 11) + 60 * 0 ≤ R.locals; exact Nat.le_trans (by decide) hR.2⟩ (by omega) (by omega) (Nat.le_of_ble_eq_true rfl) rfl ?_
  refine og_iload dL_law_686 rfl ?_
  refine og_icmp_eq (tgt := 693) dL_law_688 (by decide) (fun _ => ?_) (fun z9 => absurd (rfl) z9)
  refine og_iload dL_law_693 rfl ?_
  refine og_if_ne (tgt := 710) dL_law_695 (by decide) (fun hc => ?_) (fun hc => ?_)
  · refine og_goto (tgt := 876) dL_law_710 (by decide) ?_
    refine og_lv (ob_l5 X x m out (nI i)) rfl ?_
    exact IH _ _ _ _ _ _ _ _ _ ⟨hI'.wm hM' hwm, hM2, ho', by omega, by omega⟩
  · have hA := ob_nI0 h2 hc
    refine og_aload_n dL_law_698 rfl rfl ?_
    refine og_iconst (v := 0) dL_law_699 (by decide) ?_
    refine og_lald dL_law_700 ho' (vp_in_nI (n := 0) (by decide) (by decide)) ?_
    refine og_iload dL_law_701 rfl ?_
    refine og_i2l dL_law_703 rfl ?_
    refine og_lcmp dL_law_704 ?_
    refine og_if_eq (tgt := 710) dL_law_705 (by decide) (fun _ => ?_) (fun z9 => absurd (ob_cmp0 ((hJ hA).trans (by rw [hz hA]; rfl))) z9)
    refine og_goto (tgt := 876) dL_law_710 (by decide) ?_
    refine og_lv (ob_l5 X x m out (nI i)) rfl ?_
    exact IH _ _ _ _ _ _ _ _ _ ⟨hI'.wm hM' hwm, hM2, ho', by omega, by omega⟩
theorem lc_removeFrom (IH : ob_Lo X R Q x m mt mr mb mk mv out me mu i r) (hZ : ob_Z R T V B x m mt mr mb mk mv out me mu cap thr S k n (r + 1)) (hR : 48 ≤ R.frames ∧ 3600 ≤ R.locals) (hi : i + 3 < sc_L X) (hL : sc_L X ≤ 2050) : ob_G X mL_law R Q 713 (ob_l5 X x m out (nI i)) [] (T, V, B, J) k n := by
  obtain ⟨hI, hM, ho, hk, hn⟩ := hZ
  have hp := ob_ph_le hI
  have x1 := hI.Tx
  refine og_aload_n dL_law_713 rfl rfl ?_
  refine og_aload_n dL_law_714 rfl rfl ?_
  refine og_iload dL_law_715 rfl ?_
  refine og_iconst (v := 1) dL_law_717 (by decide) ?_
  refine og_iadd dL_law_718 ?_
  refine og_saldz (j := i + 1) dL_law_719 (by rw [← nI_add]; rfl) (by omega) hL ?_
  refine og_aload_n dL_law_720 rfl rfl ?_
  refine og_callSW (st := []) dL_law_721 kwL_110 (cl_removeFrom hI ho) rfl rfl ⟨by omega, by show 8 + (4 + 11) + 60 * 9 ≤ R.locals; omega⟩ (by omega) (by omega) (by decide) ?_
  rintro v w9 ⟨T', V', B', J', rfl, hw, hI', hv, hJ, h2⟩
  cases hv
  have hM' := hM.ext hw.1 hw.2
  have ho' : T' out = some (9, 1) := hw.1 _ _ ho
  refine og_istore dL_law_724 (by decide) ?_
  refine og_aload_n dL_law_726 rfl rfl ?_
  refine og_aload_n dL_law_727 rfl rfl ?_
  refine og_iload dL_law_728 rfl ?_
  refine og_iconst (v := 1) dL_law_730 (by decide) ?_
  refine og_iadd dL_law_731 ?_
  refine og_saldz (j := i + 1) dL_law_732 (by rw [← nI_add]; rfl) (by omega) hL ?_
  refine og_callVn (st := []) dL_law_733 kvL_112 (cm_removeFrom hM' hI.ok) rfl hM'.1.1.1 rfl rfl ⟨by omega, by show 8 + (_ + 11) + 60 * 4 ≤ R.locals; exact Nat.le_trans (by decide) hR.2⟩ (by omega) (by omega) (Nat.le_of_ble_eq_true rfl) rfl (fun E w9 h9 => by obtain ⟨_, _, _, _, _, _, h9, _⟩ := h9; cases h9) ?_
  rintro v w9 ⟨V2, B2, z, rfl, hM2, hwm, hv, hz⟩
  cases hv
  refine og_istore dL_law_736 (by decide) ?_
  refine og_aload_n dL_law_738 rfl rfl ?_
  refine og_callVe (st := []) dL_law_739 kvL_77 (cm_thrown hM2.1.1.1 hM2.2.2.1) rfl hM2.1.1.1 rfl rfl ⟨by omega, by show 8 + (_ + 11) + 60 * 0 ≤ R.locals; exact Nat.le_trans (by decide) hR.2⟩ (by omega) (by omega) (Nat.le_of_ble_eq_true rfl) rfl ?_
  refine og_iload dL_law_742 rfl ?_
  refine og_icmp_eq (tgt := 749) dL_law_744 (by decide) (fun _ => ?_) (fun z9 => absurd (rfl) z9)
  refine og_iload dL_law_749 rfl ?_
  refine og_if_ne (tgt := 766) dL_law_751 (by decide) (fun hc => ?_) (fun hc => ?_)
  · refine og_goto (tgt := 876) dL_law_766 (by decide) ?_
    refine og_lv (ob_l5 X x m out (nI i)) rfl ?_
    exact IH _ _ _ _ _ _ _ _ _ ⟨hI'.wm hM' hwm, hM2, ho', by omega, by omega⟩
  · have hA := ob_nI0 h2 hc
    refine og_aload_n dL_law_754 rfl rfl ?_
    refine og_iconst (v := 0) dL_law_755 (by decide) ?_
    refine og_lald dL_law_756 ho' (vp_in_nI (n := 0) (by decide) (by decide)) ?_
    refine og_iload dL_law_757 rfl ?_
    refine og_i2l dL_law_759 rfl ?_
    refine og_lcmp dL_law_760 ?_
    refine og_if_eq (tgt := 766) dL_law_761 (by decide) (fun _ => ?_) (fun z9 => absurd (ob_cmp0 ((hJ hA).trans (by rw [hz hA]; rfl))) z9)
    refine og_goto (tgt := 876) dL_law_766 (by decide) ?_
    refine og_lv (ob_l5 X x m out (nI i)) rfl ?_
    exact IH _ _ _ _ _ _ _ _ _ ⟨hI'.wm hM' hwm, hM2, ho', by omega, by omega⟩
theorem lc_clear (IH : ob_Lo X R Q x m mt mr mb mk mv out me mu i r) (hZ : ob_Z R T V B x m mt mr mb mk mv out me mu cap thr S k n (r + 1)) (hR : 48 ≤ R.frames ∧ 3600 ≤ R.locals) (hi : i + 3 < sc_L X) (hL : sc_L X ≤ 2050) : ob_G X mL_law R Q 769 (ob_l5 X x m out (nI i)) [] (T, V, B, J) k n := by
  obtain ⟨hI, hM, ho, hk, hn⟩ := hZ
  have hp := ob_ph_le hI
  have x1 := hI.Tx
  refine og_aload_n dL_law_769 rfl rfl ?_
  refine og_callVn (st := []) dL_law_770 kvL_113 (ct_clear hI) rfl x1 rfl rfl ⟨by omega, by show 8 + (_ + 11) + 60 * 8 ≤ R.locals; exact Nat.le_trans (by decide) hR.2⟩ (by omega) (by omega) (Nat.le_of_ble_eq_true rfl) rfl ?_ ?_
  · rintro E w9 ⟨_, _, _, _, _, _, _, ha⟩
    cases ha.1 rfl
  · rintro v w9 ⟨T', V', B', J', rfl, hw, hI', ha⟩
    cases ha.1 rfl
    have hM' := hM.ext hw.1 (fun a c z h1 h2 h3 => ⟨(hw.2 a c z h1 h2 h3).1, (hw.2 a c z h1 h2 h3).2.1⟩)
    refine og_aload_n dL_law_773 rfl rfl ?_
    refine og_callVn (st := [.int (sp_clr S).2.1]) dL_law_774 kvL_116 (cm_clear hM' hI.ok) rfl hM'.1.1.1 rfl rfl ⟨by omega, by show 8 + (_ + 11) + 60 * 4 ≤ R.locals; exact Nat.le_trans (by decide) hR.2⟩ (by omega) (by omega) (Nat.le_of_ble_eq_true rfl) rfl (fun E w9 h9 => by obtain ⟨_, _, _, _, _, _, h9, _⟩ := h9; cases h9) ?_
    rintro v w9 ⟨V2, B2, z, rfl, hM2, hwm, hv, hz⟩
    cases hv
    have ez : z = (sp_clr S).2.1 := hz rfl
    subst ez
    refine og_icmp_eq (tgt := 876) dL_law_777 (by decide) (fun _ => ?_) (fun z9 => absurd (rfl) z9)
    exact IH _ _ _ _ _ _ _ _ _ ⟨hI'.wm hM' hwm, hM2, hw.1 _ _ ho, by omega, by omega⟩
theorem lc_byteAt (IH : ob_Lo X R Q x m mt mr mb mk mv out me mu i r) (hZ : ob_Z R T V B x m mt mr mb mk mv out me mu cap thr S k n (r + 1)) (hR : 48 ≤ R.frames ∧ 3600 ≤ R.locals) (hi : i + 3 < sc_L X) (hL : sc_L X ≤ 2050) : ob_G X mL_law R Q 782 (ob_l5 X x m out (nI i)) [] (T, V, B, J) k n := by
  obtain ⟨hI, hM, ho, hk, hn⟩ := hZ
  have hp := ob_ph_le hI
  have x1 := hI.Tx
  refine og_aload_n dL_law_782 rfl rfl ?_
  refine og_aload_n dL_law_783 rfl rfl ?_
  refine og_iload dL_law_784 rfl ?_
  refine og_iconst (v := 1) dL_law_786 (by decide) ?_
  refine og_iadd dL_law_787 ?_
  refine og_saldz (j := i + 1) dL_law_788 (by rw [← nI_add]; rfl) (by omega) hL ?_
  refine og_aload_n dL_law_789 rfl rfl ?_
  refine og_callSW (st := []) dL_law_790 kwL_117 (cl_byteAt hI ho) rfl rfl ⟨by omega, by show 8 + (4 + 11) + 60 * 9 ≤ R.locals; omega⟩ (by omega) (by omega) (by decide) ?_
  rintro v w9 ⟨T', V', B', J', rfl, hw, hI', hv, hJ, h2⟩
  cases hv
  have hM' := hM.ext hw.1 hw.2
  have ho' : T' out = some (9, 1) := hw.1 _ _ ho
  refine og_istore dL_law_793 (by decide) ?_
  refine og_aload_n dL_law_795 rfl rfl ?_
  refine og_aload_n dL_law_796 rfl rfl ?_
  refine og_iload dL_law_797 rfl ?_
  refine og_iconst (v := 1) dL_law_799 (by decide) ?_
  refine og_iadd dL_law_800 ?_
  refine og_saldz (j := i + 1) dL_law_801 (by rw [← nI_add]; rfl) (by omega) hL ?_
  refine og_callVn (st := []) dL_law_802 kvL_119 (cm_byteAt hM' hI.ok) rfl hM'.1.1.1 rfl rfl ⟨by omega, by show 8 + (_ + 11) + 60 * 4 ≤ R.locals; exact Nat.le_trans (by decide) hR.2⟩ (by omega) (by omega) (Nat.le_of_ble_eq_true rfl) rfl (fun E w9 h9 => by obtain ⟨_, _, _, _, _, _, h9, _⟩ := h9; cases h9) ?_
  rintro v w9 ⟨V2, B2, z, rfl, hM2, hwm, hv, hz⟩
  cases hv
  refine og_istore dL_law_805 (by decide) ?_
  refine og_aload_n dL_law_807 rfl rfl ?_
  refine og_callVe (st := []) dL_law_808 kvL_77 (cm_thrown hM2.1.1.1 hM2.2.2.1) rfl hM2.1.1.1 rfl rfl ⟨by omega, by show 8 + (_ + 11) + 60 * 0 ≤ R.locals; exact Nat.le_trans (by decide) hR.2⟩ (by omega) (by omega) (Nat.le_of_ble_eq_true rfl) rfl ?_
  refine og_iload dL_law_811 rfl ?_
  refine og_icmp_eq (tgt := 818) dL_law_813 (by decide) (fun _ => ?_) (fun z9 => absurd (rfl) z9)
  refine og_iload dL_law_818 rfl ?_
  refine og_if_ne (tgt := 835) dL_law_820 (by decide) (fun hc => ?_) (fun hc => ?_)
  · refine og_goto (tgt := 876) dL_law_835 (by decide) ?_
    refine og_lv (ob_l5 X x m out (nI i)) rfl ?_
    exact IH _ _ _ _ _ _ _ _ _ ⟨hI'.wm hM' hwm, hM2, ho', by omega, by omega⟩
  · have hA := ob_nI0 h2 hc
    refine og_aload_n dL_law_823 rfl rfl ?_
    refine og_iconst (v := 0) dL_law_824 (by decide) ?_
    refine og_lald dL_law_825 ho' (vp_in_nI (n := 0) (by decide) (by decide)) ?_
    refine og_iload dL_law_826 rfl ?_
    refine og_i2l dL_law_828 rfl ?_
    refine og_lcmp dL_law_829 ?_
    refine og_if_eq (tgt := 835) dL_law_830 (by decide) (fun _ => ?_) (fun z9 => absurd (ob_cmp0 ((hJ hA).trans (by rw [hz hA]; rfl))) z9)
    refine og_goto (tgt := 876) dL_law_835 (by decide) ?_
    refine og_lv (ob_l5 X x m out (nI i)) rfl ?_
    exact IH _ _ _ _ _ _ _ _ _ ⟨hI'.wm hM' hwm, hM2, ho', by omega, by omega⟩
theorem lc_count (IH : ob_Lo X R Q x m mt mr mb mk mv out me mu i r) (hZ : ob_Z R T V B x m mt mr mb mk mv out me mu cap thr S k n (r + 1)) (hR : 48 ≤ R.frames ∧ 3600 ≤ R.locals) (hi : i + 3 < sc_L X) (hL : sc_L X ≤ 2050) : ob_G X mL_law R Q 838 (ob_l5 X x m out (nI i)) [] (T, V, B, J) k n := by
  obtain ⟨hI, hM, ho, hk, hn⟩ := hZ
  have hp := ob_ph_le hI
  have x1 := hI.Tx
  refine og_aload_n dL_law_838 rfl rfl ?_
  refine og_aload_n dL_law_839 rfl rfl ?_
  refine og_iload dL_law_840 rfl ?_
  refine og_iconst (v := 1) dL_law_842 (by decide) ?_
  refine og_iadd dL_law_843 ?_
  refine og_saldz (j := i + 1) dL_law_844 (by rw [← nI_add]; rfl) (by omega) hL ?_
  refine og_callVe (st := []) dL_law_845 kvL_120 (ct_count hI) rfl x1 rfl rfl ⟨by omega, by show 8 + (_ + 11) + 60 * 8 ≤ R.locals; exact Nat.le_trans (by decide) hR.2⟩ (by omega) (by omega) (Nat.le_of_ble_eq_true rfl) rfl ?_
  refine og_aload_n dL_law_848 rfl rfl ?_
  refine og_aload_n dL_law_849 rfl rfl ?_
  refine og_iload dL_law_850 rfl ?_
  refine og_iconst (v := 1) dL_law_852 (by decide) ?_
  refine og_iadd dL_law_853 ?_
  refine og_saldz (j := i + 1) dL_law_854 (by rw [← nI_add]; rfl) (by omega) hL ?_
  refine og_callVn (st := [.int (sp_cnt S (sc_v X (i + 1)))]) dL_law_855 kvL_123 (cm_count hM hI.ok) rfl hM.1.1.1 rfl rfl ⟨by omega, by show 8 + (_ + 11) + 60 * 4 ≤ R.locals; exact Nat.le_trans (by decide) hR.2⟩ (by omega) (by omega) (Nat.le_of_ble_eq_true rfl) rfl (fun E w9 h9 => by obtain ⟨_, _, _, _, _, _, h9, _⟩ := h9; cases h9) ?_
  rintro v w9 ⟨V2, B2, z, rfl, hM2, hwm, hv, hz⟩
  cases hv
  have ez := hz rfl
  subst ez
  refine og_icmp_eq (tgt := 876) dL_law_858 (by decide) (fun _ => ?_) (fun z9 => absurd (rfl) z9)
  exact IH _ _ _ _ _ _ _ _ _ ⟨hI.wm hM hwm, hM2, ho, by omega, by omega⟩
theorem lc_sound (IH : ob_Lo X R Q x m mt mr mb mk mv out me mu i r) (hZ : ob_Z R T V B x m mt mr mb mk mv out me mu cap thr S k n (r + 1)) (hR : 48 ≤ R.frames ∧ 3600 ≤ R.locals) (hi : i + 3 < sc_L X) (hL : sc_L X ≤ 2050) : ob_G X mL_law R Q 863 (ob_l5 X x m out (nI i)) [] (T, V, B, J) k n := by
  obtain ⟨hI, hM, ho, hk, hn⟩ := hZ
  have hp := ob_ph_le hI
  have x1 := hI.Tx
  refine og_aload_n dL_law_863 rfl rfl ?_
  refine og_callVe (st := []) dL_law_864 kvL_124 (ct_sound hI) rfl x1 rfl rfl ⟨by omega, by show 8 + (_ + 11) + 60 * 42 ≤ R.locals; exact Nat.le_trans (by decide) hR.2⟩ (by omega) (by omega) (Nat.le_of_ble_eq_true rfl) rfl ?_
  refine og_aload_n dL_law_867 rfl rfl ?_
  refine og_callVn (st := [.int 1]) dL_law_868 kvL_127 (cm_sound hM) rfl hM.1.1.1 rfl rfl ⟨by omega, by show 8 + (_ + 11) + 60 * 4 ≤ R.locals; exact Nat.le_trans (by decide) hR.2⟩ (by omega) (by omega) (Nat.le_of_ble_eq_true rfl) rfl (fun E w9 h9 => by obtain ⟨_, _, _, _, _, _, h9, _⟩ := h9; cases h9) ?_
  rintro v w9 ⟨V2, B2, z, rfl, hM2, hwm, hv, hz⟩
  cases hv
  have ez := hz rfl
  subst ez
  refine og_icmp_eq (tgt := 876) dL_law_871 (by decide) (fun _ => ?_) (fun z9 => absurd (rfl) z9)
  exact IH _ _ _ _ _ _ _ _ _ ⟨hI.wm hM hwm, hM2, ho, by omega, by omega⟩
end LWD
