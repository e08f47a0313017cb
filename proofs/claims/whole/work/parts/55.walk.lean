/-! THE LAW: its loop, its beginning -/
theorem ob_fs5_ok : ∀ j, j < 8 → defaultValue (ob_ty 5 j) = (fun j => if j = 0 ∨ j = 6 ∨ j = 7 then Value.int 0 else .null) j := by
  intro j hj
  match j, hj with
  | 0, _ => rfl
  | 1, _ => rfl
  | 2, _ => rfl
  | 3, _ => rfl
  | 4, _ => rfl
  | 5, _ => rfl
  | 6, _ => rfl
  | 7, _ => rfl
theorem ob_fs6_ok : ∀ j, j < 13 → defaultValue (ob_ty 6 j) = (fun j => if j = 4 ∨ j = 6 ∨ j = 9 ∨ j = 10 ∨ j = 11 then Value.null else .int 0) j := by
  intro j hj
  match j, hj with
  | 0, _ => rfl
  | 1, _ => rfl
  | 2, _ => rfl
  | 3, _ => rfl
  | 4, _ => rfl
  | 5, _ => rfl
  | 6, _ => rfl
  | 7, _ => rfl
  | 8, _ => rfl
  | 9, _ => rfl
  | 10, _ => rfl
  | 11, _ => rfl
  | 12, _ => rfl
theorem lw_gt {i L : Nat} (hi : i ≤ 2054) (hL : L ≤ 2050) : (nI L - 4 < nI i) ↔ L < i + 4 := by
  by_cases h : 4 ≤ L
  · have e : nI L - 4 = nI (L - 4) := nI_sub (a := L) (b := 4) (by omega)
    rw [e]
    constructor
    · intro h9
      rcases Nat.lt_or_ge (L - 4) i with h8 | h8
      · omega
      · have h7 := nI_le h8 (by omega)
        exact absurd h9 (by grind)
    · intro h9
      exact nI_lt (by omega) (by omega)
  · have e : nI L - 4 = -(nI (4 - L)) := by
      have h8 : (4 : Int32) = nI 4 := rfl
      rw [← nI_sub (a := 4) (b := L) (by omega), Int32.neg_sub]
      rfl
    constructor
    · intro _; omega
    · intro _
      rw [e, Int32.lt_iff_toInt_lt, sb_negT (by omega)]
      have h8 := nI_le (a := 0) (b := i) (by omega) (by omega)
      have h7 := Int32.le_iff_toInt_le.mp h8
      have : (nI 0).toInt = 0 := by decide
      omega
theorem lw_and (z : Int32) : ∃ t, t < 16 ∧ z &&& 15 = nI t := by
  refine ⟨(z.toBitVec &&& 15#32).toNat, ?_, ?_⟩
  · rw [BitVec.toNat_and]
    exact Nat.lt_of_le_of_lt Nat.and_le_right (by decide)
  · apply Int32.toBitVec_inj.mp
    show z.toBitVec &&& 15#32 = BitVec.ofNat 32 (z.toBitVec &&& 15#32).toNat
    rw [BitVec.ofNat_toNat, BitVec.setWidth_eq]
section LWL
variable {X : ob_X} {R : Room} {Q : ob_r → ob_w → Prop} {x m mt mr mb mk mv out me mu : Nat}
theorem ob_Z.less {T : ob_T} {V : ob_V} {B : ob_B} {cap thr k n r : Nat} {S : sp_S} (h : ob_Z R T V B x m mt mr mb mk mv out me mu cap thr S k n (r + 1)) : ob_Z R T V B x m mt mr mb mk mv out me mu cap thr S k n r := by
  obtain ⟨h1, h2, h3, h4, h5⟩ := h
  exact ⟨h1, h2, h3, by omega, by omega⟩
theorem ob_Z.fit {T : ob_T} {V : ob_V} {B : ob_B} {cap thr k n r : Nat} {S : sp_S} (h : ob_Z R T V B x m mt mr mb mk mv out me mu cap thr S k n r) : k ≤ R.cells ∧ n ≤ R.slots := by
  have := ob_ph_le h.1
  obtain ⟨h1, h2, h3, h4, h5⟩ := h
  exact ⟨by omega, by omega⟩
theorem lw_switch {T : ob_T} {V : ob_V} {B : ob_B} {J : ob_J} {cap thr k n r i : Nat} {S : sp_S} (IH : ob_Lo X R Q x m mt mr mb mk mv out me mu i r) (hZ : ob_Z R T V B x m mt mr mb mk mv out me mu cap thr S k n (r + 1)) (hR : 48 ≤ R.frames ∧ 3600 ≤ R.locals) (hi : i + 3 < sc_L X) (hL : sc_L X ≤ 2050) : ob_G X mL_law R Q 59 (ob_l5 X x m out (nI i)) [.int (sc_v X i &&& 15)] (T, V, B, J) k n := by
  obtain ⟨t, ht, he⟩ := lw_and (sc_v X i)
  rw [he]
  match t, ht with
  | 0, _ => exact og_tableIn (off := 73) (tgt := 132) dL_law_59 (by decide) (by decide) (by decide) (by decide) (lc_feed IH hZ hR hi hL)
  | 1, _ => exact og_tableIn (off := 173) (tgt := 232) dL_law_59 (by decide) (by decide) (by decide) (by decide) (lc_put IH hZ hR hi hL)
  | 2, _ => exact og_tableIn (off := 236) (tgt := 295) dL_law_59 (by decide) (by decide) (by decide) (by decide) (lc_get IH hZ hR hi hL)
  | 3, _ => exact og_tableIn (off := 280) (tgt := 339) dL_law_59 (by decide) (by decide) (by decide) (by decide) (lc_remove IH hZ hR hi hL)
  | 4, _ => exact og_tableIn (off := 331) (tgt := 390) dL_law_59 (by decide) (by decide) (by decide) (by decide) (lc_seek IH hZ hR hi hL)
  | 5, _ => exact og_tableIn (off := 387) (tgt := 446) dL_law_59 (by decide) (by decide) (by decide) (by decide) (lc_at IH hZ hR hi hL)
  | 6, _ => exact og_tableIn (off := 443) (tgt := 502) dL_law_59 (by decide) (by decide) (by decide) (by decide) (lc_step IH hZ hR hi hL)
  | 7, _ => exact og_tableIn (off := 522) (tgt := 581) dL_law_59 (by decide) (by decide) (by decide) (by decide) (lc_value IH hZ hR hi hL)
  | 8, _ => exact og_tableIn (off := 566) (tgt := 625) dL_law_59 (by decide) (by decide) (by decide) (by decide) (lc_place IH hZ hR hi hL)
  | 9, _ => exact og_tableIn (off := 610) (tgt := 669) dL_law_59 (by decide) (by decide) (by decide) (by decide) (lc_range IH hZ hR hi hL)
  | 10, _ => exact og_tableIn (off := 654) (tgt := 713) dL_law_59 (by decide) (by decide) (by decide) (by decide) (lc_removeFrom IH hZ hR hi hL)
  | 11, _ => exact og_tableIn (off := 710) (tgt := 769) dL_law_59 (by decide) (by decide) (by decide) (by decide) (lc_clear IH hZ hR hi hL)
  | 12, _ => exact og_tableIn (off := 723) (tgt := 782) dL_law_59 (by decide) (by decide) (by decide) (by decide) (lc_byteAt IH hZ hR hi hL)
  | 13, _ => exact og_tableIn (off := 779) (tgt := 838) dL_law_59 (by decide) (by decide) (by decide) (by decide) (lc_count IH hZ hR hi hL)
  | 14, _ => exact og_tableIn (off := 804) (tgt := 863) dL_law_59 (by decide) (by decide) (by decide) (by decide) (lc_sound IH hZ hR hi hL)
  | 15, _ => exact og_tableOut (tgt := 876) dL_law_59 (by decide) (by decide) (IH _ _ _ _ _ _ _ _ _ hZ.less)
  | t + 16, h => exact absurd h (by omega)
theorem lw_loop (hR : 48 ≤ R.frames ∧ 3600 ≤ R.locals) (hL : sc_L X ≤ 2050) (hQ : ∀ w, Q (.inl (some (.int 1))) w) : ∀ (r i : Nat), i ≤ 2054 → sc_L X < i + 4 + 4 * r → ∀ T V B J S cap thr k n, ob_Z R T V B x m mt mr mb mk mv out me mu cap thr S k n r → ob_G X mL_law R Q 43 (ob_l5 X x m out (nI i)) [] (T, V, B, J) k n := by
  intro r
  induction r with
  | zero =>
    intro i hi h4 T V B J S cap thr k n hZ
    refine og_iload dL_law_43 rfl ?_
    refine og_aload_n dL_law_45 rfl rfl ?_
    refine og_slen dL_law_46 ?_
    refine og_iconst (v := 4) dL_law_47 (by decide) ?_
    refine og_isub dL_law_48 ?_
    refine og_icmp_gt (tgt := 882) dL_law_49 (by decide) (fun _ => ?_) (fun z9 => absurd ((lw_gt hi hL).mpr (by omega)) z9)
    refine og_iconst (v := 1) dL_law_882 (by decide) ?_
    exact og_ireturn (ty := .boolean) rfl dL_law_883 rfl hZ.fit.1 hZ.fit.2 (hQ _)
  | succ r ih =>
    intro i hi h4 T V B J S cap thr k n hZ
    refine og_iload dL_law_43 rfl ?_
    refine og_aload_n dL_law_45 rfl rfl ?_
    refine og_slen dL_law_46 ?_
    refine og_iconst (v := 4) dL_law_47 (by decide) ?_
    refine og_isub dL_law_48 ?_
    refine og_icmp_gt (tgt := 882) dL_law_49 (by decide) (fun hc => ?_) (fun hc => ?_)
    · refine og_iconst (v := 1) dL_law_882 (by decide) ?_
      exact og_ireturn (ty := .boolean) rfl dL_law_883 rfl hZ.fit.1 hZ.fit.2 (hQ _)
    · have hc : ¬ sc_L X < i + 4 := fun h9 => hc ((lw_gt hi hL).mpr h9)
      have hc : i + 4 ≤ sc_L X := by omega
      refine og_aload_n dL_law_52 rfl rfl ?_
      refine og_iload dL_law_53 rfl ?_
      refine og_sald (j := i) dL_law_55 (by omega) hL ?_
      refine og_bipush (v := 15) dL_law_56 (by decide) ?_
      refine og_iand dL_law_58 ?_
      refine lw_switch (r := r) ?_ hZ hR (by omega) hL
      intro T V B J S cap thr k n hZ
      refine og_iinc dL_law_876 rfl rfl (by decide) ?_
      refine og_goto (tgt := 43) dL_law_879 (by decide) ?_
      refine og_lv (ob_l5 X x m out (nI (i + 4))) (by rw [← nI_add]; rfl) ?_
      exact ih (i + 4) (by omega) (by omega) _ _ _ _ _ _ _ _ _ hZ
theorem lw_begin (hR : 48 ≤ R.frames ∧ 3600 ≤ R.locals) (hc : 10000 ≤ R.cells) (hs : 1000000 ≤ R.slots) (hL : sc_L X ≤ 2050) (hQ : ∀ w, Q (.inl (some (.int 1))) w) (T : ob_T) (V : ob_V) (B : ob_B) (J : ob_J) : ob_G X mL_law R Q 0 [(0, .ref (sc_A X))] [] (T, V, B, J) 0 0 := by
  refine og_new dL_law_0 kc5 klL_8 kn5 kt5 ob_fs5_ok (by omega) (by omega) (fun x x0 _ => ?_)
  have x0 : T x = none := x0
  obtain ⟨a1, a2⟩ := ob_new_ext (c := 5) (n := 0) x0
  generalize hT1 : ob_new T x 5 0 = T1 at *
  obtain ⟨V1, qV1⟩ : ∃ z, ob_row V x (fun j => if j = 0 ∨ j = 6 ∨ j = 7 then Value.int 0 else .null) = z := ⟨_, rfl⟩
  refine og_w (T1, V1, B, J) (by rw [← qV1]) ?_
  have v5 : V1 x 5 = .null := by rw [← qV1]; simp [ob_row]
  have v6 : V1 x 6 = .int 0 := by rw [← qV1]; simp [ob_row]
  have v7 : V1 x 7 = .int 0 := by rw [← qV1]; simp [ob_row]
  refine og_dup dL_law_3 rfl ?_
  refine og_aload_n dL_law_4 rfl rfl ?_
  refine og_iconst (v := 0) dL_law_5 (by decide) ?_
  refine og_callSe dL_law_6 ksL_59 (cl_cell (j := 0) rfl (by decide) hL) rfl rfl ⟨by omega, by show 8 + (2 + 11) + 60 * 0 ≤ R.locals; omega⟩ (by omega) (by omega) (Nat.le_of_ble_eq_true rfl) rfl ?_
  generalize he9 : (if 0 < sc_L X then sc_v X 0 else 0) = e9
  refine og_aload_n dL_law_9 rfl rfl ?_
  refine og_iconst (v := 1) dL_law_10 (by decide) ?_
  refine og_callSe dL_law_11 ksL_59 (cl_cell (j := 1) rfl (by decide) hL) rfl rfl ⟨by omega, by show 8 + (2 + 11) + 60 * 0 ≤ R.locals; omega⟩ (by omega) (by omega) (Nat.le_of_ble_eq_true rfl) rfl ?_
  generalize hu9 : (if 1 < sc_L X then sc_v X 1 else 0) = u9
  refine og_callIn dL_law_14 kiL_65 (ct_OB a2 v5 v6 v7) rfl rfl ⟨by omega, by show 8 + (_ + 11) + 60 * 8 ≤ R.locals; exact Nat.le_trans (by decide) hR.2⟩ (by omega) (by omega) (Nat.le_of_ble_eq_true rfl) ?_ ?_
  · rintro E w9 ⟨_, _, _, _, h9, _⟩
    cases h9
  rintro v w9 ⟨T2, V2, B2, J2, hv, rfl, hw, hI⟩
  cases hv
  have hx2 := hI.Tx
  refine og_astore_n dL_law_17 (by decide) rfl ?_
  refine og_new dL_law_18 kc6 klL_68 kn6 kt6 ob_fs6_ok (by omega) (by omega) (fun m m0 _ => ?_)
  have m0 : T2 m = none := m0
  obtain ⟨b1, b2⟩ := ob_new_ext (c := 6) (n := 0) m0
  have ne : ∀ y z, T2 y = some z → y ≠ m := fun y z hy e => by rw [e, m0] at hy; cases hy
  generalize hT3 : ob_new T2 m 6 0 = T3 at *
  obtain ⟨V3, qV3⟩ : ∃ z, ob_row V2 m (fun j => if j = 4 ∨ j = 6 ∨ j = 9 ∨ j = 10 ∨ j = 11 then Value.null else .int 0) = z := ⟨_, rfl⟩
  have f3 : ∀ y, y ≠ m → V3 y = V2 y := fun y hy => by rw [← qV3]; simp [ob_row, hy]
  have u0 : V3 m 0 = .int 0 := by rw [← qV3]; simp [ob_row]
  have u3 : V3 m 3 = .int 0 := by rw [← qV3]; simp [ob_row]
  have u5 : V3 m 5 = .int 0 := by rw [← qV3]; simp [ob_row]
  have u7 : V3 m 7 = .int 0 := by rw [← qV3]; simp [ob_row]
  have u8 : V3 m 8 = .int 0 := by rw [← qV3]; simp [ob_row]
  refine og_w (T3, V3, B2, J2) (by rw [← qV3]) ?_
  refine og_dup dL_law_21 rfl ?_
  refine og_aload_n dL_law_22 rfl rfl ?_
  refine og_iconst (v := 0) dL_law_23 (by decide) ?_
  refine og_callSe dL_law_24 ksL_59 (cl_cell (j := 0) rfl (by decide) hL) rfl rfl ⟨by omega, by show 8 + (2 + 11) + 60 * 0 ≤ R.locals; omega⟩ (by omega) (by omega) (Nat.le_of_ble_eq_true rfl) rfl ?_
  rw [he9]
  refine og_aload_n dL_law_27 rfl rfl ?_
  refine og_iconst (v := 1) dL_law_28 (by decide) ?_
  refine og_callSe dL_law_29 ksL_59 (cl_cell (j := 1) rfl (by decide) hL) rfl rfl ⟨by omega, by show 8 + (2 + 11) + 60 * 0 ≤ R.locals; omega⟩ (by omega) (by omega) (Nat.le_of_ble_eq_true rfl) rfl ?_
  rw [hu9]
  refine og_callIn dL_law_32 kiL_70 (cm_init b2 u0 u3 u5 u7 u8) rfl rfl ⟨by omega, by show 8 + (_ + 11) + 60 * 1 ≤ R.locals; exact Nat.le_trans (by decide) hR.2⟩ (by omega) (by omega) (Nat.le_of_ble_eq_true rfl) ?_ ?_
  · rintro E w9 ⟨_, _, _, _, _, _, _, _, _, h9, _⟩
    cases h9
  rintro v w9 ⟨T4, V4, B4, J4, mt, mr, mb, mk, mv, hv, rfl, c1, c2, c3, c4, hM⟩
  cases hv
  have hI4 : ob_I T4 V4 B4 x _ _ _ _ := hI.keep (fun a y h => c1 _ _ (b1 _ _ h)) (fun a c n h _ => ⟨fun j => by rw [c2 a (ne _ _ h) j, f3 a (ne _ _ h)], (c3 a _ (b1 _ _ h)).1⟩)
  generalize min 1024 (max 1 e9.toNatClampNeg) = me at *
  generalize min 4096 (max 1 u9.toNatClampNeg) = mu at *
  refine og_astore_n dL_law_35 (by decide) rfl ?_
  refine og_iconst (v := 1) dL_law_36 (by decide) ?_
  refine og_newa (t := 2) dL_law_37 (Or.inr (Or.inr ⟨rfl, rfl⟩)) kAJ (m0 := 1) rfl (by decide) (by omega) (by omega) (fun out o0 _ => ?_)
  have o0 : T4 out = none := o0
  obtain ⟨d1, d2⟩ := ob_new_ext (c := 9) (n := 1) o0
  have no : ∀ y z, T4 y = some z → y ≠ out := fun y z hy e => by rw [e, o0] at hy; cases hy
  have f5 : ∀ y z, T4 y = some z → ob_row B4 out (fun _ => 0) y = B4 y := fun y z hy => by simp [ob_row, no y z hy]
  generalize hT5 : ob_new T4 out (7 + 2) 1 = T5 at *
  refine og_astore_n dL_law_39 (by decide) rfl ?_
  refine og_iconst (v := 2) dL_law_40 (by decide) ?_
  refine og_istore dL_law_41 (by decide) ?_
  refine og_lv (ob_l5 X x m out (nI 2)) rfl ?_
  refine lw_loop hR hL hQ 512 2 (by omega) (by omega) _ _ _ _ _ _ _ _ _ ⟨hI4.keep d1 (fun a c n h _ => ⟨fun j => rfl, f5 a _ h⟩), hM.ext d1 (fun a c n h _ _ => ⟨fun j => rfl, f5 a _ h⟩), d2, by omega, by omega⟩
end LWL
