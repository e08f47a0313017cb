/-! THE OBJECT'S CALLS: step, value, place, range, byteAt, count -/
theorem ob_set_id {V : ob_V} {a k : Nat} {v : Value} (h : V a k = v) : ob_set V a k v = V := by
  funext b j
  by_cases h9 : b = a ∧ j = k
  · rw [h9.1, h9.2, ob_set_s, h]
  · exact if_neg h9
theorem ob_WX.rf {T : ob_T} {V : ob_V} {B : ob_B} {J : ob_J} : ob_WX T V B J T V B J := ⟨fun _ _ h => h, fun _ _ _ _ _ _ => ⟨fun _ => rfl, rfl, rfl⟩⟩
section OCH
variable {X : ob_X} {T : ob_T} {V V' : ob_V} {B B' : ob_B} {J : ob_J} {R : Room} {Q : ob_r → ob_w → Prop} {k n : Nat} {x me mu hp edge hb t nl tp tb rs rr cap N : Nat} {l : List ob_bk} {tt tt' : ob_t} {K : ob_k} {S : sp_S}
theorem ob_Y.cur {c : Nat} (hy : ob_Y V B x tp tb rs rr tt K S) (hc : S.2.1 = some c) : ∃ a, (ob_ads tt)[c]? = some a ∧ V x 5 = .ref a ∧ c < (ob_ads tt).length := by
  obtain ⟨y1, y2, y3, -⟩ := hy
  have hl := y3 c hc
  rw [y1, List.length_map] at hl
  refine ⟨(ob_ads tt)[c], List.getElem?_eq_getElem hl, ?_, hl⟩
  rw [y2, hc]
  simp [List.getElem?_eq_getElem hl, va_rf]
theorem ct_step {back : Bool} (hI : ob_I T V B x me mu cap S) : ob_C X mX5_step 8 3 20 [.ref x, ob_cv back] (T, V, B, J) (ob_qx T V B J x me mu cap ob_IS ob_IS (sp_step S back)) := by
  obtain ⟨hp, edge, hb, t, nl, tp, tb, rs, rr, N, l, tt, K, h, hy⟩ := hI
  refine ob_C_of (by decide) rfl (Nat.le_of_ble_eq_true rfl) ?_
  obtain ⟨⟨x1, x2, x3, x4, x5, x6, x7, x8⟩, hs, ⟨t1, t2, t3, t4, t5⟩, en, ⟨r1, r2, r3, r4, r5, r6, r7, r8, r9, r10, r11⟩, n1, n2, n3⟩ := id h
  obtain ⟨y1, y2, y3, ⟨y4, y5, y6⟩, y7, y8, y9⟩ := id hy
  have tT := t1.1
  refine og_lv [(0, .ref x), (1, ob_cv back)] rfl ?_
  refine og_aload_n dX5_step_0 rfl rfl ?_
  cases hc : S.2.1 with
  | none =>
    have e : sp_step S back = (1, 0, S) := by simp only [sp_step, hc]
    rw [e]
    refine og_callVx dX5_step_1 kvX5_134 (ct_cpN x1 (by rw [y2, hc]; rfl)) rfl x1 rfl rfl ⟨by decide, by decide⟩ (by decide) (by decide) (Nat.le_of_ble_eq_true rfl) rfl (fun E w' h9 => ?_) (fun v w' h9 => by cases h9.2)
    obtain ⟨rfl, h9⟩ := h9
    cases h9
    exact ⟨_, _, _, _, rfl, ob_WX.rf, ⟨_, _, _, _, _, _, _, _, _, _, _, _, _, h, hy⟩, ob_an1⟩
  | some c =>
    obtain ⟨a, hca, hxa, hcl⟩ := hy.cur hc
    refine og_callVe dX5_step_1 kvX5_134 (ct_cp x1 x4 t1 hxa hca) rfl x1 rfl rfl ⟨by decide, by decide⟩ (by decide) (by decide) (Nat.le_of_ble_eq_true rfl) rfl ?_
    have hlen := h.len
    have none9 : ∀ lv, ob_get lv 3 = some .null → sp_step S back = (0, 0, S) → ob_G X mX5_step (ob_rm 8 3 20) (ob_qx T V B J x me mu cap ob_IS ob_IS (sp_step S back)) 26 lv [] (T, V, B, J) 1 6 := by
      intro lv hlv e
      rw [e]
      refine og_lv [(3, .null)] (by simp [hlv, ob_get]) ?_
      refine og_aload_n dX5_step_26 rfl rfl ?_
      refine og_ifnullN (tgt := 36) dX5_step_27 (by decide) ?_
      refine og_aload_n dX5_step_36 rfl rfl ?_
      refine og_ifnullN (tgt := 44) dX5_step_37 (by decide) ?_
      refine og_iconst (v := 0) dX5_step_44 (by decide) ?_
      exact og_ireturn (ty := .boolean) rfl dX5_step_45 rfl (by decide) (by decide) ⟨_, _, _, _, rfl, ob_WX.rf, ⟨_, _, _, _, _, _, _, _, _, _, _, _, _, h, hy⟩, ob_an0 rfl⟩
    have tail : ∀ (i : Nat), sp_step S back = (if i < S.1.length then (0, 1, sp_tell S i false) else (0, 0, S)) → ob_G X mX5_step (ob_rm 8 3 20) (ob_qx T V B J x me mu cap ob_IS ob_IS (sp_step S back)) 25 [(0, .ref x)] [va_rf (ob_ads tt)[i]?] (T, V, B, J) 1 6 := by
      intro i e
      cases ha : (ob_ads tt)[i]? with
      | none =>
        have hni := List.getElem?_eq_none_iff.mp ha
        refine og_astore_n dX5_step_25 (by decide) rfl ?_
        exact none9 _ rfl (by rw [e]; exact if_neg (by rw [y1, List.length_map]; omega))
      | some a =>
        have hil := (List.getElem?_eq_some_iff.mp ha).1
        rw [if_pos (by rw [y1, List.length_map]; exact hil)] at e
        rw [e]
        refine og_astore_n dX5_step_25 (by decide) rfl ?_
        refine og_aload_n dX5_step_26 rfl rfl ?_
        refine og_ifnull dX5_step_27 ?_
        refine og_aload_n dX5_step_30 rfl rfl ?_
        refine og_aload_n dX5_step_31 rfl rfl ?_
        refine og_callVn dX5_step_32 kvX5_126 (ct_goTo h (List.mem_of_getElem? ha)) rfl x1 rfl rfl ⟨by decide, by decide⟩ (by decide) (by decide) (Nat.le_of_ble_eq_true rfl) rfl (fun E w' h9 => by cases h9.1) (fun v w' h9 => ?_)
        obtain ⟨hv, B1, rfl, b1, b2⟩ := h9
        cases hv
        obtain ⟨h3, hy3, e3⟩ := hy.tell (v := false) h ha b1 b2
        refine og_pop dX5_step_35 rfl ?_
        refine og_aload_n dX5_step_36 rfl rfl ?_
        refine og_ifnull dX5_step_37 ?_
        refine og_iconst (v := 1) dX5_step_40 (by decide) ?_
        refine og_goto (tgt := 45) dX5_step_41 (by decide) ?_
        exact og_ireturn (ty := .boolean) rfl dX5_step_45 rfl (by decide) (by decide) ⟨_, _, _, _, rfl, h.wx ((ob_sc_x _).tr (ob_sc_rs _ b1)), ⟨_, _, _, _, _, _, _, _, _, _, _, _, _, h3, hy3⟩, ob_an0 rfl⟩
    cases back with
    | true =>
      have e : sp_step S true = (match sp_pre c with | none => (0, 0, S) | some i => if i < S.1.length then (0, 1, sp_tell S i false) else (0, 0, S)) := by simp only [sp_step, hc]; rfl
      refine og_istore_n dX5_step_4 (by decide) ?_
      refine og_aload_n dX5_step_5 rfl rfl ?_
      refine og_getf dX5_step_6 kfX5_31 (by assumption) (by assumption) ?_
      refine og_iload_n (x := 1) dX5_step_9 rfl ?_
      refine og_if_eq (tgt := 19) dX5_step_10 (by decide) (fun z9 => absurd z9 (by decide)) (fun _ => ?_)
      refine og_iload_n dX5_step_13 rfl ?_
      refine og_iconst (v := 1) dX5_step_14 (by decide) ?_
      refine og_isub dX5_step_15 ?_
      refine og_goto (tgt := 22) dX5_step_16 (by decide) ?_
      by_cases hc0 : c = 0
      · subst hc0
        refine og_st [.int (-1), .ref t] rfl ?_
        refine og_callVe dX5_step_22 kvX5_122 (ct_pickN t1 (by decide)) rfl tT rfl rfl ⟨by decide, by decide⟩ (by decide) (by decide) (Nat.le_of_ble_eq_true rfl) rfl ?_
        refine og_astore_n dX5_step_25 (by decide) rfl ?_
        exact none9 _ rfl e
      · refine og_st [.int (nI (c - 1)), .ref t] (by rw [show (1 : Int32) = nI 1 from rfl, nI_sub (by omega)]; rfl) ?_
        refine og_callVe dX5_step_22 kvX5_122 (ob_pickO h (by omega)) rfl tT rfl rfl ⟨by decide, by decide⟩ (by decide) (by decide) (Nat.le_of_ble_eq_true rfl) rfl ?_
        refine og_lv [(0, .ref x)] rfl ?_
        exact tail (c - 1) (by rw [e]; simp only [sp_pre, if_neg hc0])
    | false =>
      have e : sp_step S false = (if c + 1 < S.1.length then (0, 1, sp_tell S (c + 1) false) else (0, 0, S)) := by simp only [sp_step, hc]; rfl
      refine og_istore_n dX5_step_4 (by decide) ?_
      refine og_aload_n dX5_step_5 rfl rfl ?_
      refine og_getf dX5_step_6 kfX5_31 (by assumption) (by assumption) ?_
      refine og_iload_n (x := 0) dX5_step_9 rfl ?_
      refine og_if_eq (tgt := 19) dX5_step_10 (by decide) (fun _ => ?_) (fun z9 => absurd (rfl) z9)
      refine og_iload_n dX5_step_19 rfl ?_
      refine og_iconst (v := 1) dX5_step_20 (by decide) ?_
      refine og_iadd dX5_step_21 ?_
      refine og_st [.int (nI (c + 1)), .ref t] (by rw [nI_1]; rfl) ?_
      refine og_callVe dX5_step_22 kvX5_122 (ob_pickO h (by omega)) rfl tT rfl rfl ⟨by decide, by decide⟩ (by decide) (by decide) (Nat.le_of_ble_eq_true rfl) rfl ?_
      refine og_lv [(0, .ref x)] rfl ?_
      exact tail (c + 1) e
theorem ct_value (hI : ob_I T V B x me mu cap S) : ob_C X mX5_value 8 3 20 [.ref x] (T, V, B, J) (ob_qx T V B J x me mu cap ob_IS ob_IS (sp_val S)) := by
  obtain ⟨hp, edge, hb, t, nl, tp, tb, rs, rr, N, l, tt, K, h, hy⟩ := hI
  refine ob_C_of (by decide) rfl (Nat.le_of_ble_eq_true rfl) ?_
  have x1 := h.1.1
  cases hc : S.2.1 with
  | none =>
    have e : sp_val S = (1, 0, S) := by simp only [sp_val, hc]
    rw [e]
    have y2 : V x 5 = .null := by rw [hy.2.1, hc]; rfl
    refine og_aload_n dX5_value_0 rfl rfl ?_
    refine og_getf dX5_value_1 kfX5_92 (by assumption) (by assumption) ?_
    refine og_ifnonnullN dX5_value_4 ?_
    exact og_thr ⟨dX5_value_7, dX5_value_10, dX5_value_11, dX5_value_13, dX5_value_16⟩ rfl klX5_55 ktIS (text := "no entry is current") (by decide) rfl (by decide) (by decide) (by decide) (by decide) ⟨_, _, _, _, rfl, ob_WX.rf, ⟨_, _, _, _, _, _, _, _, _, _, _, _, _, h, hy⟩, ob_an1⟩
  | some c =>
    obtain ⟨a, hca, hxa, hcl⟩ := hy.cur hc
    have e : sp_val S = (0, nI (sp_tell S c true).2.2.2.length, sp_tell S c true) := by simp only [sp_val, hc]
    rw [e]
    refine og_aload_n dX5_value_0 rfl rfl ?_
    refine og_getf dX5_value_1 kfX5_92 (by assumption) (by assumption) ?_
    refine og_ifnonnull (tgt := 17) dX5_value_4 (by decide) ?_
    refine og_aload_n dX5_value_17 rfl rfl ?_
    refine og_aload_n dX5_value_18 rfl rfl ?_
    refine og_getf dX5_value_19 kfX5_92 (by assumption) (by assumption) ?_
    refine og_callVn dX5_value_22 kvX5_108 (ct_showValue h (List.mem_of_getElem? hca)) rfl x1 rfl rfl ⟨by decide, by decide⟩ (by decide) (by decide) (Nat.le_of_ble_eq_true rfl) rfl (fun E w' h9 => by cases h9.1) (fun v w' h9 => ?_)
    obtain ⟨hv, B1, rfl, b1, b2⟩ := h9
    cases hv
    obtain ⟨h3, hy3, e3⟩ := hy.tell (v := true) h hca b1 b2
    rw [ob_set_id hxa] at h3 hy3
    exact og_ireturn (ty := .int) rfl dX5_value_25 rfl (by decide) (by decide) ⟨_, _, _, _, rfl, h.wx (ob_sc_rs _ b1), ⟨_, _, _, _, _, _, _, _, _, _, _, _, _, h3, hy3⟩, ob_an0 (by rw [e3]; rfl)⟩
theorem ct_place (hI : ob_I T V B x me mu cap S) : ob_C X mX5_place 8 3 20 [.ref x] (T, V, B, J) (ob_qx T V B J x me mu cap ob_IS ob_IS (sp_plc S)) := by
  obtain ⟨hp, edge, hb, t, nl, tp, tb, rs, rr, N, l, tt, K, h, hy⟩ := hI
  refine ob_C_of (by decide) rfl (Nat.le_of_ble_eq_true rfl) ?_
  have x1 := h.1.1
  have x4 := h.1.2.2.2.1
  refine og_aload_n dX5_place_0 rfl rfl ?_
  cases hc : S.2.1 with
  | none =>
    have e : sp_plc S = (1, 0, S) := by simp only [sp_plc, hc]
    rw [e]
    refine og_callVx dX5_place_1 kvX5_134 (ct_cpN x1 (by rw [hy.2.1, hc]; rfl)) rfl x1 rfl rfl ⟨by decide, by decide⟩ (by decide) (by decide) (Nat.le_of_ble_eq_true rfl) rfl (fun E w' h9 => ?_) (fun v w' h9 => by cases h9.2)
    obtain ⟨rfl, h9⟩ := h9
    cases h9
    exact ⟨_, _, _, _, rfl, ob_WX.rf, ⟨_, _, _, _, _, _, _, _, _, _, _, _, _, h, hy⟩, ob_an1⟩
  | some c =>
    obtain ⟨a, hca, hxa, hcl⟩ := hy.cur hc
    have e : sp_plc S = (0, nI c, S) := by simp only [sp_plc, hc]
    rw [e]
    refine og_callVe dX5_place_1 kvX5_134 (ct_cp x1 x4 h.2.2.1.1 hxa hca) rfl x1 rfl rfl ⟨by decide, by decide⟩ (by decide) (by decide) (Nat.le_of_ble_eq_true rfl) rfl ?_
    exact og_ireturn (ty := .int) rfl dX5_place_4 rfl (by decide) (by decide) ⟨_, _, _, _, rfl, ob_WX.rf, ⟨_, _, _, _, _, _, _, _, _, _, _, _, _, h, hy⟩, ob_an0 rfl⟩
theorem nI_max0 {a b : Nat} (ha : a < 2 ^ 30) (hb : b < 2 ^ 30) : (if (0 : Int32) < nI a - nI b then nI a - nI b else 0) = nI (a - b) := by
  by_cases h : b < a
  · have h9 : (0 : Int32) < nI (a - b) := nI_lt (a := 0) (b := a - b) (by omega) (by omega)
    rw [nI_sub (by omega), if_pos h9]
  · rw [if_neg ?_, show a - b = 0 by omega]
    · rfl
    · intro h9
      have h8 : nI a - nI b = -(nI (b - a)) := by rw [← nI_sub (by omega), Int32.neg_sub]
      rw [h8] at h9
      have h7 := Int32.lt_iff_toInt_lt.mp h9
      rw [sb_negT (by omega)] at h7
      have : (0 : Int32).toInt = 0 := by decide
      omega
theorem ct_range (hI : ob_I T V B x me mu cap S) : ob_C X mX5_range 8 3 20 [.ref x] (T, V, B, J) (ob_qx T V B J x me mu cap ob_IA ob_IS (sp_rng S)) := by
  obtain ⟨hp, edge, hb, t, nl, tp, tb, rs, rr, N, l, tt, K, h, hy⟩ := hI
  refine ob_C_of (by decide) rfl (Nat.le_of_ble_eq_true rfl) ?_
  obtain ⟨⟨x1, x2, x3, x4, x5, x6, x7, x8⟩, hs, ⟨t1, t2, t3, t4, t5⟩, en, ⟨r1, r2, r3, r4, r5, r6, r7, r8, r9, r10, r11⟩, n1, n2, n3⟩ := id h
  obtain ⟨y1, y2, y3, ⟨y4, y5, y6⟩, y7, y8, y9⟩ := id hy
  have tT := t1.1
  refine og_lv [(0, .ref x)] rfl ?_
  refine og_aload_n dX5_range_0 rfl rfl ?_
  obtain ⟨h1, hy1⟩ := hy.read h
  refine og_callVe dX5_range_1 kvX5_64 (ct_readTape x1 x5 r1 y4) rfl x1 rfl rfl ⟨by decide, by decide⟩ (by decide) (by decide) (Nat.le_of_ble_eq_true rfl) rfl ?_
  refine og_istore_n dX5_range_4 (by decide) ?_
  refine og_iload_n dX5_range_5 rfl ?_
  refine og_bipush (v := 64) dX5_range_6 (by decide) ?_
  have hlen := h.len
  refine og_icmp_le (tgt := 21) dX5_range_8 (by decide) (fun c1 => ?_) (fun c1 => ?_)
  rotate_left
  · have h64 : 64 < S.2.2.1.length := by
      rcases Nat.lt_or_ge 64 S.2.2.1.length with h9 | h9
      · exact h9
      · exact absurd (nI_le (b := 64) h9 (by omega)) c1
    rw [show sp_rng S = (1, 0, sp_0 S) from if_pos h64]
    exact og_thr ⟨dX5_range_11, dX5_range_14, dX5_range_15, dX5_range_17, dX5_range_20⟩ rfl klX5_45 ktIA (text := "longer than a key") (by decide) rfl (by decide) (by decide) (by decide) (by decide) ⟨_, _, _, _, rfl, h.wx (ob_sc_tp _), ⟨_, _, _, _, _, _, _, _, _, _, _, _, _, h1, hy1⟩, ob_an1⟩
  have h64 : ¬ 64 < S.2.2.1.length := by have := (nI_leI (b := 64) (by omega) (by omega)).mp c1; omega
  have x4' : ob_set V tp 1 (.int 0) x 2 = .ref t := h1.1.2.2.2.1
  have x5' : ob_set V tp 1 (.int 0) x 3 = .ref tp := h1.1.2.2.2.2.1
  refine og_aload_n dX5_range_21 rfl rfl ?_
  cases hc : S.2.1 with
  | none =>
    have e : sp_rng S = (2, 0, sp_0 S) := by simp only [sp_rng, hc, if_neg h64]
    rw [e]
    refine og_callVx dX5_range_22 kvX5_134 (ct_cpN x1 (by rw [hy1.2.1]; show va_rf (S.2.1.bind _) = _; rw [hc]; rfl)) rfl x1 rfl rfl ⟨by decide, by decide⟩ (by decide) (by decide) (Nat.le_of_ble_eq_true rfl) rfl (fun E w' h9 => ?_) (fun v w' h9 => by cases h9.2)
    obtain ⟨rfl, h9⟩ := h9
    cases h9
    exact ⟨_, _, _, _, rfl, h.wx (ob_sc_tp _), ⟨_, _, _, _, _, _, _, _, _, _, _, _, _, h1, hy1⟩, ob_an2⟩
  | some c =>
    obtain ⟨a, hca, hxa, hcl⟩ := hy1.cur (c := c) hc
    have e : sp_rng S = (0, nI ((if S.2.2.1.length = 0 then S.1.length else sp_bl S.1 S.2.2.1 false) - c), sp_0 S) := by simp only [sp_rng, hc, if_neg h64]
    rw [e]
    refine og_callVe dX5_range_22 kvX5_134 (ct_cp x1 x4' h1.2.2.1.1 hxa hca) rfl x1 rfl rfl ⟨by decide, by decide⟩ (by decide) (by decide) (Nat.le_of_ble_eq_true rfl) rfl ?_
    have fin : ∀ (z : Nat), z ≤ 1024 → z = (if S.2.2.1.length = 0 then S.1.length else sp_bl S.1 S.2.2.1 false) → ob_G X mX5_range (ob_rm 8 3 20) (ob_qx T V B J x me mu cap ob_IA ob_IS (0, nI ((if S.2.2.1.length = 0 then S.1.length else sp_bl S.1 S.2.2.1 false) - c), sp_0 S)) 53 [(2, .int (nI c))] [.int (nI z)] (T, ob_set V tp 1 (.int 0), B, J) 1 6 := by
      intro z hz ez
      rw [← ez]
      refine og_istore_n dX5_range_53 (by decide) ?_
      refine og_iconst (v := 0) dX5_range_54 (by decide) ?_
      refine og_iload_n dX5_range_55 rfl ?_
      refine og_iload_n dX5_range_56 rfl ?_
      refine og_isub dX5_range_57 ?_
      refine og_mmax dX5_range_58 kMmaxX5_144 (by decide) (by decide) (by decide) (by decide) kMmaxs kMi kMmaxc ?_
      refine og_st [.int (nI (z - c))] (by rw [nI_max0 (by omega) (by omega)]) ?_
      exact og_ireturn (ty := .int) rfl dX5_range_61 rfl (by decide) (by decide) ⟨_, _, _, _, rfl, h.wx (ob_sc_tp _), ⟨_, _, _, _, _, _, _, _, _, _, _, _, _, h1, hy1⟩, ob_an0 rfl⟩
    by_cases h0 : S.2.2.1.length = 0
    · obtain ⟨q1, q7, q6⟩ := h1.2.2.1.1.2.2.2.2.2.1.top h1.2.2.1.1.2.2.2.1
      refine og_istore_n dX5_range_25 (by decide) ?_
      refine og_iload_n dX5_range_26 rfl ?_
      refine og_if_ne (tgt := 40) dX5_range_27 (by decide) (fun z9 => absurd (by rw [h0]; rfl) z9) (fun _ => ?_)
      refine og_aload_n dX5_range_30 rfl rfl ?_
      refine og_getf dX5_range_31 kfX5_31 (by assumption) (by assumption) ?_
      refine og_callVe dX5_range_34 kvX5_141 (ct_size tT h1.2.2.1.1.2.2.1 q1 q7) rfl tT rfl rfl ⟨by decide, by decide⟩ (by decide) (by decide) (Nat.le_of_ble_eq_true rfl) rfl ?_
      refine og_goto (tgt := 53) dX5_range_37 (by decide) ?_
      refine og_lv [(2, .int (nI c))] rfl ?_
      exact fin (ob_siz tt) (by rw [ob_siz_len]; exact hlen) (by rw [if_pos h0, y1, List.length_map, ob_siz_len])
    · refine og_istore_n dX5_range_25 (by decide) ?_
      refine og_iload_n dX5_range_26 rfl ?_
      refine og_if_ne (tgt := 40) dX5_range_27 (by decide) (fun _ => ?_) (fun z9 => absurd z9 (nI_ne0 (by omega) (by omega)))
      refine og_aload_n dX5_range_40 rfl rfl ?_
      refine og_getf dX5_range_41 kfX5_31 (by assumption) (by assumption) ?_
      refine og_aload_n dX5_range_44 rfl rfl ?_
      refine og_getf dX5_range_45 kfX5_38 (by assumption) (by assumption) ?_
      refine og_iload_n dX5_range_48 rfl ?_
      refine og_iconst (v := 0) dX5_range_49 (by decide) ?_
      refine og_callVe dX5_range_50 kvX5_118 (ct_keysBelow (s := false) h1.2.2.1.1 h1.2.2.1.2.1 h1.hbp r1 h1.2.2.2.2.1.2.1 r3 y5 (by omega) y6 h1.ns t5) rfl tT rfl rfl ⟨by decide, by decide⟩ (by decide) (by decide) (Nat.le_of_ble_eq_true rfl) rfl ?_
      rw [sp_bl_of, ← y1]
      refine og_lv [(2, .int (nI c))] rfl ?_
      exact fin _ (by have := sp_bl_le S.1 S.2.2.1 false; rw [y1, List.length_map] at this; rw [y1]; omega) (by rw [if_neg h0])
theorem ct_byteAt {i : Int32} (hI : ob_I T V B x me mu cap S) : ob_C X mX5_byteAt 8 3 20 [.ref x, .int i] (T, V, B, J) (ob_qx T V B J x me mu cap ob_IO ob_IO (sp_byt S i)) := by
  obtain ⟨hp, edge, hb, t, nl, tp, tb, rs, rr, N, l, tt, K, h, hy⟩ := hI
  refine ob_C_of (by decide) rfl (Nat.le_of_ble_eq_true rfl) ?_
  obtain ⟨⟨x1, x2, x3, x4, x5, x6, x7, x8⟩, hs, ⟨t1, t2, t3, t4, t5⟩, en, ⟨r1, r2, r3, r4, r5, r6, r7, r8, r9, r10, r11⟩, n1, n2, n3⟩ := id h
  obtain ⟨y1, y2, y3, ⟨y4, y5, y6⟩, y7, y8, y9⟩ := id hy
  refine og_lv [(0, .ref x), (1, .int i)] rfl ?_
  have bad : ∀ (lv : List (Nat × Value)), ¬ (0 ≤ i ∧ i.toNatClampNeg < S.2.2.2.length) → ob_G X mX5_byteAt (ob_rm 8 3 20) (ob_qx T V B J x me mu cap ob_IO ob_IO (sp_byt S i)) 15 lv [] (T, V, B, J) 0 0 := by
    intro lv e
    rw [show sp_byt S i = (1, 0, S) from if_neg e]
    exact og_thr ⟨dX5_byteAt_15, dX5_byteAt_18, dX5_byteAt_19, dX5_byteAt_21, dX5_byteAt_24⟩ rfl klX5_129 ktIO (text := "no such byte in the result") (by decide) rfl (by decide) (by decide) (by decide) (by decide) ⟨_, _, _, _, rfl, ob_WX.rf, ⟨_, _, _, _, _, _, _, _, _, _, _, _, _, h, hy⟩, ob_an1⟩
  refine og_iload_n dX5_byteAt_0 rfl ?_
  refine og_if_lt (tgt := 15) dX5_byteAt_1 (by decide) (fun c1 => ?_) (fun c1 => ?_)
  · exact bad _ (fun h9 => absurd h9.1 (Int32.not_le.mpr c1))
  obtain ⟨j, hj, rfl⟩ := nI_of c1
  rw [nI_clamp hj] at bad
  refine og_iload_n dX5_byteAt_4 rfl ?_
  refine og_aload_n dX5_byteAt_5 rfl rfl ?_
  refine og_getf dX5_byteAt_6 kfX5_42 (by assumption) (by assumption) ?_
  refine og_getf dX5_byteAt_9 kfX5_52 (by assumption) (by assumption) ?_
  refine og_icmp_lt (tgt := 25) dX5_byteAt_12 (by decide) (fun c2 => ?_) (fun c2 => ?_)
  · have hjl := (nI_ltI hj (by omega)).mp c2
    have e : sp_byt S (nI j) = (0, nI (S.2.2.2.getD j 0), S) := by
      unfold sp_byt
      rw [nI_clamp hj, if_pos ⟨Int32.not_lt.mp c1, hjl⟩]
    rw [e]
    refine og_aload_n dX5_byteAt_25 rfl rfl ?_
    refine og_getf dX5_byteAt_26 kfX5_42 (by assumption) (by assumption) ?_
    refine og_getf dX5_byteAt_29 kfX5_166 (by assumption) (by assumption) ?_
    refine og_iload_n dX5_byteAt_32 rfl ?_
    obtain ⟨q1, q2⟩ := y9 j hjl
    rw [Nat.zero_add] at q2
    refine og_callSe dX5_byteAt_33 ksX5_170 (ct_numberAt (x := S.2.2.2[j]) r7 (by omega) (by decide) q1 q2) rfl rfl ⟨by decide, by decide⟩ (by decide) (by decide) (by decide) rfl ?_
    refine og_ireturn (ty := .int) rfl dX5_byteAt_36 rfl (by decide) (by decide) ⟨_, _, _, _, rfl, ob_WX.rf, ⟨_, _, _, _, _, _, _, _, _, _, _, _, _, h, hy⟩, ob_an0 ?_⟩
    rw [List.getD_eq_getElem?_getD, List.getElem?_eq_getElem hjl]
    rfl
  · exact bad _ (fun h9 => absurd (nI_lt h9.2 (by omega)) c2)
theorem ct_count {i : Int32} (hI : ob_I T V B x me mu cap S) : ob_C X mX5_count 8 3 20 [.ref x, .int i] (T, V, B, J) (ob_e (some (.int (sp_cnt S i))) (T, V, B, J)) := by
  obtain ⟨hp, edge, hb, t, nl, tp, tb, rs, rr, N, l, tt, K, h, hy⟩ := hI
  refine ob_C_of (by decide) rfl (Nat.le_of_ble_eq_true rfl) ?_
  obtain ⟨⟨x1, x2, x3, x4, x5, x6, x7, x8⟩, hs, ⟨t1, t2, t3, t4, t5⟩, en, ⟨r1, r2, r3, r4, r5, r6, r7, r8, r9, r10, r11⟩, n1, n2, n3⟩ := id h
  obtain ⟨y1, y2, y3, ⟨y4, y5, y6⟩, y7, y8, y9⟩ := id hy
  have tT := t1.1
  have hhT := hs.1
  have hh2 := hs.2.2.2.1
  refine og_lv [(0, .ref x), (1, .int i)] rfl ?_
  refine og_iload_n dX5_count_0 rfl ?_
  by_cases h0 : i = 0
  · subst h0
    obtain ⟨q1, q7, q6⟩ := t1.2.2.2.2.2.1.top t1.2.2.2.1
    refine og_tableIn (tgt := 40) (off := 39) dX5_count_1 (by decide) (by decide) (by decide) (by decide) ?_
    refine og_aload_n dX5_count_40 rfl rfl ?_
    refine og_getf dX5_count_41 kfX5_31 (by assumption) (by assumption) ?_
    refine og_callVe dX5_count_44 kvX5_141 (ct_size tT t1.2.2.1 q1 q7) rfl tT rfl rfl ⟨by decide, by decide⟩ (by decide) (by decide) (Nat.le_of_ble_eq_true rfl) rfl ?_
    exact og_ireturn (ty := .int) rfl dX5_count_47 rfl (by decide) (by decide) ⟨by simp [sp_cnt, y1, ob_siz_len], rfl⟩
  by_cases h1 : i = 1
  · subst h1
    refine og_tableIn (tgt := 48) (off := 47) dX5_count_1 (by decide) (by decide) (by decide) (by decide) ?_
    refine og_aload_n dX5_count_48 rfl rfl ?_
    refine og_getf dX5_count_49 kfX5_22 (by assumption) (by assumption) ?_
    refine og_getf dX5_count_52 kfX5_174 (by assumption) (by assumption) ?_
    exact og_ireturn (ty := .int) rfl dX5_count_55 rfl (by decide) (by decide) ⟨by simp [sp_cnt, y1], rfl⟩
  by_cases h2 : i = 2
  · subst h2
    refine og_tableIn (tgt := 56) (off := 55) dX5_count_1 (by decide) (by decide) (by decide) (by decide) ?_
    refine og_aload_n dX5_count_56 rfl rfl ?_
    refine og_getf dX5_count_57 kfX5_158 (by assumption) (by assumption) ?_
    exact og_ireturn (ty := .int) rfl dX5_count_60 rfl (by decide) (by decide) ⟨by simp [sp_cnt, y1], rfl⟩
  by_cases h3 : i = 3
  · subst h3
    refine og_tableIn (tgt := 61) (off := 60) dX5_count_1 (by decide) (by decide) (by decide) (by decide) ?_
    refine og_aload_n dX5_count_61 rfl rfl ?_
    refine og_getf dX5_count_62 kfX5_161 (by assumption) (by assumption) ?_
    exact og_ireturn (ty := .int) rfl dX5_count_65 rfl (by decide) (by decide) ⟨by simp [sp_cnt, y1], rfl⟩
  by_cases h4 : i = 4
  · subst h4
    refine og_tableIn (tgt := 66) (off := 65) dX5_count_1 (by decide) (by decide) (by decide) (by decide) ?_
    refine og_aload_n dX5_count_66 rfl rfl ?_
    refine og_getf dX5_count_67 kfX5_38 (by assumption) (by assumption) ?_
    refine og_getf dX5_count_70 kfX5_52 (by assumption) (by assumption) ?_
    exact og_ireturn (ty := .int) rfl dX5_count_73 rfl (by decide) (by decide) ⟨by simp [sp_cnt], rfl⟩
  by_cases h5 : i = 5
  · subst h5
    refine og_tableIn (tgt := 74) (off := 73) dX5_count_1 (by decide) (by decide) (by decide) (by decide) ?_
    refine og_aload_n dX5_count_74 rfl rfl ?_
    refine og_getf dX5_count_75 kfX5_42 (by assumption) (by assumption) ?_
    refine og_getf dX5_count_78 kfX5_52 (by assumption) (by assumption) ?_
    exact og_ireturn (ty := .int) rfl dX5_count_81 rfl (by decide) (by decide) ⟨by simp [sp_cnt], rfl⟩
  · have hout : i.toInt < 0 ∨ 5 < i.toInt := by
      have g0 : ∀ c : Int32, i ≠ c → i.toInt ≠ c.toInt := fun c hc e => hc (Int32.toInt_inj.mp e)
      have a0 := g0 0 h0
      have a1 := g0 1 h1
      have a2 := g0 2 h2
      have a3 := g0 3 h3
      have a4 := g0 4 h4
      have a5 := g0 5 h5
      have b0 : (0 : Int32).toInt = 0 := by decide
      have b1 : (1 : Int32).toInt = 1 := by decide
      have b2 : (2 : Int32).toInt = 2 := by decide
      have b3 : (3 : Int32).toInt = 3 := by decide
      have b4 : (4 : Int32).toInt = 4 := by decide
      have b5 : (5 : Int32).toInt = 5 := by decide
      omega
    refine og_tableOut (tgt := 82) dX5_count_1 hout (by decide) ?_
    refine og_iconst (v := (-1)) dX5_count_82 (by decide) ?_
    exact og_ireturn (ty := .int) rfl dX5_count_83 rfl (by decide) (by decide) ⟨by simp [sp_cnt, h0, h1, h2, h3, h4, h5], rfl⟩
end OCH
