/-! THE REFERENCE: count, its constructor -/
theorem km66 : Cond.constant RX6 16 66048 ∈ ob_tb := ob_in 686 (by decide +kernel) (by decide +kernel)
section OMI
variable {X : ob_X} {T : ob_T} {V V' : ob_V} {B B' : ob_B} {J : ob_J} {R : Room} {Q : ob_r → ob_w → Prop} {k n : Nat} {m mt mr mb mk mv me mu thr : Nat} {S : sp_S} {E : ob_E}
theorem cnt_loop {b : Bool} (ha : ob_Ma T V m mt mr mb mk mv me mu) (h : ob_Me V B m mb mk mv E) (hl : E.length ≤ 1024) (hk : k ≤ R.cells) (hs : n ≤ R.slots) (hq : Q (.inl (some (.int (nI (if b then sp_kb E else sp_vb E))))) (T, V, B, J)) : ∀ (d i : Nat), i + d = E.length → ob_G X mX6_count R Q 61 [(0, .ref m), (1, .int (if b then 2 else 3)), (2, .int (nI (if b then sp_kb (E.take i) else sp_vb (E.take i)))), (3, .int (nI i))] [] (T, V, B, J) k n := by
  obtain ⟨⟨h1, h2, h3, h4, h5, h6, h7, h8⟩, ⟨g1, g2, g3, g4, g5⟩, -⟩ := ha
  have m7 := h.1
  intro d
  induction d with
  | zero =>
    intro i hid
    have e9 : i = E.length := by omega
    subst e9
    rw [List.take_length]
    refine og_iload_n dX6_count_61 rfl ?_
    refine og_aload_n dX6_count_62 rfl rfl ?_
    refine og_getf dX6_count_63 kfX6_52 (by assumption) (by assumption) ?_
    refine og_icmp_ge (tgt := 98) dX6_count_66 (by decide) (fun _ => ?_) (fun z9 => absurd (Int32.le_refl _) z9)
    refine og_iload_n dX6_count_98 rfl ?_
    exact og_ireturn (ty := .int) rfl dX6_count_99 rfl hk hs hq
  | succ d ih =>
    intro i hid
    have hi : i < E.length := by omega
    refine og_iload_n dX6_count_61 rfl ?_
    refine og_aload_n dX6_count_62 rfl rfl ?_
    refine og_getf dX6_count_63 kfX6_52 (by assumption) (by assumption) ?_
    refine og_icmp_ge (tgt := 98) dX6_count_66 (by decide) (fun z9 => absurd z9 (nI_ge (by omega) (by omega))) (fun _ => ?_)
    refine og_iload_n dX6_count_69 rfl ?_
    refine og_iload_n dX6_count_70 rfl ?_
    refine og_iconst (v := 2) dX6_count_71 (by decide) ?_
    cases b with
    | true =>
      have e9 : sp_kb (E.take (i + 1)) = sp_kb (E.take i) + E[i].1.length := by rw [List.take_succ_eq_append_getElem hi, sp_kb_app, List.append_nil]
      refine og_icmp_ne (tgt := 84) dX6_count_72 (by decide) (fun z9 => absurd (rfl) z9) (fun _ => ?_)
      refine og_aload_n dX6_count_75 rfl rfl ?_
      refine og_getf dX6_count_76 kfX6_20 (by assumption) (by assumption) ?_
      refine og_iload_n dX6_count_79 rfl ?_
      refine og_ialv dX6_count_80 (by assumption) (by omega) (by decide) (h.ks hi) ?_
      refine og_goto (tgt := 90) dX6_count_81 (by decide) ?_
      refine og_iadd dX6_count_90 ?_
      refine og_st [.int (nI (sp_kb (E.take (i + 1))))] (by rw [e9, ← nI_add] <;> rfl) ?_
      refine og_istore_n dX6_count_91 (by decide) ?_
      refine og_iinc dX6_count_92 rfl (nI_1 i) (by decide) ?_
      refine og_goto (tgt := 61) dX6_count_95 (by decide) ?_
      refine og_lv [(0, .ref m), (1, .int 2), (2, .int (nI (sp_kb (E.take (i + 1))))), (3, .int (nI (i + 1)))] rfl ?_
      exact ih (i + 1) (by omega)
    | false =>
      have e9 : sp_vb (E.take (i + 1)) = sp_vb (E.take i) + E[i].2.length := by rw [List.take_succ_eq_append_getElem hi, sp_vb_app, List.append_nil]
      refine og_icmp_ne (tgt := 84) dX6_count_72 (by decide) (fun _ => ?_) (fun z9 => absurd z9 (by decide))
      refine og_aload_n dX6_count_84 rfl rfl ?_
      refine og_getf dX6_count_85 kfX6_23 (by assumption) (by assumption) ?_
      refine og_iload_n dX6_count_88 rfl ?_
      refine og_ialv dX6_count_89 (by assumption) (by omega) (by decide) (h.vs hi) ?_
      refine og_iadd dX6_count_90 ?_
      refine og_st [.int (nI (sp_vb (E.take (i + 1))))] (by rw [e9, ← nI_add] <;> rfl) ?_
      refine og_istore_n dX6_count_91 (by decide) ?_
      refine og_iinc dX6_count_92 rfl (nI_1 i) (by decide) ?_
      refine og_goto (tgt := 61) dX6_count_95 (by decide) ?_
      refine og_lv [(0, .ref m), (1, .int 3), (2, .int (nI (sp_vb (E.take (i + 1))))), (3, .int (nI (i + 1)))] rfl ?_
      exact ih (i + 1) (by omega)
theorem cm_count {i : Int32} (h : ob_M T V B m mt mr mb mk mv me mu thr S) (ho : sp_ok me mu S) : ob_C X mX6_count 4 0 0 [.ref m, .int i] (T, V, B, J) (ob_qm T V B J m mt mr mb mk mv me mu (0, sp_cnt S i, S)) := by
  refine ob_C_of (by decide) rfl (Nat.le_of_ble_eq_true rfl) ?_
  have m1 := h.1.1.1
  have hl := ho.1
  refine og_lv [(0, .ref m), (1, .int i)] rfl ?_
  refine og_aload_n dX6_count_0 rfl rfl ?_
  refine og_iconst (v := 0) dX6_count_1 (by decide) ?_
  refine og_put dX6_count_2 kfX6_36 (by assumption) rfl rfl ?_
  have h1 := h.th 0
  have w1 : ob_WM V B m mt mr mb mk mv (ob_set V m 0 (.int (nI 0))) B := ob_WM.set _ _
  generalize hV1 : ob_set V m 0 (.int (nI 0)) = V1 at *
  refine og_w (T, V1, B, J) (by rw [← hV1]; rfl) ?_
  have m7 : V1 m 7 = .int (nI S.1.length) := h1.2.1.1
  have m3 := h1.2.2.2.1.1
  have m5 := h1.2.2.2.2.1.1
  have fin : ∀ v, v = sp_cnt S i → ob_qm T V B J m mt mr mb mk mv me mu (0, sp_cnt S i, S) (.inl (some (.int v))) (T, V1, B, J) := fun v hv => ⟨V1, B, v, rfl, h1, w1, rfl, fun _ => hv⟩
  refine og_iload_n dX6_count_5 rfl ?_
  refine og_iconst (v := 0) dX6_count_6 (by decide) ?_
  refine og_iconst (v := 5) dX6_count_7 (by decide) ?_
  refine og_callSe dX6_count_8 ksX6_39 cm_within rfl rfl ⟨by decide, by decide⟩ (by decide) (by decide) (Nat.le_of_ble_eq_true rfl) rfl ?_
  by_cases hk : 0 ≤ i ∧ i ≤ 5
  rotate_left
  · rw [decide_eq_false hk]
    refine og_if_ne (tgt := 16) dX6_count_11 (by decide) (fun z9 => absurd (rfl) z9) (fun _ => ?_)
    refine og_iconst (v := (-1)) dX6_count_14 (by decide) ?_
    refine og_ireturn (ty := .int) rfl dX6_count_15 rfl (by decide) (by decide) (fin _ ?_)
    have n0 : i ≠ 0 := fun e => hk (by rw [e]; decide)
    have n1 : i ≠ 1 := fun e => hk (by rw [e]; decide)
    have n2 : i ≠ 2 := fun e => hk (by rw [e]; decide)
    have n3 : i ≠ 3 := fun e => hk (by rw [e]; decide)
    have n4 : i ≠ 4 := fun e => hk (by rw [e]; decide)
    have n5 : i ≠ 5 := fun e => hk (by rw [e]; decide)
    simp [sp_cnt, n0, n1, n2, n3, n4, n5]
  rw [decide_eq_true hk]
  obtain ⟨j, hj5, rfl⟩ : ∃ j : Nat, j ≤ 5 ∧ i = nI j := by
    obtain ⟨j, hj, rfl⟩ := nI_of (x := i) (Int32.not_lt.mpr hk.1)
    exact ⟨j, (nI_leI (b := 5) hj (by omega)).mp hk.2, rfl⟩
  refine og_if_ne (tgt := 16) dX6_count_11 (by decide) (fun _ => ?_) (fun z9 => absurd z9 (by decide))
  refine og_iload_n dX6_count_16 rfl ?_
  match j, hj5 with
  | 0, _ =>
    refine og_if_ne (tgt := 25) dX6_count_17 (by decide) (fun z9 => absurd (by decide) z9) (fun _ => ?_)
    refine og_aload_n dX6_count_20 rfl rfl ?_
    refine og_getf dX6_count_21 kfX6_52 (by assumption) (by assumption) ?_
    exact og_ireturn (ty := .int) rfl dX6_count_24 rfl (by decide) (by decide) (fin _ (by rfl))
  | 1, _ =>
    refine og_if_ne (tgt := 25) dX6_count_17 (by decide) (fun _ => ?_) (fun z9 => absurd z9 (by decide))
    refine og_iload_n dX6_count_25 rfl ?_
    refine og_iconst (v := 1) dX6_count_26 (by decide) ?_
    refine og_icmp_ne (tgt := 35) dX6_count_27 (by decide) (fun z9 => absurd (by decide) z9) (fun _ => ?_)
    refine og_aload_n dX6_count_30 rfl rfl ?_
    refine og_callVe dX6_count_31 kvX6_83 (cm_used h1.1 h1.2.1 (by omega) (fun e he => (ho.2.2.1 e he).1.2)) rfl m1 rfl rfl ⟨by decide, by decide⟩ (by decide) (by decide) (Nat.le_of_ble_eq_true rfl) rfl ?_
    exact og_ireturn (ty := .int) rfl dX6_count_34 rfl (by decide) (by decide) (fin _ (by rfl))
  | 2, _ =>
    refine og_if_ne (tgt := 25) dX6_count_17 (by decide) (fun _ => ?_) (fun z9 => absurd z9 (by decide))
    refine og_iload_n dX6_count_25 rfl ?_
    refine og_iconst (v := 1) dX6_count_26 (by decide) ?_
    refine og_icmp_ne (tgt := 35) dX6_count_27 (by decide) (fun _ => ?_) (fun z9 => absurd z9 (by decide))
    refine og_iload_n dX6_count_35 rfl ?_
    refine og_iconst (v := 3) dX6_count_36 (by decide) ?_
    refine og_icmp_le (tgt := 57) dX6_count_37 (by decide) (fun _ => ?_) (fun z9 => absurd (by decide) z9)
    refine og_iconst (v := 0) dX6_count_57 (by decide) ?_
    refine og_istore_n dX6_count_58 (by decide) ?_
    refine og_iconst (v := 0) dX6_count_59 (by decide) ?_
    refine og_istore_n dX6_count_60 (by decide) ?_
    refine og_lv [(0, .ref m), (1, .int 2), (2, .int (nI (sp_kb (S.1.take 0)))), (3, .int (nI 0))] rfl ?_
    exact cnt_loop (b := true) h1.1 h1.2.1 (by omega) (by decide) (by decide) (fin _ rfl) S.1.length 0 (by omega)
  | 3, _ =>
    refine og_if_ne (tgt := 25) dX6_count_17 (by decide) (fun _ => ?_) (fun z9 => absurd z9 (by decide))
    refine og_iload_n dX6_count_25 rfl ?_
    refine og_iconst (v := 1) dX6_count_26 (by decide) ?_
    refine og_icmp_ne (tgt := 35) dX6_count_27 (by decide) (fun _ => ?_) (fun z9 => absurd z9 (by decide))
    refine og_iload_n dX6_count_35 rfl ?_
    refine og_iconst (v := 3) dX6_count_36 (by decide) ?_
    refine og_icmp_le (tgt := 57) dX6_count_37 (by decide) (fun _ => ?_) (fun z9 => absurd (by decide) z9)
    refine og_iconst (v := 0) dX6_count_57 (by decide) ?_
    refine og_istore_n dX6_count_58 (by decide) ?_
    refine og_iconst (v := 0) dX6_count_59 (by decide) ?_
    refine og_istore_n dX6_count_60 (by decide) ?_
    refine og_lv [(0, .ref m), (1, .int 3), (2, .int (nI (sp_vb (S.1.take 0)))), (3, .int (nI 0))] rfl ?_
    exact cnt_loop (b := false) h1.1 h1.2.1 (by omega) (by decide) (by decide) (fin _ rfl) S.1.length 0 (by omega)
  | 4, _ =>
    refine og_if_ne (tgt := 25) dX6_count_17 (by decide) (fun _ => ?_) (fun z9 => absurd z9 (by decide))
    refine og_iload_n dX6_count_25 rfl ?_
    refine og_iconst (v := 1) dX6_count_26 (by decide) ?_
    refine og_icmp_ne (tgt := 35) dX6_count_27 (by decide) (fun _ => ?_) (fun z9 => absurd z9 (by decide))
    refine og_iload_n dX6_count_35 rfl ?_
    refine og_iconst (v := 3) dX6_count_36 (by decide) ?_
    refine og_icmp_le (tgt := 57) dX6_count_37 (by decide) (fun z9 => absurd z9 (by decide)) (fun _ => ?_)
    refine og_iload_n dX6_count_40 rfl ?_
    refine og_iconst (v := 4) dX6_count_41 (by decide) ?_
    refine og_icmp_ne (tgt := 52) dX6_count_42 (by decide) (fun z9 => absurd (by decide) z9) (fun _ => ?_)
    refine og_aload_n dX6_count_45 rfl rfl ?_
    refine og_getf dX6_count_46 kfX6_47 (by assumption) (by assumption) ?_
    refine og_goto (tgt := 56) dX6_count_49 (by decide) ?_
    exact og_ireturn (ty := .int) rfl dX6_count_56 rfl (by decide) (by decide) (fin _ rfl)
  | 5, _ =>
    refine og_if_ne (tgt := 25) dX6_count_17 (by decide) (fun _ => ?_) (fun z9 => absurd z9 (by decide))
    refine og_iload_n dX6_count_25 rfl ?_
    refine og_iconst (v := 1) dX6_count_26 (by decide) ?_
    refine og_icmp_ne (tgt := 35) dX6_count_27 (by decide) (fun _ => ?_) (fun z9 => absurd z9 (by decide))
    refine og_iload_n dX6_count_35 rfl ?_
    refine og_iconst (v := 3) dX6_count_36 (by decide) ?_
    refine og_icmp_le (tgt := 57) dX6_count_37 (by decide) (fun z9 => absurd z9 (by decide)) (fun _ => ?_)
    refine og_iload_n dX6_count_40 rfl ?_
    refine og_iconst (v := 4) dX6_count_41 (by decide) ?_
    refine og_icmp_ne (tgt := 52) dX6_count_42 (by decide) (fun _ => ?_) (fun z9 => absurd z9 (by decide))
    refine og_aload_n dX6_count_52 rfl rfl ?_
    refine og_getf dX6_count_53 kfX6_94 (by assumption) (by assumption) ?_
    exact og_ireturn (ty := .int) rfl dX6_count_56 rfl (by decide) (by decide) (fin _ rfl)
theorem sp_near {i : Int32} {c : Nat} (hc : 1 ≤ c ∧ c ≤ 4096) : (i < 1 → min c (max 1 i.toNatClampNeg) = 1) ∧ (¬ i < 1 → nI c < i → min c (max 1 i.toNatClampNeg) = c) ∧ (¬ i < 1 → ¬ nI c < i → i = nI (min c (max 1 i.toNatClampNeg))) := by
  refine ⟨fun h => ?_, fun h1 h2 => ?_, fun h1 h2 => ?_⟩
  · have e : i.toNatClampNeg ≤ 0 := by
      have := Int32.lt_iff_toInt_lt.mp h
      have h0 : (1 : Int32).toInt = 1 := by decide
      show i.toInt.toNat ≤ 0
      omega
    omega
  · obtain ⟨j, hj, rfl⟩ := nI_of (x := i) (fun h => h1 (Int32.lt_trans h (by decide)))
    rw [nI_clamp hj]
    have := (nI_ltI (by omega) hj).mp h2
    omega
  · obtain ⟨j, hj, rfl⟩ := nI_of (x := i) (fun h => h1 (Int32.lt_trans h (by decide)))
    rw [nI_clamp hj]
    have a1 : ¬ c < j := fun h9 => h2 (nI_lt h9 hj)
    have a2 : ¬ j < 1 := fun h9 => h1 (nI_lt (b := 1) h9 (by omega))
    rw [show min c (max 1 j) = j by omega]
theorem cm_init {e9 u9 : Int32} (hm : T m = some (6, 0)) (v0 : V m 0 = .int 0) (v3 : V m 3 = .int 0) (v5 : V m 5 = .int 0) (v7 : V m 7 = .int 0) (v8 : V m 8 = .int 0) : ob_C X mX6_init 1 5 70000 [.ref m, .int e9, .int u9] (T, V, B, J) (fun r w' => ∃ T' V' B' J' mt mr mb mk mv, r = .inl none ∧ w' = (T', V', B', J') ∧ (∀ a y, T a = some y → T' a = some y) ∧ (∀ y, y ≠ m → ∀ j, V' y j = V y j) ∧ (∀ a y, T a = some y → B' a = B a ∧ J' a = J a) ∧ (T mt = none ∧ T mr = none ∧ T mb = none ∧ T mk = none ∧ T mv = none) ∧ ob_M T' V' B' m mt mr mb mk mv (min 1024 (max 1 e9.toNatClampNeg)) (min 4096 (max 1 u9.toNatClampNeg)) 0 ([], none, [], [])) := by
  refine ob_C_of (by decide) rfl (Nat.le_of_ble_eq_true rfl) ?_
  refine og_lv [(0, .ref m), (1, .int e9), (2, .int u9)] rfl ?_
  refine og_aload_n dX6_init_0 rfl rfl ?_
  refine og_objInit dX6_init_1 kOX6_1 kOi kOc (by decide) (by decide) ?_
  refine og_aload_n dX6_init_4 rfl rfl ?_
  refine og_sipush (v := 600) dX6_init_5 (by decide) ?_
  refine og_newa (t := 1) dX6_init_8 (Or.inr (Or.inl ⟨rfl, rfl⟩)) kAI (m0 := 600) rfl (by decide) (by decide) (by decide) (fun mt mt0 _ => ?_)
  have mt0 : T mt = none := mt0
  obtain ⟨a1, a2⟩ := ob_new_ext (c := 8) (n := 600) mt0
  generalize hT1 : ob_new T mt (7 + 1) 600 = T1 at *
  refine og_putF dX6_init_10 kfX6_7 rfl rfl (a1 _ _ hm) rfl rfl ?_
  obtain ⟨V1, qV1⟩ : ∃ z, ob_set V m 4 (.ref mt) = z := ⟨_, rfl⟩
  obtain ⟨B1, qB1⟩ : ∃ z : ob_B, ob_row B mt (fun _ => 0) = z := ⟨_, rfl⟩
  obtain ⟨J1, qJ1⟩ : ∃ z : ob_J, ob_row J mt (fun _ => 0) = z := ⟨_, rfl⟩
  refine og_w (T1, V1, B1, J1) (by rw [← qV1, ← qB1, ← qJ1]) ?_
  refine og_aload_n dX6_init_13 rfl rfl ?_
  refine og_sipush (v := 512) dX6_init_14 (by decide) ?_
  refine og_newa (t := 1) dX6_init_17 (Or.inr (Or.inl ⟨rfl, rfl⟩)) kAI (m0 := 512) rfl (by decide) (by decide) (by decide) (fun mr mr0 _ => ?_)
  have mr0 : T1 mr = none := mr0
  obtain ⟨b1, b2⟩ := ob_new_ext (c := 8) (n := 512) mr0
  generalize hT2 : ob_new T1 mr (7 + 1) 512 = T2 at *
  refine og_putF dX6_init_19 kfX6_13 rfl rfl (b1 _ _ (a1 _ _ hm)) rfl rfl ?_
  obtain ⟨V2, qV2⟩ : ∃ z, ob_set V1 m 6 (.ref mr) = z := ⟨_, rfl⟩
  obtain ⟨B2, qB2⟩ : ∃ z : ob_B, ob_row B1 mr (fun _ => 0) = z := ⟨_, rfl⟩
  obtain ⟨J2, qJ2⟩ : ∃ z : ob_J, ob_row J1 mr (fun _ => 0) = z := ⟨_, rfl⟩
  refine og_w (T2, V2, B2, J2) (by rw [← qV2, ← qB2, ← qJ2]) ?_
  refine og_aload_n dX6_init_22 rfl rfl ?_
  refine og_ldc (v := 66048) dX6_init_23 km66 ?_
  refine og_newa (t := 1) dX6_init_25 (Or.inr (Or.inl ⟨rfl, rfl⟩)) kAI (m0 := 66048) rfl (by decide) (by decide) (by decide) (fun mb mb0 _ => ?_)
  have mb0 : T2 mb = none := mb0
  obtain ⟨c1, c2⟩ := ob_new_ext (c := 8) (n := 66048) mb0
  generalize hT3 : ob_new T2 mb (7 + 1) 66048 = T3 at *
  refine og_putF dX6_init_27 kfX6_17 rfl rfl (c1 _ _ (b1 _ _ (a1 _ _ hm))) rfl rfl ?_
  obtain ⟨V3, qV3⟩ : ∃ z, ob_set V2 m 9 (.ref mb) = z := ⟨_, rfl⟩
  obtain ⟨B3, qB3⟩ : ∃ z : ob_B, ob_row B2 mb (fun _ => 0) = z := ⟨_, rfl⟩
  obtain ⟨J3, qJ3⟩ : ∃ z : ob_J, ob_row J2 mb (fun _ => 0) = z := ⟨_, rfl⟩
  refine og_w (T3, V3, B3, J3) (by rw [← qV3, ← qB3, ← qJ3]) ?_
  refine og_aload_n dX6_init_30 rfl rfl ?_
  refine og_sipush (v := 1025) dX6_init_31 (by decide) ?_
  refine og_newa (t := 1) dX6_init_34 (Or.inr (Or.inl ⟨rfl, rfl⟩)) kAI (m0 := 1025) rfl (by decide) (by decide) (by decide) (fun mk mk0 _ => ?_)
  have mk0 : T3 mk = none := mk0
  obtain ⟨d1, d2⟩ := ob_new_ext (c := 8) (n := 1025) mk0
  generalize hT4 : ob_new T3 mk (7 + 1) 1025 = T4 at *
  refine og_putF dX6_init_36 kfX6_20 rfl rfl (d1 _ _ (c1 _ _ (b1 _ _ (a1 _ _ hm)))) rfl rfl ?_
  obtain ⟨V4, qV4⟩ : ∃ z, ob_set V3 m 10 (.ref mk) = z := ⟨_, rfl⟩
  obtain ⟨B4, qB4⟩ : ∃ z : ob_B, ob_row B3 mk (fun _ => 0) = z := ⟨_, rfl⟩
  obtain ⟨J4, qJ4⟩ : ∃ z : ob_J, ob_row J3 mk (fun _ => 0) = z := ⟨_, rfl⟩
  refine og_w (T4, V4, B4, J4) (by rw [← qV4, ← qB4, ← qJ4]) ?_
  refine og_aload_n dX6_init_39 rfl rfl ?_
  refine og_sipush (v := 1025) dX6_init_40 (by decide) ?_
  refine og_newa (t := 1) dX6_init_43 (Or.inr (Or.inl ⟨rfl, rfl⟩)) kAI (m0 := 1025) rfl (by decide) (by decide) (by decide) (fun mv mv0 _ => ?_)
  have mv0 : T4 mv = none := mv0
  obtain ⟨f1, f2⟩ := ob_new_ext (c := 8) (n := 1025) mv0
  generalize hT5 : ob_new T4 mv (7 + 1) 1025 = T5 at *
  have TT : ∀ y z, T y = some z → T5 y = some z := fun y z h => f1 _ _ (d1 _ _ (c1 _ _ (b1 _ _ (a1 _ _ h))))
  have hm5 := TT _ _ hm
  refine og_putF dX6_init_45 kfX6_23 rfl rfl hm5 rfl rfl ?_
  obtain ⟨V5, qV5⟩ : ∃ z, ob_set V4 m 11 (.ref mv) = z := ⟨_, rfl⟩
  obtain ⟨B5, qB5⟩ : ∃ z : ob_B, ob_row B4 mv (fun _ => 0) = z := ⟨_, rfl⟩
  obtain ⟨J5, qJ5⟩ : ∃ z : ob_J, ob_row J4 mv (fun _ => 0) = z := ⟨_, rfl⟩
  refine og_w (T5, V5, B5, J5) (by rw [← qV5, ← qB5, ← qJ5]) ?_
  refine og_aload_n dX6_init_48 rfl rfl ?_
  refine og_iconst (v := (-1)) dX6_init_49 (by decide) ?_
  refine og_put dX6_init_50 kfX6_26 (by assumption) rfl rfl ?_
  have nn : ∀ {U : ob_T} {y z : Nat} {q}, U y = some q → U z = none → y ≠ z := fun h1 h2 e => by rw [e, h2] at h1; cases h1
  have n1 : mt ≠ mr := nn a2 mr0
  have n2 : mt ≠ mb := nn (b1 _ _ a2) mb0
  have n3 : mt ≠ mk := nn (c1 _ _ (b1 _ _ a2)) mk0
  have n4 : mt ≠ mv := nn (d1 _ _ (c1 _ _ (b1 _ _ a2))) mv0
  have n5 : mr ≠ mb := nn b2 mb0
  have n6 : mr ≠ mk := nn (c1 _ _ b2) mk0
  have n7 : mr ≠ mv := nn (d1 _ _ (c1 _ _ b2)) mv0
  have n8 : mb ≠ mk := nn c2 mk0
  have n9 : mb ≠ mv := nn (d1 _ _ c2) mv0
  have n10 : mk ≠ mv := nn d2 mv0
  have bk : ∀ {U U' : ob_T}, (∀ y z, U y = some z → U' y = some z) → ∀ y, U' y = none → U y = none := fun h y hy => by
    rename_i U U'
    cases h9 : U y with
    | none => rfl
    | some z => rw [h y z h9] at hy; cases hy
  have t2 : T mr = none := bk a1 _ mr0
  have t3 : T mb = none := bk a1 _ (bk b1 _ mb0)
  have t4 : T mk = none := bk a1 _ (bk b1 _ (bk c1 _ mk0))
  have t5 : T mv = none := bk a1 _ (bk b1 _ (bk c1 _ (bk d1 _ mv0)))
  have ne : ∀ y z, T y = some z → y ≠ mt ∧ y ≠ mr ∧ y ≠ mb ∧ y ≠ mk ∧ y ≠ mv := fun y z hy => ⟨nn hy mt0, nn hy t2, nn hy t3, nn hy t4, nn hy t5⟩
  obtain ⟨V6, hV1⟩ : ∃ z, ob_set (ob_set (ob_set (ob_set (ob_set (ob_set V m 4 (.ref mt)) m 6 (.ref mr)) m 9 (.ref mb)) m 10 (.ref mk)) m 11 (.ref mv)) m 12 (.int (-1)) = z := ⟨_, rfl⟩
  have w4 : V6 m 4 = .ref mt := by rw [← hV1]; simp [ob_set]
  have w6 : V6 m 6 = .ref mr := by rw [← hV1]; simp [ob_set]
  have w9 : V6 m 9 = .ref mb := by rw [← hV1]; simp [ob_set]
  have w10 : V6 m 10 = .ref mk := by rw [← hV1]; simp [ob_set]
  have w11 : V6 m 11 = .ref mv := by rw [← hV1]; simp [ob_set]
  have w12 : V6 m 12 = .int (-1) := by rw [← hV1]; simp [ob_set]
  have wf : ∀ y j, y ≠ m ∨ (j ≠ 4 ∧ j ≠ 6 ∧ j ≠ 9 ∧ j ≠ 10 ∧ j ≠ 11 ∧ j ≠ 12) → V6 y j = V y j := fun y j h => by
    rw [← hV1]
    rcases h with h | ⟨q1, q2, q3, q4, q5, q6⟩
    · simp [ob_set, h]
    · simp [ob_set, q1, q2, q3, q4, q5, q6]
  have hB1 : ob_row (ob_row (ob_row (ob_row (ob_row B mt (fun _ => (0 : Int32))) mr (fun _ => 0)) mb (fun _ => 0)) mk (fun _ => 0)) mv (fun _ => 0) = B5 := by rw [qB1, qB2, qB3, qB4, qB5]
  have hJ1 : ob_row (ob_row (ob_row (ob_row (ob_row J mt (fun _ => (0 : Int64))) mr (fun _ => 0)) mb (fun _ => 0)) mk (fun _ => 0)) mv (fun _ => 0) = J5 := by rw [qJ1, qJ2, qJ3, qJ4, qJ5]
  refine og_w (T5, V6, B5, J5) (by rw [← hV1, qV1, qV2, qV3, qV4, qV5]) ?_
  have fin : ∀ V2 : ob_V, (∀ y j, ¬ (y = m ∧ (j = 1 ∨ j = 2)) → V2 y j = V6 y j) → V2 m 1 = .int (nI (min 1024 (max 1 e9.toNatClampNeg))) → V2 m 2 = .int (nI (min 4096 (max 1 u9.toNatClampNeg))) → (fun r w' => ∃ T' V' B' J' mt mr mb mk mv, r = .inl none ∧ w' = (T', V', B', J') ∧ (∀ a y, T a = some y → T' a = some y) ∧ (∀ y, y ≠ m → ∀ j, V' y j = V y j) ∧ (∀ a y, T a = some y → B' a = B a ∧ J' a = J a) ∧ (T mt = none ∧ T mr = none ∧ T mb = none ∧ T mk = none ∧ T mv = none) ∧ ob_M T' V' B' m mt mr mb mk mv (min 1024 (max 1 e9.toNatClampNeg)) (min 4096 (max 1 u9.toNatClampNeg)) 0 ([], none, [], []) : ob_r → ob_w → Prop) (.inl none) (T5, V2, B5, J5) := by
    intro V2 h2 z1 z2
    have e : ∀ j, j ≠ 1 → j ≠ 2 → V2 m j = V6 m j := fun j q1 q2 => h2 m j (fun h9 => by omega)
    have e0 : ∀ j, j ≠ 1 → j ≠ 2 → (j ≠ 4 ∧ j ≠ 6 ∧ j ≠ 9 ∧ j ≠ 10 ∧ j ≠ 11 ∧ j ≠ 12) → V2 m j = V m j := fun j q1 q2 q3 => (e j q1 q2).trans (wf m j (Or.inr q3))
    refine ⟨T5, V2, B5, J5, mt, mr, mb, mk, mv, rfl, rfl, TT, fun y hy j => (h2 y j (fun h9 => hy h9.1)).trans (wf y j (Or.inl hy)), fun y z hy => ?_, ⟨mt0, t2, t3, t4, t5⟩, ⟨⟨hm5, z1, z2, ?_, ?_, ?_, ?_, ?_⟩, ⟨f1 _ _ (d1 _ _ (c1 _ _ (b1 _ _ a2))), f1 _ _ (d1 _ _ (c1 _ _ b2)), f1 _ _ (d1 _ _ c2), f1 _ _ d2, f2⟩, n1, n2, n3, n4, n5, n6, n7, n8, n9, n10⟩, ⟨?_, ?_, fun j hj => by simp [sp_fl] at hj, fun j hj => by simp at hj, fun j hj => by simp at hj⟩, ?_, ⟨?_, fun j hj => by simp at hj⟩, ⟨?_, fun j hj => by simp at hj⟩, ?_⟩
    · obtain ⟨q1, q2, q3, q4, q5⟩ := ne y z hy
      rw [← hB1, ← hJ1]
      simp [ob_row, q1, q2, q3, q4, q5]
    · rw [e _ (by decide) (by decide)]; exact w4
    · rw [e _ (by decide) (by decide)]; exact w6
    · rw [e _ (by decide) (by decide)]; exact w9
    · rw [e _ (by decide) (by decide)]; exact w10
    · rw [e _ (by decide) (by decide)]; exact w11
    · rw [e0 _ (by decide) (by decide) (by decide), v7]; rfl
    · rw [e0 _ (by decide) (by decide) (by decide), v8]; rfl
    · rw [e0 _ (by decide) (by decide) (by decide), v0]; rfl
    · rw [e0 _ (by decide) (by decide) (by decide), v3]; rfl
    · rw [e0 _ (by decide) (by decide) (by decide), v5]; rfl
    · rw [e _ (by decide) (by decide)]; exact w12
  obtain ⟨p1, p2, p3⟩ := sp_near (i := e9) (c := 1024) (by decide)
  obtain ⟨q1, q2, q3⟩ := sp_near (i := u9) (c := 4096) (by decide)
  generalize hme : min 1024 (max 1 e9.toNatClampNeg) = me9 at *
  generalize hmu : min 4096 (max 1 u9.toNatClampNeg) = mu9 at *
  have last : ob_G X mX6_init (ob_rm 1 5 70000) (fun r w' => ∃ T' V' B' J' mt mr mb mk mv, r = .inl none ∧ w' = (T', V', B', J') ∧ (∀ a y, T a = some y → T' a = some y) ∧ (∀ y, y ≠ m → ∀ j, V' y j = V y j) ∧ (∀ a y, T a = some y → B' a = B a ∧ J' a = J a) ∧ (T mt = none ∧ T mr = none ∧ T mb = none ∧ T mk = none ∧ T mv = none) ∧ ob_M T' V' B' m mt mr mb mk mv me9 mu9 0 ([], none, [], [])) 77 [(0, .ref m), (2, .int u9)] [.int (nI me9), .ref m] (T5, V6, B5, J5) 5 69210 := by
    refine og_putF dX6_init_77 kfX6_30 rfl rfl hm5 rfl rfl ?_
    have end9 : ob_G X mX6_init (ob_rm 1 5 70000) (fun r w' => ∃ T' V' B' J' mt mr mb mk mv, r = .inl none ∧ w' = (T', V', B', J') ∧ (∀ a y, T a = some y → T' a = some y) ∧ (∀ y, y ≠ m → ∀ j, V' y j = V y j) ∧ (∀ a y, T a = some y → B' a = B a ∧ J' a = J a) ∧ (T mt = none ∧ T mr = none ∧ T mb = none ∧ T mk = none ∧ T mv = none) ∧ ob_M T' V' B' m mt mr mb mk mv me9 mu9 0 ([], none, [], [])) 104 [(0, .ref m)] [.int (nI mu9), .ref m] (T5, ob_set V6 m 1 (.int (nI me9)), B5, J5) 5 69210 := by
      refine og_putF dX6_init_104 kfX6_33 rfl rfl hm5 rfl rfl ?_
      refine og_return rfl dX6_init_107 (by decide) (by decide) (fin _ (fun y j h9 => ?_) ?_ ?_)
      · show ob_set (ob_set V6 m 1 _) m 2 _ y j = _
        have e1 : ¬ (y = m ∧ j = 2) := fun h => h9 ⟨h.1, Or.inr h.2⟩
        have e2 : ¬ (y = m ∧ j = 1) := fun h => h9 ⟨h.1, Or.inl h.2⟩
        simp [ob_set, e1, e2]
      · simp [ob_set]
      · simp [ob_set]
    refine og_aload_n dX6_init_80 rfl rfl ?_
    refine og_iload_n dX6_init_81 rfl ?_
    refine og_iconst (v := 1) dX6_init_82 (by decide) ?_
    refine og_icmp_ge (tgt := 90) dX6_init_83 (by decide) (fun c1 => ?_) (fun c1 => ?_)
    · have c1' : ¬ u9 < 1 := Int32.not_lt.mpr c1
      refine og_iload_n dX6_init_90 rfl ?_
      refine og_sipush (v := 4096) dX6_init_91 (by decide) ?_
      refine og_icmp_le (tgt := 103) dX6_init_94 (by decide) (fun c2 => ?_) (fun c2 => ?_)
      · have c3 := q3 c1' (Int32.not_lt.mpr c2)
        refine og_iload_n dX6_init_103 rfl ?_
        refine og_lv [(0, .ref m)] rfl ?_
        rw [c3]
        exact end9
      · have c3 := q2 c1' (Int32.not_le.mp c2)
        refine og_sipush (v := 4096) dX6_init_97 (by decide) ?_
        refine og_goto (tgt := 104) dX6_init_100 (by decide) ?_
        refine og_lv [(0, .ref m)] rfl ?_
        refine og_st [.int (nI mu9), .ref m] (by rw [c3]; rfl) ?_
        exact end9
    · have c3 := q1 (Int32.not_le.mp c1)
      refine og_iconst (v := 1) dX6_init_86 (by decide) ?_
      refine og_goto (tgt := 104) dX6_init_87 (by decide) ?_
      refine og_lv [(0, .ref m)] rfl ?_
      refine og_st [.int (nI mu9), .ref m] (by rw [c3]; rfl) ?_
      exact end9
  refine og_aload_n dX6_init_53 rfl rfl ?_
  refine og_iload_n dX6_init_54 rfl ?_
  refine og_iconst (v := 1) dX6_init_55 (by decide) ?_
  refine og_icmp_ge (tgt := 63) dX6_init_56 (by decide) (fun c1 => ?_) (fun c1 => ?_)
  · have c1' : ¬ e9 < 1 := Int32.not_lt.mpr c1
    refine og_iload_n dX6_init_63 rfl ?_
    refine og_sipush (v := 1024) dX6_init_64 (by decide) ?_
    refine og_icmp_le (tgt := 76) dX6_init_67 (by decide) (fun c2 => ?_) (fun c2 => ?_)
    · have c3 := p3 c1' (Int32.not_lt.mpr c2)
      refine og_iload_n dX6_init_76 rfl ?_
      refine og_lv [(0, .ref m), (2, .int u9)] rfl ?_
      rw [c3]
      exact last
    · have c3 := p2 c1' (Int32.not_le.mp c2)
      refine og_sipush (v := 1024) dX6_init_70 (by decide) ?_
      refine og_goto (tgt := 77) dX6_init_73 (by decide) ?_
      refine og_lv [(0, .ref m), (2, .int u9)] rfl ?_
      refine og_st [.int (nI me9), .ref m] (by rw [c3]; rfl) ?_
      exact last
  · have c3 := p1 (Int32.not_le.mp c1)
    refine og_iconst (v := 1) dX6_init_59 (by decide) ?_
    refine og_goto (tgt := 77) dX6_init_60 (by decide) ?_
    refine og_lv [(0, .ref m), (2, .int u9)] rfl ?_
    refine og_st [.int (nI me9), .ref m] (by rw [c3]; rfl) ?_
    exact last
end OMI
