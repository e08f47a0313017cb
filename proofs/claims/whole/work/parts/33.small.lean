/-! THE OBJECT'S SMALL METHODS -/
theorem ob_un_J : ∀ n, n < 1200 → (nI n + 16 - 1) / 16 = nI (ob_un n) := by decide +kernel
section OCA
variable {X : ob_X} {T : ob_T} {V : ob_V} {B : ob_B} {J : ob_J} {R : Room} {Q : ob_r → ob_w → Prop} {k n : Nat}
theorem ct_unitsOf {w : ob_w} {m : Nat} (hm : m < 1200) : ob_C X mX5_unitsOf 0 0 0 [.int (nI m)] w (ob_e (some (.int (nI (ob_un m)))) w) := by
  refine ob_C_of (by decide) rfl (Nat.le_of_ble_eq_true rfl) ?_
  refine og_iload_n dX5_unitsOf_0 rfl ?_
  refine og_bipush (v := 16) dX5_unitsOf_1 (by decide) ?_
  refine og_iadd dX5_unitsOf_3 ?_
  refine og_iconst (v := 1) dX5_unitsOf_4 (by decide) ?_
  refine og_isub dX5_unitsOf_5 ?_
  refine og_bipush (v := 16) dX5_unitsOf_6 (by decide) ?_
  refine og_idiv dX5_unitsOf_8 (by decide) ?_
  refine og_st [.int (nI (ob_un m))] (by rw [ob_un_J m hm]) ?_
  exact og_ireturn (ty := .int) rfl dX5_unitsOf_9 rfl (by decide) (by decide) ⟨rfl, rfl⟩
theorem ct_isKeyLength {w : ob_w} {i : Int32} : ob_C X mX5_isKeyLength 0 0 0 [.int i] w (ob_e (some (ob_cv (decide (1 ≤ i ∧ i ≤ 64)))) w) := by
  refine ob_C_of (by decide) rfl (Nat.le_of_ble_eq_true rfl) ?_
  refine og_lv [(0, .int i)] rfl ?_
  refine og_iload_n dX5_isKeyLength_0 rfl ?_
  refine og_iconst (v := 1) dX5_isKeyLength_1 (by decide) ?_
  refine og_icmp_lt (tgt := 15) dX5_isKeyLength_2 (by decide) (fun h1 => ?_) (fun h1 => ?_)
  · rw [decide_eq_false (fun h => absurd h.1 (Int32.not_le.mpr h1))]
    refine og_iconst (v := 0) dX5_isKeyLength_15 (by decide) ?_
    exact og_ireturn (ty := .boolean) rfl dX5_isKeyLength_16 rfl (by decide) (by decide) ⟨rfl, rfl⟩
  · refine og_iload_n dX5_isKeyLength_5 rfl ?_
    refine og_bipush (v := 64) dX5_isKeyLength_6 (by decide) ?_
    refine og_icmp_gt (tgt := 15) dX5_isKeyLength_8 (by decide) (fun h2 => ?_) (fun h2 => ?_)
    · rw [decide_eq_false (fun h => absurd h.2 (Int32.not_le.mpr h2))]
      refine og_iconst (v := 0) dX5_isKeyLength_15 (by decide) ?_
      exact og_ireturn (ty := .boolean) rfl dX5_isKeyLength_16 rfl (by decide) (by decide) ⟨rfl, rfl⟩
    · rw [decide_eq_true ⟨Int32.not_lt.mp h1, Int32.not_lt.mp h2⟩]
      refine og_iconst (v := 1) dX5_isKeyLength_11 (by decide) ?_
      refine og_goto (tgt := 16) dX5_isKeyLength_12 (by decide) ?_
      exact og_ireturn (ty := .boolean) rfl dX5_isKeyLength_16 rfl (by decide) (by decide) ⟨rfl, rfl⟩
theorem ct_nearest {w : ob_w} {i : Int32} {m : Nat} (hm : 1 ≤ m ∧ m ≤ 4096) : ob_C X mX5_nearest 1 0 0 [.int i, .int (nI m)] w (ob_e (some (.int (nI (min m (max 1 i.toNatClampNeg))))) w) := by
  refine ob_C_of (by decide) rfl (Nat.le_of_ble_eq_true rfl) ?_
  refine og_lv [(0, .int i), (1, .int (nI m))] rfl ?_
  refine og_iconst (v := 1) dX5_nearest_0 (by decide) ?_
  refine og_iload_n dX5_nearest_1 rfl ?_
  refine og_iload_n dX5_nearest_2 rfl ?_
  refine og_mmin dX5_nearest_3 kMminX5_151 (Nat.le_of_ble_eq_true rfl) (Nat.le_of_ble_eq_true rfl) (by decide) (by decide) kMmins kMi kMminc ?_
  refine og_mmax dX5_nearest_6 kMmaxX5_144 (Nat.le_of_ble_eq_true rfl) (Nat.le_of_ble_eq_true rfl) (by decide) (by decide) kMmaxs kMi kMmaxc ?_
  refine og_st [.int (nI (min m (max 1 i.toNatClampNeg)))] ?_ ?_
  · congr 2
    by_cases h1 : i < 1
    · have e : i.toNatClampNeg ≤ 0 := by
        have := Int32.lt_iff_toInt_lt.mp h1
        have h0 : (1 : Int32).toInt = 1 := by decide
        show i.toInt.toNat ≤ 0
        omega
      rw [if_pos (Int32.lt_of_lt_of_le h1 (nI_le (a := 1) (b := m) (by omega) (by omega))), if_neg (Int32.lt_asymm h1), show min m (max 1 i.toNatClampNeg) = 1 by omega]
      rfl
    · obtain ⟨j, hj, rfl⟩ := nI_of (x := i) (fun h => h1 (Int32.lt_trans h (by decide)))
      rw [nI_clamp hj]
      have hj1 : 1 ≤ j := by
        rcases Nat.lt_or_ge j 1 with h | h
        · exact absurd (nI_lt (b := 1) h (by omega)) h1
        · exact h
      rw [show (1 : Int32) = nI 1 from rfl]
      by_cases h2 : j < m
      · rw [if_pos (nI_lt h2 (by omega))]
        by_cases h3 : 1 < j
        · rw [if_pos (nI_lt (a := 1) h3 (by omega)), show min m (max 1 j) = j by omega]
        · rw [if_neg (nI_nlt (b := j) (a := 1) (by omega) (by omega)), show min m (max 1 j) = 1 by omega]
      · rw [if_neg (nI_nlt (by omega) (by omega))]
        by_cases h3 : 1 < m
        · rw [if_pos (nI_lt (a := 1) h3 (by omega)), show min m (max 1 j) = m by omega]
        · rw [if_neg (nI_nlt (b := m) (a := 1) (by omega) (by omega)), show min m (max 1 j) = 1 by omega]
  exact og_ireturn (ty := .int) rfl dX5_nearest_9 rfl (by decide) (by decide) ⟨rfl, rfl⟩
theorem ct_readTape {x tp : Nat} {i : Int32} (hx : T x = some (5, 0)) (h3 : V x 3 = .ref tp) (ht : T tp = some (3, 0)) (hi : V tp 1 = .int i) : ob_C X mX5_readTape 0 0 0 [.ref x] (T, V, B, J) (ob_e (some (.int i)) (T, ob_set V tp 1 (.int 0), B, J)) := by
  refine ob_C_of (by decide) rfl (Nat.le_of_ble_eq_true rfl) ?_
  refine og_aload_n dX5_readTape_0 rfl rfl ?_
  refine og_getf dX5_readTape_1 kfX5_38 (by assumption) (by assumption) ?_
  refine og_getf dX5_readTape_4 kfX5_52 (by assumption) (by assumption) ?_
  refine og_istore_n dX5_readTape_7 (by decide) ?_
  refine og_aload_n dX5_readTape_8 rfl rfl ?_
  refine og_getf dX5_readTape_9 kfX5_38 (by assumption) (by assumption) ?_
  refine og_iconst (v := 0) dX5_readTape_12 (by decide) ?_
  refine og_put dX5_readTape_13 kfX5_52 (by assumption) rfl rfl ?_
  refine og_iload_n dX5_readTape_16 rfl ?_
  exact og_ireturn (ty := .int) rfl dX5_readTape_17 rfl (by decide) (by decide) ⟨rfl, rfl⟩
def ob_IA : String := "java/lang/IllegalArgumentException"
def ob_IS : String := "java/lang/IllegalStateException"
def ob_NE : String := "java/util/NoSuchElementException"
def ob_IO : String := "java/lang/IndexOutOfBoundsException"
theorem ct_readKey {x tp : Nat} {i : Int32} (hx : T x = some (5, 0)) (h3 : V x 3 = .ref tp) (ht : T tp = some (3, 0)) (hi : V tp 1 = .int i) : ob_C X mX5_readKey 6 1 6 [.ref x] (T, V, B, J) (fun r w' => w' = (T, ob_set V tp 1 (.int 0), B, J) ∧ ((1 ≤ i ∧ i ≤ 64) → r = .inl (some (.int i))) ∧ (¬ (1 ≤ i ∧ i ≤ 64) → r = .inr ob_IA)) := by
  refine ob_C_of (by decide) rfl (Nat.le_of_ble_eq_true rfl) ?_
  refine og_lv [(0, .ref x)] rfl ?_
  refine og_aload_n dX5_readKey_0 rfl rfl ?_
  refine og_callVe dX5_readKey_1 kvX5_64 (ct_readTape hx h3 ht hi) rfl hx rfl rfl ⟨by decide, by decide⟩ (by decide) (by decide) (Nat.le_of_ble_eq_true rfl) rfl ?_
  refine og_istore_n dX5_readKey_4 (by decide) ?_
  refine og_iload_n dX5_readKey_5 rfl ?_
  refine og_callSe dX5_readKey_6 ksX5_68 ct_isKeyLength rfl rfl ⟨by decide, by decide⟩ (by decide) (by decide) (Nat.le_of_ble_eq_true rfl) rfl ?_
  by_cases h : 1 ≤ i ∧ i ≤ 64
  · rw [decide_eq_true h]
    refine og_if_ne (tgt := 22) dX5_readKey_9 (by decide) (fun _ => ?_) (fun z9 => absurd z9 (by decide))
    refine og_iload_n dX5_readKey_22 rfl ?_
    exact og_ireturn (ty := .int) rfl dX5_readKey_23 rfl (by decide) (by decide) ⟨rfl, fun _ => rfl, fun h9 => absurd h h9⟩
  · rw [decide_eq_false h]
    refine og_if_ne (tgt := 22) dX5_readKey_9 (by decide) (fun z9 => absurd (rfl) z9) (fun _ => ?_)
    exact og_thr ⟨dX5_readKey_12, dX5_readKey_15, dX5_readKey_16, dX5_readKey_18, dX5_readKey_21⟩ rfl klX5_45 ktIA (text := "no key") (by decide) rfl (by decide) (by decide) (by decide) (by decide) ⟨rfl, fun h9 => absurd h9 h, fun _ => rfl⟩
theorem ct_cpN {x : Nat} (hx : T x = some (5, 0)) (h5 : V x 5 = .null) : ob_C X mX5_currentPlace 6 1 6 [.ref x] (T, V, B, J) (fun r w' => w' = (T, V, B, J) ∧ r = .inr ob_IS) := by
  refine ob_C_of (by decide) rfl (Nat.le_of_ble_eq_true rfl) ?_
  refine og_aload_n dX5_currentPlace_0 rfl rfl ?_
  refine og_getf dX5_currentPlace_1 kfX5_92 (by assumption) (by assumption) ?_
  refine og_ifnonnullN dX5_currentPlace_4 ?_
  exact og_thr ⟨dX5_currentPlace_7, dX5_currentPlace_10, dX5_currentPlace_11, dX5_currentPlace_13, dX5_currentPlace_16⟩ rfl klX5_55 ktIS (text := "no entry is current") (by decide) rfl (by decide) (by decide) (by decide) (by decide) ⟨rfl, rfl⟩
theorem ob_at_plug {tt : ob_t} {c a : Nat} (hn : (ob_ads tt).Nodup) (hc : (ob_ads tt)[c]? = some a) : ∃ z q cl l r, tt = ob_plug z (.inner q a cl l r) ∧ (ob_zl z).length + ob_siz l = c := by
  obtain ⟨z, q, cl, l, r, h⟩ := ob_split tt a [] (List.mem_of_getElem? hc)
  refine ⟨z, q, cl, l, r, h, ?_⟩
  have h : tt = ob_plug z (.inner q a cl l r) := h
  have e : (ob_ads tt)[(ob_zl z).length + ob_siz l]? = some a := by
    rw [h, ob_ads_plug, ob_siz_len l, ob_ads, List.append_assoc, List.getElem?_append_right (by omega)]
    simp
  exact (List.getElem?_inj (List.getElem?_eq_some_iff.mp e).1 hn).mp (e.trans hc.symm)
theorem ct_cp {x t nl a c : Nat} {tt : ob_t} (hx : T x = some (5, 0)) (h2 : V x 2 = .ref t) (h : ob_tr T V t nl tt) (h5 : V x 5 = .ref a) (hc : (ob_ads tt)[c]? = some a) : ob_C X mX5_currentPlace 6 1 6 [.ref x] (T, V, B, J) (ob_e (some (.int (nI c))) (T, V, B, J)) := by
  refine ob_C_of (by decide) rfl (Nat.le_of_ble_eq_true rfl) ?_
  have ht := h.1
  obtain ⟨z, q, cl, l, r, rfl, rfl⟩ := ob_at_plug h.2.2.2.2.2.2 hc
  refine og_aload_n dX5_currentPlace_0 rfl rfl ?_
  refine og_getf dX5_currentPlace_1 kfX5_92 (by assumption) (by assumption) ?_
  refine og_ifnonnull (tgt := 17) dX5_currentPlace_4 (by decide) ?_
  refine og_aload_n dX5_currentPlace_17 rfl rfl ?_
  refine og_getf dX5_currentPlace_18 kfX5_31 (by assumption) (by assumption) ?_
  refine og_aload_n dX5_currentPlace_21 rfl rfl ?_
  refine og_getf dX5_currentPlace_22 kfX5_92 (by assumption) (by assumption) ?_
  refine og_callVe dX5_currentPlace_25 kvX5_193 (ct_placeOf h) rfl ht rfl rfl ⟨by decide, by decide⟩ (by decide) (by decide) (Nat.le_of_ble_eq_true rfl) rfl ?_
  exact og_ireturn (ty := .int) rfl dX5_currentPlace_28 rfl (by decide) (by decide) ⟨rfl, rfl⟩
theorem ct_isFullN {x me t nl hp used mu u : Nat} {tt : ob_t} (hx : T x = some (5, 0)) (h0 : V x 0 = .int (nI me)) (h1 : V x 1 = .ref hp) (h2 : V x 2 = .ref t) (ht : ob_tr T V t nl tt) (hh : T hp = some (1, 0)) (hh0 : V hp 0 = .int (nI mu)) (hh2 : V hp 2 = .int (nI used)) (hb : ob_siz tt ≤ 1024 ∧ me ≤ 1024 ∧ used ≤ 4096 ∧ mu ≤ 4096 ∧ u ≤ 4096) : ob_C X mX5_isFull 1 0 0 [.ref x, .null, .int (nI u)] (T, V, B, J) (ob_e (some (ob_cv (decide (me ≤ ob_siz tt ∨ mu < used + u)))) (T, V, B, J)) := by
  refine ob_C_of (by decide) rfl (Nat.le_of_ble_eq_true rfl) ?_
  refine og_lv [(0, .ref x), (1, .null), (2, .int (nI u))] rfl ?_
  obtain ⟨r1, r7, r6⟩ := ht.2.2.2.2.2.1.top ht.2.2.2.1
  have t1 := ht.1
  have t2 := ht.2.2.1
  refine og_aload_n dX5_isFull_0 rfl rfl ?_
  refine og_ifnonnullN dX5_isFull_1 ?_
  refine og_aload_n dX5_isFull_4 rfl rfl ?_
  refine og_getf dX5_isFull_5 kfX5_31 (by assumption) (by assumption) ?_
  refine og_callVe dX5_isFull_8 kvX5_141 (ct_size t1 t2 r1 r7) rfl t1 rfl rfl ⟨by decide, by decide⟩ (by decide) (by decide) (Nat.le_of_ble_eq_true rfl) rfl ?_
  refine og_aload_n dX5_isFull_11 rfl rfl ?_
  refine og_getf dX5_isFull_12 kfX5_13 (by assumption) (by assumption) ?_
  refine og_icmp_lt (tgt := 22) dX5_isFull_15 (by decide) (fun h => ?_) (fun h => ?_)
  · have h := (nI_ltI (by omega) (by omega)).mp h
    refine og_iconst (v := 0) dX5_isFull_22 (by decide) ?_
    refine og_istore_n dX5_isFull_23 (by decide) ?_
    refine og_aload_n dX5_isFull_24 rfl rfl ?_
    refine og_ifnonnullN dX5_isFull_25 ?_
    refine og_iconst (v := 0) dX5_isFull_28 (by decide) ?_
    refine og_goto (tgt := 39) dX5_isFull_29 (by decide) ?_
    refine og_istore dX5_isFull_39 (by decide) ?_
    refine og_iload_n dX5_isFull_41 rfl ?_
    refine og_if_ne (tgt := 67) dX5_isFull_42 (by decide) (fun z9 => absurd (rfl) z9) (fun _ => ?_)
    refine og_aload_n dX5_isFull_45 rfl rfl ?_
    refine og_getf dX5_isFull_46 kfX5_22 (by assumption) (by assumption) ?_
    refine og_getf dX5_isFull_49 kfX5_174 (by assumption) (by assumption) ?_
    refine og_iload dX5_isFull_52 rfl ?_
    refine og_isub dX5_isFull_54 ?_
    refine og_iload_n dX5_isFull_55 rfl ?_
    refine og_iadd dX5_isFull_56 ?_
    refine og_aload_n dX5_isFull_57 rfl rfl ?_
    refine og_getf dX5_isFull_58 kfX5_22 (by assumption) (by assumption) ?_
    refine og_getf dX5_isFull_61 kfX5_207 (by assumption) (by assumption) ?_
    refine og_st [.int (nI mu), .int (nI (used + u))] (by rw [Int32.sub_zero, nI_add]; rfl) ?_
    refine og_icmp_le (tgt := 71) dX5_isFull_64 (by decide) (fun h3 => ?_) (fun h3 => ?_)
    · have h3 := (nI_leI (by omega) (by omega)).mp h3
      rw [decide_eq_false (by omega)]
      refine og_iconst (v := 0) dX5_isFull_71 (by decide) ?_
      exact og_ireturn (ty := .boolean) rfl dX5_isFull_72 rfl (by decide) (by decide) ⟨rfl, rfl⟩
    · have h3 : mu < used + u := by
        rcases Nat.lt_or_ge mu (used + u) with h9 | h9
        · exact h9
        · exact absurd (nI_le h9 (by omega)) h3
      rw [decide_eq_true (Or.inr h3)]
      refine og_iconst (v := 1) dX5_isFull_67 (by decide) ?_
      refine og_goto (tgt := 72) dX5_isFull_68 (by decide) ?_
      exact og_ireturn (ty := .boolean) rfl dX5_isFull_72 rfl (by decide) (by decide) ⟨rfl, rfl⟩
  · have h : me ≤ ob_siz tt := by
      rcases Nat.lt_or_ge (ob_siz tt) me with h9 | h9
      · exact absurd (nI_lt h9 (by omega)) h
      · exact h9
    rw [decide_eq_true (Or.inl h)]
    refine og_iconst (v := 1) dX5_isFull_18 (by decide) ?_
    refine og_goto (tgt := 23) dX5_isFull_19 (by decide) ?_
    refine og_istore_n dX5_isFull_23 (by decide) ?_
    refine og_aload_n dX5_isFull_24 rfl rfl ?_
    refine og_ifnonnullN dX5_isFull_25 ?_
    refine og_iconst (v := 0) dX5_isFull_28 (by decide) ?_
    refine og_goto (tgt := 39) dX5_isFull_29 (by decide) ?_
    refine og_istore dX5_isFull_39 (by decide) ?_
    refine og_iload_n dX5_isFull_41 rfl ?_
    refine og_if_ne (tgt := 67) dX5_isFull_42 (by decide) (fun _ => ?_) (fun z9 => absurd z9 (by decide))
    refine og_iconst (v := 1) dX5_isFull_67 (by decide) ?_
    refine og_goto (tgt := 72) dX5_isFull_68 (by decide) ?_
    exact og_ireturn (ty := .boolean) rfl dX5_isFull_72 rfl (by decide) (by decide) ⟨rfl, rfl⟩
theorem ct_isFullS {x hp used mu u a b ub : Nat} (hx : T x = some (5, 0)) (h1 : V x 1 = .ref hp) (ha : T a = some (2, 0)) (ha2 : V a 2 = .ref b) (hb0 : T b = some (0, 0)) (hb1 : V b 1 = .int (nI ub)) (hh : T hp = some (1, 0)) (hh0 : V hp 0 = .int (nI mu)) (hh2 : V hp 2 = .int (nI used)) (hb : ub ≤ used ∧ used ≤ 4096 ∧ mu ≤ 4096 ∧ u ≤ 4096) : ob_C X mX5_isFull 1 0 0 [.ref x, .ref a, .int (nI u)] (T, V, B, J) (ob_e (some (ob_cv (decide (mu < used - ub + u)))) (T, V, B, J)) := by
  refine ob_C_of (by decide) rfl (Nat.le_of_ble_eq_true rfl) ?_
  refine og_lv [(0, .ref x), (1, .ref a), (2, .int (nI u))] rfl ?_
  refine og_aload_n dX5_isFull_0 rfl rfl ?_
  refine og_ifnonnull (tgt := 22) dX5_isFull_1 (by decide) ?_
  refine og_iconst (v := 0) dX5_isFull_22 (by decide) ?_
  refine og_istore_n dX5_isFull_23 (by decide) ?_
  refine og_aload_n dX5_isFull_24 rfl rfl ?_
  refine og_ifnonnull (tgt := 32) dX5_isFull_25 (by decide) ?_
  refine og_aload_n dX5_isFull_32 rfl rfl ?_
  refine og_getf dX5_isFull_33 kfX5_196 (by assumption) (by assumption) ?_
  refine og_getf dX5_isFull_36 kfX5_202 (by assumption) (by assumption) ?_
  refine og_istore dX5_isFull_39 (by decide) ?_
  refine og_iload_n dX5_isFull_41 rfl ?_
  refine og_if_ne (tgt := 67) dX5_isFull_42 (by decide) (fun z9 => absurd (rfl) z9) (fun _ => ?_)
  refine og_aload_n dX5_isFull_45 rfl rfl ?_
  refine og_getf dX5_isFull_46 kfX5_22 (by assumption) (by assumption) ?_
  refine og_getf dX5_isFull_49 kfX5_174 (by assumption) (by assumption) ?_
  refine og_iload dX5_isFull_52 rfl ?_
  refine og_isub dX5_isFull_54 ?_
  refine og_iload_n dX5_isFull_55 rfl ?_
  refine og_iadd dX5_isFull_56 ?_
  refine og_aload_n dX5_isFull_57 rfl rfl ?_
  refine og_getf dX5_isFull_58 kfX5_22 (by assumption) (by assumption) ?_
  refine og_getf dX5_isFull_61 kfX5_207 (by assumption) (by assumption) ?_
  refine og_st [.int (nI mu), .int (nI (used - ub + u))] (by rw [nI_sub hb.1, nI_add]) ?_
  refine og_icmp_le (tgt := 71) dX5_isFull_64 (by decide) (fun h3 => ?_) (fun h3 => ?_)
  · have h3 := (nI_leI (by omega) (by omega)).mp h3
    rw [decide_eq_false (by omega)]
    refine og_iconst (v := 0) dX5_isFull_71 (by decide) ?_
    exact og_ireturn (ty := .boolean) rfl dX5_isFull_72 rfl (by decide) (by decide) ⟨rfl, rfl⟩
  · have h3 : mu < used - ub + u := by
      rcases Nat.lt_or_ge mu (used - ub + u) with h9 | h9
      · exact h9
      · exact absurd (nI_le h9 (by omega)) h3
    rw [decide_eq_true h3]
    refine og_iconst (v := 1) dX5_isFull_67 (by decide) ?_
    refine og_goto (tgt := 72) dX5_isFull_68 (by decide) ?_
    exact og_ireturn (ty := .boolean) rfl dX5_isFull_72 rfl (by decide) (by decide) ⟨rfl, rfl⟩
/-- bytes of an entry copied into the result -/
theorem ct_goTo {x me mu hp edge hb t nl tp tb rs rr cap N a : Nat} {l : List ob_bk} {tt : ob_t} {K : ob_k} (h : ob_O T V B x me mu hp edge hb t nl tp tb rs rr cap N l tt K) (ha : a ∈ ob_ads tt) : ob_C X mX5_goTo 3 0 0 [.ref x, .ref a] (T, V, B, J) (fun r w' => r = .inl (some (.int (nI (K a).1.length))) ∧ ∃ B', w' = (T, ob_set (ob_set V x 5 (.ref a)) rs 1 (.int (nI (K a).1.length)), B', J) ∧ (∀ y, y ≠ rr → B' y = B y) ∧ ob_bs B' rr 0 (K a).1) := by
  refine ob_C_of (by decide) rfl (Nat.le_of_ble_eq_true rfl) ?_
  obtain ⟨⟨x1, x2, x3, x4, x5, x6, x7, x8⟩, hs, ⟨t1, t2, t3, t4, t5⟩, ⟨en, -⟩, ⟨r1, r2, r3, r4, r5, r6, r7, r8, r9, r10, r11⟩, n1, n2, n3⟩ := h
  have aT := (t1.2.2.2.2.2.1.2 a ha).1
  obtain ⟨e1, e2, e3, e4, e5, b, s, e6, e7, e8⟩ := en a ha
  obtain ⟨k1, k2, k3, k4⟩ := ob_sg_mem hs.2.2.2.2.2.2.2.2.1.2.1 _ _ _ _ e7
  have hle := (ob_til_le hs.2.2.2.2.2.2.2.2.1.2.2.2).2 _ e7
  have hun := ob_un_le ((K a).1.length + (K a).2.length)
  have hxT : ∀ y c z, T y = some (c, z) → c ≠ 5 → y ≠ x := fun y c z hy hc e => by rw [e, x1] at hy; cases hy; exact hc rfl
  have far : ∀ y c z, T y = some (c, z) → c ≠ 5 → ∀ j, ob_set V x 5 (.ref a) y j = V y j := fun y c z hy hc j => ob_set_a _ _ _ _ j (hxT y c z hy hc)
  have fx : ∀ j, j ≠ 5 → ob_set V x 5 (.ref a) x j = V x j := fun j hj => ob_set_k _ _ _ _ _ hj
  refine og_lv [(0, .ref x), (1, .ref a)] rfl ?_
  refine og_aload_n dX5_goTo_0 rfl rfl ?_
  refine og_aload_n dX5_goTo_1 rfl rfl ?_
  refine og_put dX5_goTo_2 kfX5_92 (by assumption) rfl rfl ?_
  have y1 : ob_set V x 5 (.ref a) x 1 = .ref hp := by rw [fx _ (by decide)]; exact x3
  have y4 : ob_set V x 5 (.ref a) x 4 = .ref rs := by rw [fx _ (by decide)]; exact x6
  have y2 : ob_set V x 5 (.ref a) a 2 = .ref b := by rw [far a 2 0 aT (by decide)]; exact e6
  have y0 : ob_set V x 5 (.ref a) a 0 = .int (nI (K a).1.length) := by rw [far a 2 0 aT (by decide)]; exact e4
  have hhT := hs.1
  refine og_aload_n dX5_goTo_5 rfl rfl ?_
  refine og_getf dX5_goTo_6 kfX5_22 (by assumption) (by assumption) ?_
  refine og_aload_n dX5_goTo_9 rfl rfl ?_
  refine og_getf dX5_goTo_10 kfX5_196 (by assumption) (by assumption) ?_
  refine og_iconst (v := 0) dX5_goTo_13 (by decide) ?_
  refine og_aload_n dX5_goTo_14 rfl rfl ?_
  refine og_getf dX5_goTo_15 kfX5_230 (by assumption) (by assumption) ?_
  refine og_aload_n dX5_goTo_18 rfl rfl ?_
  refine og_getf dX5_goTo_19 kfX5_42 (by assumption) (by assumption) ?_
  refine og_callVe dX5_goTo_22 kvX5_234 (ct_read (sk := 0) (s := s) (hs.keep (fun y c z hy hc => far y c z hy (by omega)) hs.2.2.2.2.2.2.2.1) k1 (by rw [far b 0 0 k1 (by decide)]; exact k2) (by simp only at hle; omega) r5 (by rw [far rs 3 0 r5 (by decide)]; exact r6) r7 (by omega) (by omega)) rfl hhT rfl rfl ⟨by decide, by decide⟩ (by decide) (by decide) (Nat.le_of_ble_eq_true rfl) rfl ?_
  have xrs : x ≠ rs := (hxT rs 3 0 r5 (by decide)).symm
  have y44 : ob_set (ob_set V x 5 (.ref a)) rs 1 (.int (nI (K a).1.length)) x 4 = .ref rs := by rw [ob_set_a _ _ _ _ _ xrs]; exact y4
  have y11 : ob_set (ob_set V x 5 (.ref a)) rs 1 (.int (nI (K a).1.length)) rs 1 = .int (nI (K a).1.length) := ob_set_s _ _ _ _
  refine og_aload_n dX5_goTo_25 rfl rfl ?_
  refine og_getf dX5_goTo_26 kfX5_42 (by assumption) (by assumption) ?_
  refine og_getf dX5_goTo_29 kfX5_52 (by assumption) (by assumption) ?_
  refine og_ireturn (ty := .int) rfl dX5_goTo_32 rfl (by decide) (by decide) ⟨rfl, _, rfl, fun y hy => by simp [ob_row, hy], ?_⟩
  refine (e8.app.1).same (fun j hj => ?_)
  simp [ob_row, va_cpy, hj]
theorem ct_showValue {x me mu hp edge hb t nl tp tb rs rr cap N a : Nat} {l : List ob_bk} {tt : ob_t} {K : ob_k} (h : ob_O T V B x me mu hp edge hb t nl tp tb rs rr cap N l tt K) (ha : a ∈ ob_ads tt) : ob_C X mX5_showValue 3 0 0 [.ref x, .ref a] (T, V, B, J) (fun r w' => r = .inl (some (.int (nI (K a).2.length))) ∧ ∃ B', w' = (T, ob_set V rs 1 (.int (nI (K a).2.length)), B', J) ∧ (∀ y, y ≠ rr → B' y = B y) ∧ ob_bs B' rr 0 (K a).2) := by
  refine ob_C_of (by decide) rfl (Nat.le_of_ble_eq_true rfl) ?_
  obtain ⟨⟨x1, x2, x3, x4, x5, x6, x7, x8⟩, hs, ⟨t1, t2, t3, t4, t5⟩, ⟨en, -⟩, ⟨r1, r2, r3, r4, r5, r6, r7, r8, r9, r10, r11⟩, n1, n2, n3⟩ := h
  have aT := (t1.2.2.2.2.2.1.2 a ha).1
  obtain ⟨e1, e2, e3, e4, e5, b, s, e6, e7, e8⟩ := en a ha
  obtain ⟨k1, k2, k3, k4⟩ := ob_sg_mem hs.2.2.2.2.2.2.2.2.1.2.1 _ _ _ _ e7
  have hle := (ob_til_le hs.2.2.2.2.2.2.2.2.1.2.2.2).2 _ e7
  have hun := ob_un_le ((K a).1.length + (K a).2.length)
  have hxT : ∀ y c z, T y = some (c, z) → c ≠ 5 → y ≠ x := fun y c z hy hc e => by rw [e, x1] at hy; cases hy; exact hc rfl
  have hhT := hs.1
  refine og_lv [(0, .ref x), (1, .ref a)] rfl ?_
  refine og_aload_n dX5_showValue_0 rfl rfl ?_
  refine og_getf dX5_showValue_1 kfX5_22 (by assumption) (by assumption) ?_
  refine og_aload_n dX5_showValue_4 rfl rfl ?_
  refine og_getf dX5_showValue_5 kfX5_196 (by assumption) (by assumption) ?_
  refine og_aload_n dX5_showValue_8 rfl rfl ?_
  refine og_getf dX5_showValue_9 kfX5_230 (by assumption) (by assumption) ?_
  refine og_aload_n dX5_showValue_12 rfl rfl ?_
  refine og_getf dX5_showValue_13 kfX5_225 (by assumption) (by assumption) ?_
  refine og_aload_n dX5_showValue_16 rfl rfl ?_
  refine og_getf dX5_showValue_17 kfX5_42 (by assumption) (by assumption) ?_
  refine og_callVe dX5_showValue_20 kvX5_234 (ct_read (sk := (K a).1.length) (s := s) hs k1 k2 (by simp only at hle; omega) r5 r6 r7 (by omega) (by omega)) rfl hhT rfl rfl ⟨by decide, by decide⟩ (by decide) (by decide) (Nat.le_of_ble_eq_true rfl) rfl ?_
  have xrs : x ≠ rs := (hxT rs 3 0 r5 (by decide)).symm
  have y44 : ob_set V rs 1 (.int (nI (K a).2.length)) x 4 = .ref rs := by rw [ob_set_a _ _ _ _ _ xrs]; exact x6
  have y11 : ob_set V rs 1 (.int (nI (K a).2.length)) rs 1 = .int (nI (K a).2.length) := ob_set_s _ _ _ _
  refine og_aload_n dX5_showValue_23 rfl rfl ?_
  refine og_getf dX5_showValue_24 kfX5_42 (by assumption) (by assumption) ?_
  refine og_getf dX5_showValue_27 kfX5_52 (by assumption) (by assumption) ?_
  refine og_ireturn (ty := .int) rfl dX5_showValue_30 rfl (by decide) (by decide) ⟨rfl, _, rfl, fun y hy => by simp [ob_row, hy], ?_⟩
  refine (e8.app.2).same (fun j hj => ?_)
  simp [ob_row, va_cpy, hj, Nat.add_assoc]
end OCA
