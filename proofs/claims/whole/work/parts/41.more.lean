/-! THE OBJECT'S CALLS: removeFrom, clear, sound -/
section OCJ
variable {X : ob_X} {T : ob_T} {V V' : ob_V} {B B' : ob_B} {J : ob_J} {R : Room} {Q : ob_r → ob_w → Prop} {k n : Nat} {x me mu hp edge hb t nl tp tb rs rr cap N : Nat} {l : List ob_bk} {tt tt' : ob_t} {K : ob_k} {S : sp_S}
theorem rmf_loop {c r : Nat} {iv : Int32} {E0 : ob_E} {tr : List Nat × List Nat} (hcr : c + r ≤ E0.length) (hl0 : E0.length ≤ 1024) (tT : T t = some (4, 0)) (r1 : T tp = some (3, 0)) (r5 : T rs = some (3, 0)) (hR : 7 ≤ R.frames ∧ 420 ≤ R.locals) (hk : k ≤ R.cells) (hs : n ≤ R.slots) : ∀ (d i : Nat) (V : ob_V) (N : Nat) (l : List ob_bk) (tt : ob_t) (cur : Option Nat), i + d = r → (i = 0 → cur = some c) → (0 < i → cur = none) → ob_O T V B x me mu hp edge hb t nl tp tb rs rr cap N l tt K → ob_Y V B x tp tb rs rr tt K (E0.take c ++ E0.drop (c + i), cur, tr) →
    (∀ V' N' l' tt' cur', (∀ y c z, T y = some (c, z) → 6 ≤ c → ∀ j, V' y j = V y j) → (r = 0 → cur' = some c) → (0 < r → cur' = none) → ob_O T V' B x me mu hp edge hb t nl tp tb rs rr cap N' l' tt' K → ob_Y V' B x tp tb rs rr tt' K (E0.take c ++ E0.drop (c + r), cur', tr) → Q (.inl (some (.int (nI r)))) (T, V', B, J)) →
    ob_G X mX5_removeFrom R Q 40 [(0, .ref x), (2, .int (nI c)), (3, .int (nI r)), (4, .int (nI i))] [] (T, V, B, J) k n := by
  intro d
  induction d with
  | zero =>
    intro i V N l tt cur hid hc0 hc1 h hy kk
    have e : i = r := by omega
    subst e
    refine og_iload dX5_removeFrom_40 rfl ?_
    refine og_iload_n dX5_removeFrom_42 rfl ?_
    refine og_icmp_ge (tgt := 73) dX5_removeFrom_43 (by decide) (fun _ => ?_) (fun z9 => absurd (Int32.le_refl _) z9)
    refine og_iload_n dX5_removeFrom_73 rfl ?_
    exact og_ireturn (ty := .int) rfl dX5_removeFrom_74 rfl hk hs (kk V N l tt cur (fun _ _ _ _ _ _ => rfl) hc0 hc1 h hy)
  | succ d ih =>
    intro i V N l tt cur hid hc0 hc1 h hy kk
    have x1 := h.1.1
    have x4 := h.1.2.2.2.1
    have y1 := hy.1
    have hlen : (ob_ads tt).length = E0.length - i := by
      have := congrArg List.length y1
      simp only [List.length_append, List.length_take, List.length_drop, List.length_map] at this
      omega
    have hcl : c < (ob_ads tt).length := by omega
    have ha := List.getElem?_eq_getElem hcl
    have ham : (ob_ads tt)[c] ∈ ob_ads tt := List.getElem_mem hcl
    generalize (ob_ads tt)[c] = a at *
    refine og_iload dX5_removeFrom_40 rfl ?_
    refine og_iload_n dX5_removeFrom_42 rfl ?_
    refine og_icmp_ge (tgt := 73) dX5_removeFrom_43 (by decide) (fun z9 => absurd z9 (nI_ge (by omega) (by omega))) (fun _ => ?_)
    refine og_aload_n dX5_removeFrom_46 rfl rfl ?_
    refine og_getf dX5_removeFrom_47 kfX5_31 (by assumption) (by assumption) ?_
    refine og_iload_n dX5_removeFrom_50 rfl ?_
    refine og_callVe dX5_removeFrom_51 kvX5_122 (ob_pickO h (by omega)) rfl tT rfl rfl ⟨Nat.le_trans (by decide) hR.1, Nat.le_trans (by decide) hR.2⟩ hk hs (Nat.le_of_ble_eq_true rfl) rfl ?_
    rw [ha]
    refine og_astore dX5_removeFrom_54 (by decide) rfl ?_
    refine og_aload dX5_removeFrom_56 rfl rfl ?_
    refine og_ifnull dX5_removeFrom_58 ?_
    refine og_aload_n dX5_removeFrom_61 rfl rfl ?_
    refine og_aload dX5_removeFrom_62 rfl rfl ?_
    refine og_callVn dX5_removeFrom_64 kvX5_112 (ct_drop (o := cur.bind (fun i => (ob_ads tt)[i]?)) h ham hy.2.1) rfl x1 rfl rfl ⟨hR.1, Nat.le_trans (by decide) hR.2⟩ hk hs (Nat.le_of_ble_eq_true rfl) rfl (fun E w' h9 => by obtain ⟨_, _, _, _, _, _, h9, _⟩ := h9; cases h9) (fun v w' h9 => ?_)
    obtain ⟨V2, N2, l2, tt2, L1, L2, hv, rfl, o2, a1, a2, v5, kp⟩ := h9
    cases hv
    have hn := h.2.2.1.1.2.2.2.2.2.2
    have eL : c = L1.length := by
      have e2 : (ob_ads tt)[L1.length]? = some a := by rw [a1]; simp
      exact (List.getElem?_inj hcl hn).mp (ha.trans e2.symm)
    have hy2 := hy.drop (tt' := tt2) (V' := V2) hn a1 a2 v5 (kp tp 3 0 r1 (Or.inl rfl)) (kp rs 3 0 r5 (Or.inl rfl))
    rw [← eL] at hy2
    have eE : (E0.take c ++ E0.drop (c + i)).eraseIdx c = E0.take c ++ E0.drop (c + (i + 1)) := by
      rw [List.eraseIdx_append_of_length_le (by rw [List.length_take]; omega), List.length_take, show c - min c E0.length = 0 by omega, List.eraseIdx_zero, List.tail_drop]
      rfl
    have eC : sp_cd cur c = none := by
      rcases Nat.eq_zero_or_pos i with h0 | h0
      · rw [hc0 h0]; simp [sp_cd]
      · rw [hc1 h0]; rfl
    have hy3 : ob_Y V2 B x tp tb rs rr tt2 K (E0.take c ++ E0.drop (c + (i + 1)), none, tr) := by
      rw [← eE, ← eC]; exact hy2
    refine og_iinc dX5_removeFrom_67 rfl (nI_1 i) (by decide) ?_
    refine og_goto (tgt := 40) dX5_removeFrom_70 (by decide) ?_
    refine og_lv [(0, .ref x), (2, .int (nI c)), (3, .int (nI r)), (4, .int (nI (i + 1)))] rfl ?_
    refine ih (i + 1) V2 N2 l2 tt2 none (by omega) (fun h0 => by omega) (fun _ => rfl) o2 hy3 (fun V' N' l' tt' cur' f1 f2 f3 f4 f5 => kk V' N' l' tt' cur' (fun y c z hy9 h6 j => ?_) f2 f3 f4 f5)
    rw [f1 y c z hy9 h6 j, kp y c z hy9 (Or.inr h6) j]
theorem ct_removeFrom {iv : Int32} (hI : ob_I T V B x me mu cap S) : ob_C X mX5_removeFrom 8 3 20 [.ref x, .int iv] (T, V, B, J) (ob_qx T V B J x me mu cap ob_IA ob_IS (sp_rmf S iv)) := by
  obtain ⟨hp, edge, hb, t, nl, tp, tb, rs, rr, N, l, tt, K, h, hy⟩ := hI
  refine ob_C_of (by decide) rfl (Nat.le_of_ble_eq_true rfl) ?_
  obtain ⟨⟨x1, x2, x3, x4, x5, x6, x7, x8⟩, hs, ⟨t1, t2, t3, t4, t5⟩, en, ⟨r1, r2, r3, r4, r5, r6, r7, r8, r9, r10, r11⟩, n1, n2, n3⟩ := id h
  obtain ⟨y1, y2, y3, ⟨y4, y5, y6⟩, y7, y8, y9⟩ := id hy
  have tT := t1.1
  have hlen := h.len
  refine og_lv [(0, .ref x), (1, .int iv)] rfl ?_
  refine og_iload_n dX5_removeFrom_0 rfl ?_
  refine og_if_ge (tgt := 14) dX5_removeFrom_1 (by decide) (fun c1 => ?_) (fun c1 => ?_)
  rotate_left
  · rw [show sp_rmf S iv = (1, 0, S) from if_pos (Int32.not_le.mp c1)]
    exact og_thr ⟨dX5_removeFrom_4, dX5_removeFrom_7, dX5_removeFrom_8, dX5_removeFrom_10, dX5_removeFrom_13⟩ rfl klX5_45 ktIA (text := "fewer than none") (by decide) rfl (by decide) (by decide) (by decide) (by decide) ⟨_, _, _, _, rfl, ob_WX.rf, ⟨_, _, _, _, _, _, _, _, _, _, _, _, _, h, hy⟩, ob_an1⟩
  have c1' : ¬ iv < 0 := Int32.not_lt.mpr c1
  obtain ⟨j, hj, rfl⟩ := nI_of c1'
  refine og_aload_n dX5_removeFrom_14 rfl rfl ?_
  cases hc : S.2.1 with
  | none =>
    have e : sp_rmf S (nI j) = (2, 0, S) := by simp only [sp_rmf, hc, if_neg c1']
    rw [e]
    refine og_callVx dX5_removeFrom_15 kvX5_134 (ct_cpN x1 (by rw [y2, hc]; rfl)) rfl x1 rfl rfl ⟨by decide, by decide⟩ (by decide) (by decide) (Nat.le_of_ble_eq_true rfl) rfl (fun E w' h9 => ?_) (fun v w' h9 => by cases h9.2)
    obtain ⟨rfl, h9⟩ := h9
    cases h9
    exact ⟨_, _, _, _, rfl, ob_WX.rf, ⟨_, _, _, _, _, _, _, _, _, _, _, _, _, h, hy⟩, ob_an2⟩
  | some c =>
    obtain ⟨a, hca, hxa, hcl⟩ := hy.cur hc
    have e : sp_rmf S (nI j) = (0, nI (min j (S.1.length - c - 1) + 1), (S.1.take c ++ S.1.drop (c + (min j (S.1.length - c - 1) + 1)), none, S.2.2)) := by simp only [sp_rmf, hc, if_neg c1', nI_clamp hj]
    rw [e]
    have el : S.1.length = (ob_ads tt).length := by rw [y1, List.length_map]
    refine og_callVe dX5_removeFrom_15 kvX5_134 (ct_cp x1 x4 t1 hxa hca) rfl x1 rfl rfl ⟨by decide, by decide⟩ (by decide) (by decide) (Nat.le_of_ble_eq_true rfl) rfl ?_
    obtain ⟨q1, q7, q6⟩ := t1.2.2.2.2.2.1.top t1.2.2.2.1
    refine og_istore_n dX5_removeFrom_18 (by decide) ?_
    refine og_iload_n dX5_removeFrom_19 rfl ?_
    refine og_aload_n dX5_removeFrom_20 rfl rfl ?_
    refine og_getf dX5_removeFrom_21 kfX5_31 (by assumption) (by assumption) ?_
    refine og_callVe dX5_removeFrom_24 kvX5_141 (ct_size tT t1.2.2.1 q1 q7) rfl tT rfl rfl ⟨by decide, by decide⟩ (by decide) (by decide) (Nat.le_of_ble_eq_true rfl) rfl ?_
    refine og_iload_n dX5_removeFrom_27 rfl ?_
    refine og_isub dX5_removeFrom_28 ?_
    refine og_iconst (v := 1) dX5_removeFrom_29 (by decide) ?_
    refine og_isub dX5_removeFrom_30 ?_
    have hz : ob_siz tt = S.1.length := by rw [ob_siz_len, el]
    refine og_st [.int (nI (S.1.length - c - 1)), .int (nI j)] (by rw [hz, nI_sub (by omega), show (1 : Int32) = nI 1 from rfl, nI_sub (by omega)]; rfl) ?_
    refine og_mmin dX5_removeFrom_31 kMminX5_151 (by decide) (by decide) (by decide) (by decide) kMmins kMi kMminc ?_
    refine og_st [.int (nI (min j (S.1.length - c - 1)))] ?_ ?_
    · by_cases h9 : S.1.length - c - 1 < j
      · rw [if_pos (nI_lt h9 hj), Nat.min_eq_right (by omega)]
      · rw [if_neg (nI_nlt (by omega) (by omega)), Nat.min_eq_left (by omega)]
    generalize hm : min j (S.1.length - c - 1) = m at *
    refine og_iconst (v := 1) dX5_removeFrom_34 (by decide) ?_
    refine og_iadd dX5_removeFrom_35 ?_
    refine og_istore_n dX5_removeFrom_36 (by decide) ?_
    refine og_iconst (v := 0) dX5_removeFrom_37 (by decide) ?_
    refine og_istore dX5_removeFrom_38 (by decide) ?_
    refine og_lv [(0, .ref x), (2, .int (nI c)), (3, .int (nI (m + 1))), (4, .int (nI 0))] (by rw [← nI_1]; rfl) ?_
    refine rmf_loop (iv := 0) (c := c) (r := m + 1) (E0 := S.1) (tr := S.2.2) (by omega) (by omega) tT r1 r5 ⟨by decide, by decide⟩ (by decide) (by decide) (m + 1) 0 V N l tt (some c) (by omega) (fun _ => rfl) (fun h => by omega) h (by rw [Nat.add_zero, List.take_append_drop, ← hc]; exact hy) ?_
    intro V' N' l' tt' cur' f1 f2 f3 f4 f5
    rw [f3 (by omega)] at f5
    exact ⟨_, _, _, _, rfl, ⟨fun _ _ h => h, fun y c z hy h6 _ => ⟨f1 y c z hy h6, rfl, rfl⟩⟩, ⟨_, _, _, _, _, _, _, _, _, _, _, _, _, f4, f5⟩, ob_an0 rfl⟩
theorem ct_clear (hI : ob_I T V B x me mu cap S) : ob_C X mX5_clear 8 3 20 [.ref x] (T, V, B, J) (ob_qx T V B J x me mu cap ob_IA ob_IS (sp_clr S)) := by
  obtain ⟨hp, edge, hb, t, nl, tp, tb, rs, rr, N, l, tt, K, h, hy⟩ := hI
  refine ob_C_of (by decide) rfl (Nat.le_of_ble_eq_true rfl) ?_
  obtain ⟨⟨x1, x2, x3, x4, x5, x6, x7, x8⟩, hs, ⟨t1, t2, t3, t4, t5⟩, en, ⟨r1, r2, r3, r4, r5, r6, r7, r8, r9, r10, r11⟩, n1, n2, n3⟩ := id h
  obtain ⟨y1, y2, y3, ⟨y4, y5, y6⟩, y7, y8, y9⟩ := id hy
  have tT := t1.1
  have hhT := hs.1
  obtain ⟨q1, q7, q6⟩ := t1.2.2.2.2.2.1.top t1.2.2.2.1
  refine og_lv [(0, .ref x)] rfl ?_
  refine og_aload_n dX5_clear_0 rfl rfl ?_
  refine og_getf dX5_clear_1 kfX5_31 (by assumption) (by assumption) ?_
  refine og_callVe dX5_clear_4 kvX5_141 (ct_size tT t1.2.2.1 q1 q7) rfl tT rfl rfl ⟨by decide, by decide⟩ (by decide) (by decide) (Nat.le_of_ble_eq_true rfl) rfl ?_
  refine og_istore_n dX5_clear_7 (by decide) ?_
  refine og_aload_n dX5_clear_8 rfl rfl ?_
  refine og_getf dX5_clear_9 kfX5_31 (by assumption) (by assumption) ?_
  refine og_callVe dX5_clear_12 kvX5_154 (ct_Tempty tT t1.2.1) rfl tT rfl rfl ⟨by decide, by decide⟩ (by decide) (by decide) (Nat.le_of_ble_eq_true rfl) rfl ?_
  have nx : ∀ y c z, T y = some (c, z) → c ≠ 5 → y ≠ x := fun y c z hy hc e => by rw [e, x1] at hy; cases hy; exact hc rfl
  have xt : x ≠ t := (nx t 4 0 tT (by decide)).symm
  have k1 : ∀ y c z, T y = some (c, z) → c ≠ 4 → ∀ j, ob_set V t 2 (.ref nl) y j = V y j := fun y c z hy hc j => ob_set_a _ _ _ _ _ (fun e => by rw [e, tT] at hy; cases hy; exact hc rfl)
  have z1 : ob_set V t 2 (.ref nl) x 1 = .ref hp := by rw [k1 x 5 0 x1 (by decide)]; exact x3
  have tr1 : ob_tr T (ob_set V t 2 (.ref nl)) t nl .leaf := ⟨tT, by rw [ob_set_k _ _ _ _ _ (by decide)]; exact t1.2.1, ob_set_s _ _ _ _, by
    obtain ⟨a1, a2, a3, a4, a5⟩ := t1.2.2.2.1
    exact ⟨a1, by rw [k1 nl 2 0 a1 (by decide)]; exact a2, by rw [k1 nl 2 0 a1 (by decide)]; exact a3, by rw [k1 nl 2 0 a1 (by decide)]; exact a4, by rw [k1 nl 2 0 a1 (by decide)]; exact a5⟩, by rw [k1 nl 2 0 t1.2.2.2.1.1 (by decide)]; exact t1.2.2.2.2.1, ⟨trivial, by simp [ob_ads]⟩, by simp [ob_ads]⟩
  have hs1 : ob_hs T (ob_set V t 2 (.ref nl)) B hp edge hb mu cap (sp_us ((ob_ads tt).map K)) l := hs.keep (fun y c z hy hc => k1 y c z hy (by omega)) hs.2.2.2.2.2.2.2.1
  refine og_aload_n dX5_clear_15 rfl rfl ?_
  refine og_getf dX5_clear_16 kfX5_22 (by assumption) (by assumption) ?_
  refine og_callVn dX5_clear_19 kvX5_157 (ct_Hempty hs1 n3) rfl hhT rfl rfl ⟨by decide, by decide⟩ (by decide) (by decide) (Nat.le_of_ble_eq_true rfl) rfl (fun E w' h9 => by obtain ⟨_, _, _, h9, _⟩ := h9; cases h9) (fun v w' h9 => ?_)
  obtain ⟨T2, V2, l2, hv, rfl, hg2, hs2, nt2⟩ := h9
  cases hv
  have xT2 := hg2.1 _ _ x1
  have k2 : ∀ y c z, T y = some (c, z) → 2 ≤ c → ∀ j, V2 y j = ob_set V t 2 (.ref nl) y j := fun y c z hy h2 j => hg2.2 y c z hy (by omega) (fun e => by rw [e, hhT] at hy; cases hy; omega) j
  refine og_aload_n dX5_clear_22 rfl rfl ?_
  refine og_null dX5_clear_23 ?_
  refine og_put dX5_clear_24 kfX5_92 (by assumption) rfl rfl ?_
  refine og_aload_n dX5_clear_27 rfl rfl ?_
  refine og_iconst (v := 0) dX5_clear_28 (by decide) ?_
  refine og_put dX5_clear_29 kfX5_158 (by assumption) rfl rfl ?_
  refine og_aload_n dX5_clear_32 rfl rfl ?_
  refine og_iconst (v := 0) dX5_clear_33 (by decide) ?_
  refine og_put dX5_clear_34 kfX5_161 (by assumption) rfl rfl ?_
  refine og_iload_n dX5_clear_37 rfl ?_
  generalize hV3 : ob_set (ob_set (ob_set V2 x 5 .null) x 6 (.int 0)) x 7 (.int 0) = V3
  have f3 : ∀ y, y ≠ x → ∀ j, V3 y j = V2 y j := fun y hy j => by rw [← hV3]; simp [ob_set, hy]
  have f3x : ∀ j, j < 5 → V3 x j = V x j := fun j hj => by
    rw [← k1 x 5 0 x1 (by decide) j, ← k2 x 5 0 x1 (by decide) j, ← hV3]
    simp [ob_set, show j ≠ 5 by omega, show j ≠ 6 by omega, show j ≠ 7 by omega]
  have f35 : V3 x 5 = .null := by rw [← hV3]; simp [ob_set]
  have f36 : V3 x 6 = .int 0 := by rw [← hV3]; simp [ob_set]
  have f37 : V3 x 7 = .int 0 := by rw [← hV3]; simp [ob_set]
  have nx2 : ∀ y c z, T2 y = some (c, z) → c ≠ 5 → y ≠ x := fun y c z hy hc e => by rw [e, xT2] at hy; cases hy; exact hc rfl
  have keep : ∀ y c z, T y = some (c, z) → 2 ≤ c → c ≠ 4 → c ≠ 5 → ∀ j, V3 y j = V y j := fun y c z hy h2 h4 h5 j => by
    rw [f3 y (nx y c z hy h5), k2 y c z hy h2, k1 y c z hy h4]
  refine og_ireturn (ty := .int) rfl dX5_clear_38 rfl (by decide) (by decide) ⟨T2, V3, B, J, by rw [← hV3], ⟨hg2.1, fun y c z hy h6 h7 => ⟨keep y c z hy (by omega) (by omega) (by omega), rfl, rfl⟩⟩, ⟨hp, edge, hb, t, nl, tp, tb, rs, rr, 0, l2, .leaf, K, ⟨⟨xT2, ?_, ?_, ?_, ?_, ?_, ?_, ?_⟩, ?_, ⟨?_, ?_, rfl, rfl, ?_⟩, ⟨?_, ?_⟩, ⟨hg2.1 _ _ r1, ?_, hg2.1 _ _ r3, r4, hg2.1 _ _ r5, ?_, hg2.1 _ _ r7, r8, r9, r10, r11⟩, ?_, n2, n3⟩, rfl, ?_, ?_, ⟨?_, y5, y6⟩, ?_, y8, y9⟩, ob_an0 ?_⟩
  · rw [f3x _ (by decide)]; exact x2
  · rw [f3x _ (by decide)]; exact x3
  · rw [f3x _ (by decide)]; exact x4
  · rw [f3x _ (by decide)]; exact x5
  · rw [f3x _ (by decide)]; exact x6
  · rw [f36]; rfl
  · rw [f37]; rfl
  · exact hs2.keep (fun y c z hy hc => f3 y (nx2 y c z hy (by omega))) hs2.2.2.2.2.2.2.2.1
  · refine tr1.keep hg2.1 (fun y c z hy h9 j _ => ?_)
    have hc : c = 4 ∨ c = 2 := by
      rcases h9 with rfl | rfl
      · rw [tT] at hy; cases hy; exact Or.inl rfl
      · exact Or.inr rfl
    rw [f3 y (nx y c z hy (by omega)), k2 y c z hy (by omega)]
  · rw [f3 t xt.symm, k2 t 4 0 tT (by decide), ob_set_k _ _ _ _ _ (by decide)]; exact t2
  · simp [ob_ads, ob_so]
  · simp [ob_ads]
  · exact fun b s u a hm => absurd hm (nt2 b s u a)
  · rw [keep tp 3 0 r1 (by decide) (by decide) (by decide)]; exact r2
  · rw [keep rs 3 0 r5 (by decide) (by decide) (by decide)]; exact r6
  · simp [ob_ads]
  · rw [f35]; rfl
  · exact fun i hi => by cases hi
  · show V3 tp 1 = _
    rw [keep tp 3 0 r1 (by decide) (by decide) (by decide)]; exact y4
  · show V3 rs 1 = _
    rw [keep rs 3 0 r5 (by decide) (by decide) (by decide)]; exact y7
  · rw [y1, List.length_map, ob_siz_len]
/-- the owners of a chain -/
def ob_ow (l : List ob_bk) : List Nat := l.filterMap (fun e => e.2.2.2)
theorem bme_loop {n0 : Nat} (h : ob_O T V B x me mu hp edge hb t nl tp tb rs rr cap N l tt K) (hR : 2 ≤ R.frames ∧ 120 ≤ R.locals) (hk : k ≤ R.cells) (hs : n ≤ R.slots) : ∀ (r : List ob_bk) (m : Nat) (v : Value), (∀ e ∈ r, e ∈ l) → ob_sg T V r v .null → m + (ob_ow r).length < 2 ^ 31 →
    ob_G X mX5_blocksMatchEntries R Q 77 [(0, .ref x), (1, .int (nI (m + (ob_ow r).length)))] [] (T, V, B, J) k n → ob_G X mX5_blocksMatchEntries R Q 13 [(0, .ref x), (1, .int (nI m)), (2, v)] [] (T, V, B, J) k n := by
  obtain ⟨⟨x1, x2, x3, x4, x5, x6, x7, x8⟩, hs0, ⟨t1, t2, t3, t4, t5⟩, ⟨en, eo⟩, ⟨r1, r2, r3, r4, r5, r6, r7, r8, r9, r10, r11⟩, n1, n2, n3⟩ := id h
  have tT := t1.1
  intro r
  induction r with
  | nil =>
    intro m v hm h1 hb9 kk
    have hv : v = .null := h1
    subst hv
    refine og_aload_n dX5_blocksMatchEntries_13 rfl rfl ?_
    refine og_ifnullN (tgt := 77) dX5_blocksMatchEntries_14 (by decide) ?_
    exact og_lv [(0, .ref x), (1, .int (nI m))] rfl kk
  | cons f r ih =>
    obtain ⟨b, s, u, o⟩ := f
    intro m v hm h1 hb9 kk
    obtain ⟨rfl, g1, g2, g3, g4, g5⟩ := h1
    have hrf := ob_sg_v g5
    cases o with
    | none =>
      have g4 : V b 2 = .null := g4
      refine og_aload_n dX5_blocksMatchEntries_13 rfl rfl ?_
      refine og_ifnull dX5_blocksMatchEntries_14 ?_
      refine og_aload_n dX5_blocksMatchEntries_17 rfl rfl ?_
      refine og_getf dX5_blocksMatchEntries_18 kfX5_244 (by assumption) (by assumption) ?_
      refine og_astore_n dX5_blocksMatchEntries_21 (by decide) rfl ?_
      refine og_aload_n dX5_blocksMatchEntries_22 rfl rfl ?_
      refine og_ifnullN (tgt := 69) dX5_blocksMatchEntries_23 (by decide) ?_
      refine og_aload_n dX5_blocksMatchEntries_69 rfl rfl ?_
      refine og_getf dX5_blocksMatchEntries_70 kfX5_241 g1 rfl ?_
      refine og_astore_n dX5_blocksMatchEntries_73 (by decide) hrf ?_
      refine og_goto (tgt := 13) dX5_blocksMatchEntries_74 (by decide) ?_
      refine og_lv [(0, .ref x), (1, .int (nI m)), (2, V b 3)] rfl ?_
      exact ih m _ (fun e he => hm e (List.mem_cons_of_mem _ he)) g5 hb9 kk
    | some a =>
      have g4 : V b 2 = .ref a := g4
      obtain ⟨q1, q2⟩ := eo b s u a (hm _ List.mem_cons_self)
      have aT := (t1.2.2.2.2.2.1.2 a q1).1
      obtain ⟨e1, e2, e3, e4, e5, b', s', e6, e7, e8⟩ := en a q1
      rw [q2] at e6
      cases e6
      have heq := ob_nd_inj (List.nodup_cons.mp hs0.2.2.2.2.2.2.2.2.1.2.2.1).2 _ e7 _ (hm _ List.mem_cons_self) rfl
      have hu : ob_un ((K a).1.length + (K a).2.length) = u := congrArg (fun z : ob_bk => z.2.2.1) heq
      have hle : (ob_ow ((b, s, u, some a) :: r)).length = (ob_ow r).length + 1 := by simp [ob_ow]
      obtain ⟨z, qq, cl, tl, tr, hpl⟩ := ob_split tt a [] q1
      have hpl : tt = ob_plug z (.inner qq a cl tl tr) := hpl
      refine og_aload_n dX5_blocksMatchEntries_13 rfl rfl ?_
      refine og_ifnull dX5_blocksMatchEntries_14 ?_
      refine og_aload_n dX5_blocksMatchEntries_17 rfl rfl ?_
      refine og_getf dX5_blocksMatchEntries_18 kfX5_244 (by assumption) (by assumption) ?_
      refine og_astore_n dX5_blocksMatchEntries_21 (by decide) rfl ?_
      refine og_aload_n dX5_blocksMatchEntries_22 rfl rfl ?_
      refine og_ifnull dX5_blocksMatchEntries_23 ?_
      refine og_iinc dX5_blocksMatchEntries_26 rfl (nI_1 m) (by decide) ?_
      refine og_aload_n dX5_blocksMatchEntries_29 rfl rfl ?_
      refine og_getf dX5_blocksMatchEntries_30 kfX5_196 (by assumption) (by assumption) ?_
      refine og_aload_n dX5_blocksMatchEntries_33 rfl rfl ?_
      refine og_acmp_ne (tgt := 67) dX5_blocksMatchEntries_34 (by decide) (fun z9 => absurd (rfl) z9) (fun _ => ?_)
      refine og_aload_n dX5_blocksMatchEntries_37 rfl rfl ?_
      refine og_getf dX5_blocksMatchEntries_38 kfX5_31 (by assumption) (by assumption) ?_
      refine og_aload_n dX5_blocksMatchEntries_41 rfl rfl ?_
      refine og_callVe dX5_blocksMatchEntries_42 kvX5_247 (ct_holds (z := z) (q := qq) (c := cl) (l := tl) (r := tr) (by rw [← hpl]; exact t1) (by rw [← hpl, ob_siz_len]; omega)) rfl tT rfl rfl ⟨hR.1, Nat.le_trans (by decide) hR.2⟩ hk hs (Nat.le_of_ble_eq_true rfl) rfl ?_
      refine og_if_eq (tgt := 67) dX5_blocksMatchEntries_45 (by decide) (fun z9 => absurd z9 (by decide)) (fun _ => ?_)
      refine og_aload_n dX5_blocksMatchEntries_48 rfl rfl ?_
      refine og_getf dX5_blocksMatchEntries_49 kfX5_202 (by assumption) (by assumption) ?_
      refine og_aload_n dX5_blocksMatchEntries_52 rfl rfl ?_
      refine og_getf dX5_blocksMatchEntries_53 kfX5_230 (by assumption) (by assumption) ?_
      refine og_aload_n dX5_blocksMatchEntries_56 rfl rfl ?_
      refine og_getf dX5_blocksMatchEntries_57 kfX5_225 (by assumption) (by assumption) ?_
      refine og_iadd dX5_blocksMatchEntries_60 ?_
      refine og_st [.int (nI ((K a).1.length + (K a).2.length)), .int (nI u)] (by rw [nI_add]; rfl) ?_
      refine og_callSe dX5_blocksMatchEntries_61 ksX5_78 (ct_unitsOf (by omega)) rfl rfl ⟨Nat.le_trans (by decide) hR.1, Nat.le_trans (by decide) hR.2⟩ hk hs (Nat.le_of_ble_eq_true rfl) rfl ?_
      refine og_icmp_eq (tgt := 69) dX5_blocksMatchEntries_64 (by decide) (fun _ => ?_) (fun z9 => absurd (by rw [hu]) z9)
      refine og_aload_n dX5_blocksMatchEntries_69 rfl rfl ?_
      refine og_getf dX5_blocksMatchEntries_70 kfX5_241 g1 rfl ?_
      refine og_astore_n dX5_blocksMatchEntries_73 (by decide) hrf ?_
      refine og_goto (tgt := 13) dX5_blocksMatchEntries_74 (by decide) ?_
      refine og_lv [(0, .ref x), (1, .int (nI (m + 1))), (2, V b 3)] rfl ?_
      exact ih (m + 1) _ (fun e he => hm e (List.mem_cons_of_mem _ he)) g5 (by omega) (by rw [show m + 1 + (ob_ow r).length = m + (ob_ow ((b, s, u, some a) :: r)).length by omega]; exact kk)
theorem ob_ow_mem {a : Nat} : a ∈ ob_ow l ↔ ∃ b s u, ((b, s, u, some a) : ob_bk) ∈ l := by
  simp only [ob_ow, List.mem_filterMap]
  constructor
  · rintro ⟨⟨b, s, u, o⟩, h1, h2⟩
    have h2 : o = some a := h2
    rw [h2] at h1
    exact ⟨b, s, u, h1⟩
  · rintro ⟨b, s, u, h⟩
    exact ⟨_, h, rfl⟩
theorem ob_ow_nd : ∀ {l : List ob_bk}, (l.map (·.1)).Nodup → (∀ b s u b' s' u' a, ((b, s, u, some a) : ob_bk) ∈ l → ((b', s', u', some a) : ob_bk) ∈ l → b = b') → (ob_ow l).Nodup
  | [], _, _ => by simp [ob_ow]
  | (b, s, u, none) :: l, hn, h => by
    have : ob_ow ((b, s, u, none) :: l) = ob_ow l := rfl
    rw [this]
    exact ob_ow_nd (List.nodup_cons.mp hn).2 (fun b s u b' s' u' a h1 h2 => h b s u b' s' u' a (List.mem_cons_of_mem _ h1) (List.mem_cons_of_mem _ h2))
  | (b, s, u, some a) :: l, hn, h => by
    have e : ob_ow ((b, s, u, some a) :: l) = a :: ob_ow l := rfl
    obtain ⟨n1, n2⟩ := List.nodup_cons.mp hn
    rw [e, List.nodup_cons]
    refine ⟨fun hm => ?_, ob_ow_nd n2 (fun b s u b' s' u' a h1 h2 => h b s u b' s' u' a (List.mem_cons_of_mem _ h1) (List.mem_cons_of_mem _ h2))⟩
    obtain ⟨b', s', u', h9⟩ := ob_ow_mem.mp hm
    have := h b s u b' s' u' a List.mem_cons_self (List.mem_cons_of_mem _ h9)
    subst this
    exact n1 (List.mem_map.mpr ⟨_, h9, rfl⟩)
theorem ct_bme (h : ob_O T V B x me mu hp edge hb t nl tp tb rs rr cap N l tt K) : ob_C X mX5_blocksMatchEntries 2 0 0 [.ref x] (T, V, B, J) (ob_e (some (.int 1)) (T, V, B, J)) := by
  refine ob_C_of (by decide) rfl (Nat.le_of_ble_eq_true rfl) ?_
  obtain ⟨⟨x1, x2, x3, x4, x5, x6, x7, x8⟩, hs0, ⟨t1, t2, t3, t4, t5⟩, ⟨en, eo⟩, ⟨r1, r2, r3, r4, r5, r6, r7, r8, r9, r10, r11⟩, n1, n2, n3⟩ := id h
  have tT := t1.1
  have hhT := hs0.1
  have hed := hs0.2.2.1
  obtain ⟨g1, g2, g3, g4⟩ := hs0.2.2.2.2.2.2.2.2.1
  have hown : (ob_ow l).length = (ob_ads tt).length := by
    refine List.Perm.length_eq ((List.perm_ext_iff_of_nodup (ob_ow_nd (List.nodup_cons.mp g3).2 (fun b s u b' s' u' a h1 h2 => ?_)) t1.2.2.2.2.2.2).mpr (fun a => ?_))
    · have e1 := (eo _ _ _ _ h1).2
      rw [(eo _ _ _ _ h2).2] at e1
      cases e1
      rfl
    · rw [ob_ow_mem]
      constructor
      · rintro ⟨b, s, u, h9⟩
        exact (eo _ _ _ _ h9).1
      · intro ha
        obtain ⟨-, -, -, -, -, b, s, -, h9, -⟩ := en a ha
        exact ⟨b, s, _, h9⟩
  refine og_lv [(0, .ref x)] rfl ?_
  refine og_iconst (v := 0) dX5_blocksMatchEntries_0 (by decide) ?_
  refine og_istore_n dX5_blocksMatchEntries_1 (by decide) ?_
  refine og_aload_n dX5_blocksMatchEntries_2 rfl rfl ?_
  refine og_getf dX5_blocksMatchEntries_3 kfX5_22 (by assumption) (by assumption) ?_
  refine og_getf dX5_blocksMatchEntries_6 kfX5_238 (by assumption) (by assumption) ?_
  refine og_getf dX5_blocksMatchEntries_9 kfX5_241 g1 rfl ?_
  refine og_astore_n dX5_blocksMatchEntries_12 (by decide) (ob_sg_v g2) ?_
  refine og_lv [(0, .ref x), (1, .int (nI 0)), (2, V edge 3)] rfl ?_
  refine bme_loop (n0 := 0) h ⟨by decide, by decide⟩ (by decide) (by decide) l 0 _ (fun _ h => h) g2 (by rw [hown]; have := h.len; omega) ?_
  rw [Nat.zero_add, hown]
  obtain ⟨q1, q7, q6⟩ := t1.2.2.2.2.2.1.top t1.2.2.2.1
  refine og_iload_n dX5_blocksMatchEntries_77 rfl ?_
  refine og_aload_n dX5_blocksMatchEntries_78 rfl rfl ?_
  refine og_getf dX5_blocksMatchEntries_79 kfX5_31 (by assumption) (by assumption) ?_
  refine og_callVe dX5_blocksMatchEntries_82 kvX5_141 (ct_size tT t1.2.2.1 q1 q7) rfl tT rfl rfl ⟨by decide, by decide⟩ (by decide) (by decide) (Nat.le_of_ble_eq_true rfl) rfl ?_
  refine og_icmp_ne (tgt := 92) dX5_blocksMatchEntries_85 (by decide) (fun z9 => absurd (by rw [ob_siz_len]) z9) (fun _ => ?_)
  refine og_iconst (v := 1) dX5_blocksMatchEntries_88 (by decide) ?_
  refine og_goto (tgt := 93) dX5_blocksMatchEntries_89 (by decide) ?_
  exact og_ireturn (ty := .boolean) rfl dX5_blocksMatchEntries_93 rfl (by decide) (by decide) ⟨rfl, rfl⟩
theorem ct_sound (hI : ob_I T V B x me mu cap S) : ob_C X mX5_sound 42 3 20 [.ref x] (T, V, B, J) (ob_e (some (.int 1)) (T, V, B, J)) := by
  obtain ⟨hp, edge, hb, t, nl, tp, tb, rs, rr, N, l, tt, K, h, hy⟩ := hI
  refine ob_C_of (by decide) rfl (Nat.le_of_ble_eq_true rfl) ?_
  obtain ⟨⟨x1, x2, x3, x4, x5, x6, x7, x8⟩, hs0, ⟨t1, t2, t3, t4, t5⟩, en, rrr, n1, n2, n3⟩ := id h
  have tT := t1.1
  have hhT := hs0.1
  refine og_aload_n dX5_sound_0 rfl rfl ?_
  refine og_getf dX5_sound_1 kfX5_22 (by assumption) (by assumption) ?_
  refine og_callVe dX5_sound_4 kvX5_177 (ct_Hsound hs0) rfl hhT rfl rfl ⟨by decide, by decide⟩ (by decide) (by decide) (Nat.le_of_ble_eq_true rfl) rfl ?_
  refine og_if_eq (tgt := 31) dX5_sound_7 (by decide) (fun z9 => absurd z9 (by decide)) (fun _ => ?_)
  refine og_aload_n dX5_sound_10 rfl rfl ?_
  refine og_callVe dX5_sound_11 kvX5_181 (ct_bme h) rfl x1 rfl rfl ⟨by decide, by decide⟩ (by decide) (by decide) (Nat.le_of_ble_eq_true rfl) rfl ?_
  refine og_if_eq (tgt := 31) dX5_sound_14 (by decide) (fun z9 => absurd z9 (by decide)) (fun _ => ?_)
  refine og_aload_n dX5_sound_17 rfl rfl ?_
  refine og_getf dX5_sound_18 kfX5_31 (by assumption) (by assumption) ?_
  refine og_callVe dX5_sound_21 kvX5_184 (ct_Tsound t1 t2 h.hbp h.ns t5 t3 t4 (by rw [ob_siz_len]; exact h.len)) rfl tT rfl rfl ⟨by decide, by decide⟩ (by decide) (by decide) (Nat.le_of_ble_eq_true rfl) rfl ?_
  refine og_if_eq (tgt := 31) dX5_sound_24 (by decide) (fun z9 => absurd z9 (by decide)) (fun _ => ?_)
  refine og_iconst (v := 1) dX5_sound_27 (by decide) ?_
  refine og_goto (tgt := 32) dX5_sound_28 (by decide) ?_
  exact og_ireturn (ty := .boolean) rfl dX5_sound_32 rfl (by decide) (by decide) ⟨rfl, rfl⟩
end OCJ
