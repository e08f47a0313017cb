/-! THE OBJECT'S CALLS: feed; the constructor -/
theorem sp_i8 {z : Int64} {c : Nat} (h : z.toBitVec.toNat % 256 = c) : z.toInt32.toInt8 = (nI c).toInt8 := by
  apply Int8.toBitVec_inj.mp
  apply BitVec.eq_of_toNat_eq
  have hc : c < 256 := by omega
  rw [Int32.toBitVec_toInt8, Int32.toBitVec_toInt8, Int64.toBitVec_toInt32, BitVec.signExtend_eq_setWidth_of_le _ (by decide), BitVec.signExtend_eq_setWidth_of_le _ (by decide), BitVec.signExtend_eq_setWidth_of_le _ (by decide)]
  have e : (nI c).toBitVec = BitVec.ofNat 32 c := rfl
  rw [e]
  simp only [BitVec.toNat_setWidth, BitVec.toNat_ofNat]
  omega
theorem sp_by_lt (x : Int64) (i : Nat) : sp_by x i < 256 := Nat.mod_lt _ (by decide)
theorem sp_sh : ∀ i, i < 8 → (nI (8 * i)).toInt64.toUInt64 &&& Int64.toUInt64 63 = UInt64.ofNat (8 * i) := by decide
theorem sp_by_c {x : Int64} {i : Nat} (hi : i < 8) : (((((x.toUInt64 >>> ((nI (8 * i)).toInt64.toUInt64 &&& Int64.toUInt64 63)).toInt64).toInt32).toInt8.toInt32).toInt8).toInt32 = sb_b (sp_by x i) := by
  rw [sp_sh i hi, Int8.toInt8_toInt32]
  unfold sb_b
  congr 1
  apply sp_i8
  unfold sp_by
  congr 1
  show (x.toUInt64 >>> UInt64.ofNat (8 * i)).toNat = _
  rw [UInt64.toNat_shiftRight, UInt64.toNat_ofNat', Nat.shiftRight_eq_div_pow]
  have : 8 * i % 2 ^ 64 % 64 = 8 * i := by omega
  rw [this]
  rfl
theorem sp_sa : ∀ i, i < 8 → ((nI (8 * i)).toInt64 &&& 63 : Int64).toBitVec.smod 64 = BitVec.ofNat 64 (8 * i) := by decide
theorem sp_by_m0 {x : Int64} {i : Nat} (hi : i < 8) : ((x >>> ((nI (8 * i)).toInt64 &&& 63)) &&& 255).toBitVec = BitVec.ofNat 64 (sp_by x i) := by
  rw [Int64.toBitVec_and, Int64.toBitVec_shiftRight, sp_sa i hi]
  apply BitVec.eq_of_getLsbD_eq
  intro j hj
  have e8 : (255 : Int64).toBitVec = BitVec.ofNat 64 (2 ^ 8 - 1) := by decide
  rw [e8, BitVec.getLsbD_and, BitVec.getLsbD_ofNat, BitVec.getLsbD_ofNat]
  unfold sp_by
  rw [Nat.testBit_two_pow_sub_one, show (256 : Nat) = 2 ^ 8 from rfl, Nat.testBit_mod_two_pow, Nat.testBit_div_two_pow]
  by_cases hj8 : j < 8
  · simp only [BitVec.sshiftRight', BitVec.toNat_ofNat, BitVec.getLsbD_sshiftRight, hj, hj8, decide_true, Bool.true_and, Bool.and_true]
    have e : 8 * i % 2 ^ 64 = 8 * i := by omega
    rw [e]
    simp [BitVec.getLsbD, hj, Nat.add_comm, show ¬ 64 ≤ j by omega]
    intro h9
    exact absurd h9 (by omega)
  · simp [hj8]
theorem sp_by_m {x : Int64} {i : Nat} (hi : i < 8) : ((x >>> ((nI (8 * i)).toInt64 &&& 63)) &&& 255).toInt32 = nI (sp_by x i) := by
  apply Int32.toBitVec_inj.mp
  rw [Int64.toBitVec_toInt32, sp_by_m0 hi, BitVec.signExtend_eq_setWidth_of_le _ (by decide)]
  have e : (nI (sp_by x i)).toBitVec = BitVec.ofNat 32 (sp_by x i) := rfl
  rw [e]
  apply BitVec.eq_of_toNat_eq
  have := sp_by_lt x i
  simp only [BitVec.toNat_setWidth, BitVec.toNat_ofNat]
  omega
section OCL
variable {X : ob_X} {y : ob_y} {R : Room} {Q : ob_r → ob_w → Prop} {pc : Nat} {lv : List (Nat × Value)} {st : List Value} {w : ob_w} {k n : Nat}
theorem og_callIn {idx b d mc ms np : Nat} {z : ob_y} {As stk : List Value} {Q2 : ob_r → ob_w → Prop} (hdg : decode y.2.1 pc = .ok (.invokespecial idx, 3)) (hv : ob_mi y.1.cls idx z np) (hM : ob_C X z d mc ms (.ref b :: As) w Q2) (hnp : np = As.length) (hstk : stk = As.reverse ++ .ref b :: st) (hR : d + 1 ≤ R.frames ∧ 8 + (z.2.2.1 + 11) + 60 * d ≤ R.locals) (hk : k + mc ≤ R.cells) (hs : n + ms ≤ R.slots) (hsum : (st.map fun v => v.category).sum ≤ 8)
    (hno : ∀ E w', ¬ Q2 (.inr E) w') (kk : ∀ v w', Q2 (.inl v) w' → ob_G X y R Q (pc + 3) lv (v.toList ++ st) w' (k + mc) (n + ms)) : ob_G X y R Q pc lv stk w k n := by
  subst hnp
  exact og_callI hdg hv hM hno hstk hR hk hs hsum kk
end OCL
section OCK
variable {X : ob_X} {T : ob_T} {V V' : ob_V} {B B' : ob_B} {J : ob_J} {R : Room} {Q : ob_r → ob_w → Prop} {k n : Nat} {x me mu hp edge hb t nl tp tb rs rr cap N : Nat} {l : List ob_bk} {tt tt' : ob_t} {K : ob_k} {S : sp_S}
theorem feed_loop {m : Nat} {e8 : Int64} (hm : m ≤ 8) (hR : 2 ≤ R.frames ∧ 120 ≤ R.locals) (hk : k ≤ R.cells) (hs : n ≤ R.slots) {E : ob_E} {cur : Option Nat} {res tape0 : List Nat} (hl : tape0.length + m ≤ 600) :
    ∀ (d i : Nat) (V : ob_V) (B : ob_B), i + d = m → ob_O T V B x me mu hp edge hb t nl tp tb rs rr cap N l tt K → ob_Y V B x tp tb rs rr tt K (E, cur, tape0 ++ (List.range i).map (sp_by e8), res) →
    (∀ V' B', ob_O T V' B' x me mu hp edge hb t nl tp tb rs rr cap N l tt K → ob_Y V' B' x tp tb rs rr tt K (E, cur, tape0 ++ (List.range m).map (sp_by e8), res) → ob_sc V B x tp tb rs rr V' B' → Q (.inl (some (.int (nI (tape0.length + m))))) (T, V', B', J)) →
    ob_G X mX5_feed R Q 49 [(0, .ref x), (1, .long e8), (3, .int (nI m)), (4, .int (nI i))] [] (T, V, B, J) k n := by
  intro d
  induction d with
  | zero =>
    intro i V B hid h hy kk
    have e : i = m := by omega
    subst e
    have x1 := h.1.1
    have x5 := h.1.2.2.2.2.1
    have r1 := h.2.2.2.2.1.1
    have y4 : V tp 1 = .int (nI (tape0.length + i)) := by have := hy.2.2.2.1.1; simpa using this
    refine og_iload dX5_feed_49 rfl ?_
    refine og_iload_n dX5_feed_51 rfl ?_
    refine og_icmp_ge (tgt := 77) dX5_feed_52 (by decide) (fun _ => ?_) (fun z9 => absurd (Int32.le_refl _) z9)
    refine og_aload_n dX5_feed_77 rfl rfl ?_
    refine og_getf dX5_feed_78 kfX5_38 (by assumption) (by assumption) ?_
    refine og_getf dX5_feed_81 kfX5_52 (by assumption) (by assumption) ?_
    exact og_ireturn (ty := .int) rfl dX5_feed_84 rfl hk hs (kk V B h hy ⟨fun _ _ _ _ _ => rfl, fun _ _ _ => rfl⟩)
  | succ d ih =>
    intro i V B hid h hy kk
    have x1 := h.1.1
    have x5 := h.1.2.2.2.2.1
    obtain ⟨r1, r2, r3, r4, r5, r6, r7, r8, r9, r10, r11⟩ := h.2.2.2.2.1
    obtain ⟨y1, y2, y3, ⟨y4, y5, y6⟩, y7, y8, y9⟩ := id hy
    have yl : (tape0 ++ (List.range i).map (sp_by e8)).length = tape0.length + i := by simp
    have y4' : V tp 1 = .int (nI (tape0.length + i)) := by rw [← yl]; exact y4
    refine og_iload dX5_feed_49 rfl ?_
    refine og_iload_n dX5_feed_51 rfl ?_
    refine og_icmp_ge (tgt := 77) dX5_feed_52 (by decide) (fun z9 => absurd z9 (nI_ge (by omega) (by omega))) (fun _ => ?_)
    refine og_aload_n dX5_feed_55 rfl rfl ?_
    refine og_getf dX5_feed_56 kfX5_38 (by assumption) (by assumption) ?_
    refine og_lload_n dX5_feed_59 rfl ?_
    refine og_bipush (v := 8) dX5_feed_60 (by decide) ?_
    refine og_iload dX5_feed_62 rfl ?_
    refine og_imul dX5_feed_64 ?_
    refine og_st [.int (nI (8 * i)), .long e8, .ref tp] (by rw [← pk_mul]; rfl) ?_
    refine og_lushr dX5_feed_65 rfl ?_
    refine og_l2i dX5_feed_66 rfl ?_
    refine og_i2b dX5_feed_67 rfl ?_
    refine og_callVe dX5_feed_68 kvX5_60 (ct_append r1 r2 r3 y4' (by omega) (by decide)) rfl r1 rfl rfl ⟨Nat.le_trans (by decide) hR.1, Nat.le_trans (by decide) hR.2⟩ hk hs (Nat.le_of_ble_eq_true rfl) rfl ?_
    rw [sp_by_c (x := e8) (i := i) (by omega)]
    have hB : ∀ y, y ≠ tb → ob_set B tb (tape0.length + i) (sb_b (sp_by e8 i)) y = B y := fun y hy9 => by funext j; exact ob_set_a _ _ _ _ _ hy9
    have hsc : ob_sc V B x tp tb rs rr (ob_set V tp 1 (.int (nI (tape0.length + i + 1)))) (ob_set B tb (tape0.length + i) (sb_b (sp_by e8 i))) := ⟨fun y j _ h2 _ => if_neg h2, fun y _ h2 => hB y h2⟩
    have xtp : x ≠ tp := fun e => by rw [e, r1] at x1; cases x1
    have hF : sb_Fit (ob_set B tb (tape0.length + i) (sb_b (sp_by e8 i)) tb) := fun j => by
      by_cases hj : j = tape0.length + i
      · rw [hj, ob_set_s]; exact sb_fitB _
      · rw [ob_set_k _ _ _ _ _ hj]; exact r4 j
    have h2 := h.small hsc hF
    have hy2 : ob_Y (ob_set V tp 1 (.int (nI (tape0.length + i + 1)))) (ob_set B tb (tape0.length + i) (sb_b (sp_by e8 i))) x tp tb rs rr tt K (E, cur, tape0 ++ (List.range (i + 1)).map (sp_by e8), res) := by
      refine ⟨y1, by rw [ob_set_a _ _ _ _ _ xtp]; exact y2, y3, ⟨?_, by simp; omega, ?_⟩, by rw [ob_set_a _ _ _ _ _ r8.symm]; exact y7, y8, ?_⟩
      · rw [ob_set_s]; simp [Nat.add_assoc]
      · show ob_bs _ tb 0 (tape0 ++ (List.range (i + 1)).map (sp_by e8))
        rw [List.range_succ, List.map_append, ← List.append_assoc]
        intro j hj
        have hj2 : j < tape0.length + i + 1 := by simpa [Nat.add_assoc] using hj
        rw [Nat.zero_add]
        by_cases hj3 : j = tape0.length + i
        · subst hj3
          rw [ob_set_s]
          have e : ((tape0 ++ (List.range i).map (sp_by e8)) ++ [i].map (sp_by e8))[tape0.length + i] = sp_by e8 i := by
            rw [List.getElem_append_right (by rw [yl]; omega)]
            simp [yl]
          rw [e]
          exact ⟨sp_by_lt _ _, rfl⟩
        · have hj4 : j < (tape0 ++ (List.range i).map (sp_by e8)).length := by rw [yl]; omega
          rw [ob_set_k _ _ _ _ _ hj3, List.getElem_append_left hj4]
          have := y6 j hj4
          rw [Nat.zero_add] at this
          exact this
      · exact y9.same (fun j _ => by rw [hB rr r9.symm])
    refine og_iinc dX5_feed_71 rfl (nI_1 i) (by decide) ?_
    refine og_goto (tgt := 49) dX5_feed_74 (by decide) ?_
    refine og_lv [(0, .ref x), (1, .long e8), (3, .int (nI m)), (4, .int (nI (i + 1)))] rfl ?_
    exact ih (i + 1) _ _ (by omega) h2 hy2 (fun V' B' f1 f2 f3 => kk V' B' f1 f2 (hsc.tr f3))
theorem ct_feed {e8 : Int64} {iv : Int32} (hI : ob_I T V B x me mu cap S) : ob_C X mX5_feed 8 3 20 [.ref x, .long e8, .int iv] (T, V, B, J) (ob_qx T V B J x me mu cap ob_IA ob_IS (sp_feed S e8 iv)) := by
  obtain ⟨hp, edge, hb, t, nl, tp, tb, rs, rr, N, l, tt, K, h, hy⟩ := hI
  refine ob_C_of (by decide) rfl (Nat.le_of_ble_eq_true rfl) ?_
  obtain ⟨⟨x1, x2, x3, x4, x5, x6, x7, x8⟩, hs, ⟨t1, t2, t3, t4, t5⟩, en, ⟨r1, r2, r3, r4, r5, r6, r7, r8, r9, r10, r11⟩, n1, n2, n3⟩ := id h
  obtain ⟨y1, y2, y3, ⟨y4, y5, y6⟩, y7, y8, y9⟩ := id hy
  refine og_lv [(0, .ref x), (1, .long e8), (3, .int iv)] rfl ?_
  have bad : ∀ (lv : List (Nat × Value)), ¬ (1 ≤ iv ∧ iv ≤ 8) → ob_G X mX5_feed (ob_rm 8 3 20) (ob_qx T V B J x me mu cap ob_IA ob_IS (sp_feed S e8 iv)) 11 lv [] (T, V, B, J) 0 0 := by
    intro lv e
    rw [show sp_feed S e8 iv = (1, 0, S) from if_pos e]
    exact og_thr ⟨dX5_feed_11, dX5_feed_14, dX5_feed_15, dX5_feed_17, dX5_feed_20⟩ rfl klX5_45 ktIA (text := "not 1 to 8 bytes") (by decide) rfl (by decide) (by decide) (by decide) (by decide) ⟨_, _, _, _, rfl, ob_WX.rf, ⟨_, _, _, _, _, _, _, _, _, _, _, _, _, h, hy⟩, ob_an1⟩
  refine og_iload_n dX5_feed_0 rfl ?_
  refine og_iconst (v := 1) dX5_feed_1 (by decide) ?_
  refine og_icmp_lt (tgt := 11) dX5_feed_2 (by decide) (fun c1 => ?_) (fun c1 => ?_)
  · exact bad _ (fun h9 => absurd h9.1 (Int32.not_le.mpr c1))
  refine og_iload_n dX5_feed_5 rfl ?_
  refine og_bipush (v := 8) dX5_feed_6 (by decide) ?_
  refine og_icmp_le (tgt := 21) dX5_feed_8 (by decide) (fun c2 => ?_) (fun c2 => ?_)
  rotate_left
  · exact bad _ (fun h9 => absurd h9.2 c2)
  have c1' := Int32.not_lt.mp c1
  obtain ⟨m, hm, rfl⟩ := nI_of (x := iv) (fun h9 => absurd c1' (Int32.not_le.mpr (Int32.lt_trans h9 (by decide))))
  have hm8 : m ≤ 8 := (nI_leI (b := 8) hm (by omega)).mp c2
  have hA : sp_feed S e8 (nI m) = (if 600 < S.2.2.1.length + m then (2, 0, S) else (0, nI (S.2.2.1.length + m), (S.1, S.2.1, S.2.2.1 ++ (List.range m).map (sp_by e8), S.2.2.2))) := by
    have : sp_feed S e8 (nI m) = _ := if_neg (not_not_intro ⟨c1', c2⟩)
    rw [nI_clamp hm] at this
    exact this
  refine og_iload_n dX5_feed_21 rfl ?_
  refine og_sipush (v := 600) dX5_feed_22 (by decide) ?_
  refine og_aload_n dX5_feed_25 rfl rfl ?_
  refine og_getf dX5_feed_26 kfX5_38 (by assumption) (by assumption) ?_
  refine og_getf dX5_feed_29 kfX5_52 (by assumption) (by assumption) ?_
  refine og_isub dX5_feed_32 ?_
  refine og_st [.int (nI (600 - S.2.2.1.length)), .int (nI m)] (by rw [show (600 : Int32) = nI 600 from rfl, nI_sub y5]) ?_
  refine og_icmp_le (tgt := 46) dX5_feed_33 (by decide) (fun c3 => ?_) (fun c3 => ?_)
  · have hl := (nI_leI (by omega) (by omega)).mp c3
    rw [if_neg (by omega)] at hA
    rw [hA]
    refine og_iconst (v := 0) dX5_feed_46 (by decide) ?_
    refine og_istore dX5_feed_47 (by decide) ?_
    refine og_lv [(0, .ref x), (1, .long e8), (3, .int (nI m)), (4, .int (nI 0))] rfl ?_
    refine feed_loop (E := S.1) (cur := S.2.1) (res := S.2.2.2) (tape0 := S.2.2.1) hm8 ⟨by decide, by decide⟩ (by decide) (by decide) (by omega) m 0 V B (by omega) h (by simpa using hy) ?_
    intro V' B' f1 f2 f3
    exact ⟨_, _, _, _, rfl, h.wx f3, ⟨_, _, _, _, _, _, _, _, _, _, _, _, _, f1, f2⟩, ob_an0 rfl⟩
  · have hl : 600 < S.2.2.1.length + m := by
      rcases Nat.lt_or_ge 600 (S.2.2.1.length + m) with h9 | h9
      · exact h9
      · exact absurd (nI_le (a := m) (b := 600 - S.2.2.1.length) (by omega) (by omega)) c3
    rw [if_pos hl] at hA
    rw [hA]
    exact og_thr ⟨dX5_feed_36, dX5_feed_39, dX5_feed_40, dX5_feed_42, dX5_feed_45⟩ rfl klX5_55 ktIS (text := "the tape is too short") (by decide) rfl (by decide) (by decide) (by decide) (by decide) ⟨_, _, _, _, rfl, ob_WX.rf, ⟨_, _, _, _, _, _, _, _, _, _, _, _, _, h, hy⟩, ob_an2⟩
theorem ct_OB {e9 u9 : Int32} (hx : T x = some (5, 0)) (h5 : V x 5 = .null) (h6 : V x 6 = .int 0) (h7 : V x 7 = .int 0) : ob_C X mX5_init 8 10 1500 [.ref x, .int e9, .int u9] (T, V, B, J) (fun r w' => ∃ T' V' B' J', r = .inl none ∧ w' = (T', V', B', J') ∧ ob_WX T V B J T' V' B' J' ∧ ob_I T' V' B' x (min 1024 (max 1 e9.toNatClampNeg)) (min 4096 (max 1 u9.toNatClampNeg)) (min (min 4096 (max 1 u9.toNatClampNeg)) 16) ([], none, [], [])) := by
  refine ob_C_of (by decide) rfl (Nat.le_of_ble_eq_true rfl) ?_
  refine og_lv [(0, .ref x), (1, .int e9), (2, .int u9)] rfl ?_
  generalize hme : min 1024 (max 1 e9.toNatClampNeg) = me
  generalize hmu : min 4096 (max 1 u9.toNatClampNeg) = mu
  refine og_aload_n dX5_init_0 rfl rfl ?_
  refine og_objInit dX5_init_1 kOX5_1 kOi kOc (by decide) (by decide) ?_
  refine og_aload_n dX5_init_4 rfl rfl ?_
  refine og_iload_n dX5_init_5 rfl ?_
  refine og_sipush (v := 1024) dX5_init_6 (by decide) ?_
  refine og_callSe dX5_init_9 ksX5_9 (ct_nearest (m := 1024) (by decide)) rfl rfl ⟨by decide, by decide⟩ (by decide) (by decide) (Nat.le_of_ble_eq_true rfl) rfl ?_
  rw [hme]
  refine og_putF dX5_init_12 kfX5_13 rfl rfl hx rfl rfl ?_
  refine og_aload_n dX5_init_15 rfl rfl ?_
  refine og_new dX5_init_16 kc1 klX5_17 kn1 kt1 ob_fs1_ok (by decide) (by decide) (fun hp hp0 _ => ?_)
  have hp0 : T hp = none := hp0
  obtain ⟨nT1, nT2⟩ := ob_new_ext (c := 1) (n := 0) hp0
  have ne : ∀ y z, T y = some z → y ≠ hp := fun y z hy e => by rw [e, hp0] at hy; cases hy
  have xhp := ne _ _ hx
  have xT1 := nT1 _ _ hx
  generalize hT1 : ob_new T hp 1 0 = T1 at *
  generalize hV1 : ob_row (ob_set V x 0 (.int (nI me))) hp ob_fs1 = V1
  have a0 : V1 x 0 = .int (nI me) := by rw [← hV1]; simp [ob_row, ob_set, xhp]
  have ax : ∀ j, j ≠ 0 → V1 x j = V x j := fun j hj => by rw [← hV1]; simp [ob_row, ob_set, xhp, hj]
  have ah2 : V1 hp 2 = .int 0 := by rw [← hV1]; simp [ob_row, ob_fs1]
  have af : ∀ y z, T y = some z → y ≠ x → ∀ j, V1 y j = V y j := fun y z hy hyx j => by rw [← hV1]; simp [ob_row, ob_set, ne y z hy, hyx]
  refine og_w (T1, V1, B, J) (by rw [← hV1]) ?_
  refine og_dup dX5_init_19 rfl ?_
  refine og_iload_n dX5_init_20 rfl ?_
  refine og_sipush (v := 4096) dX5_init_21 (by decide) ?_
  refine og_callSe dX5_init_24 ksX5_9 (ct_nearest (m := 4096) (by decide)) rfl rfl ⟨by decide, by decide⟩ (by decide) (by decide) (Nat.le_of_ble_eq_true rfl) rfl ?_
  rw [hmu]
  refine og_callIn dX5_init_27 kiX5_19 (ct_Heap nT2 ah2 (by omega) (by omega)) rfl rfl ⟨by decide, by decide⟩ (by decide) (by decide) (Nat.le_of_ble_eq_true rfl) (fun E w' h9 => by obtain ⟨_, _, _, _, _, _, _, h9, _⟩ := h9; cases h9) (fun v w' h9 => ?_)
  obtain ⟨T2, V2, B2, J2, edge, hb, l, hv, rfl, hg2, hs2, nt2, hb0, fbj⟩ := h9
  cases hv
  generalize hcap : min mu 16 = cap at *
  have xT2 := hg2.1 _ _ xT1
  have b2 : ∀ y c z, T1 y = some (c, z) → 2 ≤ c → ∀ j, V2 y j = V1 y j := fun y c z hy h2 j => hg2.2 y c z hy (by omega) (fun e => by rw [e, nT2] at hy; cases hy; omega) j
  refine og_putF dX5_init_30 kfX5_22 rfl rfl xT2 rfl rfl ?_
  refine og_aload_n dX5_init_33 rfl rfl ?_
  refine og_new dX5_init_34 kc4 klX5_26 kn4 kt4 ob_fs4_ok (by decide) (by decide) (fun t t0 _ => ?_)
  have t0 : T2 t = none := t0
  obtain ⟨mT1, mT2⟩ := ob_new_ext (c := 4) (n := 0) t0
  have ne2 : ∀ y z, T2 y = some z → y ≠ t := fun y z hy e => by rw [e, t0] at hy; cases hy
  generalize hT3 : ob_new T2 t 4 0 = T3 at *
  have xT3 := mT1 _ _ xT2
  have hpT2 := hs2.1
  have hpT3 := mT1 _ _ hpT2
  generalize hV3 : ob_row (ob_set V2 x 1 (.ref hp)) t (fun _ => Value.null) = V3
  have c1 : V3 x 1 = .ref hp := by rw [← hV3]; simp [ob_row, ob_set, ne2 x _ xT2]
  have cx : ∀ j, j ≠ 1 → V3 x j = V2 x j := fun j hj => by rw [← hV3]; simp [ob_row, ob_set, ne2 x _ xT2, hj]
  have cf : ∀ y z, T2 y = some z → y ≠ x → ∀ j, V3 y j = V2 y j := fun y z hy hyx j => by rw [← hV3]; simp [ob_row, ob_set, ne2 y z hy, hyx]
  refine og_w (T3, V3, B2, J2) (by rw [← hV3]) ?_
  refine og_dup dX5_init_37 rfl ?_
  refine og_aload_n dX5_init_38 rfl rfl ?_
  refine og_getf dX5_init_39 kfX5_22 (by assumption) (by assumption) ?_
  refine og_callIn dX5_init_42 kiX5_28 (ct_Tree mT2 hpT3) rfl rfl ⟨by decide, by decide⟩ (by decide) (by decide) (Nat.le_of_ble_eq_true rfl) (fun E w' h9 => by obtain ⟨_, _, _, _, h9, _⟩ := h9; cases h9) (fun v w' h9 => ?_)
  obtain ⟨nl, T4, V4, nl0, hv, rfl, e4, tr4, th4, f4⟩ := h9
  cases hv
  have xT4 := e4 _ _ xT3
  have xt : x ≠ t := ne2 _ _ xT2
  refine og_putF dX5_init_45 kfX5_31 rfl rfl xT4 rfl rfl ?_
  refine og_aload_n dX5_init_48 rfl rfl ?_
  refine og_new dX5_init_49 kc3 klX5_35 kn3 kt3 ob_fs3_ok (by decide) (by decide) (fun tp tp0 _ => ?_)
  have tp0 : T4 tp = none := tp0
  obtain ⟨pT1, pT2⟩ := ob_new_ext (c := 3) (n := 0) tp0
  have ne4 : ∀ y z, T4 y = some z → y ≠ tp := fun y z hy e => by rw [e, tp0] at hy; cases hy
  generalize hT5 : ob_new T4 tp 3 0 = T5 at *
  have xT5 := pT1 _ _ xT4
  generalize hV5 : ob_row (ob_set V4 x 2 (.ref t)) tp ob_fs3 = V5
  have d2 : V5 x 2 = .ref t := by rw [← hV5]; simp [ob_row, ob_set, ne4 x _ xT4]
  have dx : ∀ j, j ≠ 2 → V5 x j = V4 x j := fun j hj => by rw [← hV5]; simp [ob_row, ob_set, ne4 x _ xT4, hj]
  have df : ∀ y z, T4 y = some z → y ≠ x → ∀ j, V5 y j = V4 y j := fun y z hy hyx j => by rw [← hV5]; simp [ob_row, ob_set, ne4 y z hy, hyx]
  have dt1 : V5 tp 1 = .int 0 := by rw [← hV5]; simp [ob_row, ob_fs3]
  refine og_w (T5, V5, B2, J2) (by rw [← hV5]) ?_
  refine og_dup dX5_init_52 rfl ?_
  refine og_sipush (v := 600) dX5_init_53 (by decide) ?_
  refine og_callIn dX5_init_56 kiX5_37 (ct_Row (m := 600) pT2 (by decide)) rfl rfl ⟨by decide, by decide⟩ (by decide) (by decide) (Nat.le_of_ble_eq_true rfl) (fun E w' h9 => by obtain ⟨_, _, h9, _⟩ := h9; cases h9) (fun v w' h9 => ?_)
  obtain ⟨tb, tb0, hv, rfl⟩ := h9
  cases hv
  obtain ⟨qT1, qT2⟩ := ob_new_ext (c := 7) (n := 600) tb0
  have ne5 : ∀ y z, T5 y = some z → y ≠ tb := fun y z hy e => by rw [e, tb0] at hy; cases hy
  generalize hT6 : ob_new T5 tb 7 600 = T6 at *
  have xT6 := qT1 _ _ xT5
  have xtp : x ≠ tp := ne4 _ _ xT4
  refine og_putF dX5_init_59 kfX5_38 rfl rfl xT6 rfl rfl ?_
  refine og_aload_n dX5_init_62 rfl rfl ?_
  refine og_new dX5_init_63 kc3 klX5_35 kn3 kt3 ob_fs3_ok (by decide) (by decide) (fun rs rs0 _ => ?_)
  have rs0 : T6 rs = none := rs0
  obtain ⟨sT1, sT2⟩ := ob_new_ext (c := 3) (n := 0) rs0
  have ne6 : ∀ y z, T6 y = some z → y ≠ rs := fun y z hy e => by rw [e, rs0] at hy; cases hy
  generalize hT7 : ob_new T6 rs 3 0 = T7 at *
  have xT7 := sT1 _ _ xT6
  generalize hV7 : ob_row (ob_set (ob_set V5 tp 0 (.ref tb)) x 3 (.ref tp)) rs ob_fs3 = V7
  have g3 : V7 x 3 = .ref tp := by rw [← hV7]; simp [ob_row, ob_set, ne6 x _ xT6]
  have gx : ∀ j, j ≠ 3 → V7 x j = V5 x j := fun j hj => by rw [← hV7]; simp [ob_row, ob_set, ne6 x _ xT6, hj, xtp]
  have gf : ∀ y z, T5 y = some z → y ≠ x → y ≠ tp → ∀ j, V7 y j = V5 y j := fun y z hy hyx hyt j => by rw [← hV7]; simp [ob_row, ob_set, ne6 y z (qT1 _ _ hy), hyx, hyt]
  have tprs : tp ≠ rs := ne6 _ _ (qT1 _ _ pT2)
  have gt0 : V7 tp 0 = .ref tb := by rw [← hV7]; simp [ob_row, ob_set, tprs, xtp.symm]
  have gt1 : V7 tp 1 = .int 0 := by rw [← dt1, ← hV7]; simp [ob_row, ob_set, tprs, xtp.symm]
  have gr1 : V7 rs 1 = .int 0 := by rw [← hV7]; simp [ob_row, ob_fs3]
  generalize hB7 : ob_row B2 tb (fun _ => (0 : Int32)) = B7
  generalize hJ7 : ob_row J2 tb (fun _ => (0 : Int64)) = J7
  refine og_w (T7, V7, B7, J7) (by rw [← hV7, ← hB7, ← hJ7]) ?_
  refine og_dup dX5_init_66 rfl ?_
  refine og_sipush (v := 512) dX5_init_67 (by decide) ?_
  refine og_callIn dX5_init_70 kiX5_37 (ct_Row (m := 512) sT2 (by decide)) rfl rfl ⟨by decide, by decide⟩ (by decide) (by decide) (Nat.le_of_ble_eq_true rfl) (fun E w' h9 => by obtain ⟨_, _, h9, _⟩ := h9; cases h9) (fun v w' h9 => ?_)
  obtain ⟨rr, rr0, hv, rfl⟩ := h9
  cases hv
  obtain ⟨uT1, uT2⟩ := ob_new_ext (c := 7) (n := 512) rr0
  have ne7 : ∀ y z, T7 y = some z → y ≠ rr := fun y z hy e => by rw [e, rr0] at hy; cases hy
  generalize hT8 : ob_new T7 rr 7 512 = T8 at *
  have xT8 := uT1 _ _ xT7
  refine og_putF dX5_init_73 kfX5_42 rfl rfl xT8 rfl rfl ?_
  generalize hV8 : ob_set (ob_set V7 rs 0 (.ref rr)) x 4 (.ref rs) = V8
  have xrs : x ≠ rs := ne6 _ _ xT6
  have i4 : V8 x 4 = .ref rs := by rw [← hV8]; simp [ob_set]
  have ix : ∀ j, j ≠ 4 → V8 x j = V7 x j := fun j hj => by rw [← hV8]; simp [ob_set, hj, xrs]
  have ifr : ∀ y, y ≠ x → y ≠ rs → ∀ j, V8 y j = V7 y j := fun y h1 h2 j => by rw [← hV8]; simp [ob_set, h1, h2]
  have ir0 : V8 rs 0 = .ref rr := by rw [← hV8]; simp [ob_set, xrs.symm]
  have ir1 : V8 rs 1 = .int 0 := by rw [← gr1, ← hV8]; simp [ob_set, xrs.symm]
  generalize hB8 : ob_row B7 rr (fun _ => (0 : Int32)) = B8
  generalize hJ8 : ob_row J7 rr (fun _ => (0 : Int64)) = J8
  have T24 : ∀ y z, T2 y = some z → T4 y = some z := fun y z h => e4 _ _ (mT1 _ _ h)
  have T28 : ∀ y z, T2 y = some z → T8 y = some z := fun y z h => uT1 _ _ (sT1 _ _ (qT1 _ _ (pT1 _ _ (T24 _ _ h))))
  have T48 : ∀ y z, T4 y = some z → T8 y = some z := fun y z h => uT1 _ _ (sT1 _ _ (qT1 _ _ (pT1 _ _ h)))
  have TT : ∀ y z, T y = some z → T8 y = some z := fun y z h => T28 _ _ (hg2.1 _ _ (nT1 _ _ h))
  have K48 : ∀ y z, T4 y = some z → y ≠ x → ∀ j, V8 y j = V4 y j := fun y z hy hyx j => by
    rw [ifr y hyx (ne6 y z (qT1 _ _ (pT1 _ _ hy))), gf y z (pT1 _ _ hy) hyx (ne4 y z hy), df y z hy hyx]
  have K28 : ∀ y z, T2 y = some z → y ≠ x → ∀ j, V8 y j = V2 y j := fun y z hy hyx j => by
    rw [K48 y z (T24 _ _ hy) hyx, f4 y z (mT1 _ _ hy) (ne2 y z hy), cf y z hy hyx]
  have B28 : ∀ y z, T2 y = some z → B8 y = B2 y ∧ J8 y = J2 y := fun y z hy => by
    have q1 := ne5 y z (pT1 _ _ (T24 _ _ hy))
    have q2 := ne7 y z (sT1 _ _ (qT1 _ _ (pT1 _ _ (T24 _ _ hy))))
    rw [← hB8, ← hB7, ← hJ8, ← hJ7]
    simp [ob_row, q1, q2]
  have x2x : ∀ j, j ≠ 0 → j ≠ 1 → j ≠ 2 → j ≠ 3 → j ≠ 4 → V8 x j = V x j := fun j j0 j1 j2 j3 j4 => by
    rw [ix j j4, gx j j3, dx j j2, f4 x _ xT3 xt, cx j j1, b2 x 5 0 xT1 (by decide), ax j j0]
  have tbT8 : T8 tb = some (7, 600) := uT1 _ _ (sT1 _ _ qT2)
  have tbrr : tb ≠ rr := ne7 _ _ (sT1 _ _ qT2)
  have hbT2 := hs2.2.2.2.2.2.2.1
  have tb8 : B8 tb = fun _ => 0 := by rw [← hB8, ← hB7]; simp [ob_row, tbrr]
  refine og_return rfl dX5_init_76 (by decide) (by decide) ⟨T8, V8, B8, J8, rfl, by rw [← hV8, ← hB8, ← hJ8], ⟨TT, fun y c z hy h6' h7' => ?_⟩, ⟨hp, edge, hb, t, nl, tp, tb, rs, rr, 0, l, .leaf, fun _ => ([], []), ⟨⟨xT8, ?_, ?_, ?_, ?_, i4, ?_, ?_⟩, ?_, ⟨?_, ?_, rfl, rfl, ?_⟩, ⟨?_, ?_⟩, ⟨uT1 _ _ (sT1 _ _ (qT1 _ _ pT2)), ?_, tbT8, ?_, uT1 _ _ sT2, ir0, uT2, tprs, tbrr, ?_, ?_⟩, ?_, ?_, ?_⟩, rfl, ?_, ?_, ⟨?_, by simp, fun j hj => by simp at hj⟩, ir1, by simp, fun j hj => by simp at hj⟩⟩
  · have hyT2 := hg2.1 _ _ (nT1 _ _ hy)
    have hyx : y ≠ x := fun e => by rw [e, hx] at hy; cases hy; omega
    refine ⟨fun j => ?_, ?_, ?_⟩
    · rw [K28 y _ hyT2 hyx, b2 y c z (nT1 _ _ hy) (by omega), af y _ hy hyx]
    · rw [(B28 y _ hyT2).1, (fbj y _ (nT1 _ _ hy)).1]
    · rw [(B28 y _ hyT2).2, (fbj y _ (nT1 _ _ hy)).2]
  · rw [ix _ (by decide), gx _ (by decide), dx _ (by decide), f4 x _ xT3 xt, cx _ (by decide), b2 x 5 0 xT1 (by decide)]; exact a0
  · rw [ix _ (by decide), gx _ (by decide), dx _ (by decide), f4 x _ xT3 xt]; exact c1
  · rw [ix _ (by decide), gx _ (by decide)]; exact d2
  · rw [ix _ (by decide)]; exact g3
  · rw [x2x 6 (by decide) (by decide) (by decide) (by decide) (by decide), h6]; rfl
  · rw [x2x 7 (by decide) (by decide) (by decide) (by decide) (by decide), h7]; rfl
  · refine hs2.ext T28 (fun y c z hy hc => K28 y _ hy (fun e => by rw [e, xT2] at hy; cases hy; omega)) ?_
    rw [(B28 hb _ hbT2).1]; exact hs2.2.2.2.2.2.2.2.1
  · exact tr4.keep T48 (fun y c z hy h9 j _ => K48 y _ hy (fun e => by
      rcases h9 with h9 | h9
      · exact xt (e.symm.trans h9)
      · rw [e, xT4] at hy; cases hy; cases h9) j)
  · rw [K48 t _ tr4.1 xt.symm]; exact th4
  · simp [ob_ads, ob_so]
  · simp [ob_ads]
  · exact fun b s u a hm => absurd hm (nt2 b s u a)
  · rw [ifr tp xtp.symm tprs]; exact gt0
  · rw [tb8]; exact sb_fit0
  · exact ne5 hb _ (pT1 _ _ (T24 _ _ hbT2))
  · exact ne7 hb _ (sT1 _ _ (qT1 _ _ (pT1 _ _ (T24 _ _ hbT2))))
  · simp [ob_ads]
  · omega
  · omega
  · rw [x2x 5 (by decide) (by decide) (by decide) (by decide) (by decide), h5]; rfl
  · exact fun i hi => by cases hi
  · rw [ifr tp xtp.symm tprs]; exact gt1
end OCK
