/-! THE OBJECT'S CALLS: put -/
theorem sp_bl_mid {A C : ob_E} {key : List Nat} (h1 : ∀ e ∈ A, ob_cmp e.1 key < 0) (h2 : ∀ e ∈ C, ob_cmp key e.1 < 0) : sp_bl (A ++ C) key false = A.length := by
  unfold sp_bl
  rw [List.countP_append, List.countP_eq_length.mpr (fun e he => ?_), List.countP_eq_zero.mpr (fun e he => ?_), Nat.add_zero]
  · have := h2 e he
    have : ¬ 0 < ob_cmp key e.1 := by omega
    simp [this]
  · have := h1 e he
    have : 0 < ob_cmp key e.1 := by rw [ob_cmp_neg]; omega
    simp [this]
section OCI
variable {X : ob_X} {T : ob_T} {V V' : ob_V} {B B' : ob_B} {J : ob_J} {R : Room} {Q : ob_r → ob_w → Prop} {k n : Nat} {x me mu hp edge hb t nl tp tb rs rr cap N : Nat} {l : List ob_bk} {tt tt' : ob_t} {K : ob_k} {S : sp_S}
theorem put_pre {kk : Nat} {b : Bool} {ms : Nat} (h : ob_O T V B x me mu hp edge hb t nl tp tb rs rr cap N l tt K) (hy : ob_Y V B x tp tb rs rr tt K S) (hk : 1 ≤ kk ∧ kk ≤ 64) (hkn : kk ≤ S.2.2.1.length) (hv : S.2.2.1.length - kk ≤ 512)
    (hF : ob_C X mX5_isFull 1 0 0 [.ref x, va_rf ((sp_fd S.1 (S.2.2.1.take kk)).bind (fun i => (ob_ads tt)[i]?)), .int (nI (ob_un S.2.2.1.length))] (T, ob_set V tp 1 (.int 0), B, J) (ob_e (some (ob_cv b)) (T, ob_set V tp 1 (.int 0), B, J)))
    (kk9 : ob_G X mX5_put (ob_rm 8 8 ms) Q 58 [(0, .ref x), (1, .int (nI kk)), (2, .int (nI S.2.2.1.length)), (3, va_rf ((sp_fd S.1 (S.2.2.1.take kk)).bind (fun i => (ob_ads tt)[i]?)))] [ob_cv b] (T, ob_set V tp 1 (.int 0), B, J) 0 0) :
    ob_G X mX5_put (ob_rm 8 8 ms) Q 0 [(0, .ref x), (1, .int (nI kk))] [] (T, V, B, J) 0 0 := by
  obtain ⟨⟨x1, x2, x3, x4, x5, x6, x7, x8⟩, hs, ⟨t1, t2, t3, t4, t5⟩, en, ⟨r1, r2, r3, r4, r5, r6, r7, r8, r9, r10, r11⟩, n1, n2, n3⟩ := id h
  obtain ⟨y1, y2, y3, ⟨y4, y5, y6⟩, y7, y8, y9⟩ := id hy
  obtain ⟨h1, hy1⟩ := hy.read h
  have tT := t1.1
  refine og_aload_n dX5_put_0 rfl rfl ?_
  refine og_callVe dX5_put_1 kvX5_64 (ct_readTape x1 x5 r1 y4) rfl x1 rfl rfl ⟨Nat.le_of_ble_eq_true rfl, Nat.le_of_ble_eq_true rfl⟩ (Nat.zero_le _) (Nat.zero_le _) (Nat.le_of_ble_eq_true rfl) rfl ?_
  refine og_istore_n dX5_put_4 (by decide) ?_
  refine og_iload_n dX5_put_5 rfl ?_
  refine og_callSe dX5_put_6 ksX5_68 ct_isKeyLength rfl rfl ⟨Nat.le_of_ble_eq_true rfl, Nat.le_of_ble_eq_true rfl⟩ (Nat.zero_le _) (Nat.zero_le _) (Nat.le_of_ble_eq_true rfl) rfl ?_
  rw [decide_eq_true (show 1 ≤ nI kk ∧ nI kk ≤ 64 from ⟨nI_le (a := 1) hk.1 (by omega), nI_le (b := 64) hk.2 (by omega)⟩)]
  refine og_if_eq (tgt := 26) dX5_put_9 (by decide) (fun z9 => absurd z9 (by decide)) (fun _ => ?_)
  refine og_iload_n dX5_put_12 rfl ?_
  refine og_iload_n dX5_put_13 rfl ?_
  refine og_icmp_gt (tgt := 26) dX5_put_14 (by decide) (fun z9 => absurd z9 (fun h9 => absurd (nI_le hkn (by omega)) (Int32.not_le.mpr h9))) (fun _ => ?_)
  refine og_iload_n dX5_put_17 rfl ?_
  refine og_iload_n dX5_put_18 rfl ?_
  refine og_isub dX5_put_19 ?_
  refine og_st [.int (nI (S.2.2.1.length - kk))] (by rw [nI_sub hkn]; rfl) ?_
  have x4' : ob_set V tp 1 (.int 0) x 2 = .ref t := h1.1.2.2.2.1
  have x5' : ob_set V tp 1 (.int 0) x 3 = .ref tp := h1.1.2.2.2.2.1
  refine og_sipush (v := 512) dX5_put_20 (by decide) ?_
  refine og_icmp_le (tgt := 36) dX5_put_23 (by decide) (fun _ => ?_) (fun z9 => absurd (nI_le (b := 512) hv (by omega)) z9)
  refine og_aload_n dX5_put_36 rfl rfl ?_
  refine og_getf dX5_put_37 kfX5_31 (by assumption) (by assumption) ?_
  refine og_aload_n dX5_put_40 rfl rfl ?_
  refine og_getf dX5_put_41 kfX5_38 (by assumption) (by assumption) ?_
  refine og_iload_n dX5_put_44 rfl ?_
  have hlk : (S.2.2.1.take kk).length = kk := by rw [List.length_take]; omega
  have hbk : ob_bs B tb 0 (S.2.2.1.take kk) := by
    have := y6
    rw [← List.take_append_drop kk S.2.2.1] at this
    exact this.app.1
  refine og_st [.int (nI (S.2.2.1.take kk).length), .ref tp, .ref t] (by rw [hlk]) ?_
  refine og_callVe dX5_put_45 kvX5_74 (ct_find h1.2.2.1.1 h1.2.2.1.2.1 h1.hbp r1 h1.2.2.2.2.1.2.1 r3 (by omega) (by omega) hbk h1.ns t5) rfl tT rfl rfl ⟨Nat.le_of_ble_eq_true rfl, Nat.le_of_ble_eq_true rfl⟩ (Nat.zero_le _) (Nat.zero_le _) (Nat.le_of_ble_eq_true rfl) rfl ?_
  rw [sp_find t5, ← y1]
  refine og_astore_n dX5_put_48 (by decide) (va_rf_ref _) ?_
  refine og_aload_n dX5_put_49 rfl rfl ?_
  refine og_aload_n dX5_put_50 rfl (va_rf_ref _) ?_
  refine og_iload_n dX5_put_51 rfl ?_
  refine og_callSe dX5_put_52 ksX5_78 (ct_unitsOf (by omega)) rfl rfl ⟨Nat.le_of_ble_eq_true rfl, Nat.le_of_ble_eq_true rfl⟩ (Nat.zero_le _) (Nat.zero_le _) (by cases (sp_fd S.1 (S.2.2.1.take kk)).bind (fun i => (ob_ads tt)[i]?) <;> exact Nat.le_of_ble_eq_true rfl) rfl ?_
  refine og_callVe dX5_put_55 kvX5_82 hF rfl x1 rfl rfl ⟨Nat.le_of_ble_eq_true rfl, Nat.le_of_ble_eq_true rfl⟩ (Nat.zero_le _) (Nat.zero_le _) (Nat.le_of_ble_eq_true rfl) rfl ?_
  exact og_lv _ rfl kk9
theorem ct_put {kc : Int32} (hI : ob_I T V B x me mu cap S) : ∃ g, (g = 0 ∨ ((2 * cap ≤ g ∨ g = mu) ∧ cap < g ∧ g ≤ mu)) ∧ ob_C X mX5_put 8 8 (40 + 16 * g) [.ref x, .int kc] (T, V, B, J) (ob_qx T V B J x me mu (if g = 0 then cap else g) ob_IA ob_IS (sp_put me mu S kc)) := by
  obtain ⟨hp, edge, hb, t, nl, tp, tb, rs, rr, N, l, tt, K, h, hy⟩ := hI
  obtain ⟨⟨x1, x2, x3, x4, x5, x6, x7, x8⟩, hs, ⟨t1, t2, t3, t4, t5⟩, ⟨en, eo⟩, ⟨r1, r2, r3, r4, r5, r6, r7, r8, r9, r10, r11⟩, n1, n2, n3⟩ := id h
  obtain ⟨y1, y2, y3, ⟨y4, y5, y6⟩, y7, y8, y9⟩ := id hy
  obtain ⟨h1, hy1⟩ := hy.read h
  have tT := t1.1
  have hlim := hs.2.2.2.2.2.2.2.2.2.2.2
  have husl : sp_us ((ob_ads tt).map K) ≤ 4096 := by
    have := ob_us_le hs.2.2.2.2.2.2.2.2.1.2.2.2
    have e1 := hs.2.2.2.2.2.2.2.2.2.1
    have e2 := hs.2.2.2.2.2.2.2.2.2.2.1
    omega
  by_cases hg : (1 ≤ kc ∧ kc ≤ 64) ∧ kc.toNatClampNeg ≤ S.2.2.1.length ∧ S.2.2.1.length - kc.toNatClampNeg ≤ 512
  rotate_left
  · refine ⟨0, Or.inl rfl, ?_⟩
    rw [show sp_put me mu S kc = (1, 0, sp_0 S) from if_pos hg]
    refine ob_C_of (by decide) rfl (Nat.le_of_ble_eq_true rfl) ?_
    refine og_lv [(0, .ref x), (1, .int kc)] rfl ?_
    have bad : ∀ lv, ob_G X mX5_put (ob_rm 8 8 40) (ob_qx T V B J x me mu cap ob_IA ob_IS (1, 0, sp_0 S)) 26 lv [] (T, ob_set V tp 1 (.int 0), B, J) 0 0 := by
      intro lv
      exact og_thr ⟨dX5_put_26, dX5_put_29, dX5_put_30, dX5_put_32, dX5_put_35⟩ rfl klX5_45 ktIA (text := "no key with a value") (by decide) rfl (by decide) (by decide) (by decide) (by decide) ⟨_, _, _, _, rfl, h.wx (ob_sc_tp _), ⟨_, _, _, _, _, _, _, _, _, _, _, _, _, h1, hy1⟩, ob_an1⟩
    refine og_aload_n dX5_put_0 rfl rfl ?_
    refine og_callVe dX5_put_1 kvX5_64 (ct_readTape x1 x5 r1 y4) rfl x1 rfl rfl ⟨by decide, by decide⟩ (by decide) (by decide) (Nat.le_of_ble_eq_true rfl) rfl ?_
    refine og_istore_n dX5_put_4 (by decide) ?_
    refine og_iload_n dX5_put_5 rfl ?_
    refine og_callSe dX5_put_6 ksX5_68 ct_isKeyLength rfl rfl ⟨by decide, by decide⟩ (by decide) (by decide) (Nat.le_of_ble_eq_true rfl) rfl ?_
    by_cases hk : 1 ≤ kc ∧ kc ≤ 64
    · rw [decide_eq_true hk]
      obtain ⟨j, hj, rfl⟩ := nI_of (x := kc) (fun h9 => absurd hk.1 (Int32.not_le.mpr (Int32.lt_trans h9 (by decide))))
      rw [nI_clamp hj] at hg
      refine og_if_eq (tgt := 26) dX5_put_9 (by decide) (fun z9 => absurd z9 (by decide)) (fun _ => ?_)
      refine og_iload_n dX5_put_12 rfl ?_
      refine og_iload_n dX5_put_13 rfl ?_
      refine og_icmp_gt (tgt := 26) dX5_put_14 (by decide) (fun c1 => ?_) (fun c1 => ?_)
      · exact bad _
      · have hjn : j ≤ S.2.2.1.length := by
          rcases Nat.lt_or_ge S.2.2.1.length j with h9 | h9
          · exact absurd (nI_lt h9 (by omega)) c1
          · exact h9
        refine og_iload_n dX5_put_17 rfl ?_
        refine og_iload_n dX5_put_18 rfl ?_
        refine og_isub dX5_put_19 ?_
        refine og_st [.int (nI (S.2.2.1.length - j))] (by rw [nI_sub hjn]; rfl) ?_
        refine og_sipush (v := 512) dX5_put_20 (by decide) ?_
        refine og_icmp_le (tgt := 36) dX5_put_23 (by decide) (fun c2 => ?_) (fun c2 => ?_)
        · exact absurd ⟨hk, hjn, (nI_leI (b := 512) (by omega) (by omega)).mp c2⟩ hg
        · exact bad _
    · rw [decide_eq_false hk]
      refine og_if_eq (tgt := 26) dX5_put_9 (by decide) (fun _ => ?_) (fun z9 => absurd (rfl) z9)
      exact bad _
  obtain ⟨j, hj, rfl⟩ := nI_of (x := kc) (fun h9 => absurd hg.1.1 (Int32.not_le.mpr (Int32.lt_trans h9 (by decide))))
  have hA : sp_put me mu S (nI j) = (match sp_fd S.1 (S.2.2.1.take j) with
    | none => if me ≤ S.1.length ∨ mu < sp_us S.1 + ob_un S.2.2.1.length then (2, 0, sp_0 S) else (0, 1, (S.1.take (sp_bl S.1 (S.2.2.1.take j) false) ++ (S.2.2.1.take j, S.2.2.1.drop j) :: S.1.drop (sp_bl S.1 (S.2.2.1.take j) false), some (sp_bl S.1 (S.2.2.1.take j) false), [], S.2.2.2))
    | some i => if mu < sp_us (S.1.eraseIdx i) + ob_un S.2.2.1.length then (2, 0, sp_0 S) else (0, 0, (S.1.set i (S.2.2.1.take j, S.2.2.1.drop j), some i, [], S.2.2.2))) := by
    have : sp_put me mu S (nI j) = _ := if_neg (not_not_intro hg)
    rw [nI_clamp hj] at this
    exact this
  rw [nI_clamp hj] at hg
  obtain ⟨hgk, hgn, hgv⟩ := hg
  have hjk : 1 ≤ j ∧ j ≤ 64 := ⟨(nI_leI (a := 1) (by omega) hj).mp hgk.1, (nI_leI (b := 64) hj (by omega)).mp hgk.2⟩
  have hun : ob_un S.2.2.1.length ≤ 4096 := by unfold ob_un; omega
  have full : ∀ lv ms, 6 ≤ ms → ob_G X mX5_put (ob_rm 8 8 ms) (ob_qx T V B J x me mu cap ob_IA ob_IS (2, 0, sp_0 S)) 61 lv [] (T, ob_set V tp 1 (.int 0), B, J) 0 0 := by
    intro lv ms hms
    exact og_thr ⟨dX5_put_61, dX5_put_64, dX5_put_65, dX5_put_67, dX5_put_70⟩ rfl klX5_55 ktIS (text := "full") (by decide) rfl (Nat.le_of_ble_eq_true rfl) (Nat.le_of_ble_eq_true rfl) (Nat.le_of_ble_eq_true rfl) (by show 0 + 6 ≤ ms; omega) ⟨_, _, _, _, rfl, h.wx (ob_sc_tp _), ⟨_, _, _, _, _, _, _, _, _, _, _, _, _, h1, hy1⟩, ob_an2⟩
  have x2' : ob_set V tp 1 (.int 0) x 0 = .int (nI me) := h1.1.2.1
  have x3' : ob_set V tp 1 (.int 0) x 1 = .ref hp := h1.1.2.2.1
  have x4' : ob_set V tp 1 (.int 0) x 2 = .ref t := h1.1.2.2.2.1
  have hs1 := h1.2.1
  have hlen : (S.2.2.1.take j).length + (S.2.2.1.drop j).length = S.2.2.1.length := by rw [List.length_take, List.length_drop]; omega
  have hlv : (S.2.2.1.drop j).length ≤ 512 := by rw [List.length_drop]; exact hgv
  have hlk : (S.2.2.1.take j).length = j := by rw [List.length_take]; omega
  cases hf : sp_fd S.1 (S.2.2.1.take j) with
  | none =>
    have hF : ob_C X mX5_isFull 1 0 0 [.ref x, va_rf ((sp_fd S.1 (S.2.2.1.take j)).bind (fun i => (ob_ads tt)[i]?)), .int (nI (ob_un S.2.2.1.length))] (T, ob_set V tp 1 (.int 0), B, J) (ob_e (some (ob_cv (decide (me ≤ ob_siz tt ∨ mu < sp_us ((ob_ads tt).map K) + ob_un S.2.2.1.length)))) (T, ob_set V tp 1 (.int 0), B, J)) := by
      rw [hf]
      exact ct_isFullN x1 x2' x3' x4' h1.2.2.1.1 hs1.1 hs1.2.1 hs1.2.2.2.1 ⟨by rw [ob_siz_len]; exact h.len, n2, husl, hlim, hun⟩
    rw [hf] at hA
    by_cases hfl : me ≤ S.1.length ∨ mu < sp_us S.1 + ob_un S.2.2.1.length
    · refine ⟨0, Or.inl rfl, ?_⟩
      rw [hA, show (match (none : Option Nat) with | none => if me ≤ S.1.length ∨ mu < sp_us S.1 + ob_un S.2.2.1.length then ((2, 0, sp_0 S) : sp_A) else (0, 1, (S.1.take (sp_bl S.1 (S.2.2.1.take j) false) ++ (S.2.2.1.take j, S.2.2.1.drop j) :: S.1.drop (sp_bl S.1 (S.2.2.1.take j) false), some (sp_bl S.1 (S.2.2.1.take j) false), [], S.2.2.2)) | some i => if mu < sp_us (S.1.eraseIdx i) + ob_un S.2.2.1.length then (2, 0, sp_0 S) else (0, 0, (S.1.set i (S.2.2.1.take j, S.2.2.1.drop j), some i, [], S.2.2.2))) = (2, 0, sp_0 S) from if_pos hfl]
      refine ob_C_of (by decide) rfl (Nat.le_of_ble_eq_true rfl) ?_
      refine put_pre h hy hjk hgn hgv hF ?_
      rw [decide_eq_true (show me ≤ ob_siz tt ∨ mu < sp_us ((ob_ads tt).map K) + ob_un S.2.2.1.length by rw [ob_siz_len, ← y1]; rw [y1, List.length_map, ← y1] at hfl; exact hfl)]
      refine og_if_eq (tgt := 71) dX5_put_58 (by decide) (fun z9 => absurd z9 (by decide)) (fun _ => ?_)
      exact full _ _ (by decide)
    · have hA2 : sp_put me mu S (nI j) = (0, 1, (S.1.take (sp_bl S.1 (S.2.2.1.take j) false) ++ (S.2.2.1.take j, S.2.2.1.drop j) :: S.1.drop (sp_bl S.1 (S.2.2.1.take j) false), some (sp_bl S.1 (S.2.2.1.take j) false), [], S.2.2.2)) := by rw [hA]; exact if_neg hfl
      rw [y1] at hfl
      have hfl2 : (ob_ads tt).length < me ∧ sp_us ((ob_ads tt).map K) + ob_un S.2.2.1.length ≤ mu := by rw [List.length_map] at hfl; omega
      refine ⟨_, ob_gr_ok (l := l) (cap := cap) rfl hfl2.2, ?_⟩
      generalize hgr : ob_gr l mu cap (sp_us ((ob_ads tt).map K)) (ob_un S.2.2.1.length) = g
      rw [hA2]
      refine ob_C_of (by decide) rfl (Nat.le_of_ble_eq_true rfl) ?_
      refine put_pre h hy hjk hgn hgv hF ?_
      rw [decide_eq_false (show ¬ (me ≤ ob_siz tt ∨ mu < sp_us ((ob_ads tt).map K) + ob_un S.2.2.1.length) by rw [ob_siz_len]; omega), hf]
      have hne : ∀ y ∈ ob_ads tt, (K y).1 ≠ S.2.2.1.take j := fun y hy9 => by
        have := sp_fd_none (by rw [y1]; exact sp_so_of.mpr t5) hf (K y) (by rw [y1]; exact List.mem_map.mpr ⟨y, hy9, rfl⟩)
        exact this
      refine og_if_eq (tgt := 71) dX5_put_58 (by decide) (fun _ => ?_) (fun z9 => absurd (rfl) z9)
      refine og_aload_n dX5_put_71 rfl rfl ?_
      refine og_ifnonnullN dX5_put_72 ?_
      refine og_aload_n dX5_put_75 rfl rfl ?_
      refine og_aload_n dX5_put_76 rfl rfl ?_
      refine og_iload_n dX5_put_77 rfl ?_
      refine og_iload_n dX5_put_78 rfl ?_
      refine og_callVn dX5_put_79 kvX5_88 (ct_newEntry h1 y6 hjk.1 hjk.2 hgn hgv y5 hne hfl2.2 hfl2.1 hgr) rfl x1 rfl rfl ⟨Nat.le_of_ble_eq_true rfl, Nat.le_of_ble_eq_true rfl⟩ (by show 0 + 5 ≤ 8; omega) (by show 0 + (20 + 16 * g) ≤ 40 + 16 * g; omega) (Nat.le_of_ble_eq_true rfl) rfl (fun E w' h9 => by obtain ⟨_, _, _, _, _, _, _, _, _, _, _, h9, _⟩ := h9; cases h9) (fun v w' h9 => ?_)
      obtain ⟨a, T2, V2, B2, J2, hb2, N2, l2, tt2, L1, L2, hv9, rfl, ha0, wx2, o2, a1, a2, o3, o4, k1, k2, k3, k4, k5⟩ := h9
      cases hv9
      have xT2 := o2.1.1
      refine og_put dX5_put_82 kfX5_92 (by assumption) rfl rfl ?_
      refine og_iconst (v := 1) dX5_put_85 (by decide) ?_
      have eE : S.1 = L1.map K ++ L2.map K := by rw [y1, a1, List.map_append]
      have ebl : sp_bl S.1 (S.2.2.1.take j) false = L1.length := by
        rw [eE, sp_bl_mid, List.length_map]
        · intro e he
          obtain ⟨y, hy9, rfl⟩ := List.mem_map.mp he
          exact o3 y hy9
        · intro e he
          obtain ⟨y, hy9, rfl⟩ := List.mem_map.mp he
          exact o4 y hy9
      have haL : a ∉ ob_ads tt := fun h9 => by rw [(t1.2.2.2.2.2.1.2 a h9).1] at ha0; cases ha0
      have nm1 : a ∉ L1 := fun h9 => haL (by rw [a1]; exact List.mem_append_left _ h9)
      have nm2 : a ∉ L2 := fun h9 => haL (by rw [a1]; exact List.mem_append_right _ h9)
      have hsc : ob_sc V2 B2 x tp tb rs rr (ob_set V2 x 5 (.ref a)) B2 := ob_sc_x _
      have o5 := o2.small hsc o2.2.2.2.2.1.2.2.2.1
      obtain ⟨q1, -, -, -, q5, -⟩ := o2.2.2.2.2.1
      have xtp : tp ≠ x := fun e => by rw [e, xT2] at q1; cases q1
      have xrs : rs ≠ x := fun e => by rw [e, xT2] at q5; cases q5
      refine og_ireturn (ty := .boolean) rfl dX5_put_86 rfl (by show 0 + 5 ≤ 8; omega) (by show 0 + (20 + 16 * g) ≤ 40 + 16 * g; omega) ⟨_, _, _, _, rfl, (h.wx (ob_sc_tp _)).tr (wx2.tr (o2.wx hsc)), ⟨_, _, _, _, _, _, _, _, _, _, _, _, _, o5, ?_, ?_, ?_, ⟨?_, by simp, fun j9 h9 => by simp at h9⟩, ?_, y8, ?_⟩, ob_an0 rfl⟩
      · show _ ++ _ :: _ = _
        rw [ebl, a2, List.map_append, List.map_cons, ob_ku_s, ob_ku_map nm1, ob_ku_map nm2, eE]
        simp
      · rw [ob_set_s]
        show _ = va_rf ((some (sp_bl S.1 (S.2.2.1.take j) false)).bind _)
        rw [ebl, Option.bind_some, a2]
        simp [va_rf]
      · intro i hi
        have hi : some (sp_bl S.1 (S.2.2.1.take j) false) = some i := hi
        rw [ebl] at hi
        cases hi
        show L1.length < (_ ++ _ :: _ : ob_E).length
        rw [ebl, eE]
        simp
      · show ob_set V2 x 5 (.ref a) tp 1 = _
        rw [ob_set_a _ _ _ _ _ xtp, k1, ob_set_s]; rfl
      · show ob_set V2 x 5 (.ref a) rs 1 = _
        rw [ob_set_a _ _ _ _ _ xrs, k2, ob_set_a _ _ _ _ _ r8.symm]; exact y7
      · exact y9.same (fun i _ => by show B2 rr _ = _; rw [k4])
  | some i =>
    have hil := (sp_fd_some hf).1
    have hkey := (sp_fd_some hf).2.2
    rw [y1, List.length_map] at hil
    have hi := List.getElem?_eq_getElem hil
    have ha : (ob_ads tt)[i] ∈ ob_ads tt := List.getElem_mem hil
    generalize (ob_ads tt)[i] = a at *
    have hKa : (K a).1 = S.2.2.1.take j := by rw [← hkey, y1, List.getD_eq_getElem?_getD, List.getElem?_map, hi]; rfl
    obtain ⟨L1, L2, eL, eLi⟩ : ∃ L1 L2, ob_ads tt = L1 ++ a :: L2 ∧ L1.length = i := by
      have e := List.getElem?_eq_some_iff.mp hi
      obtain ⟨e1, e2⟩ := e
      refine ⟨(ob_ads tt).take i, (ob_ads tt).drop (i + 1), ?_, by rw [List.length_take]; omega⟩
      rw [← e2, ← List.drop_eq_getElem_cons e1, List.take_append_drop]
    have eE : S.1 = L1.map K ++ K a :: L2.map K := by rw [y1, eL, List.map_append, List.map_cons]
    have eEr : S.1.eraseIdx i = L1.map K ++ L2.map K := by
      rw [eE, ← eLi, List.eraseIdx_append_of_length_le (by simp)]
      simp
    obtain ⟨e1, e2, e3, e4, e5, b, s, e6, e7, e8⟩ := (h1.2.2.2.1.1 a ha)
    obtain ⟨b1, b2, b3, b4⟩ := ob_sg_mem hs1.2.2.2.2.2.2.2.2.1.2.1 _ _ _ _ e7
    have aT := (t1.2.2.2.2.2.1.2 a ha).1
    have eus : sp_us ((ob_ads tt).map K) = sp_us (L1.map K ++ L2.map K) + ob_un ((K a).1.length + (K a).2.length) := by rw [eL, List.map_append, List.map_cons, sp_us_app]
    have hF : ob_C X mX5_isFull 1 0 0 [.ref x, va_rf ((sp_fd S.1 (S.2.2.1.take j)).bind (fun i => (ob_ads tt)[i]?)), .int (nI (ob_un S.2.2.1.length))] (T, ob_set V tp 1 (.int 0), B, J) (ob_e (some (ob_cv (decide (mu < sp_us ((ob_ads tt).map K) - ob_un ((K a).1.length + (K a).2.length) + ob_un S.2.2.1.length)))) (T, ob_set V tp 1 (.int 0), B, J)) := by
      rw [hf, Option.bind_some, hi]
      exact ct_isFullS x1 x3' aT e6 b1 b3 hs1.1 hs1.2.1 hs1.2.2.2.1 ⟨by omega, husl, hlim, hun⟩
    have euse : sp_us ((ob_ads tt).map K) - ob_un ((K a).1.length + (K a).2.length) = sp_us (S.1.eraseIdx i) := by rw [eEr]; omega
    rw [euse] at hF
    rw [hf] at hA
    by_cases hfl : mu < sp_us (S.1.eraseIdx i) + ob_un S.2.2.1.length
    · refine ⟨0, Or.inl rfl, ?_⟩
      have hA2 : sp_put me mu S (nI j) = (2, 0, sp_0 S) := by rw [hA]; exact if_pos hfl
      rw [hA2]
      refine ob_C_of (by decide) rfl (Nat.le_of_ble_eq_true rfl) ?_
      refine put_pre h hy hjk hgn hgv hF ?_
      rw [decide_eq_true hfl]
      refine og_if_eq (tgt := 71) dX5_put_58 (by decide) (fun z9 => absurd z9 (by decide)) (fun _ => ?_)
      exact full _ _ (by decide)
    · have hA2 : sp_put me mu S (nI j) = (0, 0, (S.1.set i (S.2.2.1.take j, S.2.2.1.drop j), some i, [], S.2.2.2)) := by rw [hA]; exact if_neg hfl
      have hcv := ct_changeValue (X := X) (J := J) (key := S.2.2.1.take j) (val := S.2.2.1.drop j) h1 (by rw [List.take_append_drop]; exact y6) eL hKa hlv (by rw [← eEr, hlen]; omega)
      obtain ⟨g, hg0, hcv⟩ := hcv
      refine ⟨g, hg0, ?_⟩
      rw [hA2]
      refine ob_C_of (by decide) rfl (Nat.le_of_ble_eq_true rfl) ?_
      refine put_pre h hy hjk hgn hgv hF ?_
      rw [decide_eq_false hfl, hf, Option.bind_some, hi]
      refine og_if_eq (tgt := 71) dX5_put_58 (by decide) (fun _ => ?_) (fun z9 => absurd (rfl) z9)
      refine og_aload_n dX5_put_71 rfl rfl ?_
      refine og_ifnonnull (tgt := 87) dX5_put_72 (by decide) ?_
      refine og_aload_n dX5_put_87 rfl rfl ?_
      refine og_aload_n dX5_put_88 rfl rfl ?_
      refine og_iload_n dX5_put_89 rfl ?_
      refine og_st [.int (nI ((S.2.2.1.take j).length + (S.2.2.1.drop j).length)), .ref a, .ref x] (by rw [hlen]; rfl) ?_
      refine og_callVn dX5_put_90 kvX5_96 hcv rfl x1 rfl rfl ⟨Nat.le_of_ble_eq_true rfl, Nat.le_of_ble_eq_true rfl⟩ (by show 0 + 4 ≤ 8; omega) (by show 0 + (12 + 16 * g) ≤ 40 + 16 * g; omega) (Nat.le_of_ble_eq_true rfl) rfl (fun E w' h9 => by obtain ⟨_, _, _, _, _, _, h9, _⟩ := h9; cases h9) (fun v w' h9 => ?_)
      obtain ⟨T2, V2, B2, J2, hb2, l2, hv9, rfl, wx2, o2, k1, k2, k3, k4, k5⟩ := h9
      cases hv9
      have xT2 := o2.1.1
      refine og_aload_n dX5_put_93 rfl rfl ?_
      refine og_aload_n dX5_put_94 rfl rfl ?_
      refine og_put dX5_put_95 kfX5_92 (by assumption) rfl rfl ?_
      refine og_iconst (v := 0) dX5_put_98 (by decide) ?_
      have hsc : ob_sc V2 B2 x tp tb rs rr (ob_set V2 x 5 (.ref a)) B2 := ob_sc_x _
      have o5 := o2.small hsc o2.2.2.2.2.1.2.2.2.1
      obtain ⟨q1, -, -, -, q5, -⟩ := o2.2.2.2.2.1
      have xtp : tp ≠ x := fun e => by rw [e, xT2] at q1; cases q1
      have xrs : rs ≠ x := fun e => by rw [e, xT2] at q5; cases q5
      have hnd := t1.2.2.2.2.2.2
      rw [eL, List.nodup_append] at hnd
      have nm1 : a ∉ L1 := fun h9 => hnd.2.2 a h9 a (by simp) rfl
      have nm2 : a ∉ L2 := fun h9 => (List.nodup_cons.mp hnd.2.1).1 h9
      refine og_ireturn (ty := .boolean) rfl dX5_put_99 rfl (by show 0 + 4 ≤ 8; omega) (by show 0 + (12 + 16 * g) ≤ 40 + 16 * g; omega) ⟨_, _, _, _, rfl, (h.wx (ob_sc_tp _)).tr (wx2.tr (o2.wx hsc)), ⟨_, _, _, _, _, _, _, _, _, _, _, _, _, o5, ?_, ?_, ?_, ⟨?_, by simp, fun j9 h9 => by simp at h9⟩, ?_, y8, ?_⟩, ob_an0 rfl⟩
      · show S.1.set i _ = _
        rw [eL, List.map_append, List.map_cons, ob_ku_s, ob_ku_map nm1, ob_ku_map nm2, eE, ← eLi, List.set_append_right _ _ (by simp)]
        simp
      · rw [ob_set_s]
        show _ = va_rf ((some i).bind _)
        rw [Option.bind_some, hi]
      · intro i9 hi9
        have hi9 : some i = some i9 := hi9
        cases hi9
        show i < (S.1.set i _).length
        rw [List.length_set, y1, List.length_map]; exact hil
      · show ob_set V2 x 5 (.ref a) tp 1 = _
        rw [ob_set_a _ _ _ _ _ xtp, k1, ob_set_s]; rfl
      · show ob_set V2 x 5 (.ref a) rs 1 = _
        rw [ob_set_a _ _ _ _ _ xrs, k2, ob_set_a _ _ _ _ _ r8.symm]; exact y7
      · exact y9.same (fun i _ => by show B2 rr _ = _; rw [k4])
end OCI
