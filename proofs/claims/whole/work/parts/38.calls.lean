/-! THE OBJECT'S CALLS: remove, seek, at, step, value, place, range, byteAt, count -/
section OCG
variable {X : ob_X} {T : ob_T} {V V' : ob_V} {B B' : ob_B} {J : ob_J} {R : Room} {Q : ob_r → ob_w → Prop} {k n : Nat} {x me mu hp edge hb t nl tp tb rs rr cap N : Nat} {l : List ob_bk} {tt tt' : ob_t} {K : ob_k} {S : sp_S}
/-- an entry is gone -/
theorem ob_Y.drop {a : Nat} {L1 L2 : List Nat} (hy : ob_Y V B x tp tb rs rr tt K S) (hn : (ob_ads tt).Nodup) (h1 : ob_ads tt = L1 ++ a :: L2) (h2 : ob_ads tt' = L1 ++ L2) (h5 : V' x 5 = va_rf (if S.2.1.bind (fun i => (ob_ads tt)[i]?) = some a then none else S.2.1.bind (fun i => (ob_ads tt)[i]?))) (ht : ∀ j, V' tp j = V tp j) (hr : ∀ j, V' rs j = V rs j) :
    ob_Y V' B x tp tb rs rr tt' K (S.1.eraseIdx L1.length, sp_cd S.2.1 L1.length, S.2.2) := by
  obtain ⟨y1, y2, y3, ⟨y4, y5, y6⟩, y7, y8, y9⟩ := hy
  have hE : S.1 = L1.map K ++ K a :: L2.map K := by rw [y1, h1, List.map_append, List.map_cons]
  have hE2 : S.1.eraseIdx L1.length = L1.map K ++ L2.map K := by
    rw [hE, List.eraseIdx_append_of_length_le (by simp)]
    simp
  have hl : S.1.length = L1.length + L2.length + 1 := by rw [hE]; simp; omega
  have ei : (ob_ads tt)[L1.length]? = some a := by rw [h1]; simp
  refine ⟨by rw [hE2, h2, List.map_append], ?_, ?_, ⟨by rw [ht]; exact y4, y5, y6⟩, by rw [hr]; exact y7, y8, y9⟩
  · rw [h5]
    congr 1
    cases hc : S.2.1 with
    | none => simp [sp_cd]
    | some c =>
      have hcl := y3 c hc
      simp only [Option.bind_some, sp_cd]
      have hcl2 : c < (ob_ads tt).length := by rw [y1, List.length_map] at hcl; exact hcl
      by_cases e1 : c = L1.length
      · subst e1
        rw [if_pos ei, if_pos rfl]
        rfl
      · have e2 : ¬ (ob_ads tt)[c]? = some a := fun e => e1 ((List.getElem?_inj hcl2 hn).mp (e.trans ei.symm))
        rw [if_neg e2, if_neg e1]
        by_cases e3 : L1.length < c
        · rw [if_pos e3]
          simp only [Option.bind_some]
          rw [h1, h2, List.getElem?_append_right (by omega), List.getElem?_append_right (by omega)]
          obtain ⟨d, rfl⟩ : ∃ d, c = L1.length + d + 1 := ⟨c - L1.length - 1, by omega⟩
          rw [show L1.length + d + 1 - L1.length = d + 1 by omega, show L1.length + d + 1 - 1 - L1.length = d by omega, List.getElem?_cons_succ]
        · rw [if_neg e3]
          simp only [Option.bind_some]
          rw [h1, h2, List.getElem?_append_left (by omega), List.getElem?_append_left (by omega)]
  · intro j hj
    show j < (S.1.eraseIdx L1.length).length
    rw [hE2, List.length_append, List.length_map, List.length_map]
    cases hc : S.2.1 with
    | none => rw [hc] at hj; simp [sp_cd] at hj
    | some c =>
      have hcl := y3 c hc
      rw [hc] at hj
      simp only [sp_cd] at hj
      split at hj
      · cases hj
      · split at hj <;> cases hj <;> omega
theorem ct_remove (hI : ob_I T V B x me mu cap S) : ob_C X mX5_remove 8 3 20 [.ref x] (T, V, B, J) (ob_qx T V B J x me mu cap ob_IA ob_IA (sp_rem S)) := by
  obtain ⟨hp, edge, hb, t, nl, tp, tb, rs, rr, N, l, tt, K, h, hy⟩ := hI
  refine ob_C_of (by decide) rfl (Nat.le_of_ble_eq_true rfl) ?_
  obtain ⟨⟨x1, x2, x3, x4, x5, x6, x7, x8⟩, hs, ⟨t1, t2, t3, t4, t5⟩, en, ⟨r1, r2, r3, r4, r5, r6, r7, r8, r9, r10, r11⟩, n1, n2, n3⟩ := id h
  obtain ⟨y1, y2, y3, ⟨y4, y5, y6⟩, y7, y8, y9⟩ := id hy
  refine og_lv [(0, .ref x)] rfl ?_
  refine og_aload_n dX5_remove_0 rfl rfl ?_
  refine og_getf dX5_remove_1 kfX5_31 (by assumption) (by assumption) ?_
  refine og_aload_n dX5_remove_4 rfl rfl ?_
  refine og_getf dX5_remove_5 kfX5_38 (by assumption) (by assumption) ?_
  refine og_aload_n dX5_remove_8 rfl rfl ?_
  obtain ⟨h1, hy1⟩ := hy.read h
  refine og_callVx dX5_remove_9 kvX5_100 (ct_readKey x1 x5 r1 y4) rfl x1 rfl rfl ⟨by decide, by decide⟩ (by decide) (by decide) (Nat.le_of_ble_eq_true rfl) rfl (fun E w' h9 => ?_) (fun v w' h9 => ?_)
  · obtain ⟨rfl, g1, g2⟩ := h9
    by_cases hk : 1 ≤ nI S.2.2.1.length ∧ nI S.2.2.1.length ≤ 64
    · cases g1 hk
    · cases g2 hk
      have hA : sp_rem S = (1, 0, sp_0 S) := if_neg (fun h9 => hk ((sp_kl_iff y5).mpr h9))
      rw [hA]
      exact ⟨_, _, _, _, rfl, h.wx (ob_sc_tp _), ⟨_, _, _, _, _, _, _, _, _, _, _, _, _, h1, hy1⟩, ob_an1⟩
  · obtain ⟨rfl, g1, g2⟩ := h9
    by_cases hk : 1 ≤ nI S.2.2.1.length ∧ nI S.2.2.1.length ≤ 64
    · cases g1 hk
      have hkl := (sp_kl_iff y5).mp hk
      have tT := t1.1
      refine og_callVe dX5_remove_12 kvX5_74 (ct_find h1.2.2.1.1 h1.2.2.1.2.1 h1.hbp r1 h1.2.2.2.2.1.2.1 r3 y5 (by omega) y6 h1.ns t5) rfl tT rfl rfl ⟨by decide, by decide⟩ (by decide) (by decide) (Nat.le_of_ble_eq_true rfl) rfl ?_
      rw [sp_find t5, ← y1]
      have hA : sp_rem S = (match sp_fd S.1 S.2.2.1 with | none => (0, 0, sp_0 S) | some i => (0, 1, (S.1.eraseIdx i, sp_cd S.2.1 i, [], S.2.2.2))) := if_pos hkl
      cases hf : sp_fd S.1 S.2.2.1 with
      | none =>
        rw [hf] at hA
        rw [hA]
        refine og_astore_n dX5_remove_15 (by decide) rfl ?_
        refine og_aload_n dX5_remove_16 rfl rfl ?_
        refine og_ifnullN (tgt := 25) dX5_remove_17 (by decide) ?_
        refine og_aload_n dX5_remove_25 rfl rfl ?_
        refine og_ifnullN (tgt := 33) dX5_remove_26 (by decide) ?_
        refine og_iconst (v := 0) dX5_remove_33 (by decide) ?_
        exact og_ireturn (ty := .boolean) rfl dX5_remove_34 rfl (by decide) (by decide) ⟨_, _, _, _, rfl, h.wx (ob_sc_tp _), ⟨_, _, _, _, _, _, _, _, _, _, _, _, _, h1, hy1⟩, ob_an0 rfl⟩
      | some i =>
        rw [hf] at hA
        rw [hA]
        have hil := (sp_fd_some hf).1
        rw [y1, List.length_map] at hil
        have hi := List.getElem?_eq_getElem hil
        have ha : (ob_ads tt)[i] ∈ ob_ads tt := List.getElem_mem hil
        generalize (ob_ads tt)[i] = a at *
        simp only [Option.bind_some, hi]
        refine og_astore_n dX5_remove_15 (by decide) rfl ?_
        refine og_aload_n dX5_remove_16 rfl rfl ?_
        refine og_ifnull dX5_remove_17 ?_
        refine og_aload_n dX5_remove_20 rfl rfl ?_
        refine og_aload_n dX5_remove_21 rfl rfl ?_
        refine og_callVn dX5_remove_22 kvX5_112 (ct_drop (o := S.2.1.bind (fun i => (ob_ads tt)[i]?)) h1 ha hy1.2.1) rfl x1 rfl rfl ⟨by decide, by decide⟩ (by decide) (by decide) (Nat.le_of_ble_eq_true rfl) rfl (fun E w' h9 => by obtain ⟨_, _, _, _, _, _, h9, _⟩ := h9; cases h9) (fun v w' h9 => ?_)
        obtain ⟨V2, N2, l2, tt2, L1, L2, hv, rfl, o2, a1, a2, v5, kp⟩ := h9
        cases hv
        refine og_aload_n dX5_remove_25 rfl rfl ?_
        refine og_ifnull dX5_remove_26 ?_
        refine og_iconst (v := 1) dX5_remove_29 (by decide) ?_
        refine og_goto (tgt := 34) dX5_remove_30 (by decide) ?_
        have hn := t1.2.2.2.2.2.2
        have eL : i = L1.length := by
          have e2 : (ob_ads tt)[L1.length]? = some a := by rw [a1]; simp
          exact (List.getElem?_inj hil hn).mp (hi.trans e2.symm)
        have hy2 := hy1.drop (tt' := tt2) (V' := V2) hn a1 a2 v5 (kp tp 3 0 r1 (Or.inl rfl)) (kp rs 3 0 r5 (Or.inl rfl))
        rw [← eL] at hy2
        refine og_ireturn (ty := .boolean) rfl dX5_remove_34 rfl (by decide) (by decide) ⟨_, _, _, _, rfl, ⟨fun _ _ h => h, fun y c z hy h6 h7 => ⟨fun j => ?_, rfl, rfl⟩⟩, ⟨_, _, _, _, _, _, _, _, _, _, _, _, _, o2, hy2⟩, ob_an0 rfl⟩
        rw [kp y c z hy (Or.inr h6)]
        exact ob_set_a _ _ _ _ _ (fun e => by rw [e, r1] at hy; cases hy; omega)
    · cases g2 hk
/-- a place is picked: an entry is told, or nothing is there -/
theorem ob_pickO {i : Nat} (h : ob_O T V B x me mu hp edge hb t nl tp tb rs rr cap N l tt K) (hi : i < 2 ^ 31) : ob_C X mX4_pick 0 0 0 [.ref t, .int (nI i)] (T, V, B, J) (ob_e (some (va_rf (ob_ads tt)[i]?)) (T, V, B, J)) :=
  ct_pick h.2.2.1.1 (by rw [ob_siz_len]; have := h.len; omega) hi
theorem ct_seek {how : Int32} (hI : ob_I T V B x me mu cap S) : ob_C X mX5_seek 8 3 20 [.ref x, .int how] (T, V, B, J) (ob_qx T V B J x me mu cap ob_IA ob_NE (sp_seek S how)) := by
  obtain ⟨hp, edge, hb, t, nl, tp, tb, rs, rr, N, l, tt, K, h, hy⟩ := hI
  refine ob_C_of (by decide) rfl (Nat.le_of_ble_eq_true rfl) ?_
  obtain ⟨⟨x1, x2, x3, x4, x5, x6, x7, x8⟩, hs, ⟨t1, t2, t3, t4, t5⟩, en, ⟨r1, r2, r3, r4, r5, r6, r7, r8, r9, r10, r11⟩, n1, n2, n3⟩ := id h
  obtain ⟨y1, y2, y3, ⟨y4, y5, y6⟩, y7, y8, y9⟩ := id hy
  refine og_lv [(0, .ref x), (1, .int how)] rfl ?_
  refine og_aload_n dX5_seek_0 rfl rfl ?_
  obtain ⟨h1, hy1⟩ := hy.read h
  have hbad : ¬ (sp_kl S.2.2.1.length = true ∧ 0 ≤ how ∧ how ≤ 3) → ∀ r, r = Sum.inr ob_IA → ob_qx T V B J x me mu cap ob_IA ob_NE (sp_seek S how) r (T, ob_set V tp 1 (.int 0), B, J) := by
    intro hb r hr
    rw [hr, show sp_seek S how = (1, 0, sp_0 S) from if_neg hb]
    exact ⟨_, _, _, _, rfl, h.wx (ob_sc_tp _), ⟨_, _, _, _, _, _, _, _, _, _, _, _, _, h1, hy1⟩, ob_an1⟩
  refine og_callVx dX5_seek_1 kvX5_100 (ct_readKey x1 x5 r1 y4) rfl x1 rfl rfl ⟨by decide, by decide⟩ (by decide) (by decide) (Nat.le_of_ble_eq_true rfl) rfl (fun E w' h9 => ?_) (fun v w' h9 => ?_)
  · obtain ⟨rfl, g1, g2⟩ := h9
    by_cases hk : 1 ≤ nI S.2.2.1.length ∧ nI S.2.2.1.length ≤ 64
    · cases g1 hk
    · exact hbad (fun h9 => hk ((sp_kl_iff y5).mpr h9.1)) _ (g2 hk)
  · obtain ⟨rfl, g1, g2⟩ := h9
    by_cases hk : 1 ≤ nI S.2.2.1.length ∧ nI S.2.2.1.length ≤ 64
    · cases g1 hk
      have hkl := (sp_kl_iff y5).mp hk
      have tT := t1.1
      refine og_istore_n dX5_seek_4 (by decide) ?_
      refine og_iload_n dX5_seek_5 rfl ?_
      refine og_if_lt (tgt := 14) dX5_seek_6 (by decide) (fun c1 => ?_) (fun c1 => ?_)
      · exact og_thr ⟨dX5_seek_14, dX5_seek_17, dX5_seek_18, dX5_seek_20, dX5_seek_23⟩ rfl klX5_45 ktIA (text := "no such way to seek") (by decide) rfl (by decide) (by decide) (by decide) (by decide) (hbad (fun h9 => absurd h9.2.1 (Int32.not_le.mpr c1)) _ rfl)
      refine og_iload_n dX5_seek_9 rfl ?_
      refine og_iconst (v := 3) dX5_seek_10 (by decide) ?_
      refine og_icmp_le (tgt := 24) dX5_seek_11 (by decide) (fun c2 => ?_) (fun c2 => ?_)
      rotate_left
      · exact og_thr ⟨dX5_seek_14, dX5_seek_17, dX5_seek_18, dX5_seek_20, dX5_seek_23⟩ rfl klX5_45 ktIA (text := "no such way to seek") (by decide) rfl (by decide) (by decide) (by decide) (by decide) (hbad (fun h9 => absurd h9.2.2 c2) _ rfl)
      have hA : sp_seek S how = sp_to 2 (sp_0 S) (if how < 2 then some (sp_bl S.1 S.2.2.1 (decide (how = 1 ∨ how = 2))) else sp_pre (sp_bl S.1 S.2.2.1 (decide (how = 1 ∨ how = 2)))) := if_pos ⟨hkl, Int32.not_lt.mp c1, c2⟩
      have hble := sp_bl_le S.1 S.2.2.1 (decide (how = 1 ∨ how = 2))
      have hlen : S.1.length ≤ 1024 := by rw [y1, List.length_map]; exact h.len
      have nosuch : ∀ (lv : List (Nat × Value)), sp_seek S how = (2, 0, sp_0 S) → ob_G X mX5_seek (ob_rm 8 3 20) (ob_qx T V B J x me mu cap ob_IA ob_NE (sp_seek S how)) 83 lv [] (T, ob_set V tp 1 (.int 0), B, J) 1 6 := by
        intro lv e
        rw [e]
        exact og_thrN ⟨dX5_seek_83, dX5_seek_86, dX5_seek_87, dX5_seek_89, dX5_seek_92⟩ rfl rfl (by decide) (by decide) (by decide) (by decide) ⟨_, _, _, _, rfl, h.wx (ob_sc_tp _), ⟨_, _, _, _, _, _, _, _, _, _, _, _, _, h1, hy1⟩, ob_an2⟩
      have tail : ∀ (i : Nat), i < 2 ^ 31 → sp_seek S how = sp_to 2 (sp_0 S) (some i) → ob_G X mX5_seek (ob_rm 8 3 20) (ob_qx T V B J x me mu cap ob_IA ob_NE (sp_seek S how)) 76 [(0, .ref x)] [va_rf (ob_ads tt)[i]?] (T, ob_set V tp 1 (.int 0), B, J) 1 6 := by
        intro i hi e
        cases ha : (ob_ads tt)[i]? with
        | none =>
          have hni := List.getElem?_eq_none_iff.mp ha
          refine og_astore dX5_seek_76 (by decide) rfl ?_
          refine og_aload dX5_seek_78 rfl rfl ?_
          refine og_ifnonnullN dX5_seek_80 ?_
          exact nosuch _ (by rw [e]; exact if_neg (by show ¬ i < S.1.length; rw [y1, List.length_map]; omega))
        | some a =>
          have hil := (List.getElem?_eq_some_iff.mp ha).1
          have e2 : sp_seek S how = (0, nI (sp_tell (sp_0 S) i false).2.2.2.length, sp_tell (sp_0 S) i false) := by rw [e]; exact if_pos (by show i < S.1.length; rw [y1, List.length_map]; exact hil)
          rw [e2]
          refine og_astore dX5_seek_76 (by decide) rfl ?_
          refine og_aload dX5_seek_78 rfl rfl ?_
          refine og_ifnonnull (tgt := 93) dX5_seek_80 (by decide) ?_
          refine og_aload_n dX5_seek_93 rfl rfl ?_
          refine og_aload dX5_seek_94 rfl rfl ?_
          refine og_callVn dX5_seek_96 kvX5_126 (ct_goTo h1 (List.mem_of_getElem? ha)) rfl x1 rfl rfl ⟨by decide, by decide⟩ (by decide) (by decide) (Nat.le_of_ble_eq_true rfl) rfl (fun E w' h9 => by cases h9.1) (fun v w' h9 => ?_)
          obtain ⟨hv, B1, rfl, b1, b2⟩ := h9
          cases hv
          obtain ⟨h3, hy3, e3⟩ := hy1.tell (v := false) h1 ha b1 b2
          exact og_ireturn (ty := .int) rfl dX5_seek_99 rfl (by decide) (by decide) ⟨_, _, _, _, rfl, h.wx ((ob_sc_tp _).tr ((ob_sc_x _).tr (ob_sc_rs _ b1))), ⟨_, _, _, _, _, _, _, _, _, _, _, _, _, h3, hy3⟩, ob_an0 (by rw [e3]; rfl)⟩
      have x4' : ob_set V tp 1 (.int 0) x 2 = .ref t := h1.1.2.2.2.1
      have x5' : ob_set V tp 1 (.int 0) x 3 = .ref tp := h1.1.2.2.2.2.1
      have mid : ob_G X mX5_seek (ob_rm 8 3 20) (ob_qx T V B J x me mu cap ob_IA ob_NE (sp_seek S how)) 39 [(0, .ref x), (1, .int how), (2, .int (nI S.2.2.1.length))] [ob_cv (decide (how = 1 ∨ how = 2))] (T, ob_set V tp 1 (.int 0), B, J) 1 6 := by
        refine og_istore_n dX5_seek_39 (by decide) ?_
        refine og_aload_n dX5_seek_40 rfl rfl ?_
        refine og_getf dX5_seek_41 kfX5_31 (by assumption) (by assumption) ?_
        refine og_aload_n dX5_seek_44 rfl rfl ?_
        refine og_getf dX5_seek_45 kfX5_38 (by assumption) (by assumption) ?_
        refine og_iload_n dX5_seek_48 rfl ?_
        refine og_iload_n dX5_seek_49 rfl ?_
        refine og_callVe dX5_seek_50 kvX5_118 (ct_keysBelow (s := decide (how = 1 ∨ how = 2)) h1.2.2.1.1 h1.2.2.1.2.1 h1.hbp r1 h1.2.2.2.2.1.2.1 r3 y5 (by omega) y6 h1.ns t5) rfl tT rfl rfl ⟨by decide, by decide⟩ (by decide) (by decide) (Nat.le_of_ble_eq_true rfl) rfl ?_
        rw [sp_bl_of, ← y1]
        generalize hb9 : sp_bl S.1 S.2.2.1 (decide (how = 1 ∨ how = 2)) = bl at *
        refine og_istore dX5_seek_53 (by decide) ?_
        refine og_aload_n dX5_seek_55 rfl rfl ?_
        refine og_getf dX5_seek_56 kfX5_31 (by assumption) (by assumption) ?_
        refine og_iload_n dX5_seek_59 rfl ?_
        refine og_iconst (v := 2) dX5_seek_60 (by decide) ?_
        refine og_icmp_ge (tgt := 69) dX5_seek_61 (by decide) (fun c3 => ?_) (fun c3 => ?_)
        · rw [if_neg (Int32.not_lt.mpr c3)] at hA
          refine og_iload dX5_seek_69 rfl ?_
          refine og_iconst (v := 1) dX5_seek_71 (by decide) ?_
          refine og_isub dX5_seek_72 ?_
          by_cases hb0 : bl = 0
          · rw [hb0] at hA
            refine og_st [.int (-1), .ref t] (by rw [hb0]; rfl) ?_
            refine og_callVe dX5_seek_73 kvX5_122 (ct_pickN h1.2.2.1.1 (by decide)) rfl tT rfl rfl ⟨by decide, by decide⟩ (by decide) (by decide) (Nat.le_of_ble_eq_true rfl) rfl ?_
            refine og_astore dX5_seek_76 (by decide) rfl ?_
            refine og_aload dX5_seek_78 rfl rfl ?_
            refine og_ifnonnullN dX5_seek_80 ?_
            exact nosuch _ hA
          · refine og_st [.int (nI (bl - 1)), .ref t] (by rw [show (1 : Int32) = nI 1 from rfl, nI_sub (by omega)]; rfl) ?_
            refine og_callVe dX5_seek_73 kvX5_122 (ob_pickO h1 (by omega)) rfl tT rfl rfl ⟨by decide, by decide⟩ (by decide) (by decide) (Nat.le_of_ble_eq_true rfl) rfl ?_
            refine og_lv [(0, .ref x)] rfl ?_
            exact tail (bl - 1) (by omega) (by rw [hA]; simp only [sp_pre, if_neg hb0])
        · rw [if_pos (Int32.not_le.mp c3)] at hA
          refine og_iload dX5_seek_64 rfl ?_
          refine og_goto (tgt := 73) dX5_seek_66 (by decide) ?_
          refine og_callVe dX5_seek_73 kvX5_122 (ob_pickO h1 (by omega)) rfl tT rfl rfl ⟨by decide, by decide⟩ (by decide) (by decide) (Nat.le_of_ble_eq_true rfl) rfl ?_
          refine og_lv [(0, .ref x)] rfl ?_
          exact tail bl (by omega) hA
      refine og_iload_n dX5_seek_24 rfl ?_
      refine og_iconst (v := 1) dX5_seek_25 (by decide) ?_
      refine og_icmp_eq (tgt := 34) dX5_seek_26 (by decide) (fun c4 => ?_) (fun c4 => ?_)
      · refine og_iconst (v := 1) dX5_seek_34 (by decide) ?_
        refine og_goto (tgt := 39) dX5_seek_35 (by decide) ?_
        refine og_lv [(0, .ref x), (1, .int how), (2, .int (nI S.2.2.1.length))] rfl ?_
        rw [decide_eq_true (Or.inl c4)] at mid
        exact mid
      · refine og_iload_n dX5_seek_29 rfl ?_
        refine og_iconst (v := 2) dX5_seek_30 (by decide) ?_
        refine og_icmp_ne (tgt := 38) dX5_seek_31 (by decide) (fun c5 => ?_) (fun c5 => ?_)
        · refine og_iconst (v := 0) dX5_seek_38 (by decide) ?_
          refine og_lv [(0, .ref x), (1, .int how), (2, .int (nI S.2.2.1.length))] rfl ?_
          rw [decide_eq_false (fun h9 => h9.elim c4 c5)] at mid
          exact mid
        · refine og_iconst (v := 1) dX5_seek_34 (by decide) ?_
          refine og_goto (tgt := 39) dX5_seek_35 (by decide) ?_
          refine og_lv [(0, .ref x), (1, .int how), (2, .int (nI S.2.2.1.length))] rfl ?_
          rw [decide_eq_true (Or.inr c5)] at mid
          exact mid
    · cases g2 hk
theorem ct_at {i : Int32} (hI : ob_I T V B x me mu cap S) : ob_C X mX5_at 8 3 20 [.ref x, .int i] (T, V, B, J) (ob_qx T V B J x me mu cap ob_IO ob_IO (sp_at S i)) := by
  obtain ⟨hp, edge, hb, t, nl, tp, tb, rs, rr, N, l, tt, K, h, hy⟩ := hI
  refine ob_C_of (by decide) rfl (Nat.le_of_ble_eq_true rfl) ?_
  obtain ⟨⟨x1, x2, x3, x4, x5, x6, x7, x8⟩, hs, ⟨t1, t2, t3, t4, t5⟩, en, ⟨r1, r2, r3, r4, r5, r6, r7, r8, r9, r10, r11⟩, n1, n2, n3⟩ := id h
  obtain ⟨y1, y2, y3, ⟨y4, y5, y6⟩, y7, y8, y9⟩ := id hy
  have tT := t1.1
  refine og_lv [(0, .ref x), (1, .int i)] rfl ?_
  have bad : ∀ (lv : List (Nat × Value)), sp_at S i = (1, 0, S) → ob_G X mX5_at (ob_rm 8 3 20) (ob_qx T V B J x me mu cap ob_IO ob_IO (sp_at S i)) 13 lv [] (T, V, B, J) 0 0 := by
    intro lv e
    rw [e]
    exact og_thr ⟨dX5_at_13, dX5_at_16, dX5_at_17, dX5_at_19, dX5_at_22⟩ rfl klX5_129 ktIO (text := "no such place") (by decide) rfl (by decide) (by decide) (by decide) (by decide) ⟨_, _, _, _, rfl, ⟨fun _ _ h => h, fun _ _ _ _ _ _ => ⟨fun _ => rfl, rfl, rfl⟩⟩, ⟨_, _, _, _, _, _, _, _, _, _, _, _, _, h, hy⟩, ob_an1⟩
  refine og_aload_n dX5_at_0 rfl rfl ?_
  refine og_getf dX5_at_1 kfX5_31 (by assumption) (by assumption) ?_
  refine og_iload_n dX5_at_4 rfl ?_
  by_cases hi : i < 0
  · refine og_callVe dX5_at_5 kvX5_122 (ct_pickN t1 hi) rfl tT rfl rfl ⟨by decide, by decide⟩ (by decide) (by decide) (Nat.le_of_ble_eq_true rfl) rfl ?_
    refine og_astore_n dX5_at_8 (by decide) rfl ?_
    refine og_aload_n dX5_at_9 rfl rfl ?_
    refine og_ifnonnullN dX5_at_10 ?_
    exact bad _ (by rw [sp_at, if_neg (Int32.not_le.mpr hi)]; rfl)
  · obtain ⟨j, hj, rfl⟩ := nI_of hi
    have hA : sp_at S (nI j) = sp_to 1 S (some j) := by rw [sp_at, if_pos (Int32.not_lt.mp hi), nI_clamp hj]
    refine og_callVe dX5_at_5 kvX5_122 (ob_pickO h hj) rfl tT rfl rfl ⟨by decide, by decide⟩ (by decide) (by decide) (Nat.le_of_ble_eq_true rfl) rfl ?_
    cases ha : (ob_ads tt)[j]? with
    | none =>
      have hni := List.getElem?_eq_none_iff.mp ha
      refine og_astore_n dX5_at_8 (by decide) rfl ?_
      refine og_aload_n dX5_at_9 rfl rfl ?_
      refine og_ifnonnullN dX5_at_10 ?_
      exact bad _ (by rw [hA]; exact if_neg (by rw [y1, List.length_map]; omega))
    | some a =>
      have hil := (List.getElem?_eq_some_iff.mp ha).1
      have e2 : sp_at S (nI j) = (0, nI (sp_tell S j false).2.2.2.length, sp_tell S j false) := by rw [hA]; exact if_pos (by rw [y1, List.length_map]; exact hil)
      rw [e2]
      refine og_astore_n dX5_at_8 (by decide) rfl ?_
      refine og_aload_n dX5_at_9 rfl rfl ?_
      refine og_ifnonnull (tgt := 23) dX5_at_10 (by decide) ?_
      refine og_aload_n dX5_at_23 rfl rfl ?_
      refine og_aload_n dX5_at_24 rfl rfl ?_
      refine og_callVn dX5_at_25 kvX5_126 (ct_goTo h (List.mem_of_getElem? ha)) rfl x1 rfl rfl ⟨by decide, by decide⟩ (by decide) (by decide) (Nat.le_of_ble_eq_true rfl) rfl (fun E w' h9 => by cases h9.1) (fun v w' h9 => ?_)
      obtain ⟨hv, B1, rfl, b1, b2⟩ := h9
      cases hv
      obtain ⟨h3, hy3, e3⟩ := hy.tell (v := false) h ha b1 b2
      exact og_ireturn (ty := .int) rfl dX5_at_28 rfl (by decide) (by decide) ⟨_, _, _, _, rfl, h.wx ((ob_sc_x _).tr (ob_sc_rs _ b1)), ⟨_, _, _, _, _, _, _, _, _, _, _, _, _, h3, hy3⟩, ob_an0 (by rw [e3]; rfl)⟩
end OCG
