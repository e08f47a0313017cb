/-! THE REFERENCE'S CALLS: seek, range, removeFrom, clear, byteAt, count, sound -/
section OMG
variable {X : ob_X} {T : ob_T} {V V' : ob_V} {B B' : ob_B} {J : ob_J} {R : Room} {Q : ob_r → ob_w → Prop} {k n : Nat} {m mt mr mb mk mv me mu thr : Nat} {S : sp_S}
theorem cm_seek {how : Int32} (h : ob_M T V B m mt mr mb mk mv me mu thr S) (ho : sp_ok me mu S) : ob_C X mX6_seek 4 0 0 [.ref m, .int how] (T, V, B, J) (ob_qm T V B J m mt mr mb mk mv me mu (sp_seek S how)) := by
  refine ob_C_of (by decide) rfl (Nat.le_of_ble_eq_true rfl) ?_
  have m1 := h.1.1.1
  have hl := ho.1
  obtain ⟨o6, o7⟩ := ho.2.2.2.2.2.1
  refine og_lv [(0, .ref m), (1, .int how)] rfl ?_
  refine og_aload_n dX6_seek_0 rfl rfl ?_
  refine og_iconst (v := 0) dX6_seek_1 (by decide) ?_
  refine og_put dX6_seek_2 kfX6_36 (by assumption) rfl rfl ?_
  refine og_aload_n dX6_seek_5 rfl rfl ?_
  have h1 := h.th 0
  have h3 := h1.2.2.2.1.1
  have ht := h1.2.2.2.1.2
  refine og_callVe dX6_seek_6 kvX6_76 (cm_taken m1 h3) rfl m1 rfl rfl ⟨by decide, by decide⟩ (by decide) (by decide) (Nat.le_of_ble_eq_true rfl) rfl ?_
  have h2 := h1.fed
  have w2 : ob_WM V B m mt mr mb mk mv (ob_set (ob_set V m 0 (.int (nI 0))) m 3 (.int 0)) B := (ob_WM.set _ _).tr (ob_WM.set _ _)
  generalize hV2 : ob_set (ob_set V m 0 (.int (nI 0))) m 3 (.int 0) = V2 at *
  refine og_w (T, V2, B, J) (by rw [← hV2]; rfl) ?_
  have m7 := h2.2.1.1
  have bad : ¬ (sp_kl S.2.2.1.length = true ∧ 0 ≤ how ∧ how ≤ 3) → ∀ lv, ob_get lv 0 = some (.ref m) → ob_G X mX6_seek (ob_rm 4 0 0) (ob_qm T V B J m mt mr mb mk mv me mu (sp_seek S how)) 29 lv [] (T, V2, B, J) 0 0 := by
    intro hb lv hlv
    refine og_aload_n dX6_seek_29 hlv rfl ?_
    refine og_iconst (v := 1) dX6_seek_30 (by decide) ?_
    refine og_callVe dX6_seek_31 kvX6_43 (cm_fail m1) rfl m1 rfl rfl ⟨by decide, by decide⟩ (by decide) (by decide) (Nat.le_of_ble_eq_true rfl) rfl ?_
    exact og_ireturn (ty := .int) rfl dX6_seek_34 rfl (by decide) (by decide) (h2.no (c := 1) w2 (if_neg hb) (by decide) _)
  refine og_istore_n dX6_seek_9 (by decide) ?_
  refine og_iload_n dX6_seek_10 rfl ?_
  refine og_iconst (v := 1) dX6_seek_11 (by decide) ?_
  refine og_bipush (v := 64) dX6_seek_12 (by decide) ?_
  refine og_callSe dX6_seek_14 ksX6_39 cm_within rfl rfl ⟨by decide, by decide⟩ (by decide) (by decide) (Nat.le_of_ble_eq_true rfl) rfl ?_
  by_cases hk : 1 ≤ nI S.2.2.1.length ∧ nI S.2.2.1.length ≤ 64
  rotate_left
  · rw [decide_eq_false hk]
    refine og_if_eq (tgt := 29) dX6_seek_17 (by decide) (fun _ => ?_) (fun z9 => absurd (rfl) z9)
    exact bad (fun h9 => hk ((sp_kl_iff o6).mpr h9.1)) _ rfl
  rw [decide_eq_true hk]
  have hkl := (sp_kl_iff o6).mp hk
  refine og_if_eq (tgt := 29) dX6_seek_17 (by decide) (fun z9 => absurd z9 (by decide)) (fun _ => ?_)
  refine og_iload_n dX6_seek_20 rfl ?_
  refine og_iconst (v := 0) dX6_seek_21 (by decide) ?_
  refine og_iconst (v := 3) dX6_seek_22 (by decide) ?_
  refine og_callSe dX6_seek_23 ksX6_39 cm_within rfl rfl ⟨by decide, by decide⟩ (by decide) (by decide) (Nat.le_of_ble_eq_true rfl) rfl ?_
  by_cases hh : 0 ≤ how ∧ how ≤ 3
  rotate_left
  · rw [decide_eq_false hh]
    refine og_if_ne (tgt := 35) dX6_seek_26 (by decide) (fun z9 => absurd (rfl) z9) (fun _ => ?_)
    exact bad (fun h9 => hh h9.2) _ rfl
  rw [decide_eq_true hh]
  have hA : sp_seek S how = sp_to 2 (sp_0 S) (if how < 2 then some (sp_bl S.1 S.2.2.1 (decide (how = 1 ∨ how = 2))) else sp_pre (sp_bl S.1 S.2.2.1 (decide (how = 1 ∨ how = 2)))) := if_pos ⟨hkl, hh⟩
  have bl0 : ∀ s, sp_bl S.1 S.2.2.1 s ≤ 1024 := fun s => by have := sp_bl_le S.1 S.2.2.1 s; omega
  have hcb : ∀ s, ob_C X mX6_below 1 0 0 [.ref m, .int (nI S.2.2.1.length), ob_cv s] (T, V2, B, J) (ob_e (some (.int (nI (sp_bl S.1 S.2.2.1 s)))) (T, V2, B, J)) := fun s => by
    have := cm_below (X := X) (J := J) (s := s) (full := S.2.2.1) h2.1 h2.2.1 ho.oe ht (Nat.le_refl _) o6 o7
    rw [List.take_length] at this
    exact this
  have tail : ∀ (z : Int32), sp_seek S how = (if 0 ≤ z ∧ z.toNatClampNeg < S.1.length then (0, nI (sp_tell (sp_0 S) z.toNatClampNeg false).2.2.2.length, sp_tell (sp_0 S) z.toNatClampNeg false) else (2, 0, sp_0 S)) → ob_G X mX6_seek (ob_rm 4 0 0) (ob_qm T V B J m mt mr mb mk mv me mu (sp_seek S how)) 86 [(0, .ref m)] [.int z] (T, V2, B, J) 0 0 := by
    intro z e
    refine og_istore_n dX6_seek_86 (by decide) ?_
    refine og_iload_n dX6_seek_87 rfl ?_
    refine og_iconst (v := 0) dX6_seek_88 (by decide) ?_
    refine og_aload_n dX6_seek_89 rfl rfl ?_
    refine og_getf dX6_seek_90 kfX6_52 (by assumption) (by assumption) ?_
    refine og_iconst (v := 1) dX6_seek_93 (by decide) ?_
    refine og_isub dX6_seek_94 ?_
    refine og_callSe dX6_seek_95 ksX6_39 cm_within rfl rfl ⟨by decide, by decide⟩ (by decide) (by decide) (Nat.le_of_ble_eq_true rfl) rfl ?_
    by_cases hk : 0 ≤ z ∧ z ≤ nI S.1.length - 1
    · have hk2 := (sp_in (by omega)).mp hk
      rw [if_pos hk2] at e
      refine og_st [.int 1] (by rw [decide_eq_true (show 0 ≤ z ∧ z ≤ nI (sp_0 S).1.length - 1 from hk)]; rfl) ?_
      obtain ⟨j, hj, rfl⟩ := nI_of (x := z) (Int32.not_lt.mpr hk.1)
      rw [nI_clamp hj] at hk2 e
      rw [e]
      refine og_if_eq (tgt := 110) dX6_seek_98 (by decide) (fun z9 => absurd z9 (by decide)) (fun _ => ?_)
      refine og_aload_n dX6_seek_101 rfl rfl ?_
      refine og_iload_n dX6_seek_102 rfl ?_
      refine og_iconst (v := 0) dX6_seek_103 (by decide) ?_
      refine og_callVn dX6_seek_104 kvX6_97 (cm_told (v := false) h2.1 h2.2.1 ho.oe hk2.2) rfl m1 rfl rfl ⟨by decide, by decide⟩ (by decide) (by decide) (Nat.le_of_ble_eq_true rfl) rfl (fun E w' h9 => by obtain ⟨_, h9, _⟩ := h9; cases h9) (fun v w' h9 => ?_)
      obtain ⟨B1, hv, rfl, b1, b2⟩ := h9
      cases hv
      obtain ⟨h4, e4⟩ := h2.tell (v := false) hk2.2 b1 b2
      refine og_goto (tgt := 115) dX6_seek_107 (by decide) ?_
      refine og_ireturn (ty := .int) rfl dX6_seek_115 rfl (by decide) (by decide) ⟨_, _, _, rfl, h4, w2.tr ((ob_WM.set _ _).tr ⟨fun y hy j => ob_set_a _ _ _ _ _ hy, fun y _ y2 _ _ _ => b1 y y2⟩), rfl, fun _ => ?_⟩
      show _ = nI (sp_tell (sp_0 S) j false).2.2.2.length
      rw [e4]
    · rw [if_neg (fun h9 => hk ((sp_in (by omega)).mpr h9))] at e
      refine og_st [.int 0] (by rw [decide_eq_false (show ¬ (0 ≤ z ∧ z ≤ nI (sp_0 S).1.length - 1) from hk)]; rfl) ?_
      refine og_if_eq (tgt := 110) dX6_seek_98 (by decide) (fun _ => ?_) (fun z9 => absurd (rfl) z9)
      refine og_aload_n dX6_seek_110 rfl rfl ?_
      refine og_iconst (v := 2) dX6_seek_111 (by decide) ?_
      refine og_callVe dX6_seek_112 kvX6_43 (cm_fail m1) rfl m1 rfl rfl ⟨by decide, by decide⟩ (by decide) (by decide) (Nat.le_of_ble_eq_true rfl) rfl ?_
      exact og_ireturn (ty := .int) rfl dX6_seek_115 rfl (by decide) (by decide) (h2.no (c := 2) w2 e (by decide) _)
  have upT : ∀ s, how < 2 → decide (how = 1 ∨ how = 2) = s → sp_seek S how = (if 0 ≤ nI (sp_bl S.1 S.2.2.1 s) ∧ (nI (sp_bl S.1 S.2.2.1 s)).toNatClampNeg < S.1.length then (0, nI (sp_tell (sp_0 S) (nI (sp_bl S.1 S.2.2.1 s)).toNatClampNeg false).2.2.2.length, sp_tell (sp_0 S) (nI (sp_bl S.1 S.2.2.1 s)).toNatClampNeg false) else (2, 0, sp_0 S)) := by
    intro s h9 h8
    have := bl0 s
    rw [hA, if_pos h9, h8, nI_clamp (by omega)]
    simp only [sp_to]
    show (if sp_bl S.1 S.2.2.1 s < S.1.length then _ else _) = _
    by_cases h7 : sp_bl S.1 S.2.2.1 s < S.1.length
    · rw [if_pos h7, if_pos ⟨nI_pos' (by omega), h7⟩]
    · rw [if_neg h7, if_neg (fun h6 => h7 h6.2)]
  have dnT : ∀ s, ¬ how < 2 → decide (how = 1 ∨ how = 2) = s → sp_seek S how = (if 0 ≤ nI (sp_bl S.1 S.2.2.1 s) - 1 ∧ (nI (sp_bl S.1 S.2.2.1 s) - 1).toNatClampNeg < S.1.length then (0, nI (sp_tell (sp_0 S) (nI (sp_bl S.1 S.2.2.1 s) - 1).toNatClampNeg false).2.2.2.length, sp_tell (sp_0 S) (nI (sp_bl S.1 S.2.2.1 s) - 1).toNatClampNeg false) else (2, 0, sp_0 S)) := by
    intro s h9 h8
    have hb := bl0 s
    rw [hA, if_neg h9, h8]
    generalize sp_bl S.1 S.2.2.1 s = bl at *
    by_cases h0 : bl = 0
    · subst h0
      rfl
    · rw [show (1 : Int32) = nI 1 from rfl, nI_sub (by omega), nI_clamp (by omega)]
      simp only [sp_pre, if_neg h0, sp_to]
      show (if bl - 1 < S.1.length then _ else _) = _
      by_cases h7 : bl - 1 < S.1.length
      · rw [if_pos h7, if_pos ⟨nI_pos' (by omega), h7⟩]
      · rw [if_neg h7, if_neg (fun h6 => h7 h6.2)]
  refine og_if_ne (tgt := 35) dX6_seek_26 (by decide) (fun _ => ?_) (fun z9 => absurd z9 (by decide))
  refine og_iload_n dX6_seek_35 rfl ?_
  refine og_if_ne (tgt := 48) dX6_seek_36 (by decide) (fun c0 => ?_) (fun c0 => ?_)
  · refine og_iload_n dX6_seek_48 rfl ?_
    refine og_iconst (v := 1) dX6_seek_49 (by decide) ?_
    refine og_icmp_ne (tgt := 62) dX6_seek_50 (by decide) (fun c1 => ?_) (fun c1 => ?_)
    · refine og_iload_n dX6_seek_62 rfl ?_
      refine og_iconst (v := 2) dX6_seek_63 (by decide) ?_
      refine og_icmp_ne (tgt := 78) dX6_seek_64 (by decide) (fun c2 => ?_) (fun c2 => ?_)
      · have c3 : ¬ how < 2 ∧ decide (how = 1 ∨ how = 2) = false := by
          refine ⟨fun h9 => ?_, decide_eq_false (fun h9 => h9.elim c1 c2)⟩
          have a1 := Int32.le_iff_toInt_le.mp hh.1
          have a2 := Int32.lt_iff_toInt_lt.mp h9
          have a3 : how.toInt ≠ (0 : Int32).toInt := fun e => c0 (Int32.toInt_inj.mp e)
          have a4 : how.toInt ≠ (1 : Int32).toInt := fun e => c1 (Int32.toInt_inj.mp e)
          have b0 : (0 : Int32).toInt = 0 := by decide
          have b1 : (1 : Int32).toInt = 1 := by decide
          have b2 : (2 : Int32).toInt = 2 := by decide
          omega
        refine og_aload_n dX6_seek_78 rfl rfl ?_
        refine og_iload_n dX6_seek_79 rfl ?_
        refine og_iconst (v := 0) dX6_seek_80 (by decide) ?_
        refine og_callVe dX6_seek_81 kvX6_59 (hcb false) rfl m1 rfl rfl ⟨by decide, by decide⟩ (by decide) (by decide) (Nat.le_of_ble_eq_true rfl) rfl ?_
        refine og_iconst (v := 1) dX6_seek_84 (by decide) ?_
        refine og_isub dX6_seek_85 ?_
        refine og_lv [(0, .ref m)] rfl ?_
        exact tail _ (dnT false c3.1 c3.2)
      · subst c2
        refine og_aload_n dX6_seek_67 rfl rfl ?_
        refine og_iload_n dX6_seek_68 rfl ?_
        refine og_iconst (v := 1) dX6_seek_69 (by decide) ?_
        refine og_callVe dX6_seek_70 kvX6_59 (hcb true) rfl m1 rfl rfl ⟨by decide, by decide⟩ (by decide) (by decide) (Nat.le_of_ble_eq_true rfl) rfl ?_
        refine og_iconst (v := 1) dX6_seek_73 (by decide) ?_
        refine og_isub dX6_seek_74 ?_
        refine og_goto (tgt := 86) dX6_seek_75 (by decide) ?_
        refine og_lv [(0, .ref m)] rfl ?_
        exact tail _ (dnT true (by decide) (by decide))
    · subst c1
      refine og_aload_n dX6_seek_53 rfl rfl ?_
      refine og_iload_n dX6_seek_54 rfl ?_
      refine og_iconst (v := 1) dX6_seek_55 (by decide) ?_
      refine og_callVe dX6_seek_56 kvX6_59 (hcb true) rfl m1 rfl rfl ⟨by decide, by decide⟩ (by decide) (by decide) (Nat.le_of_ble_eq_true rfl) rfl ?_
      refine og_goto (tgt := 86) dX6_seek_59 (by decide) ?_
      refine og_lv [(0, .ref m)] rfl ?_
      exact tail _ (upT true (by decide) (by decide))
  · subst c0
    refine og_aload_n dX6_seek_39 rfl rfl ?_
    refine og_iload_n dX6_seek_40 rfl ?_
    refine og_iconst (v := 0) dX6_seek_41 (by decide) ?_
    refine og_callVe dX6_seek_42 kvX6_59 (hcb false) rfl m1 rfl rfl ⟨by decide, by decide⟩ (by decide) (by decide) (Nat.le_of_ble_eq_true rfl) rfl ?_
    refine og_goto (tgt := 86) dX6_seek_45 (by decide) ?_
    refine og_lv [(0, .ref m)] rfl ?_
    exact tail _ (upT false (by decide) (by decide))
theorem cm_range (h : ob_M T V B m mt mr mb mk mv me mu thr S) (ho : sp_ok me mu S) : ob_C X mX6_range 4 0 0 [.ref m] (T, V, B, J) (ob_qm T V B J m mt mr mb mk mv me mu (sp_rng S)) := by
  refine ob_C_of (by decide) rfl (Nat.le_of_ble_eq_true rfl) ?_
  have m1 := h.1.1.1
  have hl := ho.1
  obtain ⟨o6, o7⟩ := ho.2.2.2.2.2.1
  refine og_lv [(0, .ref m)] rfl ?_
  refine og_aload_n dX6_range_0 rfl rfl ?_
  refine og_iconst (v := 0) dX6_range_1 (by decide) ?_
  refine og_put dX6_range_2 kfX6_36 (by assumption) rfl rfl ?_
  refine og_aload_n dX6_range_5 rfl rfl ?_
  have h1 := h.th 0
  have h3 := h1.2.2.2.1.1
  have ht := h1.2.2.2.1.2
  refine og_callVe dX6_range_6 kvX6_76 (cm_taken m1 h3) rfl m1 rfl rfl ⟨by decide, by decide⟩ (by decide) (by decide) (Nat.le_of_ble_eq_true rfl) rfl ?_
  have h2 := h1.fed
  have w2 : ob_WM V B m mt mr mb mk mv (ob_set (ob_set V m 0 (.int (nI 0))) m 3 (.int 0)) B := (ob_WM.set _ _).tr (ob_WM.set _ _)
  generalize hV2 : ob_set (ob_set V m 0 (.int (nI 0))) m 3 (.int 0) = V2 at *
  refine og_w (T, V2, B, J) (by rw [← hV2]; rfl) ?_
  have m7 : V2 m 7 = .int (nI S.1.length) := h2.2.1.1
  have m12 := h2.2.2.2.2.2
  refine og_istore_n dX6_range_9 (by decide) ?_
  refine og_iload_n dX6_range_10 rfl ?_
  refine og_bipush (v := 64) dX6_range_11 (by decide) ?_
  refine og_icmp_le (tgt := 22) dX6_range_13 (by decide) (fun c1 => ?_) (fun c1 => ?_)
  rotate_left
  · have h64 : 64 < S.2.2.1.length := by
      rcases Nat.lt_or_ge 64 S.2.2.1.length with h9 | h9
      · exact h9
      · exact absurd (nI_le (b := 64) h9 (by omega)) c1
    refine og_aload_n dX6_range_16 rfl rfl ?_
    refine og_iconst (v := 1) dX6_range_17 (by decide) ?_
    refine og_callVe dX6_range_18 kvX6_43 (cm_fail m1) rfl m1 rfl rfl ⟨by decide, by decide⟩ (by decide) (by decide) (Nat.le_of_ble_eq_true rfl) rfl ?_
    exact og_ireturn (ty := .int) rfl dX6_range_21 rfl (by decide) (by decide) (h2.no (c := 1) w2 (if_pos h64) (by decide) _)
  have h64 : ¬ 64 < S.2.2.1.length := by have := (nI_leI (b := 64) (by omega) (by omega)).mp c1; omega
  cases hc : S.2.1 with
  | none =>
    have m12 : V2 m 12 = .int (-1) := by rw [m12]; show Value.int (sp_cI S.2.1) = _; rw [hc]; rfl
    have hA : sp_rng S = (2, 0, sp_0 S) := by simp only [sp_rng, hc, if_neg h64]
    refine og_aload_n dX6_range_22 rfl rfl ?_
    refine og_getf dX6_range_23 kfX6_26 (by assumption) (by assumption) ?_
    refine og_if_ge (tgt := 35) dX6_range_26 (by decide) (fun z9 => absurd z9 (by decide)) (fun _ => ?_)
    refine og_aload_n dX6_range_29 rfl rfl ?_
    refine og_iconst (v := 2) dX6_range_30 (by decide) ?_
    refine og_callVe dX6_range_31 kvX6_43 (cm_fail m1) rfl m1 rfl rfl ⟨by decide, by decide⟩ (by decide) (by decide) (Nat.le_of_ble_eq_true rfl) rfl ?_
    exact og_ireturn (ty := .int) rfl dX6_range_34 rfl (by decide) (by decide) (h2.no (c := 2) w2 hA (by decide) _)
  | some c =>
    have m12 : V2 m 12 = .int (nI c) := by rw [m12]; show Value.int (sp_cI S.2.1) = _; rw [hc]; rfl
    have hcl := ho.2.2.2.2.1 c hc
    have hA : sp_rng S = (0, nI ((if S.2.2.1.length = 0 then S.1.length else sp_bl S.1 S.2.2.1 false) - c), sp_0 S) := by simp only [sp_rng, hc, if_neg h64]
    rw [hA]
    have fin : ∀ (z : Nat), z ≤ 1024 → z = (if S.2.2.1.length = 0 then S.1.length else sp_bl S.1 S.2.2.1 false) → ob_G X mX6_range (ob_rm 4 0 0) (ob_qm T V B J m mt mr mb mk mv me mu (0, nI ((if S.2.2.1.length = 0 then S.1.length else sp_bl S.1 S.2.2.1 false) - c), sp_0 S)) 52 [(0, .ref m)] [.int (nI z)] (T, V2, B, J) 0 0 := by
      intro z hz ez
      rw [← ez]
      refine og_istore_n dX6_range_52 (by decide) ?_
      refine og_iload_n dX6_range_53 rfl ?_
      refine og_aload_n dX6_range_54 rfl rfl ?_
      refine og_getf dX6_range_55 kfX6_26 (by assumption) (by assumption) ?_
      refine og_icmp_le (tgt := 70) dX6_range_58 (by decide) (fun c2 => ?_) (fun c2 => ?_)
      · have c2 := (nI_leI (by omega) (by omega)).mp c2
        refine og_iconst (v := 0) dX6_range_70 (by decide) ?_
        exact og_ireturn (ty := .int) rfl dX6_range_71 rfl (by decide) (by decide) ⟨_, _, _, rfl, h2, w2, rfl, fun _ => by show _ = nI (z - c); rw [show z - c = 0 by omega]; rfl⟩
      · have c2 : c < z := by
          rcases Nat.lt_or_ge c z with h9 | h9
          · exact h9
          · exact absurd (nI_le h9 (by omega)) c2
        refine og_iload_n dX6_range_61 rfl ?_
        refine og_aload_n dX6_range_62 rfl rfl ?_
        refine og_getf dX6_range_63 kfX6_26 (by assumption) (by assumption) ?_
        refine og_isub dX6_range_66 ?_
        refine og_goto (tgt := 71) dX6_range_67 (by decide) ?_
        exact og_ireturn (ty := .int) rfl dX6_range_71 rfl (by decide) (by decide) ⟨_, _, _, rfl, h2, w2, rfl, fun _ => by show _ = nI (z - c); rw [nI_sub (by omega)]⟩
    by_cases h0 : S.2.2.1.length = 0
    · refine og_aload_n dX6_range_22 rfl rfl ?_
      refine og_getf dX6_range_23 kfX6_26 (by assumption) (by assumption) ?_
      refine og_if_ge (tgt := 35) dX6_range_26 (by decide) (fun _ => ?_) (fun z9 => absurd (nI_pos' (by omega)) z9)
      refine og_iload_n dX6_range_35 rfl ?_
      refine og_if_ne (tgt := 46) dX6_range_36 (by decide) (fun z9 => absurd (by rw [h0]; rfl) z9) (fun _ => ?_)
      refine og_aload_n dX6_range_39 rfl rfl ?_
      refine og_getf dX6_range_40 kfX6_52 (by assumption) (by assumption) ?_
      refine og_goto (tgt := 52) dX6_range_43 (by decide) ?_
      refine og_lv [(0, .ref m)] rfl ?_
      exact fin _ (by omega) (by rw [if_pos h0])
    · have hcb := cm_below (X := X) (J := J) (s := false) (full := S.2.2.1) h2.1 h2.2.1 ho.oe ht (Nat.le_refl _) o6 o7
      rw [List.take_length] at hcb
      refine og_aload_n dX6_range_22 rfl rfl ?_
      refine og_getf dX6_range_23 kfX6_26 (by assumption) (by assumption) ?_
      refine og_if_ge (tgt := 35) dX6_range_26 (by decide) (fun _ => ?_) (fun z9 => absurd (nI_pos' (by omega)) z9)
      refine og_iload_n dX6_range_35 rfl ?_
      refine og_if_ne (tgt := 46) dX6_range_36 (by decide) (fun _ => ?_) (fun z9 => absurd z9 (nI_ne0 (by omega) (by omega)))
      refine og_aload_n dX6_range_46 rfl rfl ?_
      refine og_iload_n dX6_range_47 rfl ?_
      refine og_iconst (v := 0) dX6_range_48 (by decide) ?_
      refine og_callVe dX6_range_49 kvX6_59 hcb rfl m1 rfl rfl ⟨by decide, by decide⟩ (by decide) (by decide) (Nat.le_of_ble_eq_true rfl) rfl ?_
      refine og_lv [(0, .ref m)] rfl ?_
      exact fin _ (by have := sp_bl_le S.1 S.2.2.1 false; show sp_bl S.1 S.2.2.1 false ≤ 1024; omega) (by rw [if_neg h0]; rfl)
theorem cm_clear (h : ob_M T V B m mt mr mb mk mv me mu thr S) (ho : sp_ok me mu S) : ob_C X mX6_clear 4 0 0 [.ref m] (T, V, B, J) (ob_qm T V B J m mt mr mb mk mv me mu (sp_clr S)) := by
  refine ob_C_of (by decide) rfl (Nat.le_of_ble_eq_true rfl) ?_
  have m1 := h.1.1.1
  refine og_lv [(0, .ref m)] rfl ?_
  refine og_aload_n dX6_clear_0 rfl rfl ?_
  refine og_iconst (v := 0) dX6_clear_1 (by decide) ?_
  refine og_put dX6_clear_2 kfX6_36 (by assumption) rfl rfl ?_
  have h1 := h.th 0
  have w1 : ob_WM V B m mt mr mb mk mv (ob_set V m 0 (.int (nI 0))) B := ob_WM.set _ _
  generalize hV1 : ob_set V m 0 (.int (nI 0)) = V1 at *
  refine og_w (T, V1, B, J) (by rw [← hV1]; rfl) ?_
  have m7 : V1 m 7 = .int (nI S.1.length) := h1.2.1.1
  refine og_aload_n dX6_clear_5 rfl rfl ?_
  refine og_getf dX6_clear_6 kfX6_52 (by assumption) (by assumption) ?_
  refine og_istore_n dX6_clear_9 (by decide) ?_
  refine og_aload_n dX6_clear_10 rfl rfl ?_
  refine og_iconst (v := 0) dX6_clear_11 (by decide) ?_
  refine og_put dX6_clear_12 kfX6_52 (by assumption) rfl rfl ?_
  refine og_aload_n dX6_clear_15 rfl rfl ?_
  refine og_iconst (v := 0) dX6_clear_16 (by decide) ?_
  refine og_put dX6_clear_17 kfX6_69 (by assumption) rfl rfl ?_
  refine og_aload_n dX6_clear_20 rfl rfl ?_
  refine og_iconst (v := (-1)) dX6_clear_21 (by decide) ?_
  refine og_put dX6_clear_22 kfX6_26 (by assumption) rfl rfl ?_
  refine og_iload_n dX6_clear_25 rfl ?_
  generalize hV2 : ob_set (ob_set (ob_set V1 m 7 (.int 0)) m 8 (.int 0)) m 12 (.int (-1)) = V2
  obtain ⟨h4, w4⟩ := h1.ents (V' := V2) (B' := B) (E' := []) (cur' := none) ⟨by rw [← hV2]; simp [ob_set]; rfl, by rw [← hV2]; simp [ob_set, sp_fl]; rfl, fun j hj => by simp [sp_fl] at hj, fun j hj => by simp at hj, fun j hj => by simp at hj⟩ (by rw [← hV2]; simp [ob_set]; rfl) (fun y j hj => by
    rw [← hV2]
    by_cases hy : y = m
    · have : j ≠ 7 ∧ j ≠ 8 ∧ j ≠ 12 := ⟨fun e => hj ⟨hy, Or.inl e⟩, fun e => hj ⟨hy, Or.inr (Or.inl e)⟩, fun e => hj ⟨hy, Or.inr (Or.inr e)⟩⟩
      simp [ob_set, this.1, this.2.1, this.2.2]
    · simp [ob_set, hy]) (fun _ _ _ _ => rfl)
  exact og_ireturn (ty := .int) rfl dX6_clear_26 rfl (by decide) (by decide) ⟨V2, B, _, by rw [← hV2], h4, w1.tr w4, rfl, fun _ => rfl⟩
theorem cm_sound (h : ob_M T V B m mt mr mb mk mv me mu thr S) : ob_C X mX6_sound 4 0 0 [.ref m] (T, V, B, J) (ob_qm T V B J m mt mr mb mk mv me mu (0, 1, S)) := by
  refine ob_C_of (by decide) rfl (Nat.le_of_ble_eq_true rfl) ?_
  have m1 := h.1.1.1
  refine og_aload_n dX6_sound_0 rfl rfl ?_
  refine og_iconst (v := 0) dX6_sound_1 (by decide) ?_
  refine og_put dX6_sound_2 kfX6_36 (by assumption) rfl rfl ?_
  refine og_iconst (v := 1) dX6_sound_5 (by decide) ?_
  exact og_ireturn (ty := .boolean) rfl dX6_sound_6 rfl (by decide) (by decide) ⟨_, _, _, rfl, h.th 0, ob_WM.set _ _, rfl, fun _ => rfl⟩
theorem cm_byteAt {i : Int32} (h : ob_M T V B m mt mr mb mk mv me mu thr S) (ho : sp_ok me mu S) : ob_C X mX6_byteAt 4 0 0 [.ref m, .int i] (T, V, B, J) (ob_qm T V B J m mt mr mb mk mv me mu (sp_byt S i)) := by
  refine ob_C_of (by decide) rfl (Nat.le_of_ble_eq_true rfl) ?_
  have m1 := h.1.1.1
  have o8 := ho.2.2.2.2.2.2
  refine og_lv [(0, .ref m), (1, .int i)] rfl ?_
  refine og_aload_n dX6_byteAt_0 rfl rfl ?_
  refine og_iconst (v := 0) dX6_byteAt_1 (by decide) ?_
  refine og_put dX6_byteAt_2 kfX6_36 (by assumption) rfl rfl ?_
  have h1 := h.th 0
  have w1 : ob_WM V B m mt mr mb mk mv (ob_set V m 0 (.int (nI 0))) B := ob_WM.set _ _
  generalize hV1 : ob_set V m 0 (.int (nI 0)) = V1 at *
  refine og_w (T, V1, B, J) (by rw [← hV1]; rfl) ?_
  have m5 := h1.2.2.2.2.1.1
  have m6 := h1.1.1.2.2.2.2.1
  have gr := h1.1.2.1.2.1
  refine og_iload_n dX6_byteAt_5 rfl ?_
  refine og_iconst (v := 0) dX6_byteAt_6 (by decide) ?_
  refine og_aload_n dX6_byteAt_7 rfl rfl ?_
  refine og_getf dX6_byteAt_8 kfX6_94 (by assumption) (by assumption) ?_
  refine og_iconst (v := 1) dX6_byteAt_11 (by decide) ?_
  refine og_isub dX6_byteAt_12 ?_
  refine og_callSe dX6_byteAt_13 ksX6_39 cm_within rfl rfl ⟨by decide, by decide⟩ (by decide) (by decide) (Nat.le_of_ble_eq_true rfl) rfl ?_
  by_cases hk : 0 ≤ i ∧ i ≤ nI S.2.2.2.length - 1
  · rw [decide_eq_true hk]
    have hk2 := (sp_in (by omega)).mp hk
    obtain ⟨j, hj, rfl⟩ := nI_of (x := i) (Int32.not_lt.mpr hk.1)
    have hA : sp_byt S (nI j) = (0, nI (S.2.2.2.getD (nI j).toNatClampNeg 0), S) := if_pos hk2
    rw [nI_clamp hj] at hk2 hA
    rw [hA]
    refine og_if_eq (tgt := 28) dX6_byteAt_16 (by decide) (fun z9 => absurd z9 (by decide)) (fun _ => ?_)
    refine og_aload_n dX6_byteAt_19 rfl rfl ?_
    refine og_getf dX6_byteAt_20 kfX6_13 (by assumption) (by assumption) ?_
    refine og_iload_n dX6_byteAt_23 rfl ?_
    refine og_ialv dX6_byteAt_24 (by assumption) (by omega) (by decide) (h1.2.2.2.2.1.2.at hk2.2) ?_
    refine og_goto (tgt := 33) dX6_byteAt_25 (by decide) ?_
    refine og_ireturn (ty := .int) rfl dX6_byteAt_33 rfl (by decide) (by decide) ⟨_, _, _, rfl, h1, w1, rfl, fun _ => ?_⟩
    show _ = nI (S.2.2.2.getD j 0)
    rw [List.getD_eq_getElem?_getD, List.getElem?_eq_getElem hk2.2]
    rfl
  · rw [decide_eq_false hk]
    have hA : sp_byt S i = (1, 0, S) := if_neg (fun h9 => hk ((sp_in (by omega)).mpr h9))
    refine og_if_eq (tgt := 28) dX6_byteAt_16 (by decide) (fun _ => ?_) (fun z9 => absurd (rfl) z9)
    refine og_aload_n dX6_byteAt_28 rfl rfl ?_
    refine og_iconst (v := 1) dX6_byteAt_29 (by decide) ?_
    refine og_callVe dX6_byteAt_30 kvX6_43 (cm_fail m1) rfl m1 rfl rfl ⟨by decide, by decide⟩ (by decide) (by decide) (Nat.le_of_ble_eq_true rfl) rfl ?_
    exact og_ireturn (ty := .int) rfl dX6_byteAt_33 rfl (by decide) (by decide) (h1.no (c := 1) w1 hA (by decide) _)
theorem mrf_loop {c : Nat} {iv : Nat} {E0 : ob_E} {tr : List Nat × List Nat} (ho : sp_oe E0) (hc0 : c < E0.length) (hiv : iv < 2 ^ 31) (hR : 2 ≤ R.frames ∧ 120 ≤ R.locals) (hk : k ≤ R.cells) (hs : n ≤ R.slots) : ∀ (d i : Nat) (V : ob_V) (B : ob_B) (cur : Option Nat), i + d = min iv (E0.length - c - 1) + 1 → (i = 0 → cur = some c) → (0 < i → cur = none) → ob_M T V B m mt mr mb mk mv me mu 0 (E0.take c ++ E0.drop (c + i), cur, tr) →
    (∀ V' B', ob_M T V' B' m mt mr mb mk mv me mu 0 (E0.take c ++ E0.drop (c + (min iv (E0.length - c - 1) + 1)), none, tr) → ob_WM V B m mt mr mb mk mv V' B' → Q (.inl (some (.int (nI (min iv (E0.length - c - 1) + 1))))) (T, V', B', J)) →
    ob_G X mX6_removeFrom R Q 35 [(0, .ref m), (1, .int (nI iv)), (2, .int (nI c)), (3, .int (nI i))] [] (T, V, B, J) k n := by
  have hl0 := ho.1
  intro d
  induction d with
  | zero =>
    intro i V B cur hid hz hp h kk
    have m1 := h.1.1.1
    have m7 := h.2.1.1
    have hlen : (E0.take c ++ E0.drop (c + i)).length = E0.length - i := by rw [List.length_append, List.length_take, List.length_drop]; omega
    have m7 : V m 7 = .int (nI (E0.length - i)) := by rw [m7]; show Value.int (nI (E0.take c ++ E0.drop (c + i)).length) = _; rw [hlen]
    rw [hp (by omega)] at h
    have e9 : i = min iv (E0.length - c - 1) + 1 := by omega
    have fin : ob_G X mX6_removeFrom R Q 59 [(0, .ref m), (1, .int (nI iv)), (2, .int (nI c)), (3, .int (nI i))] [] (T, V, B, J) k n := by
      refine og_iload_n dX6_removeFrom_59 rfl ?_
      rw [e9] at h ⊢
      exact og_ireturn (ty := .int) rfl dX6_removeFrom_60 rfl hk hs (kk V B h ⟨fun _ _ _ => rfl, fun _ _ _ _ _ _ => rfl⟩)
    refine og_iload_n dX6_removeFrom_35 rfl ?_
    refine og_aload_n dX6_removeFrom_36 rfl rfl ?_
    refine og_getf dX6_removeFrom_37 kfX6_52 (by assumption) (by assumption) ?_
    refine og_icmp_ge (tgt := 59) dX6_removeFrom_40 (by decide) (fun c1 => ?_) (fun c1 => ?_)
    · exact fin
    · have c1 : c < E0.length - i := by
        rcases Nat.lt_or_ge c (E0.length - i) with h9 | h9
        · exact h9
        · exact absurd (nI_le h9 (by omega)) c1
      refine og_iload_n dX6_removeFrom_43 rfl ?_
      refine og_iload_n dX6_removeFrom_44 rfl ?_
      refine og_icmp_gt (tgt := 59) dX6_removeFrom_45 (by decide) (fun _ => ?_) (fun z9 => absurd (nI_lt (by omega) (by omega)) z9)
      exact fin
  | succ d ih =>
    intro i V B cur hid hz hp h kk
    have m1 := h.1.1.1
    have m7 := h.2.1.1
    have hlen : (E0.take c ++ E0.drop (c + i)).length = E0.length - i := by rw [List.length_append, List.length_take, List.length_drop]; omega
    have m7 : V m 7 = .int (nI (E0.length - i)) := by rw [m7]; show Value.int (nI (E0.take c ++ E0.drop (c + i)).length) = _; rw [hlen]
    have hoe : sp_oe (E0.take c ++ E0.drop (c + i)) := by
      have hsub : (E0.take c ++ E0.drop (c + i)).Sublist E0 := by
        have : (E0.take c ++ E0.drop (c + i)).Sublist (E0.take c ++ E0.drop c) := List.Sublist.append_left (by rw [← List.drop_drop]; exact List.drop_sublist _ _) _
        rw [List.take_append_drop] at this
        exact this
      refine ⟨by rw [hlen]; omega, ?_, fun e he => ho.2.2.1 e (hsub.subset he), List.Pairwise.sublist hsub ho.2.2.2⟩
      have e9 : E0 = E0.take c ++ ((E0.drop c).take i ++ E0.drop (c + i)) := by rw [← List.drop_drop, List.take_append_drop, List.take_append_drop]
      have e8 : (sp_fl E0).length = (sp_fl (E0.take c)).length + ((sp_fl ((E0.drop c).take i)).length + (sp_fl (E0.drop (c + i))).length) := by
        have := congrArg (fun z => (sp_fl z).length) e9
        simp only [sp_fl_app, List.length_append] at this
        exact this
      have e7 := ho.2.1
      rw [sp_fl_app, List.length_append]
      omega
    refine og_iload_n dX6_removeFrom_35 rfl ?_
    refine og_aload_n dX6_removeFrom_36 rfl rfl ?_
    refine og_getf dX6_removeFrom_37 kfX6_52 (by assumption) (by assumption) ?_
    refine og_icmp_ge (tgt := 59) dX6_removeFrom_40 (by decide) (fun z9 => absurd z9 (nI_ge (by omega) (by omega))) (fun _ => ?_)
    refine og_iload_n dX6_removeFrom_43 rfl ?_
    refine og_iload_n dX6_removeFrom_44 rfl ?_
    refine og_icmp_gt (tgt := 59) dX6_removeFrom_45 (by decide) (fun z9 => absurd z9 (fun h9 => absurd (nI_le (a := i) (b := iv) (by omega) (by omega)) (Int32.not_le.mpr h9))) (fun _ => ?_)
    refine og_aload_n dX6_removeFrom_48 rfl rfl ?_
    refine og_iload_n dX6_removeFrom_49 rfl ?_
    refine og_callVn dX6_removeFrom_50 kvX6_86 (cm_take (cur := cur) h.1 h.2.1 hoe (by show c < (E0.take c ++ E0.drop (c + i)).length; omega) h.2.2.2.2.2 (fun c9 h9 => ?_)) rfl m1 rfl rfl ⟨hR.1, Nat.le_trans (by decide) hR.2⟩ hk hs (Nat.le_of_ble_eq_true rfl) rfl (fun E w' h9 => by obtain ⟨_, _, h9, _⟩ := h9; cases h9) (fun v w' h9 => ?_)
    · rcases Nat.eq_zero_or_pos i with h0 | h0
      · rw [hz h0] at h9; cases h9; rw [hlen]; omega
      · rw [hp h0] at h9; cases h9
    obtain ⟨V3, B3, hv, rfl, t1, t2, t3, t4⟩ := h9
    cases hv
    obtain ⟨h4, w4⟩ := h.ents t1 t2 t3 t4
    have eE : (E0.take c ++ E0.drop (c + i)).eraseIdx c = E0.take c ++ E0.drop (c + (i + 1)) := by
      rw [List.eraseIdx_append_of_length_le (by rw [List.length_take]; omega), List.length_take, show c - min c E0.length = 0 by omega, List.eraseIdx_zero, List.tail_drop]
      rfl
    have eC : sp_cd cur c = none := by
      rcases Nat.eq_zero_or_pos i with h0 | h0
      · rw [hz h0]; simp [sp_cd]
      · rw [hp h0]; rfl
    have h4' : ob_M T V3 B3 m mt mr mb mk mv me mu 0 (E0.take c ++ E0.drop (c + (i + 1)), none, tr) := by
      rw [← eE, ← eC]; exact h4
    refine og_iinc dX6_removeFrom_53 rfl (nI_1 i) (by decide) ?_
    refine og_goto (tgt := 35) dX6_removeFrom_56 (by decide) ?_
    refine og_lv [(0, .ref m), (1, .int (nI iv)), (2, .int (nI c)), (3, .int (nI (i + 1)))] rfl ?_
    exact ih (i + 1) V3 B3 none (by omega) (fun h0 => by omega) (fun _ => rfl) h4' (fun V' B' f1 f2 => kk V' B' f1 (w4.tr f2))
theorem cm_removeFrom {iv : Int32} (h : ob_M T V B m mt mr mb mk mv me mu thr S) (ho : sp_ok me mu S) : ob_C X mX6_removeFrom 4 0 0 [.ref m, .int iv] (T, V, B, J) (ob_qm T V B J m mt mr mb mk mv me mu (sp_rmf S iv)) := by
  refine ob_C_of (by decide) rfl (Nat.le_of_ble_eq_true rfl) ?_
  have m1 := h.1.1.1
  have hl := ho.1
  refine og_lv [(0, .ref m), (1, .int iv)] rfl ?_
  refine og_aload_n dX6_removeFrom_0 rfl rfl ?_
  refine og_iconst (v := 0) dX6_removeFrom_1 (by decide) ?_
  refine og_put dX6_removeFrom_2 kfX6_36 (by assumption) rfl rfl ?_
  have h1 := h.th 0
  have w1 : ob_WM V B m mt mr mb mk mv (ob_set V m 0 (.int (nI 0))) B := ob_WM.set _ _
  generalize hV1 : ob_set V m 0 (.int (nI 0)) = V1 at *
  refine og_w (T, V1, B, J) (by rw [← hV1]; rfl) ?_
  have m12 := h1.2.2.2.2.2
  refine og_iload_n dX6_removeFrom_5 rfl ?_
  refine og_if_ge (tgt := 15) dX6_removeFrom_6 (by decide) (fun c1 => ?_) (fun c1 => ?_)
  rotate_left
  · refine og_aload_n dX6_removeFrom_9 rfl rfl ?_
    refine og_iconst (v := 1) dX6_removeFrom_10 (by decide) ?_
    refine og_callVe dX6_removeFrom_11 kvX6_43 (cm_fail m1) rfl m1 rfl rfl ⟨by decide, by decide⟩ (by decide) (by decide) (Nat.le_of_ble_eq_true rfl) rfl ?_
    exact og_ireturn (ty := .int) rfl dX6_removeFrom_14 rfl (by decide) (by decide) (h1.no (c := 1) w1 (if_pos (Int32.not_le.mp c1)) (by decide) _)
  have c1' : ¬ iv < 0 := Int32.not_lt.mpr c1
  obtain ⟨j, hj, rfl⟩ := nI_of c1'
  cases hc : S.2.1 with
  | none =>
    rw [hc] at m12
    have m12 : V1 m 12 = .int (-1) := m12
    have hA : sp_rmf S (nI j) = (2, 0, S) := by simp only [sp_rmf, hc, if_neg c1']
    refine og_aload_n dX6_removeFrom_15 rfl rfl ?_
    refine og_getf dX6_removeFrom_16 kfX6_26 (by assumption) (by assumption) ?_
    refine og_if_ge (tgt := 28) dX6_removeFrom_19 (by decide) (fun z9 => absurd z9 (by decide)) (fun _ => ?_)
    refine og_aload_n dX6_removeFrom_22 rfl rfl ?_
    refine og_iconst (v := 2) dX6_removeFrom_23 (by decide) ?_
    refine og_callVe dX6_removeFrom_24 kvX6_43 (cm_fail m1) rfl m1 rfl rfl ⟨by decide, by decide⟩ (by decide) (by decide) (Nat.le_of_ble_eq_true rfl) rfl ?_
    exact og_ireturn (ty := .int) rfl dX6_removeFrom_27 rfl (by decide) (by decide) (h1.no (c := 2) w1 hA (by decide) _)
  | some c =>
    rw [hc] at m12
    have m12 : V1 m 12 = .int (nI c) := m12
    have hcl := ho.2.2.2.2.1 c hc
    have e : sp_rmf S (nI j) = (0, nI (min j (S.1.length - c - 1) + 1), (S.1.take c ++ S.1.drop (c + (min j (S.1.length - c - 1) + 1)), none, S.2.2)) := by simp only [sp_rmf, hc, if_neg c1', nI_clamp hj]
    rw [e]
    refine og_aload_n dX6_removeFrom_15 rfl rfl ?_
    refine og_getf dX6_removeFrom_16 kfX6_26 (by assumption) (by assumption) ?_
    refine og_if_ge (tgt := 28) dX6_removeFrom_19 (by decide) (fun _ => ?_) (fun z9 => absurd (nI_pos' (by omega)) z9)
    refine og_aload_n dX6_removeFrom_28 rfl rfl ?_
    refine og_getf dX6_removeFrom_29 kfX6_26 (by assumption) (by assumption) ?_
    refine og_istore_n dX6_removeFrom_32 (by decide) ?_
    refine og_iconst (v := 0) dX6_removeFrom_33 (by decide) ?_
    refine og_istore_n dX6_removeFrom_34 (by decide) ?_
    refine og_lv [(0, .ref m), (1, .int (nI j)), (2, .int (nI c)), (3, .int (nI 0))] rfl ?_
    refine mrf_loop (E0 := S.1) (tr := S.2.2) ho.oe hcl hj ⟨by decide, by decide⟩ (by decide) (by decide) _ 0 V1 B (some c) (Nat.zero_add _) (fun _ => rfl) (fun h => by omega) (by rw [Nat.add_zero, List.take_append_drop, ← hc]; exact h1) (fun V' B' f1 f2 => ?_)
    exact ⟨V', B', _, rfl, f1, w1.tr f2, rfl, fun _ => rfl⟩
end OMG
