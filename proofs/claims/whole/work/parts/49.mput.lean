/-! THE REFERENCE'S CALLS: put, feed, count; its constructor -/
theorem km255 : Cond.constantLong RX6 50 255 ∈ ob_tb := ob_in 743 (by decide +kernel) (by decide +kernel)
section OMH
variable {X : ob_X} {T : ob_T} {V V' : ob_V} {B B' : ob_B} {J : ob_J} {R : Room} {Q : ob_r → ob_w → Prop} {k n : Nat} {m mt mr mb mk mv me mu thr : Nat} {S : sp_S}
theorem cm_put {kc : Int32} (h : ob_M T V B m mt mr mb mk mv me mu thr S) (ho : sp_ok me mu S) : ob_C X mX6_put 4 0 0 [.ref m, .int kc] (T, V, B, J) (ob_qm T V B J m mt mr mb mk mv me mu (sp_put me mu S kc)) := by
  refine ob_C_of (by decide) rfl (Nat.le_of_ble_eq_true rfl) ?_
  have m1 := h.1.1.1
  have hl := ho.1
  have hus := ho.2.1
  obtain ⟨o6, o7⟩ := ho.2.2.2.2.2.1
  refine og_lv [(0, .ref m), (1, .int kc)] rfl ?_
  refine og_aload_n dX6_put_0 rfl rfl ?_
  refine og_iconst (v := 0) dX6_put_1 (by decide) ?_
  refine og_put dX6_put_2 kfX6_36 (by assumption) rfl rfl ?_
  refine og_aload_n dX6_put_5 rfl rfl ?_
  have h1 := h.th 0
  have h3 := h1.2.2.2.1.1
  have ht := h1.2.2.2.1.2
  refine og_callVe dX6_put_6 kvX6_76 (cm_taken m1 h3) rfl m1 rfl rfl ⟨by decide, by decide⟩ (by decide) (by decide) (Nat.le_of_ble_eq_true rfl) rfl ?_
  have h2 := h1.fed
  have w2 : ob_WM V B m mt mr mb mk mv (ob_set (ob_set V m 0 (.int (nI 0))) m 3 (.int 0)) B := (ob_WM.set _ _).tr (ob_WM.set _ _)
  generalize hV2 : ob_set (ob_set V m 0 (.int (nI 0))) m 3 (.int 0) = V2 at *
  refine og_w (T, V2, B, J) (by rw [← hV2]; rfl) ?_
  have bad : ¬ ((1 ≤ kc ∧ kc ≤ 64) ∧ kc.toNatClampNeg ≤ S.2.2.1.length ∧ S.2.2.1.length - kc.toNatClampNeg ≤ 512) → ∀ lv, ob_get lv 0 = some (.ref m) → ob_G X mX6_put (ob_rm 4 0 0) (ob_qm T V B J m mt mr mb mk mv me mu (sp_put me mu S kc)) 33 lv [] (T, V2, B, J) 0 0 := by
    intro hb lv hlv
    refine og_aload_n dX6_put_33 hlv rfl ?_
    refine og_iconst (v := 1) dX6_put_34 (by decide) ?_
    refine og_callVe dX6_put_35 kvX6_43 (cm_fail m1) rfl m1 rfl rfl ⟨by decide, by decide⟩ (by decide) (by decide) (Nat.le_of_ble_eq_true rfl) rfl ?_
    refine og_if_le (tgt := 45) dX6_put_38 (by decide) (fun _ => ?_) (fun z9 => absurd (by decide) z9)
    refine og_iconst (v := 0) dX6_put_45 (by decide) ?_
    exact og_ireturn (ty := .boolean) rfl dX6_put_46 rfl (by decide) (by decide) (h2.no (c := 1) w2 (if_pos hb) (by decide) _)
  refine og_istore_n dX6_put_9 (by decide) ?_
  refine og_iload_n dX6_put_10 rfl ?_
  refine og_iconst (v := 1) dX6_put_11 (by decide) ?_
  refine og_bipush (v := 64) dX6_put_12 (by decide) ?_
  refine og_callSe dX6_put_14 ksX6_39 cm_within rfl rfl ⟨by decide, by decide⟩ (by decide) (by decide) (Nat.le_of_ble_eq_true rfl) rfl ?_
  by_cases hk : 1 ≤ kc ∧ kc ≤ 64
  rotate_left
  · rw [decide_eq_false hk]
    refine og_if_eq (tgt := 33) dX6_put_17 (by decide) (fun _ => ?_) (fun z9 => absurd (rfl) z9)
    exact bad (fun h9 => hk h9.1) _ rfl
  rw [decide_eq_true hk]
  obtain ⟨j, hj, rfl⟩ := nI_of (x := kc) (fun h9 => absurd hk.1 (Int32.not_le.mpr (Int32.lt_trans h9 (by decide))))
  have hjk : 1 ≤ j ∧ j ≤ 64 := ⟨(nI_leI (a := 1) (by omega) hj).mp hk.1, (nI_leI (b := 64) hj (by omega)).mp hk.2⟩
  refine og_if_eq (tgt := 33) dX6_put_17 (by decide) (fun z9 => absurd z9 (by decide)) (fun _ => ?_)
  refine og_iload_n dX6_put_20 rfl ?_
  refine og_iload_n dX6_put_21 rfl ?_
  refine og_isub dX6_put_22 ?_
  refine og_iconst (v := 0) dX6_put_23 (by decide) ?_
  refine og_sipush (v := 512) dX6_put_24 (by decide) ?_
  refine og_callSe dX6_put_27 ksX6_39 cm_within rfl rfl ⟨by decide, by decide⟩ (by decide) (by decide) (Nat.le_of_ble_eq_true rfl) rfl ?_
  by_cases hg : j ≤ S.2.2.1.length ∧ S.2.2.1.length - j ≤ 512
  rotate_left
  · have hn : ¬ (0 ≤ nI S.2.2.1.length - nI j ∧ nI S.2.2.1.length - nI j ≤ 512) := by
      rintro ⟨a1, a2⟩
      by_cases hjl : j ≤ S.2.2.1.length
      · rw [nI_sub hjl] at a2
        exact hg ⟨hjl, (nI_leI (b := 512) (by omega) (by omega)).mp a2⟩
      · have e9 : nI S.2.2.1.length - nI j = -(nI (j - S.2.2.1.length)) := by rw [← nI_sub (by omega), Int32.neg_sub]
        rw [e9, Int32.le_iff_toInt_le, sb_negT (by omega)] at a1
        have : (0 : Int32).toInt = 0 := by decide
        omega
    rw [decide_eq_false hn]
    refine og_if_ne (tgt := 47) dX6_put_30 (by decide) (fun z9 => absurd (rfl) z9) (fun _ => ?_)
    exact bad (fun h9 => hg (by have := h9.2; rw [nI_clamp hj] at this; exact this)) _ rfl
  rw [decide_eq_true (show 0 ≤ nI S.2.2.1.length - nI j ∧ nI S.2.2.1.length - nI j ≤ 512 by rw [nI_sub hg.1]; exact ⟨nI_pos' (by omega), nI_le (b := 512) hg.2 (by omega)⟩)]
  have hA : sp_put me mu S (nI j) = (match sp_fd S.1 (S.2.2.1.take j) with
    | none => if me ≤ S.1.length ∨ mu < sp_us S.1 + ob_un S.2.2.1.length then (2, 0, sp_0 S) else (0, 1, (S.1.take (sp_bl S.1 (S.2.2.1.take j) false) ++ (S.2.2.1.take j, S.2.2.1.drop j) :: S.1.drop (sp_bl S.1 (S.2.2.1.take j) false), some (sp_bl S.1 (S.2.2.1.take j) false), [], S.2.2.2))
    | some i => if mu < sp_us (S.1.eraseIdx i) + ob_un S.2.2.1.length then (2, 0, sp_0 S) else (0, 0, (S.1.set i (S.2.2.1.take j, S.2.2.1.drop j), some i, [], S.2.2.2))) := by
    have : sp_put me mu S (nI j) = _ := if_neg (not_not_intro ⟨hk, by rw [nI_clamp hj]; exact hg⟩)
    rw [nI_clamp hj] at this
    exact this
  have full : sp_put me mu S (nI j) = (2, 0, sp_0 S) → ∀ lv, ob_get lv 0 = some (.ref m) → ob_G X mX6_put (ob_rm 4 0 0) (ob_qm T V B J m mt mr mb mk mv me mu (sp_put me mu S (nI j))) 113 lv [] (T, V2, B, J) 0 0 := by
    intro hb lv hlv
    refine og_aload_n dX6_put_113 hlv rfl ?_
    refine og_iconst (v := 2) dX6_put_114 (by decide) ?_
    refine og_callVe dX6_put_115 kvX6_43 (cm_fail m1) rfl m1 rfl rfl ⟨by decide, by decide⟩ (by decide) (by decide) (Nat.le_of_ble_eq_true rfl) rfl ?_
    refine og_if_le (tgt := 125) dX6_put_118 (by decide) (fun _ => ?_) (fun z9 => absurd (by decide) z9)
    refine og_iconst (v := 0) dX6_put_125 (by decide) ?_
    exact og_ireturn (ty := .boolean) rfl dX6_put_126 rfl (by decide) (by decide) (h2.no (c := 2) w2 hb (by decide) _)
  have hun : ob_un S.2.2.1.length ≤ 100 := by unfold ob_un; omega
  have hflb := sp_fl_len S.1
  have ma := h2.1.1.2.1
  have mb9 := h2.1.1.2.2.1
  obtain ⟨-, -, -, -, -, -, hk9, hv9⟩ := h2.1.1
  obtain ⟨-, -, g3, g4, g5⟩ := h2.1.2.1
  have m7 : V2 m 7 = .int (nI S.1.length) := h2.2.1.1
  have hbe : ∀ e ∈ S.1, e.1.length ≤ 64 ∧ e.2.length ≤ 512 := fun e he => (ho.2.2.1 e he).1.2
  refine og_if_ne (tgt := 47) dX6_put_30 (by decide) (fun _ => ?_) (fun z9 => absurd z9 (by decide))
  refine og_aload_n dX6_put_47 rfl rfl ?_
  refine og_iload_n dX6_put_48 rfl ?_
  refine og_callVe dX6_put_49 kvX6_80 (cm_find (full := S.2.2.1) h2.1 h2.2.1 ho.oe ht hg.1 o6 o7) rfl m1 rfl rfl ⟨by decide, by decide⟩ (by decide) (by decide) (Nat.le_of_ble_eq_true rfl) rfl ?_
  show ob_G X mX6_put _ _ _ _ [.int (sp_cI (sp_fd S.1 (S.2.2.1.take j)))] _ _ _
  have hun9 := ob_un_le S.2.2.1.length
  cases hf : sp_fd S.1 (S.2.2.1.take j) with
  | none =>
    rw [hf] at hA
    refine og_st [.int (-1)] rfl ?_
    refine og_istore_n dX6_put_52 (by decide) ?_
    refine og_iload_n dX6_put_53 rfl ?_
    refine og_if_ge (tgt := 61) dX6_put_54 (by decide) (fun z9 => absurd z9 (by decide)) (fun _ => ?_)
    refine og_iconst (v := 0) dX6_put_57 (by decide) ?_
    refine og_goto (tgt := 77) dX6_put_58 (by decide) ?_
    refine og_istore dX6_put_77 (by decide) ?_
    refine og_aload_n dX6_put_79 rfl rfl ?_
    refine og_callVe dX6_put_80 kvX6_83 (cm_used h2.1 h2.2.1 (by show S.1.length ≤ 1024; omega) hbe) rfl m1 rfl rfl ⟨by decide, by decide⟩ (by decide) (by decide) (Nat.le_of_ble_eq_true rfl) rfl ?_
    refine og_iload dX6_put_83 rfl ?_
    refine og_isub dX6_put_85 ?_
    refine og_iload_n dX6_put_86 rfl ?_
    refine og_callSe dX6_put_87 ksX6_66 (cm_unitsOf (by omega)) rfl rfl ⟨by decide, by decide⟩ (by decide) (by decide) (Nat.le_of_ble_eq_true rfl) rfl ?_
    refine og_iadd dX6_put_90 ?_
    refine og_aload_n dX6_put_91 rfl rfl ?_
    refine og_getf dX6_put_92 kfX6_33 (by assumption) (by assumption) ?_
    refine og_st [.int (nI mu), .int (nI (sp_us S.1 + ob_un S.2.2.1.length))] (by rw [Int32.sub_zero, nI_add] <;> rfl) ?_
    refine og_icmp_gt (tgt := 113) dX6_put_95 (by decide) (fun c1 => ?_) (fun c1 => ?_)
    · have c1 := (nI_ltI (by omega) (by omega)).mp c1
      exact full (by rw [hA]; exact if_pos (Or.inr c1)) _ rfl
    · have c1 : sp_us S.1 + ob_un S.2.2.1.length ≤ mu := by
        rcases Nat.lt_or_ge mu (sp_us S.1 + ob_un S.2.2.1.length) with h9 | h9
        · exact absurd (nI_lt h9 (by omega)) c1
        · exact h9
      refine og_iload_n dX6_put_98 rfl ?_
      refine og_if_ge (tgt := 127) dX6_put_99 (by decide) (fun z9 => absurd z9 (by decide)) (fun _ => ?_)
      refine og_aload_n dX6_put_102 rfl rfl ?_
      refine og_getf dX6_put_103 kfX6_52 (by assumption) (by assumption) ?_
      refine og_aload_n dX6_put_106 rfl rfl ?_
      refine og_getf dX6_put_107 kfX6_30 (by assumption) (by assumption) ?_
      refine og_icmp_ne (tgt := 127) dX6_put_110 (by decide) (fun c2 => ?_) (fun c2 => ?_)
      rotate_left
      · have c2 := (nI_eq (by omega) (by omega)).mp c2
        exact full (by rw [hA]; exact if_pos (Or.inl (by omega))) _ rfl
      · have c2 : S.1.length < me := by
          rcases Nat.lt_or_ge S.1.length me with h9 | h9
          · exact h9
          · exact absurd (by rw [show S.1.length = me by omega]) c2
        have hA2 : sp_put me mu S (nI j) = (0, 1, (S.1.take (sp_bl S.1 (S.2.2.1.take j) false) ++ (S.2.2.1.take j, S.2.2.1.drop j) :: S.1.drop (sp_bl S.1 (S.2.2.1.take j) false), some (sp_bl S.1 (S.2.2.1.take j) false), [], S.2.2.2)) := by rw [hA]; exact if_neg (by omega)
        rw [hA2]
        refine og_iload_n dX6_put_127 rfl ?_
        refine og_if_lt (tgt := 136) dX6_put_128 (by decide) (fun _ => ?_) (fun z9 => absurd (by decide) z9)
        refine og_aload_n dX6_put_136 rfl rfl ?_
        refine og_aload_n dX6_put_137 rfl rfl ?_
        refine og_iload_n dX6_put_138 rfl ?_
        refine og_iconst (v := 0) dX6_put_139 (by decide) ?_
        refine og_callVe dX6_put_140 kvX6_59 (cm_below (s := false) (full := S.2.2.1) h2.1 h2.2.1 ho.oe ht hg.1 o6 o7) rfl m1 rfl rfl ⟨by decide, by decide⟩ (by decide) (by decide) (Nat.le_of_ble_eq_true rfl) rfl ?_
        have hble := sp_bl_le S.1 (S.2.2.1.take j) false
        refine og_iload_n dX6_put_143 rfl ?_
        refine og_iload_n dX6_put_144 rfl ?_
        refine og_callVn dX6_put_145 kvX6_90 (cm_insert (e := sp_bl S.1 (S.2.2.1.take j) false) h2.1 h2.2.1 (by show S.1.length ≤ 1023; omega) (by show (sp_fl S.1).length + _ ≤ _; omega) hble ht hg.1 hjk.1 o6) rfl m1 rfl rfl ⟨by decide, by decide⟩ (by decide) (by decide) (Nat.le_of_ble_eq_true rfl) rfl (fun E w' h9 => by obtain ⟨_, _, h9, _⟩ := h9; cases h9) (fun v w' h9 => ?_)
        obtain ⟨V3, B3, hv, rfl, t1, t2, t3, t4⟩ := h9
        cases hv
        obtain ⟨h4, w4⟩ := h2.ents (cur' := some (sp_bl S.1 (S.2.2.1.take j) false)) t1 t2 t3 t4
        refine og_iload_n dX6_put_148 rfl ?_
        refine og_if_ge (tgt := 156) dX6_put_149 (by decide) (fun z9 => absurd z9 (by decide)) (fun _ => ?_)
        refine og_iconst (v := 1) dX6_put_152 (by decide) ?_
        refine og_goto (tgt := 157) dX6_put_153 (by decide) ?_
        exact og_ireturn (ty := .boolean) rfl dX6_put_157 rfl (by decide) (by decide) ⟨V3, B3, _, rfl, h4, w2.tr w4, rfl, fun _ => rfl⟩
  | some i =>
    obtain ⟨hil, hib, hkey⟩ := sp_fd_some hf
    have hei := hbe S.1[i] (List.getElem_mem hil)
    rw [hf] at hA
    have eE : S.1 = S.1.take i ++ S.1[i] :: S.1.drop (i + 1) := by rw [← List.drop_eq_getElem_cons hil, List.take_append_drop]
    have eE2 : S.1.eraseIdx i = S.1.take i ++ S.1.drop (i + 1) := List.eraseIdx_eq_take_drop_succ S.1 i
    have eus : sp_us S.1 = sp_us (S.1.eraseIdx i) + ob_un (S.1[i].1.length + S.1[i].2.length) := by
      rw [eE2]
      have := congrArg sp_us eE
      rw [sp_us_app] at this
      exact this
    refine og_st [.int (nI i)] rfl ?_
    refine og_istore_n dX6_put_52 (by decide) ?_
    refine og_iload_n dX6_put_53 rfl ?_
    refine og_if_ge (tgt := 61) dX6_put_54 (by decide) (fun _ => ?_) (fun z9 => absurd (nI_pos' (by omega)) z9)
    refine og_aload_n dX6_put_61 rfl rfl ?_
    refine og_getf dX6_put_62 kfX6_20 (by assumption) (by assumption) ?_
    refine og_iload_n dX6_put_65 rfl ?_
    refine og_ialv dX6_put_66 (by assumption) (by omega) (by decide) (h2.2.1.ks hil) ?_
    refine og_aload_n dX6_put_67 rfl rfl ?_
    refine og_getf dX6_put_68 kfX6_23 (by assumption) (by assumption) ?_
    refine og_iload_n dX6_put_71 rfl ?_
    refine og_ialv dX6_put_72 (by assumption) (by omega) (by decide) (h2.2.1.vs hil) ?_
    refine og_iadd dX6_put_73 ?_
    refine og_st [.int (nI (S.1[i].1.length + S.1[i].2.length))] (by rw [← nI_add] <;> rfl) ?_
    refine og_callSe dX6_put_74 ksX6_66 (cm_unitsOf (by omega)) rfl rfl ⟨by decide, by decide⟩ (by decide) (by decide) (Nat.le_of_ble_eq_true rfl) rfl ?_
    refine og_istore dX6_put_77 (by decide) ?_
    refine og_aload_n dX6_put_79 rfl rfl ?_
    refine og_callVe dX6_put_80 kvX6_83 (cm_used h2.1 h2.2.1 (by show S.1.length ≤ 1024; omega) hbe) rfl m1 rfl rfl ⟨by decide, by decide⟩ (by decide) (by decide) (Nat.le_of_ble_eq_true rfl) rfl ?_
    refine og_iload dX6_put_83 rfl ?_
    refine og_isub dX6_put_85 ?_
    refine og_st [.int (nI (sp_us (S.1.eraseIdx i)))] (by rw [show sp_us (sp_0 S).1 = sp_us S.1 from rfl, nI_sub (by omega), show sp_us S.1 - ob_un (S.1[i].1.length + S.1[i].2.length) = sp_us (S.1.eraseIdx i) by omega] <;> rfl) ?_
    refine og_iload_n dX6_put_86 rfl ?_
    refine og_callSe dX6_put_87 ksX6_66 (cm_unitsOf (by omega)) rfl rfl ⟨by decide, by decide⟩ (by decide) (by decide) (Nat.le_of_ble_eq_true rfl) rfl ?_
    refine og_iadd dX6_put_90 ?_
    refine og_aload_n dX6_put_91 rfl rfl ?_
    refine og_getf dX6_put_92 kfX6_33 (by assumption) (by assumption) ?_
    refine og_st [.int (nI mu), .int (nI (sp_us (S.1.eraseIdx i) + ob_un S.2.2.1.length))] (by rw [nI_add] <;> rfl) ?_
    refine og_icmp_gt (tgt := 113) dX6_put_95 (by decide) (fun c1 => ?_) (fun c1 => ?_)
    · have c1 := (nI_ltI (by omega) (by omega)).mp c1
      exact full (by rw [hA]; exact if_pos c1) _ rfl
    · have c1 : sp_us (S.1.eraseIdx i) + ob_un S.2.2.1.length ≤ mu := by
        rcases Nat.lt_or_ge mu (sp_us (S.1.eraseIdx i) + ob_un S.2.2.1.length) with h9 | h9
        · exact absurd (nI_lt h9 (by omega)) c1
        · exact h9
      have hA2 : sp_put me mu S (nI j) = (0, 0, (S.1.set i (S.2.2.1.take j, S.2.2.1.drop j), some i, [], S.2.2.2)) := by rw [hA]; exact if_neg (by omega)
      rw [hA2]
      refine og_iload_n dX6_put_98 rfl ?_
      refine og_if_ge (tgt := 127) dX6_put_99 (by decide) (fun _ => ?_) (fun z9 => absurd (nI_pos' (by omega)) z9)
      refine og_iload_n dX6_put_127 rfl ?_
      refine og_if_lt (tgt := 136) dX6_put_128 (by decide) (fun z9 => absurd z9 (nI_pos (by omega))) (fun _ => ?_)
      refine og_aload_n dX6_put_131 rfl rfl ?_
      refine og_iload_n dX6_put_132 rfl ?_
      refine og_callVn dX6_put_133 kvX6_86 (cm_take (cur := S.2.1) h2.1 h2.2.1 ho.oe hil h2.2.2.2.2.2 ho.2.2.2.2.1) rfl m1 rfl rfl ⟨by decide, by decide⟩ (by decide) (by decide) (Nat.le_of_ble_eq_true rfl) rfl (fun E w' h9 => by obtain ⟨_, _, h9, _⟩ := h9; cases h9) (fun v w' h9 => ?_)
      obtain ⟨V3, B3, hv, rfl, t1, t2, t3, t4⟩ := h9
      cases hv
      obtain ⟨h4, w4⟩ := h2.ents t1 t2 t3 t4
      have ne := h2.1.2.2
      have ht3 : ob_is B3 mt 0 S.2.2.1 := ht.same (fun z _ => by rw [t4 mt ne.2.1 ne.2.2.1 ne.2.2.2.1])
      have hlen9 : (S.1.eraseIdx i).length = S.1.length - 1 := List.length_eraseIdx_of_lt hil
      have hfl9 := sp_fl_len (S.1.eraseIdx i)
      have hsub : (S.1.eraseIdx i).Sublist S.1 := List.eraseIdx_sublist _ _
      have hoe9 : sp_oe (S.1.eraseIdx i) := ⟨by omega, by omega, fun e he => ho.2.2.1 e (hsub.subset he), List.Pairwise.sublist hsub ho.2.2.2.1⟩
      have so := ho.2.2.2.1
      have kj : S.1[i].1 = S.2.2.1.take j := by rw [← hkey, List.getD_eq_getElem?_getD, List.getElem?_eq_getElem hil]; rfl
      have hbl9 : sp_bl (S.1.eraseIdx i) (S.2.2.1.take j) false = i := by
        have so2 := so
        unfold sp_so at so2
        rw [eE, List.pairwise_append] at so2
        obtain ⟨-, so3, so4⟩ := so2
        rw [eE2, sp_bl_mid, List.length_take]
        · omega
        · intro e he
          have := so4 e he S.1[i] List.mem_cons_self
          rw [kj] at this
          exact this
        · intro e he
          have := (List.pairwise_cons.mp so3).1 e he
          rw [kj] at this
          exact this
      refine og_aload_n dX6_put_136 rfl rfl ?_
      refine og_aload_n dX6_put_137 rfl rfl ?_
      refine og_iload_n dX6_put_138 rfl ?_
      refine og_iconst (v := 0) dX6_put_139 (by decide) ?_
      refine og_callVe dX6_put_140 kvX6_59 (cm_below (s := false) (full := S.2.2.1) h4.1 h4.2.1 hoe9 ht3 hg.1 o6 o7) rfl m1 rfl rfl ⟨by decide, by decide⟩ (by decide) (by decide) (Nat.le_of_ble_eq_true rfl) rfl ?_
      rw [show sp_bl ((sp_0 S).1.eraseIdx i) (S.2.2.1.take j) false = i from hbl9]
      refine og_iload_n dX6_put_143 rfl ?_
      refine og_iload_n dX6_put_144 rfl ?_
      refine og_callVn dX6_put_145 kvX6_90 (cm_insert (e := i) h4.1 h4.2.1 (by show (S.1.eraseIdx i).length ≤ 1023; omega) (by show (sp_fl (S.1.eraseIdx i)).length + _ ≤ _; omega) (by show i ≤ (S.1.eraseIdx i).length; omega) ht3 hg.1 hjk.1 o6) rfl m1 rfl rfl ⟨by decide, by decide⟩ (by decide) (by decide) (Nat.le_of_ble_eq_true rfl) rfl (fun E w' h9 => by obtain ⟨_, _, h9, _⟩ := h9; cases h9) (fun v w' h9 => ?_)
      obtain ⟨V5, B5, hv, rfl, s1, s2, s3, s4⟩ := h9
      cases hv
      obtain ⟨h6, w6⟩ := h4.ents (cur' := some i) s1 s2 s3 s4
      have eset : (S.1.eraseIdx i).take i ++ (S.2.2.1.take j, S.2.2.1.drop j) :: (S.1.eraseIdx i).drop i = S.1.set i (S.2.2.1.take j, S.2.2.1.drop j) := by
        have hti : (S.1.take i).length = i := by rw [List.length_take]; omega
        rw [List.set_eq_take_append_cons_drop, if_pos hil, eE2, List.take_append_of_le_length (by omega), List.take_take, Nat.min_self, List.drop_append_of_le_length (by omega)]
        congr 2
        rw [List.drop_eq_nil_of_le (by omega), List.nil_append]
      refine og_iload_n dX6_put_148 rfl ?_
      refine og_if_ge (tgt := 156) dX6_put_149 (by decide) (fun _ => ?_) (fun z9 => absurd (nI_pos' (by omega)) z9)
      refine og_iconst (v := 0) dX6_put_156 (by decide) ?_
      refine og_ireturn (ty := .boolean) rfl dX6_put_157 rfl (by decide) (by decide) ⟨V5, B5, _, rfl, ?_, w2.tr (w4.tr w6), rfl, fun _ => rfl⟩
      rw [← eset]
      exact h6
theorem mfeed_loop {i9 : Nat} {e8 : Int64} (h : ob_Ma T V m mt mr mb mk mv me mu) (hm : i9 ≤ 8) {tape : List Nat} (h3 : V m 3 = .int (nI tape.length)) (hl : tape.length + i9 ≤ 600) {B0 : ob_B} (ht0 : ob_is B0 mt 0 tape) (hq : ∀ B', (∀ y, y ≠ mt → B' y = B0 y) → ob_is B' mt 0 (tape ++ (List.range i9).map (sp_by e8)) → ob_G X mX6_feed R Q 78 [(0, .ref m), (3, .int (nI i9))] [] (T, V, B', J) k n) :
    ∀ (d i : Nat) (B : ob_B), i + d = i9 → (∀ y, y ≠ mt → B y = B0 y) → ob_is B mt 0 (tape ++ (List.range i).map (sp_by e8)) → ob_G X mX6_feed R Q 42 [(0, .ref m), (1, .long e8), (3, .int (nI i9)), (4, .int (nI i))] [] (T, V, B, J) k n := by
  obtain ⟨⟨h1, -, -, h4, -, -, -, -⟩, ⟨g1, -, -, -, -⟩, ne⟩ := h
  intro d
  induction d with
  | zero =>
    intro i B hid f1 f2
    have e9 : i = i9 := by omega
    subst e9
    refine og_iload dX6_feed_42 rfl ?_
    refine og_iload_n dX6_feed_44 rfl ?_
    refine og_icmp_ge (tgt := 78) dX6_feed_45 (by decide) (fun _ => ?_) (fun z9 => absurd (Int32.le_refl _) z9)
    exact og_lv [(0, .ref m), (3, .int (nI i))] rfl (hq B f1 f2)
  | succ d ih =>
    intro i B hid f1 f2
    have yl : (tape ++ (List.range i).map (sp_by e8)).length = tape.length + i := by simp
    refine og_iload dX6_feed_42 rfl ?_
    refine og_iload_n dX6_feed_44 rfl ?_
    refine og_icmp_ge (tgt := 78) dX6_feed_45 (by decide) (fun z9 => absurd z9 (nI_ge (by omega) (by omega))) (fun _ => ?_)
    refine og_aload_n dX6_feed_48 rfl rfl ?_
    refine og_getf dX6_feed_49 kfX6_7 (by assumption) (by assumption) ?_
    refine og_aload_n dX6_feed_52 rfl rfl ?_
    refine og_getf dX6_feed_53 kfX6_47 (by assumption) (by assumption) ?_
    refine og_iload dX6_feed_56 rfl ?_
    refine og_iadd dX6_feed_58 ?_
    refine og_st [.int (nI (tape.length + i)), .ref mt] (by rw [nI_add] <;> rfl) ?_
    refine og_lload_n dX6_feed_59 rfl ?_
    refine og_bipush (v := 8) dX6_feed_60 (by decide) ?_
    refine og_iload dX6_feed_62 rfl ?_
    refine og_imul dX6_feed_64 ?_
    refine og_st [.int (nI (8 * i)), .long e8, .int (nI (tape.length + i)), .ref mt] (by rw [← pk_mul] <;> rfl) ?_
    refine og_lshr dX6_feed_65 rfl ?_
    refine og_ldc2 (v := 255) dX6_feed_66 km255 ?_
    refine og_land dX6_feed_69 ?_
    refine og_l2i dX6_feed_70 (sp_by_m (x := e8) (i := i) (by omega)) ?_
    refine og_iasv dX6_feed_71 g1 (by omega) (by decide) ?_
    refine og_iinc dX6_feed_72 rfl (nI_1 i) (by decide) ?_
    refine og_goto (tgt := 42) dX6_feed_75 (by decide) ?_
    refine og_lv [(0, .ref m), (1, .long e8), (3, .int (nI i9)), (4, .int (nI (i + 1)))] rfl ?_
    refine ih (i + 1) _ (by omega) (fun y hy => ?_) ?_
    · rw [← f1 y hy]; funext z; exact ob_set_a _ _ _ _ _ hy
    · rw [List.range_succ, List.map_append, ← List.append_assoc]
      refine ob_is_app.mpr ⟨f2.same (fun z hz => ?_), fun z hz => ?_⟩
      · rw [yl] at hz
        exact ob_set_k _ _ _ _ _ (by omega)
      · have hz0 : z = 0 := by simp at hz; omega
        subst hz0
        rw [yl, Nat.zero_add, Nat.add_zero]
        exact ob_set_s _ _ _ _
theorem cm_feed {e8 : Int64} {iv : Int32} (h : ob_M T V B m mt mr mb mk mv me mu thr S) (ho : sp_ok me mu S) : ob_C X mX6_feed 4 0 0 [.ref m, .long e8, .int iv] (T, V, B, J) (ob_qm T V B J m mt mr mb mk mv me mu (sp_feed S e8 iv)) := by
  refine ob_C_of (by decide) rfl (Nat.le_of_ble_eq_true rfl) ?_
  have m1 := h.1.1.1
  obtain ⟨o6, o7⟩ := ho.2.2.2.2.2.1
  refine og_lv [(0, .ref m), (1, .long e8), (3, .int iv)] rfl ?_
  refine og_aload_n dX6_feed_0 rfl rfl ?_
  refine og_iconst (v := 0) dX6_feed_1 (by decide) ?_
  refine og_put dX6_feed_2 kfX6_36 (by assumption) rfl rfl ?_
  have h1 := h.th 0
  have w1 : ob_WM V B m mt mr mb mk mv (ob_set V m 0 (.int (nI 0))) B := ob_WM.set _ _
  generalize hV1 : ob_set V m 0 (.int (nI 0)) = V1 at *
  refine og_w (T, V1, B, J) (by rw [← hV1]; rfl) ?_
  have m3 := h1.2.2.2.1.1
  refine og_iload_n dX6_feed_5 rfl ?_
  refine og_iconst (v := 1) dX6_feed_6 (by decide) ?_
  refine og_bipush (v := 8) dX6_feed_7 (by decide) ?_
  refine og_callSe dX6_feed_9 ksX6_39 cm_within rfl rfl ⟨by decide, by decide⟩ (by decide) (by decide) (Nat.le_of_ble_eq_true rfl) rfl ?_
  by_cases hk : 1 ≤ iv ∧ iv ≤ 8
  rotate_left
  · rw [decide_eq_false hk]
    refine og_if_ne (tgt := 21) dX6_feed_12 (by decide) (fun z9 => absurd (rfl) z9) (fun _ => ?_)
    refine og_aload_n dX6_feed_15 rfl rfl ?_
    refine og_iconst (v := 1) dX6_feed_16 (by decide) ?_
    refine og_callVe dX6_feed_17 kvX6_43 (cm_fail m1) rfl m1 rfl rfl ⟨by decide, by decide⟩ (by decide) (by decide) (Nat.le_of_ble_eq_true rfl) rfl ?_
    exact og_ireturn (ty := .int) rfl dX6_feed_20 rfl (by decide) (by decide) (h1.no (c := 1) w1 (if_pos hk) (by decide) _)
  rw [decide_eq_true hk]
  obtain ⟨j, hj, rfl⟩ := nI_of (x := iv) (fun h9 => absurd hk.1 (Int32.not_le.mpr (Int32.lt_trans h9 (by decide))))
  have hj8 : j ≤ 8 := (nI_leI (b := 8) hj (by omega)).mp hk.2
  have hA : sp_feed S e8 (nI j) = (if 600 < S.2.2.1.length + j then (2, 0, S) else (0, nI (S.2.2.1.length + j), (S.1, S.2.1, S.2.2.1 ++ (List.range j).map (sp_by e8), S.2.2.2))) := by
    have : sp_feed S e8 (nI j) = _ := if_neg (not_not_intro hk)
    rw [nI_clamp hj] at this
    exact this
  refine og_if_ne (tgt := 21) dX6_feed_12 (by decide) (fun _ => ?_) (fun z9 => absurd z9 (by decide))
  refine og_aload_n dX6_feed_21 rfl rfl ?_
  refine og_getf dX6_feed_22 kfX6_47 (by assumption) (by assumption) ?_
  refine og_iload_n dX6_feed_25 rfl ?_
  refine og_iadd dX6_feed_26 ?_
  refine og_sipush (v := 600) dX6_feed_27 (by decide) ?_
  refine og_st [.int (nI 600), .int (nI (S.2.2.1.length + j))] (by rw [nI_add] <;> rfl) ?_
  refine og_icmp_le (tgt := 39) dX6_feed_30 (by decide) (fun c1 => ?_) (fun c1 => ?_)
  rotate_left
  · have c1 : 600 < S.2.2.1.length + j := by
      rcases Nat.lt_or_ge 600 (S.2.2.1.length + j) with h9 | h9
      · exact h9
      · exact absurd (nI_le h9 (by omega)) c1
    rw [if_pos c1] at hA
    refine og_aload_n dX6_feed_33 rfl rfl ?_
    refine og_iconst (v := 2) dX6_feed_34 (by decide) ?_
    refine og_callVe dX6_feed_35 kvX6_43 (cm_fail m1) rfl m1 rfl rfl ⟨by decide, by decide⟩ (by decide) (by decide) (Nat.le_of_ble_eq_true rfl) rfl ?_
    exact og_ireturn (ty := .int) rfl dX6_feed_38 rfl (by decide) (by decide) (h1.no (c := 2) w1 hA (by decide) _)
  have c1 := (nI_leI (by omega) (by omega)).mp c1
  rw [if_neg (by omega)] at hA
  rw [hA]
  refine og_iconst (v := 0) dX6_feed_39 (by decide) ?_
  refine og_istore dX6_feed_40 (by decide) ?_
  refine og_lv [(0, .ref m), (1, .long e8), (3, .int (nI j)), (4, .int (nI 0))] rfl ?_
  refine mfeed_loop (B0 := B) (tape := S.2.2.1) h1.1 hj8 m3 c1 h1.2.2.2.1.2 (fun B' f1 f2 => ?_) j 0 B (by omega) (fun _ _ => rfl) (by simpa using h1.2.2.2.1.2)
  refine og_aload_n dX6_feed_78 rfl rfl ?_
  refine og_dup dX6_feed_79 rfl ?_
  refine og_getf dX6_feed_80 kfX6_47 (by assumption) (by assumption) ?_
  refine og_iload_n dX6_feed_83 rfl ?_
  refine og_iadd dX6_feed_84 ?_
  refine og_st [.int (nI (S.2.2.1.length + j)), .ref m] (by rw [nI_add] <;> rfl) ?_
  refine og_put dX6_feed_85 kfX6_47 m1 rfl rfl ?_
  have z3 : ob_set V1 m 3 (.int (nI (S.2.2.1.length + j))) m 3 = .int (nI (S.2.2.1.length + j)) := ob_set_s _ _ _ _
  refine og_aload_n dX6_feed_88 rfl rfl ?_
  refine og_getf dX6_feed_89 kfX6_47 (by assumption) (by assumption) ?_
  obtain ⟨g1, ⟨g2, g3, g4, g4b, g4c⟩, g5, ⟨g6, g7⟩, ⟨g8, g9⟩, g10⟩ := h1
  have ne := g1.2.2
  have e : ∀ z, z ≠ 3 → ob_set V1 m 3 (.int (nI (S.2.2.1.length + j))) m z = V1 m z := fun z hz => ob_set_k _ _ _ _ _ hz
  refine og_ireturn (ty := .int) rfl dX6_feed_92 rfl (by decide) (by decide) ⟨_, B', _, rfl, ⟨g1.keep (fun z hz => e z (by omega)), ⟨by rw [e _ (by decide)]; exact g2, by rw [e _ (by decide)]; exact g3, g4.same (fun z _ => by rw [f1 mb ne.2.1.symm]), g4b.same (fun z _ => by rw [f1 mk ne.2.2.1.symm]), g4c.same (fun z _ => by rw [f1 mv ne.2.2.2.1.symm])⟩, by rw [e _ (by decide)]; exact g5, ⟨?_, f2⟩, ⟨by rw [e _ (by decide)]; exact g8, g9.same (fun z _ => by rw [f1 mr ne.1.symm])⟩, by rw [e _ (by decide)]; exact g10⟩, w1.tr ⟨fun y hy z => ob_set_a _ _ _ _ _ hy, fun y y1 _ _ _ _ => f1 y y1⟩, rfl, fun _ => rfl⟩
  rw [z3]
  simp
end OMH
