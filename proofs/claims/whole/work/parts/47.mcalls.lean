/-! THE REFERENCE'S CALLS, against the answers -/
def ob_WM (V : ob_V) (B : ob_B) (m mt mr mb mk mv : Nat) (V' : ob_V) (B' : ob_B) : Prop := (∀ y, y ≠ m → ∀ j, V' y j = V y j) ∧ (∀ y, y ≠ mt → y ≠ mr → y ≠ mb → y ≠ mk → y ≠ mv → B' y = B y)
theorem ob_WM.tr {V V' V2 : ob_V} {B B' B2 : ob_B} {m mt mr mb mk mv : Nat} (h : ob_WM V B m mt mr mb mk mv V' B') (g : ob_WM V' B' m mt mr mb mk mv V2 B2) : ob_WM V B m mt mr mb mk mv V2 B2 := ⟨fun y hy j => (g.1 y hy j).trans (h.1 y hy j), fun y a b c d e => (g.2 y a b c d e).trans (h.2 y a b c d e)⟩
theorem ob_WM.set {V : ob_V} {B : ob_B} {m mt mr mb mk mv : Nat} (k : Nat) (v : Value) : ob_WM V B m mt mr mb mk mv (ob_set V m k v) B := ⟨fun y hy j => ob_set_a _ _ _ _ _ hy, fun _ _ _ _ _ _ => rfl⟩
def ob_qm (T : ob_T) (V : ob_V) (B : ob_B) (J : ob_J) (m mt mr mb mk mv me mu : Nat) (A : sp_A) : ob_r → ob_w → Prop := fun r w' => ∃ V' B' v, w' = (T, V', B', J) ∧ ob_M T V' B' m mt mr mb mk mv me mu A.1 A.2.2 ∧ ob_WM V B m mt mr mb mk mv V' B' ∧ r = .inl (some (.int v)) ∧ (A.1 = 0 → v = A.2.1)
theorem sp_ok.oe {me mu : Nat} {S : sp_S} (h : sp_ok me mu S) : sp_oe S.1 := by
  obtain ⟨h1, h2, h3, h4, -⟩ := h
  have := sp_fl_len S.1
  exact ⟨by omega, by omega, h3, h4⟩
section OMF
variable {X : ob_X} {T : ob_T} {V V' : ob_V} {B B' : ob_B} {J : ob_J} {R : Room} {Q : ob_r → ob_w → Prop} {k n : Nat} {m mt mr mb mk mv me mu thr : Nat} {S : sp_S}
theorem ob_M.th (h : ob_M T V B m mt mr mb mk mv me mu thr S) (c : Nat) : ob_M T (ob_set V m 0 (.int (nI c))) B m mt mr mb mk mv me mu c S := by
  obtain ⟨h1, ⟨h2, h3, h4⟩, h5, ⟨h6, h7⟩, ⟨h8, h9⟩, h10⟩ := h
  have e : ∀ j, j ≠ 0 → ob_set V m 0 (.int (nI c)) m j = V m j := fun j hj => ob_set_k _ _ _ _ _ hj
  exact ⟨h1.keep (fun j hj => e j (by omega)), ⟨by rw [e _ (by decide)]; exact h2, by rw [e _ (by decide)]; exact h3, h4⟩, ob_set_s _ _ _ _, ⟨by rw [e _ (by decide)]; exact h6, h7⟩, ⟨by rw [e _ (by decide)]; exact h8, h9⟩, by rw [e _ (by decide)]; exact h10⟩
theorem ob_M.fed (h : ob_M T V B m mt mr mb mk mv me mu thr S) : ob_M T (ob_set V m 3 (.int 0)) B m mt mr mb mk mv me mu thr (sp_0 S) := by
  obtain ⟨h1, ⟨h2, h3, h4⟩, h5, ⟨h6, h7⟩, ⟨h8, h9⟩, h10⟩ := h
  have e : ∀ j, j ≠ 3 → ob_set V m 3 (.int 0) m j = V m j := fun j hj => ob_set_k _ _ _ _ _ hj
  exact ⟨h1.keep (fun j hj => e j (by omega)), ⟨by rw [e _ (by decide)]; exact h2, by rw [e _ (by decide)]; exact h3, h4⟩, by rw [e _ (by decide)]; exact h5, ⟨ob_set_s _ _ _ _, fun j hj => by simp [sp_0] at hj⟩, ⟨by rw [e _ (by decide)]; exact h8, h9⟩, by rw [e _ (by decide)]; exact h10⟩
theorem ob_M.tell {e : Nat} {v : Bool} (h : ob_M T V B m mt mr mb mk mv me mu thr S) (he : e < S.1.length) (hB : ∀ y, y ≠ mr → B' y = B y) (hr : ob_is B' mr 0 (if v then S.1[e].2 else S.1[e].1)) : ob_M T (ob_set (ob_set V m 5 (.int (nI (if v then S.1[e].2 else S.1[e].1).length))) m 12 (.int (nI e))) B' m mt mr mb mk mv me mu thr (sp_tell S e v) ∧ (sp_tell S e v).2.2.2 = (if v then S.1[e].2 else S.1[e].1) := by
  obtain ⟨h1, ⟨h2, h3, h4, h4b, h4c⟩, h5, ⟨h6, h7⟩, ⟨h8, h9⟩, h10⟩ := h
  obtain ⟨-, -, ne⟩ := id h1
  have er : (sp_tell S e v).2.2.2 = (if v then S.1[e].2 else S.1[e].1) := by
    simp only [sp_tell, List.getD_eq_getElem?_getD, List.getElem?_eq_getElem he, Option.getD_some]
  have g : ∀ j, j ≠ 5 → j ≠ 12 → ob_set (ob_set V m 5 (.int (nI (if v then S.1[e].2 else S.1[e].1).length))) m 12 (.int (nI e)) m j = V m j := fun j h1 h2 => by rw [ob_set_k _ _ _ _ _ h2, ob_set_k _ _ _ _ _ h1]
  refine ⟨⟨h1.keep (fun j hj => g j (by omega) (by omega)), ⟨by rw [g _ (by decide) (by decide)]; exact h2, by rw [g _ (by decide) (by decide)]; exact h3, h4.same (fun j _ => by rw [hB mb ne.2.2.2.2.1.symm]), h4b.same (fun j _ => by rw [hB mk ne.2.2.2.2.2.1.symm]), h4c.same (fun j _ => by rw [hB mv ne.2.2.2.2.2.2.1.symm])⟩, by rw [g _ (by decide) (by decide)]; exact h5, ⟨by rw [g _ (by decide) (by decide)]; exact h6, h7.same (fun j _ => by rw [hB mt ne.1])⟩, ⟨?_, ?_⟩, ob_set_s _ _ _ _⟩, er⟩
  · rw [ob_set_k _ _ _ _ _ (by decide), ob_set_s, er]
  · rw [er]; exact hr
theorem ob_M.ents {E' : ob_E} {cur' : Option Nat} (h : ob_M T V B m mt mr mb mk mv me mu thr S) (h1 : ob_Me V' B' m mb mk mv E') (h2 : V' m 12 = .int (sp_cI cur')) (h3 : ∀ y j, ¬ (y = m ∧ (j = 7 ∨ j = 8 ∨ j = 12)) → V' y j = V y j) (h4 : ∀ y, y ≠ mb → y ≠ mk → y ≠ mv → B' y = B y) : ob_M T V' B' m mt mr mb mk mv me mu thr (E', cur', S.2.2) ∧ ob_WM V B m mt mr mb mk mv V' B' := by
  obtain ⟨g1, -, g5, ⟨g6, g7⟩, ⟨g8, g9⟩, -⟩ := h
  obtain ⟨-, -, ne⟩ := id g1
  have e : ∀ j, j ≠ 7 → j ≠ 8 → j ≠ 12 → V' m j = V m j := fun j a b c => h3 m j (fun h9 => by omega)
  refine ⟨⟨g1.keep (fun j hj => e j (by omega) (by omega) (by omega)), h1, by rw [e _ (by decide) (by decide) (by decide)]; exact g5, ⟨by rw [e _ (by decide) (by decide) (by decide)]; exact g6, g7.same (fun j _ => by rw [h4 mt ne.2.1 ne.2.2.1 ne.2.2.2.1])⟩, ⟨by rw [e _ (by decide) (by decide) (by decide)]; exact g8, g9.same (fun j _ => by rw [h4 mr ne.2.2.2.2.1 ne.2.2.2.2.2.1 ne.2.2.2.2.2.2.1])⟩, h2⟩, fun y hy j => h3 y j (fun h9 => hy h9.1), fun y a b c d e => h4 y c d e⟩
/-- a refused call -/
theorem ob_M.no {A : sp_A} {c : Nat} (h : ob_M T V' B' m mt mr mb mk mv me mu thr S) (hw : ob_WM V B m mt mr mb mk mv V' B') (hA : A = (c, 0, S)) (hc : c ≠ 0) (v : Int32) : ob_qm T V B J m mt mr mb mk mv me mu A (.inl (some (.int v))) (T, ob_set V' m 0 (.int (nI c)), B', J) := by
  subst hA
  exact ⟨_, _, v, rfl, h.th c, hw.tr (ob_WM.set _ _), rfl, fun h9 => absurd h9 hc⟩
theorem cm_get (h : ob_M T V B m mt mr mb mk mv me mu thr S) (ho : sp_ok me mu S) : ob_C X mX6_get 4 0 0 [.ref m] (T, V, B, J) (ob_qm T V B J m mt mr mb mk mv me mu (sp_get S)) := by
  refine ob_C_of (by decide) rfl (Nat.le_of_ble_eq_true rfl) ?_
  have m1 := h.1.1.1
  obtain ⟨o6, o7⟩ := ho.2.2.2.2.2.1
  refine og_lv [(0, .ref m)] rfl ?_
  refine og_aload_n dX6_get_0 rfl rfl ?_
  refine og_iconst (v := 0) dX6_get_1 (by decide) ?_
  refine og_put dX6_get_2 kfX6_36 (by assumption) rfl rfl ?_
  refine og_aload_n dX6_get_5 rfl rfl ?_
  have h1 := h.th 0
  have h3 := h1.2.2.2.1.1
  refine og_callVe dX6_get_6 kvX6_76 (cm_taken m1 h3) rfl m1 rfl rfl ⟨by decide, by decide⟩ (by decide) (by decide) (Nat.le_of_ble_eq_true rfl) rfl ?_
  have h2 := h1.fed
  have w2 : ob_WM V B m mt mr mb mk mv (ob_set (ob_set V m 0 (.int (nI 0))) m 3 (.int 0)) B := (ob_WM.set _ _).tr (ob_WM.set _ _)
  generalize hV2 : ob_set (ob_set V m 0 (.int (nI 0))) m 3 (.int 0) = V2 at *
  refine og_w (T, V2, B, J) (by rw [← hV2]; rfl) ?_
  refine og_istore_n dX6_get_9 (by decide) ?_
  refine og_iload_n dX6_get_10 rfl ?_
  refine og_iconst (v := 1) dX6_get_11 (by decide) ?_
  refine og_bipush (v := 64) dX6_get_12 (by decide) ?_
  refine og_callSe dX6_get_14 ksX6_39 cm_within rfl rfl ⟨by decide, by decide⟩ (by decide) (by decide) (Nat.le_of_ble_eq_true rfl) rfl ?_
  by_cases hk : 1 ≤ nI S.2.2.1.length ∧ nI S.2.2.1.length ≤ 64
  · rw [decide_eq_true hk]
    have hkl := (sp_kl_iff o6).mp hk
    have hA : sp_get S = (match sp_fd S.1 S.2.2.1 with | none => (2, 0, sp_0 S) | some i => (0, nI (sp_tell (sp_0 S) i true).2.2.2.length, sp_tell (sp_0 S) i true)) := if_pos hkl
    refine og_if_ne (tgt := 26) dX6_get_17 (by decide) (fun _ => ?_) (fun z9 => absurd z9 (by decide))
    refine og_aload_n dX6_get_26 rfl rfl ?_
    refine og_iload_n dX6_get_27 rfl ?_
    refine og_callVe dX6_get_28 kvX6_80 (cm_find (full := S.2.2.1) h2.1 h2.2.1 ho.oe h1.2.2.2.1.2 (Nat.le_refl _) o6 o7) rfl m1 rfl rfl ⟨by decide, by decide⟩ (by decide) (by decide) (Nat.le_of_ble_eq_true rfl) rfl ?_
    rw [List.take_length]
    show ob_G X mX6_get _ _ _ _ [.int (sp_cI (sp_fd S.1 S.2.2.1))] _ _ _
    cases hf : sp_fd S.1 S.2.2.1 with
    | none =>
      rw [hf] at hA
      refine og_istore_n dX6_get_31 (by decide) ?_
      refine og_iload_n dX6_get_32 rfl ?_
      refine og_if_ge (tgt := 44) dX6_get_33 (by decide) (fun z9 => absurd z9 (by decide)) (fun _ => ?_)
      refine og_aload_n dX6_get_36 rfl rfl ?_
      refine og_iconst (v := 2) dX6_get_37 (by decide) ?_
      refine og_callVe dX6_get_38 kvX6_43 (cm_fail m1) rfl m1 rfl rfl ⟨by decide, by decide⟩ (by decide) (by decide) (Nat.le_of_ble_eq_true rfl) rfl ?_
      refine og_goto (tgt := 50) dX6_get_41 (by decide) ?_
      exact og_ireturn (ty := .int) rfl dX6_get_50 rfl (by decide) (by decide) (h2.no (c := 2) w2 hA (by decide) _)
    | some i =>
      rw [hf] at hA
      obtain ⟨hil, -, -⟩ := sp_fd_some hf
      have hl := ho.1
      refine og_st [.int (nI i)] rfl ?_
      refine og_istore_n dX6_get_31 (by decide) ?_
      refine og_iload_n dX6_get_32 rfl ?_
      refine og_if_ge (tgt := 44) dX6_get_33 (by decide) (fun _ => ?_) (fun z9 => absurd (nI_pos' (by omega)) z9)
      refine og_aload_n dX6_get_44 rfl rfl ?_
      refine og_iload_n dX6_get_45 rfl ?_
      refine og_iconst (v := 1) dX6_get_46 (by decide) ?_
      refine og_callVn dX6_get_47 kvX6_97 (cm_told (v := true) h2.1 h2.2.1 ho.oe hil) rfl m1 rfl rfl ⟨by decide, by decide⟩ (by decide) (by decide) (Nat.le_of_ble_eq_true rfl) rfl (fun E w' h9 => by obtain ⟨_, h9, _⟩ := h9; cases h9) (fun v w' h9 => ?_)
      obtain ⟨B1, hv, rfl, b1, b2⟩ := h9
      cases hv
      obtain ⟨h4, e4⟩ := h2.tell (v := true) hil b1 b2
      rw [hA]
      refine og_ireturn (ty := .int) rfl dX6_get_50 rfl (by decide) (by decide) ⟨_, _, _, rfl, h4, w2.tr ((ob_WM.set _ _).tr ⟨fun y hy j => ob_set_a _ _ _ _ _ hy, fun y _ y2 _ _ _ => b1 y y2⟩), rfl, fun _ => ?_⟩
      show _ = nI (sp_tell (sp_0 S) i true).2.2.2.length
      rw [e4]
  · rw [decide_eq_false hk]
    have hA : sp_get S = (1, 0, sp_0 S) := if_neg (fun h9 => hk ((sp_kl_iff o6).mpr h9))
    refine og_if_ne (tgt := 26) dX6_get_17 (by decide) (fun z9 => absurd (rfl) z9) (fun _ => ?_)
    refine og_aload_n dX6_get_20 rfl rfl ?_
    refine og_iconst (v := 1) dX6_get_21 (by decide) ?_
    refine og_callVe dX6_get_22 kvX6_43 (cm_fail m1) rfl m1 rfl rfl ⟨by decide, by decide⟩ (by decide) (by decide) (Nat.le_of_ble_eq_true rfl) rfl ?_
    exact og_ireturn (ty := .int) rfl dX6_get_25 rfl (by decide) (by decide) (h2.no (c := 1) w2 hA (by decide) _)
theorem cm_remove (h : ob_M T V B m mt mr mb mk mv me mu thr S) (ho : sp_ok me mu S) : ob_C X mX6_remove 4 0 0 [.ref m] (T, V, B, J) (ob_qm T V B J m mt mr mb mk mv me mu (sp_rem S)) := by
  refine ob_C_of (by decide) rfl (Nat.le_of_ble_eq_true rfl) ?_
  have m1 := h.1.1.1
  obtain ⟨o6, o7⟩ := ho.2.2.2.2.2.1
  refine og_lv [(0, .ref m)] rfl ?_
  refine og_aload_n dX6_remove_0 rfl rfl ?_
  refine og_iconst (v := 0) dX6_remove_1 (by decide) ?_
  refine og_put dX6_remove_2 kfX6_36 (by assumption) rfl rfl ?_
  refine og_aload_n dX6_remove_5 rfl rfl ?_
  have h1 := h.th 0
  have h3 := h1.2.2.2.1.1
  refine og_callVe dX6_remove_6 kvX6_76 (cm_taken m1 h3) rfl m1 rfl rfl ⟨by decide, by decide⟩ (by decide) (by decide) (Nat.le_of_ble_eq_true rfl) rfl ?_
  have h2 := h1.fed
  have w2 : ob_WM V B m mt mr mb mk mv (ob_set (ob_set V m 0 (.int (nI 0))) m 3 (.int 0)) B := (ob_WM.set _ _).tr (ob_WM.set _ _)
  generalize hV2 : ob_set (ob_set V m 0 (.int (nI 0))) m 3 (.int 0) = V2 at *
  refine og_w (T, V2, B, J) (by rw [← hV2]; rfl) ?_
  refine og_istore_n dX6_remove_9 (by decide) ?_
  refine og_iload_n dX6_remove_10 rfl ?_
  refine og_iconst (v := 1) dX6_remove_11 (by decide) ?_
  refine og_bipush (v := 64) dX6_remove_12 (by decide) ?_
  refine og_callSe dX6_remove_14 ksX6_39 cm_within rfl rfl ⟨by decide, by decide⟩ (by decide) (by decide) (Nat.le_of_ble_eq_true rfl) rfl ?_
  by_cases hk : 1 ≤ nI S.2.2.1.length ∧ nI S.2.2.1.length ≤ 64
  · rw [decide_eq_true hk]
    have hkl := (sp_kl_iff o6).mp hk
    have hA : sp_rem S = (match sp_fd S.1 S.2.2.1 with | none => (0, 0, sp_0 S) | some i => (0, 1, (S.1.eraseIdx i, sp_cd S.2.1 i, [], S.2.2.2))) := if_pos hkl
    refine og_if_ne (tgt := 34) dX6_remove_17 (by decide) (fun _ => ?_) (fun z9 => absurd z9 (by decide))
    refine og_aload_n dX6_remove_34 rfl rfl ?_
    refine og_iload_n dX6_remove_35 rfl ?_
    refine og_callVe dX6_remove_36 kvX6_80 (cm_find (full := S.2.2.1) h2.1 h2.2.1 ho.oe h1.2.2.2.1.2 (Nat.le_refl _) o6 o7) rfl m1 rfl rfl ⟨by decide, by decide⟩ (by decide) (by decide) (Nat.le_of_ble_eq_true rfl) rfl ?_
    rw [List.take_length]
    show ob_G X mX6_remove _ _ _ _ [.int (sp_cI (sp_fd S.1 S.2.2.1))] _ _ _
    cases hf : sp_fd S.1 S.2.2.1 with
    | none =>
      rw [hf] at hA
      rw [hA]
      refine og_istore_n dX6_remove_39 (by decide) ?_
      refine og_iload_n dX6_remove_40 rfl ?_
      refine og_if_lt (tgt := 49) dX6_remove_41 (by decide) (fun _ => ?_) (fun z9 => absurd (by decide) z9)
      refine og_iload_n dX6_remove_49 rfl ?_
      refine og_if_lt (tgt := 57) dX6_remove_50 (by decide) (fun _ => ?_) (fun z9 => absurd (by decide) z9)
      refine og_iconst (v := 0) dX6_remove_57 (by decide) ?_
      exact og_ireturn (ty := .boolean) rfl dX6_remove_58 rfl (by decide) (by decide) ⟨_, _, _, rfl, h2, w2, rfl, fun _ => rfl⟩
    | some i =>
      rw [hf] at hA
      rw [hA]
      obtain ⟨hil, -, -⟩ := sp_fd_some hf
      have hl := ho.1
      refine og_st [.int (nI i)] rfl ?_
      refine og_istore_n dX6_remove_39 (by decide) ?_
      refine og_iload_n dX6_remove_40 rfl ?_
      refine og_if_lt (tgt := 49) dX6_remove_41 (by decide) (fun z9 => absurd z9 (nI_pos (by omega))) (fun _ => ?_)
      refine og_aload_n dX6_remove_44 rfl rfl ?_
      refine og_iload_n dX6_remove_45 rfl ?_
      refine og_callVn dX6_remove_46 kvX6_86 (cm_take (cur := S.2.1) h2.1 h2.2.1 ho.oe hil h2.2.2.2.2.2 ho.2.2.2.2.1) rfl m1 rfl rfl ⟨by decide, by decide⟩ (by decide) (by decide) (Nat.le_of_ble_eq_true rfl) rfl (fun E w' h9 => by obtain ⟨_, _, h9, _⟩ := h9; cases h9) (fun v w' h9 => ?_)
      obtain ⟨V3, B3, hv, rfl, t1, t2, t3, t4⟩ := h9
      cases hv
      obtain ⟨h4, w4⟩ := h2.ents t1 t2 t3 t4
      refine og_iload_n dX6_remove_49 rfl ?_
      refine og_if_lt (tgt := 57) dX6_remove_50 (by decide) (fun z9 => absurd z9 (nI_pos (by omega))) (fun _ => ?_)
      refine og_iconst (v := 1) dX6_remove_53 (by decide) ?_
      refine og_goto (tgt := 58) dX6_remove_54 (by decide) ?_
      exact og_ireturn (ty := .boolean) rfl dX6_remove_58 rfl (by decide) (by decide) ⟨_, _, _, rfl, h4, w2.tr w4, rfl, fun _ => rfl⟩
  · rw [decide_eq_false hk]
    have hA : sp_rem S = (1, 0, sp_0 S) := if_neg (fun h9 => hk ((sp_kl_iff o6).mpr h9))
    refine og_if_ne (tgt := 34) dX6_remove_17 (by decide) (fun z9 => absurd (rfl) z9) (fun _ => ?_)
    refine og_aload_n dX6_remove_20 rfl rfl ?_
    refine og_iconst (v := 1) dX6_remove_21 (by decide) ?_
    refine og_callVe dX6_remove_22 kvX6_43 (cm_fail m1) rfl m1 rfl rfl ⟨by decide, by decide⟩ (by decide) (by decide) (Nat.le_of_ble_eq_true rfl) rfl ?_
    refine og_if_le (tgt := 32) dX6_remove_25 (by decide) (fun _ => ?_) (fun z9 => absurd (by decide) z9)
    refine og_iconst (v := 0) dX6_remove_32 (by decide) ?_
    exact og_ireturn (ty := .boolean) rfl dX6_remove_33 rfl (by decide) (by decide) (h2.no (c := 1) w2 hA (by decide) _)
/-- within 0 and the last place -/
theorem sp_in {c : Int32} {l : Nat} (hl : l ≤ 1024) : (0 ≤ c ∧ c ≤ nI l - 1) ↔ (0 ≤ c ∧ c.toNatClampNeg < l) := by
  constructor
  · rintro ⟨h1, h2⟩
    refine ⟨h1, ?_⟩
    obtain ⟨j, hj, rfl⟩ := nI_of (x := c) (Int32.not_lt.mpr h1)
    rw [nI_clamp hj]
    rcases Nat.eq_zero_or_pos l with rfl | hl0
    · have := Int32.le_trans h1 h2
      exact absurd this (by decide)
    · rw [show (1 : Int32) = nI 1 from rfl, nI_sub (by omega)] at h2
      have := (nI_leI hj (by omega)).mp h2
      omega
  · rintro ⟨h1, h2⟩
    refine ⟨h1, ?_⟩
    obtain ⟨j, hj, rfl⟩ := nI_of (x := c) (Int32.not_lt.mpr h1)
    rw [nI_clamp hj] at h2
    rw [show (1 : Int32) = nI 1 from rfl, nI_sub (by omega)]
    exact nI_le (by omega) (by omega)
theorem cm_at {i : Int32} (h : ob_M T V B m mt mr mb mk mv me mu thr S) (ho : sp_ok me mu S) : ob_C X mX6_at 4 0 0 [.ref m, .int i] (T, V, B, J) (ob_qm T V B J m mt mr mb mk mv me mu (sp_at S i)) := by
  refine ob_C_of (by decide) rfl (Nat.le_of_ble_eq_true rfl) ?_
  have m1 := h.1.1.1
  have hl := ho.1
  refine og_lv [(0, .ref m), (1, .int i)] rfl ?_
  refine og_aload_n dX6_at_0 rfl rfl ?_
  refine og_iconst (v := 0) dX6_at_1 (by decide) ?_
  refine og_put dX6_at_2 kfX6_36 (by assumption) rfl rfl ?_
  have h1 := h.th 0
  have w1 : ob_WM V B m mt mr mb mk mv (ob_set V m 0 (.int (nI 0))) B := ob_WM.set _ _
  generalize hV1 : ob_set V m 0 (.int (nI 0)) = V1 at *
  refine og_w (T, V1, B, J) (by rw [← hV1]; rfl) ?_
  have m7 := h1.2.1.1
  refine og_iload_n dX6_at_5 rfl ?_
  refine og_iconst (v := 0) dX6_at_6 (by decide) ?_
  refine og_aload_n dX6_at_7 rfl rfl ?_
  refine og_getf dX6_at_8 kfX6_52 (by assumption) (by assumption) ?_
  refine og_iconst (v := 1) dX6_at_11 (by decide) ?_
  refine og_isub dX6_at_12 ?_
  refine og_callSe dX6_at_13 ksX6_39 cm_within rfl rfl ⟨by decide, by decide⟩ (by decide) (by decide) (Nat.le_of_ble_eq_true rfl) rfl ?_
  by_cases hk : 0 ≤ i ∧ i ≤ nI S.1.length - 1
  · rw [decide_eq_true hk]
    have hk2 := (sp_in (by omega)).mp hk
    obtain ⟨j, hj, rfl⟩ := nI_of (x := i) (Int32.not_lt.mpr hk.1)
    rw [nI_clamp hj] at hk2
    have hA : sp_at S (nI j) = (0, nI (sp_tell S j false).2.2.2.length, sp_tell S j false) := by
      rw [sp_at, if_pos hk.1, nI_clamp hj]; exact if_pos hk2.2
    refine og_if_eq (tgt := 28) dX6_at_16 (by decide) (fun z9 => absurd z9 (by decide)) (fun _ => ?_)
    refine og_aload_n dX6_at_19 rfl rfl ?_
    refine og_iload_n dX6_at_20 rfl ?_
    refine og_iconst (v := 0) dX6_at_21 (by decide) ?_
    refine og_callVn dX6_at_22 kvX6_97 (cm_told (v := false) h1.1 h1.2.1 ho.oe hk2.2) rfl m1 rfl rfl ⟨by decide, by decide⟩ (by decide) (by decide) (Nat.le_of_ble_eq_true rfl) rfl (fun E w' h9 => by obtain ⟨_, h9, _⟩ := h9; cases h9) (fun v w' h9 => ?_)
    obtain ⟨B1, hv, rfl, b1, b2⟩ := h9
    cases hv
    obtain ⟨h4, e4⟩ := h1.tell (v := false) hk2.2 b1 b2
    rw [hA]
    refine og_goto (tgt := 33) dX6_at_25 (by decide) ?_
    refine og_ireturn (ty := .int) rfl dX6_at_33 rfl (by decide) (by decide) ⟨_, _, _, rfl, h4, w1.tr ((ob_WM.set _ _).tr ⟨fun y hy j => ob_set_a _ _ _ _ _ hy, fun y _ y2 _ _ _ => b1 y y2⟩), rfl, fun _ => ?_⟩
    show _ = nI (sp_tell S j false).2.2.2.length
    rw [e4]
  · rw [decide_eq_false hk]
    have hA : sp_at S i = (1, 0, S) := by
      rw [sp_at]
      by_cases h0 : 0 ≤ i
      · rw [if_pos h0]; exact if_neg (fun h9 => hk ((sp_in (by omega)).mpr ⟨h0, h9⟩))
      · rw [if_neg h0]; rfl
    refine og_if_eq (tgt := 28) dX6_at_16 (by decide) (fun _ => ?_) (fun z9 => absurd (rfl) z9)
    refine og_aload_n dX6_at_28 rfl rfl ?_
    refine og_iconst (v := 1) dX6_at_29 (by decide) ?_
    refine og_callVe dX6_at_30 kvX6_43 (cm_fail m1) rfl m1 rfl rfl ⟨by decide, by decide⟩ (by decide) (by decide) (Nat.le_of_ble_eq_true rfl) rfl ?_
    exact og_ireturn (ty := .int) rfl dX6_at_33 rfl (by decide) (by decide) (h1.no (c := 1) w1 hA (by decide) _)
theorem cm_value (h : ob_M T V B m mt mr mb mk mv me mu thr S) (ho : sp_ok me mu S) : ob_C X mX6_value 4 0 0 [.ref m] (T, V, B, J) (ob_qm T V B J m mt mr mb mk mv me mu (sp_val S)) := by
  refine ob_C_of (by decide) rfl (Nat.le_of_ble_eq_true rfl) ?_
  have m1 := h.1.1.1
  have hl := ho.1
  refine og_lv [(0, .ref m)] rfl ?_
  refine og_aload_n dX6_value_0 rfl rfl ?_
  refine og_iconst (v := 0) dX6_value_1 (by decide) ?_
  refine og_put dX6_value_2 kfX6_36 (by assumption) rfl rfl ?_
  have h1 := h.th 0
  have w1 : ob_WM V B m mt mr mb mk mv (ob_set V m 0 (.int (nI 0))) B := ob_WM.set _ _
  generalize hV1 : ob_set V m 0 (.int (nI 0)) = V1 at *
  refine og_w (T, V1, B, J) (by rw [← hV1]; rfl) ?_
  have m12 := h1.2.2.2.2.2
  cases hc : S.2.1 with
  | none =>
    rw [hc] at m12
    have m12 : V1 m 12 = .int (-1) := m12
    have hA : sp_val S = (1, 0, S) := by simp only [sp_val, hc]
    refine og_aload_n dX6_value_5 rfl rfl ?_
    refine og_getf dX6_value_6 kfX6_26 (by assumption) (by assumption) ?_
    refine og_if_ge (tgt := 20) dX6_value_9 (by decide) (fun z9 => absurd z9 (by decide)) (fun _ => ?_)
    refine og_aload_n dX6_value_12 rfl rfl ?_
    refine og_iconst (v := 1) dX6_value_13 (by decide) ?_
    refine og_callVe dX6_value_14 kvX6_43 (cm_fail m1) rfl m1 rfl rfl ⟨by decide, by decide⟩ (by decide) (by decide) (Nat.le_of_ble_eq_true rfl) rfl ?_
    refine og_goto (tgt := 29) dX6_value_17 (by decide) ?_
    exact og_ireturn (ty := .int) rfl dX6_value_29 rfl (by decide) (by decide) (h1.no (c := 1) w1 hA (by decide) _)
  | some c =>
    rw [hc] at m12
    have m12 : V1 m 12 = .int (nI c) := m12
    have hcl := ho.2.2.2.2.1 c hc
    have hA : sp_val S = (0, nI (sp_tell S c true).2.2.2.length, sp_tell S c true) := by simp only [sp_val, hc]
    refine og_aload_n dX6_value_5 rfl rfl ?_
    refine og_getf dX6_value_6 kfX6_26 (by assumption) (by assumption) ?_
    refine og_if_ge (tgt := 20) dX6_value_9 (by decide) (fun _ => ?_) (fun z9 => absurd (nI_pos' (by omega)) z9)
    refine og_aload_n dX6_value_20 rfl rfl ?_
    refine og_aload_n dX6_value_21 rfl rfl ?_
    refine og_getf dX6_value_22 kfX6_26 (by assumption) (by assumption) ?_
    refine og_iconst (v := 1) dX6_value_25 (by decide) ?_
    refine og_callVn dX6_value_26 kvX6_97 (cm_told (v := true) h1.1 h1.2.1 ho.oe hcl) rfl m1 rfl rfl ⟨by decide, by decide⟩ (by decide) (by decide) (Nat.le_of_ble_eq_true rfl) rfl (fun E w' h9 => by obtain ⟨_, h9, _⟩ := h9; cases h9) (fun v w' h9 => ?_)
    obtain ⟨B1, hv, rfl, b1, b2⟩ := h9
    cases hv
    obtain ⟨h4, e4⟩ := h1.tell (v := true) hcl b1 b2
    rw [hA]
    refine og_ireturn (ty := .int) rfl dX6_value_29 rfl (by decide) (by decide) ⟨_, _, _, rfl, h4, w1.tr ((ob_WM.set _ _).tr ⟨fun y hy j => ob_set_a _ _ _ _ _ hy, fun y _ y2 _ _ _ => b1 y y2⟩), rfl, fun _ => ?_⟩
    show _ = nI (sp_tell S c true).2.2.2.length
    rw [e4]
theorem cm_place (h : ob_M T V B m mt mr mb mk mv me mu thr S) (ho : sp_ok me mu S) : ob_C X mX6_place 4 0 0 [.ref m] (T, V, B, J) (ob_qm T V B J m mt mr mb mk mv me mu (sp_plc S)) := by
  refine ob_C_of (by decide) rfl (Nat.le_of_ble_eq_true rfl) ?_
  have m1 := h.1.1.1
  have hl := ho.1
  refine og_lv [(0, .ref m)] rfl ?_
  refine og_aload_n dX6_place_0 rfl rfl ?_
  refine og_iconst (v := 0) dX6_place_1 (by decide) ?_
  refine og_put dX6_place_2 kfX6_36 (by assumption) rfl rfl ?_
  have h1 := h.th 0
  have w1 : ob_WM V B m mt mr mb mk mv (ob_set V m 0 (.int (nI 0))) B := ob_WM.set _ _
  generalize hV1 : ob_set V m 0 (.int (nI 0)) = V1 at *
  refine og_w (T, V1, B, J) (by rw [← hV1]; rfl) ?_
  have m12 := h1.2.2.2.2.2
  cases hc : S.2.1 with
  | none =>
    rw [hc] at m12
    have m12 : V1 m 12 = .int (-1) := m12
    have hA : sp_plc S = (1, 0, S) := by simp only [sp_plc, hc]
    refine og_aload_n dX6_place_5 rfl rfl ?_
    refine og_getf dX6_place_6 kfX6_26 (by assumption) (by assumption) ?_
    refine og_if_ge (tgt := 20) dX6_place_9 (by decide) (fun z9 => absurd z9 (by decide)) (fun _ => ?_)
    refine og_aload_n dX6_place_12 rfl rfl ?_
    refine og_iconst (v := 1) dX6_place_13 (by decide) ?_
    refine og_callVe dX6_place_14 kvX6_43 (cm_fail m1) rfl m1 rfl rfl ⟨by decide, by decide⟩ (by decide) (by decide) (Nat.le_of_ble_eq_true rfl) rfl ?_
    refine og_goto (tgt := 24) dX6_place_17 (by decide) ?_
    exact og_ireturn (ty := .int) rfl dX6_place_24 rfl (by decide) (by decide) (h1.no (c := 1) w1 hA (by decide) _)
  | some c =>
    rw [hc] at m12
    have m12 : V1 m 12 = .int (nI c) := m12
    have hcl := ho.2.2.2.2.1 c hc
    have hA : sp_plc S = (0, nI c, S) := by simp only [sp_plc, hc]
    rw [hA]
    refine og_aload_n dX6_place_5 rfl rfl ?_
    refine og_getf dX6_place_6 kfX6_26 (by assumption) (by assumption) ?_
    refine og_if_ge (tgt := 20) dX6_place_9 (by decide) (fun _ => ?_) (fun z9 => absurd (nI_pos' (by omega)) z9)
    refine og_aload_n dX6_place_20 rfl rfl ?_
    refine og_getf dX6_place_21 kfX6_26 (by assumption) (by assumption) ?_
    exact og_ireturn (ty := .int) rfl dX6_place_24 rfl (by decide) (by decide) ⟨_, _, _, rfl, h1, w1, rfl, fun _ => rfl⟩
theorem cm_step {back : Bool} (h : ob_M T V B m mt mr mb mk mv me mu thr S) (ho : sp_ok me mu S) : ob_C X mX6_step 4 0 0 [.ref m, ob_cv back] (T, V, B, J) (ob_qm T V B J m mt mr mb mk mv me mu (sp_step S back)) := by
  refine ob_C_of (by decide) rfl (Nat.le_of_ble_eq_true rfl) ?_
  have m1 := h.1.1.1
  have hl := ho.1
  refine og_lv [(0, .ref m), (1, ob_cv back)] rfl ?_
  refine og_aload_n dX6_step_0 rfl rfl ?_
  refine og_iconst (v := 0) dX6_step_1 (by decide) ?_
  refine og_put dX6_step_2 kfX6_36 (by assumption) rfl rfl ?_
  have h1 := h.th 0
  have w1 : ob_WM V B m mt mr mb mk mv (ob_set V m 0 (.int (nI 0))) B := ob_WM.set _ _
  generalize hV1 : ob_set V m 0 (.int (nI 0)) = V1 at *
  refine og_w (T, V1, B, J) (by rw [← hV1]; rfl) ?_
  have m12 := h1.2.2.2.2.2
  have m7 := h1.2.1.1
  cases hc : S.2.1 with
  | none =>
    rw [hc] at m12
    have m12 : V1 m 12 = .int (-1) := m12
    have hA : sp_step S back = (1, 0, S) := by simp only [sp_step, hc]
    refine og_aload_n dX6_step_5 rfl rfl ?_
    refine og_getf dX6_step_6 kfX6_26 (by assumption) (by assumption) ?_
    refine og_if_ge (tgt := 26) dX6_step_9 (by decide) (fun z9 => absurd z9 (by decide)) (fun _ => ?_)
    refine og_aload_n dX6_step_12 rfl rfl ?_
    refine og_iconst (v := 1) dX6_step_13 (by decide) ?_
    refine og_callVe dX6_step_14 kvX6_43 (cm_fail m1) rfl m1 rfl rfl ⟨by decide, by decide⟩ (by decide) (by decide) (Nat.le_of_ble_eq_true rfl) rfl ?_
    refine og_if_le (tgt := 24) dX6_step_17 (by decide) (fun _ => ?_) (fun z9 => absurd (by decide) z9)
    refine og_iconst (v := 0) dX6_step_24 (by decide) ?_
    exact og_ireturn (ty := .boolean) rfl dX6_step_25 rfl (by decide) (by decide) (h1.no (c := 1) w1 hA (by decide) _)
  | some c =>
    rw [hc] at m12
    have m12 : V1 m 12 = .int (nI c) := m12
    have hcl := ho.2.2.2.2.1 c hc
    have tail : ∀ (z : Int32), sp_step S back = (if 0 ≤ z ∧ z.toNatClampNeg < S.1.length then (0, 1, sp_tell S z.toNatClampNeg false) else (0, 0, S)) → ob_G X mX6_step (ob_rm 4 0 0) (ob_qm T V B J m mt mr mb mk mv me mu (sp_step S back)) 45 [(0, .ref m)] [.int z] (T, V1, B, J) 0 0 := by
      intro z e
      refine og_istore_n dX6_step_45 (by decide) ?_
      refine og_iload_n dX6_step_46 rfl ?_
      refine og_iconst (v := 0) dX6_step_47 (by decide) ?_
      refine og_aload_n dX6_step_48 rfl rfl ?_
      refine og_getf dX6_step_49 kfX6_52 (by assumption) (by assumption) ?_
      refine og_iconst (v := 1) dX6_step_52 (by decide) ?_
      refine og_isub dX6_step_53 ?_
      refine og_callSe dX6_step_54 ksX6_39 cm_within rfl rfl ⟨by decide, by decide⟩ (by decide) (by decide) (Nat.le_of_ble_eq_true rfl) rfl ?_
      by_cases hk : 0 ≤ z ∧ z ≤ nI S.1.length - 1
      · rw [decide_eq_true hk]
        have hk2 := (sp_in (by omega)).mp hk
        rw [if_pos hk2] at e
        obtain ⟨j, hj, rfl⟩ := nI_of (x := z) (Int32.not_lt.mpr hk.1)
        rw [nI_clamp hj] at hk2 e
        rw [e]
        refine og_if_ne (tgt := 62) dX6_step_57 (by decide) (fun _ => ?_) (fun z9 => absurd z9 (by decide))
        refine og_aload_n dX6_step_62 rfl rfl ?_
        refine og_iload_n dX6_step_63 rfl ?_
        refine og_iconst (v := 0) dX6_step_64 (by decide) ?_
        refine og_callVn dX6_step_65 kvX6_97 (cm_told (v := false) h1.1 h1.2.1 ho.oe hk2.2) rfl m1 rfl rfl ⟨by decide, by decide⟩ (by decide) (by decide) (Nat.le_of_ble_eq_true rfl) rfl (fun E w' h9 => by obtain ⟨_, h9, _⟩ := h9; cases h9) (fun v w' h9 => ?_)
        obtain ⟨B1, hv, rfl, b1, b2⟩ := h9
        cases hv
        obtain ⟨h4, e4⟩ := h1.tell (v := false) hk2.2 b1 b2
        refine og_pop dX6_step_68 rfl ?_
        refine og_iconst (v := 1) dX6_step_69 (by decide) ?_
        exact og_ireturn (ty := .boolean) rfl dX6_step_70 rfl (by decide) (by decide) ⟨_, _, _, rfl, h4, w1.tr ((ob_WM.set _ _).tr ⟨fun y hy j => ob_set_a _ _ _ _ _ hy, fun y _ y2 _ _ _ => b1 y y2⟩), rfl, fun _ => rfl⟩
      · rw [decide_eq_false hk]
        rw [if_neg (fun h9 => hk ((sp_in (by omega)).mpr h9))] at e
        rw [e]
        refine og_if_ne (tgt := 62) dX6_step_57 (by decide) (fun z9 => absurd (rfl) z9) (fun _ => ?_)
        refine og_iconst (v := 0) dX6_step_60 (by decide) ?_
        exact og_ireturn (ty := .boolean) rfl dX6_step_61 rfl (by decide) (by decide) ⟨_, _, _, rfl, h1, w1, rfl, fun _ => rfl⟩
    refine og_aload_n dX6_step_5 rfl rfl ?_
    refine og_getf dX6_step_6 kfX6_26 (by assumption) (by assumption) ?_
    refine og_if_ge (tgt := 26) dX6_step_9 (by decide) (fun _ => ?_) (fun z9 => absurd (nI_pos' (by omega)) z9)
    cases back with
    | true =>
      have e : sp_step S true = (match sp_pre c with | none => (0, 0, S) | some i => if i < S.1.length then (0, 1, sp_tell S i false) else (0, 0, S)) := by simp only [sp_step, hc]; rfl
      refine og_iload_n (x := 1) dX6_step_26 rfl ?_
      refine og_if_eq (tgt := 39) dX6_step_27 (by decide) (fun z9 => absurd z9 (by decide)) (fun _ => ?_)
      refine og_aload_n dX6_step_30 rfl rfl ?_
      refine og_getf dX6_step_31 kfX6_26 (by assumption) (by assumption) ?_
      refine og_iconst (v := 1) dX6_step_34 (by decide) ?_
      refine og_isub dX6_step_35 ?_
      refine og_goto (tgt := 45) dX6_step_36 (by decide) ?_
      refine og_lv [(0, .ref m)] rfl ?_
      by_cases hc0 : c = 0
      · subst hc0
        refine og_st [.int (-1)] rfl ?_
        exact tail (-1) (by rw [e]; rfl)
      · refine og_st [.int (nI (c - 1))] (by rw [show (1 : Int32) = nI 1 from rfl, nI_sub (by omega)] <;> rfl) ?_
        refine tail (nI (c - 1)) ?_
        rw [e, nI_clamp (by omega)]
        simp only [sp_pre, if_neg hc0]
        rw [if_pos (by omega), if_pos ⟨nI_pos' (by omega), by omega⟩]
    | false =>
      have e : sp_step S false = (if c + 1 < S.1.length then (0, 1, sp_tell S (c + 1) false) else (0, 0, S)) := by simp only [sp_step, hc]; rfl
      refine og_iload_n (x := 0) dX6_step_26 rfl ?_
      refine og_if_eq (tgt := 39) dX6_step_27 (by decide) (fun _ => ?_) (fun z9 => absurd (rfl) z9)
      refine og_aload_n dX6_step_39 rfl rfl ?_
      refine og_getf dX6_step_40 kfX6_26 (by assumption) (by assumption) ?_
      refine og_iconst (v := 1) dX6_step_43 (by decide) ?_
      refine og_iadd dX6_step_44 ?_
      refine og_lv [(0, .ref m)] rfl ?_
      refine og_st [.int (nI (c + 1))] (by rw [nI_1] <;> rfl) ?_
      refine tail (nI (c + 1)) ?_
      rw [e, nI_clamp (by omega)]
      by_cases h9 : c + 1 < S.1.length
      · rw [if_pos h9, if_pos ⟨nI_pos' (by omega), h9⟩]
      · rw [if_neg h9, if_neg (fun h8 => h9 h8.2)]
end OMF
