/-! THE REFERENCE: insert, told -/
section OME
variable {X : ob_X} {T : ob_T} {V : ob_V} {B : ob_B} {J : ob_J} {R : Room} {Q : ob_r → ob_w → Prop} {k n : Nat} {m mt mr mb mk mv me mu : Nat} {E : ob_E}
theorem ins_copy {at9 nn : Nat} {e kl : Int32} {full : List Nat} {B0 : ob_B} (ha : ob_Ma T V m mt mr mb mk mv me mu) (hf : full.length = nn) (hn : nn ≤ 600) (hat : at9 + nn ≤ 66048) (ht : ob_is B0 mt 0 full) :
    ∀ (d i : Nat) (B : ob_B), i + d = nn → (∀ y, y ≠ mb → B y = B0 y) → ob_is B mb at9 (full.take i) → (∀ j, (j < at9 ∨ at9 + nn ≤ j) → B mb j = B0 mb j) →
    (∀ B', (∀ y, y ≠ mb → B' y = B0 y) → ob_is B' mb at9 full → (∀ j, (j < at9 ∨ at9 + nn ≤ j) → B' mb j = B0 mb j) → ob_G X mX6_insert R Q 46 [(0, .ref m), (1, .int e), (2, .int kl), (3, .int (nI nn))] [] (T, V, B', J) k n) →
    ob_G X mX6_insert R Q 17 [(0, .ref m), (1, .int e), (2, .int kl), (3, .int (nI nn)), (4, .int (nI at9)), (5, .int (nI i))] [] (T, V, B, J) k n := by
  obtain ⟨⟨h1, -, -, h4, -, h6, hk9, hv9⟩, ⟨g1, -, g3, g4, g5⟩, ne⟩ := ha
  have mtb : mt ≠ mb := ne.2.1
  intro d
  induction d with
  | zero =>
    intro i B hid f1 f2 f3 kk
    have e9 : i = nn := by omega
    subst e9
    refine og_iload dX6_insert_17 rfl ?_
    refine og_iload_n dX6_insert_19 rfl ?_
    refine og_icmp_ge (tgt := 46) dX6_insert_20 (by decide) (fun _ => ?_) (fun z9 => absurd (Int32.le_refl _) z9)
    refine og_lv [(0, .ref m), (1, .int e), (2, .int kl), (3, .int (nI i))] rfl (kk B f1 ?_ f3)
    rw [← hf, List.take_length] at f2
    exact f2
  | succ d ih =>
    intro i B hid f1 f2 f3 kk
    have hi : i < full.length := by omega
    have hv : B mt i = nI full[i] := by rw [f1 mt mtb]; exact ht.at hi
    refine og_iload dX6_insert_17 rfl ?_
    refine og_iload_n dX6_insert_19 rfl ?_
    refine og_icmp_ge (tgt := 46) dX6_insert_20 (by decide) (fun z9 => absurd z9 (nI_ge (by omega) (by omega))) (fun _ => ?_)
    refine og_aload_n dX6_insert_23 rfl rfl ?_
    refine og_getf dX6_insert_24 kfX6_17 (by assumption) (by assumption) ?_
    refine og_iload dX6_insert_27 rfl ?_
    refine og_iload dX6_insert_29 rfl ?_
    refine og_iadd dX6_insert_31 ?_
    refine og_st [.int (nI (at9 + i)), .ref mb] (by rw [nI_add] <;> rfl) ?_
    refine og_aload_n dX6_insert_32 rfl rfl ?_
    refine og_getf dX6_insert_33 kfX6_7 (by assumption) (by assumption) ?_
    refine og_iload dX6_insert_36 rfl ?_
    refine og_ialv dX6_insert_38 (by assumption) (by omega) (by decide) (hv) ?_
    refine og_iasv dX6_insert_39 (by assumption) (by omega) (by decide) ?_
    refine og_iinc dX6_insert_40 rfl (nI_1 i) (by decide) ?_
    refine og_goto (tgt := 17) dX6_insert_43 (by decide) ?_
    refine og_lv [(0, .ref m), (1, .int e), (2, .int kl), (3, .int (nI nn)), (4, .int (nI at9)), (5, .int (nI (i + 1)))] rfl ?_
    refine ih (i + 1) _ (by omega) (fun y hy => ?_) (fun j hj => ?_) (fun j hj => ?_) kk
    · rw [← f1 y hy]; funext z; exact ob_set_a _ _ _ _ _ hy
    · rw [List.length_take] at hj
      rw [List.getElem_take]
      by_cases e9 : j = i
      · subst e9; exact ob_set_s _ _ _ _
      · rw [ob_set_k _ _ _ _ _ (by omega)]
        have := f2 j (by rw [List.length_take]; omega)
        rw [List.getElem_take] at this
        exact this
    · rw [ob_set_k _ _ _ _ _ (by omega)]; exact f3 j hj
/-- sizes moved one place up -/
theorem ins_loop {e cnt : Nat} {kl nn : Int32} {B0 : ob_B} (ha : ob_Ma T V m mt mr mb mk mv me mu) (hc : cnt ≤ 1024) (hec : e ≤ cnt) :
    ∀ (d c : Nat) (B : ob_B), e + d = c → c ≤ cnt → (∀ y, y ≠ mk → y ≠ mv → B y = B0 y) → (∀ j, c < j → j ≤ cnt → B mk j = B0 mk (j - 1) ∧ B mv j = B0 mv (j - 1)) → (∀ j, j ≤ c → B mk j = B0 mk j ∧ B mv j = B0 mv j) →
    (∀ B', (∀ y, y ≠ mk → y ≠ mv → B' y = B0 y) → (∀ j, e < j → j ≤ cnt → B' mk j = B0 mk (j - 1) ∧ B' mv j = B0 mv (j - 1)) → (∀ j, j ≤ e → B' mk j = B0 mk j ∧ B' mv j = B0 mv j) → ob_G X mX6_insert R Q 96 [(0, .ref m), (1, .int (nI e)), (2, .int kl), (3, .int nn)] [] (T, V, B', J) k n) →
    ob_G X mX6_insert R Q 52 [(0, .ref m), (1, .int (nI e)), (2, .int kl), (3, .int nn), (5, .int (nI c))] [] (T, V, B, J) k n := by
  obtain ⟨⟨h1, -, -, -, -, h6, hk9, hv9⟩, ⟨-, -, g3, g4, g5⟩, ne⟩ := ha
  have mkv : mk ≠ mv := ne.2.2.2.2.2.2.2.2.2
  intro d
  induction d with
  | zero =>
    intro c B hcd hcc f1 f2 f3 kk
    have e9 : e = c := by omega
    subst e9
    refine og_iload dX6_insert_52 rfl ?_
    refine og_iload_n dX6_insert_54 rfl ?_
    refine og_icmp_le (tgt := 96) dX6_insert_55 (by decide) (fun _ => ?_) (fun z9 => absurd (Int32.le_refl _) z9)
    exact og_lv [(0, .ref m), (1, .int (nI e)), (2, .int kl), (3, .int nn)] rfl (kk B f1 f2 f3)
  | succ d ih =>
    intro c B hcd hcc f1 f2 f3 kk
    obtain ⟨c', rfl⟩ : ∃ c', c = c' + 1 := ⟨c - 1, by omega⟩
    have v1 : B mk c' = B0 mk c' := (f3 c' (by omega)).1
    refine og_iload dX6_insert_52 rfl ?_
    refine og_iload_n dX6_insert_54 rfl ?_
    refine og_icmp_le (tgt := 96) dX6_insert_55 (by decide) (fun z9 => absurd z9 (nI_ge (by omega) (by omega))) (fun _ => ?_)
    refine og_aload_n dX6_insert_58 rfl rfl ?_
    refine og_getf dX6_insert_59 kfX6_20 (by assumption) (by assumption) ?_
    refine og_iload dX6_insert_62 rfl ?_
    refine og_aload_n dX6_insert_64 rfl rfl ?_
    refine og_getf dX6_insert_65 kfX6_20 (by assumption) (by assumption) ?_
    refine og_iload dX6_insert_68 rfl ?_
    refine og_iconst (v := 1) dX6_insert_70 (by decide) ?_
    refine og_isub dX6_insert_71 ?_
    refine og_st [.int (nI c'), .ref mk, .int (nI (c' + 1)), .ref mk] (by rw [nI_pred] <;> rfl) ?_
    refine og_ialv dX6_insert_72 (by assumption) (by omega) (by decide) (v1) ?_
    refine og_iasv dX6_insert_73 (by assumption) (by omega) (by decide) ?_
    refine og_aload_n dX6_insert_74 rfl rfl ?_
    refine og_getf dX6_insert_75 kfX6_23 (by assumption) (by assumption) ?_
    refine og_iload dX6_insert_78 rfl ?_
    refine og_aload_n dX6_insert_80 rfl rfl ?_
    refine og_getf dX6_insert_81 kfX6_23 (by assumption) (by assumption) ?_
    refine og_iload dX6_insert_84 rfl ?_
    refine og_iconst (v := 1) dX6_insert_86 (by decide) ?_
    refine og_isub dX6_insert_87 ?_
    refine og_st [.int (nI c'), .ref mv, .int (nI (c' + 1)), .ref mv] (by rw [nI_pred] <;> rfl) ?_
    have v2 : ob_set B mk (c' + 1) (B0 mk c') mv c' = B0 mv c' := by rw [ob_set_a _ _ _ _ _ mkv.symm]; exact (f3 c' (by omega)).2
    refine og_ialv dX6_insert_88 (by assumption) (by omega) (by decide) (v2) ?_
    refine og_iasv dX6_insert_89 (by assumption) (by omega) (by decide) ?_
    refine og_iinc dX6_insert_90 rfl (by rw [nI_m1, nI_pred]) (by decide) ?_
    refine og_goto (tgt := 52) dX6_insert_93 (by decide) ?_
    refine og_lv [(0, .ref m), (1, .int (nI e)), (2, .int kl), (3, .int nn), (5, .int (nI c'))] rfl ?_
    have kk1 : ∀ j, ob_set (ob_set B mk (c' + 1) (B0 mk c')) mv (c' + 1) (B0 mv c') mk j = if j = c' + 1 then B0 mk c' else B mk j := fun j => by rw [ob_set_a _ _ _ _ _ mkv]; by_cases hj : j = c' + 1; subst hj; rw [ob_set_s, if_pos rfl]; rw [ob_set_k _ _ _ _ _ hj, if_neg hj]
    have kk2 : ∀ j, ob_set (ob_set B mk (c' + 1) (B0 mk c')) mv (c' + 1) (B0 mv c') mv j = if j = c' + 1 then B0 mv c' else B mv j := fun j => by by_cases hj : j = c' + 1; subst hj; rw [ob_set_s, if_pos rfl]; rw [ob_set_k _ _ _ _ _ hj, if_neg hj, ob_set_a _ _ _ _ _ mkv.symm]
    refine ih c' _ (by omega) (by omega) (fun y hy1 hy2 => ?_) (fun j hj hjl => ?_) (fun j hj => ?_) kk
    · rw [← f1 y hy1 hy2]; funext i; show ob_set (ob_set B mk (c' + 1) _) mv (c' + 1) _ y i = _; rw [ob_set_a _ _ _ _ _ hy2, ob_set_a _ _ _ _ _ hy1]
    · rw [kk1, kk2]
      by_cases e9 : j = c' + 1
      · subst e9; rw [if_pos rfl, if_pos rfl, Nat.add_sub_cancel]; exact ⟨rfl, rfl⟩
      · rw [if_neg e9, if_neg e9]; exact f2 j (by omega) hjl
    · rw [kk1, kk2, if_neg (by omega), if_neg (by omega)]; exact f3 j (by omega)
theorem cm_insert {e kl : Nat} {full : List Nat} (ha : ob_Ma T V m mt mr mb mk mv me mu) (h : ob_Me V B m mb mk mv E) (hl : E.length ≤ 1023) (hfl : (sp_fl E).length + full.length ≤ 65536) (he : e ≤ E.length) (ht : ob_is B mt 0 full) (hkl : kl ≤ full.length) (hk1 : 1 ≤ kl) (hf6 : full.length ≤ 600) : ob_C X mX6_insert 1 0 0 [.ref m, .int (nI e), .int (nI kl), .int (nI full.length)] (T, V, B, J) (fun r w' => ∃ V' B', r = .inl none ∧ w' = (T, V', B', J) ∧ ob_Me V' B' m mb mk mv (E.take e ++ (full.take kl, full.drop kl) :: E.drop e) ∧ V' m 12 = .int (nI e) ∧ (∀ y j, ¬ (y = m ∧ (j = 7 ∨ j = 8 ∨ j = 12)) → V' y j = V y j) ∧ (∀ y, y ≠ mb → y ≠ mk → y ≠ mv → B' y = B y)) := by
  refine ob_C_of (by decide) rfl (Nat.le_of_ble_eq_true rfl) ?_
  obtain ⟨⟨h1, h2, h3, h4, h5, h6, h7, h8⟩, ⟨g1, g2, g3, g4, g5⟩, ne⟩ := id ha
  obtain ⟨m7, m8, b1, b2, b3⟩ := id h
  have eE : E = E.take e ++ E.drop e := (List.take_append_drop e E).symm
  have eF : sp_fl E = sp_fl (E.take e) ++ sp_fl (E.drop e) := by
    have := congrArg sp_fl eE
    rw [sp_fl_app] at this
    exact this
  have eL := congrArg List.length eF
  rw [List.length_append] at eL
  have mtb : mt ≠ mb := ne.2.1
  have mbk : mb ≠ mk := ne.2.2.2.2.2.2.2.1
  have mbv : mb ≠ mv := ne.2.2.2.2.2.2.2.2.1
  have mkv : mk ≠ mv := ne.2.2.2.2.2.2.2.2.2
  generalize hat : (sp_fl (E.take e)).length = at9 at *
  generalize hnn : full.length = nn at *
  refine og_lv [(0, .ref m), (1, .int (nI e)), (2, .int (nI kl)), (3, .int (nI nn))] rfl ?_
  refine og_aload_n dX6_insert_0 rfl rfl ?_
  refine og_iload_n dX6_insert_1 rfl ?_
  refine og_callVe dX6_insert_2 kvX6_63 (cm_start ha h (by omega) he) rfl h1 rfl rfl ⟨by decide, by decide⟩ (by decide) (by decide) (Nat.le_of_ble_eq_true rfl) rfl ?_
  rw [hat]
  refine og_istore dX6_insert_5 (by decide) ?_
  refine og_aload_n dX6_insert_7 rfl rfl ?_
  refine og_iload dX6_insert_8 rfl ?_
  refine og_iload_n dX6_insert_10 rfl ?_
  refine og_callVn dX6_insert_11 kvX6_72 (cm_moveU (f := at9) (by9 := nn) ha m8 (by omega) (by omega) (by omega)) rfl h1 rfl rfl ⟨by decide, by decide⟩ (by decide) (by decide) (Nat.le_of_ble_eq_true rfl) rfl (fun E w' h9 => by obtain ⟨_, h9, _⟩ := h9; cases h9) (fun v w' h9 => ?_)
  obtain ⟨B1, hv9, rfl, p1, p2, p3⟩ := h9
  cases hv9
  generalize hV1 : ob_set V m 8 (.int (nI ((sp_fl E).length + nn))) = V1
  have ha1 : ob_Ma T V1 m mt mr mb mk mv me mu := ha.keep (fun j hj => by rw [← hV1]; exact ob_set_k _ _ _ _ _ (by omega))
  have v7 : V1 m 7 = .int (nI E.length) := by rw [← hV1, ob_set_k _ _ _ _ _ (by decide)]; exact m7
  obtain ⟨-, -, -, -, -, -, hk9, hv9⟩ := ha1.1
  refine og_w (T, V1, B1, J) (by rw [← hV1]) ?_
  refine og_iconst (v := 0) dX6_insert_14 (by decide) ?_
  refine og_istore dX6_insert_15 (by decide) ?_
  refine og_lv [(0, .ref m), (1, .int (nI e)), (2, .int (nI kl)), (3, .int (nI nn)), (4, .int (nI at9)), (5, .int (nI 0))] rfl ?_
  refine ins_copy (full := full) (B0 := B1) ha1 hnn hf6 (by omega) (ht.same (fun j _ => by rw [p1 mt mtb])) nn 0 B1 (by omega) (fun _ _ => rfl) (fun j hj => by simp at hj) (fun _ _ => rfl) ?_
  intro B2 q1 q2 q3
  refine og_aload_n dX6_insert_46 rfl rfl ?_
  refine og_getf dX6_insert_47 kfX6_52 (by assumption) (by assumption) ?_
  refine og_istore dX6_insert_50 (by decide) ?_
  refine og_lv [(0, .ref m), (1, .int (nI e)), (2, .int (nI kl)), (3, .int (nI nn)), (5, .int (nI E.length))] rfl ?_
  refine ins_loop (e := e) (cnt := E.length) (B0 := B2) ha1 (by omega) he (E.length - e) E.length B2 (by omega) (Nat.le_refl _) (fun _ _ _ => rfl) (fun j h1 h2 => by omega) (fun _ _ => ⟨rfl, rfl⟩) ?_
  intro B3 s1 s2 s3
  refine og_aload_n dX6_insert_96 rfl rfl ?_
  refine og_getf dX6_insert_97 kfX6_20 (by assumption) (by assumption) ?_
  refine og_iload_n dX6_insert_100 rfl ?_
  refine og_iload_n dX6_insert_101 rfl ?_
  refine og_iasv dX6_insert_102 (by assumption) (by omega) (by decide) ?_
  refine og_aload_n dX6_insert_103 rfl rfl ?_
  refine og_getf dX6_insert_104 kfX6_23 (by assumption) (by assumption) ?_
  refine og_iload_n dX6_insert_107 rfl ?_
  refine og_iload_n dX6_insert_108 rfl ?_
  refine og_iload_n dX6_insert_109 rfl ?_
  refine og_isub dX6_insert_110 ?_
  refine og_st [.int (nI (nn - kl)), .int (nI e), .ref mv] (by rw [nI_sub hkl] <;> rfl) ?_
  refine og_iasv dX6_insert_111 (by assumption) (by omega) (by decide) ?_
  refine og_aload_n dX6_insert_112 rfl rfl ?_
  refine og_dup dX6_insert_113 rfl ?_
  refine og_getf dX6_insert_114 kfX6_52 (by assumption) (by assumption) ?_
  refine og_iconst (v := 1) dX6_insert_117 (by decide) ?_
  refine og_iadd dX6_insert_118 ?_
  refine og_st [.int (nI (E.length + 1)), .ref m] (by rw [nI_1] <;> rfl) ?_
  refine og_put dX6_insert_119 kfX6_52 (by assumption) rfl rfl ?_
  refine og_aload_n dX6_insert_122 rfl rfl ?_
  refine og_iload_n dX6_insert_123 rfl ?_
  refine og_put dX6_insert_124 kfX6_26 (by assumption) rfl rfl ?_
  generalize hV2 : ob_set (ob_set V1 m 7 (.int (nI (E.length + 1)))) m 12 (.int (nI e)) = V2
  have w7 : V2 m 7 = .int (nI (E.length + 1)) := by rw [← hV2]; simp [ob_set]
  have w8 : V2 m 8 = .int (nI ((sp_fl E).length + nn)) := by rw [← hV2, ← hV1]; simp [ob_set]
  have w12 : V2 m 12 = .int (nI e) := by rw [← hV2]; simp [ob_set]
  have wf : ∀ y j, ¬ (y = m ∧ (j = 7 ∨ j = 8 ∨ j = 12)) → V2 y j = V y j := fun y j hj => by
    rw [← hV2, ← hV1]
    by_cases hy : y = m
    · have : j ≠ 7 ∧ j ≠ 8 ∧ j ≠ 12 := ⟨fun e => hj ⟨hy, Or.inl e⟩, fun e => hj ⟨hy, Or.inr (Or.inl e)⟩, fun e => hj ⟨hy, Or.inr (Or.inr e)⟩⟩
      simp [ob_set, this.1, this.2.1, this.2.2]
    · simp [ob_set, hy]
  have kk1 : ∀ j, ob_set (ob_set B3 mk e (nI kl)) mv e (nI (nn - kl)) mk j = if j = e then nI kl else B3 mk j := fun j => by rw [ob_set_a _ _ _ _ _ mkv]; by_cases hj : j = e; subst hj; rw [ob_set_s, if_pos rfl]; rw [ob_set_k _ _ _ _ _ hj, if_neg hj]
  have kk2 : ∀ j, ob_set (ob_set B3 mk e (nI kl)) mv e (nI (nn - kl)) mv j = if j = e then nI (nn - kl) else B3 mv j := fun j => by by_cases hj : j = e; subst hj; rw [ob_set_s, if_pos rfl]; rw [ob_set_k _ _ _ _ _ hj, if_neg hj, ob_set_a _ _ _ _ _ mkv.symm]
  have kk3 : ∀ y, y ≠ mk → y ≠ mv → ob_set (ob_set B3 mk e (nI kl)) mv e (nI (nn - kl)) y = B2 y := fun y y1 y2 => by
    rw [← s1 y y1 y2]; funext i; rw [ob_set_a _ _ _ _ _ y2, ob_set_a _ _ _ _ _ y1]
  have hkk : (full.take kl).length = kl := by rw [List.length_take]; omega
  have hvv : (full.drop kl).length = nn - kl := by rw [List.length_drop, hnn]
  have hmk : B2 mk = B mk := (q1 mk mbk.symm).trans (p1 mk mbk.symm)
  have hmv : B2 mv = B mv := (q1 mv mbv.symm).trans (p1 mv mbv.symm)
  have hsz : ∀ (g : List Nat × List Nat → Nat) (M : Nat → Int32) (M0 : Nat → Int32) (z : Nat), g (full.take kl, full.drop kl) = z → (∀ j, M j = if j = e then nI z else M0 j) → (∀ j, e < j → j ≤ E.length → ∀ h9 : j - 1 < E.length, M0 j = nI (g E[j - 1])) → (∀ j, j < e → ∀ h9 : j < E.length, M0 j = nI (g E[j])) → ∀ j, (h9 : j < ((E.take e ++ (full.take kl, full.drop kl) :: E.drop e).map g).length) → M (0 + j) = nI (((E.take e ++ (full.take kl, full.drop kl) :: E.drop e).map g)[j]) := by
    intro g M M0 z hz hM ha hb j h9
    have hlen : ((E.take e ++ (full.take kl, full.drop kl) :: E.drop e).map g).length = E.length + 1 := by simp; omega
    rw [hlen] at h9
    have hte : (E.take e).length = e := by rw [List.length_take]; omega
    rw [Nat.zero_add, hM, List.getElem_map]
    by_cases h1 : j = e
    · subst h1
      rw [if_pos rfl, List.getElem_append_right (by omega)]
      simp [hte, hz]
    · rw [if_neg h1]
      by_cases h2 : j < e
      · rw [hb j h2 (by omega), List.getElem_append_left (by omega), List.getElem_take]
      · rw [ha j (by omega) (by omega) (by omega), List.getElem_append_right (by omega)]
        obtain ⟨i, rfl⟩ : ∃ i, j = e + 1 + i := ⟨j - e - 1, by omega⟩
        simp only [hte, show e + 1 + i - e = i + 1 by omega, List.getElem_cons_succ, List.getElem_drop, show e + 1 + i - 1 = e + i by omega]
  refine og_return rfl dX6_insert_127 (by decide) (by decide) ⟨V2, _, rfl, by rw [← hV2], ⟨?_, ?_, ?_, ?_, ?_⟩, w12, wf, fun y y1 y2 y3 => ?_⟩
  · rw [w7]; congr 2; simp; omega
  · rw [w8]
    congr 2
    rw [sp_fl_app, sp_fl_cons]
    simp only [List.length_append, hat, hkk, hvv]
    omega
  · rw [sp_fl_app, sp_fl_cons, List.take_append_drop]
    have hmb := kk3 mb mbk mbv
    rw [eF] at b1
    obtain ⟨c1, c2⟩ := ob_is_app.mp b1
    refine ob_is_app.mpr ⟨c1.same (fun j hj => ?_), ob_is_app.mpr ⟨?_, ?_⟩⟩
    · show ob_set (ob_set B3 mk e _) mv e _ mb (0 + j) = _
      rw [hmb, q3 (0 + j) (Or.inl (by omega)), p3 (0 + j) (by omega)]
    · refine q2.same (fun j hj => ?_)
      show ob_set (ob_set B3 mk e _) mv e _ mb _ = _
      rw [hmb, Nat.zero_add, hat]
    · refine c2.same (fun j hj => ?_)
      show ob_set (ob_set B3 mk e _) mv e _ mb _ = _
      rw [hmb, Nat.zero_add, hat, hnn, q3 (at9 + nn + j) (Or.inr (by omega)), ← p2 (at9 + j) (by omega) (by omega)]
      congr 1
      omega
  · refine hsz (fun e => e.1.length) _ (B3 mk) kl hkk kk1 (fun j h1 h2 h3 => ?_) (fun j h1 h2 => ?_)
    · rw [(s2 j h1 h2).1, hmk, h.ks h3]
    · rw [(s3 j (by omega)).1, hmk, h.ks h2]
  · refine hsz (fun e => e.2.length) _ (B3 mv) (nn - kl) hvv kk2 (fun j h1 h2 h3 => ?_) (fun j h1 h2 => ?_)
    · rw [(s2 j h1 h2).2, hmv, h.vs h3]
    · rw [(s3 j (by omega)).2, hmv, h.vs h2]
  · show ob_set (ob_set B3 mk e _) mv e _ y = _
    rw [kk3 y y2 y3, q1 y y1, p1 y y1]
theorem told_loop {sz st9 : Nat} {e : Int32} {vv : Value} {res : List Nat} {B0 : ob_B} (ha : ob_Ma T V m mt mr mb mk mv me mu) (h5 : V m 5 = .int (nI sz)) (hr : res.length = sz) (hs9 : sz ≤ 512) (hst : st9 + sz ≤ 66048) (hb : ob_is B0 mb st9 res) (hk : k ≤ R.cells) (hs : n ≤ R.slots) :
    ∀ (d i : Nat) (B : ob_B), i + d = sz → (∀ y, y ≠ mr → B y = B0 y) → ob_is B mr 0 (res.take i) →
    (∀ B', (∀ y, y ≠ mr → B' y = B0 y) → ob_is B' mr 0 res → Q (.inl (some (.int (nI sz)))) (T, ob_set V m 12 (.int e), B', J)) →
    ob_G X mX6_told R Q 47 [(0, .ref m), (1, .int e), (3, .int (nI st9)), (4, .int (nI i))] [] (T, V, B, J) k n := by
  obtain ⟨⟨h1, -, -, h4, hr9, h6, hk9, hv9⟩, ⟨g1, g2, g3, g4, g5⟩, ne⟩ := ha
  have mrb : mr ≠ mb := ne.2.2.2.2.1
  intro d
  induction d with
  | zero =>
    intro i B hid f1 f2 kk
    have e9 : i = sz := by omega
    subst e9
    have w5 : ob_set V m 12 (.int e) m 5 = .int (nI i) := by rw [ob_set_k _ _ _ _ _ (by decide)]; exact h5
    refine og_iload dX6_told_47 rfl ?_
    refine og_aload_n dX6_told_49 rfl rfl ?_
    refine og_getf dX6_told_50 kfX6_94 (by assumption) (by assumption) ?_
    refine og_icmp_ge (tgt := 78) dX6_told_53 (by decide) (fun _ => ?_) (fun z9 => absurd (Int32.le_refl _) z9)
    refine og_aload_n dX6_told_78 rfl rfl ?_
    refine og_iload_n dX6_told_79 rfl ?_
    refine og_put dX6_told_80 kfX6_26 (by assumption) rfl rfl ?_
    refine og_aload_n dX6_told_83 rfl rfl ?_
    refine og_getf dX6_told_84 kfX6_94 (by assumption) (by assumption) ?_
    refine og_ireturn (ty := .int) rfl dX6_told_87 rfl hk hs (kk B f1 ?_)
    rw [← hr, List.take_length] at f2
    exact f2
  | succ d ih =>
    intro i B hid f1 f2 kk
    have hi : i < res.length := by omega
    have hv : B mb (st9 + i) = nI res[i] := by rw [f1 mb mrb.symm]; exact hb i hi
    refine og_iload dX6_told_47 rfl ?_
    refine og_aload_n dX6_told_49 rfl rfl ?_
    refine og_getf dX6_told_50 kfX6_94 (by assumption) (by assumption) ?_
    refine og_icmp_ge (tgt := 78) dX6_told_53 (by decide) (fun z9 => absurd z9 (nI_ge (by omega) (by omega))) (fun _ => ?_)
    refine og_aload_n dX6_told_56 rfl rfl ?_
    refine og_getf dX6_told_57 kfX6_13 (by assumption) (by assumption) ?_
    refine og_iload dX6_told_60 rfl ?_
    refine og_aload_n dX6_told_62 rfl rfl ?_
    refine og_getf dX6_told_63 kfX6_17 (by assumption) (by assumption) ?_
    refine og_iload_n dX6_told_66 rfl ?_
    refine og_iload dX6_told_67 rfl ?_
    refine og_iadd dX6_told_69 ?_
    refine og_st [.int (nI (st9 + i)), .ref mb, .int (nI i), .ref mr] (by rw [nI_add] <;> rfl) ?_
    refine og_ialv dX6_told_70 (by assumption) (by omega) (by decide) (hv) ?_
    refine og_iasv dX6_told_71 (by assumption) (by omega) (by decide) ?_
    refine og_iinc dX6_told_72 rfl (nI_1 i) (by decide) ?_
    refine og_goto (tgt := 47) dX6_told_75 (by decide) ?_
    refine og_lv [(0, .ref m), (1, .int e), (3, .int (nI st9)), (4, .int (nI (i + 1)))] rfl ?_
    refine ih (i + 1) _ (by omega) (fun y hy => ?_) (fun j hj => ?_) kk
    · rw [← f1 y hy]; funext z; exact ob_set_a _ _ _ _ _ hy
    · rw [List.length_take] at hj
      rw [List.getElem_take, Nat.zero_add]
      by_cases e9 : j = i
      · subst e9; exact ob_set_s _ _ _ _
      · rw [ob_set_k _ _ _ _ _ (by omega)]
        have := f2 j (by rw [List.length_take]; omega)
        rw [List.getElem_take, Nat.zero_add] at this
        exact this
theorem cm_told {e : Nat} {v : Bool} (ha : ob_Ma T V m mt mr mb mk mv me mu) (h : ob_Me V B m mb mk mv E) (ho : sp_oe E) (he : e < E.length) : ob_C X mX6_told 1 0 0 [.ref m, .int (nI e), ob_cv v] (T, V, B, J) (fun r w' => ∃ B', r = .inl (some (.int (nI (if v then E[e].2 else E[e].1).length))) ∧ w' = (T, ob_set (ob_set V m 5 (.int (nI (if v then E[e].2 else E[e].1).length))) m 12 (.int (nI e)), B', J) ∧ (∀ y, y ≠ mr → B' y = B y) ∧ ob_is B' mr 0 (if v then E[e].2 else E[e].1)) := by
  refine ob_C_of (by decide) rfl (Nat.le_of_ble_eq_true rfl) ?_
  obtain ⟨⟨h1, h2, h3, h4, h5, h6, h7, h8⟩, ⟨g1, g2, g3, g4, g5⟩, ne⟩ := id ha
  obtain ⟨m7, m8, b1, b2, b3⟩ := id h
  obtain ⟨o1, o2, o3, o4⟩ := ho
  obtain ⟨⟨q1, q2, q3⟩, -⟩ := o3 E[e] (List.getElem_mem he)
  have eE : E = E.take e ++ E[e] :: E.drop (e + 1) := by rw [← List.drop_eq_getElem_cons he, List.take_append_drop]
  have eF : sp_fl E = sp_fl (E.take e) ++ (E[e].1 ++ (E[e].2 ++ sp_fl (E.drop (e + 1)))) := by
    have := congrArg sp_fl eE
    rw [sp_fl_app, sp_fl_cons, List.append_assoc] at this
    exact this
  have eL := congrArg List.length eF
  simp only [List.length_append] at eL
  rw [eF] at b1
  obtain ⟨-, c2⟩ := ob_is_app.mp b1
  obtain ⟨c3, c4⟩ := ob_is_app.mp c2
  obtain ⟨c4, -⟩ := ob_is_app.mp c4
  rw [Nat.zero_add] at c3 c4
  generalize hat : (sp_fl (E.take e)).length = at9 at *
  refine og_lv [(0, .ref m), (1, .int (nI e)), (2, ob_cv v)] rfl ?_
  refine og_aload_n dX6_told_0 rfl rfl ?_
  refine og_iload_n dX6_told_1 rfl ?_
  refine og_callVe dX6_told_2 kvX6_63 (cm_start ha h o1 (by omega)) rfl h1 rfl rfl ⟨by decide, by decide⟩ (by decide) (by decide) (Nat.le_of_ble_eq_true rfl) rfl ?_
  rw [hat]
  cases v with
  | true =>
    refine og_iload_n (x := 1) dX6_told_5 rfl ?_
    refine og_if_eq (tgt := 18) dX6_told_6 (by decide) (fun z9 => absurd z9 (by decide)) (fun _ => ?_)
    refine og_aload_n dX6_told_9 rfl rfl ?_
    refine og_getf dX6_told_10 kfX6_20 (by assumption) (by assumption) ?_
    refine og_iload_n dX6_told_13 rfl ?_
    refine og_ialv dX6_told_14 (by assumption) (by omega) (by decide) (h.ks he) ?_
    refine og_goto (tgt := 19) dX6_told_15 (by decide) ?_
    refine og_iadd dX6_told_19 ?_
    refine og_st [.int (nI (at9 + E[e].1.length))] (by rw [nI_add] <;> rfl) ?_
    refine og_istore_n dX6_told_20 (by decide) ?_
    refine og_aload_n dX6_told_21 rfl rfl ?_
    refine og_iload_n (x := 1) dX6_told_22 rfl ?_
    refine og_if_eq (tgt := 35) dX6_told_23 (by decide) (fun z9 => absurd z9 (by decide)) (fun _ => ?_)
    refine og_aload_n dX6_told_26 rfl rfl ?_
    refine og_getf dX6_told_27 kfX6_23 (by assumption) (by assumption) ?_
    refine og_iload_n dX6_told_30 rfl ?_
    refine og_ialv dX6_told_31 (by assumption) (by omega) (by decide) (h.vs he) ?_
    refine og_goto (tgt := 41) dX6_told_32 (by decide) ?_
    refine og_put dX6_told_41 kfX6_94 (by assumption) rfl rfl ?_
    refine og_iconst (v := 0) dX6_told_44 (by decide) ?_
    refine og_istore dX6_told_45 (by decide) ?_
    refine og_lv [(0, .ref m), (1, .int (nI e)), (3, .int (nI (at9 + E[e].1.length))), (4, .int (nI 0))] rfl ?_
    exact told_loop (vv := .null) (res := E[e].2) (B0 := B) (ha.keep (fun j hj => ob_set_k _ _ _ _ _ (by omega))) (ob_set_s _ _ _ _) rfl q3 (by omega) c4 (by decide) (by decide) _ 0 B (Nat.zero_add _) (fun _ _ => rfl) (fun j hj => by simp at hj) (fun B' f1 f2 => ⟨B', rfl, rfl, f1, f2⟩)
  | false =>
    refine og_iload_n (x := 0) dX6_told_5 rfl ?_
    refine og_if_eq (tgt := 18) dX6_told_6 (by decide) (fun _ => ?_) (fun z9 => absurd (rfl) z9)
    refine og_iconst (v := 0) dX6_told_18 (by decide) ?_
    refine og_iadd dX6_told_19 ?_
    refine og_st [.int (nI at9)] (by rw [Int32.add_zero] <;> rfl) ?_
    refine og_istore_n dX6_told_20 (by decide) ?_
    refine og_aload_n dX6_told_21 rfl rfl ?_
    refine og_iload_n (x := 0) dX6_told_22 rfl ?_
    refine og_if_eq (tgt := 35) dX6_told_23 (by decide) (fun _ => ?_) (fun z9 => absurd (rfl) z9)
    refine og_aload_n dX6_told_35 rfl rfl ?_
    refine og_getf dX6_told_36 kfX6_20 (by assumption) (by assumption) ?_
    refine og_iload_n dX6_told_39 rfl ?_
    refine og_ialv dX6_told_40 (by assumption) (by omega) (by decide) (h.ks he) ?_
    refine og_put dX6_told_41 kfX6_94 (by assumption) rfl rfl ?_
    refine og_iconst (v := 0) dX6_told_44 (by decide) ?_
    refine og_istore dX6_told_45 (by decide) ?_
    refine og_lv [(0, .ref m), (1, .int (nI e)), (3, .int (nI at9)), (4, .int (nI 0))] rfl ?_
    exact told_loop (vv := .null) (res := E[e].1) (B0 := B) (ha.keep (fun j hj => ob_set_k _ _ _ _ _ (by omega))) (ob_set_s _ _ _ _) rfl (by omega) (by omega) c3 (by decide) (by decide) _ 0 B (Nat.zero_add _) (fun _ _ => rfl) (fun j hj => by simp at hj) (fun B' f1 f2 => ⟨B', rfl, rfl, f1, f2⟩)
end OME
