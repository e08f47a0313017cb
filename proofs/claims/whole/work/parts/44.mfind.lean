/-! THE REFERENCE: below, find -/
section OMC
variable {X : ob_X} {T : ob_T} {V : ob_V} {B : ob_B} {J : ob_J} {R : Room} {Q : ob_r → ob_w → Prop} {k n : Nat} {m mt mr mb mk mv me mu : Nat} {E : ob_E}
/-- what the reference's entries must be for a comparison -/
def sp_oe (E : ob_E) : Prop := E.length ≤ 1024 ∧ (sp_fl E).length ≤ 65536 ∧ (∀ e ∈ E, (1 ≤ e.1.length ∧ e.1.length ≤ 64 ∧ e.2.length ≤ 512) ∧ (∀ z ∈ e.1, z < 256)) ∧ sp_so E
theorem below_fin {bl : Nat} {lv : List (Nat × Value)} (hl : ob_get lv 4 = some (.int (nI bl))) (hk : k ≤ R.cells) (hs : n ≤ R.slots) {w : ob_w} (hq : Q (.inl (some (.int (nI bl)))) w) : ob_G X mX6_below R Q 95 lv [] w k n := by
  refine og_iload dX6_below_95 hl ?_
  exact og_ireturn (ty := .int) rfl dX6_below_97 rfl hk hs hq
theorem belowm_loop {full : List Nat} {tl : Nat} {s : Bool} (ha : ob_Ma T V m mt mr mb mk mv me mu) (h : ob_Me V B m mb mk mv E) (ho : sp_oe E) (ht : ob_is B mt 0 full) (htl : tl ≤ full.length) (hf6 : full.length ≤ 600) (htb : ∀ z ∈ full, z < 256) (hR : 1 ≤ R.frames ∧ 60 ≤ R.locals) (hk : k ≤ R.cells) (hs : n ≤ R.slots) (hq : Q (.inl (some (.int (nI (sp_bl E (full.take tl) s))))) (T, V, B, J)) : ∀ (d i : Nat), i + d = E.length → i ≤ sp_bl E (full.take tl) s → ob_G X mX6_below R Q 11 [(0, .ref m), (1, .int (nI tl)), (2, ob_cv s), (3, .int (nI (sp_fl (E.take i)).length)), (4, .int (nI i)), (5, .int 1), (6, .int (nI i))] [] (T, V, B, J) k n := by
  obtain ⟨⟨h1, h2, h3, h4, h5, h6, h7, h8⟩, ⟨g1, g2, g3, g4, g5⟩, -⟩ := id ha
  obtain ⟨o1, o2, o3, o4⟩ := ho
  have m7 := h.1
  obtain ⟨s1, s2⟩ := sp_bl_split (key := full.take tl) (s := s) o4
  have hble := sp_bl_le E (full.take tl) s
  intro d
  induction d with
  | zero =>
    intro i hid hib
    have e9 : i = E.length := by omega
    have e8 : sp_bl E (full.take tl) s = i := by omega
    rw [e8] at hq
    refine og_iload dX6_below_11 rfl ?_
    refine og_aload_n dX6_below_13 rfl rfl ?_
    refine og_getf dX6_below_14 kfX6_52 (by assumption) (by assumption) ?_
    refine og_icmp_ge (tgt := 95) dX6_below_17 (by decide) (fun _ => ?_) (fun z9 => absurd (by rw [e9]; exact Int32.le_refl _) z9)
    exact below_fin rfl hk hs hq
  | succ d ih =>
    intro i hid hib
    have hi : i < E.length := by omega
    obtain ⟨q1, q2⟩ := o3 E[i] (List.getElem_mem hi)
    refine og_iload dX6_below_11 rfl ?_
    refine og_aload_n dX6_below_13 rfl rfl ?_
    refine og_getf dX6_below_14 kfX6_52 (by assumption) (by assumption) ?_
    refine og_icmp_ge (tgt := 95) dX6_below_17 (by decide) (fun z9 => absurd z9 (nI_ge hi (by omega))) (fun _ => ?_)
    refine og_iload dX6_below_20 rfl ?_
    refine og_if_eq (tgt := 95) dX6_below_22 (by decide) (fun z9 => absurd z9 (by decide)) (fun _ => ?_)
    refine og_aload_n dX6_below_25 rfl rfl ?_
    refine og_iload dX6_below_26 rfl ?_
    refine og_iload_n dX6_below_28 rfl ?_
    refine og_iload_n dX6_below_29 rfl ?_
    refine og_callVe dX6_below_30 kvX6_55 (cm_compare ha h hi o1 o2 ht htl hf6 q2 htb) rfl h1 rfl rfl ⟨hR.1, Nat.le_trans (by decide) hR.2⟩ hk hs (Nat.le_of_ble_eq_true rfl) rfl ?_
    have hsm := ob_cmp_small (k := E[i].1) (m := full.take tl) q2 (fun z hz => htb z (List.mem_of_mem_take hz)) (by omega) (by rw [List.length_take]; omega)
    have hneg := ob_cmp_neg E[i].1 (full.take tl)
    have inT : E[i] ∈ E.take (i + 1) := by rw [List.take_succ_eq_append_getElem hi]; exact List.mem_append_right _ List.mem_cons_self
    have inD : E[i] ∈ E.drop i := by rw [List.drop_eq_getElem_cons hi]; exact List.mem_cons_self
    -- the entry is below: on
    have yes : (0 < ob_cmp (full.take tl) E[i].1 ∨ (s = true ∧ ob_cmp (full.take tl) E[i].1 = 0)) → i + 1 ≤ sp_bl E (full.take tl) s := by
      intro h9
      rcases Nat.lt_or_ge i (sp_bl E (full.take tl) s) with h8 | h8
      · exact h8
      · have e8 : sp_bl E (full.take tl) s = i := by omega
        rw [e8] at s2
        exact absurd h9 (s2 _ inD)
    have no : ¬ (0 < ob_cmp (full.take tl) E[i].1 ∨ (s = true ∧ ob_cmp (full.take tl) E[i].1 = 0)) → sp_bl E (full.take tl) s = i := by
      intro h9
      rcases Nat.lt_or_ge i (sp_bl E (full.take tl) s) with h8 | h8
      · have : E[i] ∈ E.take (sp_bl E (full.take tl) s) := List.mem_of_mem_take (i := i + 1) (by rw [List.take_take, Nat.min_eq_left h8]; exact inT)
        exact absurd (s1 _ this) h9
      · omega
    have goon : i + 1 ≤ sp_bl E (full.take tl) s → ob_G X mX6_below R Q 54 [(0, .ref m), (1, .int (nI tl)), (2, ob_cv s), (3, .int (nI (sp_fl (E.take i)).length)), (4, .int (nI i)), (6, .int (nI i))] [.int 1] (T, V, B, J) k n := by
      intro h9
      refine og_istore dX6_below_54 (by decide) ?_
      refine og_iload dX6_below_56 rfl ?_
      refine og_iload dX6_below_58 rfl ?_
      refine og_if_eq (tgt := 67) dX6_below_60 (by decide) (fun z9 => absurd z9 (by decide)) (fun _ => ?_)
      refine og_iconst (v := 1) dX6_below_63 (by decide) ?_
      refine og_goto (tgt := 68) dX6_below_64 (by decide) ?_
      refine og_iadd dX6_below_68 ?_
      refine og_st [.int (nI (i + 1))] (by rw [nI_1]) ?_
      refine og_istore dX6_below_69 (by decide) ?_
      refine og_iload_n dX6_below_71 rfl ?_
      refine og_aload_n dX6_below_72 rfl rfl ?_
      refine og_getf dX6_below_73 kfX6_20 (by assumption) (by assumption) ?_
      refine og_iload dX6_below_76 rfl ?_
      refine og_ialv dX6_below_78 (by assumption) (by omega) (by decide) (h.ks hi) ?_
      refine og_aload_n dX6_below_79 rfl rfl ?_
      refine og_getf dX6_below_80 kfX6_23 (by assumption) (by assumption) ?_
      refine og_iload dX6_below_83 rfl ?_
      refine og_ialv dX6_below_85 (by assumption) (by omega) (by decide) (h.vs hi) ?_
      refine og_iadd dX6_below_86 ?_
      refine og_iadd dX6_below_87 ?_
      refine og_st [.int (nI (sp_fl (E.take (i + 1))).length)] (by rw [nI_add, nI_add, sp_fl_take hi]) ?_
      refine og_istore_n dX6_below_88 (by decide) ?_
      refine og_iinc dX6_below_89 rfl (nI_1 i) (by decide) ?_
      refine og_goto (tgt := 11) dX6_below_92 (by decide) ?_
      refine og_lv [(0, .ref m), (1, .int (nI tl)), (2, ob_cv s), (3, .int (nI (sp_fl (E.take (i + 1))).length)), (4, .int (nI (i + 1))), (5, .int 1), (6, .int (nI (i + 1)))] rfl ?_
      exact ih (i + 1) (by omega) h9
    have stop : sp_bl E (full.take tl) s = i → ob_G X mX6_below R Q 54 [(0, .ref m), (1, .int (nI tl)), (2, ob_cv s), (3, .int (nI (sp_fl (E.take i)).length)), (4, .int (nI i)), (6, .int (nI i))] [.int 0] (T, V, B, J) k n := by
      intro h9
      rw [h9] at hq
      refine og_istore dX6_below_54 (by decide) ?_
      refine og_iload dX6_below_56 rfl ?_
      refine og_iload dX6_below_58 rfl ?_
      refine og_if_eq (tgt := 67) dX6_below_60 (by decide) (fun _ => ?_) (fun z9 => absurd (rfl) z9)
      refine og_iconst (v := 0) dX6_below_67 (by decide) ?_
      refine og_iadd dX6_below_68 ?_
      refine og_st [.int (nI i)] (by rw [Int32.add_zero]) ?_
      refine og_istore dX6_below_69 (by decide) ?_
      refine og_iload_n dX6_below_71 rfl ?_
      refine og_aload_n dX6_below_72 rfl rfl ?_
      refine og_getf dX6_below_73 kfX6_20 (by assumption) (by assumption) ?_
      refine og_iload dX6_below_76 rfl ?_
      refine og_ialv dX6_below_78 (by assumption) (by omega) (by decide) (h.ks hi) ?_
      refine og_aload_n dX6_below_79 rfl rfl ?_
      refine og_getf dX6_below_80 kfX6_23 (by assumption) (by assumption) ?_
      refine og_iload dX6_below_83 rfl ?_
      refine og_ialv dX6_below_85 (by assumption) (by omega) (by decide) (h.vs hi) ?_
      refine og_iadd dX6_below_86 ?_
      refine og_iadd dX6_below_87 ?_
      refine og_istore_n dX6_below_88 (by decide) ?_
      refine og_iinc dX6_below_89 rfl (nI_1 i) (by decide) ?_
      refine og_goto (tgt := 11) dX6_below_92 (by decide) ?_
      refine og_iload dX6_below_11 rfl ?_
      refine og_aload_n dX6_below_13 rfl rfl ?_
      refine og_getf dX6_below_14 kfX6_52 (by assumption) (by assumption) ?_
      refine og_icmp_ge (tgt := 95) dX6_below_17 (by decide) (fun c1 => ?_) (fun c1 => ?_)
      · exact below_fin rfl hk hs hq
      · refine og_iload dX6_below_20 rfl ?_
        refine og_if_eq (tgt := 95) dX6_below_22 (by decide) (fun _ => ?_) (fun z9 => absurd (rfl) z9)
        exact below_fin rfl hk hs hq
    refine og_istore dX6_below_33 (by decide) ?_
    refine og_iload dX6_below_35 rfl ?_
    refine og_if_lt (tgt := 49) dX6_below_37 (by decide) (fun c1 => ?_) (fun c1 => ?_)
    · have c1 := (iI_lt hsm.1 hsm.2).mp c1
      refine og_iconst (v := 1) dX6_below_49 (by decide) ?_
      refine og_goto (tgt := 54) dX6_below_50 (by decide) ?_
      refine og_lv [(0, .ref m), (1, .int (nI tl)), (2, ob_cv s), (3, .int (nI (sp_fl (E.take i)).length)), (4, .int (nI i)), (6, .int (nI i))] rfl ?_
      exact goon (yes (Or.inl (by omega)))
    · have c1 : ¬ ob_cmp E[i].1 (full.take tl) < 0 := fun h9 => c1 ((iI_lt hsm.1 hsm.2).mpr h9)
      refine og_iload dX6_below_40 rfl ?_
      refine og_if_ne (tgt := 53) dX6_below_42 (by decide) (fun c2 => ?_) (fun c2 => ?_)
      · have c2 : ¬ ob_cmp E[i].1 (full.take tl) = 0 := fun h9 => c2 ((iI_0 hsm.1 hsm.2).mpr h9)
        refine og_iconst (v := 0) dX6_below_53 (by decide) ?_
        refine og_lv [(0, .ref m), (1, .int (nI tl)), (2, ob_cv s), (3, .int (nI (sp_fl (E.take i)).length)), (4, .int (nI i)), (6, .int (nI i))] rfl ?_
        exact stop (no (fun h9 => by rcases h9 with h9 | ⟨-, h9⟩ <;> omega))
      · have c2 := (iI_0 hsm.1 hsm.2).mp c2
        cases s with
        | true =>
          refine og_iload_n (x := 1) dX6_below_45 rfl ?_
          refine og_if_eq (tgt := 53) dX6_below_46 (by decide) (fun z9 => absurd z9 (by decide)) (fun _ => ?_)
          refine og_iconst (v := 1) dX6_below_49 (by decide) ?_
          refine og_goto (tgt := 54) dX6_below_50 (by decide) ?_
          refine og_lv [(0, .ref m), (1, .int (nI tl)), (2, ob_cv true), (3, .int (nI (sp_fl (E.take i)).length)), (4, .int (nI i)), (6, .int (nI i))] rfl ?_
          exact goon (yes (Or.inr ⟨rfl, by omega⟩))
        | false =>
          refine og_iload_n (x := 0) dX6_below_45 rfl ?_
          refine og_if_eq (tgt := 53) dX6_below_46 (by decide) (fun _ => ?_) (fun z9 => absurd (rfl) z9)
          refine og_iconst (v := 0) dX6_below_53 (by decide) ?_
          refine og_lv [(0, .ref m), (1, .int (nI tl)), (2, ob_cv false), (3, .int (nI (sp_fl (E.take i)).length)), (4, .int (nI i)), (6, .int (nI i))] rfl ?_
          exact stop (no (fun h9 => by rcases h9 with h9 | ⟨h9, -⟩; omega; cases h9))
theorem cm_below {full : List Nat} {tl : Nat} {s : Bool} (ha : ob_Ma T V m mt mr mb mk mv me mu) (h : ob_Me V B m mb mk mv E) (ho : sp_oe E) (ht : ob_is B mt 0 full) (htl : tl ≤ full.length) (hf6 : full.length ≤ 600) (htb : ∀ z ∈ full, z < 256) : ob_C X mX6_below 1 0 0 [.ref m, .int (nI tl), ob_cv s] (T, V, B, J) (ob_e (some (.int (nI (sp_bl E (full.take tl) s)))) (T, V, B, J)) := by
  refine ob_C_of (by decide) rfl (Nat.le_of_ble_eq_true rfl) ?_
  refine og_lv [(0, .ref m), (1, .int (nI tl)), (2, ob_cv s)] rfl ?_
  refine og_iconst (v := 0) dX6_below_0 (by decide) ?_
  refine og_istore_n dX6_below_1 (by decide) ?_
  refine og_iconst (v := 0) dX6_below_2 (by decide) ?_
  refine og_istore dX6_below_3 (by decide) ?_
  refine og_iconst (v := 1) dX6_below_5 (by decide) ?_
  refine og_istore dX6_below_6 (by decide) ?_
  refine og_iconst (v := 0) dX6_below_8 (by decide) ?_
  refine og_istore dX6_below_9 (by decide) ?_
  refine og_lv [(0, .ref m), (1, .int (nI tl)), (2, ob_cv s), (3, .int (nI (sp_fl (E.take 0)).length)), (4, .int (nI 0)), (5, .int 1), (6, .int (nI 0))] rfl ?_
  exact belowm_loop ha h ho ht htl hf6 htb ⟨by decide, by decide⟩ (by decide) (by decide) ⟨rfl, rfl⟩ E.length 0 (by omega) (by omega)
theorem cm_find {full : List Nat} {tl : Nat} (ha : ob_Ma T V m mt mr mb mk mv me mu) (h : ob_Me V B m mb mk mv E) (ho : sp_oe E) (ht : ob_is B mt 0 full) (htl : tl ≤ full.length) (hf6 : full.length ≤ 600) (htb : ∀ z ∈ full, z < 256) : ob_C X mX6_find 2 0 0 [.ref m, .int (nI tl)] (T, V, B, J) (ob_e (some (.int (sp_cI (sp_fd E (full.take tl))))) (T, V, B, J)) := by
  refine ob_C_of (by decide) rfl (Nat.le_of_ble_eq_true rfl) ?_
  have h1 := ha.1.1
  have m7 := h.1
  have hble := sp_bl_le E (full.take tl) false
  have o1 := ho.1
  refine og_lv [(0, .ref m), (1, .int (nI tl))] rfl ?_
  refine og_aload_n dX6_find_0 rfl rfl ?_
  refine og_iload_n dX6_find_1 rfl ?_
  refine og_iconst (v := 0) dX6_find_2 (by decide) ?_
  refine og_callVe dX6_find_3 kvX6_59 (cm_below (s := false) ha h ho ht htl hf6 htb) rfl h1 rfl rfl ⟨by decide, by decide⟩ (by decide) (by decide) (Nat.le_of_ble_eq_true rfl) rfl ?_
  generalize hbl : sp_bl E (full.take tl) false = bl at *
  have none9 : sp_fd E (full.take tl) = none → ∀ lv, ob_G X mX6_find (ob_rm 2 0 0) (ob_e (some (.int (sp_cI (sp_fd E (full.take tl))))) (T, V, B, J)) 33 lv [] (T, V, B, J) 0 0 := by
    intro e lv
    rw [e]
    refine og_iconst (v := (-1)) dX6_find_33 (by decide) ?_
    exact og_ireturn (ty := .int) rfl dX6_find_34 rfl (by decide) (by decide) ⟨rfl, rfl⟩
  refine og_istore_n dX6_find_6 (by decide) ?_
  refine og_iload_n dX6_find_7 rfl ?_
  refine og_aload_n dX6_find_8 rfl rfl ?_
  refine og_getf dX6_find_9 kfX6_52 (by assumption) (by assumption) ?_
  refine og_icmp_ge (tgt := 33) dX6_find_12 (by decide) (fun c1 => ?_) (fun c1 => ?_)
  · have c1 := (nI_leI (by omega) (by omega)).mp c1
    refine none9 ?_ _
    unfold sp_fd
    rw [hbl, List.getElem?_eq_none c1]
    rfl
  · have hi : bl < E.length := by
      rcases Nat.lt_or_ge bl E.length with h9 | h9
      · exact h9
      · exact absurd (nI_le h9 (by omega)) c1
    obtain ⟨q1, q2⟩ := ho.2.2.1 E[bl] (List.getElem_mem hi)
    have hsm := ob_cmp_small (k := E[bl].1) (m := full.take tl) q2 (fun z hz => htb z (List.mem_of_mem_take hz)) (by omega) (by rw [List.length_take]; omega)
    refine og_aload_n dX6_find_15 rfl rfl ?_
    refine og_iload_n dX6_find_16 rfl ?_
    refine og_aload_n dX6_find_17 rfl rfl ?_
    refine og_iload_n dX6_find_18 rfl ?_
    refine og_callVe dX6_find_19 kvX6_63 (cm_start ha h o1 hble) rfl h1 rfl rfl ⟨by decide, by decide⟩ (by decide) (by decide) (Nat.le_of_ble_eq_true rfl) rfl ?_
    refine og_iload_n dX6_find_22 rfl ?_
    refine og_callVe dX6_find_23 kvX6_55 (cm_compare ha h hi o1 ho.2.1 ht htl hf6 q2 htb) rfl h1 rfl rfl ⟨by decide, by decide⟩ (by decide) (by decide) (Nat.le_of_ble_eq_true rfl) rfl ?_
    have efd : sp_fd E (full.take tl) = if E[bl].1 = full.take tl then some bl else none := by
      unfold sp_fd
      rw [hbl, List.getElem?_eq_getElem hi]
      simp
    refine og_if_ne (tgt := 33) dX6_find_26 (by decide) (fun c2 => ?_) (fun c2 => ?_)
    · have c2 : ¬ E[bl].1 = full.take tl := fun h9 => c2 ((iI_0 hsm.1 hsm.2).mpr (ob_cmp_0.mpr h9))
      exact none9 (by rw [efd, if_neg c2]) _
    · have c2 := ob_cmp_0.mp ((iI_0 hsm.1 hsm.2).mp c2)
      rw [efd, if_pos c2]
      refine og_iload_n dX6_find_29 rfl ?_
      refine og_goto (tgt := 34) dX6_find_30 (by decide) ?_
      exact og_ireturn (ty := .int) rfl dX6_find_34 rfl (by decide) (by decide) ⟨rfl, rfl⟩
end OMC
