/-! THE OBJECT: drop, changeValue -/
section OCC
variable {X : ob_X} {y : ob_y} {R : Room} {Q : ob_r → ob_w → Prop} {pc : Nat} {lv : List (Nat × Value)} {st : List Value} {w : ob_w} {k n : Nat}
theorem og_acmp_neO {rx ry : Option Nat} {off : Int} {tgt : Nat} (hdg : decode y.2.1 pc = .ok (.if_acmp .ne off, 3)) (ht : (pc : Int) + off = (tgt : Int)) (kt : ¬ rx = ry → ob_G X y R Q tgt lv st w k n) (kf : rx = ry → ob_G X y R Q (pc + 3) lv st w k n) : ob_G X y R Q pc lv (va_rf ry :: va_rf rx :: st) w k n := fun p e s m args below meth c C H locs ls a1 a2 a3 a4 => lv_acmp_ne C.1 C.2.1 hdg ht (fun z => kt z p e s m args below meth c C H locs ls a1 a2 a3 a4) (fun z => kf z p e s m args below meth c C H locs ls a1 a2 a3 a4)
end OCC
section OCD
variable {X : ob_X} {T : ob_T} {V : ob_V} {B : ob_B} {J : ob_J} {R : Room} {Q : ob_r → ob_w → Prop} {k n : Nat}
theorem ct_drop {x me mu hp edge hb t nl tp tb rs rr cap N a : Nat} {l : List ob_bk} {tt : ob_t} {K : ob_k} {o : Option Nat} (h : ob_O T V B x me mu hp edge hb t nl tp tb rs rr cap N l tt K) (ha : a ∈ ob_ads tt) (h5 : V x 5 = va_rf o) :
    ob_C X mX5_drop 6 0 0 [.ref x, .ref a] (T, V, B, J) (fun r w' => ∃ V' N' l' tt' L1 L2, r = .inl none ∧ w' = (T, V', B, J) ∧ ob_O T V' B x me mu hp edge hb t nl tp tb rs rr cap N' l' tt' K ∧ ob_ads tt = L1 ++ a :: L2 ∧ ob_ads tt' = L1 ++ L2 ∧ V' x 5 = va_rf (if o = some a then none else o) ∧ (∀ y c z, T y = some (c, z) → (c = 3 ∨ 6 ≤ c) → ∀ j, V' y j = V y j)) := by
  refine ob_C_of (by decide) rfl (Nat.le_of_ble_eq_true rfl) ?_
  obtain ⟨⟨x1, x2, x3, x4, x5, x6, x7, x8⟩, hs, ⟨t1, t2, t3, t4, t5⟩, ⟨en, eo⟩, ⟨r1, r2, r3, r4, r5, r6, r7, r8, r9, r10, r11⟩, n1, n2, n3⟩ := id h
  have nodeT := t1.2.2.2.2.2.1.2
  have tT := t1.1
  have aT := (nodeT a ha).1
  refine og_lv [(0, .ref x), (1, .ref a)] rfl ?_
  refine og_aload_n dX5_drop_0 rfl rfl ?_
  refine og_getf dX5_drop_1 kfX5_31 (by assumption) (by assumption) ?_
  refine og_aload_n dX5_drop_4 rfl rfl ?_
  refine og_callVn dX5_drop_5 kvX5_231 (ct_unlink t1 ha t3 t4 (by rw [ob_siz_len]; omega)) rfl tT rfl rfl ⟨by decide, by decide⟩ (by decide) (by decide) (Nat.le_of_ble_eq_true rfl) rfl (fun E w' h9 => by cases h9.1) (fun v w' h9 => ?_)
  obtain ⟨hv9, V1, tt1, N1, L1, L2, rfl, i1, i2, i3, i4, i5, i6⟩ := h9
  cases hv9
  have nn : ∀ y c z, T y = some (c, z) → c ≠ 2 → y ∉ nl :: ob_ads tt := fun y c z hy hc h9 => by
    have : T y = some (2, 0) := by
      rcases List.mem_cons.mp h9 with rfl | h9
      · exact t1.2.2.2.1.1
      · exact (nodeT y h9).1
    rw [hy] at this; cases this; exact hc rfl
  have nt : ∀ y c z, T y = some (c, z) → c ≠ 4 → y ≠ t := fun y c z hy hc e => by rw [e, tT] at hy; cases hy; exact hc rfl
  have nx : ∀ y c z, T y = some (c, z) → c ≠ 5 → y ≠ x := fun y c z hy hc e => by rw [e, x1] at hy; cases hy; exact hc rfl
  have k1 : ∀ y c z, T y = some (c, z) → c ≠ 2 → c ≠ 4 → ∀ j, V1 y j = V y j := fun y c z hy h2 h4 j => i6 y j (fun h9 => h9.elim (fun h => nt y c z hy h4 h.1) (fun h => nn y c z hy h2 h.1))
  have k1n : ∀ y, T y = some (2, 0) → ∀ j, j < 3 → V1 y j = V y j := fun y hy j hj => i6 y j (fun h9 => h9.elim (fun h => nt y 2 0 hy (by decide) h.1) (fun h => by omega))
  have hs1 : ob_hs T V1 B hp edge hb mu cap (sp_us ((ob_ads tt).map K)) l := hs.keep (fun y c z hy hc => k1 y c z hy (by omega) (by omega)) hs.2.2.2.2.2.2.2.1
  obtain ⟨e1, e2, e3, e4, e5, b, s, e6, e7, e8⟩ := (en a ha).keep (fun j hj => k1n a aT j hj)
  obtain ⟨l1, l2, rfl⟩ := List.append_of_mem e7
  have hhT := hs.1
  have y1 : V1 x 1 = .ref hp := by rw [k1 x 5 0 x1 (by decide) (by decide)]; exact x3
  refine og_aload_n dX5_drop_8 rfl rfl ?_
  refine og_getf dX5_drop_9 kfX5_22 (by assumption) (by assumption) ?_
  refine og_aload_n dX5_drop_12 rfl rfl ?_
  refine og_getf dX5_drop_13 kfX5_196 (by assumption) (by assumption) ?_
  refine og_callVn dX5_drop_16 kvX5_221 (ct_giveBack hs1) rfl hhT rfl rfl ⟨by decide, by decide⟩ (by decide) (by decide) (Nat.le_of_ble_eq_true rfl) rfl (fun E w' h9 => by obtain ⟨_, h9, _⟩ := h9; cases h9) (fun v w' h9 => ?_)
  obtain ⟨V2, hv9, rfl, hle9, ⟨-, g1⟩, hs2⟩ := h9
  cases hv9
  have k2 : ∀ y c z, T y = some (c, z) → 2 ≤ c → ∀ j, V2 y j = V1 y j := fun y c z hy h2 j => g1 y c z hy (by omega) (fun e => by rw [e, hhT] at hy; cases hy; omega) j
  have emap : (ob_ads tt).map K = L1.map K ++ K a :: L2.map K := by rw [i4, List.map_append, List.map_cons]
  have emap1 : (ob_ads tt1).map K = L1.map K ++ L2.map K := by rw [i5, List.map_append]
  have eu : sp_us ((ob_ads tt).map K) = sp_us ((ob_ads tt1).map K) + ob_un ((K a).1.length + (K a).2.length) := by rw [emap, sp_us_app, emap1]
  have ek : sp_kb ((ob_ads tt).map K) = sp_kb ((ob_ads tt1).map K) + (K a).1.length := by rw [emap, sp_kb_app, emap1]
  have ev : sp_vb ((ob_ads tt).map K) = sp_vb ((ob_ads tt1).map K) + (K a).2.length := by rw [emap, sp_vb_app, emap1]
  have y6 : V2 x 6 = .int (nI (sp_kb ((ob_ads tt).map K))) := by rw [k2 x 5 0 x1 (by decide), k1 x 5 0 x1 (by decide) (by decide)]; exact x7
  have y0 : V2 a 0 = .int (nI (K a).1.length) := by rw [k2 a 2 0 aT (by decide)]; exact e4
  have xa : a ≠ x := nx a 2 0 aT (by decide)
  refine og_aload_n dX5_drop_19 rfl rfl ?_
  refine og_dup dX5_drop_20 rfl ?_
  refine og_getf dX5_drop_21 kfX5_158 (by assumption) (by assumption) ?_
  refine og_aload_n dX5_drop_24 rfl rfl ?_
  refine og_getf dX5_drop_25 kfX5_230 (by assumption) (by assumption) ?_
  refine og_isub dX5_drop_28 ?_
  refine og_st [.int (nI (sp_kb ((ob_ads tt1).map K))), .ref x] (by rw [nI_sub (by omega), ek, Nat.add_sub_cancel]; rfl) ?_
  refine og_put dX5_drop_29 kfX5_158 (by assumption) rfl rfl ?_
  have y7 : ob_set V2 x 6 (.int (nI (sp_kb ((ob_ads tt1).map K)))) x 7 = .int (nI (sp_vb ((ob_ads tt).map K))) := by rw [ob_set_k _ _ _ _ _ (by decide), k2 x 5 0 x1 (by decide), k1 x 5 0 x1 (by decide) (by decide)]; exact x8
  have ya1 : ob_set V2 x 6 (.int (nI (sp_kb ((ob_ads tt1).map K)))) a 1 = .int (nI (K a).2.length) := by rw [ob_set_a _ _ _ _ _ xa, k2 a 2 0 aT (by decide)]; exact e5
  refine og_aload_n dX5_drop_32 rfl rfl ?_
  refine og_dup dX5_drop_33 rfl ?_
  refine og_getf dX5_drop_34 kfX5_161 (by assumption) (by assumption) ?_
  refine og_aload_n dX5_drop_37 rfl rfl ?_
  refine og_getf dX5_drop_38 kfX5_225 (by assumption) (by assumption) ?_
  refine og_isub dX5_drop_41 ?_
  refine og_st [.int (nI (sp_vb ((ob_ads tt1).map K))), .ref x] (by rw [nI_sub (by omega), ev, Nat.add_sub_cancel]) ?_
  refine og_put dX5_drop_42 kfX5_161 (by assumption) rfl rfl ?_
  generalize hV3 : ob_set (ob_set V2 x 6 (.int (nI (sp_kb ((ob_ads tt1).map K))))) x 7 (.int (nI (sp_vb ((ob_ads tt1).map K)))) = V3
  have f3 : ∀ y, y ≠ x → ∀ j, V3 y j = V2 y j := fun y hy j => by rw [← hV3]; simp [ob_set, hy]
  have f3x : ∀ j, j ≠ 6 → j ≠ 7 → V3 x j = V x j := fun j h6 h7 => by rw [← k1 x 5 0 x1 (by decide) (by decide) j, ← k2 x 5 0 x1 (by decide) j, ← hV3]; simp [ob_set, h6, h7]
  have f36 : V3 x 6 = .int (nI (sp_kb ((ob_ads tt1).map K))) := by rw [← hV3]; simp [ob_set]
  have f37 : V3 x 7 = .int (nI (sp_vb ((ob_ads tt1).map K))) := by rw [← hV3]; simp [ob_set]
  have f35 : V3 x 5 = va_rf o := by rw [f3x _ (by decide) (by decide)]; exact h5
  refine og_w (T, V3, B, J) (by rw [← hV3]) ?_
  have fin : ∀ V4 : ob_V, (∀ y j, ¬ (y = x ∧ j = 5) → V4 y j = V3 y j) → V4 x 5 = va_rf (if o = some a then none else o) → (fun r w' => ∃ V' N' l' tt' L1 L2, r = .inl none ∧ w' = (T, V', B, J) ∧ ob_O T V' B x me mu hp edge hb t nl tp tb rs rr cap N' l' tt' K ∧ ob_ads tt = L1 ++ a :: L2 ∧ ob_ads tt' = L1 ++ L2 ∧ V' x 5 = va_rf (if o = some a then none else o) ∧ (∀ y c z, T y = some (c, z) → (c = 3 ∨ 6 ≤ c) → ∀ j, V' y j = V y j) : ob_r → ob_w → Prop) (.inl none) (T, V4, B, J) := by
    intro V4 h4 h45
    have f4 : ∀ y c z, T y = some (c, z) → c ≠ 5 → ∀ j, V4 y j = V2 y j := fun y c z hy hc j => (h4 y j (fun h => nx y c z hy hc h.1)).trans (f3 y (nx y c z hy hc) j)
    have keep : ∀ y c z, T y = some (c, z) → (c = 3 ∨ 6 ≤ c) → ∀ j, V4 y j = V y j := fun y c z hy hc j => by
      rw [f4 y c z hy (by omega), k2 y c z hy (by omega), k1 y c z hy (by omega) (by omega)]
    have hnd := i1.2.2.2.2.2.2
    have hndt := t1.2.2.2.2.2.2
    have nda : ∀ y, y ∈ L1 ∨ y ∈ L2 → y ≠ a := fun y hy e => by
      subst e
      rw [i4, List.nodup_append] at hndt
      rcases hy with hy | hy
      · exact hndt.2.2 y hy y (by simp) rfl
      · exact (List.nodup_cons.mp hndt.2.1).1 hy
    have hbn := hs.2.2.2.2.2.2.2.2.1.2.2.1
    have hbn2 := hs2.2.2.2.2.2.2.2.2.1.2.2.1
    refine ⟨V4, N1, l1 ++ (b, s, ob_un ((K a).1.length + (K a).2.length), none) :: l2, tt1, L1, L2, rfl, rfl, ⟨⟨x1, ?_, ?_, ?_, ?_, ?_, ?_, ?_⟩, ?_, ⟨?_, ?_, i2, i3, ?_⟩, ⟨fun y hy => ?_, fun b2 s2 u2 y h9 => ?_⟩, ⟨r1, ?_, r3, r4, r5, ?_, r7, r8, r9, r10, r11⟩, ?_, n2, n3⟩, i4, i5, h45, keep⟩
    · rw [h4 x 0 (by omega), f3x _ (by decide) (by decide)]; exact x2
    · rw [h4 x 1 (by omega), f3x _ (by decide) (by decide)]; exact x3
    · rw [h4 x 2 (by omega), f3x _ (by decide) (by decide)]; exact x4
    · rw [h4 x 3 (by omega), f3x _ (by decide) (by decide)]; exact x5
    · rw [h4 x 4 (by omega), f3x _ (by decide) (by decide)]; exact x6
    · rw [h4 x 6 (by omega)]; exact f36
    · rw [h4 x 7 (by omega)]; exact f37
    · have e9 : sp_us ((ob_ads tt1).map K) = sp_us ((ob_ads tt).map K) - ob_un ((K a).1.length + (K a).2.length) := by omega
      rw [e9]
      exact hs2.keep (fun y c z hy hc => f4 y c z hy (by omega)) hs2.2.2.2.2.2.2.2.1
    · refine i1.keep (fun _ _ h => h) (fun y c z hy h9 j _ => ?_)
      have hc : c = 4 ∨ c = 2 := by
        rcases h9 with rfl | rfl
        · rw [tT] at hy; cases hy; exact Or.inl rfl
        · exact Or.inr rfl
      rw [f4 y c z hy (by omega), k2 y c z hy (by omega)]
    · rw [f4 t 4 0 tT (by decide), k2 t 4 0 tT (by decide), i6 t 0 (fun h9 => h9.elim (fun h => by omega) (fun h => by omega))]; exact t2
    · rw [← sp_so_of, emap1]
      have so0 := sp_so_of.mpr t5
      rw [emap] at so0
      exact List.Pairwise.sublist (List.Sublist.append_left (List.sublist_cons_self _ _) _) so0
    · rw [i5, List.mem_append] at hy
      have hyL : y ∈ ob_ads tt := by rw [i4]; simp only [List.mem_append, List.mem_cons]; exact hy.imp id Or.inr
      have hyT := (nodeT y hyL).1
      obtain ⟨q1, q2, q3, q4, q5, b', s', q6, q7, q8⟩ := (en y hyL).keep (V' := V4) (fun j hj => by rw [f4 y 2 0 hyT (by decide), k2 y 2 0 hyT (by decide), k1n y hyT j hj])
      refine ⟨q1, q2, q3, q4, q5, b', s', q6, ?_, q8⟩
      rcases List.mem_append.mp q7 with h9 | h9
      · exact List.mem_append_left _ h9
      · rcases List.mem_cons.mp h9 with h9 | h9
        · exact absurd (Option.some.inj (congrArg (fun z : ob_bk => z.2.2.2) h9)) (nda y hy)
        · exact List.mem_append_right _ (List.mem_cons_of_mem _ h9)
    · have h8 : ((b2, s2, u2, some y) : ob_bk) ∈ l1 ++ (b, s, ob_un ((K a).1.length + (K a).2.length), some a) :: l2 := by
        rcases List.mem_append.mp h9 with h9 | h9
        · exact List.mem_append_left _ h9
        · rcases List.mem_cons.mp h9 with h9 | h9
          · cases h9
          · exact List.mem_append_right _ (List.mem_cons_of_mem _ h9)
      obtain ⟨q1, q2⟩ := eo _ _ _ _ h8
      have hyT := (nodeT y q1).1
      have e9 : V4 y 2 = V y 2 := by rw [f4 y 2 0 hyT (by decide), k2 y 2 0 hyT (by decide), k1n y hyT 2 (by decide)]
      refine ⟨?_, by rw [e9]; exact q2⟩
      rw [i4] at q1
      rw [i5, List.mem_append]
      simp only [List.mem_append, List.mem_cons] at q1
      rcases q1 with h7 | rfl | h7
      · exact Or.inl h7
      · exfalso
        rw [k1n y aT 2 (by decide)] at e6
        rw [q2] at e6
        cases e6
        have := ob_nd_inj (List.nodup_cons.mp hbn2).2 _ h9 (b, s, ob_un ((K y).1.length + (K y).2.length), none) (by simp) rfl
        cases (congrArg (fun z : ob_bk => z.2.2.2) this)
      · exact Or.inr h7
    · rw [keep tp 3 0 r1 (Or.inl rfl)]; exact r2
    · rw [keep rs 3 0 r5 (Or.inl rfl)]; exact r6
    · rw [i5]; rw [i4] at n1; simp only [List.length_append, List.length_cons] at n1 ⊢; omega
  refine og_aload_n dX5_drop_45 rfl rfl ?_
  refine og_getf dX5_drop_46 kfX5_92 (by assumption) (by assumption) ?_
  refine og_aload_n dX5_drop_49 rfl rfl ?_
  refine og_acmp_neO (rx := o) (ry := some a) (tgt := 58) dX5_drop_50 (by decide) (fun hc => ?_) (fun hc => ?_)
  · refine og_return rfl dX5_drop_58 (by decide) (by decide) (fin V3 (fun _ _ _ => rfl) ?_)
    rw [if_neg hc]; exact f35
  · refine og_aload_n dX5_drop_53 rfl rfl ?_
    refine og_null dX5_drop_54 ?_
    refine og_put dX5_drop_55 kfX5_92 (by assumption) rfl rfl ?_
    refine og_return rfl dX5_drop_58 (by decide) (by decide) (fin _ (fun y j h9 => if_neg h9) ?_)
    rw [if_pos hc]; exact ob_set_s _ _ _ _
theorem ob_gr_ok {l : List ob_bk} {lim cap used u g : Nat} (h : ob_gr l lim cap used u = g) (hu : used + u ≤ lim) : g = 0 ∨ ((2 * cap ≤ g ∨ g = lim) ∧ cap < g ∧ g ≤ lim) := by
  unfold ob_gr at h
  split at h
  · omega
  · exact Or.inl h.symm
end OCD
