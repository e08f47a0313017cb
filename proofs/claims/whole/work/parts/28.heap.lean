/-! THE HEAP: giveBack, empty, write, read, <init>, isSound; Row.<init>, Tree.<init> -/
def ob_fs1 (j : Nat) : Value := if j = 1 ∨ j = 4 then .null else .int 0
theorem ob_fs1_ok : ∀ j, j < 5 → defaultValue (ob_ty 1 j) = ob_fs1 j := by
  intro j hj
  match j, hj with
  | 0, _ => rfl
  | 1, _ => rfl
  | 2, _ => rfl
  | 3, _ => rfl
  | 4, _ => rfl
def ob_fs2 (j : Nat) : Value := if j < 2 ∨ 6 ≤ j then .int 0 else .null
theorem ob_fs2_ok : ∀ j, j < 8 → defaultValue (ob_ty 2 j) = ob_fs2 j := by
  intro j hj
  match j, hj with
  | 0, _ => rfl
  | 1, _ => rfl
  | 2, _ => rfl
  | 3, _ => rfl
  | 4, _ => rfl
  | 5, _ => rfl
  | 6, _ => rfl
  | 7, _ => rfl
def ob_fs3 (j : Nat) : Value := if j = 1 then .int 0 else .null
theorem ob_fs3_ok : ∀ j, j < 2 → defaultValue (ob_ty 3 j) = ob_fs3 j := by
  intro j hj
  match j, hj with
  | 0, _ => rfl
  | 1, _ => rfl
theorem ob_fs4_ok : ∀ j, j < 3 → defaultValue (ob_ty 4 j) = (fun _ => Value.null) j := by
  intro j hj
  match j, hj with
  | 0, _ => rfl
  | 1, _ => rfl
  | 2, _ => rfl
section OBW
variable {X : ob_X} {T : ob_T} {V : ob_V} {B : ob_B} {J : ob_J} {R : Room} {Q : ob_r → ob_w → Prop} {k n : Nat}
theorem ct_giveBack {hp edge hb lim cap used a b s u : Nat} {l1 l2 : List ob_bk} (h : ob_hs T V B hp edge hb lim cap used (l1 ++ (b, s, u, some a) :: l2)) : ob_C X mX1_giveBack 0 0 0 [.ref hp, .ref b] (T, V, B, J) (fun r w' => ∃ V', r = .inl none ∧ w' = (T, V', B, J) ∧ u ≤ used ∧ ob_hg hp T V T V' ∧ ob_hs T V' B hp edge hb lim cap (used - u) (l1 ++ (b, s, u, none) :: l2)) := by
  refine ob_C_of (by decide) rfl (Nat.le_of_ble_eq_true rfl) ?_
  obtain ⟨h1, h2, h3, h4, h5, h6, h7, h8, h9, h10, h11, h12⟩ := id h
  obtain ⟨g1, g2, g3, g4⟩ := id h9
  obtain ⟨v9, k1, rfl, k2, k3, k4, k5, k6⟩ := ob_sg_app.mp g2
  have bhp : b ≠ hp := fun e => by rw [e, h1] at k2; cases k2
  have hle := (ob_til_le g4).2 (b, s, u, some a) (by simp)
  have hus : ob_us l1 + (u + ob_us l2) = used := by rw [← h10, ob_us_app]; rfl
  have huu : used ≤ 4096 := by have := ob_us_le g4; omega
  have e2 : ob_set V b 2 .null hp 2 = .int (nI used) := by rw [ob_set_a _ _ _ _ _ bhp.symm]; exact h4
  have e1 : ob_set V b 2 .null b 1 = .int (nI u) := by rw [ob_set_k _ _ _ _ _ (by decide)]; exact k4
  refine og_aload_n dX1_giveBack_0 rfl rfl ?_
  refine og_null dX1_giveBack_1 ?_
  refine og_put dX1_giveBack_2 kfX1_59 (by assumption) rfl rfl ?_
  refine og_aload_n dX1_giveBack_5 rfl rfl ?_
  refine og_dup dX1_giveBack_6 rfl ?_
  refine og_getf dX1_giveBack_7 kfX1_44 (by assumption) (by assumption) ?_
  refine og_aload_n dX1_giveBack_10 rfl rfl ?_
  refine og_getf dX1_giveBack_11 kfX1_63 (by assumption) (by assumption) ?_
  refine og_isub dX1_giveBack_14 ?_
  refine og_put dX1_giveBack_15 kfX1_44 (by assumption) rfl rfl ?_
  refine og_return rfl dX1_giveBack_18 (by decide) (by decide) ?_
  rw [nI_sub (by omega)]
  generalize hV2 : ob_set (ob_set V b 2 .null) hp 2 (.int (nI (used - u))) = V2
  have far : ∀ x j, x ≠ b → x ≠ hp → V2 x j = V x j := fun x j ha hb => by rw [← hV2]; simp [ob_set, ha, hb]
  have hpj : ∀ j, j ≠ 2 → V2 hp j = V hp j := fun j hj => by rw [← hV2]; simp [ob_set, hj]
  have hp2 : V2 hp 2 = .int (nI (used - u)) := by rw [← hV2]; simp [ob_set]
  have bj : ∀ j, j ≠ 2 → V2 b j = V b j := fun j hj => by rw [← hV2]; simp [ob_set, hj]
  have b2 : V2 b 2 = .null := by rw [← hV2]; simp [ob_set, bhp]
  have hnd2 := g3
  simp only [List.map_append, List.map_cons, List.nodup_cons, List.nodup_append, List.mem_append, List.mem_cons] at hnd2
  have hh : ∀ x, T x = some (0, 0) → x ≠ hp := fun x hx e => by rw [e, h1] at hx; cases hx
  have eb : edge ≠ b := fun e => hnd2.1 (Or.inr (Or.inl e))
  refine ⟨V2, rfl, by rw [← hV2], by omega, ⟨fun _ _ h => h, fun x c n9 hx hc hne j => far x j (fun e => by rw [e, k2] at hx; cases hx; exact hc rfl) hne⟩, h1, by rw [hpj _ (by decide)]; exact h2, by rw [hpj _ (by decide)]; exact h3, hp2, by rw [hpj _ (by decide)]; exact h5, by rw [hpj _ (by decide)]; exact h6, h7, h8, ⟨g1, ?_, ?_, ?_⟩, ?_, h11, h12⟩
  · rw [far edge 3 eb (hh edge g1)]
    refine ob_sg_app.mpr ⟨.ref b, ob_sg_congr (fun x hx j => far x j (fun e => hnd2.2.2.2 x hx b (Or.inl rfl) e) (hh x (ob_sg_T k1 x hx))) k1, rfl, k2, by rw [bj _ (by decide)]; exact k3, by rw [bj _ (by decide)]; exact k4, b2, ?_⟩
    rw [bj _ (by decide)]
    exact ob_sg_congr (fun x hx j => far x j (fun e => hnd2.2.2.1.1 (e ▸ hx)) (hh x (ob_sg_T k6 x hx))) k6
  · simpa using g3
  · obtain ⟨mid, t1, t2⟩ := ob_til_app.mp g4
    exact ob_til_app.mpr ⟨mid, t1, t2⟩
  · rw [ob_us_app]
    simp only [ob_us]
    omega
theorem ct_Hempty {hp edge hb lim cap used : Nat} {l : List ob_bk} (h : ob_hs T V B hp edge hb lim cap used l) (hc1 : 1 ≤ cap) : ob_C X mX1_empty 2 1 4 [.ref hp] (T, V, B, J) (fun r w' => ∃ T' V' l', r = .inl none ∧ w' = (T', V', B, J) ∧ ob_hg hp T V T' V' ∧ ob_hs T' V' B hp edge hb lim cap 0 l' ∧ ∀ b s u a, ((b, s, u, some a) : ob_bk) ∉ l') := by
  refine ob_C_of (by decide) rfl (Nat.le_of_ble_eq_true rfl) ?_
  obtain ⟨h1, h2, h3, h4, h5, h6, h7, h8, h9, h10, h11, h12⟩ := id h
  obtain ⟨g1, g2, g3, g4⟩ := id h9
  refine og_aload_n dX1_empty_0 rfl rfl ?_
  refine og_getf dX1_empty_1 kfX1_33 (by assumption) (by assumption) ?_
  refine og_new dX1_empty_4 kc0 klX1_28 kn0 kt0 ob_fs0_ok (by decide) (by decide) (fun q hq _ => ?_)
  have hq : T q = none := hq
  obtain ⟨nT1, nT2⟩ := ob_new_ext (c := 0) (n := 0) hq
  have ne : ∀ x y, T x = some y → x ≠ q := fun x y hx e => by rw [e, hq] at hx; cases hx
  have h1' := nT1 _ _ h1
  have g1' := nT1 _ _ g1
  have hpq := ne _ _ h1
  have eq := ne _ _ g1
  have c1 : ob_row V q ob_fs0 hp 3 = .int (nI cap) := by simp [ob_row, hpq, h5]
  generalize hT' : ob_new T q 0 0 = T' at *
  refine og_dup dX1_empty_7 rfl ?_
  refine og_iconst (v := 0) dX1_empty_8 (by decide) ?_
  refine og_aload_n dX1_empty_9 rfl rfl ?_
  refine og_getf dX1_empty_10 kfX1_21 (by assumption) (by assumption) ?_
  refine og_callIe dX1_empty_13 kiX1_30 (ct_Block nT2) rfl rfl ⟨by decide, by decide⟩ (by decide) (by decide) (Nat.le_of_ble_eq_true rfl) ?_
  refine og_put dX1_empty_16 kfX1_37 (by assumption) rfl rfl ?_
  refine og_aload_n dX1_empty_19 rfl rfl ?_
  refine og_iconst (v := 0) dX1_empty_20 (by decide) ?_
  refine og_put dX1_empty_21 kfX1_44 (by assumption) rfl rfl ?_
  refine og_return rfl dX1_empty_24 (by decide) (by decide) ?_
  have ehp : edge ≠ hp := fun e => by rw [e, h1] at g1; cases g1
  generalize hV2 : ob_set (ob_set (ob_set (ob_set (ob_row V q ob_fs0) q 0 (.int 0)) q 1 (.int (nI cap))) edge 3 (.ref q)) hp 2 (.int 0) = V2
  have far : ∀ x j, x ≠ q → x ≠ edge → x ≠ hp → V2 x j = V x j := fun x j ha hb hc => by rw [← hV2]; simp [ob_set, ob_row, ha, hb, hc]
  have hpj : ∀ j, j ≠ 2 → V2 hp j = V hp j := fun j hj => by rw [← hV2]; simp [ob_set, ob_row, hj, hpq, ehp.symm]
  have hp2 : V2 hp 2 = .int 0 := by rw [← hV2]; simp [ob_set]
  have q0 : V2 q 0 = .int 0 := by rw [← hV2]; simp [ob_set, hpq.symm, eq.symm]
  have q1 : V2 q 1 = .int (nI cap) := by rw [← hV2]; simp [ob_set, hpq.symm, eq.symm]
  have q2 : V2 q 2 = .null := by rw [← hV2]; simp [ob_set, ob_row, ob_fs0, hpq.symm, eq.symm]
  have q3 : V2 q 3 = .null := by rw [← hV2]; simp [ob_set, ob_row, ob_fs0, hpq.symm, eq.symm]
  have e3 : V2 edge 3 = .ref q := by rw [← hV2]; simp [ob_set, ehp]
  refine ⟨T', V2, [(q, 0, cap, none)], rfl, by rw [← hV2], ⟨nT1, fun x c n9 hx hc hne j => far x j (ne _ _ hx) (fun e => by rw [e, g1] at hx; cases hx; exact hc rfl) hne⟩, ⟨h1', by rw [hpj _ (by decide)]; exact h2, by rw [hpj _ (by decide)]; exact h3, hp2, by rw [hpj _ (by decide)]; exact h5, by rw [hpj _ (by decide)]; exact h6, nT1 _ _ h7, h8, ⟨g1', ?_, ?_, ?_⟩, rfl, h11, h12⟩, by simp⟩
  · rw [e3]; exact ⟨rfl, nT2, q0, q1, q2, q3⟩
  · simp [eq]
  · exact ⟨rfl, hc1, Nat.zero_add _⟩
theorem ct_write {hp edge hb lim cap used b s u rw9 ra nr len : Nat} {o : Option Nat} {l : List ob_bk} (h : ob_hs T V B hp edge hb lim cap used l) (hb9 : T b = some (0, 0)) (hb0 : V b 0 = .int (nI s)) (hsu : s + u ≤ cap) (hr : T rw9 = some (3, 0)) (hr0 : V rw9 0 = .ref ra) (hra : T ra = some (7, nr)) (hnr : nr < 1000000) (hF : sb_Fit (B ra)) (hl : len ≤ nr) (hlu : len ≤ 16 * u) : ob_C X mX1_write 2 0 0 [.ref hp, .ref b, .ref rw9, .int (nI len)] (T, V, B, J) (ob_e none (T, V, ob_row B hb (va_cpy (B ra) (B hb) 0 (16 * s) len), J)) := by
  refine ob_C_of (by decide) rfl (Nat.le_of_ble_eq_true rfl) ?_
  obtain ⟨h1, h2, h3, h4, h5, h6, h7, h8, h9, h10, h11, h12⟩ := id h
  refine og_aload_n dX1_write_0 rfl rfl ?_
  refine og_getf dX1_write_1 kfX1_66 (by assumption) (by assumption) ?_
  refine og_iconst (v := 0) dX1_write_4 (by decide) ?_
  refine og_aload_n dX1_write_5 rfl rfl ?_
  refine og_getf dX1_write_6 kfX1_24 (by assumption) (by assumption) ?_
  refine og_aload_n dX1_write_9 rfl rfl ?_
  refine og_getf dX1_write_10 kfX1_69 (by assumption) (by assumption) ?_
  refine og_bipush (v := 16) dX1_write_13 (by decide) ?_
  refine og_imul dX1_write_15 ?_
  refine og_iload_n dX1_write_16 rfl ?_
  refine og_st [.int (nI len), .int (nI (16 * s)), .ref hb, .int (nI 0), .ref ra] (by rw [← nI_16 s] <;> rfl) ?_
  refine og_callSne dX1_write_17 knX1_72 (ct_copy hra h7 (i0 := 0) (i1 := 16 * s) (len := len) (by omega) (by omega) ⟨by omega, by omega⟩ (fun i _ => hF _)) rfl rfl ⟨by decide, by decide⟩ (by decide) (by decide) (by decide) rfl ?_
  exact og_return rfl dX1_write_20 (by decide) (by decide) ⟨rfl, rfl⟩
theorem ct_read {hp edge hb lim cap used b s sk rw9 ra nr len : Nat} {l : List ob_bk} (h : ob_hs T V B hp edge hb lim cap used l) (hb9 : T b = some (0, 0)) (hb0 : V b 0 = .int (nI s)) (hsu : 16 * s + sk + len ≤ 16 * cap) (hr : T rw9 = some (3, 0)) (hr0 : V rw9 0 = .ref ra) (hra : T ra = some (7, nr)) (hnr : nr < 1000000) (hl : len ≤ nr) : ob_C X mX1_read 2 0 0 [.ref hp, .ref b, .int (nI sk), .int (nI len), .ref rw9] (T, V, B, J) (ob_e none (T, ob_set V rw9 1 (.int (nI len)), ob_row B ra (va_cpy (B hb) (B ra) (16 * s + sk) 0 len), J)) := by
  refine ob_C_of (by decide) rfl (Nat.le_of_ble_eq_true rfl) ?_
  obtain ⟨h1, h2, h3, h4, h5, h6, h7, h8, h9, h10, h11, h12⟩ := id h
  refine og_aload_n dX1_read_0 rfl rfl ?_
  refine og_getf dX1_read_1 kfX1_24 (by assumption) (by assumption) ?_
  refine og_aload_n dX1_read_4 rfl rfl ?_
  refine og_getf dX1_read_5 kfX1_69 (by assumption) (by assumption) ?_
  refine og_bipush (v := 16) dX1_read_8 (by decide) ?_
  refine og_imul dX1_read_10 ?_
  refine og_iload_n dX1_read_11 rfl ?_
  refine og_iadd dX1_read_12 ?_
  refine og_aload dX1_read_13 rfl rfl ?_
  refine og_getf dX1_read_15 kfX1_66 (by assumption) (by assumption) ?_
  refine og_iconst (v := 0) dX1_read_18 (by decide) ?_
  refine og_iload_n dX1_read_19 rfl ?_
  refine og_st [.int (nI len), .int (nI 0), .ref ra, .int (nI (16 * s + sk)), .ref hb] (by rw [← nI_add (16 * s) sk, ← nI_16 s] <;> rfl) ?_
  refine og_callSne dX1_read_20 knX1_72 (ct_copy h7 hra (i0 := 16 * s + sk) (i1 := 0) (len := len) (by omega) (by omega) ⟨by omega, by omega⟩ (fun i _ => h8 _)) rfl rfl ⟨by decide, by decide⟩ (by decide) (by decide) (by decide) rfl ?_
  refine og_aload dX1_read_23 rfl rfl ?_
  refine og_iload_n dX1_read_25 rfl ?_
  refine og_put dX1_read_26 kfX1_76 (by assumption) rfl rfl ?_
  exact og_return rfl dX1_read_29 (by decide) (by decide) ⟨rfl, rfl⟩
theorem hsound_loop {hp : Nat} {cap : Nat} (hcap : cap ≤ 4096) : ∀ (l : List ob_bk) (e t : Nat) (v : Value), ob_sg T V l v .null → ob_til l e cap → t ≤ e →
    ob_G X mX1_isSound R Q 67 [(0, .ref hp), (1, .int (nI cap)), (2, .int (nI (t + ob_us l)))] [] (T, V, B, J) k n → ob_G X mX1_isSound R Q 12 [(0, .ref hp), (1, .int (nI e)), (2, .int (nI t)), (3, v)] [] (T, V, B, J) k n := by
  intro l
  induction l with
  | nil =>
    intro e t v h1 h2 h3 kk
    have hv : v = .null := h1
    have he : e = cap := h2
    subst hv
    subst he
    refine og_aload_n dX1_isSound_12 rfl rfl ?_
    refine og_ifnullN (tgt := 67) dX1_isSound_13 (by decide) ?_
    exact og_lv [(0, .ref hp), (1, .int (nI e)), (2, .int (nI t))] rfl kk
  | cons f l ih =>
    obtain ⟨b, s, u, o⟩ := f
    intro e t v h1 h2 h3 kk
    obtain ⟨rfl, g1, g2, g3, g4, g5⟩ := h1
    obtain ⟨rfl, q2, q3⟩ := h2
    have hle := (ob_til_le q3).1
    have hrf := ob_sg_v g5
    refine og_aload_n dX1_isSound_12 rfl rfl ?_
    refine og_ifnull dX1_isSound_13 ?_
    refine og_aload_n dX1_isSound_16 rfl rfl ?_
    refine og_getf dX1_isSound_17 kfX1_69 (by assumption) (by assumption) ?_
    refine og_iload_n dX1_isSound_20 rfl ?_
    refine og_icmp_ne (tgt := 32) dX1_isSound_21 (by decide) (fun z9 => absurd (rfl) z9) (fun _ => ?_)
    refine og_aload_n dX1_isSound_24 rfl rfl ?_
    refine og_getf dX1_isSound_25 kfX1_63 (by assumption) (by assumption) ?_
    refine og_iconst (v := 1) dX1_isSound_28 (by decide) ?_
    refine og_icmp_ge (tgt := 34) dX1_isSound_29 (by decide) (fun _ => ?_) (fun z9 => absurd (nI_le (a := 1) q2 (by omega)) z9)
    refine og_iload_n dX1_isSound_34 rfl ?_
    refine og_aload_n dX1_isSound_35 rfl rfl ?_
    refine og_getf dX1_isSound_36 kfX1_63 (by assumption) (by assumption) ?_
    refine og_iadd dX1_isSound_39 ?_
    refine og_istore_n dX1_isSound_40 (by decide) ?_
    refine og_iload_n dX1_isSound_41 rfl ?_
    refine og_aload_n dX1_isSound_42 rfl rfl ?_
    cases o with
    | none =>
      have g4 : V b 2 = .null := g4
      refine og_getf dX1_isSound_43 kfX1_59 (by assumption) (by assumption) ?_
      refine og_ifnonnullN dX1_isSound_46 ?_
      refine og_iconst (v := 0) dX1_isSound_49 (by decide) ?_
      refine og_goto (tgt := 57) dX1_isSound_50 (by decide) ?_
      refine og_iadd dX1_isSound_57 ?_
      refine og_st [.int (nI t)] (by rw [Int32.add_zero]) ?_
      refine og_istore_n dX1_isSound_58 (by decide) ?_
      refine og_aload_n dX1_isSound_59 rfl rfl ?_
      refine og_getf dX1_isSound_60 kfX1_37 g1 rfl ?_
      refine og_astore_n dX1_isSound_63 (by decide) hrf ?_
      refine og_goto (tgt := 12) dX1_isSound_64 (by decide) ?_
      refine og_lv [(0, .ref hp), (1, .int (nI (s + u))), (2, .int (nI t)), (3, V b 3)] (by rw [← nI_add]; rfl) ?_
      exact ih (s + u) t _ g5 q3 (by omega) kk
    | some a =>
      have g4 : V b 2 = .ref a := g4
      refine og_getf dX1_isSound_43 kfX1_59 (by assumption) (by assumption) ?_
      refine og_ifnonnull (tgt := 53) dX1_isSound_46 (by decide) ?_
      refine og_aload_n dX1_isSound_53 rfl rfl ?_
      refine og_getf dX1_isSound_54 kfX1_63 (by assumption) (by assumption) ?_
      refine og_iadd dX1_isSound_57 ?_
      refine og_istore_n dX1_isSound_58 (by decide) ?_
      refine og_aload_n dX1_isSound_59 rfl rfl ?_
      refine og_getf dX1_isSound_60 kfX1_37 g1 rfl ?_
      refine og_astore_n dX1_isSound_63 (by decide) hrf ?_
      refine og_goto (tgt := 12) dX1_isSound_64 (by decide) ?_
      refine og_lv [(0, .ref hp), (1, .int (nI (s + u))), (2, .int (nI (t + u))), (3, V b 3)] (by rw [← nI_add, ← nI_add]; rfl) ?_
      exact ih (s + u) (t + u) _ g5 q3 (by omega) (by rw [Nat.add_assoc]; exact kk)
theorem ct_Hsound {hp edge hb lim cap used : Nat} {l : List ob_bk} (h : ob_hs T V B hp edge hb lim cap used l) : ob_C X mX1_isSound 0 0 0 [.ref hp] (T, V, B, J) (ob_e (some (.int 1)) (T, V, B, J)) := by
  refine ob_C_of (by decide) rfl (Nat.le_of_ble_eq_true rfl) ?_
  obtain ⟨h1, h2, h3, h4, h5, h6, h7, h8, h9, h10, h11, h12⟩ := id h
  obtain ⟨g1, g2, g3, g4⟩ := id h9
  refine og_lv [(0, .ref hp)] rfl ?_
  refine og_iconst (v := 0) dX1_isSound_0 (by decide) ?_
  refine og_istore_n dX1_isSound_1 (by decide) ?_
  refine og_iconst (v := 0) dX1_isSound_2 (by decide) ?_
  refine og_istore_n dX1_isSound_3 (by decide) ?_
  refine og_aload_n dX1_isSound_4 rfl rfl ?_
  refine og_getf dX1_isSound_5 kfX1_33 (by assumption) (by assumption) ?_
  refine og_getf dX1_isSound_8 kfX1_37 g1 rfl ?_
  refine og_astore_n dX1_isSound_11 (by decide) (ob_sg_v g2) ?_
  refine og_lv [(0, .ref hp), (1, .int (nI 0)), (2, .int (nI 0)), (3, V edge 3)] rfl ?_
  refine hsound_loop (cap := cap) (by omega) l 0 0 _ g2 g4 (Nat.le_refl _) ?_
  rw [Nat.zero_add, h10]
  refine og_iload_n dX1_isSound_67 rfl ?_
  refine og_aload_n dX1_isSound_68 rfl rfl ?_
  refine og_getf dX1_isSound_69 kfX1_21 (by assumption) (by assumption) ?_
  refine og_icmp_ne (tgt := 113) dX1_isSound_72 (by decide) (fun z9 => absurd (rfl) z9) (fun _ => ?_)
  refine og_aload_n dX1_isSound_75 rfl rfl ?_
  refine og_getf dX1_isSound_76 kfX1_21 (by assumption) (by assumption) ?_
  refine og_aload_n dX1_isSound_79 rfl rfl ?_
  refine og_getf dX1_isSound_80 kfX1_9 (by assumption) (by assumption) ?_
  refine og_icmp_gt (tgt := 113) dX1_isSound_83 (by decide) (fun z9 => absurd z9 (fun h9 => absurd (nI_le h11 (by omega)) (Int32.not_le.mpr h9))) (fun _ => ?_)
  refine og_aload_n dX1_isSound_86 rfl rfl ?_
  refine og_getf dX1_isSound_87 kfX1_24 (by assumption) (by assumption) ?_
  refine og_alen dX1_isSound_90 (by assumption) (by decide) ?_
  refine og_aload_n dX1_isSound_91 rfl rfl ?_
  refine og_getf dX1_isSound_92 kfX1_21 (by assumption) (by assumption) ?_
  refine og_bipush (v := 16) dX1_isSound_95 (by decide) ?_
  refine og_imul dX1_isSound_97 ?_
  refine og_icmp_ne (tgt := 113) dX1_isSound_98 (by decide) (fun z9 => absurd (by rw [nI_16]) z9) (fun _ => ?_)
  refine og_iload_n dX1_isSound_101 rfl ?_
  refine og_aload_n dX1_isSound_102 rfl rfl ?_
  refine og_getf dX1_isSound_103 kfX1_44 (by assumption) (by assumption) ?_
  refine og_icmp_ne (tgt := 113) dX1_isSound_106 (by decide) (fun z9 => absurd (rfl) z9) (fun _ => ?_)
  refine og_iconst (v := 1) dX1_isSound_109 (by decide) ?_
  refine og_goto (tgt := 114) dX1_isSound_110 (by decide) ?_
  exact og_ireturn (ty := .boolean) rfl dX1_isSound_114 rfl (by decide) (by decide) ⟨rfl, rfl⟩
theorem ct_Row {r m : Nat} (hr : T r = some (3, 0)) (hm : m ≤ 100000) : ob_C X mX3_init 1 1 m [.ref r, .int (nI m)] (T, V, B, J) (fun x w' => ∃ ra, T ra = none ∧ x = .inl none ∧ w' = (ob_new T ra 7 m, ob_set V r 0 (.ref ra), ob_row B ra (fun _ => 0), ob_row J ra (fun _ => 0))) := by
  refine ob_C_of (by decide) rfl (Nat.le_of_ble_eq_true rfl) ?_
  refine og_lv [(0, .ref r), (1, .int (nI m))] rfl ?_
  refine og_aload_n dX3_init_0 rfl rfl ?_
  refine og_objInit dX3_init_1 kOX3_1 kOi kOc (Nat.le_of_ble_eq_true rfl) (Nat.le_of_ble_eq_true rfl) ?_
  refine og_aload_n dX3_init_4 rfl rfl ?_
  refine og_iload_n dX3_init_5 rfl ?_
  refine og_newa (t := 0) dX3_init_6 (Or.inl ⟨rfl, rfl⟩) kAB rfl (by omega) (Nat.le_refl 1) (by show 0 + m ≤ m; omega) (fun q hq _ => ?_)
  have hq : T q = none := hq
  obtain ⟨nT1, nT2⟩ := ob_new_ext (c := 7) (n := m) hq
  refine og_putF dX3_init_8 kfX3_7 rfl rfl (nT1 _ _ hr) rfl rfl ?_
  exact og_return rfl dX3_init_11 (Nat.le_refl _) (by show 0 + m ≤ m; omega) ⟨q, hq, rfl, rfl⟩
theorem ct_Tree {t hp : Nat} (ht : T t = some (4, 0)) (hh : T hp = some (1, 0)) : ob_C X mX4_init 2 1 8 [.ref t, .ref hp] (T, V, B, J) (fun x w' => ∃ nl T' V', T nl = none ∧ x = .inl none ∧ w' = (T', V', B, J) ∧ (∀ x y, T x = some y → T' x = some y) ∧ ob_tr T' V' t nl .leaf ∧ V' t 0 = .ref hp ∧ ∀ x y, T x = some y → x ≠ t → ∀ j, V' x j = V x j) := by
  refine ob_C_of (by decide) rfl (Nat.le_of_ble_eq_true rfl) ?_
  refine og_lv [(0, .ref t), (1, .ref hp)] rfl ?_
  refine og_aload_n dX4_init_0 rfl rfl ?_
  refine og_objInit dX4_init_1 kOX4_3 kOi kOc (by decide) (by decide) ?_
  refine og_aload_n dX4_init_4 rfl rfl ?_
  refine og_aload_n dX4_init_5 rfl rfl ?_
  refine og_putF dX4_init_6 kfX4_9 rfl rfl (by assumption) rfl rfl ?_
  refine og_aload_n dX4_init_9 rfl rfl ?_
  refine og_new dX4_init_10 kc2 klX4_15 kn2 kt2 ob_fs2_ok (by decide) (by decide) (fun q hq _ => ?_)
  have hq : T q = none := hq
  obtain ⟨nT1, nT2⟩ := ob_new_ext (c := 2) (n := 0) hq
  have ne : ∀ x y, T x = some y → x ≠ q := fun x y hx e => by rw [e, hq] at hx; cases hx
  have ht' := nT1 _ _ ht
  have htq := ne _ _ ht
  generalize hT' : ob_new T q 2 0 = T' at *
  refine og_dup dX4_init_13 rfl ?_
  refine og_iconst (v := 0) dX4_init_14 (by decide) ?_
  refine og_callIe dX4_init_15 kiX4_17 (ct_Node nT2) rfl rfl ⟨by decide, by decide⟩ (by decide) (by decide) (Nat.le_of_ble_eq_true rfl) ?_
  refine og_putF dX4_init_18 kfX4_20 rfl rfl ht' rfl rfl ?_
  generalize hV1 : ob_set (ob_set (ob_row (ob_set V t 0 (.ref hp)) q ob_fs2) q 0 (.int 0)) t 1 (.ref q) = V1
  have e1 : V1 t 1 = .ref q := by rw [← hV1]; simp [ob_set]
  have e0 : V1 t 0 = .ref hp := by rw [← hV1]; simp [ob_set, ob_row, htq]
  have e6 : V1 q 6 = .int 0 := by rw [← hV1]; simp [ob_set, ob_row, htq.symm, ob_fs2]
  have e7 : V1 q 7 = .int 0 := by rw [← hV1]; simp [ob_set, ob_row, htq.symm, ob_fs2]
  have far : ∀ x j, x ≠ q → x ≠ t → V1 x j = V x j := fun x j ha hb => by rw [← hV1]; simp [ob_set, ob_row, ha, hb]
  refine og_w (T', V1, B, J) (by rw [← hV1]) ?_
  refine og_aload_n dX4_init_21 rfl rfl ?_
  refine og_getf dX4_init_22 kfX4_20 (by assumption) (by assumption) ?_
  refine og_aload_n dX4_init_25 rfl rfl ?_
  refine og_getf dX4_init_26 kfX4_20 (by assumption) (by assumption) ?_
  refine og_put dX4_init_29 kfX4_24 (by assumption) rfl rfl ?_
  have e12 : ob_set V1 q 3 (.ref q) t 1 = .ref q := by rw [ob_set_a _ _ _ _ _ htq]; exact e1
  refine og_aload_n dX4_init_32 rfl rfl ?_
  refine og_getf dX4_init_33 kfX4_20 (by assumption) (by assumption) ?_
  refine og_aload_n dX4_init_36 rfl rfl ?_
  refine og_getf dX4_init_37 kfX4_20 (by assumption) (by assumption) ?_
  refine og_put dX4_init_40 kfX4_27 (by assumption) rfl rfl ?_
  have e13 : ob_set (ob_set V1 q 3 (.ref q)) q 4 (.ref q) t 1 = .ref q := by rw [ob_set_a _ _ _ _ _ htq]; exact e12
  refine og_aload_n dX4_init_43 rfl rfl ?_
  refine og_getf dX4_init_44 kfX4_20 (by assumption) (by assumption) ?_
  refine og_aload_n dX4_init_47 rfl rfl ?_
  refine og_getf dX4_init_48 kfX4_20 (by assumption) (by assumption) ?_
  refine og_put dX4_init_51 kfX4_30 (by assumption) rfl rfl ?_
  have e14 : ob_set (ob_set (ob_set V1 q 3 (.ref q)) q 4 (.ref q)) q 5 (.ref q) t 1 = .ref q := by rw [ob_set_a _ _ _ _ _ htq]; exact e13
  refine og_aload_n dX4_init_54 rfl rfl ?_
  refine og_aload_n dX4_init_55 rfl rfl ?_
  refine og_getf dX4_init_56 kfX4_20 (by assumption) (by assumption) ?_
  refine og_put dX4_init_59 kfX4_33 (by assumption) rfl rfl ?_
  refine og_return rfl dX4_init_62 (by decide) (by decide) ⟨q, T', _, hq, rfl, rfl, nT1, ⟨ht', ?_, ?_, ⟨nT2, ?_, ?_, ?_, ?_⟩, ?_, ⟨?_, ?_⟩, ?_⟩, ?_, ?_⟩
  · simp [ob_set, htq, e1]
  · simp [ob_set, ob_top]
  · simp [ob_set, htq.symm]
  · simp [ob_set, htq.symm]
  · simp [ob_set, htq.symm, e6]
  · simp [ob_set, htq.symm, e7]
  · simp [ob_set, htq.symm]
  · simp [ob_tm]
  · simp [ob_ads]
  · simp [ob_ads]
  · simp [ob_set, htq, e0]
  · intro x y hx hxt j
    have hxq := ne _ _ hx
    simp [ob_set, hxt, hxq, far x j hxq hxt]
theorem ct_Heap {hp lim : Nat} (hh : T hp = some (1, 0)) (h2 : V hp 2 = .int 0) (hl1 : 1 ≤ lim) (hl : lim ≤ 4096) : ob_C X mX1_init 2 3 264 [.ref hp, .int (nI lim)] (T, V, B, J) (fun x w' => ∃ T' V' B' J' edge hb l, x = .inl none ∧ w' = (T', V', B', J') ∧ ob_hg hp T V T' V' ∧ ob_hs T' V' B' hp edge hb lim (min lim 16) 0 l ∧ (∀ b s u a, ((b, s, u, some a) : ob_bk) ∉ l) ∧ T hb = none ∧ (∀ x y, T x = some y → B' x = B x ∧ J' x = J x)) := by
  refine ob_C_of (by decide) rfl (Nat.le_of_ble_eq_true rfl) ?_
  refine og_lv [(0, .ref hp), (1, .int (nI lim))] rfl ?_
  refine og_aload_n dX1_init_0 rfl rfl ?_
  refine og_objInit dX1_init_1 kOX1_3 kOi kOc (by decide) (by decide) ?_
  refine og_aload_n dX1_init_4 rfl rfl ?_
  refine og_iload_n dX1_init_5 rfl ?_
  refine og_putF dX1_init_6 kfX1_9 rfl rfl (by assumption) rfl rfl ?_
  refine og_aload_n dX1_init_9 rfl rfl ?_
  refine og_iload_n dX1_init_10 rfl ?_
  refine og_bipush (v := 16) dX1_init_11 (by decide) ?_
  refine og_mmin dX1_init_13 kMminX1_15 (Nat.le_of_ble_eq_true rfl) (Nat.le_of_ble_eq_true rfl) (by decide) (by decide) kMmins kMi kMminc ?_
  generalize hcap : min lim 16 = cap at *
  refine og_st [.int (nI cap), .ref hp] ?_ ?_
  · rw [← hcap, show (16 : Int32) = nI 16 from rfl]
    by_cases h9 : 16 < lim
    · rw [if_pos (nI_lt h9 (by omega)), Nat.min_eq_right (by omega)]
    · rw [if_neg (nI_nlt (by omega) (by omega)), Nat.min_eq_left (by omega)]
  have e3 : ob_set (ob_set V hp 0 (.int (nI lim))) hp 3 (.int (nI cap)) hp 3 = .int (nI cap) := ob_set_s _ _ _ _
  refine og_put dX1_init_16 kfX1_21 (by assumption) rfl rfl ?_
  refine og_aload_n dX1_init_19 rfl rfl ?_
  refine og_aload_n dX1_init_20 rfl rfl ?_
  refine og_getf dX1_init_21 kfX1_21 (by assumption) (by assumption) ?_
  refine og_bipush (v := 16) dX1_init_24 (by decide) ?_
  refine og_imul dX1_init_26 ?_
  refine og_st [.int (nI (16 * cap)), .ref hp] (by rw [nI_16]) ?_
  refine og_newa (t := 0) dX1_init_27 (Or.inl ⟨rfl, rfl⟩) kAB rfl (by omega) (by decide) (by show 0 + 16 * cap ≤ 264; omega) (fun hb hb0 _ => ?_)
  have hb0 : T hb = none := hb0
  obtain ⟨nT1, nT2⟩ := ob_new_ext (c := 7) (n := 16 * cap) hb0
  generalize hT1 : ob_new T hb (7 + 0) (16 * cap) = T1 at *
  have hT1' : ob_new T hb 7 (16 * cap) = T1 := hT1
  have hh1 := nT1 _ _ hh
  refine og_put dX1_init_29 kfX1_24 hh1 rfl rfl ?_
  refine og_aload_n dX1_init_32 rfl rfl ?_
  refine og_new dX1_init_33 kc0 klX1_28 kn0 kt0 ob_fs0_ok (by decide) (by show 0 + 16 * cap + 4 ≤ 264; omega) (fun ed hed _ => ?_)
  have hed : T1 ed = none := hed
  obtain ⟨mT1, mT2⟩ := ob_new_ext (c := 0) (n := 0) hed
  generalize hT2 : ob_new T1 ed 0 0 = T2 at *
  have hh2 := mT1 _ _ hh1
  have ne1 : ∀ x y, T1 x = some y → x ≠ ed := fun x y hx e => by rw [e, hed] at hx; cases hx
  have hpe := ne1 _ _ hh1
  refine og_dup dX1_init_36 rfl ?_
  refine og_iconst (v := 0) dX1_init_37 (by decide) ?_
  refine og_iconst (v := 0) dX1_init_38 (by decide) ?_
  refine og_callIe dX1_init_39 kiX1_30 (ct_Block mT2) rfl rfl ⟨by decide, by decide⟩ (by decide) (by show 0 + 16 * cap + 4 + 0 ≤ 264; omega) (Nat.le_of_ble_eq_true rfl) ?_
  refine og_putF dX1_init_42 kfX1_33 rfl rfl hh2 rfl rfl ?_
  generalize hV2 : ob_set (ob_set (ob_set (ob_row (ob_set (ob_set (ob_set V hp 0 (.int (nI lim))) hp 3 (.int (nI cap))) hp 4 (.ref hb)) ed ob_fs0) ed 0 (.int 0)) ed 1 (.int 0)) hp 1 (.ref ed) = V2
  have far : ∀ x j, x ≠ ed → x ≠ hp → V2 x j = V x j := fun x j ha hb => by rw [← hV2]; simp [ob_set, ob_row, ha, hb]
  have c0 : V2 hp 0 = .int (nI lim) := by rw [← hV2]; simp [ob_set, ob_row, hpe]
  have c1 : V2 hp 1 = .ref ed := by rw [← hV2]; simp [ob_set]
  have c2 : V2 hp 2 = .int 0 := by rw [← hV2]; simp [ob_set, ob_row, hpe, h2]
  have c3 : V2 hp 3 = .int (nI cap) := by rw [← hV2]; simp [ob_set, ob_row, hpe]
  have c4 : V2 hp 4 = .ref hb := by rw [← hV2]; simp [ob_set, ob_row, hpe]
  refine og_w (T2, V2, ob_row B hb (fun _ => 0), ob_row J hb (fun _ => 0)) (by rw [← hV2]) ?_
  refine og_aload_n dX1_init_45 rfl rfl ?_
  refine og_getf dX1_init_46 kfX1_33 (by assumption) (by assumption) ?_
  refine og_new dX1_init_49 kc0 klX1_28 kn0 kt0 ob_fs0_ok (by decide) (by show 0 + 16 * cap + 4 + 0 + 4 ≤ 264; omega) (fun q hq _ => ?_)
  have hq : T2 q = none := hq
  obtain ⟨pT1, pT2⟩ := ob_new_ext (c := 0) (n := 0) hq
  generalize hT3 : ob_new T2 q 0 0 = T3 at *
  have hh3 := pT1 _ _ hh2
  have ne2 : ∀ x y, T2 x = some y → x ≠ q := fun x y hx e => by rw [e, hq] at hx; cases hx
  have hpq := ne2 _ _ hh2
  have edq := ne2 _ _ mT2
  have c5 : ob_row V2 q ob_fs0 hp 3 = .int (nI cap) := by simp [ob_row, hpq, c3]
  refine og_dup dX1_init_52 rfl ?_
  refine og_iconst (v := 0) dX1_init_53 (by decide) ?_
  refine og_aload_n dX1_init_54 rfl rfl ?_
  refine og_getf dX1_init_55 kfX1_21 (by assumption) (by assumption) ?_
  refine og_callIe dX1_init_58 kiX1_30 (ct_Block pT2) rfl rfl ⟨by decide, by decide⟩ (by decide) (by show 0 + 16 * cap + 4 + 0 + 4 + 0 ≤ 264; omega) (Nat.le_of_ble_eq_true rfl) ?_
  have mT3 := pT1 _ _ mT2
  refine og_put dX1_init_61 kfX1_37 mT3 rfl rfl ?_
  refine og_return rfl dX1_init_64 (by decide) (by show 0 + 16 * cap + 4 + 0 + 4 + 0 ≤ 264; omega) ?_
  generalize hV3 : ob_set (ob_set (ob_set (ob_row V2 q ob_fs0) q 0 (.int 0)) q 1 (.int (nI cap))) ed 3 (.ref q) = V3
  have far3 : ∀ x j, x ≠ q → x ≠ ed → V3 x j = V2 x j := fun x j ha hb => by rw [← hV3]; simp [ob_set, ob_row, ha, hb]
  have TT : ∀ x y, T x = some y → T3 x = some y := fun x y h => pT1 _ _ (mT1 _ _ (nT1 _ _ h))
  refine ⟨T3, V3, _, _, ed, hb, [(q, 0, cap, none)], rfl, by rw [← hV3], ⟨TT, fun x c n9 hx hc hne j => ?_⟩, ⟨hh3, ?_, ?_, ?_, ?_, ?_, pT1 _ _ (mT1 _ _ nT2), ?_, ⟨mT3, ?_, ?_, ?_⟩, rfl, ?_, hl⟩, by simp, hb0, fun x y hx => ?_⟩
  · have hx1 := nT1 _ _ hx
    rw [far3 x j (ne2 _ _ (mT1 _ _ hx1)) (ne1 _ _ hx1), far x j (ne1 _ _ hx1) hne]
  · rw [far3 _ _ hpq hpe]; exact c0
  · rw [far3 _ _ hpq hpe]; exact c1
  · rw [far3 _ _ hpq hpe]; exact c2
  · rw [far3 _ _ hpq hpe]; exact c3
  · rw [far3 _ _ hpq hpe]; exact c4
  · simpa [ob_row] using sb_fit0
  · rw [show V3 ed 3 = .ref q by rw [← hV3]; simp [ob_set]]
    refine ⟨rfl, pT2, ?_, ?_, ?_, ?_⟩
    · rw [← hV3]; simp [ob_set, edq.symm]; rfl
    · rw [← hV3]; simp [ob_set, edq.symm]
    · rw [← hV3]; simp [ob_set, ob_row, edq.symm, ob_fs0, va_rf]
    · show V3 q 3 = .null
      rw [← hV3]; simp [ob_set, ob_row, edq.symm, ob_fs0]
  · simp [edq]
  · exact ⟨rfl, by omega, Nat.zero_add _⟩
  · omega
  · have : x ≠ hb := fun e => by rw [e, hb0] at hx; cases hx
    simp [ob_row, this]
end OBW
