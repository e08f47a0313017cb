/-! THE HEAP: Arrays.copyOf, grow, take -/
section OBR
variable {X : ob_X} {T : ob_T} {V : ob_V} {B : ob_B} {J : ob_J} {R : Room} {Q : ob_r → ob_w → Prop} {k n : Nat}
theorem ct_copyOf {a n0 m : Nat} (ha : T a = some (7, n0)) (hnm : n0 < m) (hm : m ≤ 65536) (hF : sb_Fit (B a)) : ob_C X mJ7_copyOf_9075b 1 1 m [.ref a, .int (nI m)] (T, V, B, J) (fun r w' => ∃ q, T q = none ∧ r = .inl (some (.ref q)) ∧ w' = (ob_new T q 7 m, V, ob_row B q (va_cpy (B a) (fun _ => 0) 0 0 n0), ob_row J q (fun _ => 0))) := by
  refine ob_C_of (by decide) rfl (Nat.le_of_ble_eq_true rfl) ?_
  refine og_lv [(0, .ref a), (1, .int (nI m))] rfl ?_
  refine og_iload_n dJ7_copyOf_9075b_0 rfl ?_
  refine og_aload_n dJ7_copyOf_9075b_1 rfl rfl ?_
  refine og_alen dJ7_copyOf_9075b_2 (by assumption) (by decide) ?_
  refine og_icmp_ne (tgt := 14) dJ7_copyOf_9075b_3 (by decide) (fun _ => ?_) (fun z9 => absurd z9 (fun h9 => absurd ((nI_eq (by omega) (by omega)).mp h9) (by omega)))
  refine og_iload_n dJ7_copyOf_9075b_14 rfl ?_
  refine og_newa (t := 0) dJ7_copyOf_9075b_15 (Or.inl ⟨rfl, rfl⟩) kAB rfl (by omega) (Nat.le_refl 1) (by show 0 + m ≤ m; omega) (fun q hq _ => ?_)
  have hq : T q = none := hq
  obtain ⟨nT1, nT2⟩ := ob_new_ext (c := 7) (n := m) hq
  have haq : a ≠ q := fun e => by rw [e, hq] at ha; cases ha
  have ha' := nT1 _ _ ha
  generalize hT' : ob_new T q (7 + 0) m = T' at *
  have hT2 : ob_new T q 7 m = T' := hT'
  refine og_astore_n dJ7_copyOf_9075b_17 (by decide) rfl ?_
  refine og_aload_n dJ7_copyOf_9075b_18 rfl rfl ?_
  refine og_iconst (v := 0) dJ7_copyOf_9075b_19 (by decide) ?_
  refine og_aload_n dJ7_copyOf_9075b_20 rfl rfl ?_
  refine og_iconst (v := 0) dJ7_copyOf_9075b_21 (by decide) ?_
  refine og_aload_n dJ7_copyOf_9075b_22 rfl rfl ?_
  refine og_alen dJ7_copyOf_9075b_23 (by assumption) (by decide) ?_
  refine og_iload_n dJ7_copyOf_9075b_24 rfl ?_
  refine og_mmin dJ7_copyOf_9075b_25 kMminJ7_304 (Nat.le_of_ble_eq_true rfl) (Nat.le_of_ble_eq_true rfl) (Nat.le_refl _) (by show 0 + m ≤ m; omega) kMmins kMi kMminc ?_
  refine og_st [.int (nI n0), .int 0, .ref q, .int 0, .ref a] (by rw [if_neg (nI_nlt (by omega) (by omega))]) ?_
  have hB : ob_row B q (fun _ => (0 : Int32)) a = B a := by simp [ob_row, haq]
  refine og_copyB dJ7_copyOf_9075b_28 kAJ7_150 kAn kAs kAi ha' nT2 (i0 := 0) (i1 := 0) rfl rfl rfl (by omega) (by omega) ⟨by omega, by omega⟩ (fun i _ => by show fits .byte (.int (ob_row B q (fun _ => (0 : Int32)) a _)) = true; rw [hB]; exact hF _) (Nat.le_of_ble_eq_true rfl) (Nat.le_of_ble_eq_true rfl) ?_
  refine og_aload_n dJ7_copyOf_9075b_31 rfl rfl ?_
  refine og_areturn rfl (Or.inr ⟨_, rfl⟩) (Or.inr ⟨_, rfl⟩) dJ7_copyOf_9075b_32 (Nat.le_refl _) (by show 0 + m ≤ m; omega) ⟨q, hq, rfl, ?_⟩
  rw [hT2]
  show (T', V, _, _) = _
  refine Prod.ext rfl (Prod.ext rfl (Prod.ext ?_ rfl))
  show ob_row (ob_row B q fun _ => 0) q (va_cpy (ob_row B q (fun _ => 0) a) (ob_row B q (fun _ => 0) q) 0 0 n0) = _
  rw [hB]
  funext x
  by_cases hx : x = q
  · simp [ob_row, hx]
  · simp [ob_row, hx]
/-- the last link of a chain that begins behind p -/
def ob_la (p : Nat) : List ob_bk → Nat
  | [] => p
  | (b, _, _, _) :: l => ob_la b l
theorem ob_la_mem : ∀ (l : List ob_bk) (p : Nat), ob_la p l ∈ p :: l.map (·.1)
  | [], p => by simp [ob_la]
  | (b, s, u, o) :: l, p => by simp only [ob_la, List.map_cons]; exact List.mem_cons_of_mem _ (ob_la_mem l b)
theorem ob_sg_snoc {v : Value} : ∀ (l : List ob_bk) (p : Nat), (p :: l.map (·.1)).Nodup → ob_sg T V l (V p 3) .null → ob_sg T (ob_set V (ob_la p l) 3 v) l (ob_set V (ob_la p l) 3 v p 3) v
  | [], p, _, _ => (ob_set_s _ _ _ _ : ob_set V p 3 v p 3 = v)
  | (b, s, u, o) :: l, p, hn, ⟨h1, h2, h3, h4, h5, h6⟩ => by
    have hnp : p ≠ ob_la b l := fun e => (List.nodup_cons.mp hn).1 (by rw [e]; exact ob_la_mem l b)
    refine ⟨?_, h2, ?_, ?_, ?_, ?_⟩
    · show ob_set V (ob_la b l) 3 v p 3 = _
      rw [ob_set_a _ _ _ _ _ hnp]; exact h1
    · rw [ob_set_k _ _ _ _ _ (by decide)]; exact h3
    · rw [ob_set_k _ _ _ _ _ (by decide)]; exact h4
    · rw [ob_set_k _ _ _ _ _ (by decide)]; exact h5
    · exact ob_sg_snoc l b (List.nodup_cons.mp hn).2 h6
theorem grow_loop {hp : Nat} {x g : Int32} : ∀ (l : List ob_bk) (p : Nat), T p = some (0, 0) → ob_sg T V l (V p 3) .null → (V (ob_la p l) 3 = .null → T (ob_la p l) = some (0, 0) → ob_G X mX1_grow R Q 38 [(0, .ref hp), (1, .int x), (2, .int g), (3, .ref (ob_la p l))] [] (T, V, B, J) k n) → ob_G X mX1_grow R Q 23 [(0, .ref hp), (1, .int x), (2, .int g), (3, .ref p)] [] (T, V, B, J) k n := by
  intro l
  induction l with
  | nil =>
    intro p hp9 h kk
    have hv : V p 3 = .null := h
    refine og_aload_n dX1_grow_23 rfl rfl ?_
    refine og_getf dX1_grow_24 kfX1_37 (by assumption) (by assumption) ?_
    refine og_ifnullN (tgt := 38) dX1_grow_27 (by decide) ?_
    exact kk hv hp9
  | cons f l ih =>
    obtain ⟨b, s, u, o⟩ := f
    intro p hp9 h kk
    obtain ⟨h1, h2, h3, h4, h5, h6⟩ := h
    refine og_aload_n dX1_grow_23 rfl rfl ?_
    refine og_getf dX1_grow_24 kfX1_37 (by assumption) (by assumption) ?_
    refine og_ifnull dX1_grow_27 ?_
    refine og_aload_n dX1_grow_30 rfl rfl ?_
    refine og_getf dX1_grow_31 kfX1_37 (by assumption) (by assumption) ?_
    refine og_astore_n dX1_grow_34 (by decide) rfl ?_
    refine og_goto (tgt := 23) dX1_grow_35 (by decide) ?_
    refine og_lv [(0, .ref hp), (1, .int x), (2, .int g), (3, .ref b)] rfl ?_
    exact ih b h2 h6 kk
theorem ct_grow {hp hb edge lim cap nd g : Nat} {l : List ob_bk} (h1 : T hp = some (1, 0)) (h0 : V hp 0 = .int (nI lim)) (h1e : V hp 1 = .ref edge) (h1c : V hp 3 = .int (nI cap)) (h2 : V hp 4 = .ref hb) (h3 : T hb = some (7, 16 * cap)) (hF : sb_Fit (B hb)) (h : ob_hq T V edge cap l) (hlim : lim ≤ 4096) (hnd : cap < nd) (hnl : nd ≤ lim) (hg : g = min lim (max nd (2 * cap))) : ob_C X mX1_grow 2 2 (4 + 16 * g) [.ref hp, .int (nI nd)] (T, V, B, J) (fun r w' => r = .inl none ∧ ∃ q hb' T' V' B' J', w' = (T', V', B', J') ∧ T hb' = none ∧ ob_hg hp T V T' V' ∧ ob_hq T' V' edge g (l ++ [(q, cap, g - cap, none)]) ∧ (∀ k, k < 3 → V' hp k = V hp k) ∧ V' hp 3 = .int (nI g) ∧ V' hp 4 = .ref hb' ∧ T' hb' = some (7, 16 * g) ∧ sb_Fit (B' hb') ∧ (∀ x y, T x = some y → B' x = B x ∧ J' x = J x) ∧ (∀ j, j < 16 * cap → B' hb' j = B hb j)) := by
  refine ob_C_of (by decide) rfl (Nat.le_of_ble_eq_true rfl) ?_
  obtain ⟨g1, g2, g3, g4⟩ := id h
  refine og_lv [(0, .ref hp), (1, .int (nI nd))] rfl ?_
  refine og_aload_n dX1_grow_0 rfl rfl ?_
  refine og_getf dX1_grow_1 kfX1_9 (by assumption) (by assumption) ?_
  refine og_iload_n dX1_grow_4 rfl ?_
  refine og_iconst (v := 2) dX1_grow_5 (by decide) ?_
  refine og_aload_n dX1_grow_6 rfl rfl ?_
  refine og_getf dX1_grow_7 kfX1_21 (by assumption) (by assumption) ?_
  refine og_imul dX1_grow_10 ?_
  refine og_mmax dX1_grow_11 kMmaxX1_99 (Nat.le_of_ble_eq_true rfl) (Nat.le_of_ble_eq_true rfl) (Nat.zero_le _) (Nat.zero_le _) kMmaxs kMi kMmaxc ?_
  refine og_st [.int (nI (max nd (2 * cap))), .int (nI lim)] ?_ ?_
  · rw [show (2 : Int32) * nI cap = nI (2 * cap) by rw [← pk_mul]; rfl]
    by_cases h9 : nd < 2 * cap
    · rw [if_pos (nI_lt h9 (by omega)), Nat.max_eq_right (by omega)]
    · rw [if_neg (nI_nlt (by omega) (by omega)), Nat.max_eq_left (by omega)]
  refine og_mmin dX1_grow_14 kMminX1_15 (Nat.le_of_ble_eq_true rfl) (Nat.le_of_ble_eq_true rfl) (Nat.zero_le _) (Nat.zero_le _) kMmins kMi kMminc ?_
  refine og_st [.int (nI g)] ?_ ?_
  · rw [hg]
    by_cases h9 : max nd (2 * cap) < lim
    · rw [if_pos (nI_lt h9 (by omega)), Nat.min_eq_right (by omega)]
    · rw [if_neg (nI_nlt (by omega) (by omega)), Nat.min_eq_left (by omega)]
  have hgc : cap < g := by omega
  have hgl : g ≤ 4096 := by omega
  refine og_istore_n dX1_grow_17 (by decide) ?_
  refine og_aload_n dX1_grow_18 rfl rfl ?_
  refine og_getf dX1_grow_19 kfX1_33 (by assumption) (by assumption) ?_
  refine og_astore_n dX1_grow_22 (by decide) rfl ?_
  refine og_lv [(0, .ref hp), (1, .int (nI nd)), (2, .int (nI g)), (3, .ref edge)] rfl ?_
  refine grow_loop l edge g1 g2 (fun hla0 hla => ?_)
  have hlm := ob_la_mem l edge
  generalize hl9 : ob_la edge l = last at *
  refine og_aload_n dX1_grow_38 rfl rfl ?_
  refine og_new dX1_grow_39 kc0 klX1_28 kn0 kt0 ob_fs0_ok (by show 0 + 1 ≤ 2; omega) (by show 0 + 4 ≤ 4 + 16 * g; omega) (fun q hq _ => ?_)
  have hq : T q = none := hq
  obtain ⟨nT1, nT2⟩ := ob_new_ext (c := 0) (n := 0) hq
  have h1' := nT1 _ _ h1
  have hla' := nT1 _ _ hla
  have h3' := nT1 _ _ h3
  have ne : ∀ x y, T x = some y → x ≠ q := fun x y hx e => by rw [e, hq] at hx; cases hx
  have hpq := ne _ _ h1
  have hlq := ne _ _ hla
  have c1 : ob_row V q ob_fs0 hp 3 = .int (nI cap) := by simp [ob_row, hpq, h1c]
  generalize hT' : ob_new T q 0 0 = T1 at *
  refine og_dup dX1_grow_42 rfl ?_
  refine og_aload_n dX1_grow_43 rfl rfl ?_
  refine og_getf dX1_grow_44 kfX1_21 (by assumption) (by assumption) ?_
  refine og_iload_n dX1_grow_47 rfl ?_
  refine og_aload_n dX1_grow_48 rfl rfl ?_
  refine og_getf dX1_grow_49 kfX1_21 (by assumption) (by assumption) ?_
  refine og_isub dX1_grow_52 ?_
  refine og_callIe dX1_grow_53 kiX1_30 (ct_Block nT2) rfl rfl ⟨Nat.le_of_ble_eq_true rfl, Nat.le_of_ble_eq_true rfl⟩ (by show 0 + 1 + 0 ≤ 2; omega) (by show 0 + 4 + 0 ≤ 4 + 16 * g; omega) (Nat.le_of_ble_eq_true rfl) ?_
  refine og_put dX1_grow_56 kfX1_37 hla' rfl rfl ?_
  have hpl : hp ≠ last := fun e => by rw [e, hla] at h1; cases h1
  generalize hV1 : ob_set (ob_set (ob_set (ob_row V q ob_fs0) q 0 (.int (nI cap))) q 1 (.int (nI g - nI cap))) last 3 (.ref q) = V1
  have far : ∀ x j, x ≠ q → V1 x j = ob_set V last 3 (.ref q) x j := fun x j h1 => by rw [← hV1]; simp [ob_set, ob_row, h1]
  have q0 : V1 q 0 = .int (nI cap) := by rw [← hV1]; simp [ob_set, hlq.symm]
  have q1 : V1 q 1 = .int (nI (g - cap)) := by rw [← hV1, ← nI_sub (by omega)]; simp [ob_set, hlq.symm]
  have q2 : V1 q 2 = .null := by rw [← hV1]; simp [ob_set, ob_row, ob_fs0, hlq.symm]
  have q3 : V1 q 3 = .null := by rw [← hV1]; simp [ob_set, ob_row, ob_fs0, hlq.symm]
  have far2 : ∀ x c n, T x = some (c, n) → c ≠ 0 → ∀ j, V1 x j = V x j := fun x c n hx hc j => by
    rw [far x j (ne x _ hx)]
    exact ob_set_a _ _ _ _ _ (fun e => by rw [e, hla] at hx; cases hx; exact hc rfl)
  have d4 : V1 hp 4 = .ref hb := by rw [far2 hp 1 0 h1 (by decide)]; exact h2
  refine og_w (T1, V1, B, J) (by rw [← hV1]) ?_
  refine og_aload_n dX1_grow_59 rfl rfl ?_
  refine og_aload_n dX1_grow_60 rfl rfl ?_
  refine og_getf dX1_grow_61 kfX1_24 (by assumption) (by assumption) ?_
  refine og_iload_n dX1_grow_64 rfl ?_
  refine og_bipush (v := 16) dX1_grow_65 (by decide) ?_
  refine og_imul dX1_grow_67 ?_
  refine og_st [.int (nI (16 * g)), .ref hb, .ref hp] (by rw [← nI_16]) ?_
  refine og_callSn dX1_grow_68 ksX1_102 (ct_copyOf h3' (by omega) (by omega) hF) rfl rfl ⟨Nat.le_of_ble_eq_true rfl, Nat.le_of_ble_eq_true rfl⟩ (by show 0 + 1 + 0 + 1 ≤ 2; omega) (by show 0 + 4 + 0 + 16 * g ≤ 4 + 16 * g; omega) (Nat.le_of_ble_eq_true rfl) rfl (fun E w' h9 => by obtain ⟨_, _, h9, _⟩ := h9; cases h9) (fun v w' h9 => ?_)
  obtain ⟨hb', hb0, hv, rfl⟩ := h9
  cases hv
  obtain ⟨mT1, mT2⟩ := ob_new_ext (c := 7) (n := 16 * g) hb0
  generalize ob_new T1 hb' 7 (16 * g) = T2 at *
  have h1' := mT1 _ _ h1'
  have hbn : ∀ x y, T x = some y → x ≠ hb' := fun x y hx e => by have := nT1 _ _ hx; rw [e, hb0] at this; cases this
  have hb00 : T hb' = none := by
    cases h9 : T hb' with
    | none => rfl
    | some y => exact absurd rfl (hbn _ _ h9)
  have d3 : sb_Fit (va_cpy (B hb) (fun _ => 0) 0 0 (16 * cap)) := sb_fitC hF sb_fit0
  refine og_put dX1_grow_71 kfX1_24 h1' rfl rfl ?_
  refine og_aload_n dX1_grow_74 rfl rfl ?_
  refine og_iload_n dX1_grow_75 rfl ?_
  refine og_put dX1_grow_76 kfX1_21 (by assumption) rfl rfl ?_
  refine og_return rfl dX1_grow_79 (by show 0 + 1 + 0 + 1 ≤ 2; omega) (by show 0 + 4 + 0 + 16 * g ≤ 4 + 16 * g; omega) ?_
  generalize hV3 : ob_set (ob_set V1 hp 4 (.ref hb')) hp 3 (.int (nI g)) = V3
  have fr3 : ∀ x j, x ≠ hp → V3 x j = V1 x j := fun x j hx => by rw [← hV3]; simp [ob_set, hx]
  have hTD : ∀ x ∈ edge :: l.map (·.1), T x = some (0, 0) := by
    intro x hx
    rcases List.mem_cons.mp hx with h9 | h9
    · rw [h9]; exact g1
    · exact ob_sg_T g2 x h9
  have hh : ∀ x ∈ edge :: l.map (·.1), x ≠ hp := fun x hx e => by have := hTD x hx; rw [e, h1] at this; cases this
  have hTT : ∀ x y, T x = some y → T2 x = some y := fun x y h => mT1 _ _ (nT1 _ _ h)
  refine ⟨rfl, q, hb', T2, V3, _, _, by rw [← hV3], hb00, ⟨hTT, fun x c n hx hc hne j => ?_⟩, ⟨hTT _ _ g1, ?_, ?_, ?_⟩, ?_, ?_, ?_, mT2, ?_, ?_, ?_⟩
  · rw [fr3 x j hne]; exact far2 x c n hx hc j
  · rw [fr3 edge 3 (hh edge (by simp)), far edge 3 (ne _ _ g1)]
    have hsn := ob_sg_snoc (v := .ref q) l edge g3 g2
    rw [hl9] at hsn
    have hqp : q ≠ hp := fun e => by rw [e, h1] at hq; cases hq
    refine ob_sg_app.mpr ⟨.ref q, ob_sg_ext hTT (ob_sg_congr (fun x hx j => ?_) hsn), rfl, mT1 _ _ nT2, ?_, ?_, ?_, ?_⟩
    · have hx' := List.mem_cons_of_mem edge hx
      rw [fr3 x j (hh x hx'), far x j (ne _ _ (hTD x hx'))]
    · rw [fr3 _ _ hqp]; exact q0
    · rw [fr3 _ _ hqp]; exact q1
    · rw [fr3 _ _ hqp]; exact q2
    · show V3 q 3 = .null
      rw [fr3 _ _ hqp]; exact q3
  · have : (edge :: l.map (·.1) ++ [q]).Nodup := by
      rw [List.nodup_append]
      exact ⟨g3, by simp, fun x hx y hy => by rw [List.mem_singleton.mp hy]; exact ne x _ (hTD x hx)⟩
    simpa using this
  · exact ob_til_app.mpr ⟨cap, g4, rfl, by omega, show cap + (g - cap) = g by omega⟩
  · intro j hj
    rw [← far2 hp 1 0 h1 (by decide) j, ← hV3]
    simp [ob_set, show j ≠ 3 by omega, show j ≠ 4 by omega]
  · rw [← hV3]; simp [ob_set]
  · rw [← hV3]; simp [ob_set]
  · simpa [ob_row] using d3
  · intro x y hx
    have := hbn x y hx
    simp [ob_row, this]
  · intro j hj
    simp [ob_row, va_cpy, hj]
end OBR
