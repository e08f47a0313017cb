/-! THE HEAP: cut, moveTo, pushTogether -/
theorem kAB : Cond.arrayClass (newarray.typeOf .byte) ∈ ob_tb := ob_in 104 (by decide +kernel) (by decide +kernel)
theorem kAI : Cond.arrayClass (newarray.typeOf .int) ∈ ob_tb := ob_in 727 (by decide +kernel) (by decide +kernel)
theorem kAJ : Cond.arrayClass (newarray.typeOf .long) ∈ ob_tb := ob_in 844 (by decide +kernel) (by decide +kernel)
def ob_fs0 (j : Nat) : Value := if j < 2 then .int 0 else .null
theorem ob_fs0_ok : ∀ j, j < 4 → defaultValue (ob_ty 0 j) = ob_fs0 j := by
  intro j hj
  match j, hj with
  | 0, _ => rfl
  | 1, _ => rfl
  | 2, _ => rfl
  | 3, _ => rfl
theorem ob_new_ext {T : ob_T} {q c n : Nat} (hq : T q = none) : (∀ x y, T x = some y → ob_new T q c n x = some y) ∧ ob_new T q c n q = some (c, n) := by
  refine ⟨fun x y h => ?_, if_pos rfl⟩
  have : x ≠ q := fun e => by rw [e, hq] at h; cases h
  simp only [ob_new, if_neg this]; exact h
/-- memory grown; fields of what is no block as before -/
def ob_hf (T : ob_T) (V : ob_V) (T' : ob_T) (V' : ob_V) : Prop := (∀ x y, T x = some y → T' x = some y) ∧ ∀ x c n, T x = some (c, n) → c ≠ 0 → ∀ k, V' x k = V x k
/-- the same, but for the heap object hp -/
def ob_hg (hp : Nat) (T : ob_T) (V : ob_V) (T' : ob_T) (V' : ob_V) : Prop := (∀ x y, T x = some y → T' x = some y) ∧ ∀ x c n, T x = some (c, n) → c ≠ 0 → x ≠ hp → ∀ k, V' x k = V x k
theorem ob_hf.rfl {T : ob_T} {V : ob_V} : ob_hf T V T V := ⟨fun _ _ h => h, fun _ _ _ _ _ _ => Eq.refl _⟩
theorem ob_hf.tr {T T' T2 : ob_T} {V V' V2 : ob_V} (h : ob_hf T V T' V') (g : ob_hf T' V' T2 V2) : ob_hf T V T2 V2 := ⟨fun x y a => g.1 x y (h.1 x y a), fun x c n a b k => (g.2 x c n (h.1 x _ a) b k).trans (h.2 x c n a b k)⟩
theorem ob_hg.tr {hp : Nat} {T T' T2 : ob_T} {V V' V2 : ob_V} (h : ob_hg hp T V T' V') (g : ob_hg hp T' V' T2 V2) : ob_hg hp T V T2 V2 := ⟨fun x y a => g.1 x y (h.1 x y a), fun x c n a b d k => (g.2 x c n (h.1 x _ a) b d k).trans (h.2 x c n a b d k)⟩
theorem ob_hf.g {hp : Nat} {T T' : ob_T} {V V' : ob_V} (h : ob_hf T V T' V') : ob_hg hp T V T' V' := ⟨h.1, fun x c n a b _ => h.2 x c n a b⟩
/-- taken blocks: the same, with the same bytes, perhaps at other places -/
def ob_rl (B : ob_B) (hb : Nat) (l : List ob_bk) (B' : ob_B) (hb' : Nat) (l' : List ob_bk) : Prop := (∀ b s u a, ((b, s, u, some a) : ob_bk) ∈ l → ∃ s', ((b, s', u, some a) : ob_bk) ∈ l' ∧ ∀ j, j < 16 * u → B' hb' (16 * s' + j) = B hb (16 * s + j)) ∧ (∀ b s' u a, ((b, s', u, some a) : ob_bk) ∈ l' → ∃ s, ((b, s, u, some a) : ob_bk) ∈ l)
theorem ob_rl.tr {B B' B2 : ob_B} {hb hb' hb2 : Nat} {l l' l2 : List ob_bk} (h : ob_rl B hb l B' hb' l') (g : ob_rl B' hb' l' B2 hb2 l2) : ob_rl B hb l B2 hb2 l2 := by
  refine ⟨fun b s u a hm => ?_, fun b s u a hm => ?_⟩
  · obtain ⟨s', h1, h2⟩ := h.1 b s u a hm
    obtain ⟨s2, g1, g2⟩ := g.1 b s' u a h1
    exact ⟨s2, g1, fun j hj => (g2 j hj).trans (h2 j hj)⟩
  · obtain ⟨s', h1⟩ := g.2 b s u a hm
    exact h.2 b s' u a h1
theorem ob_rl.same {B : ob_B} {hb : Nat} {l l' : List ob_bk} (h : ∀ e : ob_bk, e.2.2.2 ≠ none → (e ∈ l' ↔ e ∈ l)) : ob_rl B hb l B hb l' := by
  refine ⟨fun b s u a hm => ⟨s, (h (b, s, u, some a) (by simp)).mpr hm, fun j _ => rfl⟩, fun b s u a hm => ⟨s, (h (b, s, u, some a) (by simp)).mp hm⟩⟩
theorem ob_sg_T {T : ob_T} {V : ob_V} : ∀ {l : List ob_bk} {v v' : Value}, ob_sg T V l v v' → ∀ x ∈ l.map (·.1), T x = some (0, 0)
  | [], _, _, _ => by simp
  | (b, s, u, o) :: l, v, v', ⟨h1, h2, h3, h4, h5, h6⟩ => by
    intro x hx
    rcases List.mem_cons.mp hx with rfl | hx
    · exact h2
    · exact ob_sg_T h6 x hx
theorem ob_nf {v : Value} {d : String} (h : v.isRef = true) : narrow (.object d) v = v ∧ fits (.object d) v = true := by cases v <;> simp_all [Value.isRef, narrow, fits]
theorem nI_16 (s : Nat) : nI s * 16 = nI (16 * s) := by rw [Nat.mul_comm, ← pk_mul]; rfl
theorem nI_sub {a b : Nat} (h : b ≤ a) : nI a - nI b = nI (a - b) := by
  have : nI a = nI (a - b) + nI b := by rw [nI_add]; congr 1; omega
  rw [this, Int32.add_sub_cancel]
section OBP
variable {X : ob_X} {T : ob_T} {V : ob_V} {B : ob_B} {J : ob_J} {R : Room} {Q : ob_r → ob_w → Prop} {k n : Nat}
theorem ct_cut {edge cap b s u m : Nat} {l1 l2 : List ob_bk} (h : ob_hq T V edge cap (l1 ++ (b, s, u, none) :: l2)) (hm : 1 ≤ m) (hmu : m ≤ u) (hcap : cap ≤ 4096) : ob_C X mX1_cut 2 1 4 [.ref b, .int (nI m)] (T, V, B, J) (fun r w' => r = .inl none ∧ ∃ T' V' l2', w' = (T', V', B, J) ∧ ob_hf T V T' V' ∧ ob_hq T' V' edge cap (l1 ++ (b, s, m, none) :: l2') ∧ ob_us l2' = ob_us l2 ∧ ∀ e : ob_bk, e.2.2.2 ≠ none → (e ∈ l2' ↔ e ∈ l2)) := by
  refine ob_C_of (by decide) rfl (Nat.le_of_ble_eq_true rfl) ?_
  obtain ⟨h1, h2, h3, h4⟩ := id h
  obtain ⟨v, k1, rfl, k2, k3, k4, k5, k6⟩ := ob_sg_app.mp h2
  have k5 : V b 2 = .null := k5
  obtain ⟨mid, t1, t2, t3, t4⟩ := ob_til_app.mp h4
  have hle := (ob_til_le h4).2 (b, s, u, none) (by simp)
  have hu : s + u ≤ 4096 := by simp at hle; omega
  refine og_lv [(0, .ref b), (1, .int (nI m))] rfl ?_
  refine og_aload_n dX1_cut_0 rfl rfl ?_
  refine og_getf dX1_cut_1 kfX1_63 (by assumption) (by assumption) ?_
  refine og_iload_n dX1_cut_4 rfl ?_
  refine og_icmp_le (tgt := 46) dX1_cut_5 (by decide) (fun hc => ?_) (fun hc => ?_)
  · have e : u = m := by have := (nI_leI (by omega) (by omega)).mp hc; omega
    subst e
    exact og_return rfl dX1_cut_46 (by decide) (by decide) ⟨rfl, T, V, l2, rfl, ob_hf.rfl, h, rfl, fun _ _ => Iff.rfl⟩
  · have hlt : m < u := by
      rcases Nat.lt_or_ge m u with h9 | h9
      · exact h9
      · exact absurd (nI_le h9 (by omega)) hc
    refine og_new dX1_cut_8 kc0 klX1_28 kn0 kt0 ob_fs0_ok (by decide) (by decide) (fun q hq _ => ?_)
    obtain ⟨nT1, nT2⟩ := ob_new_ext (c := 0) (n := 0) hq
    have nb := nT1 b _ k2
    have hqb : b ≠ q := fun e => by rw [e] at k2; rw [show T q = none from hq] at k2; cases k2
    have hql : q ∉ edge :: (l1 ++ (b, s, u, none) :: l2).map (·.1) := by
      intro h9
      have : T q = some (0, 0) := by
        rcases List.mem_cons.mp h9 with h9 | h9
        · rw [h9]; exact h1
        · exact ob_sg_T h2 q h9
      rw [show T q = none from hq] at this; cases this
    generalize hT' : ob_new T q 0 0 = T' at *
    have nV0 : ob_row V q ob_fs0 b 0 = .int (nI s) := by simp [ob_row, hqb, k3]
    have nV1 : ob_row V q ob_fs0 b 1 = .int (nI u) := by simp [ob_row, hqb, k4]
    refine og_dup dX1_cut_11 rfl ?_
    refine og_aload_n dX1_cut_12 rfl rfl ?_
    refine og_getf dX1_cut_13 kfX1_69 (by assumption) (by assumption) ?_
    refine og_iload_n dX1_cut_16 rfl ?_
    refine og_iadd dX1_cut_17 ?_
    refine og_aload_n dX1_cut_18 rfl rfl ?_
    refine og_getf dX1_cut_19 kfX1_63 (by assumption) (by assumption) ?_
    refine og_iload_n dX1_cut_22 rfl ?_
    refine og_isub dX1_cut_23 ?_
    refine og_callIe dX1_cut_24 kiX1_30 (ct_Block nT2) rfl rfl ⟨by decide, by decide⟩ (by decide) (by decide) (Nat.le_of_ble_eq_true rfl) ?_
    refine og_astore_n dX1_cut_27 (by decide) rfl ?_
    refine og_aload_n dX1_cut_28 rfl rfl ?_
    refine og_aload_n dX1_cut_29 rfl rfl ?_
    refine og_getf dX1_cut_30 kfX1_37 nb (v := V b 3) (by simp [ob_set, ob_row, hqb]) ?_
    refine og_put dX1_cut_33 kfX1_37 nT2 (ob_nf (ob_sg_v k6)).1 (ob_nf (ob_sg_v k6)).2 ?_
    refine og_aload_n dX1_cut_36 rfl rfl ?_
    refine og_aload_n dX1_cut_37 rfl rfl ?_
    refine og_put dX1_cut_38 kfX1_37 (by assumption) rfl rfl ?_
    refine og_aload_n dX1_cut_41 rfl rfl ?_
    refine og_iload_n dX1_cut_42 rfl ?_
    refine og_put dX1_cut_43 kfX1_63 (by assumption) rfl rfl ?_
    have hmq : q ∉ l1.map (·.1) ∧ q ∉ l2.map (·.1) ∧ q ≠ edge := by
      refine ⟨fun h9 => hql ?_, fun h9 => hql ?_, fun h9 => hql ?_⟩
      · simp only [List.map_append, List.map_cons, List.mem_cons, List.mem_append]; exact Or.inr (Or.inl h9)
      · simp only [List.map_append, List.map_cons, List.mem_cons, List.mem_append]; exact Or.inr (Or.inr (Or.inr h9))
      · rw [h9]; simp
    have hnd2 := h3
    simp only [List.map_append, List.map_cons, List.nodup_cons, List.nodup_append, List.mem_append, List.mem_cons] at hnd2
    refine og_return rfl dX1_cut_46 (by decide) (by decide) ?_
    show _ ∧ _
    generalize hV' : ob_set (ob_set (ob_set (ob_set (ob_set (ob_row V q ob_fs0) q 0 (.int (nI s + nI m))) q 1 (.int (nI u - nI m))) q 3 (V b 3)) b 3 (.ref q)) b 1 (.int (nI m)) = V'
    have far : ∀ x j, x ≠ q → x ≠ b → V' x j = V x j := fun x j h1 h2 => by rw [← hV']; simp [ob_set, ob_row, h1, h2]
    have q0 : V' q 0 = .int (nI (s + m)) := by rw [← hV', ← nI_add]; simp [ob_set, hqb.symm]
    have q1 : V' q 1 = .int (nI (u - m)) := by rw [← hV', ← nI_sub (by omega)]; simp [ob_set, hqb.symm]
    have q2 : V' q 2 = .null := by rw [← hV']; simp [ob_set, ob_row, ob_fs0]
    have q3 : V' q 3 = V b 3 := by rw [← hV']; simp [ob_set, hqb.symm]
    have b0 : V' b 0 = .int (nI s) := by rw [← hV']; simp [ob_set, ob_row, hqb, k3]
    have b1 : V' b 1 = .int (nI m) := by rw [← hV']; simp [ob_set]
    have b2 : V' b 2 = .null := by rw [← hV']; simp [ob_set, ob_row, hqb, k5]
    have b3 : V' b 3 = .ref q := by rw [← hV']; simp [ob_set]
    have eb : edge ≠ b := fun e => hnd2.1 (Or.inr (Or.inl e))
    refine ⟨rfl, T', V', (q, s + m, u - m, none) :: l2, rfl, ⟨nT1, fun x c n hx hc9 k => far x k ?_ ?_⟩, ⟨nT1 _ _ h1, ?_, ?_, ?_⟩, by simp [ob_us], fun e he => ?_⟩
    · exact fun e => by rw [e, show T q = none from hq] at hx; cases hx
    · exact fun e => by rw [e, k2] at hx; cases hx; exact hc9 rfl
    · rw [far edge 3 hmq.2.2.symm eb]
      refine ob_sg_app.mpr ⟨.ref b, ob_sg_ext nT1 (ob_sg_congr (fun a ha k => far a k (fun e => hmq.1 (e ▸ ha)) (fun e => hnd2.2.2.2 a ha b (Or.inl rfl) e)) k1), rfl, nb, b0, b1, b2, b3, nT2, q0, q1, q2, ?_⟩
      rw [q3]
      exact ob_sg_ext nT1 (ob_sg_congr (fun a ha k => far a k (fun e => hmq.2.1 (e ▸ ha)) (fun e => hnd2.2.2.1.1 (e ▸ ha))) k6)
    · have := (List.perm_middle (l₁ := edge :: l1.map (·.1) ++ [b]) (a := q) (l₂ := l2.map (·.1))).nodup_iff
      simp only [List.map_append, List.map_cons, List.cons_append, List.append_assoc, List.nil_append] at this hql h3 ⊢
      exact this.mpr (List.nodup_cons.mpr ⟨hql, h3⟩)
    · exact ob_til_app.mpr ⟨mid, t1, t2, hm, by omega, by omega, by rw [show mid + m + (u - m) = mid + u by omega]; exact t4⟩
    · rw [List.mem_cons]
      exact ⟨fun h9 => h9.resolve_left (fun h8 => he (by rw [h8])), Or.inr⟩
theorem ct_copy {a0 a n0 n1 i0 i1 len : Nat} (ha0 : T a0 = some (7, n0)) (ha : T a = some (7, n1)) (h4 : i0 + len ≤ n0) (h5 : i1 + len ≤ n1) (hb : n0 < 2 ^ 31 ∧ n1 < 2 ^ 31) (hfit : ∀ i, i < len → fits .byte (.int (B a0 (i0 + i))) = true) : ob_C X mX5_copy 1 0 0 [.ref a0, .int (nI i0), .ref a, .int (nI i1), .int (nI len)] (T, V, B, J) (ob_e none (T, V, ob_row B a (va_cpy (B a0) (B a) i0 i1 len), J)) := by
  refine ob_C_of (by decide) rfl (Nat.le_of_ble_eq_true rfl) ?_
  obtain ⟨hb0, hb1⟩ := hb
  refine og_iload_n dX5_copy_0 rfl ?_
  refine og_if_lt (tgt := 22) dX5_copy_1 (by decide) (fun z9 => absurd z9 (nI_pos (by omega))) (fun _ => ?_)
  refine og_iload dX5_copy_4 rfl ?_
  refine og_if_lt (tgt := 22) dX5_copy_6 (by decide) (fun z9 => absurd z9 (nI_pos (by omega))) (fun _ => ?_)
  refine og_iload_n dX5_copy_9 rfl ?_
  refine og_aload_n dX5_copy_10 rfl rfl ?_
  refine og_alen dX5_copy_11 (by assumption) (by decide) ?_
  refine og_iload dX5_copy_12 rfl ?_
  refine og_isub dX5_copy_14 ?_
  refine og_st [.int (nI (n0 - len)), .int (nI i0)] (by rw [← nI_sub (by omega)] <;> rfl) ?_
  refine og_icmp_gt (tgt := 22) dX5_copy_15 (by decide) (fun z9 => absurd z9 (nI_nlt (by omega) (by omega))) (fun _ => ?_)
  refine og_iconst (v := 1) dX5_copy_18 (by decide) ?_
  refine og_goto (tgt := 23) dX5_copy_19 (by decide) ?_
  refine og_istore dX5_copy_23 (by decide) ?_
  refine og_iload_n dX5_copy_25 rfl ?_
  refine og_if_lt (tgt := 42) dX5_copy_26 (by decide) (fun z9 => absurd z9 (nI_pos (by omega))) (fun _ => ?_)
  refine og_iload_n dX5_copy_29 rfl ?_
  refine og_aload_n dX5_copy_30 rfl rfl ?_
  refine og_alen dX5_copy_31 (by assumption) (by decide) ?_
  refine og_iload dX5_copy_32 rfl ?_
  refine og_isub dX5_copy_34 ?_
  refine og_st [.int (nI (n1 - len)), .int (nI i1)] (by rw [← nI_sub (by omega)] <;> rfl) ?_
  refine og_icmp_gt (tgt := 42) dX5_copy_35 (by decide) (fun z9 => absurd z9 (nI_nlt (by omega) (by omega))) (fun _ => ?_)
  refine og_iconst (v := 1) dX5_copy_38 (by decide) ?_
  refine og_goto (tgt := 43) dX5_copy_39 (by decide) ?_
  refine og_istore dX5_copy_43 (by decide) ?_
  refine og_iload dX5_copy_45 rfl ?_
  refine og_if_eq (tgt := 64) dX5_copy_47 (by decide) (fun z9 => absurd z9 (by decide)) (fun _ => ?_)
  refine og_iload dX5_copy_50 rfl ?_
  refine og_if_eq (tgt := 64) dX5_copy_52 (by decide) (fun z9 => absurd z9 (by decide)) (fun _ => ?_)
  refine og_aload_n dX5_copy_55 rfl rfl ?_
  refine og_iload_n dX5_copy_56 rfl ?_
  refine og_aload_n dX5_copy_57 rfl rfl ?_
  refine og_iload_n dX5_copy_58 rfl ?_
  refine og_iload dX5_copy_59 rfl ?_
  refine og_copyB dX5_copy_61 kAX5_185 kAn kAs kAi ha0 ha rfl rfl rfl h4 h5 ⟨hb0, hb1⟩ hfit (by decide) (by decide) ?_
  exact og_return rfl dX5_copy_64 (by decide) (by decide) ⟨rfl, rfl⟩
theorem ct_moveTo {hp hb cap b s u e : Nat} (h1 : T hp = some (1, 0)) (h2 : V hp 4 = .ref hb) (h3 : T hb = some (7, 16 * cap)) (hcap : cap ≤ 4096) (hF : sb_Fit (B hb)) (k1 : T b = some (0, 0)) (k2 : V b 0 = .int (nI s)) (k3 : V b 1 = .int (nI u)) (hs : s + u ≤ cap) (he : e + u ≤ cap) : ob_C X mX1_moveTo 2 0 0 [.ref hp, .ref b, .int (nI e)] (T, V, B, J) (ob_e none (T, ob_set V b 0 (.int (nI e)), ob_row B hb (va_cpy (B hb) (B hb) (16 * s) (16 * e) (16 * u)), J)) := by
  refine ob_C_of (by decide) rfl (Nat.le_of_ble_eq_true rfl) ?_
  refine og_aload_n dX1_moveTo_0 rfl rfl ?_
  refine og_getf dX1_moveTo_1 kfX1_24 (by assumption) (by assumption) ?_
  refine og_aload_n dX1_moveTo_4 rfl rfl ?_
  refine og_getf dX1_moveTo_5 kfX1_69 (by assumption) (by assumption) ?_
  refine og_bipush (v := 16) dX1_moveTo_8 (by decide) ?_
  refine og_imul dX1_moveTo_10 ?_
  refine og_aload_n dX1_moveTo_11 rfl rfl ?_
  refine og_getf dX1_moveTo_12 kfX1_24 (by assumption) (by assumption) ?_
  refine og_iload_n dX1_moveTo_15 rfl ?_
  refine og_bipush (v := 16) dX1_moveTo_16 (by decide) ?_
  refine og_imul dX1_moveTo_18 ?_
  refine og_aload_n dX1_moveTo_19 rfl rfl ?_
  refine og_getf dX1_moveTo_20 kfX1_63 (by assumption) (by assumption) ?_
  refine og_bipush (v := 16) dX1_moveTo_23 (by decide) ?_
  refine og_imul dX1_moveTo_25 ?_
  refine og_st [.int (nI (16 * u)), .int (nI (16 * e)), .ref hb, .int (nI (16 * s)), .ref hb] (by rw [← nI_16 u, ← nI_16 e, ← nI_16 s] <;> rfl) ?_
  refine og_callSne dX1_moveTo_26 knX1_72 (ct_copy h3 h3 (i0 := 16 * s) (i1 := 16 * e) (len := 16 * u) (by omega) (by omega) ⟨by omega, by omega⟩ (fun i _ => hF _)) rfl rfl ⟨by decide, by decide⟩ (by decide) (by decide) (by decide) rfl ?_
  refine og_aload_n dX1_moveTo_29 rfl rfl ?_
  refine og_iload_n dX1_moveTo_30 rfl ?_
  refine og_put dX1_moveTo_31 kfX1_69 (by assumption) rfl rfl ?_
  exact og_return rfl dX1_moveTo_34 (by decide) (by decide) ⟨rfl, rfl⟩
/-- the packed blocks: closed by whatever the last one's link is set to -/
def ob_pk (T : ob_T) (V : ob_V) (edge last : Nat) (D : List ob_bk) : Prop := last ∈ edge :: D.map (·.1) ∧ ∀ v, ob_sg T (ob_set V last 3 v) D (ob_set V last 3 v edge 3) v
/-- packing: l0 of B0 as far as rest (from place m on), packed as D up to place e -/
def ob_pi (T : ob_T) (V0 V : ob_V) (B0 B : ob_B) (hb edge cap e m last : Nat) (l0 D rest : List ob_bk) (v : Value) : Prop :=
  ob_pk T V edge last D ∧ ob_sg T V rest v .null ∧ (edge :: (D ++ rest).map (·.1)).Nodup ∧ ob_til D 0 e ∧ ob_us D = e ∧ ob_til rest m cap ∧ e ≤ m ∧ ob_us l0 = e + ob_us rest ∧ (∀ x c n, T x = some (c, n) → c ≠ 0 → ∀ k, V x k = V0 x k) ∧ (∀ x, x ≠ hb → B x = B0 x) ∧ sb_Fit (B hb) ∧ (∀ j, 16 * m ≤ j → B hb j = B0 hb j) ∧
  (∀ b s u a, ((b, s, u, some a) : ob_bk) ∈ l0 → ((b, s, u, some a) : ob_bk) ∈ rest ∨ ∃ s', ((b, s', u, some a) : ob_bk) ∈ D ∧ ∀ j, j < 16 * u → B hb (16 * s' + j) = B0 hb (16 * s + j)) ∧ (∀ b s' u a, ((b, s', u, some a) : ob_bk) ∈ D ++ rest → ∃ s, ((b, s, u, some a) : ob_bk) ∈ l0)
theorem push_loop {hp hb edge cap : Nat} {V0 : ob_V} {B0 : ob_B} {l0 : List ob_bk} (h1 : T hp = some (1, 0)) (h2 : V0 hp 4 = .ref hb) (h3 : T hb = some (7, 16 * cap)) (hcap : cap ≤ 4096) (hR : 3 ≤ R.frames ∧ 180 ≤ R.locals) (hk : k ≤ R.cells) (hs : n ≤ R.slots) :
    ∀ (rest D : List ob_bk) (V : ob_V) (B : ob_B) (e m last : Nat) (v : Value), T edge = some (0, 0) → T last = some (0, 0) → ob_pi T V0 V B0 B hb edge cap e m last l0 D rest v →
    (∀ D' V' B' e' last', T last' = some (0, 0) → ob_pi T V0 V' B0 B' hb edge cap e' cap last' l0 D' [] .null → ob_G X mX1_pushTogether R Q 54 [(0, .ref hp), (1, .int (nI e')), (2, .ref last'), (3, .null)] [] (T, V', B', J) k n) →
    ob_G X mX1_pushTogether R Q 15 [(0, .ref hp), (1, .int (nI e)), (2, .ref last), (3, v)] [] (T, V, B, J) k n := by
  intro rest
  induction rest with
  | nil =>
    intro D V B e m last v hed hla hp9 kk
    have hv : v = .null := hp9.2.1
    have hm : m = cap := hp9.2.2.2.2.2.1
    subst hv
    subst hm
    refine og_aload_n dX1_pushTogether_15 rfl rfl ?_
    refine og_ifnullN (tgt := 54) dX1_pushTogether_16 (by decide) ?_
    exact kk D V B e last hla hp9
  | cons f rest ih =>
    obtain ⟨b, s, u, o⟩ := f
    intro D V B e m last v hed hla hp9 kk
    obtain ⟨⟨p0, p1⟩, p2, p3, p4, p5, p6, p7, p8, p9, p10, p11, p12, p13, p14⟩ := hp9
    obtain ⟨rfl, g1, g2, g3, g4, g5⟩ := id p2
    obtain ⟨rfl, q2, q3⟩ := p6
    have hcp := (ob_til_le q3).1
    have hhp : V hp 4 = .ref hb := by rw [p9 hp 1 0 h1 (by decide)]; exact h2
    have hnd2 := p3
    simp only [List.map_append, List.map_cons, List.nodup_cons, List.nodup_append, List.mem_append, List.mem_cons] at hnd2
    cases o with
    | none =>
      have g4 : V b 2 = .null := g4
      have hrf := ob_sg_v g5
      refine og_aload_n dX1_pushTogether_15 rfl rfl ?_
      refine og_ifnull dX1_pushTogether_16 ?_
      refine og_aload_n dX1_pushTogether_19 rfl rfl ?_
      refine og_getf dX1_pushTogether_20 kfX1_59 (by assumption) (by assumption) ?_
      refine og_ifnullN (tgt := 46) dX1_pushTogether_23 (by decide) ?_
      refine og_aload_n dX1_pushTogether_46 rfl rfl ?_
      refine og_getf dX1_pushTogether_47 kfX1_37 g1 rfl ?_
      refine og_astore_n dX1_pushTogether_50 (by decide) hrf ?_
      refine og_goto (tgt := 15) dX1_pushTogether_51 (by decide) ?_
      refine og_lv [(0, .ref hp), (1, .int (nI e)), (2, .ref last), (3, V b 3)] rfl ?_
      refine ih D V B e (s + u) last (V b 3) hed hla ⟨⟨p0, p1⟩, g5, ?_, p4, p5, q3, by omega, p8, p9, p10, p11, fun j hj => p12 j (by omega), fun b2 s2 u2 a2 hm => ?_, fun b2 s2 u2 a2 hm => p14 b2 s2 u2 a2 ?_⟩ kk
      · simp only [List.map_append, List.nodup_cons, List.nodup_append, List.mem_append]
        exact ⟨fun h => hnd2.1 (h.imp id Or.inr), hnd2.2.1, hnd2.2.2.1.2, fun x hx y hy => hnd2.2.2.2 x hx y (Or.inr hy)⟩
      · rcases p13 b2 s2 u2 a2 hm with h9 | h9
        · rcases List.mem_cons.mp h9 with h9 | h9
          · cases h9
          · exact Or.inl h9
        · exact Or.inr h9
      · rcases List.mem_append.mp hm with h9 | h9
        · exact List.mem_append_left _ h9
        · exact List.mem_append_right _ (List.mem_cons_of_mem _ h9)
    | some a =>
      have g4 : V b 2 = .ref a := g4
      have hrf := ob_sg_v g5
      have hu2 : ob_us ((b, s, u, some a) :: rest) = u + ob_us rest := rfl
      refine og_aload_n dX1_pushTogether_15 rfl rfl ?_
      refine og_ifnull dX1_pushTogether_16 ?_
      refine og_aload_n dX1_pushTogether_19 rfl rfl ?_
      refine og_getf dX1_pushTogether_20 kfX1_59 (by assumption) (by assumption) ?_
      refine og_ifnull dX1_pushTogether_23 ?_
      refine og_aload_n dX1_pushTogether_26 rfl rfl ?_
      refine og_aload_n dX1_pushTogether_27 rfl rfl ?_
      refine og_iload_n dX1_pushTogether_28 rfl ?_
      refine og_callVe dX1_pushTogether_29 kvX1_108 (ct_moveTo h1 hhp h3 hcap p11 g1 g2 g3 (by omega) (by omega)) rfl h1 rfl rfl ⟨Nat.le_trans (by decide) hR.1, Nat.le_trans (by decide) hR.2⟩ hk hs (Nat.le_of_ble_eq_true rfl) rfl ?_
      have c1 : ob_set V b 0 (.int (nI e)) b 1 = .int (nI u) := by simp [ob_set, g3]
      refine og_iload_n dX1_pushTogether_32 rfl ?_
      refine og_aload_n dX1_pushTogether_33 rfl rfl ?_
      refine og_getf dX1_pushTogether_34 kfX1_63 (by assumption) (by assumption) ?_
      refine og_iadd dX1_pushTogether_37 ?_
      refine og_istore_n dX1_pushTogether_38 (by decide) ?_
      refine og_aload_n dX1_pushTogether_39 rfl rfl ?_
      refine og_aload_n dX1_pushTogether_40 rfl rfl ?_
      refine og_put dX1_pushTogether_41 kfX1_37 (by assumption) rfl rfl ?_
      refine og_aload_n dX1_pushTogether_44 rfl rfl ?_
      refine og_astore_n dX1_pushTogether_45 (by decide) rfl ?_
      have lb : last ≠ b := by
        intro h9
        subst h9
        rcases List.mem_cons.mp p0 with h9 | h9
        · exact hnd2.1 (Or.inr (Or.inl h9.symm))
        · exact hnd2.2.2.2 _ h9 _ (Or.inl rfl) rfl
      have c3 : ob_set (ob_set V b 0 (.int (nI e))) last 3 (.ref b) b 3 = V b 3 := by simp [ob_set, lb.symm]
      refine og_aload_n dX1_pushTogether_46 rfl rfl ?_
      refine og_getf dX1_pushTogether_47 kfX1_37 (by assumption) (by assumption) ?_
      refine og_astore_n dX1_pushTogether_50 (by decide) hrf ?_
      refine og_goto (tgt := 15) dX1_pushTogether_51 (by decide) ?_
      refine og_lv [(0, .ref hp), (1, .int (nI (e + u))), (2, .ref b), (3, V b 3)] (by rw [← nI_add]; rfl) ?_
      have hbD : b ∉ D.map (·.1) := fun h9 => hnd2.2.2.2 _ h9 _ (Or.inl rfl) rfl
      have eb : edge ≠ b := fun e => hnd2.1 (Or.inr (Or.inl e))
      have hbr : b ∉ rest.map (·.1) := hnd2.2.2.1.1
      have hlr : last ∉ rest.map (·.1) := by
        intro h9
        rcases List.mem_cons.mp p0 with h8 | h8
        · exact hnd2.1 (Or.inr (Or.inr (h8 ▸ h9)))
        · exact hnd2.2.2.2 _ h8 _ (Or.inr h9) rfl
      have hD := (ob_til_le p4).2
      have hcp2 : ∀ j, ob_row B hb (va_cpy (B hb) (B hb) (16 * s) (16 * e) (16 * u)) hb j = if 16 * e ≤ j ∧ j < 16 * e + 16 * u then B hb (16 * s + (j - 16 * e)) else B hb j := fun j => by simp [ob_row, va_cpy]
      refine ih (D ++ [(b, e, u, some a)]) (ob_set (ob_set V b 0 (.int (nI e))) last 3 (.ref b)) (ob_row B hb (va_cpy (B hb) (B hb) (16 * s) (16 * e) (16 * u))) (e + u) (s + u) b (V b 3) hed g1 ⟨⟨by simp, fun v => ?_⟩, ?_, ?_, ob_til_app.mpr ⟨e, p4, rfl, q2, rfl⟩, ?_, q3, by omega, ?_, ?_, ?_, ?_, ?_, ?_, ?_⟩ kk
      · have far : ∀ x j, x ≠ b → ob_set (ob_set (ob_set V b 0 (.int (nI e))) last 3 (.ref b)) b 3 v x j = ob_set V last 3 (.ref b) x j := fun x j hx => by simp [ob_set, hx]
        refine ob_sg_app.mpr ⟨.ref b, ?_, rfl, g1, ?_, ?_, ?_, ?_⟩
        · rw [far edge 3 eb]
          exact ob_sg_congr (fun x hx j => far x j (fun e => hbD (e ▸ hx))) (p1 (.ref b))
        · simp [ob_set, lb.symm]
        · simp [ob_set, lb.symm, g3]
        · simp [ob_set, lb.symm, g4, va_rf]
        · exact ob_set_s _ _ _ _
      · exact ob_sg_congr (fun x hx j => by
          have h8 : x ≠ b := fun e => hbr (e ▸ hx)
          have h9 : x ≠ last := fun e => hlr (e ▸ hx)
          simp [ob_set, h8, h9]) g5
      · simpa using p3
      · rw [ob_us_app, p5]; simp [ob_us]
      · rw [p8, hu2]; omega
      · intro x c n9 hx hc k9
        have h8 : x ≠ b := fun e => by rw [e, g1] at hx; cases hx; exact hc rfl
        have h9 : x ≠ last := fun e => by rw [e, hla] at hx; cases hx; exact hc rfl
        rw [← p9 x c n9 hx hc k9]
        simp [ob_set, h8, h9]
      · intro x hx
        rw [← p10 x hx]
        simp [ob_row, hx]
      · have : ob_row B hb (va_cpy (B hb) (B hb) (16 * s) (16 * e) (16 * u)) hb = va_cpy (B hb) (B hb) (16 * s) (16 * e) (16 * u) := by simp [ob_row]
        rw [this]
        exact sb_fitC p11 p11
      · intro j hj
        rw [hcp2, if_neg (by omega)]
        exact p12 j (by omega)
      · intro b2 s2 u2 a2 hm
        rcases p13 b2 s2 u2 a2 hm with h9 | ⟨s', h9, h8⟩
        · rcases List.mem_cons.mp h9 with h9 | h9
          · cases h9
            refine Or.inr ⟨e, by simp, fun j hj => ?_⟩
            rw [hcp2, if_pos (by omega), show 16 * s + (16 * e + j - 16 * e) = 16 * s + j by omega]
            exact p12 _ (by omega)
          · exact Or.inl h9
        · refine Or.inr ⟨s', List.mem_append_left _ h9, fun j hj => ?_⟩
          have := hD _ h9
          simp only at this
          rw [hcp2, if_neg (by omega)]
          exact h8 j hj
      · intro b2 s2 u2 a2 hm
        rw [List.append_assoc] at hm
        rcases List.mem_append.mp hm with h9 | h9
        · exact p14 b2 s2 u2 a2 (List.mem_append_left _ h9)
        · rcases List.mem_cons.mp h9 with h9 | h9
          · cases h9
            exact p14 b s u a (List.mem_append_right _ (by simp))
          · exact p14 b2 s2 u2 a2 (List.mem_append_right _ (List.mem_cons_of_mem _ h9))
theorem ct_pushTogether {hp hb edge cap : Nat} {l : List ob_bk} (h1 : T hp = some (1, 0)) (h1e : V hp 1 = .ref edge) (h1c : V hp 3 = .int (nI cap)) (h2 : V hp 4 = .ref hb) (h3 : T hb = some (7, 16 * cap)) (hcap : cap ≤ 4096) (hF : sb_Fit (B hb)) (h : ob_hq T V edge cap l) (hus : ob_us l < cap) : ob_C X mX1_pushTogether 3 1 4 [.ref hp] (T, V, B, J) (fun r w' => ∃ q T' V' B' D, r = .inl (some (.ref q)) ∧ w' = (T', V', B', J) ∧ ob_hf T V T' V' ∧ ob_hq T' V' edge cap (D ++ [(q, ob_us l, cap - ob_us l, none)]) ∧ ob_us D = ob_us l ∧ (∀ x, x ≠ hb → B' x = B x) ∧ sb_Fit (B' hb) ∧ ob_rl B hb l B' hb D) := by
  refine ob_C_of (by decide) rfl (Nat.le_of_ble_eq_true rfl) ?_
  obtain ⟨g1, g2, g3, g4⟩ := h
  refine og_lv [(0, .ref hp)] rfl ?_
  refine og_iconst (v := 0) dX1_pushTogether_0 (by decide) ?_
  refine og_istore_n dX1_pushTogether_1 (by decide) ?_
  refine og_aload_n dX1_pushTogether_2 rfl rfl ?_
  refine og_getf dX1_pushTogether_3 kfX1_33 (by assumption) (by assumption) ?_
  refine og_astore_n dX1_pushTogether_6 (by decide) rfl ?_
  refine og_aload_n dX1_pushTogether_7 rfl rfl ?_
  refine og_getf dX1_pushTogether_8 kfX1_33 (by assumption) (by assumption) ?_
  refine og_getf dX1_pushTogether_11 kfX1_37 g1 rfl ?_
  refine og_astore_n dX1_pushTogether_14 (by decide) (ob_sg_v g2) ?_
  refine og_lv [(0, .ref hp), (1, .int (nI 0)), (2, .ref edge), (3, V edge 3)] rfl ?_
  refine push_loop (l0 := l) (B0 := B) h1 h2 h3 hcap ⟨by decide, by decide⟩ (by decide) (by decide) l [] V B 0 0 edge (V edge 3) g1 g1 ⟨⟨by simp, fun v => (ob_set_s _ _ _ _ : ob_set V edge 3 v edge 3 = v)⟩, g2, g3, rfl, rfl, g4, Nat.le_refl _, by simp, fun _ _ _ _ _ _ => rfl, fun _ _ => rfl, hF, fun _ _ => rfl, fun b s u a hm => Or.inl hm, fun b s u a hm => ⟨s, hm⟩⟩ ?_
  intro D V' B' e last hla hpi
  obtain ⟨⟨p0, p1⟩, p2, p3, p4, p5, p6, p7, p8, p9, p10, p11, p12, p13, p14⟩ := hpi
  have he : e = ob_us l := by rw [p8]; simp [ob_us]
  rw [List.append_nil] at p3
  have hTD : ∀ x ∈ edge :: D.map (·.1), T x = some (0, 0) := by
    intro x hx
    rcases List.mem_cons.mp hx with h9 | h9
    · rw [h9]; exact g1
    · exact ob_sg_T (p1 .null) x h9
  refine og_new dX1_pushTogether_54 kc0 klX1_28 kn0 kt0 ob_fs0_ok (by decide) (by decide) (fun q hq _ => ?_)
  have hq : T q = none := hq
  obtain ⟨nT1, nT2⟩ := ob_new_ext (c := 0) (n := 0) hq
  have nq : ∀ x ∈ edge :: D.map (·.1), x ≠ q := fun x hx e => by rw [e] at hx; rw [hTD q hx] at hq; cases hq
  have hpq : hp ≠ q := fun e => by rw [e, hq] at h1; cases h1
  have h1' := nT1 _ _ h1
  have c1 : ob_row V' q ob_fs0 hp 3 = .int (nI cap) := by simp [ob_row, hpq]; rw [p9 hp 1 0 h1 (by decide)]; exact h1c
  have hlq := nq last p0
  have hla' := nT1 _ _ hla
  generalize hT' : ob_new T q 0 0 = T' at *
  refine og_dup dX1_pushTogether_57 rfl ?_
  refine og_iload_n dX1_pushTogether_58 rfl ?_
  refine og_aload_n dX1_pushTogether_59 rfl rfl ?_
  refine og_getf dX1_pushTogether_60 kfX1_21 (by assumption) (by assumption) ?_
  refine og_iload_n dX1_pushTogether_63 rfl ?_
  refine og_isub dX1_pushTogether_64 ?_
  refine og_callIe dX1_pushTogether_65 kiX1_30 (ct_Block nT2) rfl rfl ⟨by decide, by decide⟩ (by decide) (by decide) (Nat.le_of_ble_eq_true rfl) ?_
  refine og_astore_n dX1_pushTogether_68 (by decide) rfl ?_
  refine og_aload_n dX1_pushTogether_69 rfl rfl ?_
  refine og_aload_n dX1_pushTogether_70 rfl rfl ?_
  refine og_put dX1_pushTogether_71 kfX1_37 (by assumption) rfl rfl ?_
  refine og_aload_n dX1_pushTogether_74 rfl rfl ?_
  refine og_areturn rfl (Or.inl ⟨_, rfl⟩) (Or.inr ⟨_, rfl⟩) dX1_pushTogether_75 (by decide) (by decide) ?_
  generalize hV2 : ob_set (ob_set (ob_set (ob_row V' q ob_fs0) q 0 (.int (nI e))) q 1 (.int (nI cap - nI e))) last 3 (.ref q) = V2
  have far : ∀ x j, x ≠ q → V2 x j = ob_set V' last 3 (.ref q) x j := fun x j h1 => by rw [← hV2]; simp [ob_set, ob_row, h1]
  have q0 : V2 q 0 = .int (nI e) := by rw [← hV2]; simp [ob_set, hlq.symm]
  have q1 : V2 q 1 = .int (nI (cap - e)) := by rw [← hV2, ← nI_sub (by omega)]; simp [ob_set, hlq.symm]
  have q2 : V2 q 2 = .null := by rw [← hV2]; simp [ob_set, ob_row, ob_fs0, hlq.symm]
  have q3 : V2 q 3 = .null := by rw [← hV2]; simp [ob_set, ob_row, ob_fs0, hlq.symm]
  refine ⟨q, T', V2, B', D, rfl, by rw [← hV2], ⟨nT1, fun x c n9 hx hc k9 => ?_⟩, ⟨nT1 _ _ g1, ?_, ?_, ?_⟩, by omega, p10, p11, fun b s u a hm => ?_, fun b s u a hm => p14 b s u a (by rw [List.append_nil]; exact hm)⟩
  · have h8 : x ≠ q := fun e => by rw [e, hq] at hx; cases hx
    have h9 : x ≠ last := fun e => by rw [e, hla] at hx; cases hx; exact hc rfl
    rw [far x k9 h8, ob_set_a _ _ _ _ _ h9]
    exact p9 x c n9 hx hc k9
  · rw [far edge 3 (nq edge (by simp))]
    refine ob_sg_app.mpr ⟨.ref q, ob_sg_ext nT1 (ob_sg_congr (fun x hx j => far x j (nq x (List.mem_cons_of_mem _ hx))) (p1 (.ref q))), rfl, nT2, by rw [← he]; exact q0, by rw [← he]; exact q1, q2, q3⟩
  · have : (edge :: D.map (·.1) ++ [q]).Nodup := by
      rw [List.nodup_append]
      exact ⟨p3, by simp, fun x hx y hy => by rw [List.mem_singleton.mp hy]; exact nq x hx⟩
    simpa using this
  · exact ob_til_app.mpr ⟨e, p4, he.symm, by omega, show e + (cap - ob_us l) = cap by omega⟩
  · rcases p13 b s u a hm with h9 | h9
    · cases h9
    · exact h9
end OBP
