/-! THE REFERENCE: move, take, insert, told -/
theorem nI_m1lt {c f : Nat} (hc : c < 2 ^ 30) (hf : f < 2 ^ 30) : nI c - 1 < nI f ↔ c ≤ f := by
  rcases Nat.eq_zero_or_pos c with rfl | h
  · have : nI 0 - 1 = (-1 : Int32) := by decide
    rw [this]
    refine ⟨fun _ => by omega, fun _ => ?_⟩
    exact Int32.lt_of_lt_of_le (b := 0) (by decide) (nI_pos' (by omega))
  · rw [show (1 : Int32) = nI 1 from rfl, nI_sub (by omega), nI_ltI (by omega) (by omega)]
    omega
theorem nI_m1 (c : Nat) : nI c + Int32.ofInt (-1) = nI c - 1 := by rw [Int32.sub_eq_add_neg]; rfl
section OMD
variable {X : ob_X} {T : ob_T} {V : ob_V} {B : ob_B} {J : ob_J} {R : Room} {Q : ob_r → ob_w → Prop} {k n : Nat} {m mt mr mb mk mv me mu : Nat} {E : ob_E}
theorem up_loop {f len by9 : Nat} {B0 : ob_B} (ha : ob_Ma T V m mt mr mb mk mv me mu) (h8 : V m 8 = .int (nI len)) (hfl : f ≤ len) (hb : len + by9 ≤ 66048) (hk : k ≤ R.cells) (hs : n ≤ R.slots) : ∀ (d c : Nat) (B : ob_B), f + d = c → c ≤ len → (∀ y, y ≠ mb → B y = B0 y) → (∀ j, c ≤ j → j < len → B mb (j + by9) = B0 mb j) → (∀ j, j < c + by9 → B mb j = B0 mb j) →
    (∀ B', (∀ y, y ≠ mb → B' y = B0 y) → (∀ j, f ≤ j → j < len → B' mb (j + by9) = B0 mb j) → (∀ j, j < f → B' mb j = B0 mb j) → Q (.inl none) (T, ob_set V m 8 (.int (nI (len + by9))), B', J)) →
    ob_G X mX6_move R Q 11 [(0, .ref m), (1, .int (nI f)), (2, .int (nI by9)), (3, .int (nI c - 1))] [] (T, V, B, J) k n := by
  obtain ⟨⟨h1, -, -, -, -, h6, -, -⟩, ⟨-, -, g3, -, -⟩, -⟩ := ha
  intro d
  induction d with
  | zero =>
    intro c B hc hcl f1 f2 f3 kk
    have e : f = c := by omega
    subst e
    refine og_iload_n dX6_move_11 rfl ?_
    refine og_iload_n dX6_move_12 rfl ?_
    refine og_icmp_lt (tgt := 36) dX6_move_13 (by decide) (fun _ => ?_) (fun z9 => absurd ((nI_m1lt (by omega) (by omega)).mpr (Nat.le_refl _)) z9)
    refine og_goto (tgt := 69) dX6_move_36 (by decide) ?_
    refine og_aload_n dX6_move_69 rfl rfl ?_
    refine og_dup dX6_move_70 rfl ?_
    refine og_getf dX6_move_71 kfX6_69 (by assumption) (by assumption) ?_
    refine og_iload_n dX6_move_74 rfl ?_
    refine og_iadd dX6_move_75 ?_
    refine og_st [.int (nI (len + by9)), .ref m] (by rw [nI_add]) ?_
    refine og_put dX6_move_76 kfX6_69 (by assumption) rfl rfl ?_
    exact og_return rfl dX6_move_79 hk hs (kk B f1 f2 (fun j hj => f3 j (by omega)))
  | succ d ih =>
    intro c B hc hcl f1 f2 f3 kk
    obtain ⟨c', rfl⟩ : ∃ c', c = c' + 1 := ⟨c - 1, by omega⟩
    refine og_lv [(0, .ref m), (1, .int (nI f)), (2, .int (nI by9)), (3, .int (nI c'))] (by rw [← nI_pred c']; rfl) ?_
    have hv : B mb c' = B0 mb c' := f3 c' (by omega)
    refine og_iload_n dX6_move_11 rfl ?_
    refine og_iload_n dX6_move_12 rfl ?_
    refine og_icmp_lt (tgt := 36) dX6_move_13 (by decide) (fun z9 => absurd z9 (nI_nlt (by omega) (by omega))) (fun _ => ?_)
    refine og_aload_n dX6_move_16 rfl rfl ?_
    refine og_getf dX6_move_17 kfX6_17 (by assumption) (by assumption) ?_
    refine og_iload_n dX6_move_20 rfl ?_
    refine og_iload_n dX6_move_21 rfl ?_
    refine og_iadd dX6_move_22 ?_
    refine og_st [.int (nI (c' + by9)), .ref mb] (by rw [nI_add] <;> rfl) ?_
    refine og_aload_n dX6_move_23 rfl rfl ?_
    refine og_getf dX6_move_24 kfX6_17 (by assumption) (by assumption) ?_
    refine og_iload_n dX6_move_27 rfl ?_
    refine og_ialv dX6_move_28 (by assumption) (by omega) (by decide) (hv) ?_
    refine og_iasv dX6_move_29 (by assumption) (by omega) (by decide) ?_
    refine og_iinc dX6_move_30 rfl (nI_m1 c') (by decide) ?_
    refine og_goto (tgt := 11) dX6_move_33 (by decide) ?_
    refine og_lv [(0, .ref m), (1, .int (nI f)), (2, .int (nI by9)), (3, .int (nI c' - 1))] rfl ?_
    refine ih c' _ (by omega) (by omega) (fun y hy => ?_) (fun j hj hjl => ?_) (fun j hj => ?_) kk
    · rw [← f1 y hy]; funext i; exact ob_set_a _ _ _ _ _ hy
    · by_cases e : j = c'
      · subst e; exact ob_set_s _ _ _ _
      · rw [ob_set_k _ _ _ _ _ (by omega)]; exact f2 j (by omega) hjl
    · rw [ob_set_k _ _ _ _ _ (by omega)]; exact f3 j (by omega)
theorem cm_moveU {f len by9 : Nat} (ha : ob_Ma T V m mt mr mb mk mv me mu) (h8 : V m 8 = .int (nI len)) (hfl : f ≤ len) (hb : len + by9 ≤ 66048) (hb1 : 1 ≤ by9) : ob_C X mX6_move 0 0 0 [.ref m, .int (nI f), .int (nI by9)] (T, V, B, J) (fun r w' => ∃ B', r = .inl none ∧ w' = (T, ob_set V m 8 (.int (nI (len + by9))), B', J) ∧ (∀ y, y ≠ mb → B' y = B y) ∧ (∀ j, f ≤ j → j < len → B' mb (j + by9) = B mb j) ∧ (∀ j, j < f → B' mb j = B mb j)) := by
  refine ob_C_of (by decide) rfl (Nat.le_of_ble_eq_true rfl) ?_
  have h1 := ha.1.1
  refine og_lv [(0, .ref m), (1, .int (nI f)), (2, .int (nI by9))] rfl ?_
  refine og_iload_n dX6_move_0 rfl ?_
  refine og_if_le (tgt := 39) dX6_move_1 (by decide) (fun z9 => absurd z9 (nI_nle hb1 (by omega))) (fun _ => ?_)
  refine og_aload_n dX6_move_4 rfl rfl ?_
  refine og_getf dX6_move_5 kfX6_69 (by assumption) (by assumption) ?_
  refine og_iconst (v := 1) dX6_move_8 (by decide) ?_
  refine og_isub dX6_move_9 ?_
  refine og_istore_n dX6_move_10 (by decide) ?_
  refine og_lv [(0, .ref m), (1, .int (nI f)), (2, .int (nI by9)), (3, .int (nI len - 1))] rfl ?_
  exact up_loop ha h8 hfl hb (by decide) (by decide) (len - f) len B (by omega) (Nat.le_refl _) (fun _ _ => rfl) (fun j h1 h2 => by omega) (fun _ _ => rfl) (fun B' f1 f2 f3 => ⟨B', rfl, rfl, f1, f2, f3⟩)
theorem nI_addneg {a b : Nat} (h : b ≤ a) : nI a + -(nI b) = nI (a - b) := by rw [← Int32.sub_eq_add_neg, nI_sub h]
theorem dn_loop {f len d9 : Nat} {B0 : ob_B} (ha : ob_Ma T V m mt mr mb mk mv me mu) (h8 : V m 8 = .int (nI len)) (hfl : f ≤ len) (hdf : d9 ≤ f) (hb : len ≤ 66048) (hk : k ≤ R.cells) (hs : n ≤ R.slots) : ∀ (d c : Nat) (B : ob_B), c + d = len → f ≤ c → (∀ y, y ≠ mb → B y = B0 y) → (∀ j, f ≤ j → j < c → B mb (j - d9) = B0 mb j) → (∀ j, c - d9 ≤ j → B mb j = B0 mb j) → (∀ j, j < f - d9 → B mb j = B0 mb j) →
    (∀ B', (∀ y, y ≠ mb → B' y = B0 y) → (∀ j, f ≤ j → j < len → B' mb (j - d9) = B0 mb j) → (∀ j, j < f - d9 → B' mb j = B0 mb j) → Q (.inl none) (T, ob_set V m 8 (.int (nI (len - d9))), B', J)) →
    ob_G X mX6_move R Q 41 [(0, .ref m), (1, .int (nI f)), (2, .int (-(nI d9))), (3, .int (nI c))] [] (T, V, B, J) k n := by
  obtain ⟨⟨h1, -, -, -, -, h6, -, -⟩, ⟨-, -, g3, -, -⟩, -⟩ := ha
  intro d
  induction d with
  | zero =>
    intro c B hc hcl f1 f2 f3 f4 kk
    have e : c = len := by omega
    subst e
    refine og_iload_n dX6_move_41 rfl ?_
    refine og_aload_n dX6_move_42 rfl rfl ?_
    refine og_getf dX6_move_43 kfX6_69 (by assumption) (by assumption) ?_
    refine og_icmp_ge (tgt := 69) dX6_move_46 (by decide) (fun _ => ?_) (fun z9 => absurd (Int32.le_refl _) z9)
    refine og_aload_n dX6_move_69 rfl rfl ?_
    refine og_dup dX6_move_70 rfl ?_
    refine og_getf dX6_move_71 kfX6_69 (by assumption) (by assumption) ?_
    refine og_iload_n dX6_move_74 rfl ?_
    refine og_iadd dX6_move_75 ?_
    refine og_st [.int (nI (c - d9)), .ref m] (by rw [nI_addneg (by omega)]) ?_
    refine og_put dX6_move_76 kfX6_69 (by assumption) rfl rfl ?_
    exact og_return rfl dX6_move_79 hk hs (kk B f1 f2 f4)
  | succ d ih =>
    intro c B hc hcl f1 f2 f3 f4 kk
    have hv : B mb c = B0 mb c := f3 c (by omega)
    refine og_iload_n dX6_move_41 rfl ?_
    refine og_aload_n dX6_move_42 rfl rfl ?_
    refine og_getf dX6_move_43 kfX6_69 (by assumption) (by assumption) ?_
    refine og_icmp_ge (tgt := 69) dX6_move_46 (by decide) (fun z9 => absurd z9 (nI_ge (by omega) (by omega))) (fun _ => ?_)
    refine og_aload_n dX6_move_49 rfl rfl ?_
    refine og_getf dX6_move_50 kfX6_17 (by assumption) (by assumption) ?_
    refine og_iload_n dX6_move_53 rfl ?_
    refine og_iload_n dX6_move_54 rfl ?_
    refine og_iadd dX6_move_55 ?_
    refine og_st [.int (nI (c - d9)), .ref mb] (by rw [nI_addneg (by omega)] <;> rfl) ?_
    refine og_aload_n dX6_move_56 rfl rfl ?_
    refine og_getf dX6_move_57 kfX6_17 (by assumption) (by assumption) ?_
    refine og_iload_n dX6_move_60 rfl ?_
    refine og_ialv dX6_move_61 (by assumption) (by omega) (by decide) (hv) ?_
    refine og_iasv dX6_move_62 (by assumption) (by omega) (by decide) ?_
    refine og_iinc dX6_move_63 rfl (nI_1 c) (by decide) ?_
    refine og_goto (tgt := 41) dX6_move_66 (by decide) ?_
    refine og_lv [(0, .ref m), (1, .int (nI f)), (2, .int (-(nI d9))), (3, .int (nI (c + 1)))] rfl ?_
    refine ih (c + 1) _ (by omega) (by omega) (fun y hy => ?_) (fun j hj hjl => ?_) (fun j hj => ?_) (fun j hj => ?_) kk
    · rw [← f1 y hy]; funext i; exact ob_set_a _ _ _ _ _ hy
    · by_cases e : j = c
      · subst e; exact ob_set_s _ _ _ _
      · rw [ob_set_k _ _ _ _ _ (by omega)]; exact f2 j hj (by omega)
    · rw [ob_set_k _ _ _ _ _ (by omega)]; exact f3 j (by omega)
    · rw [ob_set_k _ _ _ _ _ (by omega)]; exact f4 j hj
theorem cm_moveD {f len d9 : Nat} (ha : ob_Ma T V m mt mr mb mk mv me mu) (h8 : V m 8 = .int (nI len)) (hfl : f ≤ len) (hdf : d9 ≤ f) (hb : len ≤ 66048) : ob_C X mX6_move 0 0 0 [.ref m, .int (nI f), .int (-(nI d9))] (T, V, B, J) (fun r w' => ∃ B', r = .inl none ∧ w' = (T, ob_set V m 8 (.int (nI (len - d9))), B', J) ∧ (∀ y, y ≠ mb → B' y = B y) ∧ (∀ j, f ≤ j → j < len → B' mb (j - d9) = B mb j) ∧ (∀ j, j < f - d9 → B' mb j = B mb j)) := by
  refine ob_C_of (by decide) rfl (Nat.le_of_ble_eq_true rfl) ?_
  have h1 := ha.1.1
  refine og_lv [(0, .ref m), (1, .int (nI f)), (2, .int (-(nI d9)))] rfl ?_
  have hle : -(nI d9) ≤ 0 := by
    rw [Int32.le_iff_toInt_le, sb_negT (by omega)]
    have : (0 : Int32).toInt = 0 := by decide
    omega
  refine og_iload_n dX6_move_0 rfl ?_
  refine og_if_le (tgt := 39) dX6_move_1 (by decide) (fun _ => ?_) (fun z9 => absurd (hle) z9)
  refine og_iload_n dX6_move_39 rfl ?_
  refine og_istore_n dX6_move_40 (by decide) ?_
  refine og_lv [(0, .ref m), (1, .int (nI f)), (2, .int (-(nI d9))), (3, .int (nI f))] rfl ?_
  exact dn_loop ha h8 hfl hdf hb (by decide) (by decide) (len - f) f B (by omega) (Nat.le_refl _) (fun _ _ => rfl) (fun j h1 h2 => by omega) (fun _ _ => rfl) (fun _ _ => rfl) (fun B' f1 f2 f3 => ⟨B', rfl, rfl, f1, f2, f3⟩)
/-- sizes moved one place down -/
theorem tk_loop {e cnt : Nat} {B0 : ob_B} (ha : ob_Ma T V m mt mr mb mk mv me mu) (h7 : V m 7 = .int (nI cnt)) (hc : cnt ≤ 1024) (lvx : List (Nat × Value)) :
    ∀ (d c : Nat) (B : ob_B), c + d = cnt → e ≤ c → (∀ y, y ≠ mk → y ≠ mv → B y = B0 y) → (∀ j, e ≤ j → j < c → B mk j = B0 mk (j + 1) ∧ B mv j = B0 mv (j + 1)) → (∀ j, c ≤ j → B mk j = B0 mk j ∧ B mv j = B0 mv j) → (∀ j, j < e → B mk j = B0 mk j ∧ B mv j = B0 mv j) →
    (∀ B', (∀ y, y ≠ mk → y ≠ mv → B' y = B0 y) → (∀ j, e ≤ j → j < cnt → B' mk j = B0 mk (j + 1) ∧ B' mv j = B0 mv (j + 1)) → (∀ j, j < e → B' mk j = B0 mk j ∧ B' mv j = B0 mv j) → ob_G X mX6_take R Q 89 [(0, .ref m), (1, .int (nI e))] [] (T, V, B', J) k n) →
    ob_G X mX6_take R Q 42 [(0, .ref m), (1, .int (nI e)), (4, .int (nI c))] [] (T, V, B, J) k n := by
  obtain ⟨⟨h1, -, -, -, -, h6, hk9, hv9⟩, ⟨-, -, g3, g4, g5⟩, ne⟩ := ha
  have mkv : mk ≠ mv := ne.2.2.2.2.2.2.2.2.2
  intro d
  induction d with
  | zero =>
    intro c B hcd hec f1 f2 f3 f4 kk
    have e9 : c = cnt := by omega
    subst e9
    refine og_iload dX6_take_42 rfl ?_
    refine og_aload_n dX6_take_44 rfl rfl ?_
    refine og_getf dX6_take_45 kfX6_52 (by assumption) (by assumption) ?_
    refine og_icmp_ge (tgt := 89) dX6_take_48 (by decide) (fun _ => ?_) (fun z9 => absurd (Int32.le_refl _) z9)
    exact og_lv [(0, .ref m), (1, .int (nI e))] rfl (kk B f1 f2 f4)
  | succ d ih =>
    intro c B hcd hec f1 f2 f3 f4 kk
    have v1 : B mk (c + 1) = B0 mk (c + 1) := (f3 (c + 1) (by omega)).1
    refine og_iload dX6_take_42 rfl ?_
    refine og_aload_n dX6_take_44 rfl rfl ?_
    refine og_getf dX6_take_45 kfX6_52 (by assumption) (by assumption) ?_
    refine og_icmp_ge (tgt := 89) dX6_take_48 (by decide) (fun z9 => absurd z9 (nI_ge (by omega) (by omega))) (fun _ => ?_)
    refine og_aload_n dX6_take_51 rfl rfl ?_
    refine og_getf dX6_take_52 kfX6_20 (by assumption) (by assumption) ?_
    refine og_iload dX6_take_55 rfl ?_
    refine og_aload_n dX6_take_57 rfl rfl ?_
    refine og_getf dX6_take_58 kfX6_20 (by assumption) (by assumption) ?_
    refine og_iload dX6_take_61 rfl ?_
    refine og_iconst (v := 1) dX6_take_63 (by decide) ?_
    refine og_iadd dX6_take_64 ?_
    refine og_st [.int (nI (c + 1)), .ref mk, .int (nI c), .ref mk] (by rw [nI_1] <;> rfl) ?_
    refine og_ialv dX6_take_65 (by assumption) (by omega) (by decide) (v1) ?_
    refine og_iasv dX6_take_66 (by assumption) (by omega) (by decide) ?_
    refine og_aload_n dX6_take_67 rfl rfl ?_
    refine og_getf dX6_take_68 kfX6_23 (by assumption) (by assumption) ?_
    refine og_iload dX6_take_71 rfl ?_
    refine og_aload_n dX6_take_73 rfl rfl ?_
    refine og_getf dX6_take_74 kfX6_23 (by assumption) (by assumption) ?_
    refine og_iload dX6_take_77 rfl ?_
    refine og_iconst (v := 1) dX6_take_79 (by decide) ?_
    refine og_iadd dX6_take_80 ?_
    refine og_st [.int (nI (c + 1)), .ref mv, .int (nI c), .ref mv] (by rw [nI_1] <;> rfl) ?_
    have v2 : ob_set B mk c (B0 mk (c + 1)) mv (c + 1) = B0 mv (c + 1) := by rw [ob_set_a _ _ _ _ _ mkv.symm]; exact (f3 (c + 1) (by omega)).2
    refine og_ialv dX6_take_81 (by assumption) (by omega) (by decide) (v2) ?_
    refine og_iasv dX6_take_82 (by assumption) (by omega) (by decide) ?_
    refine og_iinc dX6_take_83 rfl (nI_1 c) (by decide) ?_
    refine og_goto (tgt := 42) dX6_take_86 (by decide) ?_
    refine og_lv [(0, .ref m), (1, .int (nI e)), (4, .int (nI (c + 1)))] rfl ?_
    have kk1 : ∀ j, ob_set (ob_set B mk c (B0 mk (c + 1))) mv c (B0 mv (c + 1)) mk j = if j = c then B0 mk (c + 1) else B mk j := fun j => by rw [ob_set_a _ _ _ _ _ mkv]; by_cases hj : j = c; subst hj; rw [ob_set_s, if_pos rfl]; rw [ob_set_k _ _ _ _ _ hj, if_neg hj]
    have kk2 : ∀ j, ob_set (ob_set B mk c (B0 mk (c + 1))) mv c (B0 mv (c + 1)) mv j = if j = c then B0 mv (c + 1) else B mv j := fun j => by by_cases hj : j = c; subst hj; rw [ob_set_s, if_pos rfl]; rw [ob_set_k _ _ _ _ _ hj, if_neg hj, ob_set_a _ _ _ _ _ mkv.symm]
    refine ih (c + 1) _ (by omega) (by omega) (fun y hy1 hy2 => ?_) (fun j hj hjl => ?_) (fun j hj => ?_) (fun j hj => ?_) kk
    · rw [← f1 y hy1 hy2]; funext i; show ob_set (ob_set B mk c _) mv c _ y i = _; rw [ob_set_a _ _ _ _ _ hy2, ob_set_a _ _ _ _ _ hy1]
    · rw [kk1, kk2]
      by_cases e9 : j = c
      · subst e9; rw [if_pos rfl, if_pos rfl]; exact ⟨rfl, rfl⟩
      · rw [if_neg e9, if_neg e9]; exact f2 j hj (by omega)
    · rw [kk1, kk2, if_neg (by omega), if_neg (by omega)]; exact f3 j (by omega)
    · rw [kk1, kk2, if_neg (by omega), if_neg (by omega)]; exact f4 j hj
theorem cm_take {e : Nat} {cur : Option Nat} (ha : ob_Ma T V m mt mr mb mk mv me mu) (h : ob_Me V B m mb mk mv E) (ho : sp_oe E) (he : e < E.length) (hc : V m 12 = .int (sp_cI cur)) (hcl : ∀ c, cur = some c → c < E.length) : ob_C X mX6_take 1 0 0 [.ref m, .int (nI e)] (T, V, B, J) (fun r w' => ∃ V' B', r = .inl none ∧ w' = (T, V', B', J) ∧ ob_Me V' B' m mb mk mv (E.eraseIdx e) ∧ V' m 12 = .int (sp_cI (sp_cd cur e)) ∧ (∀ y j, ¬ (y = m ∧ (j = 7 ∨ j = 8 ∨ j = 12)) → V' y j = V y j) ∧ (∀ y, y ≠ mb → y ≠ mk → y ≠ mv → B' y = B y)) := by
  refine ob_C_of (by decide) rfl (Nat.le_of_ble_eq_true rfl) ?_
  obtain ⟨⟨h1, h2, h3, h4, h5, h6, h7, h8⟩, ⟨g1, g2, g3, g4, g5⟩, ne⟩ := id ha
  obtain ⟨m7, m8, b1, b2, b3⟩ := id h
  obtain ⟨o1, o2, o3, o4⟩ := ho
  have eE : E = E.take e ++ E[e] :: E.drop (e + 1) := by rw [← List.drop_eq_getElem_cons he, List.take_append_drop]
  have eE2 : E.eraseIdx e = E.take e ++ E.drop (e + 1) := List.eraseIdx_eq_take_drop_succ E e
  have eF : sp_fl E = sp_fl (E.take e) ++ ((E[e].1 ++ E[e].2) ++ sp_fl (E.drop (e + 1))) := by
    have := congrArg sp_fl eE
    rw [sp_fl_app, sp_fl_cons] at this
    exact this
  have eL := congrArg List.length eF
  simp only [List.length_append] at eL
  generalize hat : (sp_fl (E.take e)).length = at9 at *
  generalize hnn : E[e].1.length + E[e].2.length = nn at *
  refine og_lv [(0, .ref m), (1, .int (nI e))] rfl ?_
  refine og_aload_n dX6_take_0 rfl rfl ?_
  refine og_iload_n dX6_take_1 rfl ?_
  refine og_callVe dX6_take_2 kvX6_63 (cm_start ha h o1 (by omega)) rfl h1 rfl rfl ⟨by decide, by decide⟩ (by decide) (by decide) (Nat.le_of_ble_eq_true rfl) rfl ?_
  rw [hat]
  refine og_istore_n dX6_take_5 (by decide) ?_
  refine og_aload_n dX6_take_6 rfl rfl ?_
  refine og_getf dX6_take_7 kfX6_20 (by assumption) (by assumption) ?_
  refine og_iload_n dX6_take_10 rfl ?_
  refine og_ialv dX6_take_11 (by assumption) (by omega) (by decide) (h.ks he) ?_
  refine og_aload_n dX6_take_12 rfl rfl ?_
  refine og_getf dX6_take_13 kfX6_23 (by assumption) (by assumption) ?_
  refine og_iload_n dX6_take_16 rfl ?_
  refine og_ialv dX6_take_17 (by assumption) (by omega) (by decide) (h.vs he) ?_
  refine og_iadd dX6_take_18 ?_
  refine og_st [.int (nI nn)] (by rw [nI_add, hnn] <;> rfl) ?_
  refine og_istore_n dX6_take_19 (by decide) ?_
  refine og_aload_n dX6_take_20 rfl rfl ?_
  refine og_iload_n dX6_take_21 rfl ?_
  refine og_iload_n dX6_take_22 rfl ?_
  refine og_iadd dX6_take_23 ?_
  refine og_st [.int (nI (at9 + nn)), .ref m] (by rw [nI_add] <;> rfl) ?_
  refine og_iload_n dX6_take_24 rfl ?_
  refine og_ineg dX6_take_25 ?_
  refine og_callVn dX6_take_26 kvX6_72 (cm_moveD (f := at9 + nn) (d9 := nn) ha m8 (by omega) (by omega) (by omega)) rfl h1 rfl rfl ⟨by decide, by decide⟩ (by decide) (by decide) (Nat.le_of_ble_eq_true rfl) rfl (fun E w' h9 => by obtain ⟨_, h9, _⟩ := h9; cases h9) (fun v w' h9 => ?_)
  obtain ⟨B1, hv9, rfl, p1, p2, p3⟩ := h9
  cases hv9
  have n7 : ob_set V m 8 (.int (nI ((sp_fl E).length - nn))) m 7 = .int (nI E.length) := by rw [ob_set_k _ _ _ _ _ (by decide)]; exact m7
  refine og_aload_n dX6_take_29 rfl rfl ?_
  refine og_dup dX6_take_30 rfl ?_
  refine og_getf dX6_take_31 kfX6_52 (by assumption) (by assumption) ?_
  refine og_iconst (v := 1) dX6_take_34 (by decide) ?_
  refine og_isub dX6_take_35 ?_
  refine og_st [.int (nI (E.length - 1)), .ref m] (by rw [show (1 : Int32) = nI 1 from rfl, nI_sub (by omega)] <;> rfl) ?_
  refine og_put dX6_take_36 kfX6_52 (by assumption) rfl rfl ?_
  refine og_iload_n dX6_take_39 rfl ?_
  refine og_istore dX6_take_40 (by decide) ?_
  generalize hV1 : ob_set (ob_set V m 8 (.int (nI ((sp_fl E).length - nn)))) m 7 (.int (nI (E.length - 1))) = V1
  have v7 : V1 m 7 = .int (nI (E.length - 1)) := by rw [← hV1]; simp [ob_set]
  have v8 : V1 m 8 = .int (nI ((sp_fl E).length - nn)) := by rw [← hV1]; simp [ob_set]
  have vf : ∀ y j, ¬ (y = m ∧ (j = 7 ∨ j = 8)) → V1 y j = V y j := fun y j hj => by
    rw [← hV1]
    by_cases hy : y = m
    · have : j ≠ 7 ∧ j ≠ 8 := ⟨fun e => hj ⟨hy, Or.inl e⟩, fun e => hj ⟨hy, Or.inr e⟩⟩
      simp [ob_set, this.1, this.2]
    · simp [ob_set, hy]
  have ha1 : ob_Ma T V1 m mt mr mb mk mv me mu := ha.keep (fun j hj => vf m j (by omega))
  refine og_w (T, V1, B1, J) (by rw [← hV1]) ?_
  refine og_lv [(0, .ref m), (1, .int (nI e)), (4, .int (nI e))] rfl ?_
  refine tk_loop (e := e) (cnt := E.length - 1) (B0 := B1) ha1 v7 (by omega) [] (E.length - 1 - e) e B1 (by omega) (Nat.le_refl _) (fun _ _ _ => rfl) (fun j h1 h2 => by omega) (fun _ _ => ⟨rfl, rfl⟩) (fun _ _ => ⟨rfl, rfl⟩) ?_
  intro B2 q1 q2 q3
  have mbk : mb ≠ mk := ne.2.2.2.2.2.2.2.1
  have mbv : mb ≠ mv := ne.2.2.2.2.2.2.2.2.1
  have hMe : ∀ V' : ob_V, V' m 7 = V1 m 7 → V' m 8 = V1 m 8 → ob_Me V' B2 m mb mk mv (E.eraseIdx e) := by
    intro V' w7 w8
    have hmb : B2 mb = B1 mb := q1 mb mbk mbv
    have hlen : (E.eraseIdx e).length = E.length - 1 := by rw [List.length_eraseIdx_of_lt he]
    have hfl2 : (sp_fl (E.eraseIdx e)).length = (sp_fl E).length - nn := by
      rw [eE2, sp_fl_app, List.length_append, hat]
      omega
    refine ⟨by rw [w7, v7, hlen], by rw [w8, v8, hfl2], ?_, ?_, ?_⟩
    · rw [eE2, sp_fl_app]
      rw [eF] at b1
      obtain ⟨c1, c2⟩ := ob_is_app.mp b1
      obtain ⟨c3, c4⟩ := ob_is_app.mp c2
      refine ob_is_app.mpr ⟨c1.same (fun j hj => ?_), c4.same (fun j hj => ?_)⟩
      · rw [hmb, p3 (0 + j) (by omega)]
      · rw [hmb, ← p2 (0 + (sp_fl (E.take e)).length + (E[e].1 ++ E[e].2).length + j) (by rw [hat, List.length_append]; omega) (by rw [hat, List.length_append]; omega)]
        congr 1
        rw [List.length_append]
        omega
    · intro j hj
      rw [List.length_map, hlen] at hj
      have hj2 : j < (E.eraseIdx e).length := by omega
      rw [Nat.zero_add, List.getElem_map]
      by_cases hje : j < e
      · rw [(q3 j hje).1, show B1 mk = B mk from p1 mk mbk.symm, h.ks (by omega), List.getElem_eraseIdx_of_lt _ hje]
      · rw [(q2 j (by omega) hj).1, show B1 mk = B mk from p1 mk mbk.symm, h.ks (by omega), List.getElem_eraseIdx_of_ge _ (by omega)]
    · intro j hj
      rw [List.length_map, hlen] at hj
      have hj2 : j < (E.eraseIdx e).length := by omega
      rw [Nat.zero_add, List.getElem_map]
      by_cases hje : j < e
      · rw [(q3 j hje).2, show B1 mv = B mv from p1 mv mbv.symm, h.vs (by omega), List.getElem_eraseIdx_of_lt _ hje]
      · rw [(q2 j (by omega) hj).2, show B1 mv = B mv from p1 mv mbv.symm, h.vs (by omega), List.getElem_eraseIdx_of_ge _ (by omega)]
  have hBf : ∀ y, y ≠ mb → y ≠ mk → y ≠ mv → B2 y = B y := fun y y1 y2 y3 => (q1 y y2 y3).trans (p1 y y1)
  have vc : V1 m 12 = .int (sp_cI cur) := by rw [vf m 12 (by omega)]; exact hc
  have fin : ∀ v : Value, v = .int (sp_cI (sp_cd cur e)) → (fun r w' => ∃ V' B', r = .inl none ∧ w' = (T, V', B', J) ∧ ob_Me V' B' m mb mk mv (E.eraseIdx e) ∧ V' m 12 = .int (sp_cI (sp_cd cur e)) ∧ (∀ y j, ¬ (y = m ∧ (j = 7 ∨ j = 8 ∨ j = 12)) → V' y j = V y j) ∧ (∀ y, y ≠ mb → y ≠ mk → y ≠ mv → B' y = B y) : ob_r → ob_w → Prop) (.inl none) (T, ob_set V1 m 12 v, B2, J) := by
    intro v hv
    refine ⟨_, B2, rfl, rfl, hMe _ (ob_set_k _ _ _ _ _ (by decide)) (ob_set_k _ _ _ _ _ (by decide)), by rw [ob_set_s]; exact hv, fun y j hj => ?_, hBf⟩
    have : ¬ (y = m ∧ j = 12) := fun h9 => hj ⟨h9.1, Or.inr (Or.inr h9.2)⟩
    rw [show ob_set V1 m 12 v y j = V1 y j from if_neg this]
    exact vf y j (fun h9 => hj ⟨h9.1, h9.2.elim Or.inl (fun z => Or.inr (Or.inl z))⟩)
  have fin0 : sp_cd cur e = cur → (fun r w' => ∃ V' B', r = .inl none ∧ w' = (T, V', B', J) ∧ ob_Me V' B' m mb mk mv (E.eraseIdx e) ∧ V' m 12 = .int (sp_cI (sp_cd cur e)) ∧ (∀ y j, ¬ (y = m ∧ (j = 7 ∨ j = 8 ∨ j = 12)) → V' y j = V y j) ∧ (∀ y, y ≠ mb → y ≠ mk → y ≠ mv → B' y = B y) : ob_r → ob_w → Prop) (.inl none) (T, V1, B2, J) := by
    intro e9
    have := fin (.int (sp_cI cur)) (by rw [e9])
    rw [ob_set_id vc] at this
    exact this
  cases cur with
  | none =>
    have vc : V1 m 12 = .int (-1) := vc
    have n1 : ¬ (-1 : Int32) = nI e := fun h9 => absurd (nI_pos' (n := e) (by omega)) (by rw [← h9]; decide)
    have n2 : (-1 : Int32) ≤ nI e := Int32.le_trans (b := 0) (by decide) (nI_pos' (by omega))
    refine og_aload_n dX6_take_89 rfl rfl ?_
    refine og_getf dX6_take_90 kfX6_26 (by assumption) (by assumption) ?_
    refine og_iload_n dX6_take_93 rfl ?_
    refine og_icmp_ne (tgt := 105) dX6_take_94 (by decide) (fun _ => ?_) (fun z9 => absurd z9 (n1))
    refine og_aload_n dX6_take_105 rfl rfl ?_
    refine og_getf dX6_take_106 kfX6_26 (by assumption) (by assumption) ?_
    refine og_iload_n dX6_take_109 rfl ?_
    refine og_icmp_le (tgt := 123) dX6_take_110 (by decide) (fun _ => ?_) (fun z9 => absurd (n2) z9)
    exact og_return rfl dX6_take_123 (by decide) (by decide) (fin0 rfl)
  | some c =>
    have vc : V1 m 12 = .int (nI c) := vc
    have hcl9 := hcl c rfl
    refine og_aload_n dX6_take_89 rfl rfl ?_
    refine og_getf dX6_take_90 kfX6_26 (by assumption) (by assumption) ?_
    refine og_iload_n dX6_take_93 rfl ?_
    refine og_icmp_ne (tgt := 105) dX6_take_94 (by decide) (fun c1 => ?_) (fun c1 => ?_)
    · have c1 : c ≠ e := fun h9 => c1 (by rw [h9])
      refine og_aload_n dX6_take_105 rfl rfl ?_
      refine og_getf dX6_take_106 kfX6_26 (by assumption) (by assumption) ?_
      refine og_iload_n dX6_take_109 rfl ?_
      refine og_icmp_le (tgt := 123) dX6_take_110 (by decide) (fun c2 => ?_) (fun c2 => ?_)
      · have c2 := (nI_leI (by omega) (by omega)).mp c2
        exact og_return rfl dX6_take_123 (by decide) (by decide) (fin0 (by simp only [sp_cd, if_neg c1]; rw [if_neg (by omega)]))
      · have c2 : e < c := by
          rcases Nat.lt_or_ge e c with h9 | h9
          · exact h9
          · exact absurd (nI_le h9 (by omega)) c2
        refine og_aload_n dX6_take_113 rfl rfl ?_
        refine og_dup dX6_take_114 rfl ?_
        refine og_getf dX6_take_115 kfX6_26 (by assumption) (by assumption) ?_
        refine og_iconst (v := 1) dX6_take_118 (by decide) ?_
        refine og_isub dX6_take_119 ?_
        refine og_put dX6_take_120 kfX6_26 (by assumption) rfl rfl ?_
        refine og_return rfl dX6_take_123 (by decide) (by decide) (fin _ ?_)
        rw [show (1 : Int32) = nI 1 from rfl, nI_sub (by omega)]
        simp only [sp_cd, if_neg c1, if_pos c2, sp_cI]
    · have c1 := (nI_eq (by omega) (by omega)).mp c1
      refine og_aload_n dX6_take_97 rfl rfl ?_
      refine og_iconst (v := (-1)) dX6_take_98 (by decide) ?_
      refine og_put dX6_take_99 kfX6_26 (by assumption) rfl rfl ?_
      refine og_goto (tgt := 123) dX6_take_102 (by decide) ?_
      refine og_return rfl dX6_take_123 (by decide) (by decide) (fin _ ?_)
      simp only [sp_cd, if_pos c1, sp_cI]
end OMD
