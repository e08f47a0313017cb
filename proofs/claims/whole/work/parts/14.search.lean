/-! THE TREE, SEARCHED: find, keysBelow, placeOf, holds -/
/-- keys and values by the nodes' addresses; L's keys rise -/
abbrev ob_k : Type := Nat → List Nat × List Nat
def ob_so (K : ob_k) (L : List Nat) : Prop := L.Pairwise (fun a b => ob_cmp (K a).1 (K b).1 < 0)
/-- the tree's nodes bear their keys and values, in the heap hp -/
def ob_ns (T : ob_T) (V : ob_V) (B : ob_B) (hb cap : Nat) (K : ob_k) (L : List Nat) : Prop := ∀ a ∈ L, ob_nd T V B hb cap a (K a).1 (K a).2 ∧ (K a).1.length ≤ 64
theorem ob_so.split {K : ob_k} {l r : List Nat} {a : Nat} (h : ob_so K (l ++ a :: r)) : ob_so K l ∧ ob_so K r ∧ (∀ x ∈ l, ob_cmp (K x).1 (K a).1 < 0) ∧ (∀ x ∈ r, ob_cmp (K a).1 (K x).1 < 0) := by
  obtain ⟨h1, h2, h3⟩ := List.pairwise_append.mp h
  obtain ⟨h4, h5⟩ := List.pairwise_cons.mp h2
  exact ⟨h1, h5, fun x hx => h3 x hx a List.mem_cons_self, h4⟩
theorem ob_find_l {K : ob_k} {l r : List Nat} {a : Nat} {key : List Nat} (h : ob_so K (l ++ a :: r)) (hc : ob_cmp key (K a).1 < 0) : (l ++ a :: r).find? (fun x => decide ((K x).1 = key)) = l.find? (fun x => decide ((K x).1 = key)) := by
  obtain ⟨-, -, -, h4⟩ := h.split
  have : (a :: r).find? (fun x => decide ((K x).1 = key)) = none := by
    rw [List.find?_eq_none]
    intro x hx
    simp only [decide_eq_true_eq]
    intro e
    rcases List.mem_cons.mp hx with rfl | hx
    · rw [e, ob_cmp_0.mpr rfl] at hc; omega
    · have h5 := ob_cmp_tr hc (h4 x hx)
      rw [e, ob_cmp_0.mpr rfl] at h5; omega
  rw [List.find?_append, this, Option.or_none]
theorem ob_find_r {K : ob_k} {l r : List Nat} {a : Nat} {key : List Nat} (h : ob_so K (l ++ a :: r)) (hc : 0 < ob_cmp key (K a).1) : (l ++ a :: r).find? (fun x => decide ((K x).1 = key)) = r.find? (fun x => decide ((K x).1 = key)) := by
  obtain ⟨-, -, h3, -⟩ := h.split
  have hc' : ob_cmp (K a).1 key < 0 := by rw [ob_cmp_neg]; omega
  have : l.find? (fun x => decide ((K x).1 = key)) = none := by
    rw [List.find?_eq_none]
    intro x hx
    simp only [decide_eq_true_eq]
    intro e
    have h5 := ob_cmp_tr (h3 x hx) hc'
    rw [e, ob_cmp_0.mpr rfl] at h5; omega
  rw [List.find?_append, this, Option.none_or, List.find?_cons_of_neg]
  simp only [decide_eq_true_eq]
  intro e
  rw [e, ob_cmp_0.mpr rfl] at hc; omega
theorem ob_find_a {K : ob_k} {l r : List Nat} {a : Nat} {key : List Nat} (h : ob_so K (l ++ a :: r)) (hc : ob_cmp key (K a).1 = 0) : (l ++ a :: r).find? (fun x => decide ((K x).1 = key)) = some a := by
  obtain ⟨-, -, h3, -⟩ := h.split
  have e := ob_cmp_0.mp hc
  have : l.find? (fun x => decide ((K x).1 = key)) = none := by
    rw [List.find?_eq_none]
    intro x hx
    simp only [decide_eq_true_eq]
    intro e2
    have h5 := h3 x hx
    rw [e2, ← e, ob_cmp_0.mpr rfl] at h5; omega
  rw [List.find?_append, this, Option.none_or, List.find?_cons_of_pos]
  simp [e]
/-- is it below (or, when s, the same)? -/
def ob_bl (K : ob_k) (key : List Nat) (s : Bool) (x : Nat) : Bool := decide (0 < ob_cmp key (K x).1) || (s && decide (ob_cmp key (K x).1 = 0))
theorem ob_bl_r {K : ob_k} {l r : List Nat} {a : Nat} {key : List Nat} {s : Bool} (h : ob_so K (l ++ a :: r)) (hc : ob_bl K key s a = true) : (l ++ a :: r).countP (ob_bl K key s) = l.length + 1 + r.countP (ob_bl K key s) := by
  obtain ⟨-, -, h3, -⟩ := h.split
  have hc2 : 0 ≤ ob_cmp key (K a).1 := by
    simp only [ob_bl, Bool.or_eq_true, decide_eq_true_eq, Bool.and_eq_true] at hc
    omega
  have hl : l.countP (ob_bl K key s) = l.length := by
    rw [List.countP_eq_length]
    intro x hx
    have h5 := h3 x hx
    have : 0 < ob_cmp key (K x).1 := by
      rcases Int.lt_or_eq_of_le hc2 with h6 | h6
      · have h7 : ob_cmp (K a).1 key < 0 := by rw [ob_cmp_neg]; omega
        have h8 := ob_cmp_tr h5 h7
        rw [ob_cmp_neg]; omega
      · have e := ob_cmp_0.mp h6.symm
        rw [e, ob_cmp_neg]; omega
    simp [ob_bl, this]
  rw [List.countP_append, List.countP_cons_of_pos hc, hl]; omega
theorem ob_bl_l {K : ob_k} {l r : List Nat} {a : Nat} {key : List Nat} {s : Bool} (h : ob_so K (l ++ a :: r)) (hc : ¬ ob_bl K key s a = true) : (l ++ a :: r).countP (ob_bl K key s) = l.countP (ob_bl K key s) := by
  obtain ⟨-, -, -, h4⟩ := h.split
  have hc2 : ob_cmp key (K a).1 ≤ 0 := by
    simp only [ob_bl, Bool.or_eq_true, decide_eq_true_eq, Bool.and_eq_true] at hc
    omega
  have hr : r.countP (ob_bl K key s) = 0 := by
    rw [List.countP_eq_zero]
    intro x hx
    have h5 := h4 x hx
    have : ob_cmp key (K x).1 < 0 := by
      rcases Int.lt_or_eq_of_le hc2 with h6 | h6
      · exact ob_cmp_tr h6 h5
      · rw [ob_cmp_0.mp h6]; exact h5
    simp only [ob_bl, Bool.or_eq_true, decide_eq_true_eq, Bool.and_eq_true]
    omega
  rw [List.countP_append, List.countP_cons_of_neg hc, hr]; omega
section OBS
variable {X : ob_X} {T : ob_T} {V : ob_V} {B : ob_B} {J : ob_J} {R : Room} {Q : ob_r → ob_w → Prop} {k n : Nat}
theorem find_loop {t nl hp hb cap rw9 ra nr : Nat} {K : ob_k} {key : List Nat} (ht : T t = some (4, 0)) (hnl : V t 1 = .ref nl) (hth : V t 0 = .ref hp) (hn : ob_nil T V nl) (h1 : ob_hb T V hp hb cap) (h0 : T rw9 = some (3, 0)) (h00 : V rw9 0 = .ref ra) (h2 : T ra = some (7, nr)) (h3 : key.length ≤ nr) (hnr : nr < 1000000) (h4 : ob_bs B ra 0 key) (hk : k ≤ R.cells) (hs : n ≤ R.slots) (hR : 3 ≤ R.frames ∧ 180 ≤ R.locals) :
    ∀ (tt : ob_t) (p : Nat), ob_sub T V nl tt p → ob_ns T V B hb cap K (ob_ads tt) → ob_so K (ob_ads tt) → Q (.inl (some (va_rf ((ob_ads tt).find? (fun x => decide ((K x).1 = key)))))) (T, V, B, J) → ob_G X mX4_find R Q 5 [(0, .ref t), (1, .ref rw9), (2, .int (nI key.length)), (3, .ref (ob_top nl tt))] [] (T, V, B, J) k n := by
  intro tt
  induction tt with
  | leaf =>
    intro p h _ _ hq
    refine og_aload_n dX4_find_5 rfl rfl ?_
    refine og_aload_n dX4_find_6 rfl rfl ?_
    refine og_getf dX4_find_7 kfX4_20 (by assumption) (by assumption) ?_
    refine og_acmp_eq (tgt := 52) dX4_find_10 (by decide) (fun _ => ?_) (fun z9 => absurd (rfl) z9)
    refine og_null dX4_find_52 ?_
    exact og_areturn rfl (Or.inl ⟨_, rfl⟩) (Or.inl rfl) dX4_find_53 hk hs hq
  | inner q a c l r ihl ihr =>
    intro p h hns hso hq
    obtain ⟨ha, hane⟩ := h.a
    have hv3 := h.1.1
    have hv4 := h.1.2.1
    have g1 := h1.1
    obtain ⟨hnd, hlen⟩ := hns a (by simp [ob_ads])
    have hbl := hnd.2.2.2
    have hsm : -1000000 ≤ ob_cmp key (K a).1 ∧ ob_cmp key (K a).1 ≤ 1000000 := ob_cmp_small h4.lt (by obtain ⟨b, s, -, -, -, hbs, -⟩ := hbl; exact hbs.app.1.lt) (by omega) (by omega)
    refine og_aload_n dX4_find_5 rfl rfl ?_
    refine og_aload_n dX4_find_6 rfl rfl ?_
    refine og_getf dX4_find_7 kfX4_20 (by assumption) (by assumption) ?_
    refine og_acmp_eq (tgt := 52) dX4_find_10 (by decide) (fun z9 => absurd z9 (hane)) (fun _ => ?_)
    refine og_aload_n dX4_find_13 rfl rfl ?_
    refine og_getf dX4_find_14 kfX4_9 (by assumption) (by assumption) ?_
    refine og_aload_n dX4_find_17 rfl rfl ?_
    refine og_iload_n dX4_find_18 rfl ?_
    refine og_aload_n dX4_find_19 rfl rfl ?_
    refine og_callVe dX4_find_20 kvX4_40 (ct_compareRow h1 h0 h00 h2 h3 hnr h4 hnd) rfl g1 rfl rfl ⟨hR.1, Nat.le_trans (by decide) hR.2⟩ hk hs (by decide) rfl ?_
    refine og_istore dX4_find_23 (by decide) ?_
    refine og_iload dX4_find_25 rfl ?_
    refine og_lv [(0, .ref t), (1, .ref rw9), (2, .int (nI key.length)), (3, .ref a), (4, .int (iI (ob_cmp key (K a).1)))] rfl ?_
    simp only [ob_ads] at hso hq
    refine og_if_ne (tgt := 32) dX4_find_27 (by decide) (fun hc => ?_) (fun hc => ?_)
    · have hc1 : ob_cmp key (K a).1 ≠ 0 := fun e => hc ((iI_0 hsm.1 hsm.2).mpr e)
      refine og_iload dX4_find_32 rfl ?_
      refine og_if_ge (tgt := 44) dX4_find_34 (by decide) (fun hd => ?_) (fun hd => ?_)
      · have hd1 : 0 ≤ ob_cmp key (K a).1 := (iI_le hsm.1 hsm.2).mp hd
        refine og_aload_n dX4_find_44 rfl rfl ?_
        refine og_getf dX4_find_45 kfX4_27 (by assumption) (by assumption) ?_
        refine og_astore_n dX4_find_48 (by decide) rfl ?_
        refine og_goto (tgt := 5) dX4_find_49 (by decide) ?_
        refine og_lv [(0, .ref t), (1, .ref rw9), (2, .int (nI key.length)), (3, .ref (ob_top nl r))] rfl ?_
        refine ihr a h.r (fun x hx => hns x (by simp [ob_ads, hx])) hso.split.2.1 ?_
        rw [← ob_find_r hso (by omega)]
        exact hq
      · have hd1 : ob_cmp key (K a).1 < 0 := by
          rcases Int.lt_or_le (ob_cmp key (K a).1) 0 with h9 | h9
          · exact h9
          · exact absurd ((iI_le hsm.1 hsm.2).mpr h9) hd
        refine og_aload_n dX4_find_37 rfl rfl ?_
        refine og_getf dX4_find_38 kfX4_24 (by assumption) (by assumption) ?_
        refine og_goto (tgt := 48) dX4_find_41 (by decide) ?_
        refine og_astore_n dX4_find_48 (by decide) rfl ?_
        refine og_goto (tgt := 5) dX4_find_49 (by decide) ?_
        refine og_lv [(0, .ref t), (1, .ref rw9), (2, .int (nI key.length)), (3, .ref (ob_top nl l))] rfl ?_
        refine ihl a h.l (fun x hx => hns x (by simp [ob_ads, hx])) hso.split.1 ?_
        rw [← ob_find_l hso hd1]
        exact hq
    · have hc1 : ob_cmp key (K a).1 = 0 := (iI_0 hsm.1 hsm.2).mp hc
      refine og_aload_n dX4_find_30 rfl rfl ?_
      refine og_areturn rfl (Or.inl ⟨_, rfl⟩) (Or.inr ⟨_, rfl⟩) dX4_find_31 hk hs ?_
      rw [ob_find_a hso hc1] at hq
      exact hq
theorem ct_find {t nl hp hb cap rw9 ra nr : Nat} {K : ob_k} {key : List Nat} {tt : ob_t} (h : ob_tr T V t nl tt) (hth : V t 0 = .ref hp) (h1 : ob_hb T V hp hb cap) (h0 : T rw9 = some (3, 0)) (h00 : V rw9 0 = .ref ra) (h2 : T ra = some (7, nr)) (h3 : key.length ≤ nr) (hnr : nr < 1000000) (h4 : ob_bs B ra 0 key) (hns : ob_ns T V B hb cap K (ob_ads tt)) (hso : ob_so K (ob_ads tt)) : ob_C X mX4_find 3 0 0 [.ref t, .ref rw9, .int (nI key.length)] (T, V, B, J) (ob_e (some (va_rf ((ob_ads tt).find? (fun x => decide ((K x).1 = key))))) (T, V, B, J)) := by
  refine ob_C_of (by decide) rfl (Nat.le_of_ble_eq_true rfl) ?_
  obtain ⟨ht, hnl, hroot, hn, -, hsub, -⟩ := h
  refine og_aload_n dX4_find_0 rfl rfl ?_
  refine og_getf dX4_find_1 kfX4_33 (by assumption) (by assumption) ?_
  refine og_astore_n dX4_find_4 (by decide) rfl ?_
  refine og_lv [(0, .ref t), (1, .ref rw9), (2, .int (nI key.length)), (3, .ref (ob_top nl tt))] rfl ?_
  exact find_loop ht hnl hth hn h1 h0 h00 h2 h3 hnr h4 (Nat.le_refl _) (Nat.le_refl _) ⟨by decide, by decide⟩ tt nl hsub hns hso ⟨rfl, rfl⟩
theorem below_loop {t nl hp hb cap rw9 ra nr : Nat} {K : ob_k} {key : List Nat} {s : Bool} (ht : T t = some (4, 0)) (hnl : V t 1 = .ref nl) (hth : V t 0 = .ref hp) (hn : ob_nil T V nl) (h1 : ob_hb T V hp hb cap) (h0 : T rw9 = some (3, 0)) (h00 : V rw9 0 = .ref ra) (h2 : T ra = some (7, nr)) (h3 : key.length ≤ nr) (hnr : nr < 1000000) (h4 : ob_bs B ra 0 key) (hk : k ≤ R.cells) (hs : n ≤ R.slots) (hR : 3 ≤ R.frames ∧ 180 ≤ R.locals) :
    ∀ (tt : ob_t) (p m : Nat), ob_sub T V nl tt p → ob_ns T V B hb cap K (ob_ads tt) → ob_so K (ob_ads tt) → Q (.inl (some (.int (nI (m + (ob_ads tt).countP (ob_bl K key s)))))) (T, V, B, J) → ob_G X mX4_keysBelow R Q 9 [(0, .ref t), (1, .ref rw9), (2, .int (nI key.length)), (3, ob_cv s), (4, .int (nI m)), (5, .ref (ob_top nl tt))] [] (T, V, B, J) k n := by
  intro tt
  induction tt with
  | leaf =>
    intro p m h _ _ hq
    refine og_aload dX4_keysBelow_9 rfl rfl ?_
    refine og_aload_n dX4_keysBelow_11 rfl rfl ?_
    refine og_getf dX4_keysBelow_12 kfX4_20 (by assumption) (by assumption) ?_
    refine og_acmp_eq (tgt := 80) dX4_keysBelow_15 (by decide) (fun _ => ?_) (fun z9 => absurd (rfl) z9)
    refine og_iload dX4_keysBelow_80 rfl ?_
    exact og_ireturn (ty := .int) rfl dX4_keysBelow_82 rfl hk hs hq
  | inner q a c l r ihl ihr =>
    intro p m h hns hso hq
    obtain ⟨ha, hane⟩ := h.a
    have hv3 := h.1.1
    have hv4 := h.1.2.1
    have g1 := h1.1
    obtain ⟨hl1, hl2, -⟩ := h.l.top hn
    obtain ⟨hnd, hlen⟩ := hns a (by simp [ob_ads])
    have hbl := hnd.2.2.2
    have hsm : -1000000 ≤ ob_cmp key (K a).1 ∧ ob_cmp key (K a).1 ≤ 1000000 := ob_cmp_small h4.lt (by obtain ⟨b, s, -, -, -, hbs, -⟩ := hbl; exact hbs.app.1.lt) (by omega) (by omega)
    simp only [ob_ads] at hso hq
    have right : ob_bl K key s a = true → ob_G X mX4_keysBelow R Q 45 [(0, .ref t), (1, .ref rw9), (2, .int (nI key.length)), (3, ob_cv s), (4, .int (nI m)), (5, .ref a)] [] (T, V, B, J) k n := by
      intro hb9
      refine og_iload dX4_keysBelow_45 rfl ?_
      refine og_aload dX4_keysBelow_47 rfl rfl ?_
      refine og_getf dX4_keysBelow_49 kfX4_24 (by assumption) (by assumption) ?_
      refine og_getf dX4_keysBelow_52 kfX4_36 (by assumption) (by assumption) ?_
      refine og_iconst (v := 1) dX4_keysBelow_55 (by decide) ?_
      refine og_iadd dX4_keysBelow_56 ?_
      refine og_iadd dX4_keysBelow_57 ?_
      refine og_istore dX4_keysBelow_58 (by decide) ?_
      refine og_aload dX4_keysBelow_60 rfl rfl ?_
      refine og_getf dX4_keysBelow_62 kfX4_27 (by assumption) (by assumption) ?_
      refine og_astore dX4_keysBelow_65 (by decide) rfl ?_
      refine og_goto (tgt := 77) dX4_keysBelow_67 (by decide) ?_
      refine og_goto (tgt := 9) dX4_keysBelow_77 (by decide) ?_
      refine og_lv [(0, .ref t), (1, .ref rw9), (2, .int (nI key.length)), (3, ob_cv s), (4, .int (nI (m + (ob_siz l + 1)))), (5, .ref (ob_top nl r))] (by rw [← nI_add, ← nI_1]; cases s <;> rfl) ?_
      refine ihr a _ h.r (fun x hx => hns x (by simp [ob_ads, hx])) hso.split.2.1 ?_
      rw [ob_bl_r hso hb9, ← ob_siz_len] at hq
      rw [Nat.add_assoc]
      exact hq
    have left : ¬ ob_bl K key s a = true → ob_G X mX4_keysBelow R Q 70 [(0, .ref t), (1, .ref rw9), (2, .int (nI key.length)), (3, ob_cv s), (4, .int (nI m)), (5, .ref a)] [] (T, V, B, J) k n := by
      intro hb9
      refine og_aload dX4_keysBelow_70 rfl rfl ?_
      refine og_getf dX4_keysBelow_72 kfX4_24 (by assumption) (by assumption) ?_
      refine og_astore dX4_keysBelow_75 (by decide) rfl ?_
      refine og_goto (tgt := 9) dX4_keysBelow_77 (by decide) ?_
      refine og_lv [(0, .ref t), (1, .ref rw9), (2, .int (nI key.length)), (3, ob_cv s), (4, .int (nI m)), (5, .ref (ob_top nl l))] (by cases s <;> rfl) ?_
      refine ihl a _ h.l (fun x hx => hns x (by simp [ob_ads, hx])) hso.split.1 ?_
      rw [ob_bl_l hso hb9] at hq
      exact hq
    refine og_aload dX4_keysBelow_9 rfl rfl ?_
    refine og_aload_n dX4_keysBelow_11 rfl rfl ?_
    refine og_getf dX4_keysBelow_12 kfX4_20 (by assumption) (by assumption) ?_
    refine og_acmp_eq (tgt := 80) dX4_keysBelow_15 (by decide) (fun z9 => absurd z9 (hane)) (fun _ => ?_)
    refine og_aload_n dX4_keysBelow_18 rfl rfl ?_
    refine og_getf dX4_keysBelow_19 kfX4_9 (by assumption) (by assumption) ?_
    refine og_aload_n dX4_keysBelow_22 rfl rfl ?_
    refine og_iload_n dX4_keysBelow_23 rfl ?_
    refine og_aload dX4_keysBelow_24 rfl rfl ?_
    refine og_callVe dX4_keysBelow_26 kvX4_40 (ct_compareRow h1 h0 h00 h2 h3 hnr h4 hnd) rfl g1 rfl rfl ⟨hR.1, Nat.le_trans (by decide) hR.2⟩ hk hs (by decide) rfl ?_
    refine og_istore dX4_keysBelow_29 (by decide) ?_
    refine og_iload dX4_keysBelow_31 rfl ?_
    refine og_lv [(0, .ref t), (1, .ref rw9), (2, .int (nI key.length)), (3, ob_cv s), (4, .int (nI m)), (5, .ref a), (6, .int (iI (ob_cmp key (K a).1)))] (by cases s <;> rfl) ?_
    have back : ∀ {pc : Nat}, ob_G X mX4_keysBelow R Q pc [(0, .ref t), (1, .ref rw9), (2, .int (nI key.length)), (3, ob_cv s), (4, .int (nI m)), (5, .ref a)] [] (T, V, B, J) k n → ob_G X mX4_keysBelow R Q pc [(0, .ref t), (1, .ref rw9), (2, .int (nI key.length)), (3, ob_cv s), (4, .int (nI m)), (5, .ref a), (6, .int (iI (ob_cmp key (K a).1)))] [] (T, V, B, J) k n := fun hG => og_lv _ rfl hG
    refine og_if_gt (tgt := 45) dX4_keysBelow_33 (by decide) (fun hc => ?_) (fun hc => ?_)
    · have hc1 : 0 < ob_cmp key (K a).1 := (iI_gt hsm.1 hsm.2).mp hc
      exact back (right (by simp [ob_bl, hc1]))
    · have hc1 : ¬ 0 < ob_cmp key (K a).1 := fun e => hc ((iI_gt hsm.1 hsm.2).mpr e)
      cases s with
      | false =>
        refine og_iload_n (x := 0) dX4_keysBelow_36 rfl ?_
        refine og_if_eq (tgt := 70) dX4_keysBelow_37 (by decide) (fun _ => ?_) (fun z9 => absurd (rfl) z9)
        exact back (left (by simp [ob_bl, hc1]))
      | true =>
        refine og_iload_n (x := 1) dX4_keysBelow_36 rfl ?_
        refine og_if_eq (tgt := 70) dX4_keysBelow_37 (by decide) (fun z9 => absurd z9 (by decide)) (fun _ => ?_)
        refine og_iload dX4_keysBelow_40 rfl ?_
        refine og_if_ne (tgt := 70) dX4_keysBelow_42 (by decide) (fun hd => ?_) (fun hd => ?_)
        · have hd1 : ob_cmp key (K a).1 ≠ 0 := fun e => hd ((iI_0 hsm.1 hsm.2).mpr e)
          exact back (left (by simp [ob_bl, hc1, hd1]))
        · have hd1 : ob_cmp key (K a).1 = 0 := (iI_0 hsm.1 hsm.2).mp hd
          exact back (right (by simp [ob_bl, hd1]))
theorem ct_keysBelow {t nl hp hb cap rw9 ra nr : Nat} {K : ob_k} {key : List Nat} {s : Bool} {tt : ob_t} (h : ob_tr T V t nl tt) (hth : V t 0 = .ref hp) (h1 : ob_hb T V hp hb cap) (h0 : T rw9 = some (3, 0)) (h00 : V rw9 0 = .ref ra) (h2 : T ra = some (7, nr)) (h3 : key.length ≤ nr) (hnr : nr < 1000000) (h4 : ob_bs B ra 0 key) (hns : ob_ns T V B hb cap K (ob_ads tt)) (hso : ob_so K (ob_ads tt)) : ob_C X mX4_keysBelow 3 0 0 [.ref t, .ref rw9, .int (nI key.length), ob_cv s] (T, V, B, J) (ob_e (some (.int (nI ((ob_ads tt).countP (ob_bl K key s))))) (T, V, B, J)) := by
  refine ob_C_of (by decide) rfl (by cases s <;> exact Nat.le_of_ble_eq_true rfl) ?_
  obtain ⟨ht, hnl, hroot, hn, -, hsub, -⟩ := h
  refine og_lv [(0, .ref t), (1, .ref rw9), (2, .int (nI key.length)), (3, ob_cv s)] (by cases s <;> rfl) ?_
  refine og_iconst (v := 0) dX4_keysBelow_0 (by decide) ?_
  refine og_istore dX4_keysBelow_1 (by decide) ?_
  refine og_aload_n dX4_keysBelow_3 rfl rfl ?_
  refine og_getf dX4_keysBelow_4 kfX4_33 (by assumption) (by assumption) ?_
  refine og_astore dX4_keysBelow_7 (by decide) rfl ?_
  refine og_lv [(0, .ref t), (1, .ref rw9), (2, .int (nI key.length)), (3, ob_cv s), (4, .int (nI 0)), (5, .ref (ob_top nl tt))] (by cases s <;> rfl) ?_
  exact below_loop ht hnl hth hn h1 h0 h00 h2 h3 hnr h4 (Nat.le_refl _) (Nat.le_refl _) ⟨by decide, by decide⟩ tt nl 0 hsub hns hso ⟨by rw [Nat.zero_add], rfl⟩
theorem place_loop {t nl : Nat} (ht : T t = some (4, 0)) (hnl : V t 1 = .ref nl) (hn : ob_nil T V nl) (hk : k ≤ R.cells) (hs : n ≤ R.slots) : ∀ (z : List ob_f) (h n0 m : Nat), ob_zm V nl z h n0 → (∀ a ∈ ob_zads z, T a = some (2, 0) ∧ a ≠ nl) → (ob_zads z).Nodup → h ∉ ob_zads z → h ≠ nl → T h = some (2, 0) → V h 5 = .ref (ob_zp nl z) → Q (.inl (some (.int (nI (m + (ob_zl z).length))))) (T, V, B, J) → ob_G X mX4_placeOf R Q 10 [(0, .ref t), (2, .int (nI m)), (3, .ref h)] [] (T, V, B, J) k n := by
  intro z
  induction z with
  | nil =>
    intro h n0 m hz hT hd hh hne hth hp hq
    have hp : V h 5 = .ref nl := hp
    refine og_aload_n dX4_placeOf_10 rfl rfl ?_
    refine og_getf dX4_placeOf_11 kfX4_30 (by assumption) (by assumption) ?_
    refine og_aload_n dX4_placeOf_14 rfl rfl ?_
    refine og_getf dX4_placeOf_15 kfX4_20 (by assumption) (by assumption) ?_
    refine og_acmp_eq (tgt := 55) dX4_placeOf_18 (by decide) (fun _ => ?_) (fun z9 => absurd (rfl) z9)
    refine og_iload_n dX4_placeOf_55 rfl ?_
    exact og_ireturn (ty := .int) rfl dX4_placeOf_56 rfl hk hs hq
  | cons f z ih =>
    obtain ⟨d, a, c, b, q⟩ := f
    intro h n0 m hz hT hd hh hne hth hp hq
    have hp : V h 5 = .ref a := hp
    obtain ⟨z3, z4, z5, z6, z7, zb, zz⟩ := hz
    obtain ⟨ha, hane⟩ := hT a (by simp [ob_zads])
    have hsubb : ob_sub T V nl b a := ⟨zb, fun x hx => hT x (by simp [ob_zads, hx])⟩
    obtain ⟨hb1, hb2, -⟩ := hsubb.top hn
    simp only [ob_zads, List.nodup_cons, List.mem_append, not_or] at hd
    obtain ⟨⟨hd1, hd2⟩, hd3⟩ := hd
    have hdz : (ob_zads z).Nodup := (List.nodup_append.mp hd3).2.1
    have next : ∀ m', Q (.inl (some (.int (nI (m' + (ob_zl z).length))))) (T, V, B, J) → ob_G X mX4_placeOf R Q 47 [(0, .ref t), (2, .int (nI m')), (3, .ref h)] [] (T, V, B, J) k n := by
      intro m' hq'
      refine og_aload_n dX4_placeOf_47 rfl rfl ?_
      refine og_getf dX4_placeOf_48 kfX4_30 (by assumption) (by assumption) ?_
      refine og_astore_n dX4_placeOf_51 (by decide) rfl ?_
      refine og_goto (tgt := 10) dX4_placeOf_52 (by decide) ?_
      refine og_lv [(0, .ref t), (2, .int (nI m')), (3, .ref a)] rfl ?_
      exact ih a _ m' zz (fun x hx => hT x (by simp [ob_zads, hx])) hdz hd2 hane ha z5 hq'
    cases d with
    | true =>
      simp only [if_true] at z3 z4
      have hne2 : h ≠ ob_top nl b := by
        cases b with
        | leaf => exact hne
        | inner q2 a2 c2 l2 r2 => intro e; exact hh (by simp [ob_zads, ob_ads, e, ob_top])
      refine og_aload_n dX4_placeOf_10 rfl rfl ?_
      refine og_getf dX4_placeOf_11 kfX4_30 (by assumption) (by assumption) ?_
      refine og_aload_n dX4_placeOf_14 rfl rfl ?_
      refine og_getf dX4_placeOf_15 kfX4_20 (by assumption) (by assumption) ?_
      refine og_acmp_eq (tgt := 55) dX4_placeOf_18 (by decide) (fun z9 => absurd z9 (hane)) (fun _ => ?_)
      refine og_aload_n dX4_placeOf_21 rfl rfl ?_
      refine og_aload_n dX4_placeOf_22 rfl rfl ?_
      refine og_getf dX4_placeOf_23 kfX4_30 (by assumption) (by assumption) ?_
      refine og_getf dX4_placeOf_26 kfX4_27 (by assumption) (by assumption) ?_
      refine og_acmp_ne (tgt := 47) dX4_placeOf_29 (by decide) (fun _ => ?_) (fun z9 => absurd z9 (hne2))
      refine next m ?_
      simpa [ob_zl] using hq
    | false =>
      simp only [Bool.false_eq_true, if_false] at z3 z4
      refine og_aload_n dX4_placeOf_10 rfl rfl ?_
      refine og_getf dX4_placeOf_11 kfX4_30 (by assumption) (by assumption) ?_
      refine og_aload_n dX4_placeOf_14 rfl rfl ?_
      refine og_getf dX4_placeOf_15 kfX4_20 (by assumption) (by assumption) ?_
      refine og_acmp_eq (tgt := 55) dX4_placeOf_18 (by decide) (fun z9 => absurd z9 (hane)) (fun _ => ?_)
      refine og_aload_n dX4_placeOf_21 rfl rfl ?_
      refine og_aload_n dX4_placeOf_22 rfl rfl ?_
      refine og_getf dX4_placeOf_23 kfX4_30 (by assumption) (by assumption) ?_
      refine og_getf dX4_placeOf_26 kfX4_27 (by assumption) (by assumption) ?_
      refine og_acmp_ne (tgt := 47) dX4_placeOf_29 (by decide) (fun z9 => absurd (rfl) z9) (fun _ => ?_)
      refine og_iload_n dX4_placeOf_32 rfl ?_
      refine og_aload_n dX4_placeOf_33 rfl rfl ?_
      refine og_getf dX4_placeOf_34 kfX4_30 (by assumption) (by assumption) ?_
      refine og_getf dX4_placeOf_37 kfX4_24 (by assumption) (by assumption) ?_
      refine og_getf dX4_placeOf_40 kfX4_36 (by assumption) (by assumption) ?_
      refine og_iconst (v := 1) dX4_placeOf_43 (by decide) ?_
      refine og_iadd dX4_placeOf_44 ?_
      refine og_iadd dX4_placeOf_45 ?_
      refine og_istore_n dX4_placeOf_46 (by decide) ?_
      refine og_lv [(0, .ref t), (2, .int (nI (m + (ob_siz b + 1)))), (3, .ref h)] (by rw [← nI_add, ← nI_1]; rfl) ?_
      refine next _ ?_
      have e : m + (ob_siz b + 1) + (ob_zl z).length = m + (ob_zl ((false, a, c, b, q) :: z)).length := by
        simp [ob_zl, ob_siz_len]; omega
      rw [e]
      exact hq
theorem ct_placeOf {t nl a q : Nat} {c : Bool} {z : List ob_f} {l r : ob_t} (h : ob_tr T V t nl (ob_plug z (.inner q a c l r))) : ob_C X mX4_placeOf 0 0 0 [.ref t, .ref a] (T, V, B, J) (ob_e (some (.int (nI ((ob_zl z).length + ob_siz l)))) (T, V, B, J)) := by
  refine ob_C_of (by decide) rfl (Nat.le_of_ble_eq_true rfl) ?_
  obtain ⟨ht, hnl, hroot, hn, -, hsub, hnd⟩ := h
  obtain ⟨hz, htm⟩ := (ob_tm_plug V nl z _).mp hsub.1
  have hnd2 := ob_nd_plug.mp hnd
  have hT : ∀ x ∈ ob_zads z, T x = some (2, 0) ∧ x ≠ nl := fun x hx => hsub.2 x (ob_mem_plug.mpr (Or.inl hx))
  have hT2 : ∀ x ∈ ob_ads (.inner q a c l r), T x = some (2, 0) ∧ x ≠ nl := fun x hx => hsub.2 x (ob_mem_plug.mpr (Or.inr hx))
  have hs2 : ob_sub T V nl (.inner q a c l r) (ob_zp nl z) := ⟨htm, hT2⟩
  obtain ⟨ha, hane⟩ := hs2.a
  have h3 := htm.1
  have h5 := htm.2.2.1
  obtain ⟨hl1, hl2, -⟩ := hs2.l.top hn
  have hin : a ∈ ob_ads (.inner q a c l r) := by simp [ob_ads]
  have hnot : a ∉ ob_zads z := fun hx => (List.nodup_append.mp hnd2).2.2 a hx a hin rfl
  refine og_aload_n dX4_placeOf_0 rfl rfl ?_
  refine og_getf dX4_placeOf_1 kfX4_24 (by assumption) (by assumption) ?_
  refine og_getf dX4_placeOf_4 kfX4_36 (by assumption) (by assumption) ?_
  refine og_istore_n dX4_placeOf_7 (by decide) ?_
  refine og_aload_n dX4_placeOf_8 rfl rfl ?_
  refine og_astore_n dX4_placeOf_9 (by decide) rfl ?_
  refine og_lv [(0, .ref t), (2, .int (nI (ob_siz l))), (3, .ref a)] rfl ?_
  exact place_loop ht hnl hn (Nat.le_refl _) (Nat.le_refl _) z a _ _ hz hT (List.nodup_append.mp hnd2).1 hnot hane ha h5 ⟨by rw [Nat.add_comm], rfl⟩
end OBS
