/-! THE TREE, READ: pick, placeOf, least -/
/-- the node that stands where there is none -/
def ob_nil (T : ob_T) (V : ob_V) (nl : Nat) : Prop := T nl = some (2, 0) ∧ V nl 3 = .ref nl ∧ V nl 4 = .ref nl ∧ V nl 6 = .int 0 ∧ V nl 7 = .int 0
/-- a tree whose root's parent is p -/
def ob_sub (T : ob_T) (V : ob_V) (nl : Nat) (t : ob_t) (p : Nat) : Prop := ob_tm V nl t p ∧ ∀ a ∈ ob_ads t, T a = some (2, 0) ∧ a ≠ nl
theorem ob_sub.l {T : ob_T} {V : ob_V} {nl q a p : Nat} {c : Bool} {l r : ob_t} (h : ob_sub T V nl (.inner q a c l r) p) : ob_sub T V nl l a := ⟨h.1.2.2.2.2.2.1, fun x hx => h.2 x (by simp [ob_ads, hx])⟩
theorem ob_sub.r {T : ob_T} {V : ob_V} {nl q a p : Nat} {c : Bool} {l r : ob_t} (h : ob_sub T V nl (.inner q a c l r) p) : ob_sub T V nl r a := ⟨h.1.2.2.2.2.2.2, fun x hx => h.2 x (by simp [ob_ads, hx])⟩
theorem ob_sub.a {T : ob_T} {V : ob_V} {nl q a p : Nat} {c : Bool} {l r : ob_t} (h : ob_sub T V nl (.inner q a c l r) p) : T a = some (2, 0) ∧ a ≠ nl := h.2 a (by simp [ob_ads])
theorem ob_sub.top {T : ob_T} {V : ob_V} {nl p : Nat} {t : ob_t} (hn : ob_nil T V nl) (h : ob_sub T V nl t p) : T (ob_top nl t) = some (2, 0) ∧ V (ob_top nl t) 7 = .int (nI (ob_siz t)) ∧ V (ob_top nl t) 6 = ob_cv (ob_red t) := by
  cases t with
  | leaf => exact ⟨hn.1, hn.2.2.2.2, hn.2.2.2.1⟩
  | inner q a c l r => exact ⟨h.a.1, h.1.2.2.2.2.1, h.1.2.2.2.1⟩
theorem ob_top_eq {T : ob_T} {V : ob_V} {nl p : Nat} {t : ob_t} (h : ob_sub T V nl t p) : ob_top nl t = nl ↔ t = .leaf := by
  cases t with
  | leaf => simp [ob_top]
  | inner q a c l r => exact ⟨fun e => absurd e h.a.2, fun e => by cases e⟩
/-- the tree object at t: its nil, its tree -/
def ob_tr (T : ob_T) (V : ob_V) (t nl : Nat) (tt : ob_t) : Prop := T t = some (4, 0) ∧ V t 1 = .ref nl ∧ V t 2 = .ref (ob_top nl tt) ∧ ob_nil T V nl ∧ V nl 5 = .ref nl ∧ ob_sub T V nl tt nl ∧ (ob_ads tt).Nodup
section OBR
variable {X : ob_X} {T : ob_T} {V : ob_V} {B : ob_B} {J : ob_J} {R : Room} {Q : ob_r → ob_w → Prop} {k n : Nat}
theorem pick_loop {t nl : Nat} (ht : T t = some (4, 0)) (hnl : V t 1 = .ref nl) (hn : ob_nil T V nl) (hk : k ≤ R.cells) (hs : n ≤ R.slots) : ∀ (tt : ob_t) (p r : Nat), ob_sub T V nl tt p → r < 2 ^ 31 → ob_siz tt < 2 ^ 30 → Q (.inl (some (va_rf (ob_ads tt)[r]?))) (T, V, B, J) → ob_G X mX4_pick R Q 18 [(0, .ref t), (2, .int (nI r)), (3, .ref (ob_top nl tt))] [] (T, V, B, J) k n := by
  intro tt
  induction tt with
  | leaf =>
    intro p r h hr hz hq
    refine og_aload_n dX4_pick_18 rfl rfl ?_
    refine og_aload_n dX4_pick_19 rfl rfl ?_
    refine og_getf dX4_pick_20 kfX4_20 (by assumption) (by assumption) ?_
    refine og_acmp_eq (tgt := 76) dX4_pick_23 (by decide) (fun _ => ?_) (fun z9 => absurd (rfl) z9)
    refine og_aload_n dX4_pick_76 rfl rfl ?_
    refine og_aload_n dX4_pick_77 rfl rfl ?_
    refine og_getf dX4_pick_78 kfX4_20 (by assumption) (by assumption) ?_
    refine og_acmp_ne (tgt := 88) dX4_pick_81 (by decide) (fun z9 => absurd (rfl) z9) (fun _ => ?_)
    refine og_null dX4_pick_84 ?_
    refine og_goto (tgt := 89) dX4_pick_85 (by decide) ?_
    exact og_areturn rfl (Or.inl ⟨_, rfl⟩) (Or.inl rfl) dX4_pick_89 hk hs hq
  | inner q a c l r ihl ihr =>
    intro p i h hi hz hq
    obtain ⟨ha, hane⟩ := h.a
    have h3 := h.1.1
    have h4 := h.1.2.1
    obtain ⟨hl1, hl2, -⟩ := h.l.top hn
    simp only [ob_siz] at hz
    have elen : (ob_ads l).length = ob_siz l := (ob_siz_len l).symm
    refine og_aload_n dX4_pick_18 rfl rfl ?_
    refine og_aload_n dX4_pick_19 rfl rfl ?_
    refine og_getf dX4_pick_20 kfX4_20 (by assumption) (by assumption) ?_
    refine og_acmp_eq (tgt := 76) dX4_pick_23 (by decide) (fun z9 => absurd z9 (hane)) (fun _ => ?_)
    refine og_iload_n dX4_pick_26 rfl ?_
    refine og_aload_n dX4_pick_27 rfl rfl ?_
    refine og_getf dX4_pick_28 kfX4_24 (by assumption) (by assumption) ?_
    refine og_getf dX4_pick_31 kfX4_36 (by assumption) (by assumption) ?_
    refine og_icmp_eq (tgt := 76) dX4_pick_34 (by decide) (fun hc => ?_) (fun hc => ?_)
    · have e1 : i = ob_siz l := (nI_eq (by omega) (by omega)).mp hc
      refine og_aload_n dX4_pick_76 rfl rfl ?_
      refine og_aload_n dX4_pick_77 rfl rfl ?_
      refine og_getf dX4_pick_78 kfX4_20 (by assumption) (by assumption) ?_
      refine og_acmp_ne (tgt := 88) dX4_pick_81 (by decide) (fun _ => ?_) (fun z9 => absurd z9 (hane))
      refine og_aload_n dX4_pick_88 rfl rfl ?_
      refine og_areturn rfl (Or.inl ⟨_, rfl⟩) (Or.inr ⟨_, rfl⟩) dX4_pick_89 hk hs ?_
      have e2 : (ob_ads (.inner q a c l r))[i]? = some a := by simp [ob_ads, e1, ← elen]
      rw [e2] at hq
      exact hq
    · have e1 : i ≠ ob_siz l := fun e => hc (by rw [e])
      refine og_iload_n dX4_pick_37 rfl ?_
      refine og_aload_n dX4_pick_38 rfl rfl ?_
      refine og_getf dX4_pick_39 kfX4_24 (by assumption) (by assumption) ?_
      refine og_getf dX4_pick_42 kfX4_36 (by assumption) (by assumption) ?_
      refine og_icmp_ge (tgt := 56) dX4_pick_45 (by decide) (fun hd => ?_) (fun hd => ?_)
      · have e2 : ob_siz l ≤ i := (nI_leI (by omega) (by omega)).mp hd
        refine og_iload_n dX4_pick_56 rfl ?_
        refine og_aload_n dX4_pick_57 rfl rfl ?_
        refine og_getf dX4_pick_58 kfX4_24 (by assumption) (by assumption) ?_
        refine og_getf dX4_pick_61 kfX4_36 (by assumption) (by assumption) ?_
        refine og_iconst (v := 1) dX4_pick_64 (by decide) ?_
        refine og_iadd dX4_pick_65 ?_
        refine og_isub dX4_pick_66 ?_
        refine og_istore_n dX4_pick_67 (by decide) ?_
        refine og_aload_n dX4_pick_68 rfl rfl ?_
        refine og_getf dX4_pick_69 kfX4_27 (by assumption) (by assumption) ?_
        refine og_astore_n dX4_pick_72 (by decide) rfl ?_
        refine og_goto (tgt := 18) dX4_pick_73 (by decide) ?_
        refine og_lv [(0, .ref t), (2, .int (nI (i - (ob_siz l + 1)))), (3, .ref (ob_top nl r))] (by rw [nI_1, ← pk_sub (by omega)]; rfl) ?_
        refine ihr a _ h.r (by omega) (by omega) ?_
        have e3 : (ob_ads (.inner q a c l r))[i]? = (ob_ads r)[i - (ob_siz l + 1)]? := by
          rw [ob_ads, List.getElem?_append_right (by omega), elen, show i - ob_siz l = (i - (ob_siz l + 1)) + 1 by omega, List.getElem?_cons_succ]
        rw [← e3]
        exact hq
      · have e2 : i < ob_siz l := by
          rcases Nat.lt_or_ge i (ob_siz l) with h9 | h9
          · exact h9
          · exact absurd (nI_le h9 (by omega)) hd
        refine og_aload_n dX4_pick_48 rfl rfl ?_
        refine og_getf dX4_pick_49 kfX4_24 (by assumption) (by assumption) ?_
        refine og_astore_n dX4_pick_52 (by decide) rfl ?_
        refine og_goto (tgt := 18) dX4_pick_53 (by decide) ?_
        refine og_lv [(0, .ref t), (2, .int (nI i)), (3, .ref (ob_top nl l))] rfl ?_
        refine ihl a _ h.l (by omega) (by omega) ?_
        have e3 : (ob_ads (.inner q a c l r))[i]? = (ob_ads l)[i]? := by rw [ob_ads, List.getElem?_append_left (by omega)]
        rw [← e3]
        exact hq
theorem ct_pick {t nl i : Nat} {tt : ob_t} (h : ob_tr T V t nl tt) (hz : ob_siz tt < 2 ^ 30) (hi : i < 2 ^ 31) : ob_C X mX4_pick 0 0 0 [.ref t, .int (nI i)] (T, V, B, J) (ob_e (some (va_rf (ob_ads tt)[i]?)) (T, V, B, J)) := by
  refine ob_C_of (by decide) rfl (Nat.le_of_ble_eq_true rfl) ?_
  obtain ⟨ht, hnl, hroot, hn, -, hsub, -⟩ := h
  refine og_iload_n dX4_pick_0 rfl ?_
  refine og_istore_n dX4_pick_1 (by decide) ?_
  refine og_iload_n dX4_pick_2 rfl ?_
  refine og_if_ge (tgt := 13) dX4_pick_3 (by decide) (fun _ => ?_) (fun z9 => absurd (nI_pos' (by omega)) z9)
  refine og_aload_n dX4_pick_13 rfl rfl ?_
  refine og_getf dX4_pick_14 kfX4_33 (by assumption) (by assumption) ?_
  refine og_astore_n dX4_pick_17 (by decide) rfl ?_
  refine og_lv [(0, .ref t), (2, .int (nI i)), (3, .ref (ob_top nl tt))] rfl ?_
  exact pick_loop ht hnl hn (Nat.le_refl _) (Nat.le_refl _) tt nl i hsub hi hz ⟨rfl, rfl⟩
theorem ct_pickN {t nl : Nat} {x : Int32} {tt : ob_t} (h : ob_tr T V t nl tt) (hx : x < 0) : ob_C X mX4_pick 0 0 0 [.ref t, .int x] (T, V, B, J) (ob_e (some .null) (T, V, B, J)) := by
  refine ob_C_of (by decide) rfl (Nat.le_of_ble_eq_true rfl) ?_
  obtain ⟨ht, hnl, hroot, hn, -, hsub, -⟩ := h
  have hx' : ¬ (0 : Int32) ≤ x := Int32.not_le.mpr hx
  refine og_iload_n dX4_pick_0 rfl ?_
  refine og_istore_n dX4_pick_1 (by decide) ?_
  refine og_iload_n dX4_pick_2 rfl ?_
  refine og_if_ge (tgt := 13) dX4_pick_3 (by decide) (fun z9 => absurd z9 (hx')) (fun _ => ?_)
  refine og_aload_n dX4_pick_6 rfl rfl ?_
  refine og_getf dX4_pick_7 kfX4_20 (by assumption) (by assumption) ?_
  refine og_goto (tgt := 17) dX4_pick_10 (by decide) ?_
  refine og_astore_n dX4_pick_17 (by decide) rfl ?_
  refine og_aload_n dX4_pick_18 rfl rfl ?_
  refine og_aload_n dX4_pick_19 rfl rfl ?_
  refine og_getf dX4_pick_20 kfX4_20 (by assumption) (by assumption) ?_
  refine og_acmp_eq (tgt := 76) dX4_pick_23 (by decide) (fun _ => ?_) (fun z9 => absurd (rfl) z9)
  refine og_aload_n dX4_pick_76 rfl rfl ?_
  refine og_aload_n dX4_pick_77 rfl rfl ?_
  refine og_getf dX4_pick_78 kfX4_20 (by assumption) (by assumption) ?_
  refine og_acmp_ne (tgt := 88) dX4_pick_81 (by decide) (fun z9 => absurd (rfl) z9) (fun _ => ?_)
  refine og_null dX4_pick_84 ?_
  refine og_goto (tgt := 89) dX4_pick_85 (by decide) ?_
  exact og_areturn rfl (Or.inl ⟨_, rfl⟩) (Or.inl rfl) dX4_pick_89 (Nat.le_refl _) (Nat.le_refl _) ⟨rfl, rfl⟩
end OBR
