/-! LEAVES: Node, Block, Row, Tree.size, Tree.empty -/
/-- a side: true left (0), false right (1) -/
def ob_sd (d : Bool) : Int32 := if d then 0 else 1
def ob_sl (d : Bool) : Nat := if d then 3 else 4
theorem ob_sd_not (d : Bool) : (1 : Int32) - ob_sd d = ob_sd (!d) := by cases d <;> rfl
section OBL
variable {X : ob_X} {T : ob_T} {V : ob_V} {B : ob_B} {J : ob_J}
theorem ct_child {a b : Nat} {d : Bool} (ha : T a = some (2, 0)) (hv : V a (ob_sl d) = .ref b) : ob_C X mX2_child 0 0 0 [.ref a, .int (ob_sd d)] (T, V, B, J) (ob_e (some (.ref b)) (T, V, B, J)) := by
  refine ob_C_of (by decide) rfl (Nat.le_of_ble_eq_true rfl) ?_
  cases d
  · have hv : V a 4 = .ref b := hv
    refine og_iload_n dX2_child_0 rfl ?_
    refine og_if_ne (tgt := 11) dX2_child_1 (by decide) (fun _ => ?_) (fun z9 => absurd z9 (by decide))
    refine og_aload_n dX2_child_11 rfl rfl ?_
    refine og_getf dX2_child_12 kfX2_19 (by assumption) (by assumption) ?_
    exact og_areturn rfl (Or.inl ⟨_, rfl⟩) (Or.inr ⟨_, rfl⟩) dX2_child_15 (by decide) (by decide) ⟨rfl, rfl⟩
  · have hv : V a 3 = .ref b := hv
    refine og_iload_n dX2_child_0 rfl ?_
    refine og_if_ne (tgt := 11) dX2_child_1 (by decide) (fun z9 => absurd (by decide) z9) (fun _ => ?_)
    refine og_aload_n dX2_child_4 rfl rfl ?_
    refine og_getf dX2_child_5 kfX2_15 (by assumption) (by assumption) ?_
    refine og_goto (tgt := 15) dX2_child_8 (by decide) ?_
    exact og_areturn rfl (Or.inl ⟨_, rfl⟩) (Or.inr ⟨_, rfl⟩) dX2_child_15 (by decide) (by decide) ⟨rfl, rfl⟩
theorem ct_setChild {a b : Nat} {d : Bool} (ha : T a = some (2, 0)) : ob_C X mX2_setChild 0 0 0 [.ref a, .int (ob_sd d), .ref b] (T, V, B, J) (ob_e none (T, ob_set V a (ob_sl d) (.ref b), B, J)) := by
  refine ob_C_of (by decide) rfl (Nat.le_of_ble_eq_true rfl) ?_
  cases d
  · refine og_iload_n dX2_setChild_0 rfl ?_
    refine og_if_ne (tgt := 12) dX2_setChild_1 (by decide) (fun _ => ?_) (fun z9 => absurd z9 (by decide))
    refine og_aload_n dX2_setChild_12 rfl rfl ?_
    refine og_aload_n dX2_setChild_13 rfl rfl ?_
    refine og_put dX2_setChild_14 kfX2_19 (by assumption) rfl rfl ?_
    exact og_return rfl dX2_setChild_17 (by decide) (by decide) ⟨rfl, rfl⟩
  · refine og_iload_n dX2_setChild_0 rfl ?_
    refine og_if_ne (tgt := 12) dX2_setChild_1 (by decide) (fun z9 => absurd (by decide) z9) (fun _ => ?_)
    refine og_aload_n dX2_setChild_4 rfl rfl ?_
    refine og_aload_n dX2_setChild_5 rfl rfl ?_
    refine og_put dX2_setChild_6 kfX2_15 (by assumption) rfl rfl ?_
    refine og_goto (tgt := 17) dX2_setChild_9 (by decide) ?_
    exact og_return rfl dX2_setChild_17 (by decide) (by decide) ⟨rfl, rfl⟩
theorem ct_sideOf {a b l : Nat} (ha : T a = some (2, 0)) (hl : V a 3 = .ref l) : ob_C X mX2_sideOf 0 0 0 [.ref a, .ref b] (T, V, B, J) (ob_e (some (.int (if b = l then 0 else 1))) (T, V, B, J)) := by
  refine ob_C_of (by decide) rfl (Nat.le_of_ble_eq_true rfl) ?_
  by_cases h : b = l
  · rw [if_pos h]
    refine og_aload_n dX2_sideOf_0 rfl rfl ?_
    refine og_aload_n dX2_sideOf_1 rfl rfl ?_
    refine og_getf dX2_sideOf_2 kfX2_15 (by assumption) (by assumption) ?_
    refine og_acmp_ne (tgt := 12) dX2_sideOf_5 (by decide) (fun z9 => absurd (h) z9) (fun _ => ?_)
    refine og_iconst (v := 0) dX2_sideOf_8 (by decide) ?_
    refine og_goto (tgt := 13) dX2_sideOf_9 (by decide) ?_
    exact og_ireturn (ty := .int) rfl dX2_sideOf_13 rfl (by decide) (by decide) ⟨rfl, rfl⟩
  · rw [if_neg h]
    refine og_aload_n dX2_sideOf_0 rfl rfl ?_
    refine og_aload_n dX2_sideOf_1 rfl rfl ?_
    refine og_getf dX2_sideOf_2 kfX2_15 (by assumption) (by assumption) ?_
    refine og_acmp_ne (tgt := 12) dX2_sideOf_5 (by decide) (fun _ => ?_) (fun z9 => absurd z9 (h))
    refine og_iconst (v := 1) dX2_sideOf_12 (by decide) ?_
    exact og_ireturn (ty := .int) rfl dX2_sideOf_13 rfl (by decide) (by decide) ⟨rfl, rfl⟩
theorem ct_Node {a : Nat} {x : Int32} (ha : T a = some (2, 0)) : ob_C X mX2_init 1 0 0 [.ref a, .int x] (T, V, B, J) (ob_e none (T, ob_set V a 0 (.int x), B, J)) := by
  refine ob_C_of (by decide) rfl (Nat.le_of_ble_eq_true rfl) ?_
  refine og_aload_n dX2_init_0 rfl rfl ?_
  refine og_objInit dX2_init_1 kOX2_3 kOi kOc (by decide) (by decide) ?_
  refine og_aload_n dX2_init_4 rfl rfl ?_
  refine og_iload_n dX2_init_5 rfl ?_
  refine og_putF dX2_init_6 kfX2_9 rfl rfl (by assumption) rfl rfl ?_
  exact og_return rfl dX2_init_9 (by decide) (by decide) ⟨rfl, rfl⟩
theorem ct_Block {a : Nat} {x u : Int32} (ha : T a = some (0, 0)) : ob_C X mX0_init 1 0 0 [.ref a, .int x, .int u] (T, V, B, J) (ob_e none (T, ob_set (ob_set V a 0 (.int x)) a 1 (.int u), B, J)) := by
  refine ob_C_of (by decide) rfl (Nat.le_of_ble_eq_true rfl) ?_
  refine og_aload_n dX0_init_0 rfl rfl ?_
  refine og_objInit dX0_init_1 kOX0_1 kOi kOc (by decide) (by decide) ?_
  refine og_aload_n dX0_init_4 rfl rfl ?_
  refine og_iload_n dX0_init_5 rfl ?_
  refine og_put dX0_init_6 kfX0_7 (by assumption) rfl rfl ?_
  refine og_aload_n dX0_init_9 rfl rfl ?_
  refine og_iload_n dX0_init_10 rfl ?_
  refine og_put dX0_init_11 kfX0_13 (by assumption) rfl rfl ?_
  exact og_return rfl dX0_init_14 (by decide) (by decide) ⟨rfl, rfl⟩
theorem ct_size {t r : Nat} {x : Int32} (ht : T t = some (4, 0)) (hr : V t 2 = .ref r) (hrt : T r = some (2, 0)) (hx : V r 7 = .int x) : ob_C X mX4_size 0 0 0 [.ref t] (T, V, B, J) (ob_e (some (.int x)) (T, V, B, J)) := by
  refine ob_C_of (by decide) rfl (Nat.le_of_ble_eq_true rfl) ?_
  refine og_aload_n dX4_size_0 rfl rfl ?_
  refine og_getf dX4_size_1 kfX4_33 (by assumption) (by assumption) ?_
  refine og_getf dX4_size_4 kfX4_36 (by assumption) (by assumption) ?_
  exact og_ireturn (ty := .int) rfl dX4_size_7 rfl (by decide) (by decide) ⟨rfl, rfl⟩
theorem ct_Tempty {t nl : Nat} (ht : T t = some (4, 0)) (hn : V t 1 = .ref nl) : ob_C X mX4_empty 0 0 0 [.ref t] (T, V, B, J) (ob_e none (T, ob_set V t 2 (.ref nl), B, J)) := by
  refine ob_C_of (by decide) rfl (Nat.le_of_ble_eq_true rfl) ?_
  refine og_aload_n dX4_empty_0 rfl rfl ?_
  refine og_aload_n dX4_empty_1 rfl rfl ?_
  refine og_getf dX4_empty_2 kfX4_20 (by assumption) (by assumption) ?_
  refine og_put dX4_empty_5 kfX4_33 (by assumption) rfl rfl ?_
  exact og_return rfl dX4_empty_8 (by decide) (by decide) ⟨rfl, rfl⟩
theorem ct_append {a b len L : Nat} {x : Int32} (ha : T a = some (3, 0)) (hb : V a 0 = .ref b) (hbt : T b = some (7, L)) (hl : V a 1 = .int (nI len)) (hlen : len < L) (hL : L < 2 ^ 31) : ob_C X mX3_append 0 0 0 [.ref a, .int x] (T, V, B, J) (ob_e none (T, ob_set V a 1 (.int (nI (len + 1))), ob_set B b len x.toInt8.toInt32, J)) := by
  refine ob_C_of (by decide) rfl (Nat.le_of_ble_eq_true rfl) ?_
  refine og_aload_n dX3_append_0 rfl rfl ?_
  refine og_getf dX3_append_1 kfX3_13 (by assumption) (by assumption) ?_
  refine og_aload_n dX3_append_4 rfl rfl ?_
  refine og_getf dX3_append_5 kfX3_7 (by assumption) (by assumption) ?_
  refine og_alen dX3_append_8 (by assumption) (by decide) ?_
  refine og_icmp_ge (tgt := 32) dX3_append_9 (by decide) (fun z9 => absurd z9 (nI_ge hlen hL)) (fun _ => ?_)
  refine og_aload_n dX3_append_12 rfl rfl ?_
  refine og_getf dX3_append_13 kfX3_7 (by assumption) (by assumption) ?_
  refine og_aload_n dX3_append_16 rfl rfl ?_
  refine og_getf dX3_append_17 kfX3_13 (by assumption) (by assumption) ?_
  refine og_iload_n dX3_append_20 rfl ?_
  refine og_bast dX3_append_21 (by assumption) (vp_in_nI hlen hL) ?_
  refine og_aload_n dX3_append_22 rfl rfl ?_
  refine og_dup dX3_append_23 rfl ?_
  refine og_getf dX3_append_24 kfX3_13 (by assumption) (by assumption) ?_
  refine og_iconst (v := 1) dX3_append_27 (by decide) ?_
  refine og_iadd dX3_append_28 ?_
  refine og_put dX3_append_29 kfX3_13 (by assumption) rfl rfl ?_
  exact og_return rfl dX3_append_32 (by decide) (by decide) ⟨rfl, by rw [nI_clamp (by omega), nI_1]⟩
end OBL
