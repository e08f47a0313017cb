/-! THE TREE'S OWN CHECK: holds, isLinkedWell, isBetween, blackOnes, numberOfLeadingZeros, isSound -/
def ob_ht : ob_t → Nat
  | .leaf => 0
  | .inner _ _ _ l r => max (ob_ht l) (ob_ht r) + 1
theorem ob_ht_rb : ∀ {t : ob_t} {m : Nat}, ob_rb t m → ob_ht t ≤ 2 * m + (if ob_red t then 1 else 0)
  | .leaf, m, h => by simp [ob_ht]
  | .inner q a c l r, m, h => by
    rcases h with ⟨rfl, h1, h2, h3, h4⟩ | ⟨rfl, j, rfl, h3, h4⟩
    · have e1 := ob_ht_rb h3
      have e2 := ob_ht_rb h4
      rw [h1] at e1
      rw [h2] at e2
      simp only [ob_ht, ob_red, if_true] at *
      simp at e1 e2
      omega
    · have e1 := ob_ht_rb h3
      have e2 := ob_ht_rb h4
      have e3 : ob_red (.inner q a false l r) = false := rfl
      rw [e3]
      simp only [ob_ht]
      have : (if ob_red l = true then 1 else 0) ≤ 1 := by split <;> omega
      have : (if ob_red r = true then 1 else 0) ≤ 1 := by split <;> omega
      simp
      omega
def ob_lz (x : Nat) : Nat :=
  let p1 := if x < 256 then (31, x) else (23, x / 256)
  let p2 := if p1.2 < 16 then p1 else (p1.1 - 4, p1.2 / 16)
  let p3 := if p2.2 < 4 then p2 else (p2.1 - 2, p2.2 / 4)
  p3.1 - p3.2 / 2
theorem ob_lz_ok : ∀ x, x < 1026 → x = 0 ∨ (ob_lz x ≤ 31 ∧ 21 ≤ ob_lz x ∧ x < 2 ^ (32 - ob_lz x)) := by decide +kernel
theorem ob_sh8 : ∀ x, x < 1026 → ((nI x).toUInt32 >>> ((8 : Int32).toUInt32 &&& Int32.toUInt32 31)).toInt32 = nI (x / 256) := by decide +kernel
theorem ob_sh4 : ∀ x, x < 1026 → ((nI x).toUInt32 >>> ((4 : Int32).toUInt32 &&& Int32.toUInt32 31)).toInt32 = nI (x / 16) := by decide +kernel
theorem ob_sh2 : ∀ x, x < 1026 → ((nI x).toUInt32 >>> ((2 : Int32).toUInt32 &&& Int32.toUInt32 31)).toInt32 = nI (x / 4) := by decide +kernel
theorem ob_sh1 : ∀ x, x < 1026 → ((nI x).toUInt32 >>> ((1 : Int32).toUInt32 &&& Int32.toUInt32 31)).toInt32 = nI (x / 2) := by decide +kernel
theorem nI_dec {p d : Nat} {z : Int} (h : z = -(d : Int)) (hd : d ≤ p) : nI p + Int32.ofInt z = nI (p - d) := by
  subst h
  rw [← nI_sub hd, Int32.ofInt_neg, Int32.sub_eq_add_neg]
  rfl
section OBY
variable {X : ob_X} {T : ob_T} {V : ob_V} {B : ob_B} {J : ob_J} {R : Room} {Q : ob_r → ob_w → Prop} {k n : Nat}
theorem nlz_end {p y : Nat} (hy : y < 1026) (hp : p ≤ 31) (hyp : y / 2 ≤ p) (hk : k ≤ R.cells) (hs : n ≤ R.slots) {w : ob_w} (hq : Q (.inl (some (.int (nI (p - y / 2))))) w) : ob_G X mJ6_numberOfLeadingZeros_0f7a4 R Q 73 [(0, .int (nI y)), (1, .int (nI p))] [] w k n := by
  refine og_iload_n dJ6_numberOfLeadingZeros_0f7a4_73 rfl ?_
  refine og_iload_n dJ6_numberOfLeadingZeros_0f7a4_74 rfl ?_
  refine og_iconst (v := 1) dJ6_numberOfLeadingZeros_0f7a4_75 (by decide) ?_
  refine og_iushr dJ6_numberOfLeadingZeros_0f7a4_76 (ob_sh1 y hy) ?_
  refine og_isub dJ6_numberOfLeadingZeros_0f7a4_77 ?_
  refine og_st [.int (nI (p - y / 2))] (by rw [nI_sub hyp]) ?_
  exact og_ireturn (ty := .int) rfl dJ6_numberOfLeadingZeros_0f7a4_78 rfl hk hs hq
theorem nlz_3 {p y : Nat} (hy : y < 16) (hp : p ≤ 31) (hp2 : 9 ≤ p) (hk : k ≤ R.cells) (hs : n ≤ R.slots) {w : ob_w} (hq : Q (.inl (some (.int (nI (if y < 4 then p - y / 2 else p - 2 - y / 4 / 2))))) w) : ob_G X mJ6_numberOfLeadingZeros_0f7a4 R Q 61 [(0, .int (nI y)), (1, .int (nI p))] [] w k n := by
  refine og_iload_n dJ6_numberOfLeadingZeros_0f7a4_61 rfl ?_
  refine og_iconst (v := 4) dJ6_numberOfLeadingZeros_0f7a4_62 (by decide) ?_
  refine og_icmp_lt (tgt := 73) dJ6_numberOfLeadingZeros_0f7a4_63 (by decide) (fun hc => ?_) (fun hc => ?_)
  · have h := (nI_ltI (b := 4) (by omega) (by omega)).mp hc
    rw [if_pos h] at hq
    exact nlz_end (by omega) hp (by omega) hk hs hq
  · have h : ¬ y < 4 := fun h => hc (nI_lt (b := 4) h (by omega))
    rw [if_neg h] at hq
    refine og_iinc dJ6_numberOfLeadingZeros_0f7a4_66 rfl (nI_dec (d := 2) (by decide) (by omega)) (by decide) ?_
    refine og_iload_n dJ6_numberOfLeadingZeros_0f7a4_69 rfl ?_
    refine og_iconst (v := 2) dJ6_numberOfLeadingZeros_0f7a4_70 (by decide) ?_
    refine og_iushr dJ6_numberOfLeadingZeros_0f7a4_71 (ob_sh2 y (by omega)) ?_
    refine og_istore_n dJ6_numberOfLeadingZeros_0f7a4_72 (by decide) ?_
    refine og_lv [(0, .int (nI (y / 4))), (1, .int (nI (p - 2)))] rfl ?_
    exact nlz_end (by omega) (by omega) (by omega) hk hs hq
theorem nlz_2 {p y : Nat} (hy : y < 256) (hp : p ≤ 31) (hp2 : 23 ≤ p) (hk : k ≤ R.cells) (hs : n ≤ R.slots) {w : ob_w} (hq : Q (.inl (some (.int (nI (if y < 16 then (if y < 4 then p - y / 2 else p - 2 - y / 4 / 2) else (if y / 16 < 4 then p - 4 - y / 16 / 2 else p - 4 - 2 - y / 16 / 4 / 2)))))) w) : ob_G X mJ6_numberOfLeadingZeros_0f7a4 R Q 48 [(0, .int (nI y)), (1, .int (nI p))] [] w k n := by
  refine og_iload_n dJ6_numberOfLeadingZeros_0f7a4_48 rfl ?_
  refine og_bipush (v := 16) dJ6_numberOfLeadingZeros_0f7a4_49 (by decide) ?_
  refine og_icmp_lt (tgt := 61) dJ6_numberOfLeadingZeros_0f7a4_51 (by decide) (fun hc => ?_) (fun hc => ?_)
  · have h := (nI_ltI (b := 16) (by omega) (by omega)).mp hc
    rw [if_pos h] at hq
    exact nlz_3 (by omega) hp (by omega) hk hs hq
  · have h : ¬ y < 16 := fun h => hc (nI_lt (b := 16) h (by omega))
    rw [if_neg h] at hq
    refine og_iinc dJ6_numberOfLeadingZeros_0f7a4_54 rfl (nI_dec (d := 4) (by decide) (by omega)) (by decide) ?_
    refine og_iload_n dJ6_numberOfLeadingZeros_0f7a4_57 rfl ?_
    refine og_iconst (v := 4) dJ6_numberOfLeadingZeros_0f7a4_58 (by decide) ?_
    refine og_iushr dJ6_numberOfLeadingZeros_0f7a4_59 (ob_sh4 y (by omega)) ?_
    refine og_istore_n dJ6_numberOfLeadingZeros_0f7a4_60 (by decide) ?_
    refine og_lv [(0, .int (nI (y / 16))), (1, .int (nI (p - 4)))] rfl ?_
    exact nlz_3 (by omega) (by omega) (by omega) hk hs hq
theorem ct_nlz {x : Nat} {w : ob_w} (h1 : 1 ≤ x) (h2 : x < 1026) : ob_C X mJ6_numberOfLeadingZeros_0f7a4 0 0 0 [.int (nI x)] w (ob_e (some (.int (nI (ob_lz x)))) w) := by
  refine ob_C_of (by decide) rfl (Nat.le_of_ble_eq_true rfl) ?_
  refine og_lv [(0, .int (nI x))] rfl ?_
  refine og_iload_n dJ6_numberOfLeadingZeros_0f7a4_0 rfl ?_
  refine og_if_gt (tgt := 15) dJ6_numberOfLeadingZeros_0f7a4_1 (by decide) (fun _ => ?_) (fun z9 => absurd (nI_lt (a := 0) h1 (by omega)) z9)
  refine og_bipush (v := 31) dJ6_numberOfLeadingZeros_0f7a4_15 (by decide) ?_
  refine og_istore_n dJ6_numberOfLeadingZeros_0f7a4_17 (by decide) ?_
  refine og_iload_n dJ6_numberOfLeadingZeros_0f7a4_18 rfl ?_
  refine og_ldcw (v := 65536) dJ6_numberOfLeadingZeros_0f7a4_19 (ob_in 272 (by decide +kernel) (by decide +kernel)) ?_
  refine og_icmp_lt (tgt := 33) dJ6_numberOfLeadingZeros_0f7a4_22 (by decide) (fun _ => ?_) (fun z9 => absurd (nI_lt (b := 65536) (by omega) (by decide)) z9)
  refine og_iload_n dJ6_numberOfLeadingZeros_0f7a4_33 rfl ?_
  refine og_sipush (v := 256) dJ6_numberOfLeadingZeros_0f7a4_34 (by decide) ?_
  refine og_icmp_lt (tgt := 48) dJ6_numberOfLeadingZeros_0f7a4_37 (by decide) (fun hc => ?_) (fun hc => ?_)
  · have h := (nI_ltI (b := 256) (by omega) (by omega)).mp hc
    refine og_lv [(0, .int (nI x)), (1, .int (nI 31))] rfl ?_
    refine nlz_2 (by omega) (by omega) (by omega) (by decide) (by decide) ⟨?_, rfl⟩
    simp only [ob_lz, if_pos h]
    congr 4
    split <;> split <;> rfl
  · have h : ¬ x < 256 := fun h => hc (nI_lt (b := 256) h (by omega))
    refine og_iinc dJ6_numberOfLeadingZeros_0f7a4_40 rfl (nI_dec (p := 31) (d := 8) (by decide) (by omega)) (by decide) ?_
    refine og_iload_n dJ6_numberOfLeadingZeros_0f7a4_43 rfl ?_
    refine og_bipush (v := 8) dJ6_numberOfLeadingZeros_0f7a4_44 (by decide) ?_
    refine og_iushr dJ6_numberOfLeadingZeros_0f7a4_46 (ob_sh8 x (by omega)) ?_
    refine og_istore_n dJ6_numberOfLeadingZeros_0f7a4_47 (by decide) ?_
    refine og_lv [(0, .int (nI (x / 256))), (1, .int (nI 23))] rfl ?_
    refine nlz_2 (by omega) (by omega) (by omega) (by decide) (by decide) ⟨?_, rfl⟩
    simp only [ob_lz, if_neg h]
    congr 4
    split <;> split <;> rfl
theorem ct_holds {t nl a q : Nat} {c : Bool} {z : List ob_f} {l r : ob_t} (h : ob_tr T V t nl (ob_plug z (.inner q a c l r))) (hz : ob_siz (ob_plug z (.inner q a c l r)) ≤ 1024) : ob_C X mX4_holds 1 0 0 [.ref t, .ref a] (T, V, B, J) (ob_e (some (.int 1)) (T, V, B, J)) := by
  refine ob_C_of (by decide) rfl (Nat.le_of_ble_eq_true rfl) ?_
  have ht := h.1
  have hl : (ob_zl z).length + ob_siz l < 1024 := by
    have e := ob_siz_len (ob_plug z (.inner q a c l r))
    rw [ob_ads_plug] at e
    simp only [List.length_append, ob_ads, List.length_cons] at e
    rw [ob_siz_len l]
    omega
  refine og_aload_n dX4_holds_0 rfl rfl ?_
  refine og_aload_n dX4_holds_1 rfl rfl ?_
  refine og_aload_n dX4_holds_2 rfl rfl ?_
  refine og_callVe dX4_holds_3 kvX4_46 (ct_placeOf h) rfl ht rfl rfl ⟨by decide, by decide⟩ (by decide) (by decide) (Nat.le_of_ble_eq_true rfl) rfl ?_
  refine og_callVe dX4_holds_6 kvX4_50 (ct_pick h (by omega) (by omega)) rfl ht rfl rfl ⟨by decide, by decide⟩ (by decide) (by decide) (Nat.le_of_ble_eq_true rfl) rfl ?_
  have hp : (ob_ads (ob_plug z (.inner q a c l r)))[(ob_zl z).length + ob_siz l]? = some a := by
    rw [ob_ads_plug, ob_siz_len l, ob_ads, List.append_assoc, List.getElem?_append_right (by omega)]
    simp
  refine og_st [.ref a] (by rw [hp]; rfl) ?_
  refine og_aload_n dX4_holds_9 rfl rfl ?_
  refine og_acmp_ne (tgt := 17) dX4_holds_10 (by decide) (fun z9 => absurd (rfl) z9) (fun _ => ?_)
  refine og_iconst (v := 1) dX4_holds_13 (by decide) ?_
  refine og_goto (tgt := 18) dX4_holds_14 (by decide) ?_
  exact og_ireturn (ty := .boolean) rfl dX4_holds_18 rfl (by decide) (by decide) ⟨rfl, rfl⟩
theorem ct_isLinkedWell {t nl p a q : Nat} {c : Bool} {l r : ob_t} (ht : T t = some (4, 0)) (hnl : V t 1 = .ref nl) (hn : ob_nil T V nl) (h : ob_sub T V nl (.inner q a c l r) p) (hc : c = true → ob_red l = false ∧ ob_red r = false) : ob_C X mX4_isLinkedWell 0 0 0 [.ref t, .ref a] (T, V, B, J) (ob_e (some (.int 1)) (T, V, B, J)) := by
  refine ob_C_of (by decide) rfl (Nat.le_of_ble_eq_true rfl) ?_
  obtain ⟨⟨e3, e4, e5, e6, e7, e8, e9⟩, -⟩ := id h
  obtain ⟨ha, -⟩ := h.a
  obtain ⟨l1, l2, l3⟩ := h.l.top hn
  obtain ⟨r1, r2, r3⟩ := h.r.top hn
  refine og_lv [(0, .ref t), (1, .ref a)] rfl ?_
  have kk2 : ob_G X mX4_isLinkedWell (ob_rm 0 0 0) (ob_e (some (.int 1)) (T, V, B, J)) 88 [(0, .ref t), (1, .ref a), (2, .int 1), (3, .int 1)] [.int 0] (T, V, B, J) 0 0 := by
    refine og_istore dX4_isLinkedWell_88 (by decide) ?_
    refine og_iload_n dX4_isLinkedWell_90 rfl ?_
    refine og_if_eq (tgt := 131) dX4_isLinkedWell_91 (by decide) (fun z9 => absurd z9 (by decide)) (fun _ => ?_)
    refine og_iload_n dX4_isLinkedWell_94 rfl ?_
    refine og_if_eq (tgt := 131) dX4_isLinkedWell_95 (by decide) (fun z9 => absurd z9 (by decide)) (fun _ => ?_)
    refine og_iload dX4_isLinkedWell_98 rfl ?_
    refine og_if_ne (tgt := 131) dX4_isLinkedWell_100 (by decide) (fun z9 => absurd (rfl) z9) (fun _ => ?_)
    refine og_aload_n dX4_isLinkedWell_103 rfl rfl ?_
    refine og_getf dX4_isLinkedWell_104 kfX4_36 (by assumption) (by assumption) ?_
    refine og_aload_n dX4_isLinkedWell_107 rfl rfl ?_
    refine og_getf dX4_isLinkedWell_108 kfX4_24 (by assumption) (by assumption) ?_
    refine og_getf dX4_isLinkedWell_111 kfX4_36 (by assumption) (by assumption) ?_
    refine og_aload_n dX4_isLinkedWell_114 rfl rfl ?_
    refine og_getf dX4_isLinkedWell_115 kfX4_27 (by assumption) (by assumption) ?_
    refine og_getf dX4_isLinkedWell_118 kfX4_36 (by assumption) (by assumption) ?_
    refine og_iadd dX4_isLinkedWell_121 ?_
    refine og_iconst (v := 1) dX4_isLinkedWell_122 (by decide) ?_
    refine og_iadd dX4_isLinkedWell_123 ?_
    refine og_icmp_ne (tgt := 131) dX4_isLinkedWell_124 (by decide) (fun z9 => absurd (by rw [nI_add, nI_1]) z9) (fun _ => ?_)
    refine og_iconst (v := 1) dX4_isLinkedWell_127 (by decide) ?_
    refine og_goto (tgt := 132) dX4_isLinkedWell_128 (by decide) ?_
    exact og_ireturn (ty := .boolean) rfl dX4_isLinkedWell_132 rfl (by decide) (by decide) ⟨rfl, rfl⟩
  have kk1 : ob_G X mX4_isLinkedWell (ob_rm 0 0 0) (ob_e (some (.int 1)) (T, V, B, J)) 55 [(0, .ref t), (1, .ref a), (2, .int 1)] [.int 1] (T, V, B, J) 0 0 := by
    cases c with
    | false =>
      have e6 : V a 6 = .int 0 := e6
      refine og_istore_n dX4_isLinkedWell_55 (by decide) ?_
      refine og_aload_n dX4_isLinkedWell_56 rfl rfl ?_
      refine og_getf dX4_isLinkedWell_57 kfX4_61 (by assumption) (by assumption) ?_
      refine og_if_eq (tgt := 87) dX4_isLinkedWell_60 (by decide) (fun _ => ?_) (fun z9 => absurd (rfl) z9)
      refine og_iconst (v := 0) dX4_isLinkedWell_87 (by decide) ?_
      exact og_lv [(0, .ref t), (1, .ref a), (2, .int 1), (3, .int 1)] rfl kk2
    | true =>
      have e6 : V a 6 = .int 1 := e6
      have l3 : V (ob_top nl l) 6 = .int 0 := by rw [l3, (hc rfl).1]; rfl
      have r3 : V (ob_top nl r) 6 = .int 0 := by rw [r3, (hc rfl).2]; rfl
      refine og_istore_n dX4_isLinkedWell_55 (by decide) ?_
      refine og_aload_n dX4_isLinkedWell_56 rfl rfl ?_
      refine og_getf dX4_isLinkedWell_57 kfX4_61 (by assumption) (by assumption) ?_
      refine og_if_eq (tgt := 87) dX4_isLinkedWell_60 (by decide) (fun z9 => absurd z9 (by decide)) (fun _ => ?_)
      refine og_aload_n dX4_isLinkedWell_63 rfl rfl ?_
      refine og_getf dX4_isLinkedWell_64 kfX4_24 (by assumption) (by assumption) ?_
      refine og_getf dX4_isLinkedWell_67 kfX4_61 (by assumption) (by assumption) ?_
      refine og_if_ne (tgt := 83) dX4_isLinkedWell_70 (by decide) (fun z9 => absurd (rfl) z9) (fun _ => ?_)
      refine og_aload_n dX4_isLinkedWell_73 rfl rfl ?_
      refine og_getf dX4_isLinkedWell_74 kfX4_27 (by assumption) (by assumption) ?_
      refine og_getf dX4_isLinkedWell_77 kfX4_61 (by assumption) (by assumption) ?_
      refine og_if_eq (tgt := 87) dX4_isLinkedWell_80 (by decide) (fun _ => ?_) (fun z9 => absurd (rfl) z9)
      refine og_iconst (v := 0) dX4_isLinkedWell_87 (by decide) ?_
      exact og_lv [(0, .ref t), (1, .ref a), (2, .int 1), (3, .int 1)] rfl kk2
  have kk0 : ob_G X mX4_isLinkedWell (ob_rm 0 0 0) (ob_e (some (.int 1)) (T, V, B, J)) 27 [(0, .ref t), (1, .ref a)] [.int 1] (T, V, B, J) 0 0 := by
    refine og_istore_n dX4_isLinkedWell_27 (by decide) ?_
    refine og_aload_n dX4_isLinkedWell_28 rfl rfl ?_
    refine og_getf dX4_isLinkedWell_29 kfX4_27 (by assumption) (by assumption) ?_
    refine og_aload_n dX4_isLinkedWell_32 rfl rfl ?_
    refine og_getf dX4_isLinkedWell_33 kfX4_20 (by assumption) (by assumption) ?_
    refine og_acmp_eq (tgt := 50) dX4_isLinkedWell_36 (by decide) (fun hz => ?_) (fun hz => ?_)
    · refine og_iconst (v := 1) dX4_isLinkedWell_50 (by decide) ?_
      refine og_goto (tgt := 55) dX4_isLinkedWell_51 (by decide) ?_
      exact og_lv [(0, .ref t), (1, .ref a), (2, .int 1)] rfl kk1
    · have e5r : V (ob_top nl r) 5 = .ref a := by
        cases r with
        | leaf => exact absurd rfl hz
        | inner q2 a2 c2 l2 r2 => exact e9.2.2.1
      refine og_aload_n dX4_isLinkedWell_39 rfl rfl ?_
      refine og_getf dX4_isLinkedWell_40 kfX4_27 (by assumption) (by assumption) ?_
      refine og_getf dX4_isLinkedWell_43 kfX4_30 (by assumption) (by assumption) ?_
      refine og_aload_n dX4_isLinkedWell_46 rfl rfl ?_
      refine og_acmp_ne (tgt := 54) dX4_isLinkedWell_47 (by decide) (fun z9 => absurd (rfl) z9) (fun _ => ?_)
      refine og_iconst (v := 1) dX4_isLinkedWell_50 (by decide) ?_
      refine og_goto (tgt := 55) dX4_isLinkedWell_51 (by decide) ?_
      exact og_lv [(0, .ref t), (1, .ref a), (2, .int 1)] rfl kk1
  refine og_aload_n dX4_isLinkedWell_0 rfl rfl ?_
  refine og_getf dX4_isLinkedWell_1 kfX4_24 (by assumption) (by assumption) ?_
  refine og_aload_n dX4_isLinkedWell_4 rfl rfl ?_
  refine og_getf dX4_isLinkedWell_5 kfX4_20 (by assumption) (by assumption) ?_
  refine og_acmp_eq (tgt := 22) dX4_isLinkedWell_8 (by decide) (fun hz => ?_) (fun hz => ?_)
  · refine og_iconst (v := 1) dX4_isLinkedWell_22 (by decide) ?_
    refine og_goto (tgt := 27) dX4_isLinkedWell_23 (by decide) ?_
    exact kk0
  · have e5l : V (ob_top nl l) 5 = .ref a := by
      cases l with
      | leaf => exact absurd rfl hz
      | inner q2 a2 c2 l2 r2 => exact e8.2.2.1
    refine og_aload_n dX4_isLinkedWell_11 rfl rfl ?_
    refine og_getf dX4_isLinkedWell_12 kfX4_24 (by assumption) (by assumption) ?_
    refine og_getf dX4_isLinkedWell_15 kfX4_30 (by assumption) (by assumption) ?_
    refine og_aload_n dX4_isLinkedWell_18 rfl rfl ?_
    refine og_acmp_ne (tgt := 26) dX4_isLinkedWell_19 (by decide) (fun z9 => absurd (rfl) z9) (fun _ => ?_)
    refine og_iconst (v := 1) dX4_isLinkedWell_22 (by decide) ?_
    refine og_goto (tgt := 27) dX4_isLinkedWell_23 (by decide) ?_
    exact kk0
/-- a bound for keys: none, or a node's key below (above) -/
def ob_lw (nl : Nat) (K : ob_k) (L : List Nat) (low a : Nat) : Prop := low = nl ∨ (low ≠ nl ∧ low ∈ L ∧ ob_cmp (K low).1 (K a).1 < 0)
def ob_hw (nl : Nat) (K : ob_k) (L : List Nat) (high a : Nat) : Prop := high = nl ∨ (high ≠ nl ∧ high ∈ L ∧ ob_cmp (K a).1 (K high).1 < 0)
theorem ob_ns_small {hb cap a b : Nat} {K : ob_k} {L : List Nat} (h : ob_ns T V B hb cap K L) (ha : a ∈ L) (hb : b ∈ L) : -1000000 ≤ ob_cmp (K a).1 (K b).1 ∧ ob_cmp (K a).1 (K b).1 ≤ 1000000 := by
  obtain ⟨⟨-, -, -, _, _, -, -, -, h1, -⟩, h2⟩ := h a ha
  obtain ⟨⟨-, -, -, _, _, -, -, -, h3, -⟩, h4⟩ := h b hb
  exact ob_cmp_small h1.app.1.lt h3.app.1.lt (by omega) (by omega)
theorem ct_isBetween {t nl hp hb cap a low high : Nat} {K : ob_k} {L : List Nat} (ht : T t = some (4, 0)) (hth : V t 0 = .ref hp) (hnl : V t 1 = .ref nl) (h1 : ob_hb T V hp hb cap) (hns : ob_ns T V B hb cap K L) (ha : a ∈ L) (hl : ob_lw nl K L low a) (hh : ob_hw nl K L high a) : ob_C X mX4_isBetween 3 0 0 [.ref t, .ref a, .ref low, .ref high] (T, V, B, J) (ob_e (some (.int 1)) (T, V, B, J)) := by
  refine ob_C_of (by decide) rfl (Nat.le_of_ble_eq_true rfl) ?_
  have hhp := h1.1
  refine og_lv [(0, .ref t), (1, .ref a), (2, .ref low), (3, .ref high)] rfl ?_
  have kk : ob_G X mX4_isBetween (ob_rm 3 0 0) (ob_e (some (.int 1)) (T, V, B, J)) 20 [(0, .ref t), (1, .ref a), (2, .ref low), (3, .ref high)] [] (T, V, B, J) 0 0 := by
    rcases hh with rfl | ⟨n1, n2, n3⟩
    · refine og_aload_n dX4_isBetween_20 rfl rfl ?_
      refine og_aload_n dX4_isBetween_21 rfl rfl ?_
      refine og_getf dX4_isBetween_22 kfX4_20 (by assumption) (by assumption) ?_
      refine og_acmp_eq (tgt := 40) dX4_isBetween_25 (by decide) (fun _ => ?_) (fun z9 => absurd (rfl) z9)
      refine og_iconst (v := 1) dX4_isBetween_40 (by decide) ?_
      refine og_goto (tgt := 45) dX4_isBetween_41 (by decide) ?_
      exact og_ireturn (ty := .boolean) rfl dX4_isBetween_45 rfl (by decide) (by decide) ⟨rfl, rfl⟩
    · refine og_aload_n dX4_isBetween_20 rfl rfl ?_
      refine og_aload_n dX4_isBetween_21 rfl rfl ?_
      refine og_getf dX4_isBetween_22 kfX4_20 (by assumption) (by assumption) ?_
      refine og_acmp_eq (tgt := 40) dX4_isBetween_25 (by decide) (fun z9 => absurd z9 (n1)) (fun _ => ?_)
      refine og_aload_n dX4_isBetween_28 rfl rfl ?_
      refine og_getf dX4_isBetween_29 kfX4_9 (by assumption) (by assumption) ?_
      refine og_aload_n dX4_isBetween_32 rfl rfl ?_
      refine og_aload_n dX4_isBetween_33 rfl rfl ?_
      refine og_callVe dX4_isBetween_34 kvX4_54 (ct_compareNodes h1 (hns a ha).1 (hns high n2).1) rfl hhp rfl rfl ⟨by decide, by decide⟩ (by decide) (by decide) (Nat.le_of_ble_eq_true rfl) rfl ?_
      have hs := ob_ns_small hns ha n2
      refine og_if_ge (tgt := 44) dX4_isBetween_37 (by decide) (fun z9 => absurd z9 (Int32.not_le.mpr ((iI_lt hs.1 hs.2).mpr n3))) (fun _ => ?_)
      refine og_iconst (v := 1) dX4_isBetween_40 (by decide) ?_
      refine og_goto (tgt := 45) dX4_isBetween_41 (by decide) ?_
      exact og_ireturn (ty := .boolean) rfl dX4_isBetween_45 rfl (by decide) (by decide) ⟨rfl, rfl⟩
  rcases hl with rfl | ⟨n1, n2, n3⟩
  · refine og_aload_n dX4_isBetween_0 rfl rfl ?_
    refine og_aload_n dX4_isBetween_1 rfl rfl ?_
    refine og_getf dX4_isBetween_2 kfX4_20 (by assumption) (by assumption) ?_
    refine og_acmp_eq (tgt := 20) dX4_isBetween_5 (by decide) (fun _ => ?_) (fun z9 => absurd (rfl) z9)
    exact kk
  · refine og_aload_n dX4_isBetween_0 rfl rfl ?_
    refine og_aload_n dX4_isBetween_1 rfl rfl ?_
    refine og_getf dX4_isBetween_2 kfX4_20 (by assumption) (by assumption) ?_
    refine og_acmp_eq (tgt := 20) dX4_isBetween_5 (by decide) (fun z9 => absurd z9 (n1)) (fun _ => ?_)
    refine og_aload_n dX4_isBetween_8 rfl rfl ?_
    refine og_getf dX4_isBetween_9 kfX4_9 (by assumption) (by assumption) ?_
    refine og_aload_n dX4_isBetween_12 rfl rfl ?_
    refine og_aload_n dX4_isBetween_13 rfl rfl ?_
    refine og_callVe dX4_isBetween_14 kvX4_54 (ct_compareNodes h1 (hns low n2).1 (hns a ha).1) rfl hhp rfl rfl ⟨by decide, by decide⟩ (by decide) (by decide) (Nat.le_of_ble_eq_true rfl) rfl ?_
    have hs := ob_ns_small hns n2 ha
    refine og_if_ge (tgt := 44) dX4_isBetween_17 (by decide) (fun z9 => absurd z9 (Int32.not_le.mpr ((iI_lt hs.1 hs.2).mpr n3))) (fun _ => ?_)
    exact kk
theorem ct_blackOnes {t nl hp hb cap : Nat} {K : ob_k} {L : List Nat} (ht : T t = some (4, 0)) (hth : V t 0 = .ref hp) (hnl : V t 1 = .ref nl) (hn : ob_nil T V nl) (h1 : ob_hb T V hp hb cap) (hns : ob_ns T V B hb cap K L) : ∀ (tt : ob_t) (p low high lv m : Nat), ob_sub T V nl tt p → ob_rb tt m → ob_ht tt ≤ lv → lv ≤ 64 → (∀ a ∈ ob_ads tt, a ∈ L ∧ ob_lw nl K L low a ∧ ob_hw nl K L high a) → ob_so K (ob_ads tt) → m ≤ 1000 → ob_C X mX4_blackOnes (ob_ht tt + 4) 0 0 [.ref t, .ref (ob_top nl tt), .ref low, .ref high, .int (nI lv)] (T, V, B, J) (ob_e (some (.int (nI m))) (T, V, B, J))
  | .leaf, p, low, high, lv, m, hs, hr, hh, hl, ha, hso, hm => by
    refine ob_C_of (by decide) rfl (Nat.le_of_ble_eq_true rfl) ?_
    have hm0 : m = 0 := hr
    subst hm0
    refine og_lv [(0, .ref t), (1, .ref nl)] rfl ?_
    refine og_aload_n dX4_blackOnes_0 rfl rfl ?_
    refine og_aload_n dX4_blackOnes_1 rfl rfl ?_
    refine og_getf dX4_blackOnes_2 kfX4_20 (by assumption) (by assumption) ?_
    refine og_acmp_ne (tgt := 10) dX4_blackOnes_5 (by decide) (fun z9 => absurd (rfl) z9) (fun _ => ?_)
    refine og_iconst (v := 0) dX4_blackOnes_8 (by decide) ?_
    exact og_ireturn (ty := .int) rfl dX4_blackOnes_9 rfl (Nat.zero_le _) (Nat.zero_le _) ⟨rfl, rfl⟩
  | .inner q a c l r, p, low, high, lv, m, hs, hr, hh, hl, ha, hso, hm => by
    refine ob_C_of (by decide) rfl (Nat.le_of_ble_eq_true rfl) ?_
    obtain ⟨aT, an⟩ := hs.a
    obtain ⟨e3, e4, e5, e6, e7, e8, e9⟩ := id hs.1
    obtain ⟨aL, aw, ah⟩ := ha a (by simp [ob_ads])
    obtain ⟨s1, s2, s3, s4⟩ := hso.split
    have hhl : ob_ht l + 1 ≤ ob_ht (.inner q a c l r) ∧ ob_ht r + 1 ≤ ob_ht (.inner q a c l r) := by simp only [ob_ht]; omega
    generalize hH : ob_ht (.inner q a c l r) = H at *
    show ob_G X mX4_blackOnes (ob_rm (H + 4) 0 0) _ 0 [(0, .ref t), (1, .ref a), (2, .ref low), (3, .ref high), (4, .int (nI lv))] _ _ _ _
    obtain ⟨m', hml, hmr, hmm, hcc⟩ : ∃ m', ob_rb l m' ∧ ob_rb r m' ∧ m = (if c then m' else m' + 1) ∧ (c = true → ob_red l = false ∧ ob_red r = false) := by
      rcases hr with ⟨rfl, h1, h2, h3, h4⟩ | ⟨rfl, j, rfl, h3, h4⟩
      · exact ⟨m, h3, h4, rfl, fun _ => ⟨h1, h2⟩⟩
      · exact ⟨j, h3, h4, rfl, fun h => by cases h⟩
    have hm' : m' ≤ 1000 := by split at hmm <;> omega
    refine og_aload_n dX4_blackOnes_0 rfl rfl ?_
    refine og_aload_n dX4_blackOnes_1 rfl rfl ?_
    refine og_getf dX4_blackOnes_2 kfX4_20 (by assumption) (by assumption) ?_
    refine og_acmp_ne (tgt := 10) dX4_blackOnes_5 (by decide) (fun _ => ?_) (fun z9 => absurd z9 (an))
    refine og_iload dX4_blackOnes_10 rfl ?_
    refine og_if_eq (tgt := 33) dX4_blackOnes_12 (by decide) (fun z9 => absurd z9 (nI_ne0 (by omega) (by omega))) (fun _ => ?_)
    refine og_aload_n dX4_blackOnes_15 rfl rfl ?_
    refine og_aload_n dX4_blackOnes_16 rfl rfl ?_
    refine og_callVe dX4_blackOnes_17 kvX4_114 (ct_isLinkedWell ht hnl hn hs hcc) rfl ht rfl rfl ⟨by show 0 + 1 ≤ H + 4; omega, by show 8 + (5 + 11) + 60 * 0 ≤ 60 * (H + 4); omega⟩ (Nat.zero_le _) (Nat.zero_le _) (Nat.le_of_ble_eq_true rfl) rfl ?_
    refine og_if_eq (tgt := 33) dX4_blackOnes_20 (by decide) (fun z9 => absurd z9 (by decide)) (fun _ => ?_)
    refine og_aload_n dX4_blackOnes_23 rfl rfl ?_
    refine og_aload_n dX4_blackOnes_24 rfl rfl ?_
    refine og_aload_n dX4_blackOnes_25 rfl rfl ?_
    refine og_aload_n dX4_blackOnes_26 rfl rfl ?_
    refine og_callVe dX4_blackOnes_27 kvX4_118 (ct_isBetween ht hth hnl h1 hns aL aw ah) rfl ht rfl rfl ⟨by show 3 + 1 ≤ H + 4; omega, by show 8 + (4 + 11) + 60 * 3 ≤ 60 * (H + 4); omega⟩ (Nat.zero_le _) (Nat.zero_le _) (Nat.le_of_ble_eq_true rfl) rfl ?_
    refine og_if_ne (tgt := 35) dX4_blackOnes_30 (by decide) (fun _ => ?_) (fun z9 => absurd z9 (by decide))
    refine og_aload_n dX4_blackOnes_35 rfl rfl ?_
    refine og_aload_n dX4_blackOnes_36 rfl rfl ?_
    refine og_getf dX4_blackOnes_37 kfX4_24 (by assumption) (by assumption) ?_
    refine og_aload_n dX4_blackOnes_40 rfl rfl ?_
    refine og_aload_n dX4_blackOnes_41 rfl rfl ?_
    refine og_iload dX4_blackOnes_42 rfl ?_
    refine og_iconst (v := 1) dX4_blackOnes_44 (by decide) ?_
    refine og_isub dX4_blackOnes_45 ?_
    refine og_st [.int (nI (lv - 1)), .ref a, .ref low, .ref (ob_top nl l), .ref t] (by rw [show (1 : Int32) = nI 1 from rfl, nI_sub (by omega)]; rfl) ?_
    refine og_callSe dX4_blackOnes_46 ksX4_110 (ct_blackOnes ht hth hnl hn h1 hns l a low a (lv - 1) m' hs.l hml (by omega) (by omega) (fun x hx => ⟨(ha x (by simp [ob_ads, hx])).1, (ha x (by simp [ob_ads, hx])).2.1, Or.inr ⟨an, aL, s3 x hx⟩⟩) s1 hm') rfl rfl ⟨by show ob_ht l + 4 + 1 ≤ H + 4; omega, by show 8 + (7 + 11) + 60 * (ob_ht l + 4) ≤ 60 * (H + 4); omega⟩ (Nat.zero_le _) (Nat.zero_le _) (Nat.le_of_ble_eq_true rfl) rfl ?_
    refine og_istore dX4_blackOnes_49 (by decide) ?_
    refine og_aload_n dX4_blackOnes_51 rfl rfl ?_
    refine og_aload_n dX4_blackOnes_52 rfl rfl ?_
    refine og_getf dX4_blackOnes_53 kfX4_27 (by assumption) (by assumption) ?_
    refine og_aload_n dX4_blackOnes_56 rfl rfl ?_
    refine og_aload_n dX4_blackOnes_57 rfl rfl ?_
    refine og_iload dX4_blackOnes_58 rfl ?_
    refine og_iconst (v := 1) dX4_blackOnes_60 (by decide) ?_
    refine og_isub dX4_blackOnes_61 ?_
    refine og_st [.int (nI (lv - 1)), .ref high, .ref a, .ref (ob_top nl r), .ref t] (by rw [show (1 : Int32) = nI 1 from rfl, nI_sub (by omega)]; rfl) ?_
    refine og_callSe dX4_blackOnes_62 ksX4_110 (ct_blackOnes ht hth hnl hn h1 hns r a a high (lv - 1) m' hs.r hmr (by omega) (by omega) (fun x hx => ⟨(ha x (by simp [ob_ads, hx])).1, Or.inr ⟨an, aL, s4 x hx⟩, (ha x (by simp [ob_ads, hx])).2.2⟩) s2 hm') rfl rfl ⟨by show ob_ht r + 4 + 1 ≤ H + 4; omega, by show 8 + (7 + 11) + 60 * (ob_ht r + 4) ≤ 60 * (H + 4); omega⟩ (Nat.zero_le _) (Nat.zero_le _) (Nat.le_of_ble_eq_true rfl) rfl ?_
    have hne : ¬ nI m' = (-1 : Int32) := fun h => by
      have : ¬ nI m' < 0 := nI_pos (by omega)
      rw [h] at this
      exact this (by decide)
    cases c with
    | true =>
      have e6 : V a 6 = .int 1 := e6
      refine og_istore dX4_blackOnes_65 (by decide) ?_
      refine og_iload dX4_blackOnes_67 rfl ?_
      refine og_iconst (v := (-1)) dX4_blackOnes_69 (by decide) ?_
      refine og_icmp_eq (tgt := 80) dX4_blackOnes_70 (by decide) (fun z9 => absurd z9 (hne)) (fun _ => ?_)
      refine og_iload dX4_blackOnes_73 rfl ?_
      refine og_iload dX4_blackOnes_75 rfl ?_
      refine og_icmp_eq (tgt := 82) dX4_blackOnes_77 (by decide) (fun _ => ?_) (fun z9 => absurd (rfl) z9)
      refine og_aload_n dX4_blackOnes_82 rfl rfl ?_
      refine og_getf dX4_blackOnes_83 kfX4_61 (by assumption) (by assumption) ?_
      refine og_if_eq (tgt := 94) dX4_blackOnes_86 (by decide) (fun z9 => absurd z9 (by decide)) (fun _ => ?_)
      refine og_iload dX4_blackOnes_89 rfl ?_
      refine og_goto (tgt := 98) dX4_blackOnes_91 (by decide) ?_
      exact og_ireturn (ty := .int) rfl dX4_blackOnes_98 rfl (Nat.zero_le _) (Nat.zero_le _) ⟨by rw [hmm]; rfl, rfl⟩
    | false =>
      have e6 : V a 6 = .int 0 := e6
      refine og_istore dX4_blackOnes_65 (by decide) ?_
      refine og_iload dX4_blackOnes_67 rfl ?_
      refine og_iconst (v := (-1)) dX4_blackOnes_69 (by decide) ?_
      refine og_icmp_eq (tgt := 80) dX4_blackOnes_70 (by decide) (fun z9 => absurd z9 (hne)) (fun _ => ?_)
      refine og_iload dX4_blackOnes_73 rfl ?_
      refine og_iload dX4_blackOnes_75 rfl ?_
      refine og_icmp_eq (tgt := 82) dX4_blackOnes_77 (by decide) (fun _ => ?_) (fun z9 => absurd (rfl) z9)
      refine og_aload_n dX4_blackOnes_82 rfl rfl ?_
      refine og_getf dX4_blackOnes_83 kfX4_61 (by assumption) (by assumption) ?_
      refine og_if_eq (tgt := 94) dX4_blackOnes_86 (by decide) (fun _ => ?_) (fun z9 => absurd (rfl) z9)
      refine og_iload dX4_blackOnes_94 rfl ?_
      refine og_iconst (v := 1) dX4_blackOnes_96 (by decide) ?_
      refine og_iadd dX4_blackOnes_97 ?_
      exact og_ireturn (ty := .int) rfl dX4_blackOnes_98 rfl (Nat.zero_le _) (Nat.zero_le _) ⟨by rw [hmm, nI_1]; rfl, rfl⟩
theorem ct_Tsound {t nl hp hb cap N : Nat} {K : ob_k} {tt : ob_t} (h : ob_tr T V t nl tt) (hth : V t 0 = .ref hp) (h1 : ob_hb T V hp hb cap) (hns : ob_ns T V B hb cap K (ob_ads tt)) (hso : ob_so K (ob_ads tt)) (hrb : ob_rb tt N) (hrd : ob_red tt = false) (hsz : ob_siz tt ≤ 1024) : ob_C X mX4_isSound 40 0 0 [.ref t] (T, V, B, J) (ob_e (some (.int 1)) (T, V, B, J)) := by
  refine ob_C_of (by decide) rfl (Nat.le_of_ble_eq_true rfl) ?_
  obtain ⟨ht, hnl, hrt, hn, hn5, hsub, hnd⟩ := id h
  obtain ⟨n1, n3, n4, n6, n7⟩ := id hn
  obtain ⟨r1, r7, r6⟩ := hsub.top hn
  rw [hrd] at r6
  have r6 : V (ob_top nl tt) 6 = .int 0 := r6
  have r5 : V (ob_top nl tt) 5 = .ref nl := by
    cases tt with
    | leaf => exact hn5
    | inner q a c l r => exact hsub.1.2.2.1
  refine og_lv [(0, .ref t)] rfl ?_
  have hpow := ob_rb_pow hrb
  have hlz := (ob_lz_ok (ob_siz tt + 1) (by omega)).resolve_left (by omega)
  have hht := ob_ht_rb hrb
  rw [hrd] at hht
  have hN : N < 32 - ob_lz (ob_siz tt + 1) := (Nat.pow_lt_pow_iff_right (by decide : 1 < 2)).mp (by omega)
  generalize hz : ob_lz (ob_siz tt + 1) = z at *
  simp at hht
  refine og_aload_n dX4_isSound_0 rfl rfl ?_
  refine og_getf dX4_isSound_1 kfX4_33 (by assumption) (by assumption) ?_
  refine og_getf dX4_isSound_4 kfX4_61 (by assumption) (by assumption) ?_
  refine og_if_ne (tgt := 44) dX4_isSound_7 (by decide) (fun z9 => absurd (rfl) z9) (fun _ => ?_)
  refine og_aload_n dX4_isSound_10 rfl rfl ?_
  refine og_getf dX4_isSound_11 kfX4_33 (by assumption) (by assumption) ?_
  refine og_getf dX4_isSound_14 kfX4_30 (by assumption) (by assumption) ?_
  refine og_aload_n dX4_isSound_17 rfl rfl ?_
  refine og_getf dX4_isSound_18 kfX4_20 (by assumption) (by assumption) ?_
  refine og_acmp_ne (tgt := 44) dX4_isSound_21 (by decide) (fun z9 => absurd (rfl) z9) (fun _ => ?_)
  refine og_aload_n dX4_isSound_24 rfl rfl ?_
  refine og_getf dX4_isSound_25 kfX4_20 (by assumption) (by assumption) ?_
  refine og_getf dX4_isSound_28 kfX4_61 (by assumption) (by assumption) ?_
  refine og_if_ne (tgt := 44) dX4_isSound_31 (by decide) (fun z9 => absurd (rfl) z9) (fun _ => ?_)
  refine og_aload_n dX4_isSound_34 rfl rfl ?_
  refine og_getf dX4_isSound_35 kfX4_20 (by assumption) (by assumption) ?_
  refine og_getf dX4_isSound_38 kfX4_36 (by assumption) (by assumption) ?_
  refine og_if_eq (tgt := 46) dX4_isSound_41 (by decide) (fun _ => ?_) (fun z9 => absurd (rfl) z9)
  refine og_bipush (v := 32) dX4_isSound_46 (by decide) ?_
  refine og_aload_n dX4_isSound_48 rfl rfl ?_
  refine og_getf dX4_isSound_49 kfX4_33 (by assumption) (by assumption) ?_
  refine og_getf dX4_isSound_52 kfX4_36 (by assumption) (by assumption) ?_
  refine og_iconst (v := 1) dX4_isSound_55 (by decide) ?_
  refine og_iadd dX4_isSound_56 ?_
  refine og_st [.int (nI (ob_siz tt + 1)), .int 32] (by rw [nI_1]) ?_
  refine og_callSe dX4_isSound_57 ksX4_98 (ct_nlz (by omega) (by omega)) rfl rfl ⟨by decide, by decide⟩ (by decide) (by decide) (Nat.le_of_ble_eq_true rfl) rfl ?_
  rw [hz]
  refine og_isub dX4_isSound_60 ?_
  refine og_st [.int (nI (32 - z))] (by rw [show (32 : Int32) = nI 32 from rfl, nI_sub (by omega)]) ?_
  refine og_istore_n dX4_isSound_61 (by decide) ?_
  refine og_bipush (v := 64) dX4_isSound_62 (by decide) ?_
  refine og_iconst (v := 2) dX4_isSound_64 (by decide) ?_
  refine og_iload_n dX4_isSound_65 rfl ?_
  refine og_imul dX4_isSound_66 ?_
  refine og_mmin dX4_isSound_67 kMminX4_104 (by decide) (by decide) (by decide) (by decide) kMmins kMi kMminc ?_
  refine og_st [.int (nI (2 * (32 - z)))] ?_ ?_
  · rw [show (2 : Int32) * nI (32 - z) = nI (2 * (32 - z)) by rw [← pk_mul]; rfl, show (64 : Int32) = nI 64 from rfl]
    by_cases h9 : 2 * (32 - z) < 64
    · rw [if_pos (nI_lt h9 (by omega))]
    · rw [if_neg (nI_nlt (by omega) (by omega))]; congr 3; omega
  refine og_istore_n dX4_isSound_70 (by decide) ?_
  refine og_aload_n dX4_isSound_71 rfl rfl ?_
  refine og_aload_n dX4_isSound_72 rfl rfl ?_
  refine og_getf dX4_isSound_73 kfX4_33 (by assumption) (by assumption) ?_
  refine og_aload_n dX4_isSound_76 rfl rfl ?_
  refine og_getf dX4_isSound_77 kfX4_20 (by assumption) (by assumption) ?_
  refine og_aload_n dX4_isSound_80 rfl rfl ?_
  refine og_getf dX4_isSound_81 kfX4_20 (by assumption) (by assumption) ?_
  refine og_iload_n dX4_isSound_84 rfl ?_
  refine og_callSe dX4_isSound_85 ksX4_110 (ct_blackOnes ht hth hnl hn h1 hns tt nl nl nl (2 * (32 - z)) N hsub hrb (by omega) (by omega) (fun a ha => ⟨ha, Or.inl rfl, Or.inl rfl⟩) hso (by omega)) rfl rfl ⟨by show ob_ht tt + 4 + 1 ≤ 40; omega, by show 8 + (7 + 11) + 60 * (ob_ht tt + 4) ≤ 60 * 40; omega⟩ (Nat.zero_le _) (Nat.zero_le _) (Nat.le_of_ble_eq_true rfl) rfl ?_
  have hne : ¬ nI N = (-1 : Int32) := fun h => by
    have : ¬ nI N < 0 := nI_pos (by omega)
    rw [h] at this
    exact this (by decide)
  refine og_iconst (v := (-1)) dX4_isSound_88 (by decide) ?_
  refine og_icmp_eq (tgt := 96) dX4_isSound_89 (by decide) (fun z9 => absurd z9 (hne)) (fun _ => ?_)
  refine og_iconst (v := 1) dX4_isSound_92 (by decide) ?_
  refine og_goto (tgt := 97) dX4_isSound_93 (by decide) ?_
  exact og_ireturn (ty := .boolean) rfl dX4_isSound_97 rfl (by decide) (by decide) ⟨rfl, rfl⟩
end OBY
