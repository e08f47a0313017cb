/-! ROWS OF BYTES AND THEIR ORDER; the heap's comparisons -/
/-- how two rows compare: the first bytes that differ, then the lengths -/
def ob_cmp : List Nat → List Nat → Int
  | [], m => -(m.length : Int)
  | x :: k, [] => ((x :: k).length : Int)
  | x :: k, y :: m => if x = y then ob_cmp k m else (x : Int) - y
theorem ob_cmp_nil (k : List Nat) : ob_cmp k [] = (k.length : Int) := by cases k <;> simp [ob_cmp]
theorem ob_cmp_0 : ∀ {k m : List Nat}, ob_cmp k m = 0 ↔ k = m
  | [], m => by cases m <;> simp [ob_cmp]; omega
  | x :: k, [] => by simp [ob_cmp]; omega
  | x :: k, y :: m => by
    simp only [ob_cmp, List.cons.injEq]
    split
    · rename_i e; rw [ob_cmp_0]; simp [e]
    · rename_i e; constructor
      · intro h; omega
      · intro h; exact absurd h.1 e
theorem ob_cmp_neg : ∀ (k m : List Nat), ob_cmp m k = -ob_cmp k m
  | [], m => by simp [ob_cmp, ob_cmp_nil]
  | x :: k, [] => by simp [ob_cmp]
  | x :: k, y :: m => by
    simp only [ob_cmp]
    by_cases e : x = y
    · rw [if_pos e, if_pos e.symm, ob_cmp_neg k m]
    · rw [if_neg e, if_neg (Ne.symm e)]; omega
theorem ob_cmp_tr : ∀ {k m l : List Nat}, ob_cmp k m < 0 → ob_cmp m l < 0 → ob_cmp k l < 0
  | k, [], l, h1, h2 => by rw [ob_cmp_nil] at h1; omega
  | k, x :: m, [], h1, h2 => by simp [ob_cmp] at h2; omega
  | [], x :: m, y :: l, h1, h2 => by simp [ob_cmp]
  | z :: k, x :: m, y :: l, h1, h2 => by
    simp only [ob_cmp] at h1 h2 ⊢
    by_cases e1 : z = x
    · rw [if_pos e1] at h1
      by_cases e2 : x = y
      · rw [if_pos e2] at h2
        rw [if_pos (e1.trans e2)]
        exact ob_cmp_tr h1 h2
      · rw [if_neg e2] at h2
        rw [if_neg (fun e => e2 (e1.symm.trans e))]; omega
    · rw [if_neg e1] at h1
      by_cases e2 : x = y
      · rw [if_pos e2] at h2
        rw [if_neg (fun e => e1 (e.trans e2.symm))]; omega
      · rw [if_neg e2] at h2
        rw [if_neg (by omega)]; omega
theorem ob_cmp_small : ∀ {k m : List Nat}, (∀ x ∈ k, x < 256) → (∀ x ∈ m, x < 256) → k.length ≤ 1000000 → m.length ≤ 1000000 → -1000000 ≤ ob_cmp k m ∧ ob_cmp k m ≤ 1000000
  | [], m, h1, h2, h3, h4 => by simp only [ob_cmp]; omega
  | x :: k, [], h1, h2, h3, h4 => by simp only [ob_cmp]; omega
  | x :: k, y :: m, h1, h2, h3, h4 => by
    simp only [ob_cmp]
    split
    · refine ob_cmp_small (fun z hz => h1 z (List.mem_cons_of_mem _ hz)) (fun z hz => h2 z (List.mem_cons_of_mem _ hz)) ?_ ?_
      · simp only [List.length_cons] at h3; omega
      · simp only [List.length_cons] at h4; omega
    · have := h1 x List.mem_cons_self
      have := h2 y List.mem_cons_self
      omega
/-- small whole numbers -/
def iI (z : Int) : Int32 := Int32.ofInt z
theorem iI_toInt {z : Int} (h1 : -1000000 ≤ z) (h2 : z ≤ 1000000) : (iI z).toInt = z := by
  unfold iI
  rw [Int32.toInt_ofInt_of_le] <;> omega
theorem iI_sub (a b : Nat) : nI a - nI b = iI ((a : Int) - b) := by
  unfold iI nI
  rw [Int32.ofInt_sub, Int32.ofInt_eq_ofNat, Int32.ofInt_eq_ofNat]
theorem iI_0 {z : Int} (h1 : -1000000 ≤ z) (h2 : z ≤ 1000000) : iI z = 0 ↔ z = 0 := by
  rw [← Int32.toInt_inj, iI_toInt h1 h2]; rfl
theorem iI_lt {z : Int} (h1 : -1000000 ≤ z) (h2 : z ≤ 1000000) : iI z < 0 ↔ z < 0 := by
  rw [Int32.lt_iff_toInt_lt, iI_toInt h1 h2]; rfl
theorem iI_le {z : Int} (h1 : -1000000 ≤ z) (h2 : z ≤ 1000000) : 0 ≤ iI z ↔ 0 ≤ z := by
  rw [Int32.le_iff_toInt_le, iI_toInt h1 h2]; rfl
theorem iI_gt {z : Int} (h1 : -1000000 ≤ z) (h2 : z ≤ 1000000) : 0 < iI z ↔ 0 < z := by
  rw [Int32.lt_iff_toInt_lt, iI_toInt h1 h2]; rfl
/-- the byte row at a holds l from place i on -/
def ob_bs (B : ob_B) (a i : Nat) (l : List Nat) : Prop := ∀ j, (h : j < l.length) → l[j] < 256 ∧ B a (i + j) = sb_b l[j]
theorem ob_bs.lt {B : ob_B} {a i : Nat} {l : List Nat} (h : ob_bs B a i l) : ∀ x ∈ l, x < 256 := by
  intro x hx
  obtain ⟨j, hj, rfl⟩ := List.getElem_of_mem hx
  exact (h j hj).1
theorem ob_bs.fit {B : ob_B} {a i : Nat} {l : List Nat} (h : ob_bs B a i l) {j : Nat} (hj : j < l.length) : fits .byte (.int (B a (i + j))) = true := by rw [(h j hj).2]; exact sb_fitB _
theorem ob_bs.app {B : ob_B} {a i : Nat} {l m : List Nat} (h : ob_bs B a i (l ++ m)) : ob_bs B a i l ∧ ob_bs B a (i + l.length) m := by
  constructor
  · intro j hj
    have := h j (by rw [List.length_append]; omega)
    rwa [List.getElem_append_left hj] at this
  · intro j hj
    have := h (l.length + j) (by rw [List.length_append]; omega)
    rw [List.getElem_append_right (by omega)] at this
    simpa [Nat.add_assoc] using this
/-- the heap object hp: its bytes at hb, cap units -/
def ob_hb (T : ob_T) (V : ob_V) (hp hb cap : Nat) : Prop := T hp = some (1, 0) ∧ V hp 4 = .ref hb ∧ T hb = some (7, 16 * cap) ∧ cap ≤ 4096
/-- node a bears the key and the value -/
def ob_nd (T : ob_T) (V : ob_V) (B : ob_B) (hb cap a : Nat) (key val : List Nat) : Prop := T a = some (2, 0) ∧ V a 0 = .int (nI key.length) ∧ V a 1 = .int (nI val.length) ∧ ∃ b s, V a 2 = .ref b ∧ T b = some (0, 0) ∧ V b 0 = .int (nI s) ∧ ob_bs B hb (16 * s) (key ++ val) ∧ 16 * s + (key.length + val.length) ≤ 16 * cap
section OBM
variable {X : ob_X} {T : ob_T} {V : ob_V} {B : ob_B} {J : ob_J} {R : Room} {Q : ob_r → ob_w → Prop} {k n : Nat}
theorem ct_numberAt {ra nr i x : Nat} (h1 : T ra = some (7, nr)) (hi : i < nr) (hnr : nr < 1000000) (hx : x < 256) (hb : B ra i = sb_b x) : ob_C X mX5_numberAt 0 0 0 [.ref ra, .int (nI i)] (T, V, B, J) (ob_e (some (.int (nI x))) (T, V, B, J)) := by
  refine ob_C_of (by decide) rfl (Nat.le_of_ble_eq_true rfl) ?_
  refine og_iload_n dX5_numberAt_0 rfl ?_
  refine og_if_lt (tgt := 20) dX5_numberAt_1 (by decide) (fun z9 => absurd z9 (nI_pos (by omega))) (fun _ => ?_)
  refine og_iload_n dX5_numberAt_4 rfl ?_
  refine og_aload_n dX5_numberAt_5 rfl rfl ?_
  refine og_alen dX5_numberAt_6 (by assumption) (by decide) ?_
  refine og_icmp_ge (tgt := 20) dX5_numberAt_7 (by decide) (fun z9 => absurd z9 (nI_ge hi (by omega))) (fun _ => ?_)
  refine og_aload_n dX5_numberAt_10 rfl rfl ?_
  refine og_iload_n dX5_numberAt_11 rfl ?_
  refine og_bald dX5_numberAt_12 h1 (vp_in_nI hi (by omega)) ?_
  rw [nI_clamp (by omega)]
  refine og_st [.int (sb_b x)] (by rw [← hb]) ?_
  refine og_sipush (v := 255) dX5_numberAt_13 (by decide) ?_
  refine og_iand dX5_numberAt_16 ?_
  refine og_goto (tgt := 21) dX5_numberAt_17 (by decide) ?_
  refine og_ireturn (ty := .int) rfl dX5_numberAt_21 rfl (by decide) (by decide) ⟨?_, rfl⟩
  rw [← (sb_byte _ hx).1]
theorem cmp_loop {hp hb cap ra nr fr a s : Nat} {key ke va : List Nat} (h1 : ob_hb T V hp hb cap) (h2 : T ra = some (7, nr)) (h3 : fr + key.length ≤ nr) (hnr : nr < 1000000) (h4 : ob_bs B ra fr key) (ha : T a = some (2, 0)) (hk0 : V a 0 = .int (nI ke.length)) (h5 : ob_bs B hb (16 * s) (ke ++ va)) (h6 : 16 * s + (ke.length + va.length) ≤ 16 * cap) (hR : 1 ≤ R.frames ∧ 60 ≤ R.locals) (hk : k ≤ R.cells) (hs : n ≤ R.slots) :
    ∀ (d i : Nat), i + d = min key.length ke.length → Q (.inl (some (.int (iI (ob_cmp (key.drop i) (ke.drop i)))))) (T, V, B, J) → ob_G X mX1_compareBytes R Q 27 [(0, .ref hp), (1, .ref ra), (2, .int (nI fr)), (3, .int (nI key.length)), (4, .ref a), (5, .int (nI (16 * s))), (6, .int (nI (min key.length ke.length))), (7, .int (nI i))] [] (T, V, B, J) k n := by
  obtain ⟨g1, g2, g3, g4⟩ := h1
  have h5k := h5.app.1
  intro d
  induction d with
  | zero =>
    intro i hi hq
    refine og_iload dX1_compareBytes_27 rfl ?_
    refine og_iload dX1_compareBytes_29 rfl ?_
    refine og_icmp_ge (tgt := 71) dX1_compareBytes_31 (by decide) (fun _ => ?_) (fun z9 => absurd (by rw [← hi]; exact nI_le (by omega) (by omega)) z9)
    refine og_iload_n dX1_compareBytes_71 rfl ?_
    refine og_aload dX1_compareBytes_72 rfl rfl ?_
    refine og_getf dX1_compareBytes_74 kfX1_88 (by assumption) (by assumption) ?_
    refine og_isub dX1_compareBytes_77 ?_
    refine og_ireturn (ty := .int) rfl dX1_compareBytes_78 rfl hk hs ?_
    rw [iI_sub]
    have e1 : ob_cmp (key.drop i) (ke.drop i) = (key.length : Int) - ke.length := by
      rcases Nat.le_total key.length ke.length with h | h
      · rw [List.drop_eq_nil_of_le (as := key) (by omega)]
        simp only [ob_cmp, List.length_drop]; omega
      · rw [List.drop_eq_nil_of_le (as := ke) (by omega), ob_cmp_nil, List.length_drop]; omega
    rw [e1] at hq
    exact hq
  | succ d ih =>
    intro i hi hq
    have hi1 : i < key.length := by omega
    have hi2 : i < ke.length := by omega
    obtain ⟨b1, b2⟩ := h4 i hi1
    obtain ⟨b3, b4⟩ := h5k i hi2
    refine og_iload dX1_compareBytes_27 rfl ?_
    refine og_iload dX1_compareBytes_29 rfl ?_
    refine og_icmp_ge (tgt := 71) dX1_compareBytes_31 (by decide) (fun z9 => absurd z9 (nI_ge (by omega) (by omega))) (fun _ => ?_)
    refine og_aload_n dX1_compareBytes_34 rfl rfl ?_
    refine og_iload_n dX1_compareBytes_35 rfl ?_
    refine og_iload dX1_compareBytes_36 rfl ?_
    refine og_iadd dX1_compareBytes_38 ?_
    refine og_st [.int (nI (fr + i)), .ref ra] (by rw [nI_add] <;> rfl) ?_
    refine og_callSne dX1_compareBytes_39 knX1_91 (ct_numberAt (x := key[i]) h2 (by omega) hnr b1 b2) rfl rfl ⟨hR.1, Nat.le_trans (Nat.le_of_ble_eq_true rfl) hR.2⟩ hk hs (by decide) rfl ?_
    refine og_aload_n dX1_compareBytes_42 rfl rfl ?_
    refine og_getf dX1_compareBytes_43 kfX1_24 (by assumption) (by assumption) ?_
    refine og_iload dX1_compareBytes_46 rfl ?_
    refine og_iload dX1_compareBytes_48 rfl ?_
    refine og_iadd dX1_compareBytes_50 ?_
    refine og_st [.int (nI (16 * s + i)), .ref hb, .int (nI key[i])] (by rw [nI_add] <;> rfl) ?_
    refine og_callSne dX1_compareBytes_51 knX1_91 (ct_numberAt (x := ke[i]) g3 (by omega) (by omega) b3 b4) rfl rfl ⟨hR.1, Nat.le_trans (Nat.le_of_ble_eq_true rfl) hR.2⟩ hk hs (Nat.le_of_ble_eq_true rfl) rfl ?_
    refine og_isub dX1_compareBytes_54 ?_
    refine og_istore dX1_compareBytes_55 (by decide) ?_
    refine og_iload dX1_compareBytes_57 rfl ?_
    refine og_lv [(0, .ref hp), (1, .ref ra), (2, .int (nI fr)), (3, .int (nI key.length)), (4, .ref a), (5, .int (nI (16 * s))), (6, .int (nI (min key.length ke.length))), (7, .int (nI i)), (8, .int (nI key[i] - nI ke[i]))] rfl ?_
    have e1 : ob_cmp (key.drop i) (ke.drop i) = if key[i] = ke[i] then ob_cmp (key.drop (i + 1)) (ke.drop (i + 1)) else (key[i] : Int) - ke[i] := by
      rw [List.drop_eq_getElem_cons hi1, List.drop_eq_getElem_cons hi2]; rfl
    refine og_if_eq (tgt := 65) dX1_compareBytes_59 (by decide) (fun hc => ?_) (fun hc => ?_)
    · have e2 : key[i] = ke[i] := by
        rw [iI_sub, iI_0 (by omega) (by omega)] at hc; omega
      rw [if_pos e2] at e1
      refine og_iinc dX1_compareBytes_65 rfl (nI_1 i) (by decide) ?_
      refine og_goto (tgt := 27) dX1_compareBytes_68 (by decide) ?_
      refine og_lv [(0, .ref hp), (1, .ref ra), (2, .int (nI fr)), (3, .int (nI key.length)), (4, .ref a), (5, .int (nI (16 * s))), (6, .int (nI (min key.length ke.length))), (7, .int (nI (i + 1)))] rfl ?_
      exact ih (i + 1) (by omega) (by rw [← e1]; exact hq)
    · have e2 : key[i] ≠ ke[i] := fun e => hc (by rw [e, iI_sub]; simp [iI])
      rw [if_neg e2] at e1
      refine og_iload dX1_compareBytes_62 rfl ?_
      refine og_ireturn (ty := .int) rfl dX1_compareBytes_64 rfl hk hs ?_
      rw [iI_sub, ← e1]
      exact hq
theorem ct_compareBytes {hp hb cap ra nr fr a : Nat} {key ke va : List Nat} (h1 : ob_hb T V hp hb cap) (h2 : T ra = some (7, nr)) (h3 : fr + key.length ≤ nr) (hnr : nr < 1000000) (h4 : ob_bs B ra fr key) (h5 : ob_nd T V B hb cap a ke va) : ob_C X mX1_compareBytes 1 0 0 [.ref hp, .ref ra, .int (nI fr), .int (nI key.length), .ref a] (T, V, B, J) (ob_e (some (.int (iI (ob_cmp key ke)))) (T, V, B, J)) := by
  refine ob_C_of (by decide) rfl (Nat.le_of_ble_eq_true rfl) ?_
  obtain ⟨ha, hk0, -, b, s, hb2, hbt, hbs, h6, h7⟩ := h5
  have g4 := h1.2.2.2
  refine og_aload dX1_compareBytes_0 rfl rfl ?_
  refine og_getf dX1_compareBytes_2 kfX1_83 (by assumption) (by assumption) ?_
  refine og_getf dX1_compareBytes_5 kfX1_69 (by assumption) (by assumption) ?_
  refine og_bipush (v := 16) dX1_compareBytes_8 (by decide) ?_
  refine og_imul dX1_compareBytes_10 ?_
  refine og_istore dX1_compareBytes_11 (by decide) ?_
  refine og_iload_n dX1_compareBytes_13 rfl ?_
  refine og_aload dX1_compareBytes_14 rfl rfl ?_
  refine og_getf dX1_compareBytes_16 kfX1_88 (by assumption) (by assumption) ?_
  refine og_mmin dX1_compareBytes_19 kMminX1_15 (by decide) (by decide) (by decide) (by decide) kMmins kMi kMminc ?_
  refine og_st [.int (nI (min key.length ke.length))] ?_ ?_
  · by_cases h : ke.length < key.length
    · rw [if_pos (nI_lt h (by omega)), Nat.min_eq_right (by omega)]
    · rw [if_neg (nI_nlt (by omega) (by omega)), Nat.min_eq_left (by omega)]
  refine og_istore dX1_compareBytes_22 (by decide) ?_
  refine og_iconst (v := 0) dX1_compareBytes_24 (by decide) ?_
  refine og_istore dX1_compareBytes_25 (by decide) ?_
  refine og_lv [(0, .ref hp), (1, .ref ra), (2, .int (nI fr)), (3, .int (nI key.length)), (4, .ref a), (5, .int (nI (16 * s))), (6, .int (nI (min key.length ke.length))), (7, .int (nI 0))] (by rw [Nat.mul_comm, ← pk_mul]; rfl) ?_
  exact cmp_loop h1 h2 h3 hnr h4 ha hk0 h6 h7 ⟨by decide, by decide⟩ (Nat.le_refl _) (Nat.le_refl _) (min key.length ke.length) 0 (Nat.zero_add _) ⟨rfl, rfl⟩
theorem ct_compareRow {hp hb cap rw9 ra nr a : Nat} {key ke va : List Nat} (h1 : ob_hb T V hp hb cap) (h0 : T rw9 = some (3, 0)) (h00 : V rw9 0 = .ref ra) (h2 : T ra = some (7, nr)) (h3 : key.length ≤ nr) (hnr : nr < 1000000) (h4 : ob_bs B ra 0 key) (h5 : ob_nd T V B hb cap a ke va) : ob_C X mX1_compareRow 2 0 0 [.ref hp, .ref rw9, .int (nI key.length), .ref a] (T, V, B, J) (ob_e (some (.int (iI (ob_cmp key ke)))) (T, V, B, J)) := by
  refine ob_C_of (by decide) rfl (Nat.le_of_ble_eq_true rfl) ?_
  have g1 := h1.1
  refine og_aload_n dX1_compareRow_0 rfl rfl ?_
  refine og_aload_n dX1_compareRow_1 rfl rfl ?_
  refine og_getf dX1_compareRow_2 kfX1_66 (by assumption) (by assumption) ?_
  refine og_iconst (v := 0) dX1_compareRow_5 (by decide) ?_
  refine og_iload_n dX1_compareRow_6 rfl ?_
  refine og_aload_n dX1_compareRow_7 rfl rfl ?_
  refine og_callVe dX1_compareRow_8 kvX1_79 (ct_compareBytes (fr := 0) h1 h2 (by omega) hnr h4 h5) rfl g1 rfl rfl ⟨by decide, by decide⟩ (by decide) (by decide) (by decide) rfl ?_
  exact og_ireturn (ty := .int) rfl dX1_compareRow_11 rfl (by decide) (by decide) ⟨rfl, rfl⟩
theorem ct_compareNodes {hp hb cap a1 a : Nat} {key va1 ke va : List Nat} (h1 : ob_hb T V hp hb cap) (h4 : ob_nd T V B hb cap a1 key va1) (h5 : ob_nd T V B hb cap a ke va) : ob_C X mX1_compareNodes 2 0 0 [.ref hp, .ref a1, .ref a] (T, V, B, J) (ob_e (some (.int (iI (ob_cmp key ke)))) (T, V, B, J)) := by
  refine ob_C_of (by decide) rfl (Nat.le_of_ble_eq_true rfl) ?_
  obtain ⟨g1, g2, g3, g4⟩ := id h1
  obtain ⟨ha, hk0, -, b, s, hb2, hbt, hbs, h6, h7⟩ := h4
  refine og_aload_n dX1_compareNodes_0 rfl rfl ?_
  refine og_aload_n dX1_compareNodes_1 rfl rfl ?_
  refine og_getf dX1_compareNodes_2 kfX1_24 (by assumption) (by assumption) ?_
  refine og_aload_n dX1_compareNodes_5 rfl rfl ?_
  refine og_getf dX1_compareNodes_6 kfX1_83 (by assumption) (by assumption) ?_
  refine og_getf dX1_compareNodes_9 kfX1_69 (by assumption) (by assumption) ?_
  refine og_bipush (v := 16) dX1_compareNodes_12 (by decide) ?_
  refine og_imul dX1_compareNodes_14 ?_
  refine og_aload_n dX1_compareNodes_15 rfl rfl ?_
  refine og_getf dX1_compareNodes_16 kfX1_88 (by assumption) (by assumption) ?_
  refine og_aload_n dX1_compareNodes_19 rfl rfl ?_
  refine og_st [.ref a, .int (nI key.length), .int (nI (16 * s)), .ref hb, .ref hp] (by rw [Nat.mul_comm, ← pk_mul]; rfl) ?_
  refine og_callVe dX1_compareNodes_20 kvX1_79 (ct_compareBytes (fr := 16 * s) h1 g3 (by omega) (by omega) h6.app.1 h5) rfl g1 rfl rfl ⟨by decide, by decide⟩ (by decide) (by decide) (by decide) rfl ?_
  exact og_ireturn (ty := .int) rfl dX1_compareNodes_23 rfl (by decide) (by decide) ⟨rfl, rfl⟩
end OBM
