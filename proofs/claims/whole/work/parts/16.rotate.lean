/-! replace, rotate -/
/-- the frame right above the hole, and the old thing in it -/
def ob_hd (T : ob_T) (V : ob_V) (nl old : Nat) : List ob_f → Prop
  | [] => True
  | (d, a, _, b, _) :: _ => T a = some (2, 0) ∧ a ≠ nl ∧ V a 3 = .ref (if d then old else ob_top nl b) ∧ (d = false → old ≠ ob_top nl b)
def ob_rep (V : ob_V) (t nl : Nat) (z : List ob_f) (h : Nat) : ob_V := match z with
  | [] => ob_set (ob_set V t 2 (.ref h)) h 5 (.ref nl)
  | (d, a, _, _, _) :: _ => ob_set (ob_set V a (ob_sl d) (.ref h)) h 5 (.ref a)
theorem ob_zm_hole {V V' : ob_V} {nl x y m : Nat} {z : List ob_f} (h : ob_zm V nl z x m) (hnd : (ob_zads z).Nodup) (hh : match z with | [] => True | (d, a, _, _, _) :: _ => V' a (ob_sl d) = .ref y ∧ ∀ k, k ≠ ob_sl d → V' a k = V a k) (hr : ∀ b ∈ ob_zads z, b ≠ ob_zp nl z → ∀ k, V' b k = V b k) : ob_zm V' nl z y m := by
  cases z with
  | nil => trivial
  | cons f z =>
    obtain ⟨d, a, c, b, q⟩ := f
    rw [ob_zm_cons] at h ⊢
    obtain ⟨e1, e2, e3, e4, e5, e6, e7⟩ := h
    simp only [ob_zads, List.nodup_cons, List.mem_append, not_or] at hnd
    obtain ⟨⟨n1, n2⟩, n3⟩ := hnd
    obtain ⟨k1, k2⟩ := hh
    have sr := ob_sl_rg d
    refine ⟨k1, by rw [k2 _ (ob_sl_ne' d)]; exact e2, by rw [k2 5 (by omega)]; exact e3, by rw [k2 6 (by omega)]; exact e4, by rw [k2 7 (by omega)]; exact e5, ?_, ?_⟩
    · exact ob_tm_congr (fun x hx k _ _ => hr x (by simp [ob_zads, hx]) (fun e => n1 (by have e : x = a := e; rw [← e]; exact hx)) k) e6
    · exact ob_zm_congr (fun x hx k _ _ => hr x (by simp [ob_zads, hx]) (fun e => n2 (by have e : x = a := e; rw [← e]; exact hx)) k) e7
section OBQ
variable {X : ob_X} {T : ob_T} {V : ob_V} {B : ob_B} {J : ob_J} {R : Room} {Q : ob_r → ob_w → Prop} {k n : Nat}
theorem ct_replace {t nl old h : Nat} {z : List ob_f} (ht : T t = some (4, 0)) (hnl : V t 1 = .ref nl) (ho : T old = some (2, 0)) (hp : V old 5 = .ref (ob_zp nl z)) (hh : T h = some (2, 0)) (hz : ob_hd T V nl old z) : ob_C X mX4_replace 1 0 0 [.ref t, .ref old, .ref h] (T, V, B, J) (ob_e none (T, ob_rep V t nl z h, B, J)) := by
  refine ob_C_of (by decide) rfl (Nat.le_of_ble_eq_true rfl) ?_
  cases z with
  | nil =>
    have hp : V old 5 = .ref nl := hp
    refine og_aload_n dX4_replace_0 rfl rfl ?_
    refine og_getf dX4_replace_1 kfX4_30 (by assumption) (by assumption) ?_
    refine og_astore_n dX4_replace_4 (by decide) rfl ?_
    refine og_aload_n dX4_replace_5 rfl rfl ?_
    refine og_aload_n dX4_replace_6 rfl rfl ?_
    refine og_getf dX4_replace_7 kfX4_20 (by assumption) (by assumption) ?_
    refine og_acmp_ne (tgt := 21) dX4_replace_10 (by decide) (fun z9 => absurd (rfl) z9) (fun _ => ?_)
    refine og_aload_n dX4_replace_13 rfl rfl ?_
    refine og_aload_n dX4_replace_14 rfl rfl ?_
    refine og_put dX4_replace_15 kfX4_33 (by assumption) rfl rfl ?_
    refine og_goto (tgt := 31) dX4_replace_18 (by decide) ?_
    refine og_aload_n dX4_replace_31 rfl rfl ?_
    refine og_aload_n dX4_replace_32 rfl rfl ?_
    refine og_put dX4_replace_33 kfX4_30 (by assumption) rfl rfl ?_
    exact og_return rfl dX4_replace_36 (by decide) (by decide) ⟨rfl, rfl⟩
  | cons f z =>
    obtain ⟨d, a, c, b, q⟩ := f
    obtain ⟨ha, hane, h3, hne⟩ := hz
    have hp : V old 5 = .ref a := hp
    refine og_aload_n dX4_replace_0 rfl rfl ?_
    refine og_getf dX4_replace_1 kfX4_30 (by assumption) (by assumption) ?_
    refine og_astore_n dX4_replace_4 (by decide) rfl ?_
    refine og_aload_n dX4_replace_5 rfl rfl ?_
    refine og_aload_n dX4_replace_6 rfl rfl ?_
    refine og_getf dX4_replace_7 kfX4_20 (by assumption) (by assumption) ?_
    refine og_acmp_ne (tgt := 21) dX4_replace_10 (by decide) (fun _ => ?_) (fun z9 => absurd z9 (hane))
    refine og_aload_n dX4_replace_21 rfl rfl ?_
    refine og_aload_n dX4_replace_22 rfl rfl ?_
    refine og_aload_n dX4_replace_23 rfl rfl ?_
    refine og_callVe dX4_replace_24 kvX4_87 (ct_sideOf ha h3) rfl ha rfl rfl ⟨by decide, by decide⟩ (by decide) (by decide) (Nat.le_of_ble_eq_true rfl) rfl ?_
    refine og_st [.int (ob_sd d), .ref a] ?_ ?_
    · cases d
      · simp [ob_sd, hne rfl]
      · simp [ob_sd]
    refine og_aload_n dX4_replace_27 rfl rfl ?_
    refine og_callVe dX4_replace_28 kvX4_65 (ct_setChild (d := d) ha) rfl ha rfl rfl ⟨by decide, by decide⟩ (by decide) (by decide) (Nat.le_of_ble_eq_true rfl) rfl ?_
    refine og_aload_n dX4_replace_31 rfl rfl ?_
    refine og_aload_n dX4_replace_32 rfl rfl ?_
    refine og_put dX4_replace_33 kfX4_30 (by assumption) rfl rfl ?_
    exact og_return rfl dX4_replace_36 (by decide) (by decide) ⟨rfl, rfl⟩
/-- rotate: y rises over x on the side d -/
theorem ct_rotate {t nl qx qy x y : Nat} {d cx cy : Bool} {z : List ob_f} {A Bt C : ob_t} (h : ob_zt T V t nl z (ob_mkn d qx x cx A (ob_mkn d qy y cy Bt C))) : ob_C X mX4_rotate 2 0 0 [.ref t, .ref x, .int (ob_sd d)] (T, V, B, J) (fun r w' => r = .inl none ∧ ∃ V', w' = (T, V', B, J) ∧ ob_zt T V' t nl z (ob_mkn d qy y cy (ob_mkn d qx x cx A Bt) C) ∧ ob_fr t (ob_zads z ++ ob_ads (ob_mkn d qx x cx A (ob_mkn d qy y cy Bt C))) V V') := by
  refine ob_C_of (by decide) rfl (Nat.le_of_ble_eq_true rfl) ?_
  obtain ⟨ht, hnl, hroot, hn, hz, htm, hTa, hnd⟩ := h
  rw [ob_top_mk, ob_siz_mk, ob_siz_mk] at hz
  obtain ⟨x1, x2, x5, x6, x7, tA, ty⟩ := (ob_tm_mk d).mp htm
  rw [ob_top_mk] at x2
  rw [ob_siz_mk] at x7
  obtain ⟨y1, y2, y5, y6, y7, tB, tC⟩ := (ob_tm_mk d).mp ty
  -- addresses
  have hx := hTa x (by simp [ob_mem_mk])
  have hy := hTa y (by simp [ob_mem_mk])
  have hTA : ∀ b ∈ ob_ads A, T b = some (2, 0) ∧ b ≠ nl := fun b hb => hTa b (by simp [ob_mem_mk, hb])
  have hTB : ∀ b ∈ ob_ads Bt, T b = some (2, 0) ∧ b ≠ nl := fun b hb => hTa b (by simp [ob_mem_mk, hb])
  have hTC : ∀ b ∈ ob_ads C, T b = some (2, 0) ∧ b ≠ nl := fun b hb => hTa b (by simp [ob_mem_mk, hb])
  have hTz : ∀ b ∈ ob_zads z, T b = some (2, 0) ∧ b ≠ nl := fun b hb => hTa b (by simp [hb])
  obtain ⟨hA1, hA2, -⟩ := ob_sub.top (p := x) hn ⟨tA, hTA⟩
  obtain ⟨hB1, hB2, -⟩ := ob_sub.top (p := y) hn ⟨tB, hTB⟩
  have hT2 : ∀ b, T b = some (2, 0) → b ≠ t := fun b hb e => by rw [e, ht] at hb; cases hb
  have hnd2 := hnd
  simp only [List.nodup_append, ob_nd_mk, ob_mem_mk] at hnd2
  obtain ⟨nz, ⟨nxA, nxy, nA, ⟨nyB, nyC, nB, nC, nBC⟩, nA2⟩, nzz⟩ := hnd2
  have hxy : x ≠ y := fun e => nxy (Or.inl e)
  have hxB : x ∉ ob_ads Bt := fun e => nxy (Or.inr (Or.inl e))
  have hxC : x ∉ ob_ads C := fun e => nxy (Or.inr (Or.inr e))
  have hyA : y ∉ ob_ads A := fun e => nA2 y e (Or.inl rfl)
  have tin : ∀ (tt : ob_t) (b : Nat), b ≠ nl → b ∉ ob_ads tt → ob_top nl tt ≠ b := by
    intro tt b hb hbt e
    cases tt with
    | leaf => exact hb e.symm
    | inner q9 a9 c9 l9 r9 => exact hbt (by rw [← e]; simp [ob_ads, ob_top])
  have hBx := tin Bt x hx.2 hxB
  have hBy := tin Bt y hy.2 nyB
  have hAx := tin A x hx.2 nxA
  have hAy := tin A y hy.2 hyA
  have hxt := hT2 x hx.1
  have hyt := hT2 y hy.1
  have hBt := hT2 _ hB1
  have hAt := hT2 _ hA1
  have hnt := hT2 _ hn.1
  have sr := ob_sl_rg d
  have sr' := ob_sl_rg (!d)
  have sn := ob_sl_ne d
  have hx1 := hx.1
  have hy1 := hy.1
  refine og_lv [(0, .ref t), (1, .ref x), (2, .int (ob_sd d))] rfl ?_
  refine og_aload_n dX4_rotate_0 rfl rfl ?_
  refine og_iconst (v := 1) dX4_rotate_1 (by decide) ?_
  refine og_iload_n dX4_rotate_2 rfl ?_
  refine og_isub dX4_rotate_3 ?_
  refine og_st [.int (ob_sd (!d)), .ref x] (by first | (rw [← ob_sd_not]; done) | (rw [← ob_sd_not]; rfl)) ?_
  refine og_callVe dX4_rotate_4 kvX4_58 (ct_child (d := !d) hx.1 x2) rfl hx1 rfl rfl ⟨by decide, by decide⟩ (by decide) (by decide) (Nat.le_of_ble_eq_true rfl) rfl ?_
  refine og_astore_n dX4_rotate_7 (by decide) rfl ?_
  refine og_aload_n dX4_rotate_8 rfl rfl ?_
  refine og_iload_n dX4_rotate_9 rfl ?_
  refine og_callVe dX4_rotate_10 kvX4_58 (ct_child (d := d) hy.1 y1) rfl hy1 rfl rfl ⟨by decide, by decide⟩ (by decide) (by decide) (Nat.le_of_ble_eq_true rfl) rfl ?_
  refine og_astore dX4_rotate_13 (by decide) rfl ?_
  refine og_aload_n dX4_rotate_15 rfl rfl ?_
  refine og_iconst (v := 1) dX4_rotate_16 (by decide) ?_
  refine og_iload_n dX4_rotate_17 rfl ?_
  refine og_isub dX4_rotate_18 ?_
  refine og_st [.int (ob_sd (!d)), .ref x] (by first | (rw [← ob_sd_not]; done) | (rw [← ob_sd_not]; rfl)) ?_
  refine og_aload dX4_rotate_19 rfl rfl ?_
  refine og_callVe dX4_rotate_21 kvX4_65 (ct_setChild (d := !d) hx.1) rfl hx1 rfl rfl ⟨by decide, by decide⟩ (by decide) (by decide) (Nat.le_of_ble_eq_true rfl) rfl ?_
  refine og_lv [(0, .ref t), (1, .ref x), (2, .int (ob_sd d)), (3, .ref y), (4, .ref (ob_top nl Bt))] rfl ?_
  -- behind the join at 39
  have rest : ∀ V2 : ob_V, (∀ b j, V2 b j = if ob_top nl Bt ≠ nl ∧ b = ob_top nl Bt ∧ j = 5 then .ref x else ob_set V x (ob_sl (!d)) (.ref (ob_top nl Bt)) b j) → ob_G X mX4_rotate (ob_rm 2 0 0) (fun r w' => r = .inl none ∧ ∃ V', w' = (T, V', B, J) ∧ ob_zt T V' t nl z (ob_mkn d qy y cy (ob_mkn d qx x cx A Bt) C) ∧ ob_fr t (ob_zads z ++ ob_ads (ob_mkn d qx x cx A (ob_mkn d qy y cy Bt C))) V V') 39 [(0, .ref t), (1, .ref x), (2, .int (ob_sd d)), (3, .ref y), (4, .ref (ob_top nl Bt))] [] (T, V2, B, J) 0 0 := by
    intro V2 hV2
    have v2 : ∀ b j, b ≠ ob_top nl Bt → b ≠ x → V2 b j = V b j := fun b j h1 h2 => by simp [hV2, h1, ob_set, h2]
    have v2x : ∀ j, j ≠ ob_sl (!d) → V2 x j = V x j := fun j hj => by simp [hV2, Ne.symm hBx, ob_set, hj]
    have v2B : ∀ j, j ≠ 5 → V2 (ob_top nl Bt) j = V (ob_top nl Bt) j := fun j hj => by simp [hV2, ob_set, hj, hBx]
    have hnl2 : V2 t 1 = .ref nl := by rw [v2 t 1 (Ne.symm hBt) (Ne.symm hxt)]; exact hnl
    have hx52 : V2 x 5 = .ref (ob_zp nl z) := by rw [v2x 5 (by omega)]; exact x5
    have hzn : ∀ b ∈ ob_zads z, b ≠ x ∧ b ≠ y ∧ b ≠ ob_top nl Bt ∧ b ≠ t := by
      intro b hb
      refine ⟨fun e => nzz b hb x (Or.inl rfl) e, fun e => nzz b hb y (Or.inr (Or.inr (Or.inl rfl))) e, ?_, hT2 b (hTz b hb).1⟩
      exact (tin Bt b (hTz b hb).2 (fun h9 => nzz b hb b (Or.inr (Or.inr (Or.inr (Or.inl h9)))) rfl)).symm
    have hhd : ob_hd T V2 nl x z := by
      cases z with
      | nil => trivial
      | cons f z =>
        obtain ⟨d', a, c, b, q⟩ := f
        obtain ⟨a1, a2, a3, a4⟩ := hzn a (by simp [ob_zads])
        obtain ⟨b1, b2⟩ := hTz a (by simp [ob_zads])
        refine ⟨b1, b2, by rw [v2 a 3 a3 a1]; exact hz.1, fun _ => ?_⟩
        exact (tin b x hx.2 (fun h9 => (hzn x (by simp [ob_zads, h9])).1 rfl)).symm
    refine og_aload_n dX4_rotate_39 rfl rfl ?_
    refine og_aload_n dX4_rotate_40 rfl rfl ?_
    refine og_aload_n dX4_rotate_41 rfl rfl ?_
    refine og_callVe dX4_rotate_42 kvX4_77 (ct_replace (z := z) ht hnl2 hx.1 hx52 hy.1 hhd) rfl ht rfl rfl ⟨by decide, by decide⟩ (by decide) (by decide) (Nat.le_of_ble_eq_true rfl) rfl ?_
    generalize hV3 : ob_rep V2 t nl z y = V3
    -- what V3 is
    have v3 : ∀ b j, b ≠ t → b ≠ y → b ≠ ob_zp nl z → V3 b j = V2 b j := by
      intro b j h1 h2 h3
      rw [← hV3]
      cases z with
      | nil => simp [ob_rep, ob_set, h1, h2]
      | cons f z => obtain ⟨d', a, c, b9, q⟩ := f; simp [ob_rep, ob_set, h2, show b ≠ a from h3]
    have hzp : ob_zp nl z ≠ x ∧ ob_zp nl z ≠ y ∧ (z ≠ [] → ob_zp nl z ≠ ob_top nl Bt) ∧ ob_zp nl z ≠ t := by
      cases z with
      | nil => exact ⟨hx.2.symm, hy.2.symm, fun h9 => absurd rfl h9, hnt⟩
      | cons f z =>
        obtain ⟨d', a, c, b, q⟩ := f
        obtain ⟨a1, a2, a3, a4⟩ := hzn a (by simp [ob_zads])
        exact ⟨a1, a2, fun _ => a3, a4⟩
    have v3x : ∀ j, V3 x j = V2 x j := fun j => v3 x j hxt hxy (Ne.symm hzp.1)
    have v3y5 : V3 y 5 = .ref (ob_zp nl z) := by
      rw [← hV3]
      cases z with
      | nil => simp [ob_rep, ob_set, ob_zp]
      | cons f z => obtain ⟨d', a, c, b9, q⟩ := f; simp [ob_rep, ob_set, ob_zp]
    have v3y : ∀ j, j ≠ 5 → V3 y j = V y j := by
      intro j hj
      have e1 : V3 y j = V2 y j := by
        rw [← hV3]
        cases z with
        | nil => simp [ob_rep, ob_set, hj, hyt]
        | cons f z => obtain ⟨d', a, c, b9, q⟩ := f; simp [ob_rep, ob_set, hj, show y ≠ a from Ne.symm hzp.2.1]
      rw [e1, v2 y j (Ne.symm hBy) (Ne.symm hxy)]
    have v3t1 : V3 t 1 = .ref nl := by
      rw [← hnl2, ← hV3]
      cases z with
      | nil => simp [ob_rep, ob_set, Ne.symm hyt]
      | cons f z => obtain ⟨d', a, c, b9, q⟩ := f; simp [ob_rep, ob_set, Ne.symm hyt, show t ≠ a from Ne.symm hzp.2.2.2]
    refine og_aload_n dX4_rotate_45 rfl rfl ?_
    refine og_iload_n dX4_rotate_46 rfl ?_
    refine og_aload_n dX4_rotate_47 rfl rfl ?_
    refine og_callVe dX4_rotate_48 kvX4_65 (ct_setChild (d := d) hy.1) rfl hy1 rfl rfl ⟨by decide, by decide⟩ (by decide) (by decide) (Nat.le_of_ble_eq_true rfl) rfl ?_
    refine og_aload_n dX4_rotate_51 rfl rfl ?_
    refine og_aload_n dX4_rotate_52 rfl rfl ?_
    refine og_put dX4_rotate_53 kfX4_30 hx1 rfl rfl ?_
    have s1 : ob_set (ob_set V3 y (ob_sl d) (.ref x)) x 5 (.ref y) x 7 = .int (nI (ob_siz A + (ob_siz Bt + ob_siz C + 1) + 1)) := by
      simp [ob_set, hxy, v3x, v2x 7 (by omega), x7]
    refine og_aload_n dX4_rotate_56 rfl rfl ?_
    refine og_aload_n dX4_rotate_57 rfl rfl ?_
    refine og_getf dX4_rotate_58 kfX4_36 (by assumption) (s1) ?_
    refine og_put dX4_rotate_61 kfX4_36 hy1 rfl rfl ?_
    generalize hV6 : ob_set (ob_set (ob_set V3 y (ob_sl d) (.ref x)) x 5 (.ref y)) y 7 (.int (nI (ob_siz A + (ob_siz Bt + ob_siz C + 1) + 1))) = V6
    have v6x : ∀ j, j ≠ 5 → V6 x j = V2 x j := fun j hj => by rw [← hV6]; simp [ob_set, hxy, hj, v3x]
    have v6 : ∀ b j, b ≠ x → b ≠ y → V6 b j = V3 b j := fun b j h1 h2 => by rw [← hV6]; simp [ob_set, h1, h2]
    have v6s : V6 x (ob_sl d) = .ref (ob_top nl A) := by rw [v6x _ (by omega), v2x _ sn, x1]
    have v6u : V6 x (ob_sl (!d)) = .ref (ob_top nl Bt) := by rw [v6x _ (by omega), hV2]; simp [Ne.symm hBx, ob_set]
    have szA : V6 (ob_top nl A) 7 = .int (nI (ob_siz A)) := by
      rw [v6 _ _ hAx hAy]
      have e1 : V3 (ob_top nl A) 7 = V2 (ob_top nl A) 7 := by
        rw [← hV3]
        cases z with
        | nil => simp [ob_rep, ob_set, hAt]
        | cons f z => obtain ⟨d', a, c, b9, q⟩ := f; cases d' <;> simp [ob_rep, ob_set, ob_sl]
      rw [e1, hV2]
      have e2 : (7 : Nat) ≠ ob_sl (!d) := by omega
      simp [ob_set, e2, hA2]
    have szB : V6 (ob_top nl Bt) 7 = .int (nI (ob_siz Bt)) := by
      rw [v6 _ _ hBx hBy]
      have e1 : V3 (ob_top nl Bt) 7 = V2 (ob_top nl Bt) 7 := by
        rw [← hV3]
        cases z with
        | nil => simp [ob_rep, ob_set, hBt]
        | cons f z => obtain ⟨d', a, c, b9, q⟩ := f; cases d' <;> simp [ob_rep, ob_set, ob_sl]
      rw [e1, v2B 7 (by decide), hB2]
    have fin : ob_G X mX4_rotate (ob_rm 2 0 0) (fun r w' => r = .inl none ∧ ∃ V', w' = (T, V', B, J) ∧ ob_zt T V' t nl z (ob_mkn d qy y cy (ob_mkn d qx x cx A Bt) C) ∧ ob_fr t (ob_zads z ++ ob_ads (ob_mkn d qx x cx A (ob_mkn d qy y cy Bt C))) V V') 85 [(0, .ref t), (1, .ref x), (2, .int (ob_sd d)), (3, .ref y), (4, .ref (ob_top nl Bt))] [] (T, ob_set V6 x 7 (.int (nI (ob_siz A + ob_siz Bt + 1))), B, J) 0 0 := by
      refine og_return rfl dX4_rotate_85 (by decide) (by decide) ⟨rfl, _, rfl, ?_, ?_⟩
      · generalize hV7 : ob_set V6 x 7 (.int (nI (ob_siz A + ob_siz Bt + 1))) = V7
        have v7 : ∀ b j, b ≠ x → V7 b j = V6 b j := fun b j h1 => by rw [← hV7]; simp [ob_set, h1]
        have v7x : ∀ j, j ≠ 7 → V7 x j = V6 x j := fun j h1 => by rw [← hV7]; simp [ob_set, h1]
        -- a cell that is none of the five
        have far : ∀ b j, b ≠ x → b ≠ y → b ≠ t → b ≠ ob_top nl Bt → b ≠ ob_zp nl z → V7 b j = V b j := fun b j h1 h2 h3 h4 h5 => by
          rw [v7 b j h1, v6 b j h1 h2, v3 b j h3 h2 h5, v2 b j h4 h1]
        have nilf : ∀ j, j ≠ 5 → V7 nl j = V nl j := by
          intro j hj
          rw [v7 nl j hx.2.symm, v6 nl j hx.2.symm hy.2.symm]
          have e1 : V3 nl j = V2 nl j := by
            rw [← hV3]
            cases z with
            | nil => simp [ob_rep, ob_set, hnt, hj, hy.2.symm]
            | cons f z =>
              obtain ⟨d', a, c, b9, q⟩ := f
              have : nl ≠ a := (hTz a (by simp [ob_zads])).2.symm
              simp [ob_rep, ob_set, this, hj]
          rw [e1, hV2]
          have : ¬ (ob_top nl Bt ≠ nl ∧ nl = ob_top nl Bt ∧ j = 5) := fun h9 => hj h9.2.2
          rw [if_neg this]
          simp [ob_set, hx.2.symm]
        have hn7 : ob_nil T V7 nl := ⟨hn.1, by rw [nilf 3 (by decide)]; exact hn.2.1, by rw [nilf 4 (by decide)]; exact hn.2.2.1, by rw [nilf 6 (by decide)]; exact hn.2.2.2.1, by rw [nilf 7 (by decide)]; exact hn.2.2.2.2⟩
        have tA7 : ob_tm V7 nl A x := ob_tm_congr (fun b hb j _ _ => far b j (fun e => nxA (by rw [← e]; exact hb)) (fun e => hyA (by rw [← e]; exact hb)) (hT2 b (hTA b hb).1) (fun e => by
          cases Bt with
          | leaf => exact (hTA b hb).2 e
          | inner q9 a9 c9 l9 r9 => exact nA2 b hb (Or.inr (Or.inl (by rw [e]; simp [ob_ads, ob_top])))) (fun e => by
          cases z with
          | nil => exact (hTA b hb).2 e
          | cons f z => obtain ⟨d', a, c, b9, q⟩ := f; exact nzz a (by simp [ob_zads]) b (Or.inr (Or.inl hb)) e.symm)) tA
        have tC7 : ob_tm V7 nl C y := ob_tm_congr (fun b hb j _ _ => far b j (fun e => hxC (by rw [← e]; exact hb)) (fun e => nyC (by rw [← e]; exact hb)) (hT2 b (hTC b hb).1) (fun e => by
          cases Bt with
          | leaf => exact (hTC b hb).2 e
          | inner q9 a9 c9 l9 r9 => exact nBC b (by rw [e]; simp [ob_ads, ob_top]) hb) (fun e => by
          cases z with
          | nil => exact (hTC b hb).2 e
          | cons f z => obtain ⟨d', a, c, b9, q⟩ := f; exact nzz a (by simp [ob_zads]) b (Or.inr (Or.inr (Or.inr (Or.inr hb)))) e.symm)) tC
        have tB7 : ob_tm V7 nl Bt x := by
          cases hBe : Bt with
          | leaf => trivial
          | inner q9 a9 c9 l9 r9 =>
            subst hBe
            obtain ⟨g3, g4, g5, g6, g7, gl, gr⟩ := tB
            have ha9 : a9 ∈ ob_ads (.inner q9 a9 c9 l9 r9 : ob_t) := by simp [ob_ads]
            have hz9 : a9 ≠ ob_zp nl z := by
              cases z with
              | nil => exact (hTB a9 ha9).2
              | cons f z => obtain ⟨d', a, c, b9, q⟩ := f; exact fun e => nzz a (by simp [ob_zads]) a9 (Or.inr (Or.inr (Or.inr (Or.inl ha9)))) e.symm
            have a7 : ∀ j, V7 a9 j = V2 a9 j := fun j => by rw [v7 a9 j hBx, v6 a9 j hBx hBy, v3 a9 j hBt hBy hz9]
            have a7' : ∀ j, j ≠ 5 → V7 a9 j = V a9 j := fun j hj => by rw [a7]; exact v2B j hj
            have a75 : V7 a9 5 = .ref x := by rw [a7, hV2]; simp [ob_top, (hTB a9 ha9).2]
            have sub9 : ∀ b, b ∈ ob_ads l9 ∨ b ∈ ob_ads r9 → ∀ j, V7 b j = V b j := by
              intro b hb j
              have hbB : b ∈ ob_ads (.inner q9 a9 c9 l9 r9 : ob_t) := by simp only [ob_ads, List.mem_append, List.mem_cons]; rcases hb with h | h <;> simp [h]
              refine far b j (fun e => hxB (by rw [← e]; exact hbB)) (fun e => nyB (by rw [← e]; exact hbB)) (hT2 b (hTB b hbB).1) (fun e => ?_) (fun e => ?_)
              · have e : b = a9 := e
                subst e
                simp only [ob_ads, List.nodup_append, List.nodup_cons] at nB
                rcases hb with h | h
                · exact nB.2.2 b h b List.mem_cons_self rfl
                · exact nB.2.1.1 h
              · cases z with
                | nil => exact (hTB b hbB).2 e
                | cons f z => obtain ⟨d', a, c, b9, q⟩ := f; exact nzz a (by simp [ob_zads]) b (Or.inr (Or.inr (Or.inr (Or.inl hbB)))) e.symm
            exact ⟨by rw [a7' 3 (by decide)]; exact g3, by rw [a7' 4 (by decide)]; exact g4, a75, by rw [a7' 6 (by decide)]; exact g6, by rw [a7' 7 (by decide)]; exact g7, ob_tm_congr (fun b hb j _ _ => sub9 b (Or.inl hb) j) gl, ob_tm_congr (fun b hb j _ _ => sub9 b (Or.inr hb) j) gr⟩
        have y7f : ∀ j, j ≠ ob_sl d → j ≠ 5 → j ≠ 7 → V7 y j = V y j := fun j h1 h2 h3 => by
          rw [v7 y j (Ne.symm hxy), ← hV6]
          simp [ob_set, h1, h2, h3, Ne.symm hxy, v3y j h2]
        have y7d : V7 y (ob_sl d) = .ref x := by
          rw [v7 y _ (Ne.symm hxy), ← hV6]
          have : ob_sl d ≠ 7 := by omega
          simp [ob_set, this, Ne.symm hxy]
        have y75 : V7 y 5 = .ref (ob_zp nl z) := by
          rw [v7 y _ (Ne.symm hxy), ← hV6]
          have : (5 : Nat) ≠ ob_sl d := by omega
          simp [ob_set, this, Ne.symm hxy, v3y5]
        have y77 : V7 y 7 = .int (nI (ob_siz A + (ob_siz Bt + ob_siz C + 1) + 1)) := by
          rw [v7 y _ (Ne.symm hxy), ← hV6]
          simp [ob_set]
        have x75 : V7 x 5 = .ref y := by
          rw [v7x 5 (by decide), ← hV6]
          simp [ob_set, hxy]
        have x7s : V7 x (ob_sl d) = .ref (ob_top nl A) := by rw [v7x _ (by omega)]; exact v6s
        have x7u : V7 x (ob_sl (!d)) = .ref (ob_top nl Bt) := by rw [v7x _ (by omega)]; exact v6u
        have x76 : V7 x 6 = ob_cv cx := by rw [v7x 6 (by decide), v6x 6 (by decide), v2x 6 (by omega)]; exact x6
        have x77 : V7 x 7 = .int (nI (ob_siz A + ob_siz Bt + 1)) := by rw [← hV7]; simp [ob_set]
        have tx7 : ob_tm V7 nl (ob_mkn d qx x cx A Bt) y := (ob_tm_mk d).mpr ⟨x7s, x7u, x75, x76, x77, tA7, tB7⟩
        have ty7 : ob_tm V7 nl (ob_mkn d qy y cy (ob_mkn d qx x cx A Bt) C) (ob_zp nl z) := (ob_tm_mk d).mpr ⟨by rw [ob_top_mk]; exact y7d, by rw [y7f _ (Ne.symm sn) (by omega) (by omega)]; exact y2, y75, by rw [y7f 6 (by omega) (by decide) (by decide)]; exact y6, by rw [ob_siz_mk, y77]; congr 2; omega, tx7, tC7⟩
        have hz7 : ob_zm V7 nl z y (ob_siz A + (ob_siz Bt + ob_siz C + 1) + 1) := by
          refine ob_zm_hole hz nz ?_ ?_
          · cases z with
            | nil => trivial
            | cons f z =>
              obtain ⟨d', a, c, b9, q⟩ := f
              obtain ⟨a1, a2, a3, a4⟩ := hzn a (by simp [ob_zads])
              have e1 : ∀ j, V7 a j = V3 a j := fun j => by rw [v7 a j a1, v6 a j a1 a2]
              refine ⟨?_, fun j hj => ?_⟩
              · rw [e1, ← hV3]; simp [ob_rep, ob_set, a2]
              · rw [e1, ← hV3, ← v2 a j a3 a1]; simp [ob_rep, ob_set, hj, a2]
          · intro b hb hbz j
            obtain ⟨a1, a2, a3, a4⟩ := hzn b hb
            exact far b j a1 a2 a4 a3 hbz
        have hr7 : V7 t 2 = .ref (ob_top nl (ob_plug z (ob_mkn d qy y cy (ob_mkn d qx x cx A Bt) C))) := by
          rw [v7 t 2 (Ne.symm hxt), v6 t 2 (Ne.symm hxt) (Ne.symm hyt), ← hV3]
          cases z with
          | nil => simp [ob_rep, ob_set, ob_plug, ob_top_mk, Ne.symm hyt]
          | cons f z =>
            obtain ⟨d', a, c, b9, q⟩ := f
            have e9 : t ≠ a := Ne.symm hzp.2.2.2
            simp only [ob_rep, ob_set]
            rw [if_neg (by simp [Ne.symm hyt]), if_neg (by simp [e9]), v2 t 2 (Ne.symm hBt) (Ne.symm hxt), hroot]
            congr 1
            exact ob_top_plug nl _ _ _ (by simp)
        have ht17 : V7 t 1 = .ref nl := by rw [v7 t 1 (Ne.symm hxt), v6 t 1 (Ne.symm hxt) (Ne.symm hyt)]; exact v3t1
        refine ⟨ht, ht17, hr7, hn7, by rw [ob_top_mk, ob_siz_mk, ob_siz_mk]; rw [show ob_siz A + ob_siz Bt + 1 + ob_siz C + 1 = ob_siz A + (ob_siz Bt + ob_siz C + 1) + 1 by omega]; exact hz7, ty7, ?_, ?_⟩
        · intro b hb
          refine hTa b ?_
          simp only [List.mem_append, ob_mem_mk] at hb ⊢
          grind
        · simp only [List.nodup_append, ob_nd_mk, ob_mem_mk] at hnd ⊢
          grind
      · have inx : x ∈ ob_zads z ++ ob_ads (ob_mkn d qx x cx A (ob_mkn d qy y cy Bt C)) := by simp [ob_mem_mk]
        have iny : y ∈ ob_zads z ++ ob_ads (ob_mkn d qx x cx A (ob_mkn d qy y cy Bt C)) := by simp [ob_mem_mk]
        generalize hAA : ob_zads z ++ ob_ads (ob_mkn d qx x cx A (ob_mkn d qy y cy Bt C)) = AA at inx iny ⊢
        have f2 : ob_fr t AA V V2 := by
          intro b j hb
          rw [hV2]
          by_cases h9 : ob_top nl Bt ≠ nl ∧ b = ob_top nl Bt ∧ j = 5
          · exfalso
            refine hb (Or.inr ⟨?_, by omega, by omega⟩)
            rw [← hAA, h9.2.1]
            cases Bt with
            | leaf => exact absurd rfl h9.1
            | inner q9 a9 c9 l9 r9 => simp [ob_mem_mk, ob_top, ob_ads]
          · rw [if_neg h9]
            exact (ob_fr.rf (t := t) (A := AA) (V := V)).set inx (by omega) b j hb
        have f3 : ob_fr t AA V V3 := by
          rw [← hV3]
          cases z with
          | nil => exact f2.root.set iny (by omega)
          | cons f z =>
            obtain ⟨d', a, c, b9, q⟩ := f
            have sr9 := ob_sl_rg d'
            exact (f2.set (by rw [← hAA]; simp [ob_zads]) (by omega)).set iny (by omega)
        rw [← hV6]
        exact (((f3.set iny (by omega)).set inx (by omega)).set iny (by omega)).set inx (by omega)
    cases d with
    | false =>
      have v6s : V6 x 4 = .ref (ob_top nl A) := v6s
      have v6u : V6 x 3 = .ref (ob_top nl Bt) := v6u
      refine og_aload_n dX4_rotate_64 rfl rfl ?_
      refine og_aload_n dX4_rotate_65 rfl rfl ?_
      refine og_getf dX4_rotate_66 kfX4_24 (by assumption) (by assumption) ?_
      refine og_getf dX4_rotate_69 kfX4_36 (by assumption) (by assumption) ?_
      refine og_aload_n dX4_rotate_72 rfl rfl ?_
      refine og_getf dX4_rotate_73 kfX4_27 (by assumption) (by assumption) ?_
      refine og_getf dX4_rotate_76 kfX4_36 (by assumption) (by assumption) ?_
      refine og_iadd dX4_rotate_79 ?_
      refine og_iconst (v := 1) dX4_rotate_80 (by decide) ?_
      refine og_iadd dX4_rotate_81 ?_
      refine og_put dX4_rotate_82 kfX4_36 (by assumption) rfl rfl ?_
      refine og_w (T, ob_set V6 x 7 (.int (nI (ob_siz A + ob_siz Bt + 1))), B, J) (by rw [nI_add, nI_1, Nat.add_comm (ob_siz Bt) (ob_siz A)]) ?_
      exact fin
    | true =>
      have v6s : V6 x 3 = .ref (ob_top nl A) := v6s
      have v6u : V6 x 4 = .ref (ob_top nl Bt) := v6u
      refine og_aload_n dX4_rotate_64 rfl rfl ?_
      refine og_aload_n dX4_rotate_65 rfl rfl ?_
      refine og_getf dX4_rotate_66 kfX4_24 (by assumption) (by assumption) ?_
      refine og_getf dX4_rotate_69 kfX4_36 (by assumption) (by assumption) ?_
      refine og_aload_n dX4_rotate_72 rfl rfl ?_
      refine og_getf dX4_rotate_73 kfX4_27 (by assumption) (by assumption) ?_
      refine og_getf dX4_rotate_76 kfX4_36 (by assumption) (by assumption) ?_
      refine og_iadd dX4_rotate_79 ?_
      refine og_iconst (v := 1) dX4_rotate_80 (by decide) ?_
      refine og_iadd dX4_rotate_81 ?_
      refine og_put dX4_rotate_82 kfX4_36 (by assumption) rfl rfl ?_
      refine og_w (T, ob_set V6 x 7 (.int (nI (ob_siz A + ob_siz Bt + 1))), B, J) (by rw [nI_add, nI_1]) ?_
      exact fin
  have hnl1 : ob_set V x (ob_sl (!d)) (.ref (ob_top nl Bt)) t 1 = .ref nl := by simp [ob_set, Ne.symm hxt, hnl]
  refine og_aload dX4_rotate_24 rfl rfl ?_
  refine og_aload_n dX4_rotate_26 rfl rfl ?_
  refine og_getf dX4_rotate_27 kfX4_20 (by assumption) (by assumption) ?_
  refine og_acmp_eq (tgt := 39) dX4_rotate_30 (by decide) (fun hc => ?_) (fun hc => ?_)
  · refine rest _ (fun b j => ?_)
    rw [if_neg]
    rintro ⟨h9, -⟩
    exact h9 hc
  · refine og_aload dX4_rotate_33 rfl rfl ?_
    refine og_aload_n dX4_rotate_35 rfl rfl ?_
    refine og_put dX4_rotate_36 kfX4_30 (by assumption) rfl rfl ?_
    refine rest _ (fun b j => ?_)
    by_cases h9 : b = ob_top nl Bt ∧ j = 5
    · rw [if_pos ⟨hc, h9⟩]
      exact if_pos h9
    · rw [if_neg (fun q => h9 q.2)]
      exact if_neg h9
end OBQ
