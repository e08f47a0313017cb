/-! least, takeOver, unlink -/
theorem ob_plug_app : ∀ (z1 z2 : List ob_f) (t : ob_t), ob_plug (z1 ++ z2) t = ob_plug z2 (ob_plug z1 t)
  | [], _, _ => rfl
  | (d, a, c, b, q) :: z1, z2, t => by
    rw [List.cons_append, ob_plug_mk, ob_plug_mk]
    exact ob_plug_app z1 z2 _
theorem ob_zk_addr : ∀ (z1 z2 : List ob_f) (d : Bool) (a a' : Nat) (c : Bool) (b : ob_t) (q q' m : Nat), ob_zk (z1 ++ (d, a, c, b, q) :: z2) m → ob_zk (z1 ++ (d, a', c, b, q') :: z2) m
  | [], z2, d, a, a', c, b, q, q', m, h => by cases c <;> exact h
  | (d1, a1, true, b1, q1) :: z1, z2, d, a, a', c, b, q, q', m, h => by
    obtain ⟨h1, h2, h3, h4⟩ := h
    refine ⟨h1, h2, ?_, ob_zk_addr z1 z2 d a a' c b q q' m h4⟩
    cases z1 with
    | nil => cases c <;> exact h3
    | cons f z1 => obtain ⟨d2, a2, c2, b2, q2⟩ := f; cases c2 <;> exact h3
  | (d1, a1, false, b1, q1) :: z1, z2, d, a, a', c, b, q, q', m, h => ⟨h.1, ob_zk_addr z1 z2 d a a' c b q q' (m + 1) h.2⟩
theorem ob_zr9_addr (z1 z2 : List ob_f) (d : Bool) (a a' : Nat) (c : Bool) (b : ob_t) (q q' : Nat) (h : ob_zr9 (z1 ++ (d, a', c, b, q') :: z2)) : ob_zr9 (z1 ++ (d, a, c, b, q) :: z2) := by
  cases z1 with
  | nil => cases c <;> exact h
  | cons f z1 => obtain ⟨d2, a2, c2, b2, q2⟩ := f; cases c2 <;> exact h
/-- a child's parent is said -/
theorem ob_zt.down_app {T : ob_T} {V : ob_V} {t nl : Nat} : ∀ (zz : List ob_f) {z : List ob_f} {tt : ob_t}, ob_zt T V t nl z (ob_plug zz tt) → ob_zt T V t nl (zz ++ z) tt
  | [], z, tt, h => h
  | (d, a, c, b, q) :: zz, z, tt, h => by
    rw [ob_plug_mk] at h
    exact (ob_zt.down_app zz h).down d
section OBU
variable {X : ob_X} {T : ob_T} {B : ob_B} {J : ob_J} {R : Room} {k n : Nat}
def ob_leasted (tt : ob_t) (w : ob_w) : ob_r → ob_w → Prop := fun r w' => w' = w ∧ ∃ zz qy y cy ry, tt = ob_plug zz (.inner qy y cy .leaf ry) ∧ ob_zl zz = [] ∧ r = .inl (some (.ref y))
theorem least_loop {V : ob_V} {t nl : Nat} {t0 : ob_t} (ht : T t = some (4, 0)) (hnl : V t 1 = .ref nl) (hk : k ≤ R.cells) (hs : n ≤ R.slots) : ∀ (tt : ob_t) (z : List ob_f) (p : Nat), tt ≠ .leaf → ob_sub T V nl tt p → t0 = ob_plug z tt → ob_zl z = [] → ob_G X mX4_least R (ob_leasted t0 (T, V, B, J)) 2 [(0, .ref t), (2, .ref (ob_top nl tt))] [] (T, V, B, J) k n := by
  intro tt
  induction tt with
  | leaf => intro z p h; exact absurd rfl h
  | inner q a c l r ihl ihr =>
    intro z p _ h e0 hz
    obtain ⟨a1, a2⟩ := h.a
    have a3 := h.1.1
    refine og_aload_n dX4_least_2 rfl rfl ?_
    refine og_getf dX4_least_3 kfX4_24 (by assumption) (by assumption) ?_
    refine og_aload_n dX4_least_6 rfl rfl ?_
    refine og_getf dX4_least_7 kfX4_20 (by assumption) (by assumption) ?_
    refine og_acmp_eq (tgt := 21) dX4_least_10 (by decide) (fun hc => ?_) (fun hc => ?_)
    · have hl : l = .leaf := (ob_top_eq h.l).mp hc
      subst hl
      refine og_aload_n dX4_least_21 rfl rfl ?_
      exact og_areturn rfl (Or.inl ⟨_, rfl⟩) (Or.inr ⟨_, rfl⟩) dX4_least_22 hk hs ⟨rfl, z, q, a, c, r, e0, hz, rfl⟩
    · have hl : l ≠ .leaf := fun e => hc ((ob_top_eq h.l).mpr e)
      refine og_aload_n dX4_least_13 rfl rfl ?_
      refine og_getf dX4_least_14 kfX4_24 (by assumption) (by assumption) ?_
      refine og_astore_n dX4_least_17 (by decide) rfl ?_
      refine og_goto (tgt := 2) dX4_least_18 (by decide) ?_
      refine og_lv [(0, .ref t), (2, .ref (ob_top nl l))] rfl ?_
      exact ihl ((true, a, c, r, q) :: z) a hl h.l e0 (by simp [ob_zl, hz])
theorem ct_least {V : ob_V} {t nl p : Nat} {tt : ob_t} (ht : T t = some (4, 0)) (hnl : V t 1 = .ref nl) (h : ob_sub T V nl tt p) (hl : tt ≠ .leaf) : ob_C X mX4_least 0 0 0 [.ref t, .ref (ob_top nl tt)] (T, V, B, J) (ob_leasted tt (T, V, B, J)) := by
  refine ob_C_of (by decide) rfl (Nat.le_of_ble_eq_true rfl) ?_
  refine og_aload_n dX4_least_0 rfl rfl ?_
  refine og_astore_n dX4_least_1 (by decide) rfl ?_
  refine og_lv [(0, .ref t), (2, .ref (ob_top nl tt))] rfl ?_
  exact least_loop ht hnl (Nat.le_refl _) (Nat.le_refl _) tt [] p hl h rfl rfl
/-- takeOver: y comes where g was -/
theorem ct_takeOver {V : ob_V} {t nl q g y : Nat} {c : Bool} {z : List ob_f} {l r : ob_t} (h : ob_zt T V t nl z (.inner q g c l r)) (hl : l ≠ .leaf) (hy : T y = some (2, 0)) (hyn : y ≠ nl) (hyz : y ∉ ob_zads z ++ ob_ads (.inner q g c l r)) : ob_C X mX4_takeOver 2 0 0 [.ref t, .ref y, .ref g] (T, V, B, J) (fun w0 w' => w0 = .inl none ∧ ∃ V', w' = (T, V', B, J) ∧ ob_zt T V' t nl z (.inner q y c l r) ∧ (r = .leaf → V' nl 5 = .ref y) ∧ (r ≠ .leaf → V' nl 5 = V nl 5) ∧ ob_fr t (nl :: y :: (ob_zads z ++ ob_ads (.inner q g c l r))) V V') := by
  refine ob_C_of (by decide) rfl (Nat.le_of_ble_eq_true rfl) ?_
  obtain ⟨ht, hnl, hroot, hn, hz, ⟨g3, g4, g5, g6, g7, tl, tr⟩, hTa, hnd⟩ := h
  have hg := hTa g (by simp [ob_ads])
  have hT2 : ∀ b, T b = some (2, 0) → b ≠ t := fun b hb e => by rw [e, ht] at hb; cases hb
  have hTz : ∀ b ∈ ob_zads z, T b = some (2, 0) ∧ b ≠ nl := fun b hb => hTa b (by simp [hb])
  have hTl : ∀ b ∈ ob_ads l, T b = some (2, 0) ∧ b ≠ nl := fun b hb => hTa b (by simp [ob_ads, hb])
  have hTr : ∀ b ∈ ob_ads r, T b = some (2, 0) ∧ b ≠ nl := fun b hb => hTa b (by simp [ob_ads, hb])
  have hnd2 := hnd
  simp only [ob_ads, List.nodup_append, List.nodup_cons, List.mem_append, List.mem_cons] at hnd2
  obtain ⟨nz, ⟨nl1, ⟨nr0, nr1⟩, nlr⟩, nzz⟩ := hnd2
  simp only [ob_ads, List.mem_append, List.mem_cons, not_or] at hyz
  obtain ⟨yz, yl, yg, yr⟩ := hyz
  obtain ⟨ql, al, cl, ll, rl, rfl⟩ : ∃ ql al cl ll rl, l = .inner ql al cl ll rl := by
    cases l with
    | leaf => exact absurd rfl hl
    | inner ql al cl ll rl => exact ⟨ql, al, cl, ll, rl, rfl⟩
  have hal : al ∈ ob_ads (.inner ql al cl ll rl : ob_t) := by simp [ob_ads]
  have hal1 := (hTl al hal).1
  have hyal : y ≠ al := fun e => yl (by rw [e]; exact hal)
  have gal : g ≠ al := fun e => nlr al hal g (Or.inl rfl) e.symm
  have hr1 : T (ob_top nl r) = some (2, 0) := by
    cases r with
    | leaf => exact hn.1
    | inner qr ar cr lr rr => exact (hTr ar (by simp [ob_ads])).1
  have hgt := hT2 g hg.1
  have hyt := hT2 y hy
  have halt := hT2 al hal1
  have hrt := hT2 _ hr1
  have hnt := hT2 _ hn.1
  have hg1 := hg.1
  have hry : ob_top nl r ≠ y := by
    cases r with
    | leaf => exact Ne.symm hyn
    | inner qr ar cr lr rr => exact fun e => yr (by rw [← e]; simp [ob_ads, ob_top])
  have hrg : ob_top nl r ≠ g := by
    cases r with
    | leaf => exact Ne.symm hg.2
    | inner qr ar cr lr rr => exact fun e => nr0 (by rw [← e]; simp [ob_ads, ob_top])
  have hral : ob_top nl r ≠ al := by
    cases r with
    | leaf => exact Ne.symm (hTl al hal).2
    | inner qr ar cr lr rr => exact fun e => nlr al hal ar (Or.inr (by simp [ob_ads])) e.symm
  have g3 : V g 3 = .ref al := g3
  have hhd : ob_hd T V nl g z := by
    cases z with
    | nil => trivial
    | cons f z =>
      obtain ⟨d', a, c', b, q'⟩ := f
      obtain ⟨b1, b2⟩ := hTz a (by simp [ob_zads])
      refine ⟨b1, b2, hz.1, fun _ e => ?_⟩
      cases b with
      | leaf => exact hg.2 e
      | inner q9 a9 c9 l9 r9 => exact nzz a9 (by simp [ob_zads, ob_ads]) g (Or.inr (Or.inl rfl)) e.symm
  have hzp : ob_zp nl z ≠ g ∧ ob_zp nl z ≠ y ∧ ob_zp nl z ≠ al ∧ ob_zp nl z ≠ t := by
    cases z with
    | nil => exact ⟨Ne.symm hg.2, Ne.symm hyn, Ne.symm (hTl al hal).2, hnt⟩
    | cons f z =>
      obtain ⟨d', a, c', b, q'⟩ := f
      have ha : a ∈ ob_zads ((d', a, c', b, q') :: z) := by simp [ob_zads]
      exact ⟨fun e => nzz a ha g (Or.inr (Or.inl rfl)) e, fun e => yz (by rw [← e]; exact ha), fun e => nzz a ha al (Or.inl hal) e, hT2 a (hTz a ha).1⟩
  refine og_lv [(0, .ref t), (1, .ref y), (2, .ref g)] rfl ?_
  refine og_aload_n dX4_takeOver_0 rfl rfl ?_
  refine og_aload_n dX4_takeOver_1 rfl rfl ?_
  refine og_aload_n dX4_takeOver_2 rfl rfl ?_
  refine og_callVe dX4_takeOver_3 kvX4_77 (ct_replace (z := z) ht hnl hg.1 g5 hy hhd) rfl ht rfl rfl ⟨by decide, by decide⟩ (by decide) (by decide) (Nat.le_of_ble_eq_true rfl) rfl ?_
  generalize hV1 : ob_rep V t nl z y = V1
  have v1 : ∀ b j, b ≠ t → b ≠ y → b ≠ ob_zp nl z → V1 b j = V b j := by
    intro b j h1 h2 h3
    rw [← hV1]
    cases z with
    | nil => simp [ob_rep, ob_set, h1, h2]
    | cons f z => obtain ⟨d', a, c', b9, q'⟩ := f; simp [ob_rep, ob_set, h2, show b ≠ a from h3]
  have v1y5 : V1 y 5 = .ref (ob_zp nl z) := by
    rw [← hV1]
    cases z with
    | nil => simp [ob_rep, ob_set, ob_zp]
    | cons f z => obtain ⟨d', a, c', b9, q'⟩ := f; simp [ob_rep, ob_set, ob_zp]
  have v1g : ∀ j, V1 g j = V g j := fun j => v1 g j hgt (Ne.symm yg) (Ne.symm hzp.1)
  have k3 : V1 g 3 = .ref al := by rw [v1g]; exact g3
  refine og_aload_n dX4_takeOver_6 rfl rfl ?_
  refine og_aload_n dX4_takeOver_7 rfl rfl ?_
  refine og_getf dX4_takeOver_8 kfX4_24 (by assumption) (by assumption) ?_
  refine og_put dX4_takeOver_11 kfX4_24 hy rfl rfl ?_
  refine og_aload_n dX4_takeOver_14 rfl rfl ?_
  refine og_getf dX4_takeOver_15 kfX4_24 hy (ob_set_s _ _ _ _) ?_
  refine og_aload_n dX4_takeOver_18 rfl rfl ?_
  refine og_put dX4_takeOver_19 kfX4_30 hal1 rfl rfl ?_
  have k4 : ob_set (ob_set V1 y 3 (.ref al)) al 5 (.ref y) g 4 = .ref (ob_top nl r) := by simp [ob_set, gal, Ne.symm yg, v1g, g4]
  refine og_aload_n dX4_takeOver_22 rfl rfl ?_
  refine og_aload_n dX4_takeOver_23 rfl rfl ?_
  refine og_getf dX4_takeOver_24 kfX4_27 (by assumption) (k4) ?_
  refine og_put dX4_takeOver_27 kfX4_27 hy rfl rfl ?_
  refine og_aload_n dX4_takeOver_30 rfl rfl ?_
  refine og_getf dX4_takeOver_31 kfX4_27 hy (ob_set_s _ _ _ _) ?_
  refine og_aload_n dX4_takeOver_34 rfl rfl ?_
  refine og_put dX4_takeOver_35 kfX4_30 hr1 rfl rfl ?_
  have k6 : ob_set (ob_set (ob_set (ob_set V1 y 3 (.ref al)) al 5 (.ref y)) y 4 (.ref (ob_top nl r))) (ob_top nl r) 5 (.ref y) g 6 = ob_cv c := by simp [ob_set, gal, Ne.symm yg, v1g, g6]
  refine og_aload_n dX4_takeOver_38 rfl rfl ?_
  refine og_aload_n dX4_takeOver_39 rfl rfl ?_
  refine og_getf dX4_takeOver_40 kfX4_61 (by assumption) (k6) ?_
  refine og_put dX4_takeOver_43 kfX4_61 hy (by cases c <;> rfl) (by cases c <;> rfl) ?_
  have k7 : ob_set (ob_set (ob_set (ob_set (ob_set V1 y 3 (.ref al)) al 5 (.ref y)) y 4 (.ref (ob_top nl r))) (ob_top nl r) 5 (.ref y)) y 6 (ob_cv c) g 7 = .int (nI (ob_siz (.inner ql al cl ll rl) + ob_siz r + 1)) := by simp [ob_set, Ne.symm yg, v1g, g7]
  refine og_aload_n dX4_takeOver_46 rfl rfl ?_
  refine og_aload_n dX4_takeOver_47 rfl rfl ?_
  refine og_getf dX4_takeOver_48 kfX4_36 (by assumption) (k7) ?_
  refine og_put dX4_takeOver_51 kfX4_36 hy rfl rfl ?_
  generalize hV7 : ob_set (ob_set (ob_set (ob_set (ob_set (ob_set V1 y 3 (.ref al)) al 5 (.ref y)) y 4 (.ref (ob_top nl r))) (ob_top nl r) 5 (.ref y)) y 6 (ob_cv c)) y 7 (.int (nI (ob_siz (.inner ql al cl ll rl) + ob_siz r + 1))) = V7
  have far : ∀ b j, b ≠ t → b ≠ y → b ≠ ob_zp nl z → b ≠ al → b ≠ ob_top nl r → V7 b j = V b j := fun b j h1 h2 h3 h4 h5 => by
    rw [← v1 b j h1 h2 h3, ← hV7]; simp [ob_set, h2, h4, h5]
  have y3 : V7 y 3 = .ref al := by rw [← hV7]; simp [ob_set, hyal]
  have y4 : V7 y 4 = .ref (ob_top nl r) := by rw [← hV7]; simp [ob_set, hyal, Ne.symm hry]
  have y5 : V7 y 5 = .ref (ob_zp nl z) := by rw [← hV7]; simp [ob_set, hyal, Ne.symm hry, v1y5]
  have y6 : V7 y 6 = ob_cv c := by rw [← hV7]; simp [ob_set]
  have y7 : V7 y 7 = .int (nI (ob_siz (.inner ql al cl ll rl) + ob_siz r + 1)) := by rw [← hV7]; simp [ob_set]
  have al5 : V7 al 5 = .ref y := by rw [← hV7]; simp [ob_set, Ne.symm hyal]
  have al' : ∀ j, j ≠ 5 → V7 al j = V al j := fun j hj => by
    rw [← v1 al j halt (Ne.symm hyal) (Ne.symm hzp.2.2.1), ← hV7]; simp [ob_set, Ne.symm hyal, hj]
  have r5 : V7 (ob_top nl r) 5 = .ref y := by rw [← hV7]; simp [ob_set, hry]
  have r7 : ∀ j, j ≠ 5 → V7 (ob_top nl r) j = V1 (ob_top nl r) j := fun j hj => by rw [← hV7]; simp [ob_set, hry, hj]
  have t7 : ∀ j, V7 t j = V1 t j := fun j => by rw [← hV7]; simp [ob_set, Ne.symm hyt, Ne.symm halt, Ne.symm hrt]
  have sub7 : ∀ (tt : ob_t) (p9 : Nat), (∀ b ∈ ob_ads tt, b ≠ t ∧ b ≠ y ∧ b ≠ ob_zp nl z ∧ b ≠ al ∧ b ≠ ob_top nl r) → ob_tm V nl tt p9 → ob_tm V7 nl tt p9 := fun tt p9 h9 => ob_tm_congr (fun b hb j _ _ => by obtain ⟨h1, h2, h3, h4, h5⟩ := h9 b hb; exact far b j h1 h2 h3 h4 h5)
  have hzpl : ∀ b, b ∈ ob_ads (.inner ql al cl ll rl : ob_t) → b ≠ ob_zp nl z := by
    intro b hb e
    cases z with
    | nil => exact (hTl b hb).2 e
    | cons f z => obtain ⟨d', a, c', b9, q'⟩ := f; exact nzz a (by simp [ob_zads]) b (Or.inl hb) e.symm
  have hzpr : ∀ b, b ∈ ob_ads r → b ≠ ob_zp nl z := by
    intro b hb e
    cases z with
    | nil => exact (hTr b hb).2 e
    | cons f z => obtain ⟨d', a, c', b9, q'⟩ := f; exact nzz a (by simp [ob_zads]) b (Or.inr (Or.inr hb)) e.symm
  have hrl : ∀ b, b ∈ ob_ads (.inner ql al cl ll rl : ob_t) → b ≠ ob_top nl r := by
    intro b hb e
    cases r with
    | leaf => exact (hTl b hb).2 e
    | inner qr ar cr lr rr => exact nlr b hb ar (Or.inr (by simp [ob_ads])) e
  have nll := nl1
  simp only [ob_ads, List.nodup_append, List.nodup_cons] at nll
  have tl7 : ob_tm V7 nl (.inner ql al cl ll rl) y := by
    obtain ⟨e3, e4, e5, e6, e7, el, er⟩ := tl
    have inn : ∀ b, b ∈ ob_ads ll ∨ b ∈ ob_ads rl → b ∈ ob_ads (.inner ql al cl ll rl : ob_t) := fun b hb => by simp only [ob_ads, List.mem_append, List.mem_cons]; rcases hb with h | h <;> simp [h]
    have ok : ∀ b, b ∈ ob_ads ll ∨ b ∈ ob_ads rl → b ≠ t ∧ b ≠ y ∧ b ≠ ob_zp nl z ∧ b ≠ al ∧ b ≠ ob_top nl r := fun b hb => ⟨hT2 b (hTl b (inn b hb)).1, fun e => yl (by rw [← e]; exact inn b hb), hzpl b (inn b hb), fun e => by
      subst e
      rcases hb with h | h
      · exact nll.2.2 b h b List.mem_cons_self rfl
      · exact nll.2.1.1 h, hrl b (inn b hb)⟩
    exact ⟨by rw [al' 3 (by decide)]; exact e3, by rw [al' 4 (by decide)]; exact e4, al5, by rw [al' 6 (by decide)]; exact e6, by rw [al' 7 (by decide)]; exact e7, sub7 _ _ (fun b hb => ok b (Or.inl hb)) el, sub7 _ _ (fun b hb => ok b (Or.inr hb)) er⟩
  have tr7 : ob_tm V7 nl r y := by
    cases hre : r with
    | leaf => trivial
    | inner qr ar cr lr rr =>
      subst hre
      obtain ⟨e3, e4, e5, e6, e7, el, er⟩ := tr
      have har : ar ∈ ob_ads (.inner qr ar cr lr rr : ob_t) := by simp [ob_ads]
      have ar' : ∀ j, j ≠ 5 → V7 ar j = V ar j := fun j hj => by
        rw [← v1 ar j hrt hry (hzpr ar har)]; exact r7 j hj
      have ar5 : V7 ar 5 = .ref y := r5
      simp only [ob_ads, List.nodup_append, List.nodup_cons] at nr1
      have inn : ∀ b, b ∈ ob_ads lr ∨ b ∈ ob_ads rr → b ∈ ob_ads (.inner qr ar cr lr rr : ob_t) := fun b hb => by simp only [ob_ads, List.mem_append, List.mem_cons]; rcases hb with h | h <;> simp [h]
      have ok : ∀ b, b ∈ ob_ads lr ∨ b ∈ ob_ads rr → b ≠ t ∧ b ≠ y ∧ b ≠ ob_zp nl z ∧ b ≠ al ∧ b ≠ ob_top nl (.inner qr ar cr lr rr) := fun b hb => ⟨hT2 b (hTr b (inn b hb)).1, fun e => yr (by rw [← e]; exact inn b hb), hzpr b (inn b hb), fun e => nlr al hal b (Or.inr (inn b hb)) e.symm, fun e => by
        have e : b = ar := e
        subst e
        rcases hb with h | h
        · exact nr1.2.2 b h b List.mem_cons_self rfl
        · exact nr1.2.1.1 h⟩
      exact ⟨by rw [ar' 3 (by decide)]; exact e3, by rw [ar' 4 (by decide)]; exact e4, ar5, by rw [ar' 6 (by decide)]; exact e6, by rw [ar' 7 (by decide)]; exact e7, sub7 _ _ (fun b hb => ok b (Or.inl hb)) el, sub7 _ _ (fun b hb => ok b (Or.inr hb)) er⟩
  have hzn : ∀ b ∈ ob_zads z, b ≠ y ∧ b ≠ al ∧ b ≠ ob_top nl r ∧ b ≠ t := fun b hb => ⟨fun e => yz (by rw [← e]; exact hb), fun e => nzz b hb al (Or.inl hal) e, fun e => by
    cases r with
    | leaf => exact (hTz b hb).2 e
    | inner qr ar cr lr rr => exact nzz b hb ar (Or.inr (Or.inr (by simp [ob_ads]))) e, hT2 b (hTz b hb).1⟩
  have hz7 : ob_zm V7 nl z y (ob_siz (.inner q y c (.inner ql al cl ll rl) r)) := by
    refine ob_zm_hole (V := V) (x := g) hz nz ?_ ?_
    · cases z with
      | nil => trivial
      | cons f z =>
        obtain ⟨d', a, c', b9, q'⟩ := f
        obtain ⟨a1, a2, a3, a4⟩ := hzn a (by simp [ob_zads])
        have e1 : ∀ j, V7 a j = V1 a j := fun j => by rw [← hV7]; simp [ob_set, a1, a2, a3]
        refine ⟨?_, fun j hj => ?_⟩
        · rw [e1, ← hV1]; simp [ob_rep, ob_set, a1]
        · rw [e1, ← hV1]; simp [ob_rep, ob_set, hj, a1]
    · intro b hb hbz j
      obtain ⟨a1, a2, a3, a4⟩ := hzn b hb
      exact far b j a4 a1 hbz a2 a3
  have nilf : ∀ j, j ≠ 5 → V7 nl j = V nl j := by
    intro j hj
    have e1 : V1 nl j = V nl j := by
      rw [← hV1]
      cases z with
      | nil => simp [ob_rep, ob_set, hnt, hj]
      | cons f z =>
        obtain ⟨d', a, c', b9, q'⟩ := f
        have : nl ≠ a := (hTz a (by simp [ob_zads])).2.symm
        simp [ob_rep, ob_set, this, hj]
    rw [← e1, ← hV7]
    simp [ob_set, hj, Ne.symm hyn]
  have hnilV1 : V1 nl 5 = V nl 5 := by
    rw [← hV1]
    cases z with
    | nil => simp [ob_rep, ob_set, hnt, Ne.symm hyn]
    | cons f z =>
      obtain ⟨d', a, c', b9, q'⟩ := f
      have : nl ≠ a := (hTz a (by simp [ob_zads])).2.symm
      simp [ob_rep, ob_set, this, Ne.symm hyn]
  refine og_return rfl dX4_takeOver_54 (by decide) (by decide) ⟨rfl, V7, rfl, ⟨ht, ?_, ?_, ⟨hn.1, by rw [nilf 3 (by decide)]; exact hn.2.1, by rw [nilf 4 (by decide)]; exact hn.2.2.1, by rw [nilf 6 (by decide)]; exact hn.2.2.2.1, by rw [nilf 7 (by decide)]; exact hn.2.2.2.2⟩, hz7, ⟨y3, y4, y5, y6, y7, tl7, tr7⟩, ?_, ?_⟩, ?_, ?_, ?_⟩
  · rw [t7, ← hnl, ← hV1]
    cases z with
    | nil => simp [ob_rep, ob_set, Ne.symm hyt]
    | cons f z => obtain ⟨d', a, c', b9, q'⟩ := f; simp [ob_rep, ob_set, Ne.symm hyt, show t ≠ a from Ne.symm hzp.2.2.2]
  · rw [t7, ← hV1]
    cases z with
    | nil => simp [ob_rep, ob_set, ob_plug, ob_top, Ne.symm hyt]
    | cons f z =>
      obtain ⟨d', a, c', b9, q'⟩ := f
      have e9 : t ≠ a := Ne.symm hzp.2.2.2
      simp only [ob_rep, ob_set]
      rw [if_neg (by simp [Ne.symm hyt]), if_neg (by simp [e9]), hroot]
      congr 1
      exact ob_top_plug nl _ _ _ (by simp)
  · intro b hb
    simp only [List.mem_append, ob_ads, List.mem_cons] at hb
    have : b = y ∨ b ∈ ob_zads z ++ ob_ads (.inner q g c (.inner ql al cl ll rl) r) := by
      simp only [List.mem_append, ob_ads, List.mem_cons]; grind
    rcases this with rfl | h9
    · exact ⟨hy, hyn⟩
    · exact hTa b h9
  · simp only [ob_ads, List.nodup_append, List.nodup_cons, List.mem_append, List.mem_cons] at hnd ⊢
    simp only [ob_ads, List.mem_append, List.mem_cons] at yl
    grind
  · rintro rfl
    exact r5
  · intro hrl9
    have : nl ≠ ob_top nl r := by
      cases r with
      | leaf => exact absurd rfl hrl9
      | inner qr ar cr lr rr => exact Ne.symm (hTr ar (by simp [ob_ads])).2
    rw [← hnilV1, ← hV7]
    simp [ob_set, this, Ne.symm hyn, Ne.symm (hTl al hal).2]
  · have inA : ∀ b, b ∈ ob_zads z ++ ob_ads (.inner q g c (.inner ql al cl ll rl) r) → b ∈ nl :: y :: (ob_zads z ++ ob_ads (.inner q g c (.inner ql al cl ll rl) r)) := fun b hb => List.mem_cons_of_mem _ (List.mem_cons_of_mem _ hb)
    have iny : y ∈ nl :: y :: (ob_zads z ++ ob_ads (.inner q g c (.inner ql al cl ll rl) r)) := by simp
    have inal : al ∈ nl :: y :: (ob_zads z ++ ob_ads (.inner q g c (.inner ql al cl ll rl) r)) := inA al (by simp [ob_ads])
    have inr : ob_top nl r ∈ nl :: y :: (ob_zads z ++ ob_ads (.inner q g c (.inner ql al cl ll rl) r)) := by
      cases r with
      | leaf => simp [ob_top]
      | inner qr ar cr lr rr => exact inA ar (by simp [ob_ads])
    have f1 : ob_fr t (nl :: y :: (ob_zads z ++ ob_ads (.inner q g c (.inner ql al cl ll rl) r))) V V1 := by
      rw [← hV1]
      cases z with
      | nil => exact (ob_fr.rf.root).set iny (by omega)
      | cons f z =>
        obtain ⟨d', a, c', b9, q'⟩ := f
        have sr9 := ob_sl_rg d'
        exact (ob_fr.rf.set (inA a (by simp [ob_zads])) (by omega)).set iny (by omega)
    rw [← hV7]
    exact (((((f1.set iny (by omega)).set inal (by omega)).set iny (by omega)).set inr (by omega)).set iny (by omega)).set iny (by omega)
end OBU
