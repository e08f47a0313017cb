/-! unlink -/
section OBV
variable {X : ob_X} {T : ob_T} {B : ob_B} {J : ob_J} {R : Room} {k n : Nat} {Q : ob_r → ob_w → Prop}
/-- one less on the way up -/
theorem dec_loop {t nl g y : Nat} (ht : T t = some (4, 0)) : ∀ (z : List ob_f) (V : ob_V) (h m : Nat), V t 1 = .ref nl → ob_zm V nl z h (m + 1) → (∀ a ∈ ob_zads z, T a = some (2, 0) ∧ a ≠ nl) → (ob_zads z).Nodup →
    (∀ V', ob_zm V' nl z h m → (∀ b j, b ∉ ob_zads z ∨ j ≠ 7 → V' b j = V b j) → ob_G X mX4_unlink R Q 63 [(0, .ref t), (1, .ref g), (2, .ref y)] [] (T, V', B, J) k n) →
    ob_G X mX4_unlink R Q 37 [(0, .ref t), (1, .ref g), (2, .ref y), (3, .ref (ob_zp nl z))] [] (T, V, B, J) k n := by
  intro z
  induction z with
  | nil =>
    intro V h m hnl hz hTa hnd kk
    refine og_aload_n dX4_unlink_37 rfl rfl ?_
    refine og_aload_n dX4_unlink_38 rfl rfl ?_
    refine og_getf dX4_unlink_39 kfX4_20 (by assumption) (by assumption) ?_
    refine og_acmp_eq (tgt := 63) dX4_unlink_42 (by decide) (fun _ => ?_) (fun z9 => absurd (rfl) z9)
    refine og_lv [(0, .ref t), (1, .ref g), (2, .ref y)] rfl ?_
    exact kk V trivial (fun _ _ _ => rfl)
  | cons f z ih =>
    obtain ⟨d, a, c, b, q⟩ := f
    intro V h m hnl hz hTa hnd kk
    rw [ob_zm_cons] at hz
    obtain ⟨e1, e2, e3, e4, e5, e6, e7⟩ := hz
    obtain ⟨a1, a2⟩ := hTa a (by simp [ob_zads])
    have hat : a ≠ t := fun e => by rw [e, ht] at a1; cases a1
    simp only [ob_zads, List.nodup_cons, List.mem_append, not_or] at hnd
    obtain ⟨⟨n1, n2⟩, n3⟩ := hnd
    refine og_lv [(0, .ref t), (1, .ref g), (2, .ref y), (3, .ref a)] rfl ?_
    refine og_aload_n dX4_unlink_37 rfl rfl ?_
    refine og_aload_n dX4_unlink_38 rfl rfl ?_
    refine og_getf dX4_unlink_39 kfX4_20 (by assumption) (by assumption) ?_
    refine og_acmp_eq (tgt := 63) dX4_unlink_42 (by decide) (fun z9 => absurd z9 (a2)) (fun _ => ?_)
    refine og_aload_n dX4_unlink_45 rfl rfl ?_
    refine og_dup dX4_unlink_46 rfl ?_
    refine og_getf dX4_unlink_47 kfX4_36 (by assumption) (by assumption) ?_
    refine og_iconst (v := 1) dX4_unlink_50 (by decide) ?_
    refine og_isub dX4_unlink_51 ?_
    refine og_put dX4_unlink_52 kfX4_36 a1 rfl rfl ?_
    generalize hV1 : ob_set V a 7 (.int (nI (m + ob_siz b + 1))) = V1
    refine og_w (T, V1, B, J) (by rw [← hV1, show m + 1 + ob_siz b + 1 = (m + ob_siz b + 1) + 1 by omega, nI_pred]) ?_
    have far : ∀ x j, x ≠ a → V1 x j = V x j := fun x j hx => by rw [← hV1]; simp [ob_set, hx]
    have own : ∀ j, j ≠ 7 → V1 a j = V a j := fun j hj => by rw [← hV1]; simp [ob_set, hj]
    have o5 : V1 a 5 = .ref (ob_zp nl z) := by rw [own 5 (by decide)]; exact e3
    refine og_aload_n dX4_unlink_55 rfl rfl ?_
    refine og_getf dX4_unlink_56 kfX4_30 (by assumption) (by assumption) ?_
    refine og_astore_n dX4_unlink_59 (by decide) rfl ?_
    refine og_goto (tgt := 37) dX4_unlink_60 (by decide) ?_
    refine og_lv [(0, .ref t), (1, .ref g), (2, .ref y), (3, .ref (ob_zp nl z))] rfl ?_
    have hz1 : ob_zm V1 nl z a (m + ob_siz b + 1 + 1) := by
      rw [show m + ob_siz b + 1 + 1 = m + 1 + ob_siz b + 1 by omega]
      exact ob_zm_congr (fun x hx j _ _ => far x j (fun e => n2 (by rw [← e]; exact hx))) e7
    refine ih V1 a (m + ob_siz b + 1) (by rw [far t 1 (Ne.symm hat)]; exact hnl) hz1 (fun x hx => hTa x (by simp [ob_zads, hx])) (List.nodup_append.mp n3).2.1 (fun V' hz' hf' => ?_)
    have ha' : ∀ j, V' a j = V1 a j := fun j => hf' a j (Or.inl n2)
    have hb' : ob_tm V' nl b a := ob_tm_congr (fun x hx j _ _ => by
      have hxz : x ∉ ob_zads z := fun h9 => (List.nodup_append.mp n3).2.2 x hx x h9 rfl
      rw [hf' x j (Or.inl hxz), far x j (fun e => n1 (by rw [← e]; exact hx))]) e6
    have sr := ob_sl_rg d
    have sr' := ob_sl_rg (!d)
    refine kk V' (ob_zm_cons.mpr ⟨by rw [ha', own _ (by omega)]; exact e1, by rw [ha', own _ (by omega)]; exact e2, by rw [ha']; exact o5, by rw [ha', own 6 (by decide)]; exact e4, by rw [ha', ← hV1, ob_set_s], hb', hz'⟩) (fun x j hx => ?_)
    by_cases hxa : x = a
    · subst hxa
      rcases hx with hx | hx
      · exact absurd (by simp [ob_zads]) hx
      · rw [ha', own j hx]
    · rw [hf' x j (by
        rcases hx with hx | hx
        · exact Or.inl (fun h9 => hx (by simp [ob_zads, h9]))
        · exact Or.inr hx), far x j hxa]
/-- the end of unlink -/
def ob_unlinked (T : ob_T) (B : ob_B) (J : ob_J) (t nl g : Nat) (L : List Nat) (V : ob_V) : ob_r → ob_w → Prop := fun r w' => r = .inl none ∧ ∃ V' tt N L1 L2, w' = (T, V', B, J) ∧ ob_tr T V' t nl tt ∧ ob_rb tt N ∧ ob_red tt = false ∧ L = L1 ++ g :: L2 ∧ ob_ads tt = L1 ++ L2 ∧ ob_fr t (nl :: L) V V'
/-- the last steps -/
theorem unlink_end {V0 V : ob_V} {t nl g y m : Nat} {Z : List ob_f} {hh : ob_t} {L L1 L2 : List Nat} {bm : Bool} (hR : 5 ≤ R.frames ∧ 300 ≤ R.locals) (hk : k ≤ R.cells) (hs : n ≤ R.slots) (h : ob_zt T V t nl Z hh) (h5 : V (ob_top nl hh) 5 = .ref (ob_zp nl Z)) (hbm : (bm = true ∧ ob_zk Z (m + 1) ∧ ob_lack hh m) ∨ (bm = false ∧ ∃ N, ob_rb (ob_plug Z hh) N ∧ ob_red (ob_plug Z hh) = false)) (hlen : Z.length ≤ 60) (hL : L = L1 ++ g :: L2) (hads : ob_ads (ob_plug Z hh) = L1 ++ L2) (hfr : ob_fr t (nl :: L) V0 V) :
    ob_G X mX4_unlink R (ob_unlinked T B J t nl g L V0) 117 [(0, .ref t), (1, .ref g), (2, .ref y), (3, .ref (ob_top nl hh)), (4, ob_cv bm)] [] (T, V, B, J) k n := by
  have fin : ∀ (V1 : ob_V) (tt : ob_t) (N : Nat), ob_zt T V1 t nl [] tt → ob_rb tt N → ob_red tt = false → ob_ads tt = L1 ++ L2 → ob_fr t (nl :: L) V0 V1 → ob_G X mX4_unlink R (ob_unlinked T B J t nl g L V0) 127 [(0, .ref t)] [] (T, V1, B, J) k n := by
    intro V1 tt N hz1 hrb1 hred1 hads1 hfr1
    obtain ⟨ht, hnl, hroot, hn, -, htm, hTa, hnd⟩ := hz1
    have hn1 := hn.1
    have hnt : nl ≠ t := fun e => by rw [e, ht] at hn1; cases hn1
    refine og_aload_n dX4_unlink_127 rfl rfl ?_
    refine og_getf dX4_unlink_128 kfX4_20 (by assumption) (by assumption) ?_
    refine og_aload_n dX4_unlink_131 rfl rfl ?_
    refine og_getf dX4_unlink_132 kfX4_20 (by assumption) (by assumption) ?_
    refine og_put dX4_unlink_135 kfX4_30 hn1 rfl rfl ?_
    have far : ∀ b j, b ≠ nl → ob_set V1 nl 5 (.ref nl) b j = V1 b j := fun b j hb => ob_set_a _ _ _ _ j hb
    have own : ∀ j, j ≠ 5 → ob_set V1 nl 5 (.ref nl) nl j = V1 nl j := fun j hj => ob_set_k _ _ _ _ _ hj
    refine og_return rfl dX4_unlink_138 hk hs ⟨rfl, _, tt, N, L1, L2, rfl, ⟨ht, by rw [far t 1 (Ne.symm hnt)]; exact hnl, by rw [far t 2 (Ne.symm hnt)]; exact hroot, ⟨hn.1, by rw [own 3 (by decide)]; exact hn.2.1, by rw [own 4 (by decide)]; exact hn.2.2.1, by rw [own 6 (by decide)]; exact hn.2.2.2.1, by rw [own 7 (by decide)]; exact hn.2.2.2.2⟩, ob_set_s _ _ _ _, ⟨ob_tm_congr (fun b hb j _ _ => far b j (hTa b (by simpa [ob_zads] using hb)).2) htm, fun a ha => hTa a (by simpa [ob_zads] using ha)⟩, by simpa [ob_zads] using hnd⟩, hrb1, hred1, hL, hads1, hfr1.set (by simp) (by omega)⟩
  have ht := h.1
  cases bm with
  | false =>
    rcases hbm with ⟨h9, -⟩ | ⟨-, N, r1, r2⟩
    · cases h9
    · refine og_iload (x := 0) dX4_unlink_117 rfl ?_
      refine og_if_eq (tgt := 127) dX4_unlink_119 (by decide) (fun _ => ?_) (fun z9 => absurd (rfl) z9)
      refine og_lv [(0, .ref t)] rfl ?_
      exact fin V _ N h.whole r1 r2 hads hfr
  | true =>
    rcases hbm with ⟨-, zk, lack⟩ | ⟨h9, -⟩
    · refine og_iload (x := 1) dX4_unlink_117 rfl ?_
      refine og_if_eq (tgt := 127) dX4_unlink_119 (by decide) (fun z9 => absurd z9 (by decide)) (fun _ => ?_)
      refine og_aload_n dX4_unlink_122 rfl rfl ?_
      refine og_aload_n dX4_unlink_123 rfl rfl ?_
      refine og_callVn dX4_unlink_124 kvX4_84 (ct_mendBlack h h5 zk lack hlen) rfl ht rfl rfl ⟨hR.1, Nat.le_trans (by decide) hR.2⟩ hk hs (Nat.le_of_ble_eq_true rfl) rfl (fun E w' h9 => by cases h9.1) (fun v w' h9 => ?_)
      obtain ⟨hv, V1, t1, N, rfl, hz1, r1, r2, hL1, hfr1⟩ := h9
      cases hv
      refine og_lv [(0, .ref t)] rfl ?_
      refine fin V1 t1 N hz1 r1 r2 (hL1.trans hads) (ob_fr.tr hfr hfr1 (fun a ha => ?_))
      rw [hads] at ha
      rw [hL]
      simp only [List.mem_cons, List.mem_append] at ha ⊢
      grind
    · cases h9
/-- the leaving node's other child -/
def ob_heir (l r : ob_t) : ob_t := match l with
  | .leaf => r
  | t => t
/-- the leaving node is cut out -/
theorem cut_out {V : ob_V} {t nl g y qy : Nat} {cy : Bool} {Z : List ob_f} {l r : ob_t} (hR : 5 ≤ R.frames ∧ 300 ≤ R.locals) (hk : k ≤ R.cells) (hs : n ≤ R.slots) (h : ob_zt T V t nl Z (.inner qy y cy l r)) (hlr : l = .leaf ∨ r = .leaf)
    (kk : ∀ V', ob_zt T V' t nl Z (ob_heir l r) → V' (ob_top nl (ob_heir l r)) 5 = .ref (ob_zp nl Z) → ob_fr t (nl :: (ob_zads Z ++ ob_ads (.inner qy y cy l r))) V V' → ob_G X mX4_unlink R Q 106 [(0, .ref t), (1, .ref g), (2, .ref y), (3, .ref (ob_top nl (ob_heir l r))), (4, ob_cv (!cy))] [] (T, V', B, J) k n) :
    ob_G X mX4_unlink R Q 34 [(0, .ref t), (1, .ref g)] [.ref y] (T, V, B, J) k n := by
  obtain ⟨ht, hnl, hroot, hn, hz, ⟨y3, y4, y5, y6, y7, tl, tr⟩, hTa, hnd⟩ := h
  obtain ⟨hy1, hyn⟩ := hTa y (by simp [ob_ads])
  have hT2 : ∀ b, T b = some (2, 0) → b ≠ t := fun b hb e => by rw [e, ht] at hb; cases hb
  have hyt := hT2 y hy1
  have hnt := hT2 nl hn.1
  have hTz : ∀ b ∈ ob_zads Z, T b = some (2, 0) ∧ b ≠ nl := fun b hb => hTa b (by simp [hb])
  have hnd2 := hnd
  simp only [ob_ads, List.nodup_append, List.nodup_cons, List.mem_append, List.mem_cons] at hnd2
  obtain ⟨nz, ⟨nl1, ⟨nr0, nr1⟩, nlr⟩, nzz⟩ := hnd2
  have hyz : y ∉ ob_zads Z := fun h9 => nzz y h9 y (Or.inr (Or.inl rfl)) rfl
  have hyl : y ∉ ob_ads l := fun h9 => nlr y h9 y (Or.inl rfl) rfl
  -- the heir
  have hhmem : ∀ b, b ∈ ob_ads (ob_heir l r) → b ∈ ob_ads l ∨ b ∈ ob_ads r := by
    intro b hb
    cases l with
    | leaf => exact Or.inr hb
    | inner q9 a9 c9 l9 r9 => exact Or.inl hb
  have hsiz : ob_siz (ob_heir l r) = ob_siz l + ob_siz r := by
    rcases hlr with rfl | rfl
    · simp [ob_heir, ob_siz]
    · cases l <;> simp [ob_heir, ob_siz]
  have htm : ob_tm V nl (ob_heir l r) y := by cases l with | leaf => exact tr | inner q9 a9 c9 l9 r9 => exact tl
  have hhT : ∀ b ∈ ob_ads (ob_heir l r), T b = some (2, 0) ∧ b ≠ nl := fun b hb => hTa b (by simp only [List.mem_append, ob_ads, List.mem_cons]; rcases hhmem b hb with h | h <;> simp [h])
  have hhz : ∀ b ∈ ob_ads (ob_heir l r), b ∉ ob_zads Z := fun b hb h9 => nzz b h9 b (by rcases hhmem b hb with h | h <;> simp [h]) rfl
  have hhy : y ∉ ob_ads (ob_heir l r) := fun h9 => by rcases hhmem y h9 with h | h; exact hyl h; exact nr0 h
  have hhnd : (ob_ads (ob_heir l r)).Nodup := by cases l with | leaf => exact nr1 | inner q9 a9 c9 l9 r9 => exact nl1
  have hht1 : T (ob_top nl (ob_heir l r)) = some (2, 0) := by
    cases hhe : ob_heir l r with
    | leaf => exact hn.1
    | inner q9 a9 c9 l9 r9 => exact (hhT a9 (by rw [hhe]; simp [ob_ads])).1
  have hhzp : ob_top nl (ob_heir l r) ≠ ob_zp nl Z ∨ (Z = [] ∧ ob_heir l r = .leaf) := by
    cases hhe : ob_heir l r with
    | leaf =>
      cases Z with
      | nil => exact Or.inr ⟨rfl, rfl⟩
      | cons f z => obtain ⟨d', a, c', b9, q'⟩ := f; exact Or.inl (Ne.symm (hTz a (by simp [ob_zads])).2)
    | inner q9 a9 c9 l9 r9 =>
      have ha9 : a9 ∈ ob_ads (ob_heir l r) := by rw [hhe]; simp [ob_ads]
      cases Z with
      | nil => exact Or.inl (hhT a9 ha9).2
      | cons f z => obtain ⟨d', a, c', b9, q'⟩ := f; exact Or.inl (fun e => hhz a9 ha9 (by rw [show a9 = a from e]; simp [ob_zads]))
  have hhty : ob_top nl (ob_heir l r) ≠ y := by
    cases hhe : ob_heir l r with
    | leaf => exact Ne.symm hyn
    | inner q9 a9 c9 l9 r9 => exact fun e => hhy (by rw [hhe, ← e]; simp [ob_ads, ob_top])
  have hhtt := hT2 _ hht1
  generalize hhh : ob_heir l r = hh at *
  refine og_astore_n dX4_unlink_34 (by decide) rfl ?_
  refine og_aload_n dX4_unlink_35 rfl rfl ?_
  refine og_astore_n dX4_unlink_36 (by decide) rfl ?_
  refine og_aload_n dX4_unlink_37 rfl rfl ?_
  refine og_aload_n dX4_unlink_38 rfl rfl ?_
  refine og_getf dX4_unlink_39 kfX4_20 (by assumption) (by assumption) ?_
  refine og_acmp_eq (tgt := 63) dX4_unlink_42 (by decide) (fun z9 => absurd z9 (hyn)) (fun _ => ?_)
  refine og_aload_n dX4_unlink_45 rfl rfl ?_
  refine og_dup dX4_unlink_46 rfl ?_
  refine og_getf dX4_unlink_47 kfX4_36 (by assumption) (by assumption) ?_
  refine og_iconst (v := 1) dX4_unlink_50 (by decide) ?_
  refine og_isub dX4_unlink_51 ?_
  refine og_put dX4_unlink_52 kfX4_36 hy1 rfl rfl ?_
  generalize hV1 : ob_set V y 7 (.int (nI (ob_siz l + ob_siz r))) = V1
  refine og_w (T, V1, B, J) (by rw [← hV1, nI_pred]) ?_
  have far1 : ∀ x j, x ≠ y → V1 x j = V x j := fun x j hx => by rw [← hV1]; simp [ob_set, hx]
  have own1 : ∀ j, j ≠ 7 → V1 y j = V y j := fun j hj => by rw [← hV1]; simp [ob_set, hj]
  have o5 : V1 y 5 = .ref (ob_zp nl Z) := by rw [own1 5 (by decide)]; exact y5
  refine og_aload_n dX4_unlink_55 rfl rfl ?_
  refine og_getf dX4_unlink_56 kfX4_30 (by assumption) (by assumption) ?_
  refine og_astore_n dX4_unlink_59 (by decide) rfl ?_
  refine og_goto (tgt := 37) dX4_unlink_60 (by decide) ?_
  refine og_lv [(0, .ref t), (1, .ref g), (2, .ref y), (3, .ref (ob_zp nl Z))] rfl ?_
  have hz1 : ob_zm V1 nl Z y (ob_siz l + ob_siz r + 1) := ob_zm_congr (fun x hx j _ _ => far1 x j (fun e => hyz (by rw [← e]; exact hx))) hz
  refine dec_loop ht Z V1 y (ob_siz l + ob_siz r) (by rw [far1 t 1 (Ne.symm hyt)]; exact hnl) hz1 hTz nz (fun V2 hz2 hf2 => ?_)
  have v2 : ∀ b j, b ≠ y → (b ∉ ob_zads Z ∨ j ≠ 7) → V2 b j = V b j := fun b j h1 h2 => by rw [hf2 b j h2, far1 b j h1]
  have v2y : ∀ j, j ≠ 7 → V2 y j = V y j := fun j hj => by rw [hf2 y j (Or.inr hj), own1 j hj]
  have tZ : t ∉ ob_zads Z := fun h9 => hT2 t (hTz t h9).1 rfl
  have nZ : nl ∉ ob_zads Z := fun h9 => (hTz nl h9).2 rfl
  have w1 : V2 t 1 = .ref nl := by rw [v2 t 1 (Ne.symm hyt) (Or.inl tZ)]; exact hnl
  have w3 : V2 y 3 = .ref (ob_top nl l) := by rw [v2y 3 (by decide)]; exact y3
  have w4 : V2 y 4 = .ref (ob_top nl r) := by rw [v2y 4 (by decide)]; exact y4
  have w5 : V2 y 5 = .ref (ob_zp nl Z) := by rw [v2y 5 (by decide)]; exact y5
  have w6 : V2 y 6 = ob_cv cy := by rw [v2y 6 (by decide)]; exact y6
  have hhd : ob_hd T V2 nl y Z := by
    cases Z with
    | nil => trivial
    | cons f z =>
      obtain ⟨d', a, c', b, q'⟩ := f
      obtain ⟨b1, b2⟩ := hTz a (by simp [ob_zads])
      refine ⟨b1, b2, hz2.1, fun _ e => ?_⟩
      cases b with
      | leaf => exact hyn e
      | inner q9 a9 c9 l9 r9 => exact hyz (by rw [show y = a9 from e]; simp [ob_zads, ob_ads])
  -- behind the two forks
  have rest : ob_G X mX4_unlink R Q 100 [(0, .ref t), (1, .ref g), (2, .ref y), (3, .ref (ob_top nl hh)), (4, ob_cv (!cy))] [] (T, V2, B, J) k n := by
    refine og_aload_n dX4_unlink_100 rfl rfl ?_
    refine og_aload_n dX4_unlink_101 rfl rfl ?_
    refine og_aload_n dX4_unlink_102 rfl rfl ?_
    refine og_callVe dX4_unlink_103 kvX4_77 (ct_replace (z := Z) ht w1 hy1 w5 hht1 hhd) rfl ht rfl rfl ⟨Nat.le_trans (by decide) hR.1, Nat.le_trans (by decide) hR.2⟩ hk hs (Nat.le_of_ble_eq_true rfl) rfl ?_
    generalize hV3 : ob_rep V2 t nl Z (ob_top nl hh) = V3
    have v3 : ∀ b j, b ≠ t → b ≠ ob_top nl hh → b ≠ ob_zp nl Z → V3 b j = V2 b j := by
      intro b j h1 h2 h3
      rw [← hV3]
      cases Z with
      | nil => simp [ob_rep, ob_set, h1, h2]
      | cons f z => obtain ⟨d', a, c', b9, q'⟩ := f; simp [ob_rep, ob_set, h2, show b ≠ a from h3]
    have v3h5 : V3 (ob_top nl hh) 5 = .ref (ob_zp nl Z) := by
      rw [← hV3]
      cases Z with
      | nil => simp [ob_rep, ob_set, ob_zp]
      | cons f z => obtain ⟨d', a, c', b9, q'⟩ := f; simp [ob_rep, ob_set, ob_zp]
    have v3h : ∀ j, j ≠ 5 → V3 (ob_top nl hh) j = V2 (ob_top nl hh) j := by
      intro j hj
      rw [← hV3]
      cases Z with
      | nil => simp [ob_rep, ob_set, hj, hhtt]
      | cons f z =>
        obtain ⟨d', a, c', b9, q'⟩ := f
        have e9 : ob_top nl hh ≠ a := by
          rcases hhzp with h9 | ⟨h9, -⟩
          · exact h9
          · cases h9
        simp [ob_rep, ob_set, hj, e9]
    have nilf : ∀ j, j ≠ 5 → V3 nl j = V nl j := by
      intro j hj
      rw [← v2 nl j (Ne.symm hyn) (Or.inl nZ), ← hV3]
      cases Z with
      | nil => simp [ob_rep, ob_set, hnt, hj]
      | cons f z =>
        obtain ⟨d', a, c', b9, q'⟩ := f
        have : nl ≠ a := (hTz a (by simp [ob_zads])).2.symm
        simp [ob_rep, ob_set, this, hj]
    have hz3 : ob_zm V3 nl Z (ob_top nl hh) (ob_siz hh) := by
      rw [hsiz]
      refine ob_zm_hole (V := V2) (x := y) hz2 nz ?_ ?_
      · cases Z with
        | nil => trivial
        | cons f z =>
          obtain ⟨d', a, c', b9, q'⟩ := f
          have e9 : a ≠ ob_top nl hh := by
            rcases hhzp with h9 | ⟨h9, -⟩
            · exact Ne.symm h9
            · cases h9
          refine ⟨?_, fun j hj => ?_⟩
          · rw [← hV3]; simp [ob_rep, ob_set, e9]
          · rw [← hV3]; simp [ob_rep, ob_set, hj, e9]
      · intro b hb hbz j
        refine v3 b j (hT2 b (hTz b hb).1) (fun e => ?_) hbz
        cases hhe : hh with
        | leaf => rw [hhe] at e; exact (hTz b hb).2 e
        | inner q9 a9 c9 l9 r9 => rw [hhe] at e; exact hhz a9 (by rw [hhe]; simp [ob_ads]) (by rw [← show b = a9 from e]; exact hb)
    have htm3 : ob_tm V3 nl hh (ob_zp nl Z) := by
      cases hhe : hh with
      | leaf => trivial
      | inner q9 a9 c9 l9 r9 =>
        subst hhe
        obtain ⟨e3, e4, e5, e6, e7, el, er⟩ := htm
        have ha9 : a9 ∈ ob_ads (.inner q9 a9 c9 l9 r9 : ob_t) := by simp [ob_ads]
        have h9y : a9 ≠ y := fun e => hhy (by rw [← e]; exact ha9)
        have a' : ∀ j, j ≠ 5 → V3 a9 j = V a9 j := fun j hj => by rw [← v2 a9 j h9y (Or.inl (hhz a9 ha9))]; exact v3h j hj
        simp only [ob_ads, List.nodup_append, List.nodup_cons] at hhnd
        have inn : ∀ b, b ∈ ob_ads l9 ∨ b ∈ ob_ads r9 → b ∈ ob_ads (.inner q9 a9 c9 l9 r9 : ob_t) := fun b hb => by simp only [ob_ads, List.mem_append, List.mem_cons]; rcases hb with h | h <;> simp [h]
        have ok : ∀ b, b ∈ ob_ads l9 ∨ b ∈ ob_ads r9 → ∀ j, V3 b j = V b j := by
          intro b hb j
          have hbi := inn b hb
          have hby : b ≠ y := fun e => hhy (by rw [← e]; exact hbi)
          rw [v3 b j (hT2 b (hhT b hbi).1) (fun e => ?_) (fun e => ?_), v2 b j hby (Or.inl (hhz b hbi))]
          · have e : b = a9 := e
            subst e
            rcases hb with h | h
            · exact hhnd.2.2 b h b List.mem_cons_self rfl
            · exact hhnd.2.1.1 h
          · cases Z with
            | nil => exact (hhT b hbi).2 e
            | cons f z => obtain ⟨d', a, c', b9, q'⟩ := f; exact hhz b hbi (by rw [show b = a from e]; simp [ob_zads])
        exact ⟨by rw [a' 3 (by decide)]; exact e3, by rw [a' 4 (by decide)]; exact e4, v3h5, by rw [a' 6 (by decide)]; exact e6, by rw [a' 7 (by decide)]; exact e7, ob_tm_congr (fun b hb j _ _ => ok b (Or.inl hb) j) el, ob_tm_congr (fun b hb j _ _ => ok b (Or.inr hb) j) er⟩
    have zpt : ob_zp nl Z ≠ t := by
      cases Z with
      | nil => exact hnt
      | cons f z => obtain ⟨d', a, c', b9, q'⟩ := f; exact hT2 a (hTz a (by simp [ob_zads])).1
    refine og_lv [(0, .ref t), (1, .ref g), (2, .ref y), (3, .ref (ob_top nl hh)), (4, ob_cv (!cy))] (by cases cy <;> rfl) ?_
    refine kk V3 ⟨ht, ?_, ?_, ⟨hn.1, by rw [nilf 3 (by decide)]; exact hn.2.1, by rw [nilf 4 (by decide)]; exact hn.2.2.1, by rw [nilf 6 (by decide)]; exact hn.2.2.2.1, by rw [nilf 7 (by decide)]; exact hn.2.2.2.2⟩, hz3, htm3, ?_, ?_⟩ v3h5 ?_
    · rw [← w1, ← hV3]
      cases Z with
      | nil => simp [ob_rep, ob_set, Ne.symm hhtt]
      | cons f z => obtain ⟨d', a, c', b9, q'⟩ := f; simp [ob_rep, ob_set, Ne.symm hhtt, show t ≠ a from Ne.symm zpt]
    · rw [← hV3]
      cases Z with
      | nil => simp [ob_rep, ob_set, ob_plug, Ne.symm hhtt]
      | cons f z =>
        obtain ⟨d', a, c', b9, q'⟩ := f
        have e9 : t ≠ a := Ne.symm zpt
        simp only [ob_rep, ob_set]
        rw [if_neg (by simp [Ne.symm hhtt]), if_neg (by simp [e9]), v2 t 2 (Ne.symm hyt) (Or.inl tZ), hroot]
        congr 1
        exact ob_top_plug nl _ _ _ (by simp)
    · intro b hb
      rcases List.mem_append.mp hb with hb | hb
      · exact hTz b hb
      · exact hhT b hb
    · rw [List.nodup_append]
      exact ⟨nz, hhnd, fun a ha b hb e => hhz b hb (by rw [← e]; exact ha)⟩
    · have inA : ∀ b, b ∈ ob_zads Z ++ ob_ads (.inner qy y cy l r) → b ∈ nl :: (ob_zads Z ++ ob_ads (.inner qy y cy l r)) := fun b hb => List.mem_cons_of_mem _ hb
      have inh : ob_top nl hh ∈ nl :: (ob_zads Z ++ ob_ads (.inner qy y cy l r)) := by
        cases hhe : hh with
        | leaf => simp [ob_top]
        | inner q9 a9 c9 l9 r9 =>
          refine inA _ ?_
          simp only [List.mem_append, ob_ads, List.mem_cons]
          rcases hhmem a9 (by rw [hhe]; simp [ob_ads]) with h | h <;> simp [ob_top, h]
      have f2 : ob_fr t (nl :: (ob_zads Z ++ ob_ads (.inner qy y cy l r))) V V2 := by
        intro b j hb
        have hb' : ¬ (b ∈ ob_zads Z ∧ j = 7) := fun h9 => hb (Or.inr ⟨inA b (by simp [h9.1]), by omega, by omega⟩)
        by_cases hby : b = y
        · subst hby
          refine v2y j (fun e => hb (Or.inr ⟨inA b (by simp [ob_ads]), by omega, by omega⟩))
        · refine v2 b j hby ?_
          by_cases h9 : b ∈ ob_zads Z
          · exact Or.inr (fun e => hb' ⟨h9, e⟩)
          · exact Or.inl h9
      rw [← hV3]
      cases Z with
      | nil => exact f2.root.set inh (by omega)
      | cons f z =>
        obtain ⟨d', a, c', b9, q'⟩ := f
        have sr9 := ob_sl_rg d'
        exact (f2.set (inA a (by simp [ob_zads])) (by omega)).set inh (by omega)
  have mid : ob_G X mX4_unlink R Q 85 [(0, .ref t), (1, .ref g), (2, .ref y)] [.ref (ob_top nl hh)] (T, V2, B, J) k n := by
    cases cy with
    | true =>
      refine og_astore_n dX4_unlink_85 (by decide) rfl ?_
      refine og_aload_n dX4_unlink_86 rfl rfl ?_
      refine og_getf dX4_unlink_87 kfX4_61 (by assumption) (by assumption) ?_
      refine og_if_ne (tgt := 97) dX4_unlink_90 (by decide) (fun _ => ?_) (fun z9 => absurd z9 (by decide))
      refine og_iconst (v := 0) dX4_unlink_97 (by decide) ?_
      refine og_istore dX4_unlink_98 (by decide) ?_
      exact og_lv _ rfl rest
    | false =>
      refine og_astore_n dX4_unlink_85 (by decide) rfl ?_
      refine og_aload_n dX4_unlink_86 rfl rfl ?_
      refine og_getf dX4_unlink_87 kfX4_61 (by assumption) (by assumption) ?_
      refine og_if_ne (tgt := 97) dX4_unlink_90 (by decide) (fun z9 => absurd (rfl) z9) (fun _ => ?_)
      refine og_iconst (v := 1) dX4_unlink_93 (by decide) ?_
      refine og_goto (tgt := 98) dX4_unlink_94 (by decide) ?_
      refine og_istore dX4_unlink_98 (by decide) ?_
      exact og_lv _ rfl rest
  refine og_aload_n dX4_unlink_63 rfl rfl ?_
  refine og_getf dX4_unlink_64 kfX4_24 (by assumption) (by assumption) ?_
  refine og_aload_n dX4_unlink_67 rfl rfl ?_
  refine og_getf dX4_unlink_68 kfX4_20 (by assumption) (by assumption) ?_
  refine og_acmp_ne (tgt := 81) dX4_unlink_71 (by decide) (fun hc => ?_) (fun hc => ?_)
  · have hl9 : hh = l := by
      rw [← hhh]
      cases l with
      | leaf => exact absurd rfl hc
      | inner q9 a9 c9 l9 r9 => rfl
    subst hl9
    refine og_aload_n dX4_unlink_81 rfl rfl ?_
    refine og_getf dX4_unlink_82 kfX4_24 (by assumption) (by assumption) ?_
    exact mid
  · have hl9 : l = .leaf := by
      cases l with
      | leaf => rfl
      | inner q9 a9 c9 l9 r9 => exact absurd hc (hTa a9 (by simp [ob_ads])).2
    have hr9 : hh = r := by rw [← hhh, hl9]; rfl
    subst hr9
    refine og_aload_n dX4_unlink_74 rfl rfl ?_
    refine og_getf dX4_unlink_75 kfX4_27 (by assumption) (by assumption) ?_
    refine og_goto (tgt := 85) dX4_unlink_78 (by decide) ?_
    exact mid
end OBV
