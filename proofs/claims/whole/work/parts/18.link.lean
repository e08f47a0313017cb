/-! link: a new node into the tree -/
theorem ob_fr.nd {T : ob_T} {V V' : ob_V} {B : ob_B} {t hb cap a : Nat} {A : List Nat} {ke va : List Nat} (ht : T t = some (4, 0)) (h : ob_fr t A V V') (hn : ob_nd T V B hb cap a ke va) : ob_nd T V' B hb cap a ke va := by
  obtain ⟨h1, h2, h3, b, s, h4, h5, h6, h7⟩ := hn
  have e : ∀ x j, j < 3 → x ≠ t → V' x j = V x j := fun x j hj hx => h x j (by omega)
  have hat : a ≠ t := fun e => by rw [e, ht] at h1; cases h1
  have hbt : b ≠ t := fun e => by rw [e, ht] at h5; cases h5
  exact ⟨h1, by rw [e a 0 (by omega) hat]; exact h2, by rw [e a 1 (by omega) hat]; exact h3, b, s, by rw [e a 2 (by omega) hat]; exact h4, h5, by rw [e b 0 (by omega) hbt]; exact h6, h7⟩
theorem ob_fr.hb {T : ob_T} {V V' : ob_V} {t hp hb cap : Nat} {A : List Nat} (ht : T t = some (4, 0)) (hA : ∀ a ∈ A, T a = some (2, 0)) (h : ob_fr t A V V') (hn : ob_hb T V hp hb cap) : ob_hb T V' hp hb cap := by
  obtain ⟨h1, h2, h3, h4⟩ := hn
  refine ⟨h1, ?_, h3, h4⟩
  rw [h hp 4, h2]
  rintro (⟨rfl, h9⟩ | ⟨h9, -⟩)
  · cases h9
  · rw [hA hp h9] at h1; cases h1
/-- the side on which the hole lies -/
def ob_zs9 : List ob_f → Int32
  | [] => 0
  | (d, _, _, _, _) :: _ => ob_sd d
theorem ob_len_z {z : List ob_f} {tt : ob_t} {m : Nat} (hz : ob_zk z m) (ht : ob_rb tt m) (hr : ob_zr9 z → ob_red tt = false) (hs : ob_siz (ob_plug z tt) ≤ 1024) : z.length ≤ 40 := by
  obtain ⟨N, h1, -, h3, h4⟩ := ob_zk_plug hz ht hr
  have h5 := ob_rb_pow h1
  have h6 : N ≤ 10 := by
    rcases Nat.lt_or_ge 10 N with h | h
    · have : 2 ^ 11 ≤ 2 ^ N := Nat.pow_le_pow_right (by decide) h
      omega
    · exact h
  split at h4 <;> omega
section OBK
variable {X : ob_X} {T : ob_T} {B : ob_B} {J : ob_J} {R : Room} {k n : Nat}
/-- the end of link -/
def ob_linked (T : ob_T) (B : ob_B) (J : ob_J) (t nl fresh : Nat) (K : ob_k) (L : List Nat) (V : ob_V) : ob_r → ob_w → Prop := fun r w' => r = .inl none ∧ ∃ V' tt N L1 L2, w' = (T, V', B, J) ∧ ob_tr T V' t nl tt ∧ ob_rb tt N ∧ ob_red tt = false ∧ L = L1 ++ L2 ∧ ob_ads tt = L1 ++ fresh :: L2 ∧ (∀ x ∈ L1, ob_cmp (K x).1 (K fresh).1 < 0) ∧ (∀ x ∈ L2, ob_cmp (K fresh).1 (K x).1 < 0) ∧ ob_fr t (fresh :: L) V V'
theorem link_loop {V0 : ob_V} {t nl hp hb cap fresh N : Nat} {K : ob_k} {L : List Nat} {t0 : ob_t} (hR : 4 ≤ R.frames ∧ 240 ≤ R.locals) (hk : k ≤ R.cells) (hs : n ≤ R.slots) (ht : T t = some (4, 0)) (hth : V0 t 0 = .ref hp) (h1 : ob_hb T V0 hp hb cap) (hf : ob_nd T V0 B hb cap fresh (K fresh).1 (K fresh).2) (hfl : (K fresh).1.length ≤ 64) (hfn : fresh ≠ nl) (hfL : fresh ∉ L) (hns : ob_ns T V0 B hb cap K L) (hne : ∀ x ∈ L, (K x).1 ≠ (K fresh).1) (hLe : L = ob_ads t0) (hrb : ob_rb t0 N) (hrd : ob_red t0 = false) (hsz : ob_siz t0 ≤ 1023) (hso : ob_so K L) :
    ∀ (tt : ob_t) (V : ob_V) (z : List ob_f), V t 1 = .ref nl → V t 2 = .ref (ob_top nl t0) → ob_nil T V nl → V nl 5 = .ref nl → ob_zm V nl z (ob_top nl tt) (ob_siz tt + 1) → ob_tm V nl tt (ob_zp nl z) → (∀ a ∈ ob_zads z ++ ob_ads tt, T a = some (2, 0) ∧ a ≠ nl) → (ob_zads z ++ ob_ads tt).Nodup → t0 = ob_plug z tt → ob_fr t (fresh :: L) V0 V → (∀ x ∈ ob_zl z, ob_cmp (K x).1 (K fresh).1 < 0) → (∀ x ∈ ob_zr z, ob_cmp (K fresh).1 (K x).1 < 0) →
    ob_G X mX4_link R (ob_linked T B J t nl fresh K L V0) 13 [(0, .ref t), (1, .ref fresh), (2, .ref (ob_zp nl z)), (3, .int (ob_zs9 z)), (4, .ref (ob_top nl tt))] [] (T, V, B, J) k n := by
  intro tt
  have hAT : ∀ a ∈ fresh :: L, T a = some (2, 0) := by
    intro a ha
    rcases List.mem_cons.mp ha with rfl | ha
    · exact hf.1
    · exact (hns a ha).1.1
  have hf1 := hf.1
  have hft : fresh ≠ t := fun e => by rw [e, ht] at hf1; cases hf1
  induction tt with
  | leaf =>
    intro V z v1 v2 hn hn5 hz htm hTa hnd e0 hfr hzl hzr
    subst e0
    simp only [ob_ads, List.append_nil] at hTa hnd
    have hfz : fresh ∉ ob_zads z := fun h => hfL (by rw [hLe]; exact ob_mem_plug.mpr (Or.inl h))
    have hnt : nl ≠ t := fun e => by have := hn.1; rw [e, ht] at this; cases this
    have hzpT : T (ob_zp nl z) = some (2, 0) := by
      cases z with
      | nil => exact hn.1
      | cons f z => obtain ⟨d, a, c, b, q⟩ := f; exact (hTa a (by simp [ob_zads])).1
    obtain ⟨m, zk, lm, -, -⟩ := ob_plug_zk hrb hrd
    have em : m = 0 := lm
    subst em
    have hlen : z.length ≤ 40 := ob_len_z zk lm (fun _ => rfl) (by omega)
    refine og_aload dX4_link_13 rfl rfl ?_
    refine og_aload_n dX4_link_15 rfl rfl ?_
    refine og_getf dX4_link_16 kfX4_20 (by assumption) (by assumption) ?_
    refine og_acmp_eq (tgt := 66) dX4_link_19 (by decide) (fun _ => ?_) (fun z9 => absurd (rfl) z9)
    refine og_aload_n dX4_link_66 rfl rfl ?_
    refine og_aload_n dX4_link_67 rfl rfl ?_
    refine og_getf dX4_link_68 kfX4_20 (by assumption) (by assumption) ?_
    refine og_put dX4_link_71 kfX4_24 hf1 rfl rfl ?_
    have w1 : ob_set V fresh 3 (.ref nl) t 1 = .ref nl := by simp [ob_set, v1]
    refine og_aload_n dX4_link_74 rfl rfl ?_
    refine og_aload_n dX4_link_75 rfl rfl ?_
    refine og_getf dX4_link_76 kfX4_20 (by assumption) (by assumption) ?_
    refine og_put dX4_link_79 kfX4_27 hf1 rfl rfl ?_
    refine og_aload_n dX4_link_82 rfl rfl ?_
    refine og_aload_n dX4_link_83 rfl rfl ?_
    refine og_put dX4_link_84 kfX4_30 hf1 rfl rfl ?_
    refine og_aload_n dX4_link_87 rfl rfl ?_
    refine og_iconst (v := 1) dX4_link_88 (by decide) ?_
    refine og_put dX4_link_89 kfX4_61 hf1 rfl rfl ?_
    refine og_aload_n dX4_link_92 rfl rfl ?_
    refine og_iconst (v := 1) dX4_link_93 (by decide) ?_
    refine og_put dX4_link_94 kfX4_36 hf1 rfl rfl ?_
    generalize hV5 : ob_set (ob_set (ob_set (ob_set (ob_set V fresh 3 (.ref nl)) fresh 4 (.ref nl)) fresh 5 (.ref (ob_zp nl z))) fresh 6 (.int 1)) fresh 7 (.int 1) = V5
    have far : ∀ b j, b ≠ fresh → V5 b j = V b j := fun b j hb => by rw [← hV5]; simp [ob_set, hb]
    have f3 : V5 fresh 3 = .ref nl := by rw [← hV5]; simp [ob_set]
    have f4 : V5 fresh 4 = .ref nl := by rw [← hV5]; simp [ob_set]
    have f5 : V5 fresh 5 = .ref (ob_zp nl z) := by rw [← hV5]; simp [ob_set]
    have f6 : V5 fresh 6 = ob_cv true := by rw [← hV5]; simp [ob_set]; rfl
    have f7 : V5 fresh 7 = .int (nI 1) := by rw [← hV5]; simp [ob_set]; rfl
    have fr5 : ob_fr t (fresh :: L) V0 V5 := by
      rw [← hV5]
      exact ((((hfr.set (by simp) (by omega)).set (by simp) (by omega)).set (by simp) (by omega)).set (by simp) (by omega)).set (by simp) (by omega)
    have v51 : V5 t 1 = .ref nl := by rw [far t 1 (Ne.symm hft)]; exact v1
    -- behind the fork: the node hangs in its place
    have hang : ∀ V6, ob_zt T V6 t nl z (.inner 0 fresh true .leaf .leaf) → V6 nl 5 = .ref nl → ob_fr t (fresh :: L) V0 V6 → ob_G X mX4_link R (ob_linked T B J t nl fresh K L V0) 119 [(0, .ref t), (1, .ref fresh)] [] (T, V6, B, J) k n := by
      intro V6 hz6 h65 fr6
      refine og_aload_n dX4_link_119 rfl rfl ?_
      refine og_aload_n dX4_link_120 rfl rfl ?_
      refine og_callVn dX4_link_121 kvX4_69 (ct_mendRed hz6 (by omega) zk rfl rfl rfl rfl) rfl ht rfl rfl ⟨hR.1, Nat.le_trans (by decide) hR.2⟩ hk hs (Nat.le_of_ble_eq_true rfl) rfl (fun E w' h9 => by cases h9.1) (fun v w' h9 => ?_)
      obtain ⟨hv, V7, t7, N7, rfl, hz7, hrb7, hL7, hfr7⟩ := h9
      cases hv
      have hadd : ob_ads (ob_plug z (.inner 0 fresh true .leaf .leaf)) = ob_zl z ++ fresh :: ob_zr z := by rw [ob_ads_plug]; simp [ob_ads]
      have hLz : L = ob_zl z ++ ob_zr z := by rw [hLe, ob_ads_plug]; simp [ob_ads]
      have hsubL : ∀ a ∈ ob_ads (ob_plug z (.inner 0 fresh true .leaf .leaf)), a ∈ fresh :: L := by
        intro a ha
        rw [hadd] at ha
        rw [hLz]
        simp only [List.mem_append, List.mem_cons] at ha ⊢
        grind
      have fr7 : ob_fr t (fresh :: L) V0 V7 := ob_fr.tr fr6 hfr7 hsubL
      have h75 : V7 nl 5 = .ref nl := by
        rw [hfr7 nl 5, h65]
        rintro (⟨rfl, h9⟩ | ⟨h9, -⟩)
        · cases h9
        · rw [hadd] at h9
          simp only [List.mem_append, List.mem_cons] at h9
          have hzz : ∀ a, a ∈ ob_zl z ∨ a ∈ ob_zr z → a ≠ nl := fun a ha => (hTa a (by
            have : a ∈ ob_ads (ob_plug z .leaf) := by rw [ob_ads_plug]; simp only [List.mem_append]; grind
            rcases ob_mem_plug.mp this with h | h
            · exact h
            · simp [ob_ads] at h)).2
          rcases h9 with h9 | h9 | h9
          · exact hzz nl (Or.inl h9) rfl
          · exact hfn h9.symm
          · exact hzz nl (Or.inr h9) rfl
      cases t7 with
      | leaf => rw [hadd] at hL7; simp [ob_ads] at hL7
      | inner q7 a7 c7 l7 r7 =>
        have hz7' : ob_zt T V7 t nl [] (ob_mkn true q7 a7 c7 l7 r7) := hz7
        obtain ⟨g1, g2, -⟩ := hz7'.foc
        have hroot : V7 t 2 = .ref a7 := hz7.2.2.1
        refine og_aload_n dX4_link_124 rfl rfl ?_
        refine og_getf dX4_link_125 kfX4_33 (by assumption) (by assumption) ?_
        refine og_iconst (v := 0) dX4_link_128 (by decide) ?_
        refine og_put dX4_link_129 kfX4_61 g1 rfl rfl ?_
        have hz8 := hz7'.col false
        have ha7 : a7 ∈ fresh :: L := hsubL a7 (by rw [← hL7]; simp [ob_ads])
        have h85 : ob_set V7 a7 6 (ob_cv false) nl 5 = .ref nl := by simp [ob_set, h75]
        have hrb8 : ∃ N8, ob_rb (ob_mkn true q7 a7 false l7 r7) N8 := by
          cases c7 with
          | true =>
            obtain ⟨-, -, e3, e4⟩ := (ob_rb_r (d := true) (q := q7) (a := a7)).mp hrb7
            exact ⟨N7 + 1, ob_rb_b.mpr ⟨e3, e4⟩⟩
          | false => exact ⟨N7, hrb7⟩
        obtain ⟨N8, hrb8⟩ := hrb8
        exact og_return rfl dX4_link_132 hk hs ⟨rfl, _, _, N8, ob_zl z, ob_zr z, rfl, hz8.tr h85, hrb8, ob_red_mk .., hLz, by rw [← hadd, ← hL7]; exact ob_ads_col true q7 a7 false c7 l7 r7, hzl, hzr, fr7.set ha7 (by omega)⟩
    refine og_aload_n dX4_link_97 rfl rfl ?_
    refine og_aload_n dX4_link_98 rfl rfl ?_
    refine og_getf dX4_link_99 kfX4_20 (by assumption) (by assumption) ?_
    have addr6 : ∀ a ∈ ob_zads z ++ ob_ads (.inner 0 fresh true .leaf .leaf), T a = some (2, 0) ∧ a ≠ nl := by
      intro a ha
      simp only [List.mem_append, ob_ads, List.nil_append, List.mem_cons, List.not_mem_nil, or_false] at ha
      rcases ha with ha | rfl
      · exact hTa a ha
      · exact ⟨hf1, hfn⟩
    have nd6 : (ob_zads z ++ ob_ads (.inner 0 fresh true .leaf .leaf)).Nodup := by
      simp only [ob_ads, List.nil_append, List.nodup_append, List.nodup_cons, List.not_mem_nil, not_false_eq_true, List.nodup_nil, and_true, true_and, List.mem_cons, or_false]
      exact ⟨hnd, fun a ha b hb e => hfz (by rw [← hb, ← e]; exact ha)⟩
    have nil5 : ∀ j, V5 nl j = V nl j := fun j => far nl j (Ne.symm hfn)
    cases z with
    | nil =>
      refine og_acmp_ne (tgt := 113) dX4_link_102 (by decide) (fun z9 => absurd (rfl) z9) (fun _ => ?_)
      refine og_aload_n dX4_link_105 rfl rfl ?_
      refine og_aload_n dX4_link_106 rfl rfl ?_
      refine og_put dX4_link_107 kfX4_33 (by assumption) rfl rfl ?_
      refine og_goto (tgt := 119) dX4_link_110 (by decide) ?_
      refine og_lv [(0, .ref t), (1, .ref fresh)] rfl ?_
      have g : ∀ b j, b ≠ t → ob_set V5 t 2 (.ref fresh) b j = V5 b j := fun b j hb => ob_set_a _ _ _ _ j hb
      refine hang _ ⟨ht, by simp [ob_set, v51], by simp [ob_set, ob_plug, ob_top], ⟨hn.1, by rw [g nl 3 hnt, nil5]; exact hn.2.1, by rw [g nl 4 hnt, nil5]; exact hn.2.2.1, by rw [g nl 6 hnt, nil5]; exact hn.2.2.2.1, by rw [g nl 7 hnt, nil5]; exact hn.2.2.2.2⟩, trivial, ⟨by rw [g fresh 3 hft]; exact f3, by rw [g fresh 4 hft]; exact f4, by rw [g fresh 5 hft]; exact f5, by rw [g fresh 6 hft]; exact f6, by rw [g fresh 7 hft]; exact f7, trivial, trivial⟩, addr6, nd6⟩ (by rw [g nl 5 hnt, nil5]; exact hn5) fr5.root
    | cons f z =>
      obtain ⟨d, a, c, b, q⟩ := f
      obtain ⟨a1, a2⟩ := hTa a (by simp [ob_zads])
      have hat : a ≠ t := fun e => by rw [e, ht] at a1; cases a1
      have haf : a ≠ fresh := fun e => hfz (by rw [← e]; simp [ob_zads])
      have sr := ob_sl_rg d
      refine og_acmp_ne (tgt := 113) dX4_link_102 (by decide) (fun _ => ?_) (fun z9 => absurd z9 (a2))
      refine og_aload_n dX4_link_113 rfl rfl ?_
      refine og_iload_n dX4_link_114 rfl ?_
      refine og_aload_n dX4_link_115 rfl rfl ?_
      refine og_callVe dX4_link_116 kvX4_65 (ct_setChild (d := d) a1) rfl a1 rfl rfl ⟨Nat.le_trans (by decide) hR.1, Nat.le_trans (by decide) hR.2⟩ hk hs (Nat.le_of_ble_eq_true rfl) rfl ?_
      refine og_lv [(0, .ref t), (1, .ref fresh)] rfl ?_
      have g : ∀ x j, x ≠ a → ob_set V5 a (ob_sl d) (.ref fresh) x j = V5 x j := fun x j hx => ob_set_a _ _ _ _ j hx
      have ga : ∀ j, j ≠ ob_sl d → ob_set V5 a (ob_sl d) (.ref fresh) a j = V a j := fun j hj => by rw [ob_set_k _ _ _ _ _ hj]; exact far a j haf
      have hzm6 : ob_zm (ob_set V5 a (ob_sl d) (.ref fresh)) nl ((d, a, c, b, q) :: z) fresh 1 := by
        refine ob_zm_hole (V := V) (x := nl) hz hnd ⟨ob_set_s _ _ _ _, ga⟩ (fun x hx hxa j => ?_)
        have hxa : x ≠ a := hxa
        rw [g x j hxa]
        exact far x j (fun e => hfz (by rw [← e]; exact hx))
      have na : nl ≠ a := Ne.symm a2
      refine hang _ ⟨ht, by rw [g t 1 (Ne.symm hat)]; exact v51, ?_, ⟨hn.1, by rw [g nl 3 na, nil5]; exact hn.2.1, by rw [g nl 4 na, nil5]; exact hn.2.2.1, by rw [g nl 6 na, nil5]; exact hn.2.2.2.1, by rw [g nl 7 na, nil5]; exact hn.2.2.2.2⟩, hzm6, ⟨by rw [g fresh 3 (Ne.symm haf)]; exact f3, by rw [g fresh 4 (Ne.symm haf)]; exact f4, by rw [g fresh 5 (Ne.symm haf)]; exact f5, by rw [g fresh 6 (Ne.symm haf)]; exact f6, by rw [g fresh 7 (Ne.symm haf)]; exact f7, trivial, trivial⟩, addr6, nd6⟩ (by rw [g nl 5 na, nil5]; exact hn5) (fr5.set ?_ (by omega))
      · rw [g t 2 (Ne.symm hat), far t 2 (Ne.symm hft), v2]
        congr 1
        exact ob_top_plug nl _ _ _ (by simp)
      · rw [hLe]; exact List.mem_cons_of_mem _ (ob_mem_plug.mpr (Or.inl (by simp [ob_zads])))
  | inner q a c l r ihl ihr =>
    intro V z v1 v2 hn hn5 hz htm hTa hnd e0 hfr hzl hzr
    obtain ⟨a3, a4, a5, a6, a7, tl, tr⟩ := htm
    obtain ⟨a1, a2⟩ := hTa a (by simp [ob_ads])
    have haL : a ∈ L := by rw [hLe, e0]; exact ob_mem_plug.mpr (Or.inr (by simp [ob_ads]))
    have hat : a ≠ t := fun e => by rw [e, ht] at a1; cases a1
    have haf : a ≠ fresh := fun e => hfL (by rw [← e]; exact haL)
    obtain ⟨hand, halen⟩ := hns a haL
    have hb9 := h1.1
    refine og_aload dX4_link_13 rfl rfl ?_
    refine og_aload_n dX4_link_15 rfl rfl ?_
    refine og_getf dX4_link_16 kfX4_20 (by assumption) (by assumption) ?_
    refine og_acmp_eq (tgt := 66) dX4_link_19 (by decide) (fun z9 => absurd z9 (a2)) (fun _ => ?_)
    refine og_aload dX4_link_22 rfl rfl ?_
    refine og_dup dX4_link_24 rfl ?_
    refine og_getf dX4_link_25 kfX4_36 (by assumption) (by assumption) ?_
    refine og_iconst (v := 1) dX4_link_28 (by decide) ?_
    refine og_iadd dX4_link_29 ?_
    refine og_put dX4_link_30 kfX4_36 a1 rfl rfl ?_
    generalize hV1 : ob_set V a 7 (.int (nI (ob_siz l + ob_siz r + 1) + 1)) = V1
    refine og_w (T, V1, B, J) (by rw [← hV1]; rfl) ?_
    have far : ∀ b j, b ≠ a → V1 b j = V b j := fun b j hb => by rw [← hV1]; simp [ob_set, hb]
    have own : ∀ j, j ≠ 7 → V1 a j = V a j := fun j hj => by rw [← hV1]; simp [ob_set, hj]
    have o7 : V1 a 7 = .int (nI (ob_siz l + ob_siz r + 1 + 1)) := by rw [← hV1, ob_set_s, nI_1]
    have fr1 : ob_fr t (fresh :: L) V0 V1 := by rw [← hV1]; exact hfr.set (List.mem_cons_of_mem _ haL) (by omega)
    have hth1 : V1 t 0 = .ref hp := by rw [fr1 t 0 (by omega)]; exact hth
    have w1 : V1 t 1 = .ref nl := by rw [far t 1 (Ne.symm hat)]; exact v1
    have w2 : V1 t 2 = .ref (ob_top nl t0) := by rw [far t 2 (Ne.symm hat)]; exact v2
    have na : nl ≠ a := Ne.symm a2
    have hn1 : ob_nil T V1 nl := ⟨hn.1, by rw [far nl 3 na]; exact hn.2.1, by rw [far nl 4 na]; exact hn.2.2.1, by rw [far nl 6 na]; exact hn.2.2.2.1, by rw [far nl 7 na]; exact hn.2.2.2.2⟩
    have hsm : -1000000 ≤ ob_cmp (K fresh).1 (K a).1 ∧ ob_cmp (K fresh).1 (K a).1 ≤ 1000000 := by
      obtain ⟨-, -, -, b, s, -, -, -, hbs, -⟩ := hf
      obtain ⟨-, -, -, b', s', -, -, -, hbs', -⟩ := hand
      exact ob_cmp_small hbs.app.1.lt hbs'.app.1.lt (by omega) (by omega)
    have hnd2 := hnd
    simp only [ob_ads, List.nodup_append, List.nodup_cons, List.mem_append, List.mem_cons] at hnd2
    obtain ⟨nz, ⟨nl1, ⟨nr0, nr1⟩, nlr⟩, nzz⟩ := hnd2
    have naz : a ∉ ob_zads z := fun h => nzz a h a (Or.inr (Or.inl rfl)) rfl
    have nal : a ∉ ob_ads l := fun h => nlr a h a (Or.inl rfl) rfl
    have tl1 : ob_tm V1 nl l a := ob_tm_congr (fun b hb j _ _ => far b j (fun e => nal (by rw [← e]; exact hb))) tl
    have tr1 : ob_tm V1 nl r a := ob_tm_congr (fun b hb j _ _ => far b j (fun e => nr0 (by rw [← e]; exact hb))) tr
    have hz1 : ob_zm V1 nl z a (ob_siz (.inner q a c l r) + 1) := ob_zm_congr (fun b hb j _ _ => far b j (fun e => naz (by rw [← e]; exact hb))) hz
    have b3 : V1 a 3 = .ref (ob_top nl l) := by rw [own 3 (by decide)]; exact a3
    have b4 : V1 a 4 = .ref (ob_top nl r) := by rw [own 4 (by decide)]; exact a4
    have b5 : V1 a 5 = .ref (ob_zp nl z) := by rw [own 5 (by decide)]; exact a5
    have b6 : V1 a 6 = ob_cv c := by rw [own 6 (by decide)]; exact a6
    have hKso : ob_so K (ob_zl z ++ (ob_ads l ++ a :: ob_ads r) ++ ob_zr z) := by
      have := hso; rw [hLe, e0, ob_ads_plug] at this; simpa [ob_ads] using this
    refine og_aload dX4_link_33 rfl rfl ?_
    refine og_astore_n dX4_link_35 (by decide) rfl ?_
    refine og_aload_n dX4_link_36 rfl rfl ?_
    refine og_getf dX4_link_37 kfX4_9 (by assumption) (by assumption) ?_
    refine og_aload_n dX4_link_40 rfl rfl ?_
    refine og_aload dX4_link_41 rfl rfl ?_
    refine og_callVe dX4_link_43 kvX4_54 (ct_compareNodes (fr1.hb ht hAT h1) (fr1.nd ht hf) (fr1.nd ht hand)) rfl hb9 rfl rfl ⟨Nat.le_trans (by decide) hR.1, Nat.le_trans (by decide) hR.2⟩ hk hs (Nat.le_of_ble_eq_true rfl) rfl ?_
    refine og_if_ge (tgt := 53) dX4_link_46 (by decide) (fun hc => ?_) (fun hc => ?_)
    · have hd1 : 0 ≤ ob_cmp (K fresh).1 (K a).1 := (iI_le hsm.1 hsm.2).mp hc
      have hd2 : ob_cmp (K fresh).1 (K a).1 ≠ 0 := fun e => hne a haL (ob_cmp_0.mp e).symm
      have hd3 : ob_cmp (K a).1 (K fresh).1 < 0 := by rw [ob_cmp_neg]; omega
      refine og_iconst (v := 1) dX4_link_53 (by decide) ?_
      refine og_istore_n dX4_link_54 (by decide) ?_
      refine og_aload dX4_link_55 rfl rfl ?_
      refine og_iload_n dX4_link_57 rfl ?_
      refine og_callVe dX4_link_58 kvX4_58 (ct_child (d := false) a1 b4) rfl a1 rfl rfl ⟨Nat.le_trans (by decide) hR.1, Nat.le_trans (by decide) hR.2⟩ hk hs (Nat.le_of_ble_eq_true rfl) rfl ?_
      refine og_astore dX4_link_61 (by decide) rfl ?_
      refine og_goto (tgt := 13) dX4_link_63 (by decide) ?_
      refine og_lv [(0, .ref t), (1, .ref fresh), (2, .ref (ob_zp nl ((false, a, c, l, q) :: z))), (3, .int (ob_zs9 ((false, a, c, l, q) :: z))), (4, .ref (ob_top nl r))] rfl ?_
      refine ihr V1 ((false, a, c, l, q) :: z) w1 w2 hn1 (by rw [far nl 5 na]; exact hn5) (ob_zm_cons.mpr ⟨b4, b3, b5, b6, ?_, tl1, ?_⟩) tr1 ?_ ?_ e0 fr1 ?_ (fun x hx => hzr x (by simpa [ob_zr] using hx))
      · rw [o7]; congr 2; omega
      · simp only [ob_siz] at hz1
        rw [show ob_siz r + 1 + ob_siz l + 1 = ob_siz l + ob_siz r + 1 + 1 by omega]; exact hz1
      · intro x hx
        refine hTa x ?_
        simp only [List.mem_append, ob_zads, ob_ads, List.mem_cons] at hx ⊢
        grind
      · simp only [ob_zads, ob_ads, List.cons_append, List.nodup_cons, List.mem_append, List.append_assoc, List.nodup_append, List.mem_cons] at hnd ⊢
        grind
      · intro x hx
        simp only [ob_zl, Bool.false_eq_true, if_false, List.mem_append, List.mem_singleton] at hx
        rcases hx with hx | hx | rfl
        · exact hzl x hx
        · refine ob_cmp_tr ?_ hd3
          have h9 := (List.pairwise_append.mp (List.pairwise_append.mp hKso).1).2.1
          exact (ob_so.split h9).2.2.1 x hx
        · exact hd3
    · have hd3 : ob_cmp (K fresh).1 (K a).1 < 0 := by
        rcases Int.lt_or_le (ob_cmp (K fresh).1 (K a).1) 0 with h | h
        · exact h
        · exact absurd ((iI_le hsm.1 hsm.2).mpr h) hc
      refine og_iconst (v := 0) dX4_link_49 (by decide) ?_
      refine og_goto (tgt := 54) dX4_link_50 (by decide) ?_
      refine og_istore_n dX4_link_54 (by decide) ?_
      refine og_aload dX4_link_55 rfl rfl ?_
      refine og_iload_n dX4_link_57 rfl ?_
      refine og_callVe dX4_link_58 kvX4_58 (ct_child (d := true) a1 b3) rfl a1 rfl rfl ⟨Nat.le_trans (by decide) hR.1, Nat.le_trans (by decide) hR.2⟩ hk hs (Nat.le_of_ble_eq_true rfl) rfl ?_
      refine og_astore dX4_link_61 (by decide) rfl ?_
      refine og_goto (tgt := 13) dX4_link_63 (by decide) ?_
      refine og_lv [(0, .ref t), (1, .ref fresh), (2, .ref (ob_zp nl ((true, a, c, r, q) :: z))), (3, .int (ob_zs9 ((true, a, c, r, q) :: z))), (4, .ref (ob_top nl l))] rfl ?_
      refine ihl V1 ((true, a, c, r, q) :: z) w1 w2 hn1 (by rw [far nl 5 na]; exact hn5) (ob_zm_cons.mpr ⟨b3, b4, b5, b6, ?_, tr1, ?_⟩) tl1 ?_ ?_ e0 fr1 (fun x hx => hzl x (by simpa [ob_zl] using hx)) ?_
      · rw [o7]; congr 2; omega
      · simp only [ob_siz] at hz1
        rw [show ob_siz l + 1 + ob_siz r + 1 = ob_siz l + ob_siz r + 1 + 1 by omega]; exact hz1
      · intro x hx
        refine hTa x ?_
        simp only [List.mem_append, ob_zads, ob_ads, List.mem_cons] at hx ⊢
        grind
      · simp only [ob_zads, ob_ads, List.cons_append, List.nodup_cons, List.mem_append, List.append_assoc, List.nodup_append, List.mem_cons] at hnd ⊢
        grind
      · intro x hx
        simp only [ob_zr, if_true, List.cons_append, List.mem_cons, List.mem_append] at hx
        rcases hx with rfl | hx | hx
        · exact hd3
        · refine ob_cmp_tr hd3 ?_
          have h9 := (List.pairwise_append.mp (List.pairwise_append.mp hKso).1).2.1
          exact (ob_so.split h9).2.2.2 x hx
        · exact hzr x hx
theorem ct_link {V : ob_V} {t nl hp hb cap fresh N : Nat} {K : ob_k} {tt : ob_t} (h : ob_tr T V t nl tt) (hth : V t 0 = .ref hp) (h1 : ob_hb T V hp hb cap) (hf : ob_nd T V B hb cap fresh (K fresh).1 (K fresh).2) (hfl : (K fresh).1.length ≤ 64) (hfn : fresh ≠ nl) (hfL : fresh ∉ ob_ads tt) (hns : ob_ns T V B hb cap K (ob_ads tt)) (hne : ∀ x ∈ ob_ads tt, (K x).1 ≠ (K fresh).1) (hrb : ob_rb tt N) (hrd : ob_red tt = false) (hsz : ob_siz tt ≤ 1023) (hso : ob_so K (ob_ads tt)) : ob_C X mX4_link 4 0 0 [.ref t, .ref fresh] (T, V, B, J) (ob_linked T B J t nl fresh K (ob_ads tt) V) := by
  refine ob_C_of (by decide) rfl (Nat.le_of_ble_eq_true rfl) ?_
  obtain ⟨ht, hnl, hroot, hn, hn5, hsub, hnd⟩ := h
  refine og_aload_n dX4_link_0 rfl rfl ?_
  refine og_getf dX4_link_1 kfX4_20 (by assumption) (by assumption) ?_
  refine og_astore_n dX4_link_4 (by decide) rfl ?_
  refine og_iconst (v := 0) dX4_link_5 (by decide) ?_
  refine og_istore_n dX4_link_6 (by decide) ?_
  refine og_aload_n dX4_link_7 rfl rfl ?_
  refine og_getf dX4_link_8 kfX4_33 (by assumption) (by assumption) ?_
  refine og_astore dX4_link_11 (by decide) rfl ?_
  refine og_lv [(0, .ref t), (1, .ref fresh), (2, .ref (ob_zp nl [])), (3, .int (ob_zs9 [])), (4, .ref (ob_top nl tt))] rfl ?_
  exact link_loop ⟨by decide, by decide⟩ (Nat.le_refl _) (Nat.le_refl _) ht hth h1 hf hfl hfn hfL hns hne rfl hrb hrd hsz hso tt V [] hnl hroot hn hn5 trivial hsub.1 (fun a ha => hsub.2 a ha) hnd rfl ob_fr.rf (fun x hx => by simp [ob_zl] at hx) (fun x hx => by simp [ob_zr] at hx)
end OBK
