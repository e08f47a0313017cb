/-! unlink, whole -/
theorem ob_zt.up_app {T : ob_T} {V : ob_V} {t nl : Nat} : ∀ (zz : List ob_f) {z : List ob_f} {tt : ob_t}, ob_zt T V t nl (zz ++ z) tt → ob_zt T V t nl z (ob_plug zz tt)
  | [], z, tt, h => h
  | (d, a, c, b, q) :: zz, z, tt, h => by
    rw [ob_plug_mk]
    exact ob_zt.up_app zz (ob_zt.up h)
theorem ob_zads_app : ∀ (z1 z2 : List ob_f), ob_zads (z1 ++ z2) = ob_zads z1 ++ ob_zads z2
  | [], _ => rfl
  | (d, a, c, b, q) :: z1, z2 => by simp [ob_zads, ob_zads_app z1 z2]
section OBU3
variable {X : ob_X} {T : ob_T} {B : ob_B} {J : ob_J} {R : Room} {k n : Nat}
/-- what is right behind the cut -/
theorem after_cut {Z Z' : List ob_f} {l r : ob_t} {qy y N : Nat} {cy : Bool} (hrb : ob_rb (ob_plug Z (.inner qy y cy l r)) N) (hred : ob_red (ob_plug Z (.inner qy y cy l r)) = false) (hlr : l = .leaf ∨ r = .leaf) (hzk : ∀ m, ob_zk Z m → ob_zk Z' m) (hzr : ob_zr9 Z' → ob_zr9 Z) (hne : Z ≠ [] → Z' ≠ []) : ((!cy) = true ∧ ob_zk Z' (0 + 1) ∧ ob_lack (ob_heir l r) 0) ∨ ((!cy) = false ∧ ∃ N, ob_rb (ob_plug Z' (ob_heir l r)) N ∧ ob_red (ob_plug Z' (ob_heir l r)) = false) := by
  obtain ⟨m, h1, h2, h3, h4⟩ := ob_plug_zk hrb hred
  cases cy with
  | true =>
    refine Or.inr ⟨rfl, ?_⟩
    obtain ⟨e1, e2, e3, e4⟩ := (ob_rb_r (d := true) (q := qy) (a := y)).mp h2
    have hh1 : ob_red (ob_heir l r) = false := by cases l with | leaf => exact e2 | inner q9 a9 c9 l9 r9 => exact e1
    have hh2 : ob_rb (ob_heir l r) m := by cases l with | leaf => exact e4 | inner q9 a9 c9 l9 r9 => exact e3
    obtain ⟨N', g1, g2, -⟩ := ob_zk_plug (t := ob_heir l r) (hzk m h1) hh2 (fun _ => hh1)
    refine ⟨N', g1, g2 (hne (fun e => ?_))⟩
    have := h4 e; cases this
  | false =>
    obtain ⟨j, rfl, e1, e2⟩ := (ob_rb_b' (d := true) (q := qy) (a := y)).mp h2
    have ej : j = 0 := by
      rcases hlr with rfl | rfl
      · exact e1
      · exact e2
    subst ej
    refine Or.inl ⟨rfl, hzk _ h1, ?_⟩
    have hh2 : ob_rb (ob_heir l r) 0 := by cases l with | leaf => exact e2 | inner q9 a9 c9 l9 r9 => exact e1
    cases hc : ob_red (ob_heir l r) with
    | false => exact Or.inl ⟨hc, hh2⟩
    | true =>
      obtain ⟨q9, a9, s9, u9, e9⟩ := ob_red_cases hc true
      rw [e9] at hh2
      obtain ⟨-, -, g3, g4⟩ := ob_rb_r.mp hh2
      exact Or.inr ⟨true, q9, a9, s9, u9, e9, g3, g4⟩
theorem ct_unlink {V : ob_V} {t nl g N : Nat} {tt : ob_t} (h : ob_tr T V t nl tt) (hg : g ∈ ob_ads tt) (hrb : ob_rb tt N) (hred : ob_red tt = false) (hsz : ob_siz tt ≤ 1024) : ob_C X mX4_unlink 5 0 0 [.ref t, .ref g] (T, V, B, J) (ob_unlinked T B J t nl g (ob_ads tt) V) := by
  obtain ⟨z0, q, c, l, r, e0⟩ := ob_split tt g [] hg
  have e0 : tt = ob_plug z0 (.inner q g c l r) := e0
  subst e0
  have hzt := h.zt
  have hsub := h.2.2.2.2.2.1
  obtain ⟨ht, hnl, hroot, hn, hz, htm, hTa, hnd⟩ := id hzt
  have hs2 : ob_sub T V nl (.inner q g c l r) (ob_zp nl z0) := ⟨htm, fun x hx => hTa x (by simp [hx])⟩
  obtain ⟨g1, g2⟩ := hs2.a
  have g3 := htm.1
  have g4 := htm.2.1
  have hlen : ∀ (Z : List ob_f) (qy y : Nat) (cy : Bool) (ly ry : ob_t), ob_plug z0 (.inner q g c l r) = ob_plug Z (.inner qy y cy ly ry) → Z.length ≤ 40 := by
    intro Z qy y cy ly ry e
    rw [e] at hrb hred hsz
    obtain ⟨m, k1, k2, k3, -⟩ := ob_plug_zk hrb hred
    exact ob_len_z k1 k2 k3 hsz
  have adsE : ob_ads (ob_plug z0 (.inner q g c l r)) = (ob_zl z0 ++ ob_ads l) ++ g :: (ob_ads r ++ ob_zr z0) := by rw [ob_ads_plug]; simp [ob_ads]
  refine ob_C_of (by decide) rfl (Nat.le_of_ble_eq_true rfl) ?_
  -- one child is wanting: the node itself leaves
  have one : (l = .leaf ∨ r = .leaf) → ob_G X mX4_unlink (ob_rm 5 0 0) (ob_unlinked T B J t nl g (ob_ads (ob_plug z0 (.inner q g c l r))) V) 22 [(0, .ref t), (1, .ref g)] [] (T, V, B, J) 0 0 := by
    intro hlr
    refine og_aload_n dX4_unlink_22 rfl rfl ?_
    refine og_goto (tgt := 34) dX4_unlink_23 (by decide) ?_
    refine cut_out ⟨by decide, by decide⟩ (by decide) (by decide) hzt hlr (fun V1 hz1 h15 hfr1 => ?_)
    refine og_aload_n dX4_unlink_106 rfl rfl ?_
    refine og_aload_n dX4_unlink_107 rfl rfl ?_
    refine og_acmp_eq (tgt := 117) dX4_unlink_108 (by decide) (fun _ => ?_) (fun z9 => absurd (rfl) z9)
    refine unlink_end (m := 0) ⟨by decide, by decide⟩ (by decide) (by decide) hz1 h15 (after_cut hrb hred hlr (fun _ h9 => h9) (fun h9 => h9) (fun h9 => h9)) (Nat.le_trans (hlen _ _ _ _ _ _ rfl) (by decide)) adsE ?_ (fun a j hb => hfr1 a j (fun h9 => hb (h9.imp id (fun h8 => ⟨?_, h8.2⟩))))
    · rw [ob_ads_plug]
      rcases hlr with rfl | rfl
      · simp [ob_heir, ob_ads]
      · cases l <;> simp [ob_heir, ob_ads]
    · have h7 := h8.1
      simp only [List.mem_cons, List.mem_append] at h7 ⊢
      rw [ob_mem_plug]
      exact h7
  refine og_lv [(0, .ref t), (1, .ref g)] rfl ?_
  refine og_aload_n dX4_unlink_0 rfl rfl ?_
  refine og_getf dX4_unlink_1 kfX4_24 (by assumption) (by assumption) ?_
  refine og_aload_n dX4_unlink_4 rfl rfl ?_
  refine og_getf dX4_unlink_5 kfX4_20 (by assumption) (by assumption) ?_
  refine og_acmp_eq (tgt := 22) dX4_unlink_8 (by decide) (fun hc => ?_) (fun hc => ?_)
  · exact one (Or.inl ((ob_top_eq hs2.l).mp hc))
  · have hl : l ≠ .leaf := fun e => hc ((ob_top_eq hs2.l).mpr e)
    refine og_aload_n dX4_unlink_11 rfl rfl ?_
    refine og_getf dX4_unlink_12 kfX4_27 (by assumption) (by assumption) ?_
    refine og_aload_n dX4_unlink_15 rfl rfl ?_
    refine og_getf dX4_unlink_16 kfX4_20 (by assumption) (by assumption) ?_
    refine og_acmp_ne (tgt := 26) dX4_unlink_19 (by decide) (fun hd => ?_) (fun hd => ?_)
    · have hr : r ≠ .leaf := fun e => hd ((ob_top_eq hs2.r).mpr e)
      refine og_aload_n dX4_unlink_26 rfl rfl ?_
      refine og_aload_n dX4_unlink_27 rfl rfl ?_
      refine og_getf dX4_unlink_28 kfX4_27 (by assumption) (by assumption) ?_
      refine og_callVn dX4_unlink_31 kvX4_73 (ct_least ht hnl hs2.r hr) rfl ht rfl rfl ⟨by decide, by decide⟩ (by decide) (by decide) (Nat.le_of_ble_eq_true rfl) rfl (fun E w' h9 => by obtain ⟨-, _, _, _, _, _, -, -, h8⟩ := h9; cases h8) (fun v w' h9 => ?_)
      obtain ⟨rfl, zz, qy, y, cy, ry, er, hzl, hv⟩ := h9
      cases hv
      have eZ : ob_plug z0 (.inner q g c l r) = ob_plug (zz ++ (false, g, c, l, q) :: z0) (.inner qy y cy .leaf ry) := by rw [ob_plug_app, ← er]; rfl
      have hZ : ob_zt T V t nl (zz ++ (false, g, c, l, q) :: z0) (.inner qy y cy .leaf ry) := by
        refine ob_zt.down_app zz ?_
        rw [← er]
        exact ob_zt.down false hzt
      have hyr : y ∈ ob_ads r := by rw [er]; exact ob_mem_plug.mpr (Or.inr (by simp [ob_ads]))
      have hyg : y ≠ g := by
        intro e
        have := hnd
        simp only [ob_ads, List.nodup_append, List.nodup_cons] at this
        exact this.2.1.2.1.1 (by rw [← e]; exact hyr)
      have hy1 := hTa y (by simp [ob_ads, hyr])
      have hyz : y ∉ ob_zads z0 ++ ob_ads (.inner q g c l (ob_plug zz ry)) := by
        have h9 := hZ.2.2.2.2.2.2.2
        rw [ob_zads_app] at h9
        simp only [ob_zads, ob_ads, List.nil_append, List.nodup_append, List.nodup_cons, List.mem_append, List.mem_cons, List.append_assoc, List.cons_append] at h9
        simp only [List.mem_append, ob_ads, List.mem_cons, ob_mem_plug]
        grind
      refine cut_out ⟨by decide, by decide⟩ (by decide) (by decide) hZ (Or.inl rfl) (fun V1 hz1 h15 hfr1 => ?_)
      have hz1' : ob_zt T V1 t nl z0 (.inner q g c l (ob_plug zz ry)) := ob_zt.up (ob_zt.up_app zz hz1)
      have hg1 := g1
      refine og_aload_n dX4_unlink_106 rfl rfl ?_
      refine og_aload_n dX4_unlink_107 rfl rfl ?_
      refine og_acmp_eq (tgt := 117) dX4_unlink_108 (by decide) (fun z9 => absurd z9 (hyg)) (fun _ => ?_)
      refine og_aload_n dX4_unlink_111 rfl rfl ?_
      refine og_aload_n dX4_unlink_112 rfl rfl ?_
      refine og_aload_n dX4_unlink_113 rfl rfl ?_
      refine og_callVn dX4_unlink_114 kvX4_81 (ct_takeOver hz1' hl hy1.1 hy1.2 hyz) rfl ht rfl rfl ⟨by decide, by decide⟩ (by decide) (by decide) (Nat.le_of_ble_eq_true rfl) rfl (fun E w' h9 => by cases h9.1) (fun v w' h9 => ?_)
      obtain ⟨hv, V2, rfl, hz2, n1, n2, hfr2⟩ := h9
      cases hv
      have hz3 : ob_zt T V2 t nl (zz ++ (false, y, c, l, q) :: z0) ry := ob_zt.down_app zz (ob_zt.down false hz2)
      have h25 : V2 (ob_top nl ry) 5 = .ref (ob_zp nl (zz ++ (false, y, c, l, q) :: z0)) := by
        cases hry : ry with
        | inner q9 a9 c9 l9 r9 => subst hry; exact hz3.2.2.2.2.2.1.2.2.1
        | leaf =>
          subst hry
          cases zz with
          | nil => exact n1 rfl
          | cons f zz =>
            obtain ⟨d', a', c', b', q'⟩ := f
            have h26 := n2 (by
              rw [ob_plug_mk]
              intro e
              have : ob_ads (ob_plug zz (ob_mkn d' q' a' c' .leaf b')) = [] := by rw [e]; rfl
              have h27 : a' ∈ ob_ads (ob_plug zz (ob_mkn d' q' a' c' .leaf b')) := ob_mem_plug.mpr (Or.inr (ob_mem_mk.mpr (Or.inl rfl)))
              rw [this] at h27; cases h27)
            show V2 nl 5 = _
            rw [h26]
            exact h15
      have memA : ∀ a, a ∈ ob_zads (zz ++ (false, g, c, l, q) :: z0) ++ ob_ads (.inner qy y cy .leaf ry) ↔ a ∈ ob_ads (ob_plug z0 (.inner q g c l r)) := by
        intro a
        rw [eZ, ob_mem_plug, List.mem_append]
      refine og_lv [(0, .ref t), (1, .ref g), (2, .ref y), (3, .ref (ob_top nl ry)), (4, ob_cv (!cy))] (by cases cy <;> rfl) ?_
      refine unlink_end (m := 0) ⟨by decide, by decide⟩ (by decide) (by decide) hz3 h25 ?_ ?_ adsE ?_ ?_
      · have := after_cut (Z := zz ++ (false, g, c, l, q) :: z0) (Z' := zz ++ (false, y, c, l, q) :: z0) (l := .leaf) (r := ry) (qy := qy) (y := y) (cy := cy) (N := N) (by rw [← eZ]; exact hrb) (by rw [← eZ]; exact hred) (Or.inl rfl) (fun m h9 => ob_zk_addr zz z0 false g y c l q q m h9) (fun h9 => ob_zr9_addr zz z0 false g y c l q q h9) (fun _ => by simp)
        exact this
      · have := hlen _ _ _ _ _ _ eZ
        simp only [List.length_append, List.length_cons] at this ⊢
        omega
      · rw [ob_plug_app, ob_plug_mk, ob_ads_plug]
        rw [er]
        simp only [ob_mkn, Bool.false_eq_true, if_false, ob_ads, ob_ads_plug, hzl]
        simp
      · refine ob_fr.tr (A := nl :: ob_ads (ob_plug z0 (.inner q g c l r))) (A' := nl :: y :: (ob_zads z0 ++ ob_ads (.inner q g c l (ob_plug zz ry)))) (V1 := V1) (fun a j hb => hfr1 a j (fun h9 => hb (h9.imp id (fun h8 => ⟨?_, h8.2⟩)))) hfr2 (fun a ha => ?_)
        · rcases List.mem_cons.mp h8.1 with h7 | h7
          · rw [h7]; simp
          · exact List.mem_cons_of_mem _ ((memA a).mp h7)
        · rcases List.mem_cons.mp ha with h7 | h7
          · rw [h7]; simp
          · refine List.mem_cons_of_mem _ ((memA a).mp ?_)
            rw [ob_zads_app]
            simp only [List.mem_cons, List.mem_append, ob_ads, ob_mem_plug, ob_zads] at h7 ⊢
            grind
    · exact one (Or.inr ((ob_top_eq hs2.r).mp hd))
end OBU3
