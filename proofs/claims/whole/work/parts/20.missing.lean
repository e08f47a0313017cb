/-! mendMissingBlack -/
section OBZ
variable {X : ob_X} {T : ob_T} {B : ob_B} {J : ob_J} {R : Room} {k n : Nat}
/-- the end of mending a missing black -/
def ob_filled (T : ob_T) (B : ob_B) (J : ob_J) (t nl : Nat) (L : List Nat) (V : ob_V) : ob_r → ob_w → Prop := fun r w' => r = .inl none ∧ ∃ V' tt N, w' = (T, V', B, J) ∧ ob_zt T V' t nl [] tt ∧ ob_rb tt N ∧ ob_red tt = false ∧ ob_ads tt = L ∧ ob_fr t L V V'
/-- a tree that lacks one black, or whose red root may become black -/
def ob_lack (tt : ob_t) (m : Nat) : Prop := (ob_red tt = false ∧ ob_rb tt m) ∨ ∃ d q a s u, tt = ob_mkn d q a true s u ∧ ob_rb s m ∧ ob_rb u m
theorem ob_zads_len {z : List ob_f} {b : ob_t} {d c : Bool} {a q : Nat} : ob_zads ((d, a, c, b, q) :: z) = a :: (ob_ads b ++ ob_zads z) := rfl
theorem black_end {V0 V : ob_V} {t nl m : Nat} {z : List ob_f} {tt : ob_t} {L : List Nat} (hk : k ≤ R.cells) (hs : n ≤ R.slots) (h : ob_zt T V t nl z tt) (hl : ob_lack tt m) (hz : ob_zk z (m + 1)) (hx : z = [] ∨ ob_red tt = true) (hL : ob_ads (ob_plug z tt) = L) (hfr : ob_fr t L V0 V) : ob_G X mX4_mendMissingBlack R (ob_filled T B J t nl L V0) 147 [(2, .ref (ob_top nl tt))] [] (T, V, B, J) k n := by
  cases tt with
  | leaf =>
    have hn := h.2.2.2.1
    have hn1 := hn.1
    rcases hx with rfl | hx
    · refine og_aload_n dX4_mendMissingBlack_147 rfl rfl ?_
      refine og_iconst (v := 0) dX4_mendMissingBlack_148 (by decide) ?_
      refine og_put dX4_mendMissingBlack_149 kfX4_61 hn1 rfl rfl ?_
      refine og_w (T, V, B, J) ?_ ?_
      · have : ob_set V nl 6 (.int 0) = V := by
          funext b j
          by_cases h9 : b = nl ∧ j = 6
          · rw [h9.1, h9.2, ob_set_s]; exact hn.2.2.2.1.symm
          · exact if_neg h9
        exact congrArg (fun v => (T, v, B, J)) this
      exact og_return rfl dX4_mendMissingBlack_152 hk hs ⟨rfl, V, .leaf, 0, rfl, h, rfl, rfl, hL, hfr⟩
    · cases hx
  | inner q a c l r =>
    have h' : ob_zt T V t nl z (ob_mkn true q a c l r) := h
    obtain ⟨a1, a2, -⟩ := h'.foc
    have a1 : T (ob_top nl (.inner q a c l r)) = some (2, 0) := a1
    refine og_aload_n dX4_mendMissingBlack_147 rfl rfl ?_
    refine og_iconst (v := 0) dX4_mendMissingBlack_148 (by decide) ?_
    refine og_put dX4_mendMissingBlack_149 kfX4_61 a1 rfl rfl ?_
    have h2 := h'.col false
    have rb2 : ∃ M, ob_rb (ob_mkn true q a false l r) M ∧ (z = [] ∨ M = m + 1) := by
      rcases hl with ⟨h3, h4⟩ | ⟨d, q', a', s, u, e, h5, h6⟩
      · rcases hx with hx | hx
        · have : c = false := h3
          subst this
          exact ⟨m, h4, Or.inl hx⟩
        · rw [h3] at hx; cases hx
      · refine ⟨m + 1, ?_, Or.inr rfl⟩
        cases d with
        | true => simp only [ob_mkn, if_true] at e; cases e; exact ob_rb_b.mpr ⟨h5, h6⟩
        | false => simp only [ob_mkn, Bool.false_eq_true, if_false] at e; cases e; exact ob_rb_b.mpr ⟨h6, h5⟩
    obtain ⟨M, rM, hM⟩ := rb2
    have zM : ob_zk z M := by
      rcases hM with rfl | rfl
      · trivial
      · exact hz
    obtain ⟨N, g1, g2, -⟩ := ob_zk_plug (t := ob_mkn true q a false l r) zM rM (fun _ => ob_red_mk ..)
    have red0 : ob_red (ob_plug z (ob_mkn true q a false l r)) = false := by
      cases z with
      | nil => exact ob_red_mk ..
      | cons f z => exact g2 (by simp)
    refine og_return rfl dX4_mendMissingBlack_152 hk hs ⟨rfl, _, _, N, rfl, h2.whole, g1, red0, ?_, hfr.set ?_ (by omega)⟩
    · rw [← hL]; exact ob_ads_plug2 (ob_ads_col true q a false c l r)
    · rw [← hL]; simp [ob_mem_plug, ob_ads, ob_top]
theorem black_loop {V0 : ob_V} {t nl : Nat} {L : List Nat} (hR : 4 ≤ R.frames ∧ 240 ≤ R.locals) (hk : k ≤ R.cells) (hs : n ≤ R.slots) : ∀ (f : Nat) (V : ob_V) (z : List ob_f) (m i : Nat) (tt : ob_t), z.length ≤ f → z.length + i ≤ 62 → ob_zt T V t nl z tt → V (ob_top nl tt) 5 = .ref (ob_zp nl z) → ob_zk z (m + 1) → ob_lack tt m → ob_ads (ob_plug z tt) = L → ob_fr t L V0 V →
    ob_G X mX4_mendMissingBlack R (ob_filled T B J t nl L V0) 4 [(0, .ref t), (2, .ref (ob_top nl tt)), (3, .int (nI i))] [] (T, V, B, J) k n := by
  intro f
  induction f with
  | zero =>
    intro V z m i tt hf hi h h5 hz hl hL hfr
    have ez : z = [] := List.length_eq_zero_iff.mp (by omega)
    subst ez
    have ht := h.1
    have hroot : V t 2 = .ref (ob_top nl tt) := h.2.2.1
    refine og_iload_n dX4_mendMissingBlack_4 rfl ?_
    refine og_bipush (v := 64) dX4_mendMissingBlack_5 (by decide) ?_
    refine og_icmp_ge (tgt := 147) dX4_mendMissingBlack_7 (by decide) (fun z9 => absurd z9 (ob_64 (by omega))) (fun _ => ?_)
    refine og_aload_n dX4_mendMissingBlack_10 rfl rfl ?_
    refine og_aload_n dX4_mendMissingBlack_11 rfl rfl ?_
    refine og_getf dX4_mendMissingBlack_12 kfX4_33 (by assumption) (by assumption) ?_
    refine og_acmp_eq (tgt := 147) dX4_mendMissingBlack_15 (by decide) (fun _ => ?_) (fun z9 => absurd (rfl) z9)
    refine og_lv [(2, .ref (ob_top nl tt))] rfl ?_
    exact black_end hk hs h hl hz (Or.inl rfl) hL hfr
  | succ f ih =>
    intro V z m i tt hf hi h h5 hz hl hL hfr
    have ht := h.1
    cases z with
    | nil =>
      have hroot : V t 2 = .ref (ob_top nl tt) := h.2.2.1
      refine og_iload_n dX4_mendMissingBlack_4 rfl ?_
      refine og_bipush (v := 64) dX4_mendMissingBlack_5 (by decide) ?_
      refine og_icmp_ge (tgt := 147) dX4_mendMissingBlack_7 (by decide) (fun z9 => absurd z9 (ob_64 (by simp at hi; omega))) (fun _ => ?_)
      refine og_aload_n dX4_mendMissingBlack_10 rfl rfl ?_
      refine og_aload_n dX4_mendMissingBlack_11 rfl rfl ?_
      refine og_getf dX4_mendMissingBlack_12 kfX4_33 (by assumption) (by assumption) ?_
      refine og_acmp_eq (tgt := 147) dX4_mendMissingBlack_15 (by decide) (fun _ => ?_) (fun z9 => absurd (rfl) z9)
      refine og_lv [(2, .ref (ob_top nl tt))] rfl ?_
      exact black_end hk hs h hl hz (Or.inl rfl) hL hfr
    | cons fr1 z =>
      obtain ⟨d, top, c, sib, q⟩ := fr1
      have hroot := h.2.2.1
      have hn := h.2.2.2.1
      have hnd := h.2.2.2.2.2.2.2
      have hTa := h.2.2.2.2.2.2.1
      obtain ⟨lo1, -, lo6⟩ := ob_sub.top (p := ob_zp nl ((d, top, c, sib, q) :: z)) hn ⟨h.2.2.2.2.2.1, fun x hx => hTa x (by simp [hx])⟩
      have hnr : ob_top nl tt ≠ ob_top nl (ob_plug ((d, top, c, sib, q) :: z) tt) := by
        have hmem : ob_top nl (ob_plug ((d, top, c, sib, q) :: z) tt) ∈ ob_zads ((d, top, c, sib, q) :: z) := by
          have : ∀ (z : List ob_f) (t9 : ob_t), z ≠ [] → ob_top nl (ob_plug z t9) ∈ ob_zads z := by
            intro z
            induction z with
            | nil => intro _ h9; exact absurd rfl h9
            | cons f z ihz =>
              obtain ⟨d', a', c', b', q'⟩ := f
              intro t9 _
              rw [ob_plug_mk]
              cases z with
              | nil => simp [ob_plug, ob_top_mk, ob_zads]
              | cons f2 z2 =>
                have := ihz (ob_mkn d' q' a' c' t9 b') (by simp)
                rw [ob_zads_len]
                simp [this]
          exact this _ _ (by simp)
        intro e
        rw [← e] at hmem
        cases tt with
        | leaf => exact (hTa nl (by simp only [List.mem_append]; exact Or.inl hmem)).2 rfl
        | inner q9 a9 c9 l9 r9 =>
          have hmem : a9 ∈ ob_zads ((d, top, c, sib, q) :: z) := hmem
          exact (List.nodup_append.mp hnd).2.2 a9 hmem a9 (by simp [ob_ads]) rfl
      have h5 : V (ob_top nl tt) 5 = .ref top := h5
      cases hred : ob_red tt with
      | true =>
        rw [hred] at lo6
        refine og_iload_n dX4_mendMissingBlack_4 rfl ?_
        refine og_bipush (v := 64) dX4_mendMissingBlack_5 (by decide) ?_
        refine og_icmp_ge (tgt := 147) dX4_mendMissingBlack_7 (by decide) (fun z9 => absurd z9 (ob_64 (by simp at hi; omega))) (fun _ => ?_)
        refine og_aload_n dX4_mendMissingBlack_10 rfl rfl ?_
        refine og_aload_n dX4_mendMissingBlack_11 rfl rfl ?_
        refine og_getf dX4_mendMissingBlack_12 kfX4_33 (by assumption) (by assumption) ?_
        refine og_acmp_eq (tgt := 147) dX4_mendMissingBlack_15 (by decide) (fun z9 => absurd z9 (hnr)) (fun _ => ?_)
        refine og_aload_n dX4_mendMissingBlack_18 rfl rfl ?_
        refine og_getf dX4_mendMissingBlack_19 kfX4_61 (by assumption) (by assumption) ?_
        refine og_if_ne (tgt := 147) dX4_mendMissingBlack_22 (by decide) (fun _ => ?_) (fun z9 => absurd z9 (by decide))
        refine og_lv [(2, .ref (ob_top nl tt))] rfl ?_
        exact black_end hk hs h hl hz (Or.inr hred) hL hfr
      | false =>
        rw [hred] at lo6
        have rt : ob_rb tt m := by
          rcases hl with h9 | ⟨d9, q9, a9, s9, u9, e, -⟩
          · exact h9.2
          · rw [e, ob_red_mk] at hred; cases hred
        have hup := h.up
        obtain ⟨p1, p2, p3, p4, p5, p6⟩ := hup.foc
        have rsib : ob_rb sib (m + 1) := by cases c <;> exact hz.1
        have hsl : sib ≠ .leaf := fun e => by rw [e] at rsib; cases rsib
        have hlt : d = false → ob_top nl tt ≠ ob_top nl sib := by
          intro _ e
          cases sib with
          | leaf => exact hsl rfl
          | inner q9 a9 c9 l9 r9 =>
            have e : ob_top nl tt = a9 := e
            cases tt with
            | leaf => exact (hTa a9 (by simp [ob_zads, ob_ads])).2 e.symm
            | inner q8 a8 c8 l8 r8 =>
              have e : a8 = a9 := e
              exact (List.nodup_append.mp hnd).2.2 a9 (by simp [ob_zads, ob_ads]) a8 (by simp [ob_ads]) e.symm
        have hsd : V top 3 = .ref (if d then ob_top nl tt else ob_top nl sib) := by cases d <;> assumption
        obtain ⟨-, sb1, sb6⟩ := hup.foc2
        have htopL : top ∈ L := by rw [← hL]; simp [ob_plug_mk, ob_mem_plug, ob_mem_mk]
        -- behind the join at 81: the sibling is black
        have join : ∀ (V1 : ob_V) (c1 : Bool) (sib1 : ob_t) (z1 : List ob_f), ob_zt T V1 t nl ((d, top, c1, sib1, q) :: z1) tt → V1 (ob_top nl tt) 5 = .ref top → ob_zk ((d, top, c1, sib1, q) :: z1) (m + 1) → ob_red sib1 = false → ob_ads (ob_plug ((d, top, c1, sib1, q) :: z1) tt) = L → ob_fr t L V0 V1 → z1.length ≤ z.length + 1 → (c1 = true ∨ z1.length ≤ z.length) →
            ob_G X mX4_mendMissingBlack R (ob_filled T B J t nl L V0) 81 [(0, .ref t), (3, .int (nI i)), (4, .ref top), (5, .int (ob_sd d))] [] (T, V1, B, J) k n := by
          intro V1 c1 sib1 z1 hz1 h15 hzk1 hs1 hL1 hfr1 hlen1 hlen2
          have hup1 := hz1.up
          obtain ⟨x1, x2, x3, x4, x5, x6⟩ := hup1.foc
          have rs1 : ob_rb sib1 (m + 1) := by cases c1 <;> exact hzk1.1
          cases sib1 with
          | leaf => cases rs1
          | inner q3 s c3 l3 r3 =>
            have c3f : c3 = false := hs1
            subst c3f
            have hsw : ob_zt T V1 t nl ((!d, top, c1, tt, q) :: z1) (ob_mkn true q3 s false l3 r3) := by
              have h9 := hup1; rw [ob_mkn_swap d q top] at h9; exact h9.down (!d)
            obtain ⟨s1, s2, s3, s4, s5, s6⟩ := hsw.foc
            obtain ⟨⟨l1, l6⟩, r1, r6⟩ := hsw.foc2
            obtain ⟨rl3, rr3⟩ := (ob_rb_b (d := true) (q := q3) (a := s)).mp rs1
            have s3 : V1 s 3 = .ref (ob_top nl l3) := s3
            have s4 : V1 s 4 = .ref (ob_top nl r3) := s4
            have x4 : V1 top (ob_sl (!d)) = .ref s := x4
            have hsL : s ∈ L := by rw [← hL1]; simp [ob_plug_mk, ob_mem_plug, ob_mem_mk, ob_ads]
            refine og_aload dX4_mendMissingBlack_81 rfl rfl ?_
            refine og_iconst (v := 1) dX4_mendMissingBlack_83 (by decide) ?_
            refine og_iload dX4_mendMissingBlack_84 rfl ?_
            refine og_isub dX4_mendMissingBlack_86 ?_
            refine og_st [.int (ob_sd (!d)), .ref top] (by first | (rw [← ob_sd_not]; done) | (rw [← ob_sd_not]; rfl)) ?_
            refine og_callVe dX4_mendMissingBlack_87 kvX4_58 (ct_child (d := !d) x1 x4) rfl x1 rfl rfl ⟨Nat.le_trans (by decide) hR.1, Nat.le_trans (by decide) hR.2⟩ hk hs (Nat.le_of_ble_eq_true rfl) rfl ?_
            refine og_astore dX4_mendMissingBlack_90 (by decide) rfl ?_
            refine og_aload dX4_mendMissingBlack_92 rfl rfl ?_
            refine og_getf dX4_mendMissingBlack_94 kfX4_24 (by assumption) (by assumption) ?_
            refine og_lv [(0, .ref t), (3, .int (nI i)), (4, .ref top), (5, .int (ob_sd d)), (6, .ref s)] rfl ?_
            -- a red nephew
            have give : ob_red l3 = true ∨ ob_red r3 = true → ob_G X mX4_mendMissingBlack R (ob_filled T B J t nl L V0) 114 [(0, .ref t), (3, .int (nI i)), (4, .ref top), (5, .int (ob_sd d)), (6, .ref s)] [] (T, V1, B, J) k n := by
              intro hor
              have hg : ob_zt T V1 t nl z1 (ob_mkn d q top c1 tt (ob_mkn d q3 s false (if d then l3 else r3) (if d then r3 else l3))) := by
                rw [← ob_mkn_of d]; exact hup1
              have rP : ob_rb (if d then l3 else r3) m := by cases d <;> assumption
              have rS : ob_rb (if d then r3 else l3) m := by cases d <;> assumption
              have ror : ob_red (if d then l3 else r3) = true ∨ ob_red (if d then r3 else l3) = true := by cases d <;> simp <;> grind
              refine og_aload_n dX4_mendMissingBlack_114 rfl rfl ?_
              refine og_aload dX4_mendMissingBlack_115 rfl rfl ?_
              refine og_aload dX4_mendMissingBlack_117 rfl rfl ?_
              refine og_iload dX4_mendMissingBlack_119 rfl ?_
              refine og_callVn dX4_mendMissingBlack_121 kvX4_94 (ct_giveBlack hg rt rP rS ror) rfl ht rfl rfl ⟨hR.1, Nat.le_trans (by decide) hR.2⟩ hk hs (Nat.le_of_ble_eq_true rfl) rfl (fun E w' h9 => by cases h9.1) (fun v w' h9 => ?_)
              obtain ⟨hv, V2, t2, rfl, hz2, hrb2, hred2, hL2, hfr2⟩ := h9
              cases hv
              have zk2 : ob_zk z1 (if c1 then m + 1 else m + 2) := by
                cases c1 with
                | true => exact hzk1.2.2.2
                | false => exact hzk1.2
              obtain ⟨N, g1, g2, -⟩ := ob_zk_plug zk2 hrb2 (fun e => by
                cases c1 with
                | false => exact hred2
                | true =>
                  have hzb := hzk1.2.2.1
                  cases z1 with
                  | nil => exact absurd hzb id
                  | cons f9 z9 => obtain ⟨d', a', c', b', q'⟩ := f9; cases c' <;> simp [ob_zr9, ob_zb] at e hzb)
              have red0 : ob_red (ob_plug z1 t2) = false := by
                cases z1 with
                | nil =>
                  cases c1 with
                  | false => exact hred2
                  | true => exact absurd hzk1.2.2.1 id
                | cons f9 z9 => exact g2 (by simp)
              have hz3 := hz2.whole
              have hroot3 : V2 t 2 = .ref (ob_top nl (ob_plug z1 t2)) := hz3.2.2.1
              have hL3 : ob_ads (ob_plug z1 t2) = L := by
                rw [← hL1, ob_plug_mk]
                refine ob_ads_plug2 ?_
                rw [hL2, ← ob_mkn_of d]
              have hfr3 : ob_fr t L V0 V2 := ob_fr.tr hfr1 hfr2 (fun a ha => by
                rw [← hL1, ob_plug_mk]
                rw [← ob_mkn_of d] at ha
                simp only [List.mem_append, ob_mem_plug] at ha ⊢
                exact ha)
              have e2 : (T, V2, B, J).1 t = some (4, 0) := ht
              refine og_aload_n dX4_mendMissingBlack_124 rfl rfl ?_
              refine og_getf dX4_mendMissingBlack_125 kfX4_33 (by assumption) (by assumption) ?_
              refine og_astore_n dX4_mendMissingBlack_128 (by decide) rfl ?_
              refine og_goto (tgt := 141) dX4_mendMissingBlack_129 (by decide) ?_
              refine og_iinc dX4_mendMissingBlack_141 rfl (nI_1 i) (by decide) ?_
              refine og_goto (tgt := 4) dX4_mendMissingBlack_144 (by decide) ?_
              refine og_lv [(0, .ref t), (2, .ref (ob_top nl (ob_plug z1 t2))), (3, .int (nI (i + 1)))] rfl ?_
              refine og_iload_n dX4_mendMissingBlack_4 rfl ?_
              refine og_bipush (v := 64) dX4_mendMissingBlack_5 (by decide) ?_
              refine og_icmp_ge (tgt := 147) dX4_mendMissingBlack_7 (by decide) (fun z9 => absurd z9 (ob_64 (by simp at hi; omega))) (fun _ => ?_)
              refine og_aload_n dX4_mendMissingBlack_10 rfl rfl ?_
              refine og_aload_n dX4_mendMissingBlack_11 rfl rfl ?_
              refine og_getf dX4_mendMissingBlack_12 kfX4_33 (by assumption) (by assumption) ?_
              refine og_acmp_eq (tgt := 147) dX4_mendMissingBlack_15 (by decide) (fun _ => ?_) (fun z9 => absurd (rfl) z9)
              refine og_lv [(2, .ref (ob_top nl (ob_plug z1 t2)))] rfl ?_
              exact black_end (m := N) hk hs hz3 (Or.inl ⟨red0, g1⟩) trivial (Or.inl rfl) hL3 hfr3
            cases hl3 : ob_red l3 with
            | true =>
              rw [hl3] at l6
              refine og_getf dX4_mendMissingBlack_97 kfX4_61 (by assumption) (by assumption) ?_
              refine og_if_ne (tgt := 114) dX4_mendMissingBlack_100 (by decide) (fun _ => ?_) (fun z9 => absurd z9 (by decide))
              exact give (Or.inl hl3)
            | false =>
              rw [hl3] at l6
              cases hr3 : ob_red r3 with
              | true =>
                rw [hr3] at r6
                refine og_getf dX4_mendMissingBlack_97 kfX4_61 (by assumption) (by assumption) ?_
                refine og_if_ne (tgt := 114) dX4_mendMissingBlack_100 (by decide) (fun z9 => absurd (rfl) z9) (fun _ => ?_)
                refine og_aload dX4_mendMissingBlack_103 rfl rfl ?_
                refine og_getf dX4_mendMissingBlack_105 kfX4_27 (by assumption) (by assumption) ?_
                refine og_getf dX4_mendMissingBlack_108 kfX4_61 (by assumption) (by assumption) ?_
                refine og_if_eq (tgt := 132) dX4_mendMissingBlack_111 (by decide) (fun z9 => absurd z9 (by decide)) (fun _ => ?_)
                exact give (Or.inr hr3)
              | false =>
                rw [hr3] at r6
                refine og_getf dX4_mendMissingBlack_97 kfX4_61 (by assumption) (by assumption) ?_
                refine og_if_ne (tgt := 114) dX4_mendMissingBlack_100 (by decide) (fun z9 => absurd (rfl) z9) (fun _ => ?_)
                refine og_aload dX4_mendMissingBlack_103 rfl rfl ?_
                refine og_getf dX4_mendMissingBlack_105 kfX4_27 (by assumption) (by assumption) ?_
                refine og_getf dX4_mendMissingBlack_108 kfX4_61 (by assumption) (by assumption) ?_
                refine og_if_eq (tgt := 132) dX4_mendMissingBlack_111 (by decide) (fun _ => ?_) (fun z9 => absurd (rfl) z9)
                refine og_aload dX4_mendMissingBlack_132 rfl rfl ?_
                refine og_iconst (v := 1) dX4_mendMissingBlack_134 (by decide) ?_
                refine og_put dX4_mendMissingBlack_135 kfX4_61 s1 rfl rfl ?_
                have h2 := (hsw.col true).up
                rw [ob_mkn_swap (!d) q top, Bool.not_not] at h2
                generalize hV2 : ob_set V1 s 6 (ob_cv true) = V2 at h2
                refine og_w (T, V2, B, J) (by rw [← hV2]; rfl) ?_
                have hfr2 : ob_fr t L V0 V2 := by rw [← hV2]; exact hfr1.set hsL (by omega)
                obtain ⟨y1, y2, y3, y4, y5, y6⟩ := h2.foc
                refine og_aload dX4_mendMissingBlack_138 rfl rfl ?_
                refine og_astore_n dX4_mendMissingBlack_140 (by decide) rfl ?_
                refine og_iinc dX4_mendMissingBlack_141 rfl (nI_1 i) (by decide) ?_
                refine og_goto (tgt := 4) dX4_mendMissingBlack_144 (by decide) ?_
                have etop : ob_top nl (ob_mkn d q top c1 tt (ob_mkn true q3 s true l3 r3)) = top := ob_top_mk ..
                refine og_lv [(0, .ref t), (2, .ref (ob_top nl (ob_mkn d q top c1 tt (ob_mkn true q3 s true l3 r3)))), (3, .int (nI (i + 1)))] (by rw [etop]; rfl) ?_
                have rsr : ob_rb (ob_mkn true q3 s true l3 r3) m := ob_rb_r.mpr ⟨hl3, hr3, rl3, rr3⟩
                have hL2 : ob_ads (ob_plug z1 (ob_mkn d q top c1 tt (ob_mkn true q3 s true l3 r3))) = L := by
                  rw [← hL1, ob_plug_mk]
                  exact ob_ads_plug2 (ob_ads_mk2 rfl rfl)
                cases c1 with
                | true =>
                  -- red above: it becomes black at once
                  have hz9 := hzk1.2.2.2
                  have ht2 := h2.1
                  have y1' : T (ob_top nl (ob_mkn d q top true tt (ob_mkn true q3 s true l3 r3))) = some (2, 0) := by rw [etop]; exact y1
                  have y6' : V2 (ob_top nl (ob_mkn d q top true tt (ob_mkn true q3 s true l3 r3))) 6 = ob_cv true := by rw [etop]; exact y6
                  have hr9 := h2.2.2.1
                  by_cases hz0 : z1 = []
                  · subst hz0
                    exact absurd hzk1.2.2.1 id
                  · have out : ob_G X mX4_mendMissingBlack R (ob_filled T B J t nl L V0) 147 [(2, .ref (ob_top nl (ob_mkn d q top true tt (ob_mkn true q3 s true l3 r3))))] [] (T, V2, B, J) k n := black_end (m := m) hk hs h2 (Or.inr ⟨d, q, top, tt, _, rfl, rt, rsr⟩) hz9 (Or.inr (ob_red_mk ..)) hL2 hfr2
                    refine og_iload_n dX4_mendMissingBlack_4 rfl ?_
                    refine og_bipush (v := 64) dX4_mendMissingBlack_5 (by decide) ?_
                    refine og_icmp_ge (tgt := 147) dX4_mendMissingBlack_7 (by decide) (fun z9 => absurd z9 (ob_64 (by simp at hi; omega))) (fun _ => ?_)
                    refine og_aload_n dX4_mendMissingBlack_10 rfl rfl ?_
                    refine og_aload_n dX4_mendMissingBlack_11 rfl rfl ?_
                    refine og_getf dX4_mendMissingBlack_12 kfX4_33 (by assumption) (by assumption) ?_
                    refine og_acmp_eq (tgt := 147) dX4_mendMissingBlack_15 (by decide) (fun hc => ?_) (fun hc => ?_)
                    · exact og_lv _ rfl out
                    · refine og_aload_n dX4_mendMissingBlack_18 rfl rfl ?_
                      refine og_getf dX4_mendMissingBlack_19 kfX4_61 (by assumption) (by assumption) ?_
                      refine og_if_ne (tgt := 147) dX4_mendMissingBlack_22 (by decide) (fun _ => ?_) (fun z9 => absurd z9 (by decide))
                      exact og_lv _ rfl out
                | false =>
                  have hlen3 : z1.length ≤ z.length := by
                    rcases hlen2 with h9 | h9
                    · cases h9
                    · exact h9
                  refine ih V2 z1 (m + 1) (i + 1) _ ?_ ?_ h2 (by rw [etop]; exact y5) hzk1.2 (Or.inl ⟨ob_red_mk .., ob_rb_b.mpr ⟨rt, rsr⟩⟩) hL2 hfr2
                  · simp only [List.length_cons] at hf; omega
                  · simp only [List.length_cons] at hi; omega
        refine og_iload_n dX4_mendMissingBlack_4 rfl ?_
        refine og_bipush (v := 64) dX4_mendMissingBlack_5 (by decide) ?_
        refine og_icmp_ge (tgt := 147) dX4_mendMissingBlack_7 (by decide) (fun z9 => absurd z9 (ob_64 (by simp at hi; omega))) (fun _ => ?_)
        refine og_aload_n dX4_mendMissingBlack_10 rfl rfl ?_
        refine og_aload_n dX4_mendMissingBlack_11 rfl rfl ?_
        refine og_getf dX4_mendMissingBlack_12 kfX4_33 (by assumption) (by assumption) ?_
        refine og_acmp_eq (tgt := 147) dX4_mendMissingBlack_15 (by decide) (fun z9 => absurd z9 (hnr)) (fun _ => ?_)
        refine og_aload_n dX4_mendMissingBlack_18 rfl rfl ?_
        refine og_getf dX4_mendMissingBlack_19 kfX4_61 (by assumption) (by assumption) ?_
        refine og_if_ne (tgt := 147) dX4_mendMissingBlack_22 (by decide) (fun z9 => absurd (rfl) z9) (fun _ => ?_)
        refine og_aload_n dX4_mendMissingBlack_25 rfl rfl ?_
        refine og_getf dX4_mendMissingBlack_26 kfX4_30 (by assumption) (by assumption) ?_
        refine og_astore dX4_mendMissingBlack_29 (by decide) rfl ?_
        refine og_aload dX4_mendMissingBlack_31 rfl rfl ?_
        refine og_aload_n dX4_mendMissingBlack_33 rfl rfl ?_
        refine og_callVe dX4_mendMissingBlack_34 kvX4_87 (ct_sideOf p1 hsd) rfl p1 rfl rfl ⟨Nat.le_trans (by decide) hR.1, Nat.le_trans (by decide) hR.2⟩ hk hs (Nat.le_of_ble_eq_true rfl) rfl ?_
        refine og_st [.int (ob_sd d)] (by cases d with | false => simp [ob_sd, hlt rfl] | true => simp [ob_sd]) ?_
        refine og_istore dX4_mendMissingBlack_37 (by decide) ?_
        refine og_aload dX4_mendMissingBlack_39 rfl rfl ?_
        refine og_iconst (v := 1) dX4_mendMissingBlack_41 (by decide) ?_
        refine og_iload dX4_mendMissingBlack_42 rfl ?_
        refine og_isub dX4_mendMissingBlack_44 ?_
        refine og_st [.int (ob_sd (!d)), .ref top] (by first | (rw [← ob_sd_not]; done) | (rw [← ob_sd_not]; rfl)) ?_
        refine og_callVe dX4_mendMissingBlack_45 kvX4_58 (ct_child (d := !d) p1 p4) rfl p1 rfl rfl ⟨Nat.le_trans (by decide) hR.1, Nat.le_trans (by decide) hR.2⟩ hk hs (Nat.le_of_ble_eq_true rfl) rfl ?_
        cases hsr : ob_red sib with
        | false =>
          rw [hsr] at sb6
          refine og_getf dX4_mendMissingBlack_48 kfX4_61 (by assumption) (by assumption) ?_
          refine og_if_eq (tgt := 81) dX4_mendMissingBlack_51 (by decide) (fun _ => ?_) (fun z9 => absurd (rfl) z9)
          refine og_lv [(0, .ref t), (3, .int (nI i)), (4, .ref top), (5, .int (ob_sd d))] rfl ?_
          exact join V c sib z h h5 hz hsr hL hfr (by omega) (Or.inr (Nat.le_refl _))
        | true =>
          rw [hsr] at sb6
          have hcf : c = false := by
            cases c with
            | false => rfl
            | true => have := hz.2.1; rw [hsr] at this; cases this
          subst hcf
          obtain ⟨q3, s, P, S, rfl⟩ := ob_red_cases hsr d
          obtain ⟨kP, kS, rP, rS⟩ := ob_rb_r.mp rsib
          rw [ob_top_mk] at p4 sb1 sb6
          refine og_st [.ref s] (by rw [ob_top_mk]; rfl) ?_
          have hsL : s ∈ L := by rw [← hL]; simp [ob_plug_mk, ob_mem_plug, ob_mem_mk]
          refine og_getf dX4_mendMissingBlack_48 kfX4_61 (by assumption) (by assumption) ?_
          refine og_if_eq (tgt := 81) dX4_mendMissingBlack_51 (by decide) (fun z9 => absurd z9 (by decide)) (fun _ => ?_)
          refine og_aload dX4_mendMissingBlack_54 rfl rfl ?_
          refine og_iconst (v := 1) dX4_mendMissingBlack_56 (by decide) ?_
          refine og_iload dX4_mendMissingBlack_57 rfl ?_
          refine og_isub dX4_mendMissingBlack_59 ?_
          refine og_st [.int (ob_sd (!d)), .ref top] (by first | (rw [← ob_sd_not]; done) | (rw [← ob_sd_not]; rfl)) ?_
          refine og_callVe dX4_mendMissingBlack_60 kvX4_58 (ct_child (d := !d) p1 p4) rfl p1 rfl rfl ⟨Nat.le_trans (by decide) hR.1, Nat.le_trans (by decide) hR.2⟩ hk hs (Nat.le_of_ble_eq_true rfl) rfl ?_
          refine og_iconst (v := 0) dX4_mendMissingBlack_63 (by decide) ?_
          refine og_put dX4_mendMissingBlack_64 kfX4_61 sb1 rfl rfl ?_
          have hsw : ob_zt T V t nl ((!d, top, false, tt, q) :: z) (ob_mkn d q3 s true P S) := by
            have h9 := hup; rw [ob_mkn_swap d q top] at h9; exact h9.down (!d)
          have h2 := (hsw.col false).up
          rw [ob_mkn_swap (!d) q top, Bool.not_not] at h2
          generalize hV1 : ob_set V s 6 (ob_cv false) = V1 at h2
          refine og_w (T, V1, B, J) (by rw [← hV1]; rfl) ?_
          have fr1 : ob_fr t L V0 V1 := by rw [← hV1]; exact hfr.set hsL (by omega)
          refine og_aload dX4_mendMissingBlack_67 rfl rfl ?_
          refine og_iconst (v := 1) dX4_mendMissingBlack_69 (by decide) ?_
          refine og_put dX4_mendMissingBlack_70 kfX4_61 p1 rfl rfl ?_
          have h3 := h2.col true
          generalize hV2 : ob_set V1 top 6 (ob_cv true) = V2 at h3
          refine og_w (T, V2, B, J) (by rw [← hV2]; rfl) ?_
          have fr2 : ob_fr t L V0 V2 := by rw [← hV2]; exact fr1.set htopL (by omega)
          have e5 : V2 (ob_top nl tt) 5 = .ref top := by rw [← hV2, ← hV1]; simp [ob_set]; exact h5
          refine og_aload_n dX4_mendMissingBlack_73 rfl rfl ?_
          refine og_aload dX4_mendMissingBlack_74 rfl rfl ?_
          refine og_iload dX4_mendMissingBlack_76 rfl ?_
          refine og_callVn dX4_mendMissingBlack_78 kvX4_90 (ct_rotate h3) rfl ht rfl rfl ⟨Nat.le_trans (by decide) hR.1, Nat.le_trans (by decide) hR.2⟩ hk hs (Nat.le_of_ble_eq_true rfl) rfl (fun E w' h9 => by cases h9.1) (fun v w' h9 => ?_)
          obtain ⟨hv, V3, rfl, hz3, hfr3⟩ := h9
          cases hv
          refine og_lv [(0, .ref t), (3, .int (nI i)), (4, .ref top), (5, .int (ob_sd d))] rfl ?_
          have hz4 := (hz3.down d).down d
          have h35 : V3 (ob_top nl tt) 5 = .ref top := by
            cases tt with
            | inner q9 a9 c9 l9 r9 => exact hz4.2.2.2.2.2.1.2.2.1
            | leaf =>
              show V3 nl 5 = .ref top
              rw [hfr3 nl 5]
              · exact e5
              · rintro (⟨h9, h8⟩ | ⟨h9, -⟩)
                · cases h8
                · exact (h3.2.2.2.2.2.2.1 nl h9).2 rfl
          have hL3 : ob_ads (ob_plug ((d, top, true, P, q) :: (d, s, false, S, q3) :: z) tt) = L := by
            rw [← hL, ob_plug_mk, ob_plug_mk, ob_plug_mk]
            refine ob_ads_plug2 ?_
            rw [← ob_ads_rot d q q3 q3 q top s false true false true tt P S]
          refine join V3 true P ((d, s, false, S, q3) :: z) hz4 h35 ⟨rP, kP, trivial, rS, hz.2⟩ kP hL3 ?_ (by simp) (Or.inl rfl)
          refine ob_fr.tr fr2 hfr3 (fun a ha => ?_)
          rw [← hL, ob_plug_mk]
          simp only [List.mem_append, ob_mem_plug, ob_mem_mk] at ha ⊢
          grind
theorem ct_mendBlack {V : ob_V} {t nl m : Nat} {z : List ob_f} {tt : ob_t} (h : ob_zt T V t nl z tt) (h5 : V (ob_top nl tt) 5 = .ref (ob_zp nl z)) (hz : ob_zk z (m + 1)) (hl : ob_lack tt m) (hlen : z.length ≤ 60) : ob_C X mX4_mendMissingBlack 4 0 0 [.ref t, .ref (ob_top nl tt)] (T, V, B, J) (ob_filled T B J t nl (ob_ads (ob_plug z tt)) V) := by
  refine ob_C_of (by decide) rfl (Nat.le_of_ble_eq_true rfl) ?_
  refine og_aload_n dX4_mendMissingBlack_0 rfl rfl ?_
  refine og_astore_n dX4_mendMissingBlack_1 (by decide) rfl ?_
  refine og_iconst (v := 0) dX4_mendMissingBlack_2 (by decide) ?_
  refine og_istore_n dX4_mendMissingBlack_3 (by decide) ?_
  refine og_lv [(0, .ref t), (2, .ref (ob_top nl tt)), (3, .int (nI 0))] rfl ?_
  exact black_loop ⟨by decide, by decide⟩ (Nat.le_refl _) (Nat.le_refl _) _ V z m 0 tt (Nat.le_refl _) (by omega) h h5 hz hl rfl ob_fr.rf
end OBZ
