/-! giveBlackFrom, mendMissingBlack -/
section OBY
variable {X : ob_X} {T : ob_T} {B : ob_B} {J : ob_J} {R : Room} {k n : Nat}
theorem ob_red_cases {t : ob_t} (h : ob_red t = true) (d : Bool) : ∃ q a s u, t = ob_mkn d q a true s u := by
  cases t with
  | leaf => cases h
  | inner q a c l r => have : c = true := h; subst this; exact ⟨q, a, _, _, ob_mkn_of d q a true l r⟩
/-- the end of giveBlackFrom -/
def ob_given (T : ob_T) (B : ob_B) (J : ob_J) (t nl m : Nat) (c : Bool) (z : List ob_f) (L : List Nat) (V : ob_V) : ob_r → ob_w → Prop := fun r w' => r = .inl none ∧ ∃ V' tt, w' = (T, V', B, J) ∧ ob_zt T V' t nl z tt ∧ ob_rb tt (if c then m + 1 else m + 2) ∧ ob_red tt = c ∧ ob_ads tt = L ∧ ob_fr t (ob_zads z ++ L) V V'
theorem give_end {V V0 : ob_V} {t nl q4 top q s9 m : Nat} {d c c9 : Bool} {z : List ob_f} {tt P S : ob_t} {L : List Nat} (hk : k ≤ R.cells) (hs : n ≤ R.slots) (hR : 3 ≤ R.frames ∧ 180 ≤ R.locals) (h : ob_zt T V t nl z (ob_mkn d q top c tt (ob_mkn d q4 s9 c9 P S))) (hS : S ≠ .leaf) (rt : ob_rb tt m) (rP : ob_rb P m) (rS : ∀ qx ax cx sx ux dx, S = ob_mkn dx qx ax cx sx ux → ob_rb (ob_mkn dx qx ax false sx ux) (m + 1)) (hfr : ob_fr t (ob_zads z ++ L) V0 V) (hL : ob_ads (ob_mkn d q top c tt (ob_mkn d q4 s9 c9 P S)) = L) :
    ob_G X mX4_giveBlackFrom R (ob_given T B J t nl m c z L V0) 31 [(0, .ref t), (2, .ref top), (3, .int (ob_sd d)), (4, .ref s9)] [] (T, V, B, J) k n := by
  have ht := h.1
  obtain ⟨p1, p2, p3, p4, p5, p6⟩ := h.foc
  have h1 : ob_zt T V t nl ((!d, top, c, tt, q) :: z) (ob_mkn d q4 s9 c9 P S) := by
    have h9 := h; rw [ob_mkn_swap d q top] at h9; exact h9.down (!d)
  obtain ⟨s1, s2, s3, s4, s5, s6⟩ := h1.foc
  have hin : s9 ∈ ob_zads z ++ L := by rw [← hL]; simp [ob_mem_mk]
  have htop : top ∈ ob_zads z ++ L := by rw [← hL]; simp [ob_mem_mk]
  refine og_aload dX4_giveBlackFrom_31 rfl rfl ?_
  refine og_aload_n dX4_giveBlackFrom_33 rfl rfl ?_
  refine og_getf dX4_giveBlackFrom_34 kfX4_61 (by assumption) (by assumption) ?_
  refine og_put dX4_giveBlackFrom_37 kfX4_61 s1 (by cases c <;> rfl) (by cases c <;> rfl) ?_
  have h2 := h1.col c
  generalize hV1 : ob_set V s9 6 (ob_cv c) = V1 at h2
  refine og_w (T, V1, B, J) (by rw [← hV1]) ?_
  have fr1 : ob_fr t (ob_zads z ++ L) V0 V1 := by rw [← hV1]; exact hfr.set hin (by omega)
  obtain ⟨x1, x2, x3, x4, x5, x6⟩ := h2.foc
  refine og_aload dX4_giveBlackFrom_40 rfl rfl ?_
  refine og_iconst (v := 1) dX4_giveBlackFrom_42 (by decide) ?_
  refine og_iload_n dX4_giveBlackFrom_43 rfl ?_
  refine og_isub dX4_giveBlackFrom_44 ?_
  refine og_st [.int (ob_sd (!d)), .ref s9] (by first | (rw [← ob_sd_not]; done) | (rw [← ob_sd_not]; rfl)) ?_
  refine og_callVe dX4_giveBlackFrom_45 kvX4_58 (ct_child (d := !d) x1 x4) rfl x1 rfl rfl ⟨Nat.le_trans (by decide) hR.1, Nat.le_trans (by decide) hR.2⟩ hk hs (Nat.le_of_ble_eq_true rfl) rfl ?_
  cases S with
  | leaf => exact absurd rfl hS
  | inner q5 a5 c5 l5 r5 =>
    have h3 : ob_zt T V1 t nl ((!d, s9, c, P, q4) :: (!d, top, c, tt, q) :: z) (ob_mkn true q5 a5 c5 l5 r5) := by
      rw [ob_mkn_swap d q4 s9] at h2; exact h2.down (!d)
    obtain ⟨y1, y2, -⟩ := h3.foc
    have hin5 : a5 ∈ ob_zads z ++ L := by rw [← hL]; simp [ob_mem_mk, ob_ads]
    refine og_iconst (v := 0) dX4_giveBlackFrom_48 (by decide) ?_
    refine og_put dX4_giveBlackFrom_49 kfX4_61 y1 rfl rfl ?_
    have h4 := (h3.col false).up
    generalize hV2 : ob_set V1 a5 6 (ob_cv false) = V2 at h4
    refine og_w (T, V2, B, J) (by rw [← hV2]; rfl) ?_
    have fr2 : ob_fr t (ob_zads z ++ L) V0 V2 := by rw [← hV2]; exact fr1.set hin5 (by omega)
    refine og_aload_n dX4_giveBlackFrom_52 rfl rfl ?_
    refine og_iconst (v := 0) dX4_giveBlackFrom_53 (by decide) ?_
    refine og_put dX4_giveBlackFrom_54 kfX4_61 p1 rfl rfl ?_
    have h5 := h4.up
    rw [ob_mkn_swap (!d) q top, Bool.not_not, ob_mkn_swap (!d) q4 s9, Bool.not_not] at h5
    have h6 := h5.col false
    generalize hV3 : ob_set V2 top 6 (ob_cv false) = V3 at h6
    refine og_w (T, V3, B, J) (by rw [← hV3]; rfl) ?_
    have fr3 : ob_fr t (ob_zads z ++ L) V0 V3 := by rw [← hV3]; exact fr2.set htop (by omega)
    refine og_aload_n dX4_giveBlackFrom_57 rfl rfl ?_
    refine og_aload_n dX4_giveBlackFrom_58 rfl rfl ?_
    refine og_iload_n dX4_giveBlackFrom_59 rfl ?_
    refine og_callVn dX4_giveBlackFrom_60 kvX4_90 (ct_rotate h6) rfl ht rfl rfl ⟨hR.1, Nat.le_trans (by decide) hR.2⟩ hk hs (Nat.le_of_ble_eq_true rfl) rfl (fun E w' h9 => by cases h9.1) (fun v w' h9 => ?_)
    obtain ⟨hv, V', rfl, hz7, hfr7⟩ := h9
    cases hv
    have r5 := rS q5 a5 c5 l5 r5 true rfl
    have rtop : ob_rb (ob_mkn d q top false tt P) (m + 1) := ob_rb_b.mpr ⟨rt, rP⟩
    have hLL : ob_ads (ob_mkn d q4 s9 c (ob_mkn d q top false tt P) (ob_mkn true q5 a5 false l5 ‹_›)) = L := by
      rw [← hL, ← ob_ads_rot d q q4 q4 q top s9 c c c false tt P _]
      exact ob_ads_mk2 rfl (ob_ads_mk2 rfl rfl)
    refine og_return rfl dX4_giveBlackFrom_63 hk hs ⟨rfl, V', _, rfl, hz7, ?_, ob_red_mk .., hLL, ob_fr.tr fr3 hfr7 (fun a ha => ?_)⟩
    · cases c with
      | true => exact ob_rb_r.mpr ⟨ob_red_mk .., ob_red_mk .., rtop, r5⟩
      | false => exact ob_rb_b.mpr ⟨rtop, r5⟩
    · rw [← hLL]
      simp only [List.mem_append, ob_mem_mk] at ha ⊢
      grind
theorem ct_giveBlack {V : ob_V} {t nl q top q3 s m : Nat} {d c : Bool} {z : List ob_f} {tt P S : ob_t} (h : ob_zt T V t nl z (ob_mkn d q top c tt (ob_mkn d q3 s false P S))) (rt : ob_rb tt m) (rP : ob_rb P m) (rS : ob_rb S m) (hr : ob_red P = true ∨ ob_red S = true) : ob_C X mX4_giveBlackFrom 3 0 0 [.ref t, .ref s, .ref top, .int (ob_sd d)] (T, V, B, J) (ob_given T B J t nl m c z (ob_ads (ob_mkn d q top c tt (ob_mkn d q3 s false P S))) V) := by
  refine ob_C_of (by decide) rfl (Nat.le_of_ble_eq_true rfl) ?_
  have ht := h.1
  have h1 : ob_zt T V t nl ((!d, top, c, tt, q) :: z) (ob_mkn d q3 s false P S) := by
    have h9 := h; rw [ob_mkn_swap d q top] at h9; exact h9.down (!d)
  obtain ⟨s1, s2, s3, s4, s5, s6⟩ := h1.foc
  obtain ⟨⟨w1, w2⟩, w3, w4⟩ := h1.foc2
  have hblk : ∀ {tr : ob_t}, ob_rb tr m → ob_red tr = true → ∀ qx ax cx sx ux dx, tr = ob_mkn dx qx ax cx sx ux → ob_rb (ob_mkn dx qx ax false sx ux) (m + 1) := by
    intro tr h9 h8 qx ax cx sx ux dx e
    subst e
    rw [ob_red_mk] at h8
    subst h8
    obtain ⟨-, -, g3, g4⟩ := ob_rb_r.mp h9
    exact ob_rb_b.mpr ⟨g3, g4⟩
  refine og_lv [(0, .ref t), (1, .ref s), (2, .ref top), (3, .int (ob_sd d))] rfl ?_
  refine og_aload_n dX4_giveBlackFrom_0 rfl rfl ?_
  refine og_astore dX4_giveBlackFrom_1 (by decide) rfl ?_
  refine og_aload_n dX4_giveBlackFrom_3 rfl rfl ?_
  refine og_iconst (v := 1) dX4_giveBlackFrom_4 (by decide) ?_
  refine og_iload_n dX4_giveBlackFrom_5 rfl ?_
  refine og_isub dX4_giveBlackFrom_6 ?_
  refine og_st [.int (ob_sd (!d)), .ref s] (by first | (rw [← ob_sd_not]; done) | (rw [← ob_sd_not]; rfl)) ?_
  refine og_callVe dX4_giveBlackFrom_7 kvX4_58 (ct_child (d := !d) s1 s4) rfl s1 rfl rfl ⟨by decide, by decide⟩ (by decide) (by decide) (Nat.le_of_ble_eq_true rfl) rfl ?_
  cases hS : ob_red S with
  | true =>
    rw [hS] at w4
    refine og_getf dX4_giveBlackFrom_10 kfX4_61 (by assumption) (by assumption) ?_
    refine og_if_ne (tgt := 31) dX4_giveBlackFrom_13 (by decide) (fun _ => ?_) (fun z9 => absurd z9 (by decide))
    refine og_lv [(0, .ref t), (2, .ref top), (3, .int (ob_sd d)), (4, .ref s)] rfl ?_
    exact give_end (Nat.le_refl _) (Nat.le_refl _) ⟨by decide, by decide⟩ h (fun e => by rw [e] at hS; cases hS) rt rP (hblk rS hS) ob_fr.rf rfl
  | false =>
    rw [hS] at w4
    have hP : ob_red P = true := by rcases hr with h | h; exact h; rw [hS] at h; cases h
    obtain ⟨q4, p, P2, P1, rfl⟩ := ob_red_cases hP (!d)
    obtain ⟨-, -, rP2, rP1⟩ := ob_rb_r.mp rP
    rw [ob_top_mk] at s3
    refine og_getf dX4_giveBlackFrom_10 kfX4_61 (by assumption) (by assumption) ?_
    refine og_if_ne (tgt := 31) dX4_giveBlackFrom_13 (by decide) (fun z9 => absurd (rfl) z9) (fun _ => ?_)
    refine og_aload_n dX4_giveBlackFrom_16 rfl rfl ?_
    refine og_iload_n dX4_giveBlackFrom_17 rfl ?_
    refine og_callVe dX4_giveBlackFrom_18 kvX4_58 (ct_child (d := d) s1 s3) rfl s1 rfl rfl ⟨by decide, by decide⟩ (by decide) (by decide) (Nat.le_of_ble_eq_true rfl) rfl ?_
    refine og_astore dX4_giveBlackFrom_21 (by decide) rfl ?_
    refine og_aload_n dX4_giveBlackFrom_23 rfl rfl ?_
    refine og_aload_n dX4_giveBlackFrom_24 rfl rfl ?_
    refine og_iconst (v := 1) dX4_giveBlackFrom_25 (by decide) ?_
    refine og_iload_n dX4_giveBlackFrom_26 rfl ?_
    refine og_isub dX4_giveBlackFrom_27 ?_
    refine og_st [.int (ob_sd (!d)), .ref s, .ref t] (by first | (rw [← ob_sd_not]; done) | (rw [← ob_sd_not]; rfl)) ?_
    have h2 : ob_zt T V t nl ((!d, top, c, tt, q) :: z) (ob_mkn (!d) q3 s false S (ob_mkn (!d) q4 p true P2 P1)) := by
      rw [ob_mkn_swap d q3 s] at h1; exact h1
    refine og_callVn dX4_giveBlackFrom_28 kvX4_90 (ct_rotate h2) rfl ht rfl rfl ⟨by decide, by decide⟩ (by decide) (by decide) (Nat.le_of_ble_eq_true rfl) rfl (fun E w' h9 => by cases h9.1) (fun v w' h9 => ?_)
    obtain ⟨hv, V', rfl, hz3, hfr3⟩ := h9
    cases hv
    refine og_lv [(0, .ref t), (2, .ref top), (3, .int (ob_sd d)), (4, .ref p)] rfl ?_
    have hz4 := hz3.up
    rw [ob_mkn_swap (!d) q top, Bool.not_not, ob_mkn_swap (!d) q4 p, Bool.not_not] at hz4
    have hLL : ob_ads (ob_mkn d q top c tt (ob_mkn d q4 p true P1 (ob_mkn (!d) q3 s false S P2))) = ob_ads (ob_mkn d q top c tt (ob_mkn d q3 s false (ob_mkn (!d) q4 p true P2 P1) S)) := by
      refine ob_ads_mk2 rfl ?_
      rw [ob_mkn_swap d q4 p, ob_mkn_swap d q3 s]
      exact (ob_ads_rot (!d) q3 q4 q4 q3 s p false true true false S P2 P1).symm
    refine give_end (Nat.le_refl _) (Nat.le_refl _) ⟨by decide, by decide⟩ hz4 (by intro e; cases d <;> simp [ob_mkn] at e) rt rP1 ?_ ?_ hLL
    · intro qx ax cx sx ux dx e
      have h8 : ob_rb (ob_mkn (!d) q3 s false S P2) (m + 1) := ob_rb_b.mpr ⟨rS, rP2⟩
      have hc : cx = false := by have := congrArg ob_red e; rw [ob_red_mk, ob_red_mk] at this; exact this.symm
      subst hc
      rw [← e]; exact h8
    · intro a j hb
      refine hfr3 a j (fun h9 => hb (h9.imp id (fun h8 => ⟨?_, h8.2⟩)))
      have h7 := h8.1
      simp only [List.mem_append, ob_mem_mk, ob_zads, List.mem_cons] at h7 ⊢
      grind
end OBY
