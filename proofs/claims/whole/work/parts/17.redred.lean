/-! RED-BLACK RULES; mendRedBelowRed -/
def ob_rb : ob_t → Nat → Prop
  | .leaf, m => m = 0
  | .inner _ _ c l r, m => (c = true ∧ ob_red l = false ∧ ob_red r = false ∧ ob_rb l m ∧ ob_rb r m) ∨ (c = false ∧ ∃ j, m = j + 1 ∧ ob_rb l j ∧ ob_rb r j)
theorem ob_rb_r {d : Bool} {q a m : Nat} {s u : ob_t} : ob_rb (ob_mkn d q a true s u) m ↔ ob_red s = false ∧ ob_red u = false ∧ ob_rb s m ∧ ob_rb u m := by
  cases d <;> simp [ob_mkn, ob_rb] <;> grind
theorem ob_rb_b {d : Bool} {q a m : Nat} {s u : ob_t} : ob_rb (ob_mkn d q a false s u) (m + 1) ↔ ob_rb s m ∧ ob_rb u m := by
  cases d <;> simp [ob_mkn, ob_rb] <;> grind
theorem ob_rb_b' {d : Bool} {q a m : Nat} {s u : ob_t} : ob_rb (ob_mkn d q a false s u) m ↔ ∃ j, m = j + 1 ∧ ob_rb s j ∧ ob_rb u j := by
  cases d <;> simp [ob_mkn, ob_rb] <;> grind
theorem ob_mkn_swap (d : Bool) (q a : Nat) (c : Bool) (s u : ob_t) : ob_mkn d q a c s u = ob_mkn (!d) q a c u s := by cases d <;> rfl
theorem ob_mkn_of (d : Bool) (q a : Nat) (c : Bool) (l r : ob_t) : (.inner q a c l r : ob_t) = ob_mkn d q a c (if d then l else r) (if d then r else l) := by cases d <;> rfl
/-- black at the hole's side: the frame above is black -/
def ob_zb : List ob_f → Prop
  | (_, _, false, _, _) :: _ => True
  | _ => False
/-- a context that is right for a tree of black height m -/
def ob_zk : List ob_f → Nat → Prop
  | [], _ => True
  | (_, _, true, b, _) :: z, m => ob_rb b m ∧ ob_red b = false ∧ ob_zb z ∧ ob_zk z m
  | (_, _, false, b, _) :: z, m => ob_rb b m ∧ ob_zk z (m + 1)
/-- the frame above is red -/
def ob_zr9 : List ob_f → Prop
  | (_, _, true, _, _) :: _ => True
  | _ => False
theorem ob_rb_pow : ∀ {t : ob_t} {m : Nat}, ob_rb t m → 2 ^ m ≤ ob_siz t + 1
  | .leaf, m, h => by simp [ob_rb] at h; subst h; simp [ob_siz]
  | .inner q a c l r, m, h => by
    rcases h with ⟨-, -, -, h1, h2⟩ | ⟨-, j, rfl, h1, h2⟩
    · have := ob_rb_pow h1
      simp only [ob_siz]; omega
    · have g1 := ob_rb_pow h1
      have g2 := ob_rb_pow h2
      simp only [ob_siz, Nat.pow_succ]; omega
/-- a context and a right tree make a right tree -/
theorem ob_zk_plug : ∀ {z : List ob_f} {t : ob_t} {m : Nat}, ob_zk z m → ob_rb t m → (ob_zr9 z → ob_red t = false) → ∃ N, ob_rb (ob_plug z t) N ∧ (z ≠ [] → ob_red (ob_plug z t) = false) ∧ m ≤ N ∧ z.length ≤ 2 * (N - m) + (if ob_red t = true then 0 else 1)
  | [], t, m, _, h, _ => ⟨m, h, fun e => absurd rfl e, Nat.le_refl _, by simp⟩
  | (d, a, true, b, q) :: z, t, m, ⟨h1, h2, h3, h4⟩, h, hr => by
    have hr' := hr trivial
    rw [ob_plug_mk]
    obtain ⟨N, g1, g2, g3, g4⟩ := ob_zk_plug (t := ob_mkn d q a true t b) h4 (ob_rb_r.mpr ⟨hr', h2, h, h1⟩) (fun e => by
      cases z with
      | nil => exact absurd e id
      | cons f z => obtain ⟨d', a', c', b', q'⟩ := f; cases c' <;> simp [ob_zr9, ob_zb] at e h3)
    refine ⟨N, g1, fun _ => g2 (by cases z with | nil => exact absurd h3 id | cons f z => simp), g3, ?_⟩
    rw [ob_red_mk, if_pos rfl] at g4
    simp only [hr', Bool.false_eq_true, if_false, List.length_cons]; omega
  | (d, a, false, b, q) :: z, t, m, ⟨h1, h2⟩, h, hr => by
    rw [ob_plug_mk]
    obtain ⟨N, g1, g2, g3, g4⟩ := ob_zk_plug (t := ob_mkn d q a false t b) h2 (ob_rb_b.mpr ⟨h, h1⟩) (fun _ => ob_red_mk ..)
    refine ⟨N, g1, fun _ => ?_, by omega, ?_⟩
    · cases z with
      | nil => exact ob_red_mk ..
      | cons f z => exact g2 (by simp)
    · rw [ob_red_mk] at g4
      simp only [Bool.false_eq_true, if_false] at g4
      simp only [List.length_cons]; split <;> omega
/-- and back -/
theorem ob_plug_zk : ∀ {z : List ob_f} {t : ob_t} {N : Nat}, ob_rb (ob_plug z t) N → ob_red (ob_plug z t) = false → ∃ m, ob_zk z m ∧ ob_rb t m ∧ (ob_zr9 z → ob_red t = false) ∧ (z = [] → ob_red t = false)
  | [], t, N, h, hr => ⟨N, trivial, h, fun e => absurd e id, fun _ => hr⟩
  | (d, a, c, b, q) :: z, t, N, h, hr => by
    rw [ob_plug_mk] at h hr
    obtain ⟨m, g1, g2, g3, g4⟩ := ob_plug_zk h hr
    cases c with
    | true =>
      obtain ⟨e1, e2, e3, e4⟩ := ob_rb_r.mp g2
      refine ⟨m, ⟨e4, e2, ?_, g1⟩, e3, fun _ => e1, fun e => by simp at e⟩
      cases z with
      | nil => have := g4 rfl; rw [ob_red_mk] at this; cases this
      | cons f z =>
        obtain ⟨d', a', c', b', q'⟩ := f
        cases c' with
        | false => trivial
        | true => have := g3 trivial; rw [ob_red_mk] at this; cases this
    | false =>
      obtain ⟨j, rfl, e1, e2⟩ := ob_rb_b'.mp g2
      exact ⟨j, ⟨e2, g1⟩, e1, fun e => absurd e id, fun e => by simp at e⟩
theorem ob_zt.foc {T : ob_T} {V : ob_V} {t nl a q : Nat} {d c : Bool} {s u : ob_t} {z : List ob_f} (h : ob_zt T V t nl z (ob_mkn d q a c s u)) : T a = some (2, 0) ∧ a ≠ nl ∧ V a (ob_sl d) = .ref (ob_top nl s) ∧ V a (ob_sl (!d)) = .ref (ob_top nl u) ∧ V a 5 = .ref (ob_zp nl z) ∧ V a 6 = ob_cv c := by
  obtain ⟨h1, h2, h3, h4, g1, g2, g3, g4⟩ := h
  obtain ⟨e1, e2, e3, e4, e5, e6, e7⟩ := (ob_tm_mk d).mp g2
  obtain ⟨k1, k2⟩ := g3 a (by simp [ob_mem_mk])
  exact ⟨k1, k2, e1, e2, e3, e4⟩
theorem ob_zt.foc2 {T : ob_T} {V : ob_V} {t nl a q : Nat} {d c : Bool} {s u : ob_t} {z : List ob_f} (h : ob_zt T V t nl z (ob_mkn d q a c s u)) : (T (ob_top nl s) = some (2, 0) ∧ V (ob_top nl s) 6 = ob_cv (ob_red s)) ∧ (T (ob_top nl u) = some (2, 0) ∧ V (ob_top nl u) 6 = ob_cv (ob_red u)) := by
  obtain ⟨h1, h2, h3, h4, g1, g2, g3, g4⟩ := h
  obtain ⟨e1, e2, e3, e4, e5, e6, e7⟩ := (ob_tm_mk d).mp g2
  obtain ⟨k1, -, k3⟩ := ob_sub.top (p := a) h4 ⟨e6, fun x hx => g3 x (by simp [ob_mem_mk, hx])⟩
  obtain ⟨j1, -, j3⟩ := ob_sub.top (p := a) h4 ⟨e7, fun x hx => g3 x (by simp [ob_mem_mk, hx])⟩
  exact ⟨⟨k1, k3⟩, j1, j3⟩
/-- a new colour -/
theorem ob_zt.col {T : ob_T} {V : ob_V} {t nl a q : Nat} {d c : Bool} (c' : Bool) {s u : ob_t} {z : List ob_f} (h : ob_zt T V t nl z (ob_mkn d q a c s u)) : ob_zt T (ob_set V a 6 (ob_cv c')) t nl z (ob_mkn d q a c' s u) := by
  obtain ⟨h1, h2, h3, h4, g1, g2, g3, g4⟩ := h
  obtain ⟨e1, e2, e3, e4, e5, e6, e7⟩ := (ob_tm_mk d).mp g2
  obtain ⟨k1, k2⟩ := g3 a (by simp [ob_mem_mk])
  have hat : a ≠ t := fun e => by rw [e, h1] at k1; cases k1
  have hna : nl ≠ a := Ne.symm k2
  have sr := ob_sl_rg d
  have sr' := ob_sl_rg (!d)
  have hnd := g4
  simp only [List.nodup_append, ob_nd_mk, ob_mem_mk] at hnd
  obtain ⟨n1, ⟨n2, n3, -⟩, n4⟩ := hnd
  have far : ∀ b j, b ≠ a → ob_set V a 6 (ob_cv c') b j = V b j := fun b j hb => ob_set_a _ _ _ _ j hb
  have own : ∀ j, j ≠ 6 → ob_set V a 6 (ob_cv c') a j = V a j := fun j hj => ob_set_k _ _ _ _ _ hj
  refine ⟨h1, by rw [far t 1 (Ne.symm hat)]; exact h2, ?_, ⟨h4.1, by rw [far nl 3 hna]; exact h4.2.1, by rw [far nl 4 hna]; exact h4.2.2.1, by rw [far nl 6 hna]; exact h4.2.2.2.1, by rw [far nl 7 hna]; exact h4.2.2.2.2⟩, ?_, ?_, ?_, ?_⟩
  · rw [far t 2 (Ne.symm hat), h3]
    cases z with
    | nil => simp [ob_plug, ob_top_mk]
    | cons f z => rw [ob_top_plug nl (f :: z) _ (ob_mkn d q a c' s u) (by simp)]
  · rw [ob_top_mk, ob_siz_mk] at g1 ⊢
    exact ob_zm_congr (fun b hb j _ _ => far b j (fun e => n4 b hb a (Or.inl rfl) e)) g1
  · exact (ob_tm_mk d).mpr ⟨by rw [own _ (by omega)]; exact e1, by rw [own _ (by omega)]; exact e2, by rw [own 5 (by decide)]; exact e3, ob_set_s _ _ _ _, by rw [own 7 (by decide)]; exact e5, ob_tm_congr (fun b hb j _ _ => far b j (fun e => n2 (by rw [← e]; exact hb))) e6, ob_tm_congr (fun b hb j _ _ => far b j (fun e => n3 (by rw [← e]; exact hb))) e7⟩
  · intro x hx
    refine g3 x ?_
    simp only [List.mem_append, ob_mem_mk] at hx ⊢
    exact hx
  · simp only [List.nodup_append, ob_nd_mk, ob_mem_mk] at g4 ⊢
    exact g4
theorem ob_zt.top6 {T : ob_T} {V : ob_V} {t nl : Nat} {z : List ob_f} {tt : ob_t} (h : ob_zt T V t nl z tt) : T (ob_zp nl z) = some (2, 0) ∧ V (ob_zp nl z) 6 = ob_cv (match z with | (_, _, true, _, _) :: _ => true | _ => false) := by
  obtain ⟨h1, h2, h3, h4, g1, g2, g3, g4⟩ := h
  cases z with
  | nil => exact ⟨h4.1, h4.2.2.2.1⟩
  | cons f z =>
    obtain ⟨d, a, c, b, q⟩ := f
    rw [ob_zm_cons] at g1
    obtain ⟨k1, -⟩ := g3 a (by simp [ob_zads])
    refine ⟨k1, ?_⟩
    cases c <;> exact g1.2.2.2.1
theorem ob_ads_col (d : Bool) (q a : Nat) (c c' : Bool) (s u : ob_t) : ob_ads (ob_mkn d q a c s u) = ob_ads (ob_mkn d q a c' s u) := by cases d <;> rfl
theorem ob_ads_mk2 {d : Bool} {q a q' : Nat} {c c' : Bool} {s s' u u' : ob_t} (h1 : ob_ads s = ob_ads s') (h2 : ob_ads u = ob_ads u') : ob_ads (ob_mkn d q a c s u) = ob_ads (ob_mkn d q' a c' s' u') := by cases d <;> simp [ob_mkn, ob_ads, h1, h2]
theorem ob_ads_plug2 {z : List ob_f} {t t' : ob_t} (h : ob_ads t = ob_ads t') : ob_ads (ob_plug z t) = ob_ads (ob_plug z t') := by rw [ob_ads_plug, ob_ads_plug, h]
theorem ob_64 {i : Nat} (h : i < 64) : ¬ (64 : Int32) ≤ nI i := nI_ge (b := 64) h (by omega)
section OBF
variable {X : ob_X} {T : ob_T} {B : ob_B} {J : ob_J} {R : Room} {k n : Nat}
/-- the end of mending: some right tree, of the same nodes in the same order -/
def ob_mended (T : ob_T) (B : ob_B) (J : ob_J) (t nl : Nat) (L : List Nat) (V : ob_V) : ob_r → ob_w → Prop := fun r w' => r = .inl none ∧ ∃ V' tt N, w' = (T, V', B, J) ∧ ob_zt T V' t nl [] tt ∧ ob_rb tt N ∧ ob_ads tt = L ∧ ob_fr t L V V'
theorem ob_zt.whole {V : ob_V} {t nl : Nat} {z : List ob_f} {tt : ob_t} (h : ob_zt T V t nl z tt) : ob_zt T V t nl [] (ob_plug z tt) := by
  induction z generalizing tt with
  | nil => exact h
  | cons f z ih =>
    obtain ⟨d, a, c, b, q⟩ := f
    rw [ob_plug_mk]
    exact ih h.up
theorem red_loop {V0 : ob_V} {t nl : Nat} {L : List Nat} (hR : 3 ≤ R.frames ∧ 180 ≤ R.locals) (hk : k ≤ R.cells) (hs : n ≤ R.slots) : ∀ (f : Nat) (V : ob_V) (z : List ob_f) (q low m i : Nat) (l r : ob_t), z.length ≤ f → z.length + 2 * i ≤ 120 → ob_zt T V t nl z (.inner q low true l r) → ob_zk z m → ob_rb l m → ob_rb r m → ob_red l = false → ob_red r = false → ob_ads (ob_plug z (.inner q low true l r)) = L → ob_fr t L V0 V →
    ob_G X mX4_mendRedBelowRed R (ob_mended T B J t nl L V0) 4 [(0, .ref t), (2, .ref low), (3, .int (nI i))] [] (T, V, B, J) k n := by
  intro f
  induction f with
  | zero =>
    intro V z q low m i l r hf hi h hz hl hr hlr hrr hL hfr
    have ez : z = [] := List.length_eq_zero_iff.mp (by omega)
    subst ez
    obtain ⟨t1, t6⟩ := h.top6
    obtain ⟨f1, f2, f3, f4, f5, f6⟩ := (show ob_zt T V t nl [] (ob_mkn true q low true l r) from h).foc
    refine og_iload_n dX4_mendRedBelowRed_4 rfl ?_
    refine og_bipush (v := 64) dX4_mendRedBelowRed_5 (by decide) ?_
    refine og_icmp_ge (tgt := 130) dX4_mendRedBelowRed_7 (by decide) (fun z9 => absurd z9 (ob_64 (by omega))) (fun _ => ?_)
    refine og_aload_n dX4_mendRedBelowRed_10 rfl rfl ?_
    refine og_getf dX4_mendRedBelowRed_11 kfX4_30 (by assumption) (by assumption) ?_
    refine og_getf dX4_mendRedBelowRed_14 kfX4_61 (by assumption) (by assumption) ?_
    refine og_if_eq (tgt := 130) dX4_mendRedBelowRed_17 (by decide) (fun _ => ?_) (fun z9 => absurd (rfl) z9)
    exact og_return rfl dX4_mendRedBelowRed_130 hk hs ⟨rfl, V, _, m, rfl, h, Or.inl ⟨rfl, hlr, hrr, hl, hr⟩, hL, hfr⟩
  | succ f ih =>
    intro V z q low m i l r hf hi h hz hl hr hlr hrr hL hfr
    obtain ⟨t1, t6⟩ := h.top6
    have h' : ob_zt T V t nl z (ob_mkn true q low true l r) := h
    obtain ⟨f1, f2, f3, f4, f5, f6⟩ := h'.foc
    have htree : ob_rb (.inner q low true l r) m := Or.inl ⟨rfl, hlr, hrr, hl, hr⟩
    have ht := h.1
    cases z with
    | nil =>
      refine og_iload_n dX4_mendRedBelowRed_4 rfl ?_
      refine og_bipush (v := 64) dX4_mendRedBelowRed_5 (by decide) ?_
      refine og_icmp_ge (tgt := 130) dX4_mendRedBelowRed_7 (by decide) (fun z9 => absurd z9 (ob_64 (by omega))) (fun _ => ?_)
      refine og_aload_n dX4_mendRedBelowRed_10 rfl rfl ?_
      refine og_getf dX4_mendRedBelowRed_11 kfX4_30 (by assumption) (by assumption) ?_
      refine og_getf dX4_mendRedBelowRed_14 kfX4_61 (by assumption) (by assumption) ?_
      refine og_if_eq (tgt := 130) dX4_mendRedBelowRed_17 (by decide) (fun _ => ?_) (fun z9 => absurd (rfl) z9)
      exact og_return rfl dX4_mendRedBelowRed_130 hk hs ⟨rfl, V, _, m, rfl, h, htree, hL, hfr⟩
    | cons fr1 z =>
      obtain ⟨d1, mid, c1, b1, q1⟩ := fr1
      cases c1 with
      | false =>
        refine og_iload_n dX4_mendRedBelowRed_4 rfl ?_
        refine og_bipush (v := 64) dX4_mendRedBelowRed_5 (by decide) ?_
        refine og_icmp_ge (tgt := 130) dX4_mendRedBelowRed_7 (by decide) (fun z9 => absurd z9 (ob_64 (by omega))) (fun _ => ?_)
        refine og_aload_n dX4_mendRedBelowRed_10 rfl rfl ?_
        refine og_getf dX4_mendRedBelowRed_11 kfX4_30 (by assumption) (by assumption) ?_
        refine og_getf dX4_mendRedBelowRed_14 kfX4_61 (by assumption) (by assumption) ?_
        refine og_if_eq (tgt := 130) dX4_mendRedBelowRed_17 (by decide) (fun _ => ?_) (fun z9 => absurd (rfl) z9)
        obtain ⟨N, g1, -⟩ := ob_zk_plug (t := .inner q low true l r) hz htree (fun e => absurd e id)
        exact og_return rfl dX4_mendRedBelowRed_130 hk hs ⟨rfl, V, _, N, rfl, h.whole, g1, hL, hfr⟩
      | true =>
        obtain ⟨zb1, zr1, zbl, zk1⟩ := hz
        cases z with
        | nil => exact absurd zbl id
        | cons fr2 z =>
          obtain ⟨d2, top, c2, unc, q2⟩ := fr2
          cases c2 with
          | true => exact absurd zbl id
          | false =>
            obtain ⟨zb2, zk2⟩ := zk1
            have hup := h.up
            have hup2 := hup.up
            obtain ⟨m1, m2, m3, m4, m5, m6⟩ := hup.foc
            obtain ⟨p1, p2, p3, p4, p5, p6⟩ := hup2.foc
            rw [ob_top_mk] at p3
            obtain ⟨-, u1, u6⟩ := hup2.foc2
            have m5 : V mid 5 = .ref top := m5
            have f5 : V low 5 = .ref mid := f5
            have hsd : V top 3 = .ref (if d2 then mid else ob_top nl unc) := by cases d2 <;> assumption
            have hne : d2 = false → mid ≠ ob_top nl unc := by
              intro _ e
              have hnd := hup2.2.2.2.2.2.2.2
              simp only [List.nodup_append, ob_nd_mk, ob_mem_mk] at hnd
              cases unc with
              | leaf => exact m2 e
              | inner q9 a9 c9 l9 r9 =>
                have e : mid = a9 := e
                exact hnd.2.1.2.2.2.2 mid (Or.inl rfl) (by rw [e]; simp [ob_ads])
            refine og_iload_n dX4_mendRedBelowRed_4 rfl ?_
            refine og_bipush (v := 64) dX4_mendRedBelowRed_5 (by decide) ?_
            refine og_icmp_ge (tgt := 130) dX4_mendRedBelowRed_7 (by decide) (fun z9 => absurd z9 (ob_64 (by omega))) (fun _ => ?_)
            refine og_aload_n dX4_mendRedBelowRed_10 rfl rfl ?_
            refine og_getf dX4_mendRedBelowRed_11 kfX4_30 (by assumption) (by assumption) ?_
            refine og_getf dX4_mendRedBelowRed_14 kfX4_61 (by assumption) (by assumption) ?_
            refine og_if_eq (tgt := 130) dX4_mendRedBelowRed_17 (by decide) (fun z9 => absurd z9 (by decide)) (fun _ => ?_)
            refine og_aload_n dX4_mendRedBelowRed_20 rfl rfl ?_
            refine og_getf dX4_mendRedBelowRed_21 kfX4_30 (by assumption) (by assumption) ?_
            refine og_astore dX4_mendRedBelowRed_24 (by decide) rfl ?_
            refine og_aload dX4_mendRedBelowRed_26 rfl rfl ?_
            refine og_getf dX4_mendRedBelowRed_28 kfX4_30 (by assumption) (by assumption) ?_
            refine og_astore dX4_mendRedBelowRed_31 (by decide) rfl ?_
            refine og_aload dX4_mendRedBelowRed_33 rfl rfl ?_
            refine og_aload dX4_mendRedBelowRed_35 rfl rfl ?_
            refine og_callVe dX4_mendRedBelowRed_37 kvX4_87 (ct_sideOf p1 hsd) rfl p1 rfl rfl ⟨Nat.le_trans (by decide) hR.1, Nat.le_trans (by decide) hR.2⟩ hk hs (Nat.le_of_ble_eq_true rfl) rfl ?_
            refine og_st [.int (ob_sd d2)] (by cases d2 with | false => simp [ob_sd, hne rfl] | true => simp [ob_sd]) ?_
            refine og_istore dX4_mendRedBelowRed_40 (by decide) ?_
            refine og_aload dX4_mendRedBelowRed_42 rfl rfl ?_
            refine og_iconst (v := 1) dX4_mendRedBelowRed_44 (by decide) ?_
            refine og_iload dX4_mendRedBelowRed_45 rfl ?_
            refine og_isub dX4_mendRedBelowRed_47 ?_
            refine og_st [.int (ob_sd (!d2)), .ref top] (by first | (rw [← ob_sd_not]; done) | (rw [← ob_sd_not]; rfl)) ?_
            refine og_callVe dX4_mendRedBelowRed_48 kvX4_58 (ct_child (d := !d2) p1 p4) rfl p1 rfl rfl ⟨Nat.le_trans (by decide) hR.1, Nat.le_trans (by decide) hR.2⟩ hk hs (Nat.le_of_ble_eq_true rfl) rfl ?_
            refine og_astore dX4_mendRedBelowRed_51 (by decide) rfl ?_
            refine og_aload dX4_mendRedBelowRed_53 rfl rfl ?_
            refine og_iconst (v := 1) dX4_mendRedBelowRed_55 (by decide) ?_
            refine og_put dX4_mendRedBelowRed_56 kfX4_61 (by assumption) rfl rfl ?_
            refine og_aload dX4_mendRedBelowRed_59 rfl rfl ?_
            refine og_lv [(0, .ref t), (2, .ref low), (3, .int (nI i)), (4, .ref mid), (5, .ref top), (6, .int (ob_sd d2)), (7, .ref (ob_top nl unc))] rfl ?_
            have hA := hup2.col true
            have frA : ob_fr t L V0 (ob_set V top 6 (ob_cv true)) := hfr.set (by rw [← hL]; simp [ob_plug_mk, ob_mem_plug, ob_mem_mk]) (by omega)
            have hu6 : ob_set V top 6 (ob_cv true) (ob_top nl unc) 6 = ob_cv (ob_red unc) := by
              obtain ⟨-, -, v6⟩ := hA.foc2
              exact v6
            generalize hVA : ob_set V top 6 (ob_cv true) = VA at hA frA hu6
            have hVA' : ob_set V top 6 (.int 1) = VA := hVA
            rw [hVA']
            cases hred : ob_red unc with
            | true =>
              rw [hred] at hu6
              cases unc with
              | leaf => cases hred
              | inner q3 u3 c3 l3 r3 =>
                have c3t : c3 = true := hred
                subst c3t
                refine og_getf dX4_mendRedBelowRed_61 kfX4_61 (by assumption) (by assumption) ?_
                refine og_if_eq (tgt := 85) dX4_mendRedBelowRed_64 (by decide) (fun z9 => absurd z9 (by decide)) (fun _ => ?_)
                refine og_aload dX4_mendRedBelowRed_67 rfl rfl ?_
                refine og_iconst (v := 0) dX4_mendRedBelowRed_69 (by decide) ?_
                refine og_put dX4_mendRedBelowRed_70 kfX4_61 m1 rfl rfl ?_
                refine og_aload dX4_mendRedBelowRed_73 rfl rfl ?_
                refine og_iconst (v := 0) dX4_mendRedBelowRed_75 (by decide) ?_
                refine og_put dX4_mendRedBelowRed_76 kfX4_61 (by assumption) rfl rfl ?_
                refine og_aload dX4_mendRedBelowRed_79 rfl rfl ?_
                refine og_astore_n dX4_mendRedBelowRed_81 (by decide) rfl ?_
                refine og_goto (tgt := 124) dX4_mendRedBelowRed_82 (by decide) ?_
                refine og_iinc dX4_mendRedBelowRed_124 rfl (nI_1 i) (by decide) ?_
                refine og_goto (tgt := 4) dX4_mendRedBelowRed_127 (by decide) ?_
                refine og_lv [(0, .ref t), (2, .ref top), (3, .int (nI (i + 1)))] rfl ?_
                -- mid black, uncle black
                have hB := (hA.down d2).col false
                have hC := hB.up
                rw [ob_mkn_swap] at hC
                have hD := ob_zt.col (d := true) false (hC.down (!d2))
                have hE := hD.up
                rw [ob_mkn_swap, Bool.not_not] at hE
                have hE' : ob_zt T (ob_set (ob_set VA mid 6 (ob_cv false)) u3 6 (ob_cv false)) t nl z (.inner q2 top true (if d2 then ob_mkn d1 q1 mid false (.inner q low true l r) b1 else ob_mkn true q3 u3 false l3 r3) (if d2 then ob_mkn true q3 u3 false l3 r3 else ob_mkn d1 q1 mid false (.inner q low true l r) b1)) := by
                  cases d2 <;> exact hE
                have hadsE : ob_ads (ob_plug z (.inner q2 top true (if d2 then ob_mkn d1 q1 mid false (.inner q low true l r) b1 else ob_mkn true q3 u3 false l3 r3) (if d2 then ob_mkn true q3 u3 false l3 r3 else ob_mkn d1 q1 mid false (.inner q low true l r) b1))) = L := by
                  rw [← hL, ob_plug_mk, ob_plug_mk]
                  refine ob_ads_plug2 ?_
                  have e1 := ob_ads_col d1 q1 mid false true (.inner q low true l r) b1
                  have e2 : ob_ads (ob_mkn true q3 u3 false l3 r3) = ob_ads (.inner q3 u3 true l3 r3) := rfl
                  cases d2 <;> simp [ob_mkn, ob_ads] at e1 e2 ⊢ <;> (try rw [e1]) <;> simp
                obtain ⟨z3a, z3b, z3c, z3d⟩ := (ob_rb_r (d := true) (q := q3) (a := u3)).mp zb2
                have rM : ob_rb (ob_mkn d1 q1 mid false (.inner q low true l r) b1) (m + 1) := ob_rb_b.mpr ⟨htree, zb1⟩
                have rU : ob_rb (ob_mkn true q3 u3 false l3 r3) (m + 1) := ob_rb_b.mpr ⟨z3c, z3d⟩
                have kM : ob_red (ob_mkn d1 q1 mid false (.inner q low true l r) b1) = false := ob_red_mk ..
                have kU : ob_red (ob_mkn true q3 u3 false l3 r3) = false := ob_red_mk ..
                refine ih _ z q2 top (m + 1) (i + 1) _ _ ?_ ?_ hE' zk2 ?_ ?_ ?_ ?_ hadsE ?_
                · simp only [List.length_cons] at hf; omega
                · simp only [List.length_cons] at hi; omega
                · cases d2 <;> assumption
                · cases d2 <;> assumption
                · cases d2 <;> assumption
                · cases d2 <;> assumption
                · refine (frA.set ?_ (by omega)).set ?_ (by omega)
                  · rw [← hL]; simp [ob_plug_mk, ob_mem_plug, ob_mem_mk]
                  · rw [← hL]; simp [ob_plug_mk, ob_mem_plug, ob_mem_mk, ob_ads, ob_top]
            | false =>
              rw [hred] at hu6
              refine og_getf dX4_mendRedBelowRed_61 kfX4_61 (by assumption) (by assumption) ?_
              refine og_if_eq (tgt := 85) dX4_mendRedBelowRed_64 (by decide) (fun _ => ?_) (fun z9 => absurd (rfl) z9)
              refine og_aload_n dX4_mendRedBelowRed_85 rfl rfl ?_
              refine og_aload dX4_mendRedBelowRed_86 rfl rfl ?_
              refine og_iload dX4_mendRedBelowRed_88 rfl ?_
              -- behind the first turn: mm rises
              have fin : ∀ (V3 : ob_V) (mm q4 : Nat) (P S : ob_t), ob_zt T V3 t nl z (ob_mkn d2 q2 top true (ob_mkn d2 q4 mm true P S) unc) → ob_fr t L V0 V3 → ob_ads (ob_plug z (ob_mkn d2 q2 top true (ob_mkn d2 q4 mm true P S) unc)) = L → ob_rb P m → ob_rb S m → ob_red S = false →
                  ob_G X mX4_mendRedBelowRed R (ob_mended T B J t nl L V0) 107 [(0, .ref t), (4, .ref mm), (5, .ref top), (6, .int (ob_sd d2))] [] (T, V3, B, J) k n := by
                intro V3 mm q4 P S hz3 fr3 hL3 rP rS kS
                obtain ⟨w1, w2, -⟩ := (hz3.down d2).foc
                have ht3 := hz3.1
                refine og_aload dX4_mendRedBelowRed_107 rfl rfl ?_
                refine og_iconst (v := 0) dX4_mendRedBelowRed_109 (by decide) ?_
                refine og_put dX4_mendRedBelowRed_110 kfX4_61 w1 rfl rfl ?_
                refine og_aload_n dX4_mendRedBelowRed_113 rfl rfl ?_
                refine og_aload dX4_mendRedBelowRed_114 rfl rfl ?_
                refine og_iconst (v := 1) dX4_mendRedBelowRed_116 (by decide) ?_
                refine og_iload dX4_mendRedBelowRed_117 rfl ?_
                refine og_isub dX4_mendRedBelowRed_119 ?_
                refine og_st [.int (ob_sd (!d2)), .ref top, .ref t] (by first | (rw [← ob_sd_not]; done) | (rw [← ob_sd_not]; rfl)) ?_
                have hz4 := ((hz3.down d2).col false).up
                have hz5 : ob_zt T (ob_set V3 mm 6 (ob_cv false)) t nl z (ob_mkn (!d2) q2 top true unc (ob_mkn (!d2) q4 mm false S P)) := by
                  have e1 : ob_mkn d2 q2 top true (ob_mkn d2 q4 mm false P S) unc = ob_mkn (!d2) q2 top true unc (ob_mkn (!d2) q4 mm false S P) := by
                    rw [ob_mkn_swap d2 q2, ob_mkn_swap d2 q4]
                  rw [← e1]; exact hz4
                refine og_callVn dX4_mendRedBelowRed_120 kvX4_90 (ct_rotate hz5) rfl ht3 rfl rfl ⟨hR.1, Nat.le_trans (by decide) hR.2⟩ hk hs (Nat.le_of_ble_eq_true rfl) rfl (fun E w' h9 => by cases h9.1) (fun v w' h9 => ?_)
                obtain ⟨hv, V', rfl, hz6, hfr6⟩ := h9
                cases hv
                have hmem : mm ∈ L := by rw [← hL3]; simp [ob_mem_plug, ob_mem_mk]
                have hL6 : ob_ads (ob_plug z (ob_mkn (!d2) q4 mm false (ob_mkn (!d2) q2 top true unc S) P)) = L := by
                  rw [← hL3]
                  refine ob_ads_plug2 ?_
                  rw [← ob_ads_rot (!d2) q2 q4 q4 q2 top mm true false false true unc S P, ob_mkn_swap d2 q2]
                  refine ob_ads_mk2 rfl ?_
                  rw [ob_mkn_swap d2 q4]
                  exact ob_ads_col ..
                obtain ⟨N, g1, -⟩ := ob_zk_plug (t := ob_mkn (!d2) q4 mm false (ob_mkn (!d2) q2 top true unc S) P) zk2 (ob_rb_b.mpr ⟨ob_rb_r.mpr ⟨hred, kS, zb2, rS⟩, rP⟩) (fun _ => ob_red_mk ..)
                refine og_return rfl dX4_mendRedBelowRed_123 hk hs ⟨rfl, V', _, N, rfl, hz6.whole, g1, hL6, ?_⟩
                refine ob_fr.tr (fr3.set hmem (by omega)) hfr6 (fun a ha => ?_)
                rw [← hL3]
                simp only [List.mem_append, ob_mem_mk, ob_mem_plug] at ha ⊢
                grind
              have hA1 := hA.down d2
              have pc1 : V mid (ob_sl d1) = .ref low := m3
              have pcA : VA mid (ob_sl d1) = .ref low ∧ VA mid (ob_sl (!d1)) = .ref (ob_top nl b1) := by
                obtain ⟨-, -, a3, a4, -⟩ := hA1.foc
                exact ⟨a3, a4⟩
              by_cases hd : d1 = d2
              · subst hd
                refine og_callVe dX4_mendRedBelowRed_90 kvX4_58 (ct_child (d := d1) m1 pcA.1) rfl m1 rfl rfl ⟨Nat.le_trans (by decide) hR.1, Nat.le_trans (by decide) hR.2⟩ hk hs (Nat.le_of_ble_eq_true rfl) rfl ?_
                refine og_acmp_eq (tgt := 107) dX4_mendRedBelowRed_93 (by decide) (fun _ => ?_) (fun z9 => absurd (rfl) z9)
                refine og_lv [(0, .ref t), (4, .ref mid), (5, .ref top), (6, .int (ob_sd d1))] rfl ?_
                exact fin VA mid q1 _ b1 hA frA (by rw [← hL, ob_plug_mk, ob_plug_mk]; exact ob_ads_plug2 (ob_ads_col ..)) htree zb1 zr1
              · have hd' : d1 = !d2 := by cases d1 <;> cases d2 <;> simp at hd ⊢
                subst hd'
                rw [Bool.not_not] at pcA
                have hlb : low ≠ ob_top nl b1 := by
                  intro e
                  have hnd := hup.2.2.2.2.2.2.2
                  simp only [List.nodup_append, ob_nd_mk, ob_mem_mk] at hnd
                  cases b1 with
                  | leaf => exact f2 e
                  | inner q9 a9 c9 l9 r9 =>
                    have e : low = a9 := e
                    exact hnd.2.1.2.2.2.2 low (by simp [ob_ads]) (by rw [e]; simp [ob_ads])
                refine og_callVe dX4_mendRedBelowRed_90 kvX4_58 (ct_child (d := d2) m1 pcA.2) rfl m1 rfl rfl ⟨Nat.le_trans (by decide) hR.1, Nat.le_trans (by decide) hR.2⟩ hk hs (Nat.le_of_ble_eq_true rfl) rfl ?_
                refine og_acmp_eq (tgt := 107) dX4_mendRedBelowRed_93 (by decide) (fun z9 => absurd z9 (hlb)) (fun _ => ?_)
                refine og_aload_n dX4_mendRedBelowRed_96 rfl rfl ?_
                refine og_aload dX4_mendRedBelowRed_97 rfl rfl ?_
                refine og_iload dX4_mendRedBelowRed_99 rfl ?_
                have hr1 : ob_zt T VA t nl ((d2, top, true, unc, q2) :: z) (ob_mkn d2 q1 mid true b1 (ob_mkn d2 q low true (if d2 then l else r) (if d2 then r else l))) := by
                  have e1 : ob_mkn (!d2) q1 mid true (.inner q low true l r) b1 = ob_mkn d2 q1 mid true b1 (ob_mkn d2 q low true (if d2 then l else r) (if d2 then r else l)) := by
                    rw [← ob_mkn_of d2, ob_mkn_swap (!d2), Bool.not_not]
                  rw [← e1]; exact hA1
                refine og_callVn dX4_mendRedBelowRed_101 kvX4_90 (ct_rotate hr1) rfl ht rfl rfl ⟨hR.1, Nat.le_trans (by decide) hR.2⟩ hk hs (Nat.le_of_ble_eq_true rfl) rfl (fun E w' h9 => by cases h9.1) (fun v w' h9 => ?_)
                obtain ⟨hv, V', rfl, hz6, hfr6⟩ := h9
                cases hv
                refine og_aload_n dX4_mendRedBelowRed_104 rfl rfl ?_
                refine og_astore dX4_mendRedBelowRed_105 (by decide) rfl ?_
                refine og_lv [(0, .ref t), (4, .ref low), (5, .ref top), (6, .int (ob_sd d2))] rfl ?_
                have hL7 : ob_ads (ob_plug z (ob_mkn d2 q2 top true (ob_mkn d2 q low true (ob_mkn d2 q1 mid true b1 (if d2 then l else r)) (if d2 then r else l)) unc)) = L := by
                  rw [← hL, ob_plug_mk, ob_plug_mk]
                  refine ob_ads_plug2 (ob_ads_mk2 ?_ rfl)
                  rw [ob_mkn_swap (!d2), Bool.not_not, ob_mkn_of d2 q low true l r]
                  exact (ob_ads_rot d2 q1 q q q1 mid low true true true true b1 _ _).symm
                have rl : ob_rb (if d2 then l else r) m := by cases d2 <;> assumption
                have rr : ob_rb (if d2 then r else l) m := by cases d2 <;> assumption
                have kl : ob_red (if d2 then l else r) = false := by cases d2 <;> assumption
                have kr : ob_red (if d2 then r else l) = false := by cases d2 <;> assumption
                refine fin V' low q _ _ hz6.up (ob_fr.tr frA hfr6 (fun a ha => ?_)) hL7 (ob_rb_r.mpr ⟨zr1, kl, zb1, rl⟩) rr kr
                rw [← hL7]
                simp only [List.mem_append, ob_mem_mk, ob_mem_plug, ob_zads, List.mem_cons] at ha ⊢
                grind
theorem ct_mendRed {V : ob_V} {t nl q low m : Nat} {z : List ob_f} {l r : ob_t} (h : ob_zt T V t nl z (.inner q low true l r)) (hz : z.length ≤ 120) (hk : ob_zk z m) (hl : ob_rb l m) (hr : ob_rb r m) (hlr : ob_red l = false) (hrr : ob_red r = false) : ob_C X mX4_mendRedBelowRed 3 0 0 [.ref t, .ref low] (T, V, B, J) (ob_mended T B J t nl (ob_ads (ob_plug z (.inner q low true l r))) V) := by
  refine ob_C_of (by decide) rfl (Nat.le_of_ble_eq_true rfl) ?_
  refine og_aload_n dX4_mendRedBelowRed_0 rfl rfl ?_
  refine og_astore_n dX4_mendRedBelowRed_1 (by decide) rfl ?_
  refine og_iconst (v := 0) dX4_mendRedBelowRed_2 (by decide) ?_
  refine og_istore_n dX4_mendRedBelowRed_3 (by decide) ?_
  refine og_lv [(0, .ref t), (2, .ref low), (3, .int (nI 0))] rfl ?_
  exact red_loop ⟨by decide, by decide⟩ (Nat.le_refl _) (Nat.le_refl _) _ V z q low m 0 l r (Nat.le_refl _) (by omega) h hk hl hr hlr hrr rfl ob_fr.rf
end OBF
