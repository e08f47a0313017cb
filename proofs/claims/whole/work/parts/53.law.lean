/-! THE LAW: what the two keep of each other; its cases -/
section LWK
variable {T T' : ob_T} {V V' : ob_V} {B B' : ob_B} {x m mt mr mb mk mv me mu cap thr : Nat} {S : sp_S}
theorem ob_I.keep (h : ob_I T V B x me mu cap S) (hT : ∀ a y, T a = some y → T' a = some y) (hV : ∀ a c n, T a = some (c, n) → (c < 6 ∨ c = 7) → (∀ j, V' a j = V a j) ∧ B' a = B a) : ob_I T' V' B' x me mu cap S := by
  obtain ⟨hp, edge, hb, t, nl, tp, tb, rs, rr, N, l, tt, K, h, hy⟩ := h
  obtain ⟨⟨x1, x2, x3, x4, x5, x6, x7, x8⟩, hs, ⟨t1, t2, t3, t4, t5⟩, en, ⟨r1, r2, r3, r4, r5, r6, r7, r8, r9, r10, r11⟩, n1, n2, n3⟩ := h
  obtain ⟨y1, y2, y3, ⟨y4, y5, y6⟩, y7, y8, y9⟩ := hy
  have fx := (hV x _ _ x1 (by decide)).1
  have ftp := (hV tp _ _ r1 (by decide)).1
  have frs := (hV rs _ _ r5 (by decide)).1
  have ft := (hV t 4 0 t1.1 (by decide)).1
  have btb := (hV tb _ _ r3 (Or.inr rfl)).2
  have brr := (hV rr _ _ r7 (Or.inr rfl)).2
  have bhb := (hV hb _ _ hs.2.2.2.2.2.2.1 (Or.inr rfl)).2
  refine ⟨hp, edge, hb, t, nl, tp, tb, rs, rr, N, l, tt, K, ⟨⟨hT _ _ x1, by rw [fx]; exact x2, by rw [fx]; exact x3, by rw [fx]; exact x4, by rw [fx]; exact x5, by rw [fx]; exact x6, by rw [fx]; exact x7, by rw [fx]; exact x8⟩, hs.ext hT (fun y c z hy hc j => (hV y c z hy (by omega)).1 j) (by rw [bhb]; exact hs.2.2.2.2.2.2.2.1), ⟨t1.keep hT (fun y c z hy h9 j _ => (hV y c z hy (by rcases h9 with rfl | rfl; rw [t1.1] at hy; cases hy; decide; decide)).1 j), by rw [ft]; exact t2, t3, t4, t5⟩, ?_, ⟨hT _ _ r1, by rw [ftp]; exact r2, hT _ _ r3, by rw [btb]; exact r4, hT _ _ r5, by rw [frs]; exact r6, hT _ _ r7, r8, r9, r10, r11⟩, n1, n2, n3⟩, ⟨y1, by rw [fx]; exact y2, y3, ⟨by rw [ftp]; exact y4, y5, y6.same (fun j _ => by rw [btb])⟩, by rw [frs]; exact y7, y8, y9.same (fun j _ => by rw [brr])⟩⟩
  have en2 := en.keep (V' := V') (fun a => Iff.rfl) (fun a ha j _ => (hV a 2 0 (t1.2.2.2.2.2.1.2 a ha).1 (by decide)).1 j)
  refine ⟨fun a ha => ?_, en2.2⟩
  obtain ⟨q1, q2, q3, q4, q5, b9, s9, q6, q7, q8⟩ := en2.1 a ha
  exact ⟨q1, q2, q3, q4, q5, b9, s9, q6, q7, q8.same (fun j _ => by rw [bhb])⟩
theorem ob_I.lim (h : ob_I T V B x me mu cap S) : cap ≤ mu ∧ mu ≤ 4096 := by
  obtain ⟨hp, edge, hb, t, nl, tp, tb, rs, rr, N, l, tt, K, h, hy⟩ := h
  exact h.2.1.2.2.2.2.2.2.2.2.2.2
theorem ob_M.ext (h : ob_M T V B m mt mr mb mk mv me mu thr S) (hT : ∀ a y, T a = some y → T' a = some y) (hV : ∀ a c n, T a = some (c, n) → 6 ≤ c → c ≠ 7 → (∀ j, V' a j = V a j) ∧ B' a = B a) : ob_M T' V' B' m mt mr mb mk mv me mu thr S := by
  obtain ⟨⟨⟨a1, a2, a3, a4, a5, a6, a7, a8⟩, ⟨b1, b2, b3, b4, b5⟩, ne⟩, ⟨c1, c2, c3, c4, c5⟩, d1, ⟨e1, e2⟩, ⟨f1, f2⟩, g1⟩ := h
  have fm := (hV m _ _ a1 (by decide) (by decide)).1
  have ft := (hV mt _ _ b1 (by decide) (by decide)).2
  have fr := (hV mr _ _ b2 (by decide) (by decide)).2
  have fb := (hV mb _ _ b3 (by decide) (by decide)).2
  have fk := (hV mk _ _ b4 (by decide) (by decide)).2
  have fv := (hV mv _ _ b5 (by decide) (by decide)).2
  exact ⟨⟨⟨hT _ _ a1, by rw [fm]; exact a2, by rw [fm]; exact a3, by rw [fm]; exact a4, by rw [fm]; exact a5, by rw [fm]; exact a6, by rw [fm]; exact a7, by rw [fm]; exact a8⟩, ⟨hT _ _ b1, hT _ _ b2, hT _ _ b3, hT _ _ b4, hT _ _ b5⟩, ne⟩, ⟨by rw [fm]; exact c1, by rw [fm]; exact c2, c3.same (fun j _ => by rw [fb]), c4.same (fun j _ => by rw [fk]), c5.same (fun j _ => by rw [fv])⟩, by rw [fm]; exact d1, ⟨by rw [fm]; exact e1, e2.same (fun j _ => by rw [ft])⟩, ⟨by rw [fm]; exact f1, f2.same (fun j _ => by rw [fr])⟩, by rw [fm]; exact g1⟩
theorem ob_I.wm {thr9 : Nat} {S9 : sp_S} (h : ob_I T V B x me mu cap S) (hM : ob_M T V B m mt mr mb mk mv me mu thr9 S9) (hw : ob_WM V B m mt mr mb mk mv V' B') : ob_I T V' B' x me mu cap S := by
  obtain ⟨⟨⟨a1, -⟩, ⟨b1, b2, b3, b4, b5⟩, -⟩, -⟩ := hM
  refine h.keep (fun _ _ h => h) (fun a c n ha hc => ⟨hw.1 a (fun e => ?_), hw.2 a (fun e => ?_) (fun e => ?_) (fun e => ?_) (fun e => ?_) (fun e => ?_)⟩)
  · rw [e, a1] at ha; cases ha; omega
  · rw [e, b1] at ha; cases ha; omega
  · rw [e, b2] at ha; cases ha; omega
  · rw [e, b3] at ha; cases ha; omega
  · rw [e, b4] at ha; cases ha; omega
  · rw [e, b5] at ha; cases ha; omega
/-- the slots that growing has taken -/
def ob_ph (mu cap : Nat) : Nat := if cap = mu then 3 * mu else 2 * cap
theorem ob_ph_le (h : ob_I T V B x me mu cap S) : ob_ph mu cap ≤ 12288 := by
  have := h.lim
  unfold ob_ph
  split <;> omega
theorem ob_ph_up {g : Nat} (h : cap ≤ mu ∧ mu ≤ 4096) (hg : g = 0 ∨ ((2 * cap ≤ g ∨ g = mu) ∧ cap < g ∧ g ≤ mu)) : ob_ph mu cap + g ≤ ob_ph mu (if g = 0 then cap else g) ∧ ob_ph mu (if g = 0 then cap else g) ≤ 12288 := by
  unfold ob_ph
  by_cases h0 : g = 0
  · rw [if_pos h0]
    by_cases h1 : cap = mu
    · rw [if_pos h1]; omega
    · rw [if_neg h1]; omega
  · rw [if_neg h0]
    have h2 : cap ≠ mu := by omega
    rw [if_neg h2]
    by_cases h1 : g = mu
    · rw [if_pos h1]; omega
    · rw [if_neg h1]; omega
theorem ob_cmp0 {a b : Int64} (h : a = b) : lg_cmp a b = 0 := by
  subst h
  unfold lg_cmp
  simp
end LWK
abbrev mL_law : ob_y := (yL_law, cL_law, 7, some .boolean, [])
section LWC
variable {X : ob_X} {R : Room} {Q : ob_r → ob_w → Prop} {y : ob_y} {pc : Nat} {lv : List (Nat × Value)} {st : List Value} {w : ob_w} {k n : Nat}
theorem og_saldz {j : Nat} {z : Int32} (hdg : decode y.2.1 pc = .ok (.iaload, 1)) (hz : z = nI j) (hj : j < sc_L X) (hL : sc_L X ≤ 2050) (kk : ob_G X y R Q (pc + 1) lv (.int (sc_v X j) :: st) w k n) : ob_G X y R Q pc lv (.int z :: .ref (sc_A X) :: st) w k n := by
  subst hz
  exact og_sald hdg hj hL kk
theorem cl_cell {T : ob_T} {V : ob_V} {B : ob_B} {J : ob_J} {j : Nat} {z : Int32} (hz : z = nI j) (hj : j < 2) (hL : sc_L X ≤ 2050) : ob_C X mL_cell 0 0 0 [.ref (sc_A X), .int z] (T, V, B, J) (ob_e (some (.int (if j < sc_L X then sc_v X j else 0))) (T, V, B, J)) := by
  refine ob_C_of (by decide) rfl (Nat.le_of_ble_eq_true rfl) ?_
  subst hz
  refine og_iload_n dL_cell_0 rfl ?_
  refine og_aload_n dL_cell_1 rfl rfl ?_
  refine og_slen dL_cell_2 ?_
  refine og_icmp_ge (tgt := 12) dL_cell_3 (by decide) (fun hc => ?_) (fun hc => ?_)
  · have h9 : ¬ j < sc_L X := fun h9 => absurd (nI_lt h9 (by omega)) (by grind)
    rw [if_neg h9]
    refine og_iconst (v := 0) dL_cell_12 (by decide) ?_
    exact og_ireturn (ty := .int) rfl dL_cell_13 rfl (by decide) (by decide) ⟨rfl, rfl⟩
  · have h9 : j < sc_L X := by
      rcases Nat.lt_or_ge j (sc_L X) with h | h
      · exact h
      · exact absurd (nI_le h (by omega)) hc
    rw [if_pos h9]
    refine og_aload_n dL_cell_6 rfl rfl ?_
    refine og_iload_n dL_cell_7 rfl ?_
    refine og_sald dL_cell_8 h9 hL ?_
    refine og_goto (tgt := 13) dL_cell_9 (by decide) ?_
    exact og_ireturn (ty := .int) rfl dL_cell_13 rfl (by decide) (by decide) ⟨rfl, rfl⟩
abbrev ob_l5 (X : ob_X) (x m out : Nat) (i : Int32) : List (Nat × Value) := [(0, .ref (sc_A X)), (1, .ref x), (2, .ref m), (3, .ref out), (4, .int i)]
/-- the state of the loop, and room for r calls more -/
def ob_Z (R : Room) (T : ob_T) (V : ob_V) (B : ob_B) (x m mt mr mb mk mv out me mu cap thr : Nat) (S : sp_S) (k n r : Nat) : Prop := ob_I T V B x me mu cap S ∧ ob_M T V B m mt mr mb mk mv me mu thr S ∧ T out = some (9, 1) ∧ k + 8 * r ≤ R.cells ∧ n + 60 * r + 196608 ≤ R.slots + 16 * ob_ph mu cap
def ob_Lo (X : ob_X) (R : Room) (Q : ob_r → ob_w → Prop) (x m mt mr mb mk mv out me mu i r : Nat) : Prop := ∀ T V B J S cap thr k n, ob_Z R T V B x m mt mr mb mk mv out me mu cap thr S k n r → ob_G X mL_law R Q 876 (ob_l5 X x m out (nI i)) [] (T, V, B, J) k n
end LWC
