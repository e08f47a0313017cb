/-! THE HEAP: take -/
def ob_hs (T : ob_T) (V : ob_V) (B : ob_B) (hp edge hb lim cap used : Nat) (l : List ob_bk) : Prop := T hp = some (1, 0) ∧ V hp 0 = .int (nI lim) ∧ V hp 1 = .ref edge ∧ V hp 2 = .int (nI used) ∧ V hp 3 = .int (nI cap) ∧ V hp 4 = .ref hb ∧ T hb = some (7, 16 * cap) ∧ sb_Fit (B hb) ∧ ob_hq T V edge cap l ∧ ob_us l = used ∧ cap ≤ lim ∧ lim ≤ 4096
/-- what taking u units for a did: block b -/
def ob_tk (T : ob_T) (V : ob_V) (B : ob_B) (J : ob_J) (hp hb : Nat) (l : List ob_bk) (u a b : Nat) (T' : ob_T) (V' : ob_V) (B' : ob_B) (J' : ob_J) (hb' : Nat) (l' : List ob_bk) : Prop :=
  ob_hg hp T V T' V' ∧ (∃ s, ((b, s, u, some a) : ob_bk) ∈ l') ∧ (∀ s2 u2 a2, ((b, s2, u2, some a2) : ob_bk) ∉ l) ∧
  (∀ b2 s2 u2 a2, ((b2, s2, u2, some a2) : ob_bk) ∈ l → ∃ s', ((b2, s', u2, some a2) : ob_bk) ∈ l' ∧ ∀ j, j < 16 * u2 → B' hb' (16 * s' + j) = B hb (16 * s2 + j)) ∧
  (∀ b2 s' u2 a2, ((b2, s', u2, some a2) : ob_bk) ∈ l' → (b2 = b ∧ u2 = u ∧ a2 = a) ∨ ∃ s, ((b2, s, u2, some a2) : ob_bk) ∈ l) ∧
  (∀ x y, T x = some y → x ≠ hb → B' x = B x) ∧ (∀ x y, T x = some y → J' x = J x)
theorem ob_tk.pre {T T1 T' : ob_T} {V V1 V' : ob_V} {B B1 B' : ob_B} {J J1 J' : ob_J} {hp hb hb1 hb' u a b : Nat} {l l1 l' : List ob_bk} (h : ob_tk T1 V1 B1 J1 hp hb1 l1 u a b T' V' B' J' hb' l') (g : ob_hg hp T V T1 V1) (r : ob_rl B hb l B1 hb1 l1) (fb : ∀ x y, T x = some y → x ≠ hb → B1 x = B x ∧ x ≠ hb1) (fj : ∀ x y, T x = some y → J1 x = J x) : ob_tk T V B J hp hb l u a b T' V' B' J' hb' l' := by
  obtain ⟨h1, h2, h3, h4, h5, h6, h7⟩ := h
  refine ⟨g.tr h1, h2, fun s2 u2 a2 hm => ?_, fun b2 s2 u2 a2 hm => ?_, fun b2 s2 u2 a2 hm => ?_, fun x y hx hne => ?_, fun x y hx => ?_⟩
  · obtain ⟨s', h9, -⟩ := r.1 _ _ _ _ hm
    exact h3 _ _ _ h9
  · obtain ⟨s', h9, h8⟩ := r.1 _ _ _ _ hm
    obtain ⟨s3, h7, h6⟩ := h4 _ _ _ _ h9
    exact ⟨s3, h7, fun j hj => (h6 j hj).trans (h8 j hj)⟩
  · rcases h5 _ _ _ _ hm with h9 | ⟨s, h9⟩
    · exact Or.inl h9
    · exact Or.inr (r.2 _ _ _ _ h9)
  · have := fb x y hx hne
    rw [h6 x y (g.1 _ _ hx) this.2, this.1]
  · rw [h7 x y (g.1 _ _ hx), fj x y hx]
section OBU
variable {X : ob_X} {T : ob_T} {V : ob_V} {B : ob_B} {J : ob_J} {R : Room} {Q : ob_r → ob_w → Prop} {k n : Nat}
theorem take_end {hp edge hb lim cap used a b s m0 u : Nat} {l1 l2 : List ob_bk} (h : ob_hs T V B hp edge hb lim cap used (l1 ++ (b, s, m0, none) :: l2)) (hu : u ≤ m0) (hu1 : 1 ≤ u) (hR : 4 ≤ R.frames ∧ 240 ≤ R.locals) (hk : k + 1 ≤ R.cells) (hs : n + 4 ≤ R.slots)
    (kk : ∀ T' V' l', ob_hs T' V' B hp edge hb lim cap (used + u) l' → ob_tk T V B J hp hb (l1 ++ (b, s, m0, none) :: l2) u a b T' V' B J hb l' → Q (.inl (some (.ref b))) (T', V', B, J)) :
    ob_G X mX1_take R Q 48 [(0, .ref hp), (1, .ref a), (2, .int (nI u)), (3, .ref b)] [] (T, V, B, J) k n := by
  obtain ⟨h1, h2, h3, h4, h5, h6, h7, h8, h9, h10, h11, h12⟩ := h
  refine og_aload_n dX1_take_48 rfl rfl ?_
  refine og_iload_n dX1_take_49 rfl ?_
  refine og_callSn dX1_take_50 ksX1_55 (ct_cut h9 hu1 hu (by omega)) rfl rfl ⟨Nat.le_trans (by decide) hR.1, Nat.le_trans (by decide) hR.2⟩ hk hs (Nat.le_of_ble_eq_true rfl) rfl (fun E w' h9 => by cases h9.1) (fun v w' h99 => ?_)
  obtain ⟨hv, T1, V1, l2', rfl, f1, f2, f3, f4⟩ := h99
  cases hv
  obtain ⟨g1, g2, g3, g4⟩ := id f2
  obtain ⟨v9, k1, rfl, k2, k3, k4, k5, k6⟩ := ob_sg_app.mp g2
  have h1' := f1.1 _ _ h1
  have hhb : ∀ j, V1 hp j = V hp j := f1.2 hp 1 0 h1 (by decide)
  have bhp : b ≠ hp := fun e => by rw [e, h1'] at k2; cases k2
  have e2 : ob_set V1 b 2 (.ref a) hp 2 = .int (nI used) := by rw [ob_set_a _ _ _ _ _ bhp.symm, hhb]; exact h4
  refine og_aload_n dX1_take_53 rfl rfl ?_
  refine og_aload_n dX1_take_54 rfl rfl ?_
  refine og_put dX1_take_55 kfX1_59 (by assumption) rfl rfl ?_
  refine og_aload_n dX1_take_58 rfl rfl ?_
  refine og_dup dX1_take_59 rfl ?_
  refine og_getf dX1_take_60 kfX1_44 (by assumption) (by assumption) ?_
  refine og_iload_n dX1_take_63 rfl ?_
  refine og_iadd dX1_take_64 ?_
  refine og_put dX1_take_65 kfX1_44 (by assumption) rfl rfl ?_
  refine og_aload_n dX1_take_68 rfl rfl ?_
  refine og_areturn rfl (Or.inl ⟨_, rfl⟩) (Or.inr ⟨_, rfl⟩) dX1_take_69 hk hs ?_
  rw [nI_add]
  generalize hV2 : ob_set (ob_set V1 b 2 (.ref a)) hp 2 (.int (nI (used + u))) = V2
  have far : ∀ x j, x ≠ b → x ≠ hp → V2 x j = V1 x j := fun x j ha hb => by rw [← hV2]; simp [ob_set, ha, hb]
  have hpj : ∀ j, j ≠ 2 → V2 hp j = V hp j := fun j hj => by rw [← hhb j, ← hV2]; simp [ob_set, hj]
  have hp2 : V2 hp 2 = .int (nI (used + u)) := by rw [← hV2]; simp [ob_set]
  have bj : ∀ j, j ≠ 2 → V2 b j = V1 b j := fun j hj => by rw [← hV2]; simp [ob_set, hj]
  have b2 : V2 b 2 = .ref a := by rw [← hV2]; simp [ob_set, bhp]
  have hnd2 := g3
  simp only [List.map_append, List.map_cons, List.nodup_cons, List.nodup_append, List.mem_append, List.mem_cons] at hnd2
  have hh : ∀ x, T1 x = some (0, 0) → x ≠ hp := fun x hx e => by rw [e, h1'] at hx; cases hx
  have eb : edge ≠ b := fun e => hnd2.1 (Or.inr (Or.inl e))
  have hn2 : ∀ (s2 u2 : Nat) (a2 : Nat), ((b, s2, u2, some a2) : ob_bk) ∉ l1 ++ (b, s, m0, none) :: l2 := by
    have hnd3 := h9.2.2.1
    simp only [List.map_append, List.map_cons, List.nodup_cons, List.nodup_append, List.mem_append, List.mem_cons] at hnd3
    intro s2 u2 a2 hm
    rcases List.mem_append.mp hm with h | h
    · exact hnd3.2.2.2 b (List.mem_map.mpr ⟨_, h, rfl⟩) b (Or.inl rfl) rfl
    · rcases List.mem_cons.mp h with h | h
      · cases h
      · exact hnd3.2.2.1.1 (List.mem_map.mpr ⟨_, h, rfl⟩)
  refine kk T1 V2 (l1 ++ (b, s, u, some a) :: l2') ⟨h1', by rw [hpj _ (by decide)]; exact h2, by rw [hpj _ (by decide)]; exact h3, hp2, by rw [hpj _ (by decide)]; exact h5, by rw [hpj _ (by decide)]; exact h6, f1.1 _ _ h7, h8, ⟨g1, ?_, ?_, ?_⟩, ?_, h11, h12⟩ ⟨⟨f1.1, ?_⟩, ⟨s, by simp⟩, hn2, ?_, ?_, fun _ _ _ _ => rfl, fun _ _ _ => rfl⟩
  · rw [far edge 3 eb (hh edge g1)]
    refine ob_sg_app.mpr ⟨.ref b, ob_sg_congr (fun x hx j => far x j (fun e => hnd2.2.2.2 x hx b (Or.inl rfl) e) (hh x (ob_sg_T k1 x hx))) k1, rfl, k2, by rw [bj _ (by decide)]; exact k3, by rw [bj _ (by decide)]; exact k4, b2, ?_⟩
    rw [bj _ (by decide)]
    exact ob_sg_congr (fun x hx j => far x j (fun e => hnd2.2.2.1.1 (e ▸ hx)) (hh x (ob_sg_T k6 x hx))) k6
  · simpa using g3
  · obtain ⟨mid, t1, t2⟩ := ob_til_app.mp g4
    exact ob_til_app.mpr ⟨mid, t1, t2⟩
  · rw [← h10, ob_us_app, ob_us_app]
    simp only [ob_us]
    omega
  · intro x c n9 hx hc hne j
    rw [far x j (fun e => ?_) hne]
    · exact f1.2 x c n9 hx hc j
    · have := f1.1 _ _ hx
      rw [e, k2] at this
      cases this
      exact hc rfl
  · intro b2 s2 u2 a2 hm
    refine ⟨s2, ?_, fun _ _ => rfl⟩
    rcases List.mem_append.mp hm with h | h
    · exact List.mem_append_left _ h
    · rcases List.mem_cons.mp h with h | h
      · cases h
      · exact List.mem_append_right _ (List.mem_cons_of_mem _ ((f4 _ (by simp)).mpr h))
  · intro b2 s2 u2 a2 hm
    rcases List.mem_append.mp hm with h | h
    · exact Or.inr ⟨s2, List.mem_append_left _ h⟩
    · rcases List.mem_cons.mp h with h | h
      · cases h; exact Or.inl ⟨rfl, rfl, rfl⟩
      · exact Or.inr ⟨s2, List.mem_append_right _ (List.mem_cons_of_mem _ ((f4 _ (by simp)).mp h))⟩
theorem take_mid {hp edge hb lim cap used a u : Nat} {r0 : Option Nat} {l : List ob_bk} (h : ob_hs T V B hp edge hb lim cap used l) (hu1 : 1 ≤ u) (hr : ∀ b, r0 = some b → ∃ s m0, ((b, s, m0, none) : ob_bk) ∈ l ∧ u ≤ m0) (hn : r0 = none → used + u ≤ cap) (hR : 4 ≤ R.frames ∧ 240 ≤ R.locals) (hk : k + 2 ≤ R.cells) (hs : n + 8 ≤ R.slots)
    (kk : ∀ b T' V' B' l', ob_hs T' V' B' hp edge hb lim cap (used + u) l' → ob_tk T V B J hp hb l u a b T' V' B' J hb l' → Q (.inl (some (.ref b))) (T', V', B', J)) :
    ob_G X mX1_take R Q 39 [(0, .ref hp), (1, .ref a), (2, .int (nI u)), (3, va_rf r0)] [] (T, V, B, J) k n := by
  cases r0 with
  | some b =>
    obtain ⟨s, m0, hm, hum⟩ := hr b rfl
    obtain ⟨l1, l2, rfl⟩ := List.append_of_mem hm
    refine og_lv [(0, .ref hp), (1, .ref a), (2, .int (nI u)), (3, .ref b)] rfl ?_
    refine og_aload_n dX1_take_39 rfl rfl ?_
    refine og_ifnonnull (tgt := 48) dX1_take_40 (by decide) ?_
    exact take_end h hum hu1 hR (by omega) (by omega) (fun T' V' l' a b => kk _ T' V' B l' a b)
  | none =>
    obtain ⟨h1, h2, h3, h4, h5, h6, h7, h8, h9, h10, h11, h12⟩ := id h
    refine og_lv [(0, .ref hp), (1, .ref a), (2, .int (nI u)), (3, .null)] rfl ?_
    refine og_aload_n dX1_take_39 rfl rfl ?_
    refine og_ifnonnullN dX1_take_40 ?_
    refine og_aload_n dX1_take_43 rfl rfl ?_
    have := hn rfl
    refine og_callVn dX1_take_44 kvX1_51 (ct_pushTogether h1 h3 h5 h6 h7 (by omega) h8 h9 (by omega)) rfl h1 rfl rfl ⟨Nat.le_trans (by decide) hR.1, Nat.le_trans (by decide) hR.2⟩ (by omega) (by omega) (Nat.le_of_ble_eq_true rfl) rfl (fun E w' h9 => by obtain ⟨_, _, _, _, _, h9, _⟩ := h9; cases h9) (fun v w' h99 => ?_)
    obtain ⟨q, T1, V1, B1, D, hv, rfl, f1, f2, f3, f4, f5, f6⟩ := h99
    cases hv
    refine og_astore_n dX1_take_47 (by decide) rfl ?_
    refine og_lv [(0, .ref hp), (1, .ref a), (2, .int (nI u)), (3, .ref q)] rfl ?_
    have hhb : ∀ j, V1 hp j = V hp j := f1.2 hp 1 0 h1 (by decide)
    refine take_end (l1 := D) (l2 := []) ⟨f1.1 _ _ h1, by rw [hhb]; exact h2, by rw [hhb]; exact h3, by rw [hhb]; exact h4, by rw [hhb]; exact h5, by rw [hhb]; exact h6, f1.1 _ _ h7, f5, f2, ?_, h11, h12⟩ (by omega) hu1 hR (by omega) (by omega) (fun T' V' l' a b => kk _ T' V' B1 l' a (b.pre f1.g ?_ (fun x y hx hne => ⟨f4 x hne, hne⟩) (fun _ _ _ => rfl)))
    · rw [ob_us_app, f3, h10]; simp [ob_us]
    · refine f6.tr (ob_rl.same fun e he => ?_)
      rw [List.mem_append]
      exact ⟨fun h => h.resolve_right (fun h8 => he (by rw [List.mem_singleton.mp h8])), Or.inl⟩
/-- units after growing in take, 0 if it does not grow -/
def ob_gr (l : List ob_bk) (lim cap used u : Nat) : Nat := if ob_run u 0 l = false ∧ cap < used + u then min lim (max (used + u) (2 * cap)) else 0
theorem ct_take {hp edge hb lim cap used a u : Nat} {l : List ob_bk} (h : ob_hs T V B hp edge hb lim cap used l) (hu1 : 1 ≤ u) (hu : used + u ≤ lim) : ob_C X mX1_take 4 4 (12 + 16 * ob_gr l lim cap used u) [.ref hp, .ref a, .int (nI u)] (T, V, B, J) (fun r w' => ∃ b T' V' B' J' hb' l', r = .inl (some (.ref b)) ∧ w' = (T', V', B', J') ∧ (hb' = hb ∨ T hb' = none) ∧ ob_hs T' V' B' hp edge hb' lim (if ob_gr l lim cap used u = 0 then cap else ob_gr l lim cap used u) (used + u) l' ∧ ob_tk T V B J hp hb l u a b T' V' B' J' hb' l') := by
  refine ob_C_of (by decide) rfl (Nat.le_of_ble_eq_true rfl) ?_
  obtain ⟨h1, h2, h3, h4, h5, h6, h7, h8, h9, h10, h11, h12⟩ := id h
  refine og_lv [(0, .ref hp), (1, .ref a), (2, .int (nI u))] rfl ?_
  refine og_aload_n dX1_take_0 rfl rfl ?_
  refine og_iload_n dX1_take_1 rfl ?_
  refine og_callVn dX1_take_2 kvX1_40 (ct_firstFit h1 h3 h9 (by omega) (by omega) hu1) rfl h1 rfl rfl ⟨Nat.le_of_ble_eq_true rfl, Nat.le_of_ble_eq_true rfl⟩ (Nat.le_of_ble_eq_true rfl) (Nat.zero_le _) (Nat.le_of_ble_eq_true rfl) rfl (fun E w' h9 => by obtain ⟨_, _, _, h9, _⟩ := h9; cases h9) (fun v w' h99 => ?_)
  obtain ⟨r0, V1, l1, hv, rfl, f1, f2, f3, f4, f5, f6, f7⟩ := h99
  cases hv
  have fV : ∀ x c n, T x = some (c, n) → c ≠ 0 → ∀ j, V1 x j = V x j := fun x c n hx hc j => f4 x j (fun h => by rw [ob_sg_T h9.2.1 x h] at hx; cases hx; exact hc rfl)
  have hh := fV hp 1 0 h1 (by decide)
  have hs1 : ob_hs T V1 B hp edge hb lim cap used l1 := ⟨h1, by rw [hh]; exact h2, by rw [hh]; exact h3, by rw [hh]; exact h4, by rw [hh]; exact h5, by rw [hh]; exact h6, h7, h8, f1, f2.trans h10, h11, h12⟩
  refine og_astore_n dX1_take_5 (by decide) (va_rf_ref r0) ?_
  refine og_lv [(0, .ref hp), (1, .ref a), (2, .int (nI u)), (3, va_rf r0)] rfl ?_
  cases r0 with
  | some b =>
    have hg : ob_gr l lim cap used u = 0 := by
      refine if_neg (fun h => ?_)
      have := f7.mpr h.1
      cases this
    rw [hg]
    refine og_aload_n dX1_take_6 rfl rfl ?_
    refine og_ifnonnull (tgt := 39) dX1_take_7 (by decide) ?_
    refine take_mid hs1 hu1 f6 (fun h => by cases h) ⟨by decide, by decide⟩ (Nat.le_of_ble_eq_true rfl) (Nat.le_of_ble_eq_true rfl) ?_
    intro b T' V' B' l' x1 x2
    exact ⟨b, T', V', B', J, hb, l', rfl, rfl, Or.inl rfl, x1, x2.pre ⟨fun _ _ h => h, fun x c n9 hx hc _ => fV x c n9 hx hc⟩ (ob_rl.same f3) (fun x y hx hne => ⟨rfl, hne⟩) (fun _ _ _ => rfl)⟩
  | none =>
    have hrun := f7.mp rfl
    obtain ⟨e1, e2, e3, e4, e5, e6, -⟩ := id hs1
    refine og_aload_n dX1_take_6 rfl rfl ?_
    refine og_ifnonnullN dX1_take_7 ?_
    refine og_aload_n dX1_take_10 rfl rfl ?_
    refine og_getf dX1_take_11 kfX1_21 (by assumption) (by assumption) ?_
    refine og_aload_n dX1_take_14 rfl rfl ?_
    refine og_getf dX1_take_15 kfX1_44 (by assumption) (by assumption) ?_
    refine og_isub dX1_take_18 ?_
    refine og_iload_n dX1_take_19 rfl ?_
    refine og_st [.int (nI u), .int (nI (cap - used))] ?_ ?_
    · rw [nI_sub (by have := ob_us_le h9.2.2.2; omega)]; rfl
    have hle := ob_us_le h9.2.2.2
    refine og_icmp_ge (tgt := 39) dX1_take_20 (by decide) (fun hc => ?_) (fun hc => ?_)
    · have hle2 := (nI_leI (by omega) (by omega)).mp hc
      have hg : ob_gr l lim cap used u = 0 := if_neg (fun h => by omega)
      rw [hg]
      refine take_mid (r0 := none) hs1 hu1 (fun _ h => by cases h) (fun h => by omega) ⟨by decide, by decide⟩ (Nat.le_of_ble_eq_true rfl) (Nat.le_of_ble_eq_true rfl) ?_
      intro b T' V' B' l' x1 x2
      exact ⟨b, T', V', B', J, hb, l', rfl, rfl, Or.inl rfl, x1, x2.pre ⟨fun _ _ h => h, fun x c n9 hx hc _ => fV x c n9 hx hc⟩ (ob_rl.same f3) (fun x y hx hne => ⟨rfl, hne⟩) (fun _ _ _ => rfl)⟩
    · have hgt : cap < used + u := by
        rcases Nat.lt_or_ge cap (used + u) with h | h
        · exact h
        · exact absurd (nI_le (a := u) (b := cap - used) (by omega) (by omega)) hc
      have hg : ob_gr l lim cap used u = min lim (max (used + u) (2 * cap)) := if_pos ⟨hrun, hgt⟩
      generalize hgg : ob_gr l lim cap used u = g at *
      have hg0 : g ≠ 0 := by omega
      rw [if_neg hg0]
      refine og_aload_n dX1_take_23 rfl rfl ?_
      refine og_aload_n dX1_take_24 rfl rfl ?_
      refine og_getf dX1_take_25 kfX1_44 (by assumption) (by assumption) ?_
      refine og_iload_n dX1_take_28 rfl ?_
      refine og_iadd dX1_take_29 ?_
      refine og_st [.int (nI (used + u)), .ref hp] (by rw [nI_add]) ?_
      refine og_callVn dX1_take_30 kvX1_47 (ct_grow e1 e2 e3 e5 e6 h7 h8 f1 h12 hgt hu hg) rfl h1 rfl rfl ⟨Nat.le_of_ble_eq_true rfl, Nat.le_of_ble_eq_true rfl⟩ (Nat.le_of_ble_eq_true rfl) (by show 0 + 0 + (4 + 16 * g) ≤ 12 + 16 * g; omega) (Nat.le_of_ble_eq_true rfl) rfl (fun E w' h9 => by cases h9.1) (fun v w' h99 => ?_)
      obtain ⟨hv, q, hb1, T2, V2, B2, J2, rfl, g0, g1, g2, g3, g4, g5, g6, g7, g8, g9⟩ := h99
      cases hv
      have h1' := g1.1 _ _ h1
      refine og_aload_n dX1_take_33 rfl rfl ?_
      refine og_iload_n dX1_take_34 rfl ?_
      refine og_callVn dX1_take_35 kvX1_40 (ct_firstFit h1' (by rw [g3 1 (by decide)]; exact e3) g2 (by omega) (by omega) hu1) rfl h1' rfl rfl ⟨Nat.le_of_ble_eq_true rfl, Nat.le_of_ble_eq_true rfl⟩ (Nat.le_of_ble_eq_true rfl) (by show 0 + 0 + (4 + 16 * g) + 0 ≤ 12 + 16 * g; omega) (Nat.le_of_ble_eq_true rfl) rfl (fun E w' h9 => by obtain ⟨_, _, _, h9, _⟩ := h9; cases h9) (fun v w' h99 => ?_)
      obtain ⟨r1, V3, l3, hv, rfl, i1, i2, i3, i4, i5, i6, i7⟩ := h99
      cases hv
      have fV3 : ∀ x c n, T2 x = some (c, n) → c ≠ 0 → ∀ j, V3 x j = V2 x j := fun x c n hx hc j => i4 x j (fun h => by rw [ob_sg_T g2.2.1 x h] at hx; cases hx; exact hc rfl)
      have hh3 := fV3 hp 1 0 h1' (by decide)
      refine og_astore_n dX1_take_38 (by decide) (va_rf_ref r1) ?_
      refine og_lv [(0, .ref hp), (1, .ref a), (2, .int (nI u)), (3, va_rf r1)] rfl ?_
      have us2 : ob_us l3 = used := by rw [i2, ob_us_app, f2, h10]; simp [ob_us]
      refine take_mid (cap := g) (l := l3) (lim := lim) (used := used) ⟨h1', by rw [hh3, g3 0 (by decide)]; exact e2, by rw [hh3, g3 1 (by decide)]; exact e3, by rw [hh3, g3 2 (by decide)]; exact e4, by rw [hh3]; exact g4, by rw [hh3]; exact g5, g6, g7, i1, us2, by omega, h12⟩ hu1 i6 (fun h => by omega) ⟨Nat.le_of_ble_eq_true rfl, Nat.le_of_ble_eq_true rfl⟩ (Nat.le_of_ble_eq_true rfl) (by show 0 + 0 + (4 + 16 * g) + 0 + 8 ≤ 12 + 16 * g; omega) ?_
      intro b T' V' B' l' x1 x2
      refine ⟨b, T', V', B', J2, hb1, l', rfl, rfl, Or.inr g0, x1, ?_⟩
      have r1 : ob_rl B hb l B hb l1 := ob_rl.same f3
      have r2 : ob_rl B hb l1 B2 hb1 l3 := by
        have til := (ob_til_le f1.2.2.2).2
        refine ⟨fun b s u a hm => ⟨s, (i3 (b, s, u, some a) (by simp)).mpr (List.mem_append_left _ hm), fun j hj => g9 _ ?_⟩, fun b s u a hm => ⟨s, ?_⟩⟩
        · have := til _ hm
          simp only at this
          omega
        · have := (i3 (b, s, u, some a) (by simp)).mp hm
          rcases List.mem_append.mp this with h | h
          · exact h
          · cases List.mem_singleton.mp h
      refine x2.pre ⟨g1.1, fun x c n9 hx hc hne j => ?_⟩ (r1.tr r2) (fun x y hx hne => ⟨(g8 x y hx).1, fun e => by rw [e, g0] at hx; cases hx⟩) (fun x y hx => (g8 x y hx).2)
      rw [fV3 x c n9 (g1.1 _ _ hx) hc j, g1.2 x c n9 hx hc hne j, fV x c n9 hx hc j]
end OBU
