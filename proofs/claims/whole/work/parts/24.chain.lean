/-! THE HEAP'S CHAIN OF BLOCKS: address, start, units, owner; joinFreeOnes, firstFit -/
abbrev ob_bk : Type := Nat × Nat × Nat × Option Nat
/-- a stretch of the chain, from v to v' -/
def ob_sg (T : ob_T) (V : ob_V) : List ob_bk → Value → Value → Prop
  | [], v, v' => v = v'
  | (b, s, u, o) :: l, v, v' => v = .ref b ∧ T b = some (0, 0) ∧ V b 0 = .int (nI s) ∧ V b 1 = .int (nI u) ∧ V b 2 = va_rf o ∧ ob_sg T V l (V b 3) v'
theorem ob_sg_app {T : ob_T} {V : ob_V} : ∀ {l1 l2 : List ob_bk} {v v' : Value}, ob_sg T V (l1 ++ l2) v v' ↔ ∃ m, ob_sg T V l1 v m ∧ ob_sg T V l2 m v'
  | [], l2, v, v' => by simp [ob_sg]
  | (b, s, u, o) :: l1, l2, v, v' => by
    simp only [List.cons_append, ob_sg, ob_sg_app]
    constructor
    · rintro ⟨h1, h2, h3, h4, h5, m, h6, h7⟩; exact ⟨m, ⟨h1, h2, h3, h4, h5, h6⟩, h7⟩
    · rintro ⟨m, ⟨h1, h2, h3, h4, h5, h6⟩, h7⟩; exact ⟨h1, h2, h3, h4, h5, m, h6, h7⟩
theorem ob_sg_congr {T : ob_T} {V V' : ob_V} : ∀ {l : List ob_bk} {v v' : Value}, (∀ a ∈ l.map (·.1), ∀ k, V' a k = V a k) → ob_sg T V l v v' → ob_sg T V' l v v'
  | [], _, _, _, h => h
  | (b, s, u, o) :: l, v, v', h, ⟨h1, h2, h3, h4, h5, h6⟩ => by
    have hb := h b (by simp)
    refine ⟨h1, h2, by rw [hb]; exact h3, by rw [hb]; exact h4, by rw [hb]; exact h5, ?_⟩
    rw [hb]
    exact ob_sg_congr (fun a ha => h a (by simp only [List.map_cons, List.mem_cons]; exact Or.inr ha)) h6
theorem ob_sg_ext {T T' : ob_T} {V : ob_V} (hT : ∀ a x, T a = some x → T' a = some x) : ∀ {l : List ob_bk} {v v' : Value}, ob_sg T V l v v' → ob_sg T' V l v v'
  | [], _, _, h => h
  | (b, s, u, o) :: l, v, v', ⟨h1, h2, h3, h4, h5, h6⟩ => ⟨h1, hT b _ h2, h3, h4, h5, ob_sg_ext hT h6⟩
/-- the blocks lie side by side from i to cap -/
def ob_til : List ob_bk → Nat → Nat → Prop
  | [], i, cap => i = cap
  | (_, s, u, _) :: l, i, cap => s = i ∧ 1 ≤ u ∧ ob_til l (i + u) cap
theorem ob_til_app : ∀ {l1 l2 : List ob_bk} {i cap : Nat}, ob_til (l1 ++ l2) i cap ↔ ∃ m, ob_til l1 i m ∧ ob_til l2 m cap
  | [], l2, i, cap => by simp [ob_til]
  | (b, s, u, o) :: l1, l2, i, cap => by
    simp only [List.cons_append, ob_til, ob_til_app]
    grind
theorem ob_til_le : ∀ {l : List ob_bk} {i cap : Nat}, ob_til l i cap → i ≤ cap ∧ ∀ e ∈ l, i ≤ e.2.1 ∧ 1 ≤ e.2.2.1 ∧ e.2.1 + e.2.2.1 ≤ cap
  | [], i, cap, h => ⟨by simp [ob_til] at h; omega, by simp⟩
  | (b, s, u, o) :: l, i, cap, ⟨h1, h2, h3⟩ => by
    obtain ⟨g1, g2⟩ := ob_til_le h3
    refine ⟨by omega, fun e he => ?_⟩
    rcases List.mem_cons.mp he with rfl | he
    · exact ⟨by simp [h1], h2, by simp; omega⟩
    · obtain ⟨k1, k2, k3⟩ := g2 e he
      exact ⟨by omega, k2, k3⟩
/-- units that have an owner -/
def ob_us : List ob_bk → Nat
  | [] => 0
  | (_, _, u, some _) :: l => u + ob_us l
  | (_, _, _, none) :: l => ob_us l
theorem ob_us_app : ∀ (l1 l2 : List ob_bk), ob_us (l1 ++ l2) = ob_us l1 + ob_us l2
  | [], _ => by simp [ob_us]
  | (b, s, u, some a) :: l1, l2 => by simp [ob_us, ob_us_app l1 l2]; omega
  | (b, s, u, none) :: l1, l2 => by simp [ob_us, ob_us_app l1 l2]
theorem ob_us_le : ∀ {l : List ob_bk} {i cap : Nat}, ob_til l i cap → i + ob_us l ≤ cap
  | [], i, cap, h => by simp [ob_til] at h; simp [ob_us]; omega
  | (b, s, u, some a) :: l, i, cap, ⟨h1, h2, h3⟩ => by have := ob_us_le h3; simp [ob_us]; omega
  | (b, s, u, none) :: l, i, cap, ⟨h1, h2, h3⟩ => by have := ob_us_le h3; simp [ob_us]; omega
/-- free ones joined to u, and the rest -/
def ob_jn : Nat → List ob_bk → Nat × List ob_bk
  | u, [] => (u, [])
  | u, (_, _, u2, none) :: l => ob_jn (u + u2) l
  | u, (b2, s2, u2, some a) :: l => (u, (b2, s2, u2, some a) :: l)
theorem ob_jn_spec : ∀ (l : List ob_bk) (u : Nat), ∃ fr, l = fr ++ (ob_jn u l).2 ∧ (∀ e ∈ fr, e.2.2.2 = none) ∧ u ≤ (ob_jn u l).1 ∧ ob_us l = ob_us (ob_jn u l).2 ∧ (∀ i cap, ob_til l (i + u) cap → ob_til (ob_jn u l).2 (i + (ob_jn u l).1) cap)
  | [], u => ⟨[], by simp [ob_jn], by simp, by simp [ob_jn], by simp [ob_jn], fun i cap h => by simpa [ob_jn] using h⟩
  | (b2, s2, u2, none) :: l, u => by
    obtain ⟨fr, h1, h2, h3, h4, h5⟩ := ob_jn_spec l (u + u2)
    refine ⟨(b2, s2, u2, none) :: fr, by simp only [ob_jn, List.cons_append]; rw [← h1], ?_, by simp only [ob_jn]; omega, by simp only [ob_jn, ob_us]; exact h4, fun i cap h => ?_⟩
    · intro e he
      rcases List.mem_cons.mp he with rfl | he
      · rfl
      · exact h2 e he
    · simp only [ob_jn]
      exact h5 i cap (by obtain ⟨-, -, h9⟩ := h; rw [← Nat.add_assoc]; exact h9)
  | (b2, s2, u2, some a) :: l, u => ⟨[], by simp [ob_jn], by simp, by simp [ob_jn], by simp [ob_jn], fun i cap h => by simpa [ob_jn] using h⟩
/-- somewhere m free units lie together (acc of them right before) -/
def ob_run (m : Nat) : Nat → List ob_bk → Bool
  | acc, [] => decide (m ≤ acc)
  | acc, (_, _, u, none) :: l => ob_run m (acc + u) l
  | acc, (_, _, _, some _) :: l => decide (m ≤ acc) || ob_run m 0 l
theorem ob_run_jn {m : Nat} (hm : 1 ≤ m) : ∀ (l : List ob_bk) (u : Nat), ob_run m u l = (decide (m ≤ (ob_jn u l).1) || ob_run m 0 (ob_jn u l).2)
  | [], u => by
    have : ¬ m ≤ 0 := by omega
    simp [ob_run, ob_jn, this]
    try rfl
  | (b2, s2, u2, none) :: l, u => by simp only [ob_run, ob_jn]; exact ob_run_jn hm l (u + u2)
  | (b2, s2, u2, some a) :: l, u => by
    have : ¬ m ≤ 0 := by omega
    simp [ob_run, ob_jn, this]
    try rfl
section OBJ
variable {X : ob_X} {T : ob_T} {V : ob_V} {B : ob_B} {J : ob_J} {R : Room} {Q : ob_r → ob_w → Prop} {k n : Nat}
theorem va_rf_ref (o : Option Nat) : (va_rf o).isRef = true := by cases o <;> rfl
theorem ob_sg_v {l : List ob_bk} {v : Value} (h : ob_sg T V l v .null) : v.isRef = true := by
  cases l with
  | nil => have : v = .null := h; rw [this]; rfl
  | cons f l => obtain ⟨b, s, u, o⟩ := f; rw [h.1]; rfl
theorem join_loop {b : Nat} (hb : T b = some (0, 0)) (hk : k ≤ R.cells) (hs : n ≤ R.slots) : ∀ (l : List ob_bk) (u : Nat) (v : Value), ob_sg T V l v .null → b ∉ l.map (·.1) →
    (∀ v', ob_sg T V (ob_jn u l).2 v' .null → Q (.inl none) (T, ob_set (ob_set V b 1 (.int (nI (ob_jn u l).1))) b 3 v', B, J)) →
    ob_G X mX1_joinFreeOnes R Q 5 [(0, .ref b), (1, v)] [] (T, ob_set V b 1 (.int (nI u)), B, J) k n := by
  intro l
  induction l with
  | nil =>
    intro u v h hnb hq
    have hv : v = .null := h
    subst hv
    refine og_aload_n dX1_joinFreeOnes_5 rfl rfl ?_
    refine og_ifnullN (tgt := 37) dX1_joinFreeOnes_6 (by decide) ?_
    refine og_aload_n dX1_joinFreeOnes_37 rfl rfl ?_
    refine og_aload_n dX1_joinFreeOnes_38 rfl rfl ?_
    refine og_put dX1_joinFreeOnes_39 kfX1_37 hb rfl rfl ?_
    exact og_return rfl dX1_joinFreeOnes_42 hk hs (hq .null rfl)
  | cons f l ih =>
    obtain ⟨b2, s2, u2, o⟩ := f
    intro u v h hnb hq
    obtain ⟨rfl, h2, h3, h4, h5, h6⟩ := id h
    have hne : b2 ≠ b := fun e => hnb (by simp [e])
    have far : ∀ j, ob_set V b 1 (.int (nI u)) b2 j = V b2 j := fun j => ob_set_a _ _ _ _ j hne
    have e2 : ob_set V b 1 (.int (nI u)) b2 2 = va_rf o := by rw [far]; exact h5
    cases o with
    | some a =>
      have e2 : ob_set V b 1 (.int (nI u)) b2 2 = .ref a := e2
      refine og_aload_n dX1_joinFreeOnes_5 rfl rfl ?_
      refine og_ifnull dX1_joinFreeOnes_6 ?_
      refine og_aload_n dX1_joinFreeOnes_9 rfl rfl ?_
      refine og_getf dX1_joinFreeOnes_10 kfX1_59 (by assumption) (by assumption) ?_
      refine og_ifnonnull (tgt := 37) dX1_joinFreeOnes_13 (by decide) ?_
      refine og_aload_n dX1_joinFreeOnes_37 rfl rfl ?_
      refine og_aload_n dX1_joinFreeOnes_38 rfl rfl ?_
      refine og_put dX1_joinFreeOnes_39 kfX1_37 hb rfl rfl ?_
      exact og_return rfl dX1_joinFreeOnes_42 hk hs (hq (.ref b2) h)
    | none =>
      have e2 : ob_set V b 1 (.int (nI u)) b2 2 = .null := e2
      have e1 : ob_set V b 1 (.int (nI u)) b 1 = .int (nI u) := ob_set_s _ _ _ _
      have e4 : ob_set V b 1 (.int (nI u)) b2 1 = .int (nI u2) := by rw [far]; exact h4
      refine og_aload_n dX1_joinFreeOnes_5 rfl rfl ?_
      refine og_ifnull dX1_joinFreeOnes_6 ?_
      refine og_aload_n dX1_joinFreeOnes_9 rfl rfl ?_
      refine og_getf dX1_joinFreeOnes_10 kfX1_59 (by assumption) (by assumption) ?_
      refine og_ifnonnullN dX1_joinFreeOnes_13 ?_
      refine og_aload_n dX1_joinFreeOnes_16 rfl rfl ?_
      refine og_dup dX1_joinFreeOnes_17 rfl ?_
      refine og_getf dX1_joinFreeOnes_18 kfX1_63 (by assumption) (by assumption) ?_
      refine og_aload_n dX1_joinFreeOnes_21 rfl rfl ?_
      refine og_getf dX1_joinFreeOnes_22 kfX1_63 (by assumption) (by assumption) ?_
      refine og_iadd dX1_joinFreeOnes_25 ?_
      refine og_put dX1_joinFreeOnes_26 kfX1_63 hb rfl rfl ?_
      refine og_w (T, ob_set V b 1 (.int (nI (u + u2))), B, J) (by
        have : ob_set (ob_set V b 1 (.int (nI u))) b 1 (.int (nI u + nI u2)) = ob_set V b 1 (.int (nI (u + u2))) := by
          rw [nI_add]; funext x j; simp only [ob_set]; split <;> rfl
        exact congrArg (fun z => (T, z, B, J)) this) ?_
      have e3 : ob_set V b 1 (.int (nI (u + u2))) b2 3 = V b2 3 := ob_set_a _ _ _ _ _ hne
      have hr : (V b2 3).isRef = true := ob_sg_v h6
      refine og_aload_n dX1_joinFreeOnes_29 rfl rfl ?_
      refine og_getf dX1_joinFreeOnes_30 kfX1_37 (by assumption) (by assumption) ?_
      refine og_astore_n dX1_joinFreeOnes_33 (by decide) hr ?_
      refine og_goto (tgt := 5) dX1_joinFreeOnes_34 (by decide) ?_
      refine og_lv [(0, .ref b), (1, V b2 3)] rfl ?_
      exact ih (u + u2) (V b2 3) h6 (fun h9 => hnb (by simp only [List.map_cons, List.mem_cons]; exact Or.inr h9)) hq
theorem ct_join {b s u : Nat} {l : List ob_bk} (h : ob_sg T V ((b, s, u, none) :: l) (.ref b) .null) (hnb : b ∉ l.map (·.1)) : ob_C X mX1_joinFreeOnes 0 0 0 [.ref b] (T, V, B, J) (fun r w' => r = .inl none ∧ ∃ v', ob_sg T V (ob_jn u l).2 v' .null ∧ w' = (T, ob_set (ob_set V b 1 (.int (nI (ob_jn u l).1))) b 3 v', B, J)) := by
  refine ob_C_of (by decide) rfl (Nat.le_of_ble_eq_true rfl) ?_
  obtain ⟨-, hb, h3, h4, h5, h6⟩ := h
  refine og_lv [(0, .ref b)] rfl ?_
  refine og_aload_n dX1_joinFreeOnes_0 rfl rfl ?_
  refine og_getf dX1_joinFreeOnes_1 kfX1_37 hb rfl ?_
  refine og_astore_n dX1_joinFreeOnes_4 (by decide) (ob_sg_v h6) ?_
  refine og_lv [(0, .ref b), (1, V b 3)] rfl ?_
  refine og_w (T, ob_set V b 1 (.int (nI u)), B, J) ?_ ?_
  · have : ob_set V b 1 (.int (nI u)) = V := by
      funext x j
      by_cases h9 : x = b ∧ j = 1
      · rw [h9.1, h9.2, ob_set_s]; exact h4.symm
      · exact if_neg h9
    rw [this]
  exact join_loop hb (Nat.le_refl _) (Nat.le_refl _) l u (V b 3) h6 hnb (fun v' hv => ⟨rfl, v', hv, rfl⟩)
/-- the chain behind the edge -/
def ob_hq (T : ob_T) (V : ob_V) (edge cap : Nat) (l : List ob_bk) : Prop := T edge = some (0, 0) ∧ ob_sg T V l (V edge 3) .null ∧ (edge :: l.map (·.1)).Nodup ∧ ob_til l 0 cap
/-- the end of firstFit: the same taken blocks; the answer fits -/
def ob_fit (T : ob_T) (V : ob_V) (B : ob_B) (J : ob_J) (edge cap m : Nat) (l : List ob_bk) : ob_r → ob_w → Prop := fun r w' => ∃ r0 V' l2, r = .inl (some (va_rf r0)) ∧ w' = (T, V', B, J) ∧ ob_hq T V' edge cap l2 ∧ ob_us l2 = ob_us l ∧ (∀ e : ob_bk, e.2.2.2 ≠ none → (e ∈ l2 ↔ e ∈ l)) ∧ (∀ a j, a ∉ l.map (·.1) → V' a j = V a j) ∧ (∀ a ∈ l2.map (·.1), a ∈ l.map (·.1)) ∧ (∀ b, r0 = some b → ∃ s u, (b, s, u, none) ∈ l2 ∧ m ≤ u) ∧ (r0 = none ↔ ob_run m 0 l = false)
theorem fit_loop {V0 : ob_V} {hp edge cap m : Nat} {l0 : List ob_bk} (hcap : cap ≤ 4096) (hm : m < 100000) (hm1 : 1 ≤ m) (hR : 1 ≤ R.frames ∧ 60 ≤ R.locals) (hk : k ≤ R.cells) (hs : n ≤ R.slots) :
    ∀ (f : Nat) (rest done : List ob_bk) (V : ob_V) (v : Value), rest.length ≤ f → T edge = some (0, 0) → ob_sg T V done (V edge 3) v → ob_sg T V rest v .null → (edge :: (done ++ rest).map (·.1)).Nodup → ob_til (done ++ rest) 0 cap → ob_us (done ++ rest) = ob_us l0 → (∀ e : ob_bk, e.2.2.2 ≠ none → (e ∈ done ++ rest ↔ e ∈ l0)) → (∀ a j, a ∉ l0.map (·.1) → V a j = V0 a j) → (∀ a ∈ (done ++ rest).map (·.1), a ∈ l0.map (·.1)) → ob_run m 0 l0 = ob_run m 0 rest →
    ob_G X mX1_firstFit R (ob_fit T V0 B J edge cap m l0) 8 [(0, .ref hp), (1, .int (nI m)), (2, v)] [] (T, V, B, J) k n := by
  intro f
  induction f with
  | zero =>
    intro rest done V v hf hed hd hr hnd htil hus hta hfr hsub hrun
    have er : rest = [] := List.length_eq_zero_iff.mp (by omega)
    subst er
    have hv : v = .null := hr
    subst hv
    refine og_aload_n dX1_firstFit_8 rfl rfl ?_
    refine og_ifnullN (tgt := 41) dX1_firstFit_9 (by decide) ?_
    refine og_null dX1_firstFit_41 ?_
    rw [List.append_nil] at hnd htil hus hta hsub
    exact og_areturn rfl (Or.inl ⟨_, rfl⟩) (Or.inl rfl) dX1_firstFit_42 hk hs ⟨none, V, done, rfl, rfl, ⟨hed, hd, hnd, htil⟩, hus, hta, hfr, hsub, fun b h => (by cases h), fun _ => (by rw [hrun]; simp [ob_run]; omega), fun _ => rfl⟩
  | succ f ih =>
    intro rest done V v hf hed hd hr hnd htil hus hta hfr hsub hrun
    cases rest with
    | nil =>
      have hv : v = .null := hr
      subst hv
      refine og_aload_n dX1_firstFit_8 rfl rfl ?_
      refine og_ifnullN (tgt := 41) dX1_firstFit_9 (by decide) ?_
      refine og_null dX1_firstFit_41 ?_
      rw [List.append_nil] at hnd htil hus hta hsub
      exact og_areturn rfl (Or.inl ⟨_, rfl⟩) (Or.inl rfl) dX1_firstFit_42 hk hs ⟨none, V, done, rfl, rfl, ⟨hed, hd, hnd, htil⟩, hus, hta, hfr, hsub, fun b h => (by cases h), fun _ => (by rw [hrun]; simp [ob_run]; omega), fun _ => rfl⟩
    | cons e rest =>
      obtain ⟨b, s, u, o⟩ := e
      obtain ⟨rfl, h2, h3, h4, h5, h6⟩ := id hr
      have hnd2 := hnd
      simp only [List.map_append, List.map_cons, List.nodup_cons, List.nodup_append, List.mem_append, List.mem_cons] at hnd2
      cases o with
      | some a =>
        have h5 : V b 2 = .ref a := h5
        have hrf := ob_sg_v h6
        refine og_aload_n dX1_firstFit_8 rfl rfl ?_
        refine og_ifnull dX1_firstFit_9 ?_
        refine og_aload_n dX1_firstFit_12 rfl rfl ?_
        refine og_getf dX1_firstFit_13 kfX1_59 (by assumption) (by assumption) ?_
        refine og_ifnonnull (tgt := 33) dX1_firstFit_16 (by decide) ?_
        refine og_aload_n dX1_firstFit_33 rfl rfl ?_
        refine og_getf dX1_firstFit_34 kfX1_37 h2 rfl ?_
        refine og_astore_n dX1_firstFit_37 (by decide) hrf ?_
        refine og_goto (tgt := 8) dX1_firstFit_38 (by decide) ?_
        refine og_lv [(0, .ref hp), (1, .int (nI m)), (2, V b 3)] rfl ?_
        refine ih rest (done ++ [(b, s, u, some a)]) V (V b 3) (by simp only [List.length_cons] at hf; omega) hed (ob_sg_app.mpr ⟨_, hd, rfl, h2, h3, h4, h5, rfl⟩) h6 ?_ ?_ ?_ ?_ hfr ?_ (by rw [hrun]; simp [ob_run]; omega)
        all_goals (rw [List.append_assoc]; assumption)
      | none =>
        have h5 : V b 2 = .null := h5
        have hb' : b ∉ rest.map (·.1) := fun h9 => hnd2.2.2.1.1 h9
        refine og_aload_n dX1_firstFit_8 rfl rfl ?_
        refine og_ifnull dX1_firstFit_9 ?_
        refine og_aload_n dX1_firstFit_12 rfl rfl ?_
        refine og_getf dX1_firstFit_13 kfX1_59 (by assumption) (by assumption) ?_
        refine og_ifnonnullN dX1_firstFit_16 ?_
        refine og_aload_n dX1_firstFit_19 rfl rfl ?_
        refine og_callSn dX1_firstFit_20 ksX1_95 (ct_join hr hb') rfl rfl ⟨hR.1, Nat.le_trans (by decide) hR.2⟩ hk hs (Nat.le_of_ble_eq_true rfl) rfl (fun E w' h9 => by cases h9.1) (fun v w' h9 => ?_)
        obtain ⟨hv, v', hv', rfl⟩ := h9
        cases hv
        obtain ⟨fr, j1, j2, j3, j4, j5⟩ := ob_jn_spec rest u
        generalize hu' : (ob_jn u rest).1 = u' at *
        generalize hr' : (ob_jn u rest).2 = rest' at *
        obtain ⟨mid, tm1, tm2, tm3, tm4⟩ := ob_til_app.mp htil
        have tm4' := j5 mid cap tm4
        have hb1 : ∀ x j, x ≠ b → ob_set (ob_set V b 1 (.int (nI u'))) b 3 v' x j = V x j := fun x j hx => by simp [ob_set, hx]
        generalize hV1 : ob_set (ob_set V b 1 (.int (nI u'))) b 3 v' = V1 at *
        have b0 : V1 b 0 = .int (nI s) := by rw [← hV1]; simp [ob_set, h3]
        have b1 : V1 b 1 = .int (nI u') := by rw [← hV1]; simp [ob_set]
        have b2 : V1 b 2 = .null := by rw [← hV1]; simp [ob_set, h5]
        have b3 : V1 b 3 = v' := by rw [← hV1]; simp [ob_set]
        have eb : edge ≠ b := fun e => hnd2.1 (Or.inr (Or.inl e))
        have hrr : ∀ x ∈ rest'.map (·.1), x ∈ rest.map (·.1) := fun x hx => by rw [j1, List.map_append]; exact List.mem_append_right _ hx
        have hd1 : ob_sg T V1 done (V1 edge 3) (.ref b) := by
          rw [hb1 edge 3 eb]
          exact ob_sg_congr (fun x hx j => hb1 x j (fun e => hnd2.2.2.2 x hx b (Or.inl rfl) e)) hd
        have hr1 : ob_sg T V1 rest' v' .null := ob_sg_congr (fun x hx j => hb1 x j (fun e => hb' (by rw [← e]; exact hrr x hx))) hv'
        have hfr1 : ∀ a j, a ∉ l0.map (·.1) → V1 a j = V0 a j := fun a j ha => by
          rw [hb1 a j (fun e => ha (hsub a (by rw [e]; simp)))]; exact hfr a j ha
        have til1 : ob_til (done ++ (b, s, u', none) :: rest') 0 cap := ob_til_app.mpr ⟨mid, tm1, tm2, by omega, tm4'⟩
        have hle := (ob_til_le til1).2 (b, s, u', none) (by simp)
        have hle' : u' ≤ 4096 := by simp at hle; omega
        have nd1 : (edge :: (done ++ (b, s, u', none) :: rest').map (·.1)).Nodup := by
          have hfrr : (rest.map (·.1)).Nodup := hnd2.2.2.1.2
          rw [j1, List.map_append, List.nodup_append] at hfrr
          simp only [List.map_append, List.map_cons, List.nodup_cons, List.nodup_append, List.mem_append, List.mem_cons]
          refine ⟨?_, hnd2.2.1, ⟨fun h9 => hb' (hrr b h9), hfrr.2.1⟩, ?_⟩
          · rintro (h9 | h9 | h9)
            · exact hnd2.1 (Or.inl h9)
            · exact hnd2.1 (Or.inr (Or.inl h9))
            · exact hnd2.1 (Or.inr (Or.inr (hrr edge h9)))
          · intro x hx y hy
            refine hnd2.2.2.2 x hx y ?_
            rcases hy with h9 | h9
            · exact Or.inl h9
            · exact Or.inr (hrr y h9)
        have us1 : ob_us (done ++ (b, s, u', none) :: rest') = ob_us l0 := by
          rw [← hus, ob_us_app, ob_us_app]; simp only [ob_us]; omega
        have ta1 : ∀ e : ob_bk, e.2.2.2 ≠ none → (e ∈ done ++ (b, s, u', none) :: rest' ↔ e ∈ l0) := by
          intro e he
          rw [← hta e he]
          simp only [List.mem_append, List.mem_cons]
          rw [j1]
          simp only [List.mem_append]
          have n1 : e ≠ (b, s, u', none) := fun h9 => he (by rw [h9])
          have n2 : e ≠ (b, s, u, none) := fun h9 => he (by rw [h9])
          have n3 : e ∉ fr := fun h9 => he (j2 e h9)
          simp [n1, n2, n3]
        have sub1 : ∀ a ∈ (done ++ (b, s, u', none) :: rest').map (·.1), a ∈ l0.map (·.1) := by
          intro a ha
          refine hsub a ?_
          simp only [List.map_append, List.map_cons, List.mem_append, List.mem_cons] at ha ⊢
          rcases ha with h9 | h9 | h9
          · exact Or.inl h9
          · exact Or.inr (Or.inl h9)
          · exact Or.inr (Or.inr (hrr a h9))
        have hrun2 : ob_run m 0 l0 = (decide (m ≤ u') || ob_run m 0 rest') := by rw [hrun, ← hu', ← hr', ← ob_run_jn hm1]; simp [ob_run]
        refine og_aload_n dX1_firstFit_23 rfl rfl ?_
        refine og_getf dX1_firstFit_24 kfX1_63 (by assumption) (by assumption) ?_
        refine og_iload_n dX1_firstFit_27 rfl ?_
        refine og_icmp_lt (tgt := 33) dX1_firstFit_28 (by decide) (fun hc => ?_) (fun hc => ?_)
        · have hlt9 : ¬ m ≤ u' := fun h9 => absurd hc (nI_nlt h9 (by omega))
          have hrf : (V1 b 3).isRef = true := by rw [b3]; exact ob_sg_v hr1
          refine og_aload_n dX1_firstFit_33 rfl rfl ?_
          refine og_getf dX1_firstFit_34 kfX1_37 h2 rfl ?_
          refine og_astore_n dX1_firstFit_37 (by decide) hrf ?_
          refine og_goto (tgt := 8) dX1_firstFit_38 (by decide) ?_
          refine og_lv [(0, .ref hp), (1, .int (nI m)), (2, V1 b 3)] rfl ?_
          have hlen : rest'.length ≤ rest.length := by rw [j1, List.length_append]; omega
          refine ih rest' (done ++ [(b, s, u', none)]) V1 (V1 b 3) (by simp only [List.length_cons] at hf; omega) hed (ob_sg_app.mpr ⟨_, hd1, rfl, h2, b0, b1, b2, rfl⟩) (by rw [b3]; exact hr1) ?_ ?_ ?_ ?_ hfr1 ?_ (by rw [hrun2, decide_eq_false hlt9]; simp)
          all_goals (rw [List.append_assoc]; assumption)
        · have hge : m ≤ u' := by
            rcases Nat.lt_or_ge u' m with h9 | h9
            · exact absurd (nI_lt h9 (by omega)) hc
            · exact h9
          refine og_aload_n dX1_firstFit_31 rfl rfl ?_
          exact og_areturn rfl (Or.inl ⟨_, rfl⟩) (Or.inr ⟨_, rfl⟩) dX1_firstFit_32 hk hs ⟨some b, V1, done ++ (b, s, u', none) :: rest', rfl, rfl, ⟨hed, ob_sg_app.mpr ⟨_, hd1, rfl, h2, b0, b1, b2, by rw [b3]; exact hr1⟩, nd1, til1⟩, us1, ta1, hfr1, sub1, fun b9 h9 => (by cases h9; exact ⟨s, u', by simp, hge⟩), fun h9 => (by cases h9), fun h9 => by rw [hrun2, decide_eq_true hge] at h9; cases h9⟩
theorem ct_firstFit {hp edge cap m : Nat} {l : List ob_bk} (hhp : T hp = some (1, 0)) (hed : V hp 1 = .ref edge) (h : ob_hq T V edge cap l) (hcap : cap ≤ 4096) (hm : m < 100000) (hm1 : 1 ≤ m) : ob_C X mX1_firstFit 1 0 0 [.ref hp, .int (nI m)] (T, V, B, J) (ob_fit T V B J edge cap m l) := by
  refine ob_C_of (by decide) rfl (Nat.le_of_ble_eq_true rfl) ?_
  obtain ⟨h1, h2, h3, h4⟩ := h
  refine og_lv [(0, .ref hp), (1, .int (nI m))] rfl ?_
  refine og_aload_n dX1_firstFit_0 rfl rfl ?_
  refine og_getf dX1_firstFit_1 kfX1_33 (by assumption) (by assumption) ?_
  refine og_getf dX1_firstFit_4 kfX1_37 h1 rfl ?_
  refine og_astore_n dX1_firstFit_7 (by decide) (ob_sg_v h2) ?_
  refine og_lv [(0, .ref hp), (1, .int (nI m)), (2, V edge 3)] rfl ?_
  exact fit_loop hcap hm hm1 ⟨by decide, by decide⟩ (Nat.le_refl _) (Nat.le_refl _) _ l [] V (V edge 3) (Nat.le_refl _) h1 rfl h2 h3 h4 rfl (fun _ _ => Iff.rfl) (fun _ _ _ => rfl) (fun _ h => h) rfl
end OBJ
