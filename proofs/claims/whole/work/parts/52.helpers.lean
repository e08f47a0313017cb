/-! THE LAW'S HELPERS: each calls the object once and tells what it threw -/
abbrev mL_feed : ob_y := (yL_feed, cL_feed, 6, some .int, [((0 : Nat), (11 : Nat), (14 : Nat), (13 : Nat)), ((0 : Nat), (11 : Nat), (18 : Nat), (15 : Nat))])
theorem kwL_73 : ob_msW RL 73 mL_feed 4 := ⟨ob_in 301 (by decide +kernel) (by decide +kernel), ob_in 37 (by decide +kernel) (by decide +kernel), by decide, ob_in 299 (by decide +kernel) (by decide +kernel), ob_in 300 (by decide +kernel) (by decide +kernel), by decide +kernel⟩
abbrev mL_put : ob_y := (yL_put, cL_put, 4, some .int, [((0 : Nat), (16 : Nat), (19 : Nat), (13 : Nat)), ((0 : Nat), (16 : Nat), (22 : Nat), (15 : Nat))])
theorem kwL_80 : ob_msW RL 80 mL_put 3 := ⟨ob_in 398 (by decide +kernel) (by decide +kernel), ob_in 37 (by decide +kernel) (by decide +kernel), by decide, ob_in 396 (by decide +kernel) (by decide +kernel), ob_in 397 (by decide +kernel) (by decide +kernel), by decide +kernel⟩
abbrev mL_get : ob_y := (yL_get, cL_get, 3, some .int, [((0 : Nat), (8 : Nat), (11 : Nat), (13 : Nat)), ((0 : Nat), (8 : Nat), (14 : Nat), (25 : Nat))])
theorem kwL_84 : ob_msW RL 84 mL_get 2 := ⟨ob_in 521 (by decide +kernel) (by decide +kernel), ob_in 37 (by decide +kernel) (by decide +kernel), by decide, ob_in 519 (by decide +kernel) (by decide +kernel), ob_in 520 (by decide +kernel) (by decide +kernel), by decide +kernel⟩
abbrev mL_remove : ob_y := (yL_remove, cL_remove, 3, some .int, [((0 : Nat), (15 : Nat), (18 : Nat), (13 : Nat))])
theorem kwL_88 : ob_msW RL 88 mL_remove 2 := ⟨ob_in 558 (by decide +kernel) (by decide +kernel), ob_in 37 (by decide +kernel) (by decide +kernel), by decide, ob_in 556 (by decide +kernel) (by decide +kernel), ob_in 557 (by decide +kernel) (by decide +kernel), by decide +kernel⟩
abbrev mL_seek : ob_y := (yL_seek, cL_seek, 4, some .int, [((0 : Nat), (9 : Nat), (12 : Nat), (13 : Nat)), ((0 : Nat), (9 : Nat), (15 : Nat), (25 : Nat))])
theorem kwL_91 : ob_msW RL 91 mL_seek 3 := ⟨ob_in 589 (by decide +kernel) (by decide +kernel), ob_in 37 (by decide +kernel) (by decide +kernel), by decide, ob_in 587 (by decide +kernel) (by decide +kernel), ob_in 588 (by decide +kernel) (by decide +kernel), by decide +kernel⟩
abbrev mL_at : ob_y := (yL_at, cL_at, 4, some .int, [((0 : Nat), (9 : Nat), (12 : Nat), (38 : Nat))])
theorem kwL_94 : ob_msW RL 94 mL_at 3 := ⟨ob_in 606 (by decide +kernel) (by decide +kernel), ob_in 37 (by decide +kernel) (by decide +kernel), by decide, ob_in 604 (by decide +kernel) (by decide +kernel), ob_in 605 (by decide +kernel) (by decide +kernel), by decide +kernel⟩
abbrev mL_step : ob_y := (yL_step, cL_step, 4, some .int, [((0 : Nat), (16 : Nat), (19 : Nat), (15 : Nat))])
theorem kwL_97 : ob_msW RL 97 mL_step 3 := ⟨ob_in 630 (by decide +kernel) (by decide +kernel), ob_in 37 (by decide +kernel) (by decide +kernel), by decide, ob_in 628 (by decide +kernel) (by decide +kernel), ob_in 629 (by decide +kernel) (by decide +kernel), by decide +kernel⟩
abbrev mL_value : ob_y := (yL_value, cL_value, 3, some .int, [((0 : Nat), (8 : Nat), (11 : Nat), (15 : Nat))])
theorem kwL_101 : ob_msW RL 101 mL_value 2 := ⟨ob_in 643 (by decide +kernel) (by decide +kernel), ob_in 37 (by decide +kernel) (by decide +kernel), by decide, ob_in 641 (by decide +kernel) (by decide +kernel), ob_in 642 (by decide +kernel) (by decide +kernel), by decide +kernel⟩
abbrev mL_place : ob_y := (yL_place, cL_place, 3, some .int, [((0 : Nat), (8 : Nat), (11 : Nat), (15 : Nat))])
theorem kwL_104 : ob_msW RL 104 mL_place 2 := ⟨ob_in 650 (by decide +kernel) (by decide +kernel), ob_in 37 (by decide +kernel) (by decide +kernel), by decide, ob_in 648 (by decide +kernel) (by decide +kernel), ob_in 649 (by decide +kernel) (by decide +kernel), by decide +kernel⟩
abbrev mL_range : ob_y := (yL_range, cL_range, 3, some .int, [((0 : Nat), (8 : Nat), (11 : Nat), (13 : Nat)), ((0 : Nat), (8 : Nat), (14 : Nat), (15 : Nat))])
theorem kwL_107 : ob_msW RL 107 mL_range 2 := ⟨ob_in 657 (by decide +kernel) (by decide +kernel), ob_in 37 (by decide +kernel) (by decide +kernel), by decide, ob_in 655 (by decide +kernel) (by decide +kernel), ob_in 656 (by decide +kernel) (by decide +kernel), by decide +kernel⟩
abbrev mL_removeFrom : ob_y := (yL_removeFrom, cL_removeFrom, 4, some .int, [((0 : Nat), (9 : Nat), (12 : Nat), (13 : Nat)), ((0 : Nat), (9 : Nat), (15 : Nat), (15 : Nat))])
theorem kwL_110 : ob_msW RL 110 mL_removeFrom 3 := ⟨ob_in 665 (by decide +kernel) (by decide +kernel), ob_in 37 (by decide +kernel) (by decide +kernel), by decide, ob_in 663 (by decide +kernel) (by decide +kernel), ob_in 664 (by decide +kernel) (by decide +kernel), by decide +kernel⟩
abbrev mL_byteAt : ob_y := (yL_byteAt, cL_byteAt, 4, some .int, [((0 : Nat), (9 : Nat), (12 : Nat), (38 : Nat))])
theorem kwL_117 : ob_msW RL 117 mL_byteAt 3 := ⟨ob_in 673 (by decide +kernel) (by decide +kernel), ob_in 37 (by decide +kernel) (by decide +kernel), by decide, ob_in 671 (by decide +kernel) (by decide +kernel), ob_in 672 (by decide +kernel) (by decide +kernel), by decide +kernel⟩
theorem ki_IA : Cond.initialized ob_IA ∈ ob_tb := ob_in 49 (by decide +kernel) (by decide +kernel)
theorem ki_IS : Cond.initialized ob_IS ∈ ob_tb := ob_in 50 (by decide +kernel) (by decide +kernel)
theorem ki_NE : Cond.initialized ob_NE ∈ ob_tb := ob_in 53 (by decide +kernel) (by decide +kernel)
theorem ki_IO : Cond.initialized ob_IO ∈ ob_tb := ob_in 54 (by decide +kernel) (by decide +kernel)
/-- what a helper leaves -/
def ob_WL (T : ob_T) (V : ob_V) (B : ob_B) (T' : ob_T) (V' : ob_V) (B' : ob_B) : Prop := (∀ a y, T a = some y → T' a = some y) ∧ ∀ a c n, T a = some (c, n) → 6 ≤ c → c ≠ 7 → (∀ k, V' a k = V a k) ∧ B' a = B a
def ob_ov (bl : Bool) (v : Int32) : Int64 := if bl then (if v = 0 then 0 else 1) else v.toInt64
def ob_ql (T : ob_T) (V : ob_V) (B : ob_B) (x out me mu cap : Nat) (bl : Bool) (A : sp_A) : ob_r → ob_w → Prop := fun r w' => ∃ T' V' B' J', w' = (T', V', B', J') ∧ ob_WL T V B T' V' B' ∧ ob_I T' V' B' x me mu cap A.2.2 ∧ r = .inl (some (.int (nI A.1))) ∧ (A.1 = 0 → J' out 0 = ob_ov bl A.2.1) ∧ A.1 ≤ 2
section LWH
variable {X : ob_X} {T T' : ob_T} {V V' : ob_V} {B B' : ob_B} {J J' : ob_J} {x out me mu cap : Nat} {S : sp_S}
theorem ob_WX.wl (h : ob_WX T V B J T' V' B' J') : ob_WL T V B T' V' B' := ⟨h.1, fun a c n h1 h2 h3 => ⟨(h.2 a c n h1 h2 h3).1, (h.2 a c n h1 h2 h3).2.1⟩⟩
theorem ob_ql.no {A : sp_A} {bl : Bool} {c : Nat} {v : Int32} (hw : ob_WX T V B J T' V' B' J') (hI : ob_I T' V' B' x me mu cap A.2.2) (h : A.1 = c) (hc : c ≠ 0 ∧ c ≤ 2) (hv : nI c = v) : ob_ql T V B x out me mu cap bl A (.inl (some (.int v))) (T', V', B', J') := ⟨T', V', B', J', rfl, hw.wl, hI, by rw [h, hv], fun h9 => absurd (h.symm.trans h9) hc.1, by rw [h]; exact hc.2⟩
theorem ob_ql.yes {A : sp_A} {bl : Bool} {z : Int64} (hw : ob_WX T V B J T' V' B' J') (hI : ob_I T' V' B' x me mu cap A.2.2) (h : A.1 = 0) (hv : z = ob_ov bl A.2.1) : ob_ql T V B x out me mu cap bl A (.inl (some (.int 0))) (T', V', B', ob_set J' out 0 z) := ⟨T', V', B', _, rfl, hw.wl, hI, by rw [h]; rfl, fun _ => by rw [ob_set_s, hv], by rw [h]; decide⟩
theorem ob_I.Tx (h : ob_I T V B x me mu cap S) : T x = some (5, 0) := by
  obtain ⟨_, _, _, _, _, _, _, _, _, _, _, _, _, h, -⟩ := h
  exact h.1.1
theorem ob_an.val {e1 e2 : String} {A : sp_A} {v : Option Value} (h : ob_an e1 e2 A (.inl v)) : A.1 = 0 ∧ v = some (.int A.2.1) := by
  obtain ⟨h0, h1, h2, h3⟩ := h
  have : A.1 = 0 ∨ A.1 = 1 ∨ A.1 = 2 := by omega
  rcases this with e | e | e
  · exact ⟨e, by injection h0 e⟩
  · cases h1 e
  · cases h2 e
theorem ob_an.exc {e1 e2 : String} {A : sp_A} {E : String} (h : ob_an e1 e2 A (.inr E)) : (A.1 = 1 ∧ E = e1) ∨ (A.1 = 2 ∧ E = e2) := by
  obtain ⟨h0, h1, h2, h3⟩ := h
  have : A.1 = 0 ∨ A.1 = 1 ∨ A.1 = 2 := by omega
  rcases this with e | e | e
  · cases h0 e
  · exact Or.inl ⟨e, by injection h1 e⟩
  · exact Or.inr ⟨e, by injection h2 e⟩
theorem sp_rem1 : (sp_rem S).1 ≤ 1 := by unfold sp_rem; split <;> (try split) <;> simp
theorem sp_at1 {i : Int32} : (sp_at S i).1 ≤ 1 := by unfold sp_at sp_to; split <;> (try split) <;> simp
theorem sp_step1 {i : Bool} : (sp_step S i).1 ≤ 1 := by unfold sp_step; split <;> (try split) <;> (try split) <;> simp
theorem sp_val1 : (sp_val S).1 ≤ 1 := by unfold sp_val; split <;> simp
theorem sp_plc1 : (sp_plc S).1 ≤ 1 := by unfold sp_plc; split <;> simp
theorem sp_byt1 {i : Int32} : (sp_byt S i).1 ≤ 1 := by unfold sp_byt; split <;> simp
theorem cl_feed {e8 : Int64} {iv : Int32} (hI : ob_I T V B x me mu cap S) (ho : T out = some (9, 1)) : ob_CW X mL_feed 9 3 20 [.ref x, .long e8, .int iv, .ref out] (T, V, B, J) (ob_ql T V B x out me mu cap false (sp_feed S e8 iv)) := by
  refine ob_CW_of (by decide) (Nat.le_of_ble_eq_true rfl) (fun E w9 h9 => by obtain ⟨_, _, _, _, _, _, _, h9, _⟩ := h9; cases h9) ?_
  have x1 : T x = some (5, 0) := hI.Tx
  refine og_aload dL_feed_0 rfl rfl ?_
  refine og_iconst (v := 0) dL_feed_2 (by decide) ?_
  refine og_aload_n dL_feed_3 rfl rfl ?_
  refine og_lload_n dL_feed_4 rfl ?_
  refine og_iload_n dL_feed_5 rfl ?_
  refine og_callVc (st := [.int 0, .ref out]) dL_feed_6 kvL_7 (ct_feed hI) rfl x1 rfl rfl ⟨by decide, by decide⟩ (by decide) (by decide) (Nat.le_of_ble_eq_true rfl) ?_ ?_
  · rintro E w9 ⟨T', V', B', J', rfl, hw, hI', ha⟩
    rcases ha.exc with ⟨hA, rfl⟩ | ⟨hA, rfl⟩
    · refine ⟨[], _, _, rfl, (fun z hz => by cases hz), by decide, by decide, klL_13, ki_IA, fun q => ?_⟩
      show ob_G X _ _ _ 14 _ _ _ _ _
      refine og_astore dL_feed_14 (by decide) rfl ?_
      refine og_iconst (v := 1) dL_feed_16 (by decide) ?_
      exact og_ireturn (ty := .int) rfl dL_feed_17 rfl (by decide) (by decide) (ob_ql.no hw hI' hA (by decide) (by decide))
    · refine ⟨[_], _, _, rfl, (fun z hz => by rcases List.mem_singleton.mp hz with rfl; exact ⟨by decide, klL_13, Or.inl rfl⟩), by decide, by decide, klL_15, ki_IS, fun q => ?_⟩
      show ob_G X _ _ _ 18 _ _ _ _ _
      refine og_astore dL_feed_18 (by decide) rfl ?_
      refine og_iconst (v := 2) dL_feed_20 (by decide) ?_
      exact og_ireturn (ty := .int) rfl dL_feed_21 rfl (by decide) (by decide) (ob_ql.no hw hI' hA (by decide) (by decide))
  · rintro v w9 ⟨T', V', B', J', rfl, hw, hI', ha⟩
    obtain ⟨hA, rfl⟩ := ha.val
    have ho' : T' out = some (9, 1) := hw.1 _ _ ho
    show ob_G X _ _ _ 9 _ [.int (sp_feed S e8 iv).2.1, .int 0, .ref out] _ _ _
    refine og_i2l dL_feed_9 rfl ?_
    refine og_last dL_feed_10 ho' (vp_in_nI (n := 0) (by decide) (by decide)) ?_
    refine og_goto (tgt := 22) dL_feed_11 (by decide) ?_
    refine og_iconst (v := 0) dL_feed_22 (by decide) ?_
    exact og_ireturn (ty := .int) rfl dL_feed_23 rfl (by decide) (by decide) (ob_ql.yes hw hI' hA rfl)
theorem cl_put {iv : Int32} (hI : ob_I T V B x me mu cap S) (ho : T out = some (9, 1)) : ∃ g, (g = 0 ∨ ((2 * cap ≤ g ∨ g = mu) ∧ cap < g ∧ g ≤ mu)) ∧ ob_CW X mL_put 9 8 (40 + 16 * g) [.ref x, .int iv, .ref out] (T, V, B, J) (ob_ql T V B x out me mu (if g = 0 then cap else g) true (sp_put me mu S iv)) := by
  obtain ⟨g, hg, hC⟩ := ct_put (X := X) (J := J) (kc := iv) hI
  refine ⟨g, hg, ?_⟩
  refine ob_CW_of (by decide) (Nat.le_of_ble_eq_true rfl) (fun E w9 h9 => by obtain ⟨_, _, _, _, _, _, _, h9, _⟩ := h9; cases h9) ?_
  have x1 : T x = some (5, 0) := hI.Tx
  refine og_aload_n dL_put_0 rfl rfl ?_
  refine og_iconst (v := 0) dL_put_1 (by decide) ?_
  refine og_aload_n dL_put_2 rfl rfl ?_
  refine og_iload_n dL_put_3 rfl ?_
  refine og_callVc (st := [.int 0, .ref out]) dL_put_4 kvL_17 hC rfl x1 rfl rfl ⟨Nat.le_of_ble_eq_true rfl, Nat.le_of_ble_eq_true rfl⟩ (Nat.le_of_ble_eq_true rfl) (by show 0 + (40 + 16 * g) ≤ 40 + 16 * g; omega) (Nat.le_of_ble_eq_true rfl) ?_ ?_
  · rintro E w9 ⟨T', V', B', J', rfl, hw, hI', ha⟩
    rcases ha.exc with ⟨hA, rfl⟩ | ⟨hA, rfl⟩
    · refine ⟨[], _, _, rfl, (fun z hz => by cases hz), by decide, by decide, klL_13, ki_IA, fun q => ?_⟩
      show ob_G X _ _ _ 19 _ _ _ _ _
      refine og_astore_n dL_put_19 (by decide) rfl ?_
      refine og_iconst (v := 1) dL_put_20 (by decide) ?_
      exact og_ireturn (ty := .int) rfl dL_put_21 rfl (Nat.le_of_ble_eq_true rfl) (by show 0 + (40 + 16 * g) ≤ 40 + 16 * g; omega) (ob_ql.no hw hI' hA (by decide) (by decide))
    · refine ⟨[_], _, _, rfl, (fun z hz => by rcases List.mem_singleton.mp hz with rfl; exact ⟨by decide, klL_13, Or.inl rfl⟩), by decide, by decide, klL_15, ki_IS, fun q => ?_⟩
      show ob_G X _ _ _ 22 _ _ _ _ _
      refine og_astore_n dL_put_22 (by decide) rfl ?_
      refine og_iconst (v := 2) dL_put_23 (by decide) ?_
      exact og_ireturn (ty := .int) rfl dL_put_24 rfl (Nat.le_of_ble_eq_true rfl) (by show 0 + (40 + 16 * g) ≤ 40 + 16 * g; omega) (ob_ql.no hw hI' hA (by decide) (by decide))
  · rintro v w9 ⟨T', V', B', J', rfl, hw, hI', ha⟩
    obtain ⟨hA, rfl⟩ := ha.val
    have ho' : T' out = some (9, 1) := hw.1 _ _ ho
    show ob_G X _ _ _ 7 _ [.int (sp_put me mu S iv).2.1, .int 0, .ref out] _ _ _
    refine og_if_eq (tgt := 14) dL_put_7 (by decide) (fun hc => ?_) (fun hc => ?_)
    · refine og_lconst (v := 0) dL_put_14 (by decide) ?_
      refine og_last dL_put_15 ho' (vp_in_nI (n := 0) (by decide) (by decide)) ?_
      refine og_goto (tgt := 25) dL_put_16 (by decide) ?_
      refine og_iconst (v := 0) dL_put_25 (by decide) ?_
      exact og_ireturn (ty := .int) rfl dL_put_26 rfl (Nat.le_of_ble_eq_true rfl) (by show 0 + (40 + 16 * g) ≤ 40 + 16 * g; omega) (ob_ql.yes hw hI' hA (by unfold ob_ov; rw [if_pos rfl, if_pos hc]))
    · refine og_lconst (v := 1) dL_put_10 (by decide) ?_
      refine og_goto (tgt := 15) dL_put_11 (by decide) ?_
      refine og_last dL_put_15 ho' (vp_in_nI (n := 0) (by decide) (by decide)) ?_
      refine og_goto (tgt := 25) dL_put_16 (by decide) ?_
      refine og_iconst (v := 0) dL_put_25 (by decide) ?_
      exact og_ireturn (ty := .int) rfl dL_put_26 rfl (Nat.le_of_ble_eq_true rfl) (by show 0 + (40 + 16 * g) ≤ 40 + 16 * g; omega) (ob_ql.yes hw hI' hA (by unfold ob_ov; rw [if_pos rfl, if_neg hc]))
theorem cl_get (hI : ob_I T V B x me mu cap S) (ho : T out = some (9, 1)) : ob_CW X mL_get 9 3 20 [.ref x, .ref out] (T, V, B, J) (ob_ql T V B x out me mu cap false (sp_get S)) := by
  refine ob_CW_of (by decide) (Nat.le_of_ble_eq_true rfl) (fun E w9 h9 => by obtain ⟨_, _, _, _, _, _, _, h9, _⟩ := h9; cases h9) ?_
  have x1 : T x = some (5, 0) := hI.Tx
  refine og_aload_n dL_get_0 rfl rfl ?_
  refine og_iconst (v := 0) dL_get_1 (by decide) ?_
  refine og_aload_n dL_get_2 rfl rfl ?_
  refine og_callVc (st := [.int 0, .ref out]) dL_get_3 kvL_21 (ct_get hI) rfl x1 rfl rfl ⟨by decide, by decide⟩ (by decide) (by decide) (Nat.le_of_ble_eq_true rfl) ?_ ?_
  · rintro E w9 ⟨T', V', B', J', rfl, hw, hI', ha⟩
    rcases ha.exc with ⟨hA, rfl⟩ | ⟨hA, rfl⟩
    · refine ⟨[], _, _, rfl, (fun z hz => by cases hz), by decide, by decide, klL_13, ki_IA, fun q => ?_⟩
      show ob_G X _ _ _ 11 _ _ _ _ _
      refine og_astore_n dL_get_11 (by decide) rfl ?_
      refine og_iconst (v := 1) dL_get_12 (by decide) ?_
      exact og_ireturn (ty := .int) rfl dL_get_13 rfl (by decide) (by decide) (ob_ql.no hw hI' hA (by decide) (by decide))
    · refine ⟨[_], _, _, rfl, (fun z hz => by rcases List.mem_singleton.mp hz with rfl; exact ⟨by decide, klL_13, Or.inr rfl⟩), by decide, by decide, klL_25, ki_NE, fun q => ?_⟩
      show ob_G X _ _ _ 14 _ _ _ _ _
      refine og_astore_n dL_get_14 (by decide) rfl ?_
      refine og_iconst (v := 2) dL_get_15 (by decide) ?_
      exact og_ireturn (ty := .int) rfl dL_get_16 rfl (by decide) (by decide) (ob_ql.no hw hI' hA (by decide) (by decide))
  · rintro v w9 ⟨T', V', B', J', rfl, hw, hI', ha⟩
    obtain ⟨hA, rfl⟩ := ha.val
    have ho' : T' out = some (9, 1) := hw.1 _ _ ho
    show ob_G X _ _ _ 6 _ [.int (sp_get S).2.1, .int 0, .ref out] _ _ _
    refine og_i2l dL_get_6 rfl ?_
    refine og_last dL_get_7 ho' (vp_in_nI (n := 0) (by decide) (by decide)) ?_
    refine og_goto (tgt := 17) dL_get_8 (by decide) ?_
    refine og_iconst (v := 0) dL_get_17 (by decide) ?_
    exact og_ireturn (ty := .int) rfl dL_get_18 rfl (by decide) (by decide) (ob_ql.yes hw hI' hA rfl)
theorem cl_remove (hI : ob_I T V B x me mu cap S) (ho : T out = some (9, 1)) : ob_CW X mL_remove 9 3 20 [.ref x, .ref out] (T, V, B, J) (ob_ql T V B x out me mu cap true (sp_rem S)) := by
  refine ob_CW_of (by decide) (Nat.le_of_ble_eq_true rfl) (fun E w9 h9 => by obtain ⟨_, _, _, _, _, _, _, h9, _⟩ := h9; cases h9) ?_
  have x1 : T x = some (5, 0) := hI.Tx
  refine og_aload_n dL_remove_0 rfl rfl ?_
  refine og_iconst (v := 0) dL_remove_1 (by decide) ?_
  refine og_aload_n dL_remove_2 rfl rfl ?_
  refine og_callVc (st := [.int 0, .ref out]) dL_remove_3 kvL_27 (ct_remove hI) rfl x1 rfl rfl ⟨by decide, by decide⟩ (by decide) (by decide) (Nat.le_of_ble_eq_true rfl) ?_ ?_
  · rintro E w9 ⟨T', V', B', J', rfl, hw, hI', ha⟩
    rcases ha.exc with ⟨hA, rfl⟩ | ⟨hA, rfl⟩
    · refine ⟨[], _, _, rfl, (fun z hz => by cases hz), by decide, by decide, klL_13, ki_IA, fun q => ?_⟩
      show ob_G X _ _ _ 18 _ _ _ _ _
      refine og_astore_n dL_remove_18 (by decide) rfl ?_
      refine og_iconst (v := 1) dL_remove_19 (by decide) ?_
      exact og_ireturn (ty := .int) rfl dL_remove_20 rfl (by decide) (by decide) (ob_ql.no hw hI' hA (by decide) (by decide))
    · have := sp_rem1 (S := S)
      omega
  · rintro v w9 ⟨T', V', B', J', rfl, hw, hI', ha⟩
    obtain ⟨hA, rfl⟩ := ha.val
    have ho' : T' out = some (9, 1) := hw.1 _ _ ho
    show ob_G X _ _ _ 6 _ [.int (sp_rem S).2.1, .int 0, .ref out] _ _ _
    refine og_if_eq (tgt := 13) dL_remove_6 (by decide) (fun hc => ?_) (fun hc => ?_)
    · refine og_lconst (v := 0) dL_remove_13 (by decide) ?_
      refine og_last dL_remove_14 ho' (vp_in_nI (n := 0) (by decide) (by decide)) ?_
      refine og_goto (tgt := 21) dL_remove_15 (by decide) ?_
      refine og_iconst (v := 0) dL_remove_21 (by decide) ?_
      exact og_ireturn (ty := .int) rfl dL_remove_22 rfl (by decide) (by decide) (ob_ql.yes hw hI' hA (by unfold ob_ov; rw [if_pos rfl, if_pos hc]))
    · refine og_lconst (v := 1) dL_remove_9 (by decide) ?_
      refine og_goto (tgt := 14) dL_remove_10 (by decide) ?_
      refine og_last dL_remove_14 ho' (vp_in_nI (n := 0) (by decide) (by decide)) ?_
      refine og_goto (tgt := 21) dL_remove_15 (by decide) ?_
      refine og_iconst (v := 0) dL_remove_21 (by decide) ?_
      exact og_ireturn (ty := .int) rfl dL_remove_22 rfl (by decide) (by decide) (ob_ql.yes hw hI' hA (by unfold ob_ov; rw [if_pos rfl, if_neg hc]))
theorem cl_seek {iv : Int32} (hI : ob_I T V B x me mu cap S) (ho : T out = some (9, 1)) : ob_CW X mL_seek 9 3 20 [.ref x, .int iv, .ref out] (T, V, B, J) (ob_ql T V B x out me mu cap false (sp_seek S iv)) := by
  refine ob_CW_of (by decide) (Nat.le_of_ble_eq_true rfl) (fun E w9 h9 => by obtain ⟨_, _, _, _, _, _, _, h9, _⟩ := h9; cases h9) ?_
  have x1 : T x = some (5, 0) := hI.Tx
  refine og_aload_n dL_seek_0 rfl rfl ?_
  refine og_iconst (v := 0) dL_seek_1 (by decide) ?_
  refine og_aload_n dL_seek_2 rfl rfl ?_
  refine og_iload_n dL_seek_3 rfl ?_
  refine og_callVc (st := [.int 0, .ref out]) dL_seek_4 kvL_31 (ct_seek hI) rfl x1 rfl rfl ⟨by decide, by decide⟩ (by decide) (by decide) (Nat.le_of_ble_eq_true rfl) ?_ ?_
  · rintro E w9 ⟨T', V', B', J', rfl, hw, hI', ha⟩
    rcases ha.exc with ⟨hA, rfl⟩ | ⟨hA, rfl⟩
    · refine ⟨[], _, _, rfl, (fun z hz => by cases hz), by decide, by decide, klL_13, ki_IA, fun q => ?_⟩
      show ob_G X _ _ _ 12 _ _ _ _ _
      refine og_astore_n dL_seek_12 (by decide) rfl ?_
      refine og_iconst (v := 1) dL_seek_13 (by decide) ?_
      exact og_ireturn (ty := .int) rfl dL_seek_14 rfl (by decide) (by decide) (ob_ql.no hw hI' hA (by decide) (by decide))
    · refine ⟨[_], _, _, rfl, (fun z hz => by rcases List.mem_singleton.mp hz with rfl; exact ⟨by decide, klL_13, Or.inr rfl⟩), by decide, by decide, klL_25, ki_NE, fun q => ?_⟩
      show ob_G X _ _ _ 15 _ _ _ _ _
      refine og_astore_n dL_seek_15 (by decide) rfl ?_
      refine og_iconst (v := 2) dL_seek_16 (by decide) ?_
      exact og_ireturn (ty := .int) rfl dL_seek_17 rfl (by decide) (by decide) (ob_ql.no hw hI' hA (by decide) (by decide))
  · rintro v w9 ⟨T', V', B', J', rfl, hw, hI', ha⟩
    obtain ⟨hA, rfl⟩ := ha.val
    have ho' : T' out = some (9, 1) := hw.1 _ _ ho
    show ob_G X _ _ _ 7 _ [.int (sp_seek S iv).2.1, .int 0, .ref out] _ _ _
    refine og_i2l dL_seek_7 rfl ?_
    refine og_last dL_seek_8 ho' (vp_in_nI (n := 0) (by decide) (by decide)) ?_
    refine og_goto (tgt := 18) dL_seek_9 (by decide) ?_
    refine og_iconst (v := 0) dL_seek_18 (by decide) ?_
    exact og_ireturn (ty := .int) rfl dL_seek_19 rfl (by decide) (by decide) (ob_ql.yes hw hI' hA rfl)
theorem cl_at {iv : Int32} (hI : ob_I T V B x me mu cap S) (ho : T out = some (9, 1)) : ob_CW X mL_at 9 3 20 [.ref x, .int iv, .ref out] (T, V, B, J) (ob_ql T V B x out me mu cap false (sp_at S iv)) := by
  refine ob_CW_of (by decide) (Nat.le_of_ble_eq_true rfl) (fun E w9 h9 => by obtain ⟨_, _, _, _, _, _, _, h9, _⟩ := h9; cases h9) ?_
  have x1 : T x = some (5, 0) := hI.Tx
  refine og_aload_n dL_at_0 rfl rfl ?_
  refine og_iconst (v := 0) dL_at_1 (by decide) ?_
  refine og_aload_n dL_at_2 rfl rfl ?_
  refine og_iload_n dL_at_3 rfl ?_
  refine og_callVc (st := [.int 0, .ref out]) dL_at_4 kvL_35 (ct_at hI) rfl x1 rfl rfl ⟨by decide, by decide⟩ (by decide) (by decide) (Nat.le_of_ble_eq_true rfl) ?_ ?_
  · rintro E w9 ⟨T', V', B', J', rfl, hw, hI', ha⟩
    rcases ha.exc with ⟨hA, rfl⟩ | ⟨hA, rfl⟩
    · refine ⟨[], _, _, rfl, (fun z hz => by cases hz), by decide, by decide, klL_38, ki_IO, fun q => ?_⟩
      show ob_G X _ _ _ 12 _ _ _ _ _
      refine og_astore_n dL_at_12 (by decide) rfl ?_
      refine og_iconst (v := 1) dL_at_13 (by decide) ?_
      exact og_ireturn (ty := .int) rfl dL_at_14 rfl (by decide) (by decide) (ob_ql.no hw hI' hA (by decide) (by decide))
    · have := sp_at1 (S := S) (i := iv)
      omega
  · rintro v w9 ⟨T', V', B', J', rfl, hw, hI', ha⟩
    obtain ⟨hA, rfl⟩ := ha.val
    have ho' : T' out = some (9, 1) := hw.1 _ _ ho
    show ob_G X _ _ _ 7 _ [.int (sp_at S iv).2.1, .int 0, .ref out] _ _ _
    refine og_i2l dL_at_7 rfl ?_
    refine og_last dL_at_8 ho' (vp_in_nI (n := 0) (by decide) (by decide)) ?_
    refine og_goto (tgt := 15) dL_at_9 (by decide) ?_
    refine og_iconst (v := 0) dL_at_15 (by decide) ?_
    exact og_ireturn (ty := .int) rfl dL_at_16 rfl (by decide) (by decide) (ob_ql.yes hw hI' hA rfl)
theorem cl_step {iv : Bool} (hI : ob_I T V B x me mu cap S) (ho : T out = some (9, 1)) : ob_CW X mL_step 9 3 20 [.ref x, ob_cv iv, .ref out] (T, V, B, J) (ob_ql T V B x out me mu cap true (sp_step S iv)) := by
  refine ob_CW_of (by decide) (Nat.le_of_ble_eq_true rfl) (fun E w9 h9 => by obtain ⟨_, _, _, _, _, _, _, h9, _⟩ := h9; cases h9) ?_
  have x1 : T x = some (5, 0) := hI.Tx
  refine og_aload_n dL_step_0 rfl rfl ?_
  refine og_iconst (v := 0) dL_step_1 (by decide) ?_
  refine og_aload_n dL_step_2 rfl rfl ?_
  refine og_iload_n dL_step_3 rfl ?_
  refine og_callVc (st := [.int 0, .ref out]) dL_step_4 kvL_40 (ct_step hI) rfl x1 rfl rfl ⟨by decide, by decide⟩ (by decide) (by decide) (Nat.le_of_ble_eq_true rfl) ?_ ?_
  · rintro E w9 ⟨T', V', B', J', rfl, hw, hI', ha⟩
    rcases ha.exc with ⟨hA, rfl⟩ | ⟨hA, rfl⟩
    · refine ⟨[], _, _, rfl, (fun z hz => by cases hz), by decide, by decide, klL_15, ki_IS, fun q => ?_⟩
      show ob_G X _ _ _ 19 _ _ _ _ _
      refine og_astore_n dL_step_19 (by decide) rfl ?_
      refine og_iconst (v := 1) dL_step_20 (by decide) ?_
      exact og_ireturn (ty := .int) rfl dL_step_21 rfl (by decide) (by decide) (ob_ql.no hw hI' hA (by decide) (by decide))
    · have := sp_step1 (S := S) (i := iv)
      omega
  · rintro v w9 ⟨T', V', B', J', rfl, hw, hI', ha⟩
    obtain ⟨hA, rfl⟩ := ha.val
    have ho' : T' out = some (9, 1) := hw.1 _ _ ho
    show ob_G X _ _ _ 7 _ [.int (sp_step S iv).2.1, .int 0, .ref out] _ _ _
    refine og_if_eq (tgt := 14) dL_step_7 (by decide) (fun hc => ?_) (fun hc => ?_)
    · refine og_lconst (v := 0) dL_step_14 (by decide) ?_
      refine og_last dL_step_15 ho' (vp_in_nI (n := 0) (by decide) (by decide)) ?_
      refine og_goto (tgt := 22) dL_step_16 (by decide) ?_
      refine og_iconst (v := 0) dL_step_22 (by decide) ?_
      exact og_ireturn (ty := .int) rfl dL_step_23 rfl (by decide) (by decide) (ob_ql.yes hw hI' hA (by unfold ob_ov; rw [if_pos rfl, if_pos hc]))
    · refine og_lconst (v := 1) dL_step_10 (by decide) ?_
      refine og_goto (tgt := 15) dL_step_11 (by decide) ?_
      refine og_last dL_step_15 ho' (vp_in_nI (n := 0) (by decide) (by decide)) ?_
      refine og_goto (tgt := 22) dL_step_16 (by decide) ?_
      refine og_iconst (v := 0) dL_step_22 (by decide) ?_
      exact og_ireturn (ty := .int) rfl dL_step_23 rfl (by decide) (by decide) (ob_ql.yes hw hI' hA (by unfold ob_ov; rw [if_pos rfl, if_neg hc]))
theorem cl_value (hI : ob_I T V B x me mu cap S) (ho : T out = some (9, 1)) : ob_CW X mL_value 9 3 20 [.ref x, .ref out] (T, V, B, J) (ob_ql T V B x out me mu cap false (sp_val S)) := by
  refine ob_CW_of (by decide) (Nat.le_of_ble_eq_true rfl) (fun E w9 h9 => by obtain ⟨_, _, _, _, _, _, _, h9, _⟩ := h9; cases h9) ?_
  have x1 : T x = some (5, 0) := hI.Tx
  refine og_aload_n dL_value_0 rfl rfl ?_
  refine og_iconst (v := 0) dL_value_1 (by decide) ?_
  refine og_aload_n dL_value_2 rfl rfl ?_
  refine og_callVc (st := [.int 0, .ref out]) dL_value_3 kvL_44 (ct_value hI) rfl x1 rfl rfl ⟨by decide, by decide⟩ (by decide) (by decide) (Nat.le_of_ble_eq_true rfl) ?_ ?_
  · rintro E w9 ⟨T', V', B', J', rfl, hw, hI', ha⟩
    rcases ha.exc with ⟨hA, rfl⟩ | ⟨hA, rfl⟩
    · refine ⟨[], _, _, rfl, (fun z hz => by cases hz), by decide, by decide, klL_15, ki_IS, fun q => ?_⟩
      show ob_G X _ _ _ 11 _ _ _ _ _
      refine og_astore_n dL_value_11 (by decide) rfl ?_
      refine og_iconst (v := 1) dL_value_12 (by decide) ?_
      exact og_ireturn (ty := .int) rfl dL_value_13 rfl (by decide) (by decide) (ob_ql.no hw hI' hA (by decide) (by decide))
    · have := sp_val1 (S := S)
      omega
  · rintro v w9 ⟨T', V', B', J', rfl, hw, hI', ha⟩
    obtain ⟨hA, rfl⟩ := ha.val
    have ho' : T' out = some (9, 1) := hw.1 _ _ ho
    show ob_G X _ _ _ 6 _ [.int (sp_val S).2.1, .int 0, .ref out] _ _ _
    refine og_i2l dL_value_6 rfl ?_
    refine og_last dL_value_7 ho' (vp_in_nI (n := 0) (by decide) (by decide)) ?_
    refine og_goto (tgt := 14) dL_value_8 (by decide) ?_
    refine og_iconst (v := 0) dL_value_14 (by decide) ?_
    exact og_ireturn (ty := .int) rfl dL_value_15 rfl (by decide) (by decide) (ob_ql.yes hw hI' hA rfl)
theorem cl_place (hI : ob_I T V B x me mu cap S) (ho : T out = some (9, 1)) : ob_CW X mL_place 9 3 20 [.ref x, .ref out] (T, V, B, J) (ob_ql T V B x out me mu cap false (sp_plc S)) := by
  refine ob_CW_of (by decide) (Nat.le_of_ble_eq_true rfl) (fun E w9 h9 => by obtain ⟨_, _, _, _, _, _, _, h9, _⟩ := h9; cases h9) ?_
  have x1 : T x = some (5, 0) := hI.Tx
  refine og_aload_n dL_place_0 rfl rfl ?_
  refine og_iconst (v := 0) dL_place_1 (by decide) ?_
  refine og_aload_n dL_place_2 rfl rfl ?_
  refine og_callVc (st := [.int 0, .ref out]) dL_place_3 kvL_47 (ct_place hI) rfl x1 rfl rfl ⟨by decide, by decide⟩ (by decide) (by decide) (Nat.le_of_ble_eq_true rfl) ?_ ?_
  · rintro E w9 ⟨T', V', B', J', rfl, hw, hI', ha⟩
    rcases ha.exc with ⟨hA, rfl⟩ | ⟨hA, rfl⟩
    · refine ⟨[], _, _, rfl, (fun z hz => by cases hz), by decide, by decide, klL_15, ki_IS, fun q => ?_⟩
      show ob_G X _ _ _ 11 _ _ _ _ _
      refine og_astore_n dL_place_11 (by decide) rfl ?_
      refine og_iconst (v := 1) dL_place_12 (by decide) ?_
      exact og_ireturn (ty := .int) rfl dL_place_13 rfl (by decide) (by decide) (ob_ql.no hw hI' hA (by decide) (by decide))
    · have := sp_plc1 (S := S)
      omega
  · rintro v w9 ⟨T', V', B', J', rfl, hw, hI', ha⟩
    obtain ⟨hA, rfl⟩ := ha.val
    have ho' : T' out = some (9, 1) := hw.1 _ _ ho
    show ob_G X _ _ _ 6 _ [.int (sp_plc S).2.1, .int 0, .ref out] _ _ _
    refine og_i2l dL_place_6 rfl ?_
    refine og_last dL_place_7 ho' (vp_in_nI (n := 0) (by decide) (by decide)) ?_
    refine og_goto (tgt := 14) dL_place_8 (by decide) ?_
    refine og_iconst (v := 0) dL_place_14 (by decide) ?_
    exact og_ireturn (ty := .int) rfl dL_place_15 rfl (by decide) (by decide) (ob_ql.yes hw hI' hA rfl)
theorem cl_range (hI : ob_I T V B x me mu cap S) (ho : T out = some (9, 1)) : ob_CW X mL_range 9 3 20 [.ref x, .ref out] (T, V, B, J) (ob_ql T V B x out me mu cap false (sp_rng S)) := by
  refine ob_CW_of (by decide) (Nat.le_of_ble_eq_true rfl) (fun E w9 h9 => by obtain ⟨_, _, _, _, _, _, _, h9, _⟩ := h9; cases h9) ?_
  have x1 : T x = some (5, 0) := hI.Tx
  refine og_aload_n dL_range_0 rfl rfl ?_
  refine og_iconst (v := 0) dL_range_1 (by decide) ?_
  refine og_aload_n dL_range_2 rfl rfl ?_
  refine og_callVc (st := [.int 0, .ref out]) dL_range_3 kvL_50 (ct_range hI) rfl x1 rfl rfl ⟨by decide, by decide⟩ (by decide) (by decide) (Nat.le_of_ble_eq_true rfl) ?_ ?_
  · rintro E w9 ⟨T', V', B', J', rfl, hw, hI', ha⟩
    rcases ha.exc with ⟨hA, rfl⟩ | ⟨hA, rfl⟩
    · refine ⟨[], _, _, rfl, (fun z hz => by cases hz), by decide, by decide, klL_13, ki_IA, fun q => ?_⟩
      show ob_G X _ _ _ 11 _ _ _ _ _
      refine og_astore_n dL_range_11 (by decide) rfl ?_
      refine og_iconst (v := 1) dL_range_12 (by decide) ?_
      exact og_ireturn (ty := .int) rfl dL_range_13 rfl (by decide) (by decide) (ob_ql.no hw hI' hA (by decide) (by decide))
    · refine ⟨[_], _, _, rfl, (fun z hz => by rcases List.mem_singleton.mp hz with rfl; exact ⟨by decide, klL_13, Or.inl rfl⟩), by decide, by decide, klL_15, ki_IS, fun q => ?_⟩
      show ob_G X _ _ _ 14 _ _ _ _ _
      refine og_astore_n dL_range_14 (by decide) rfl ?_
      refine og_iconst (v := 2) dL_range_15 (by decide) ?_
      exact og_ireturn (ty := .int) rfl dL_range_16 rfl (by decide) (by decide) (ob_ql.no hw hI' hA (by decide) (by decide))
  · rintro v w9 ⟨T', V', B', J', rfl, hw, hI', ha⟩
    obtain ⟨hA, rfl⟩ := ha.val
    have ho' : T' out = some (9, 1) := hw.1 _ _ ho
    show ob_G X _ _ _ 6 _ [.int (sp_rng S).2.1, .int 0, .ref out] _ _ _
    refine og_i2l dL_range_6 rfl ?_
    refine og_last dL_range_7 ho' (vp_in_nI (n := 0) (by decide) (by decide)) ?_
    refine og_goto (tgt := 17) dL_range_8 (by decide) ?_
    refine og_iconst (v := 0) dL_range_17 (by decide) ?_
    exact og_ireturn (ty := .int) rfl dL_range_18 rfl (by decide) (by decide) (ob_ql.yes hw hI' hA rfl)
theorem cl_removeFrom {iv : Int32} (hI : ob_I T V B x me mu cap S) (ho : T out = some (9, 1)) : ob_CW X mL_removeFrom 9 3 20 [.ref x, .int iv, .ref out] (T, V, B, J) (ob_ql T V B x out me mu cap false (sp_rmf S iv)) := by
  refine ob_CW_of (by decide) (Nat.le_of_ble_eq_true rfl) (fun E w9 h9 => by obtain ⟨_, _, _, _, _, _, _, h9, _⟩ := h9; cases h9) ?_
  have x1 : T x = some (5, 0) := hI.Tx
  refine og_aload_n dL_removeFrom_0 rfl rfl ?_
  refine og_iconst (v := 0) dL_removeFrom_1 (by decide) ?_
  refine og_aload_n dL_removeFrom_2 rfl rfl ?_
  refine og_iload_n dL_removeFrom_3 rfl ?_
  refine og_callVc (st := [.int 0, .ref out]) dL_removeFrom_4 kvL_53 (ct_removeFrom hI) rfl x1 rfl rfl ⟨by decide, by decide⟩ (by decide) (by decide) (Nat.le_of_ble_eq_true rfl) ?_ ?_
  · rintro E w9 ⟨T', V', B', J', rfl, hw, hI', ha⟩
    rcases ha.exc with ⟨hA, rfl⟩ | ⟨hA, rfl⟩
    · refine ⟨[], _, _, rfl, (fun z hz => by cases hz), by decide, by decide, klL_13, ki_IA, fun q => ?_⟩
      show ob_G X _ _ _ 12 _ _ _ _ _
      refine og_astore_n dL_removeFrom_12 (by decide) rfl ?_
      refine og_iconst (v := 1) dL_removeFrom_13 (by decide) ?_
      exact og_ireturn (ty := .int) rfl dL_removeFrom_14 rfl (by decide) (by decide) (ob_ql.no hw hI' hA (by decide) (by decide))
    · refine ⟨[_], _, _, rfl, (fun z hz => by rcases List.mem_singleton.mp hz with rfl; exact ⟨by decide, klL_13, Or.inl rfl⟩), by decide, by decide, klL_15, ki_IS, fun q => ?_⟩
      show ob_G X _ _ _ 15 _ _ _ _ _
      refine og_astore_n dL_removeFrom_15 (by decide) rfl ?_
      refine og_iconst (v := 2) dL_removeFrom_16 (by decide) ?_
      exact og_ireturn (ty := .int) rfl dL_removeFrom_17 rfl (by decide) (by decide) (ob_ql.no hw hI' hA (by decide) (by decide))
  · rintro v w9 ⟨T', V', B', J', rfl, hw, hI', ha⟩
    obtain ⟨hA, rfl⟩ := ha.val
    have ho' : T' out = some (9, 1) := hw.1 _ _ ho
    show ob_G X _ _ _ 7 _ [.int (sp_rmf S iv).2.1, .int 0, .ref out] _ _ _
    refine og_i2l dL_removeFrom_7 rfl ?_
    refine og_last dL_removeFrom_8 ho' (vp_in_nI (n := 0) (by decide) (by decide)) ?_
    refine og_goto (tgt := 18) dL_removeFrom_9 (by decide) ?_
    refine og_iconst (v := 0) dL_removeFrom_18 (by decide) ?_
    exact og_ireturn (ty := .int) rfl dL_removeFrom_19 rfl (by decide) (by decide) (ob_ql.yes hw hI' hA rfl)
theorem cl_byteAt {iv : Int32} (hI : ob_I T V B x me mu cap S) (ho : T out = some (9, 1)) : ob_CW X mL_byteAt 9 3 20 [.ref x, .int iv, .ref out] (T, V, B, J) (ob_ql T V B x out me mu cap false (sp_byt S iv)) := by
  refine ob_CW_of (by decide) (Nat.le_of_ble_eq_true rfl) (fun E w9 h9 => by obtain ⟨_, _, _, _, _, _, _, h9, _⟩ := h9; cases h9) ?_
  have x1 : T x = some (5, 0) := hI.Tx
  refine og_aload_n dL_byteAt_0 rfl rfl ?_
  refine og_iconst (v := 0) dL_byteAt_1 (by decide) ?_
  refine og_aload_n dL_byteAt_2 rfl rfl ?_
  refine og_iload_n dL_byteAt_3 rfl ?_
  refine og_callVc (st := [.int 0, .ref out]) dL_byteAt_4 kvL_56 (ct_byteAt hI) rfl x1 rfl rfl ⟨by decide, by decide⟩ (by decide) (by decide) (Nat.le_of_ble_eq_true rfl) ?_ ?_
  · rintro E w9 ⟨T', V', B', J', rfl, hw, hI', ha⟩
    rcases ha.exc with ⟨hA, rfl⟩ | ⟨hA, rfl⟩
    · refine ⟨[], _, _, rfl, (fun z hz => by cases hz), by decide, by decide, klL_38, ki_IO, fun q => ?_⟩
      show ob_G X _ _ _ 12 _ _ _ _ _
      refine og_astore_n dL_byteAt_12 (by decide) rfl ?_
      refine og_iconst (v := 1) dL_byteAt_13 (by decide) ?_
      exact og_ireturn (ty := .int) rfl dL_byteAt_14 rfl (by decide) (by decide) (ob_ql.no hw hI' hA (by decide) (by decide))
    · have := sp_byt1 (S := S) (i := iv)
      omega
  · rintro v w9 ⟨T', V', B', J', rfl, hw, hI', ha⟩
    obtain ⟨hA, rfl⟩ := ha.val
    have ho' : T' out = some (9, 1) := hw.1 _ _ ho
    show ob_G X _ _ _ 7 _ [.int (sp_byt S iv).2.1, .int 0, .ref out] _ _ _
    refine og_i2l dL_byteAt_7 rfl ?_
    refine og_last dL_byteAt_8 ho' (vp_in_nI (n := 0) (by decide) (by decide)) ?_
    refine og_goto (tgt := 15) dL_byteAt_9 (by decide) ?_
    refine og_iconst (v := 0) dL_byteAt_15 (by decide) ?_
    exact og_ireturn (ty := .int) rfl dL_byteAt_16 rfl (by decide) (by decide) (ob_ql.yes hw hI' hA rfl)
end LWH
