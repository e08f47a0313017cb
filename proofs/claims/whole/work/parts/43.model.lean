/-! THE REFERENCE: its state, small methods -/
section OMA
variable {X : ob_X} {y : ob_y} {R : Room} {Q : ob_r → ob_w → Prop} {pc : Nat} {lv : List (Nat × Value)} {st : List Value} {w : ob_w} {k n : Nat}
theorem og_ialv {a m0 j : Nat} {v : Int32} (hdg : decode y.2.1 pc = .ok (.iaload, 1)) (ha : w.1 a = some (8, m0)) (hj : j < m0) (hm : m0 < 2 ^ 31) (hv : w.2.2.1 a j = v) (kk : ob_G X y R Q (pc + 1) lv (.int v :: st) w k n) : ob_G X y R Q pc lv (.int (nI j) :: .ref a :: st) w k n := by
  refine og_iald hdg ha (vp_in_nI hj hm) ?_
  rw [nI_clamp (by omega), hv]
  exact kk
theorem og_iasv {a m0 j : Nat} {x : Int32} (hdg : decode y.2.1 pc = .ok (.iastore, 1)) (ha : w.1 a = some (8, m0)) (hj : j < m0) (hm : m0 < 2 ^ 31) (kk : ob_G X y R Q (pc + 1) lv st (w.1, w.2.1, ob_set w.2.2.1 a j x, w.2.2.2) k n) : ob_G X y R Q pc lv (.int x :: .int (nI j) :: .ref a :: st) w k n := by
  refine og_iast hdg ha (vp_in_nI hj hm) ?_
  rw [nI_clamp (by omega)]
  exact kk
end OMA
/-- ints of an array from i on -/
def ob_is (B : ob_B) (a i : Nat) (l : List Nat) : Prop := ∀ j, (h : j < l.length) → B a (i + j) = nI l[j]
theorem ob_is.at {B : ob_B} {a j : Nat} {l : List Nat} (h : ob_is B a 0 l) (hj : j < l.length) : B a j = nI l[j] := by have := h j hj; rwa [Nat.zero_add] at this
theorem ob_is_app {B : ob_B} {a i : Nat} {l m : List Nat} : ob_is B a i (l ++ m) ↔ ob_is B a i l ∧ ob_is B a (i + l.length) m := by
  constructor
  · intro h
    refine ⟨fun j hj => ?_, fun j hj => ?_⟩
    · rw [h j (by rw [List.length_append]; omega), List.getElem_append_left hj]
    · rw [Nat.add_assoc, h (l.length + j) (by rw [List.length_append]; omega), List.getElem_append_right (by omega)]
      simp
  · rintro ⟨h1, h2⟩ j hj
    rw [List.length_append] at hj
    by_cases hl : j < l.length
    · rw [h1 j hl, List.getElem_append_left hl]
    · have := h2 (j - l.length) (by omega)
      rw [Nat.add_assoc, show l.length + (j - l.length) = j by omega] at this
      rw [this, List.getElem_append_right (by omega)]
theorem ob_is.same {B B' : ob_B} {a a' i i' : Nat} {l : List Nat} (h : ob_is B a i l) (g : ∀ j, j < l.length → B' a' (i' + j) = B a (i + j)) : ob_is B' a' i' l := fun j hj => by rw [g j hj]; exact h j hj
def sp_fl (E : ob_E) : List Nat := (E.map (fun e => e.1 ++ e.2)).flatten
theorem sp_fl_app (A C : ob_E) : sp_fl (A ++ C) = sp_fl A ++ sp_fl C := by simp [sp_fl]
theorem sp_fl_cons (e : List Nat × List Nat) (C : ob_E) : sp_fl (e :: C) = e.1 ++ e.2 ++ sp_fl C := by simp [sp_fl]
theorem sp_fl_len : ∀ (E : ob_E), (sp_fl E).length ≤ 16 * sp_us E
  | [] => by simp [sp_fl, sp_us]
  | e :: E => by
    have := sp_fl_len E
    have h := ob_un_le (e.1.length + e.2.length)
    rw [sp_fl_cons]
    simp only [List.length_append, sp_us, List.map_cons, List.sum_cons] at this ⊢
    omega
theorem sp_fl_kv (E : ob_E) : (sp_fl E).length = sp_kb E + sp_vb E := by
  induction E with
  | nil => simp [sp_fl, sp_kb, sp_vb]
  | cons e E ih =>
    rw [sp_fl_cons]
    simp only [List.length_append, sp_kb, sp_vb, List.map_cons, List.sum_cons] at ih ⊢
    omega
/-- what the calls keep of a state -/
def sp_ok (me mu : Nat) (S : sp_S) : Prop := (S.1.length ≤ me ∧ me ≤ 1024) ∧ (sp_us S.1 ≤ mu ∧ mu ≤ 4096) ∧ (∀ e ∈ S.1, (1 ≤ e.1.length ∧ e.1.length ≤ 64 ∧ e.2.length ≤ 512) ∧ (∀ z ∈ e.1, z < 256)) ∧ sp_so S.1 ∧ (∀ i, S.2.1 = some i → i < S.1.length) ∧ (S.2.2.1.length ≤ 600 ∧ ∀ z ∈ S.2.2.1, z < 256) ∧ S.2.2.2.length ≤ 512
theorem ob_I.ok {T : ob_T} {V : ob_V} {B : ob_B} {x me mu cap : Nat} {S : sp_S} (h : ob_I T V B x me mu cap S) : sp_ok me mu S := by
  obtain ⟨hp, edge, hb, t, nl, tp, tb, rs, rr, N, l, tt, K, h, hy⟩ := h
  obtain ⟨⟨x1, x2, x3, x4, x5, x6, x7, x8⟩, hs, ⟨t1, t2, t3, t4, t5⟩, ⟨en, eo⟩, ⟨r1, r2, r3, r4, r5, r6, r7, r8, r9, r10, r11⟩, n1, n2, n3⟩ := h
  obtain ⟨y1, y2, y3, ⟨y4, y5, y6⟩, y7, y8, y9⟩ := hy
  have hu := ob_us_le hs.2.2.2.2.2.2.2.2.1.2.2.2
  have e1 := hs.2.2.2.2.2.2.2.2.2.1
  have e2 := hs.2.2.2.2.2.2.2.2.2.2.1
  have e3 := hs.2.2.2.2.2.2.2.2.2.2.2
  refine ⟨⟨by rw [y1, List.length_map]; exact n1, n2⟩, ⟨by rw [y1]; omega, e3⟩, fun e he => ?_, by rw [y1]; exact sp_so_of.mpr t5, y3, ⟨y5, y6.lt⟩, y8⟩
  rw [y1] at he
  obtain ⟨a, ha, rfl⟩ := List.mem_map.mp he
  obtain ⟨q1, q2, q3, q4, q5, b, s, q6, q7, q8⟩ := en a ha
  exact ⟨⟨q1, q2, q3⟩, q8.app.1.lt⟩
def sp_cI (o : Option Nat) : Int32 := match o with
  | none => -1
  | some c => nI c
/-- the reference's arrays and limits -/
def ob_Ma (T : ob_T) (V : ob_V) (m mt mr mb mk mv me mu : Nat) : Prop := (T m = some (6, 0) ∧ V m 1 = .int (nI me) ∧ V m 2 = .int (nI mu) ∧ V m 4 = .ref mt ∧ V m 6 = .ref mr ∧ V m 9 = .ref mb ∧ V m 10 = .ref mk ∧ V m 11 = .ref mv) ∧ (T mt = some (8, 600) ∧ T mr = some (8, 512) ∧ T mb = some (8, 66048) ∧ T mk = some (8, 1025) ∧ T mv = some (8, 1025)) ∧ (mt ≠ mr ∧ mt ≠ mb ∧ mt ≠ mk ∧ mt ≠ mv ∧ mr ≠ mb ∧ mr ≠ mk ∧ mr ≠ mv ∧ mb ≠ mk ∧ mb ≠ mv ∧ mk ≠ mv)
/-- the entries -/
def ob_Me (V : ob_V) (B : ob_B) (m mb mk mv : Nat) (E : ob_E) : Prop := V m 7 = .int (nI E.length) ∧ V m 8 = .int (nI (sp_fl E).length) ∧ ob_is B mb 0 (sp_fl E) ∧ ob_is B mk 0 (E.map (fun e => e.1.length)) ∧ ob_is B mv 0 (E.map (fun e => e.2.length))
def ob_M (T : ob_T) (V : ob_V) (B : ob_B) (m mt mr mb mk mv me mu thr : Nat) (S : sp_S) : Prop := ob_Ma T V m mt mr mb mk mv me mu ∧ ob_Me V B m mb mk mv S.1 ∧ V m 0 = .int (nI thr) ∧ (V m 3 = .int (nI S.2.2.1.length) ∧ ob_is B mt 0 S.2.2.1) ∧ (V m 5 = .int (nI S.2.2.2.length) ∧ ob_is B mr 0 S.2.2.2) ∧ V m 12 = .int (sp_cI S.2.1)
theorem ob_Ma.keep {T : ob_T} {V V' : ob_V} {m mt mr mb mk mv me mu : Nat} (h : ob_Ma T V m mt mr mb mk mv me mu) (hV : ∀ j, (j = 1 ∨ j = 2 ∨ j = 4 ∨ j = 6 ∨ j = 9 ∨ j = 10 ∨ j = 11) → V' m j = V m j) : ob_Ma T V' m mt mr mb mk mv me mu := by
  obtain ⟨⟨h1, h2, h3, h4, h5, h6, h7, h8⟩, h9, h10⟩ := h
  exact ⟨⟨h1, by rw [hV _ (by simp)]; exact h2, by rw [hV _ (by simp)]; exact h3, by rw [hV _ (by simp)]; exact h4, by rw [hV _ (by simp)]; exact h5, by rw [hV _ (by simp)]; exact h6, by rw [hV _ (by simp)]; exact h7, by rw [hV _ (by simp)]; exact h8⟩, h9, h10⟩
section OMB
variable {X : ob_X} {T : ob_T} {V : ob_V} {B : ob_B} {J : ob_J} {R : Room} {Q : ob_r → ob_w → Prop} {k n : Nat} {m mt mr mb mk mv me mu : Nat} {E : ob_E}
theorem cm_thrown {i : Int32} (h : T m = some (6, 0)) (h0 : V m 0 = .int i) : ob_C X mX6_thrown 0 0 0 [.ref m] (T, V, B, J) (ob_e (some (.int i)) (T, V, B, J)) := by
  refine ob_C_of (by decide) rfl (Nat.le_of_ble_eq_true rfl) ?_
  refine og_aload_n dX6_thrown_0 rfl rfl ?_
  refine og_getf dX6_thrown_1 kfX6_36 (by assumption) (by assumption) ?_
  exact og_ireturn (ty := .int) rfl dX6_thrown_4 rfl (by decide) (by decide) ⟨rfl, rfl⟩
theorem cm_fail {c : Int32} (h : T m = some (6, 0)) : ob_C X mX6_fail 0 0 0 [.ref m, .int c] (T, V, B, J) (ob_e (some (.int 0)) (T, ob_set V m 0 (.int c), B, J)) := by
  refine ob_C_of (by decide) rfl (Nat.le_of_ble_eq_true rfl) ?_
  refine og_aload_n dX6_fail_0 rfl rfl ?_
  refine og_iload_n dX6_fail_1 rfl ?_
  refine og_put dX6_fail_2 kfX6_36 (by assumption) rfl rfl ?_
  refine og_iconst (v := 0) dX6_fail_5 (by decide) ?_
  exact og_ireturn (ty := .int) rfl dX6_fail_6 rfl (by decide) (by decide) ⟨rfl, rfl⟩
theorem cm_taken {i : Int32} (h : T m = some (6, 0)) (h3 : V m 3 = .int i) : ob_C X mX6_taken 0 0 0 [.ref m] (T, V, B, J) (ob_e (some (.int i)) (T, ob_set V m 3 (.int 0), B, J)) := by
  refine ob_C_of (by decide) rfl (Nat.le_of_ble_eq_true rfl) ?_
  refine og_aload_n dX6_taken_0 rfl rfl ?_
  refine og_getf dX6_taken_1 kfX6_47 (by assumption) (by assumption) ?_
  refine og_istore_n dX6_taken_4 (by decide) ?_
  refine og_aload_n dX6_taken_5 rfl rfl ?_
  refine og_iconst (v := 0) dX6_taken_6 (by decide) ?_
  refine og_put dX6_taken_7 kfX6_47 (by assumption) rfl rfl ?_
  refine og_iload_n dX6_taken_10 rfl ?_
  exact og_ireturn (ty := .int) rfl dX6_taken_11 rfl (by decide) (by decide) ⟨rfl, rfl⟩
theorem cm_within {w : ob_w} {v lo hi : Int32} : ob_C X mX6_within 0 0 0 [.int v, .int lo, .int hi] w (ob_e (some (ob_cv (decide (lo ≤ v ∧ v ≤ hi)))) w) := by
  refine ob_C_of (by decide) rfl (Nat.le_of_ble_eq_true rfl) ?_
  refine og_lv [(0, .int v), (1, .int lo), (2, .int hi)] rfl ?_
  refine og_iload_n dX6_within_0 rfl ?_
  refine og_iload_n dX6_within_1 rfl ?_
  refine og_icmp_lt (tgt := 14) dX6_within_2 (by decide) (fun h1 => ?_) (fun h1 => ?_)
  · rw [decide_eq_false (fun h => absurd h.1 (Int32.not_le.mpr h1))]
    refine og_iconst (v := 0) dX6_within_14 (by decide) ?_
    exact og_ireturn (ty := .boolean) rfl dX6_within_15 rfl (by decide) (by decide) ⟨rfl, rfl⟩
  · refine og_iload_n dX6_within_5 rfl ?_
    refine og_iload_n dX6_within_6 rfl ?_
    refine og_icmp_gt (tgt := 14) dX6_within_7 (by decide) (fun h2 => ?_) (fun h2 => ?_)
    · rw [decide_eq_false (fun h => absurd h.2 (Int32.not_le.mpr h2))]
      refine og_iconst (v := 0) dX6_within_14 (by decide) ?_
      exact og_ireturn (ty := .boolean) rfl dX6_within_15 rfl (by decide) (by decide) ⟨rfl, rfl⟩
    · rw [decide_eq_true ⟨Int32.not_lt.mp h1, Int32.not_lt.mp h2⟩]
      refine og_iconst (v := 1) dX6_within_10 (by decide) ?_
      refine og_goto (tgt := 15) dX6_within_11 (by decide) ?_
      exact og_ireturn (ty := .boolean) rfl dX6_within_15 rfl (by decide) (by decide) ⟨rfl, rfl⟩
theorem ob_un_M : ∀ n, n < 1200 → (nI n + 15) / 16 = nI (ob_un n) := by decide +kernel
theorem cm_unitsOf {w : ob_w} {i : Nat} (hm : i < 1200) : ob_C X mX6_unitsOf 0 0 0 [.int (nI i)] w (ob_e (some (.int (nI (ob_un i)))) w) := by
  refine ob_C_of (by decide) rfl (Nat.le_of_ble_eq_true rfl) ?_
  refine og_iload_n dX6_unitsOf_0 rfl ?_
  refine og_bipush (v := 15) dX6_unitsOf_1 (by decide) ?_
  refine og_iadd dX6_unitsOf_3 ?_
  refine og_bipush (v := 16) dX6_unitsOf_4 (by decide) ?_
  refine og_idiv dX6_unitsOf_6 (by decide) ?_
  refine og_st [.int (nI (ob_un i))] (by rw [ob_un_M i hm]) ?_
  exact og_ireturn (ty := .int) rfl dX6_unitsOf_7 rfl (by decide) (by decide) ⟨rfl, rfl⟩
theorem ob_Me.ks {e : Nat} (h : ob_Me V B m mb mk mv E) (he : e < E.length) : B mk e = nI E[e].1.length := by
  have := h.2.2.2.1.at (j := e) (by rw [List.length_map]; exact he)
  simpa using this
theorem ob_Me.vs {e : Nat} (h : ob_Me V B m mb mk mv E) (he : e < E.length) : B mv e = nI E[e].2.length := by
  have := h.2.2.2.2.at (j := e) (by rw [List.length_map]; exact he)
  simpa using this
theorem sp_fl_take {e : Nat} (he : e < E.length) : (sp_fl (E.take (e + 1))).length = (sp_fl (E.take e)).length + (E[e].1.length + E[e].2.length) := by
  rw [List.take_succ_eq_append_getElem he, sp_fl_app, sp_fl_cons]
  simp [sp_fl]
theorem start_loop {e : Nat} (ha : ob_Ma T V m mt mr mb mk mv me mu) (h : ob_Me V B m mb mk mv E) (hl : E.length ≤ 1024) (he : e ≤ E.length) (hk : k ≤ R.cells) (hs : n ≤ R.slots) : ∀ (d i : Nat), i + d = e → Q (.inl (some (.int (nI (sp_fl (E.take e)).length)))) (T, V, B, J) → ob_G X mX6_start R Q 4 [(0, .ref m), (1, .int (nI e)), (2, .int (nI (sp_fl (E.take i)).length)), (3, .int (nI i))] [] (T, V, B, J) k n := by
  obtain ⟨⟨h1, h2, h3, h4, h5, h6, h7, h8⟩, ⟨g1, g2, g3, g4, g5⟩, -⟩ := ha
  intro d
  induction d with
  | zero =>
    intro i hid hq
    have e9 : i = e := by omega
    subst e9
    refine og_iload_n dX6_start_4 rfl ?_
    refine og_iload_n dX6_start_5 rfl ?_
    refine og_icmp_ge (tgt := 31) dX6_start_6 (by decide) (fun _ => ?_) (fun z9 => absurd (Int32.le_refl _) z9)
    refine og_iload_n dX6_start_31 rfl ?_
    exact og_ireturn (ty := .int) rfl dX6_start_32 rfl hk hs hq
  | succ d ih =>
    intro i hid hq
    have hi : i < E.length := by omega
    refine og_iload_n dX6_start_4 rfl ?_
    refine og_iload_n dX6_start_5 rfl ?_
    refine og_icmp_ge (tgt := 31) dX6_start_6 (by decide) (fun z9 => absurd z9 (nI_ge (by omega) (by omega))) (fun _ => ?_)
    refine og_iload_n dX6_start_9 rfl ?_
    refine og_aload_n dX6_start_10 rfl rfl ?_
    refine og_getf dX6_start_11 kfX6_20 (by assumption) (by assumption) ?_
    refine og_iload_n dX6_start_14 rfl ?_
    refine og_ialv dX6_start_15 (by assumption) (by omega) (by decide) (h.ks hi) ?_
    refine og_aload_n dX6_start_16 rfl rfl ?_
    refine og_getf dX6_start_17 kfX6_23 (by assumption) (by assumption) ?_
    refine og_iload_n dX6_start_20 rfl ?_
    refine og_ialv dX6_start_21 (by assumption) (by omega) (by decide) (h.vs hi) ?_
    refine og_iadd dX6_start_22 ?_
    refine og_iadd dX6_start_23 ?_
    refine og_st [.int (nI (sp_fl (E.take (i + 1))).length)] (by rw [nI_add, nI_add, sp_fl_take hi]) ?_
    refine og_istore_n dX6_start_24 (by decide) ?_
    refine og_iinc dX6_start_25 rfl (nI_1 i) (by decide) ?_
    refine og_goto (tgt := 4) dX6_start_28 (by decide) ?_
    refine og_lv [(0, .ref m), (1, .int (nI e)), (2, .int (nI (sp_fl (E.take (i + 1))).length)), (3, .int (nI (i + 1)))] rfl ?_
    exact ih (i + 1) (by omega) hq
theorem cm_start {e : Nat} (ha : ob_Ma T V m mt mr mb mk mv me mu) (h : ob_Me V B m mb mk mv E) (hl : E.length ≤ 1024) (he : e ≤ E.length) : ob_C X mX6_start 0 0 0 [.ref m, .int (nI e)] (T, V, B, J) (ob_e (some (.int (nI (sp_fl (E.take e)).length))) (T, V, B, J)) := by
  refine ob_C_of (by decide) rfl (Nat.le_of_ble_eq_true rfl) ?_
  refine og_lv [(0, .ref m), (1, .int (nI e))] rfl ?_
  refine og_iconst (v := 0) dX6_start_0 (by decide) ?_
  refine og_istore_n dX6_start_1 (by decide) ?_
  refine og_iconst (v := 0) dX6_start_2 (by decide) ?_
  refine og_istore_n dX6_start_3 (by decide) ?_
  refine og_lv [(0, .ref m), (1, .int (nI e)), (2, .int (nI (sp_fl (E.take 0)).length)), (3, .int (nI 0))] rfl ?_
  exact start_loop ha h hl he (by decide) (by decide) e 0 (by omega) ⟨rfl, rfl⟩
theorem used_loop (ha : ob_Ma T V m mt mr mb mk mv me mu) (h : ob_Me V B m mb mk mv E) (hl : E.length ≤ 1024) (hb : ∀ e ∈ E, e.1.length ≤ 64 ∧ e.2.length ≤ 512) (hR : 1 ≤ R.frames ∧ 60 ≤ R.locals) (hk : k ≤ R.cells) (hs : n ≤ R.slots) : ∀ (d i : Nat), i + d = E.length → Q (.inl (some (.int (nI (sp_us E))))) (T, V, B, J) → ob_G X mX6_used R Q 4 [(0, .ref m), (1, .int (nI (sp_us (E.take i)))), (2, .int (nI i))] [] (T, V, B, J) k n := by
  obtain ⟨⟨h1, h2, h3, h4, h5, h6, h7, h8⟩, ⟨g1, g2, g3, g4, g5⟩, -⟩ := ha
  have m7 := h.1
  intro d
  induction d with
  | zero =>
    intro i hid hq
    have e9 : i = E.length := by omega
    subst e9
    rw [List.take_length]
    refine og_iload_n dX6_used_4 rfl ?_
    refine og_aload_n dX6_used_5 rfl rfl ?_
    refine og_getf dX6_used_6 kfX6_52 (by assumption) (by assumption) ?_
    refine og_icmp_ge (tgt := 37) dX6_used_9 (by decide) (fun _ => ?_) (fun z9 => absurd (Int32.le_refl _) z9)
    refine og_iload_n dX6_used_37 rfl ?_
    exact og_ireturn (ty := .int) rfl dX6_used_38 rfl hk hs hq
  | succ d ih =>
    intro i hid hq
    have hi : i < E.length := by omega
    have hbi := hb E[i] (List.getElem_mem hi)
    refine og_iload_n dX6_used_4 rfl ?_
    refine og_aload_n dX6_used_5 rfl rfl ?_
    refine og_getf dX6_used_6 kfX6_52 (by assumption) (by assumption) ?_
    refine og_icmp_ge (tgt := 37) dX6_used_9 (by decide) (fun z9 => absurd z9 (nI_ge (by omega) (by omega))) (fun _ => ?_)
    refine og_iload_n dX6_used_12 rfl ?_
    refine og_aload_n dX6_used_13 rfl rfl ?_
    refine og_getf dX6_used_14 kfX6_20 (by assumption) (by assumption) ?_
    refine og_iload_n dX6_used_17 rfl ?_
    refine og_ialv dX6_used_18 (by assumption) (by omega) (by decide) (h.ks hi) ?_
    refine og_aload_n dX6_used_19 rfl rfl ?_
    refine og_getf dX6_used_20 kfX6_23 (by assumption) (by assumption) ?_
    refine og_iload_n dX6_used_23 rfl ?_
    refine og_ialv dX6_used_24 (by assumption) (by omega) (by decide) (h.vs hi) ?_
    refine og_iadd dX6_used_25 ?_
    refine og_st [.int (nI (E[i].1.length + E[i].2.length)), .int (nI (sp_us (E.take i)))] (by rw [nI_add]) ?_
    refine og_callSe dX6_used_26 ksX6_66 (cm_unitsOf (by omega)) rfl rfl ⟨hR.1, Nat.le_trans (by decide) hR.2⟩ hk hs (Nat.le_of_ble_eq_true rfl) rfl ?_
    refine og_iadd dX6_used_29 ?_
    have e9 : sp_us (E.take (i + 1)) = sp_us (E.take i) + ob_un (E[i].1.length + E[i].2.length) := by
      rw [List.take_succ_eq_append_getElem hi, sp_us_app, List.append_nil]
    refine og_st [.int (nI (sp_us (E.take (i + 1))))] (by rw [nI_add, e9]) ?_
    refine og_istore_n dX6_used_30 (by decide) ?_
    refine og_iinc dX6_used_31 rfl (nI_1 i) (by decide) ?_
    refine og_goto (tgt := 4) dX6_used_34 (by decide) ?_
    refine og_lv [(0, .ref m), (1, .int (nI (sp_us (E.take (i + 1))))), (2, .int (nI (i + 1)))] rfl ?_
    exact ih (i + 1) (by omega) hq
theorem cm_used (ha : ob_Ma T V m mt mr mb mk mv me mu) (h : ob_Me V B m mb mk mv E) (hl : E.length ≤ 1024) (hb : ∀ e ∈ E, e.1.length ≤ 64 ∧ e.2.length ≤ 512) : ob_C X mX6_used 1 0 0 [.ref m] (T, V, B, J) (ob_e (some (.int (nI (sp_us E)))) (T, V, B, J)) := by
  refine ob_C_of (by decide) rfl (Nat.le_of_ble_eq_true rfl) ?_
  refine og_lv [(0, .ref m)] rfl ?_
  refine og_iconst (v := 0) dX6_used_0 (by decide) ?_
  refine og_istore_n dX6_used_1 (by decide) ?_
  refine og_iconst (v := 0) dX6_used_2 (by decide) ?_
  refine og_istore_n dX6_used_3 (by decide) ?_
  refine og_lv [(0, .ref m), (1, .int (nI (sp_us (E.take 0)))), (2, .int (nI 0))] rfl ?_
  exact used_loop ha h hl hb ⟨by decide, by decide⟩ (by decide) (by decide) E.length 0 (by omega) ⟨rfl, rfl⟩
theorem mcmp_loop {e at9 : Nat} {ks ts : List Nat} (ha : ob_Ma T V m mt mr mb mk mv me mu) (he : e < 1025) (hke : B mk e = nI ks.length) (hk1 : ob_is B mb at9 ks) (ht : ob_is B mt 0 ts) (hka : at9 + ks.length ≤ 66048) (htl : ts.length ≤ 600) (hkb : ∀ z ∈ ks, z < 256) (htb : ∀ z ∈ ts, z < 256) (hk : k ≤ R.cells) (hs : n ≤ R.slots) : ∀ (d i : Nat), i + d = min ks.length ts.length → Q (.inl (some (.int (iI (ob_cmp (ks.drop i) (ts.drop i)))))) (T, V, B, J) → ob_G X mX6_compare R Q 3 [(0, .ref m), (1, .int (nI e)), (2, .int (nI at9)), (3, .int (nI ts.length)), (4, .int (nI i))] [] (T, V, B, J) k n := by
  obtain ⟨⟨h1, h2, h3, h4, h5, h6, h7, h8⟩, ⟨g1, g2, g3, g4, g5⟩, -⟩ := ha
  have fin : ∀ i, ¬ (i < ks.length ∧ i < ts.length) → i ≤ min ks.length ts.length → Q (.inl (some (.int (iI (ob_cmp (ks.drop i) (ts.drop i)))))) (T, V, B, J) → ob_G X mX6_compare R Q 63 [(0, .ref m), (1, .int (nI e)), (2, .int (nI at9)), (3, .int (nI ts.length)), (4, .int (nI i))] [] (T, V, B, J) k n := by
    intro i hi hle hq
    refine og_aload_n dX6_compare_63 rfl rfl ?_
    refine og_getf dX6_compare_64 kfX6_20 (by assumption) (by assumption) ?_
    refine og_iload_n dX6_compare_67 rfl ?_
    refine og_ialv dX6_compare_68 (by assumption) (by omega) (by decide) (hke) ?_
    refine og_iload_n dX6_compare_69 rfl ?_
    refine og_isub dX6_compare_70 ?_
    refine og_ireturn (ty := .int) rfl dX6_compare_71 rfl hk hs ?_
    rw [iI_sub]
    have : ob_cmp (ks.drop i) (ts.drop i) = (ks.length : Int) - ts.length := by
      by_cases h9 : i < ks.length
      · have : ts.drop i = [] := List.drop_eq_nil_of_le (by omega)
        rw [this, ob_cmp_nil, List.length_drop]
        omega
      · have e1 : ks.drop i = [] := List.drop_eq_nil_of_le (by omega)
        rw [e1]
        simp only [ob_cmp, List.length_drop]
        omega
    rw [← this]
    exact hq
  intro d
  induction d with
  | zero =>
    intro i hid hq
    refine og_iload dX6_compare_3 rfl ?_
    refine og_iload_n dX6_compare_5 rfl ?_
    refine og_icmp_ge (tgt := 63) dX6_compare_6 (by decide) (fun c1 => ?_) (fun c1 => ?_)
    · exact fin i (by omega) (by omega) hq
    · have hit : i < ts.length := by
        rcases Nat.lt_or_ge i ts.length with h9 | h9
        · exact h9
        · exact absurd (nI_le h9 (by omega)) c1
      have hik : ks.length ≤ i := by omega
      refine og_iload dX6_compare_9 rfl ?_
      refine og_aload_n dX6_compare_11 rfl rfl ?_
      refine og_getf dX6_compare_12 kfX6_20 (by assumption) (by assumption) ?_
      refine og_iload_n dX6_compare_15 rfl ?_
      refine og_ialv dX6_compare_16 (by assumption) (by omega) (by decide) (hke) ?_
      refine og_icmp_ge (tgt := 63) dX6_compare_17 (by decide) (fun _ => ?_) (fun z9 => absurd (nI_le hik (by omega)) z9)
      exact fin i (by omega) (by omega) hq
  | succ d ih =>
    intro i hid hq
    have hik : i < ks.length := by omega
    have hit : i < ts.length := by omega
    have hv : B mb (at9 + i) = nI ks[i] := hk1 i hik
    have hw : B mt i = nI ts[i] := ht.at hit
    have b1 := hkb ks[i] (List.getElem_mem hik)
    have b2 := htb ts[i] (List.getElem_mem hit)
    have ed : ob_cmp (ks.drop i) (ts.drop i) = if ks[i] = ts[i] then ob_cmp (ks.drop (i + 1)) (ts.drop (i + 1)) else (ks[i] : Int) - ts[i] := by
      rw [List.drop_eq_getElem_cons hik, List.drop_eq_getElem_cons hit]; rfl
    refine og_iload dX6_compare_3 rfl ?_
    refine og_iload_n dX6_compare_5 rfl ?_
    refine og_icmp_ge (tgt := 63) dX6_compare_6 (by decide) (fun z9 => absurd z9 (nI_ge hit (by omega))) (fun _ => ?_)
    refine og_iload dX6_compare_9 rfl ?_
    refine og_aload_n dX6_compare_11 rfl rfl ?_
    refine og_getf dX6_compare_12 kfX6_20 (by assumption) (by assumption) ?_
    refine og_iload_n dX6_compare_15 rfl ?_
    refine og_ialv dX6_compare_16 (by assumption) (by omega) (by decide) (hke) ?_
    refine og_icmp_ge (tgt := 63) dX6_compare_17 (by decide) (fun z9 => absurd z9 (nI_ge hik (by omega))) (fun _ => ?_)
    refine og_aload_n dX6_compare_20 rfl rfl ?_
    refine og_getf dX6_compare_21 kfX6_17 (by assumption) (by assumption) ?_
    refine og_iload_n dX6_compare_24 rfl ?_
    refine og_iload dX6_compare_25 rfl ?_
    refine og_iadd dX6_compare_27 ?_
    refine og_st [.int (nI (at9 + i)), .ref mb] (by rw [nI_add]) ?_
    refine og_ialv dX6_compare_28 (by assumption) (by omega) (by decide) (hv) ?_
    refine og_aload_n dX6_compare_29 rfl rfl ?_
    refine og_getf dX6_compare_30 kfX6_7 (by assumption) (by assumption) ?_
    refine og_iload dX6_compare_33 rfl ?_
    refine og_ialv dX6_compare_35 (by assumption) (by omega) (by decide) (hw) ?_
    refine og_icmp_eq (tgt := 57) dX6_compare_36 (by decide) (fun c1 => ?_) (fun c1 => ?_)
    · have c1 := (nI_eq (by omega) (by omega)).mp c1
      rw [ed, if_pos c1] at hq
      refine og_iinc dX6_compare_57 rfl (nI_1 i) (by decide) ?_
      refine og_goto (tgt := 3) dX6_compare_60 (by decide) ?_
      refine og_lv [(0, .ref m), (1, .int (nI e)), (2, .int (nI at9)), (3, .int (nI ts.length)), (4, .int (nI (i + 1)))] rfl ?_
      exact ih (i + 1) (by omega) hq
    · have c1 : ¬ ks[i] = ts[i] := fun h9 => c1 (by rw [h9])
      rw [ed, if_neg c1] at hq
      refine og_aload_n dX6_compare_39 rfl rfl ?_
      refine og_getf dX6_compare_40 kfX6_17 (by assumption) (by assumption) ?_
      refine og_iload_n dX6_compare_43 rfl ?_
      refine og_iload dX6_compare_44 rfl ?_
      refine og_iadd dX6_compare_46 ?_
      refine og_st [.int (nI (at9 + i)), .ref mb] (by rw [nI_add]) ?_
      refine og_ialv dX6_compare_47 (by assumption) (by omega) (by decide) (hv) ?_
      refine og_aload_n dX6_compare_48 rfl rfl ?_
      refine og_getf dX6_compare_49 kfX6_7 (by assumption) (by assumption) ?_
      refine og_iload dX6_compare_52 rfl ?_
      refine og_ialv dX6_compare_54 (by assumption) (by omega) (by decide) (hw) ?_
      refine og_isub dX6_compare_55 ?_
      refine og_ireturn (ty := .int) rfl dX6_compare_56 rfl hk hs ?_
      rw [iI_sub]
      exact hq
theorem cm_compare {e : Nat} {full : List Nat} {tl : Nat} (ha : ob_Ma T V m mt mr mb mk mv me mu) (h : ob_Me V B m mb mk mv E) (he : e < E.length) (hl : E.length ≤ 1024) (hfl : (sp_fl E).length ≤ 65536) (ht : ob_is B mt 0 full) (htl : tl ≤ full.length) (hf6 : full.length ≤ 600) (hkb : ∀ z ∈ E[e].1, z < 256) (htb : ∀ z ∈ full, z < 256) : ob_C X mX6_compare 0 0 0 [.ref m, .int (nI e), .int (nI (sp_fl (E.take e)).length), .int (nI tl)] (T, V, B, J) (ob_e (some (.int (iI (ob_cmp E[e].1 (full.take tl))))) (T, V, B, J)) := by
  refine ob_C_of (by decide) rfl (Nat.le_of_ble_eq_true rfl) ?_
  have hlt : (full.take tl).length = tl := by rw [List.length_take]; omega
  have eE : E = E.take e ++ E[e] :: E.drop (e + 1) := by rw [← List.drop_eq_getElem_cons he, List.take_append_drop]
  have eF : sp_fl E = sp_fl (E.take e) ++ (E[e].1 ++ (E[e].2 ++ sp_fl (E.drop (e + 1)))) := by
    have := congrArg sp_fl eE
    rw [sp_fl_app, sp_fl_cons, List.append_assoc] at this
    exact this
  have hb1 := h.2.2.1
  rw [eF] at hb1
  have hb2 := (ob_is_app.mp (ob_is_app.mp hb1).2).1
  rw [Nat.zero_add] at hb2
  have hln : (sp_fl (E.take e)).length + E[e].1.length ≤ 65536 := by
    have := congrArg List.length eF
    simp only [List.length_append] at this
    omega
  have ht2 : ob_is B mt 0 (full.take tl) := by
    have := ht
    rw [← List.take_append_drop tl full] at this
    exact (ob_is_app.mp this).1
  refine og_lv [(0, .ref m), (1, .int (nI e)), (2, .int (nI (sp_fl (E.take e)).length)), (3, .int (nI (full.take tl).length))] (by rw [hlt]; rfl) ?_
  refine og_iconst (v := 0) dX6_compare_0 (by decide) ?_
  refine og_istore dX6_compare_1 (by decide) ?_
  refine og_lv [(0, .ref m), (1, .int (nI e)), (2, .int (nI (sp_fl (E.take e)).length)), (3, .int (nI (full.take tl).length)), (4, .int (nI 0))] rfl ?_
  exact mcmp_loop ha (by omega) (h.ks he) hb2 ht2 (by omega) (by omega) hkb (fun z hz => htb z (List.mem_of_mem_take hz)) (by decide) (by decide) _ 0 (Nat.zero_add _) ⟨rfl, rfl⟩
end OMB
