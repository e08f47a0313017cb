/-! THE OBJECT'S CALLS, against the answers -/
/-- the fields that show the state -/
def ob_Y (V : ob_V) (B : ob_B) (x tp tb rs rr : Nat) (tt : ob_t) (K : ob_k) (S : sp_S) : Prop := S.1 = (ob_ads tt).map K ∧ V x 5 = va_rf (S.2.1.bind (fun i => (ob_ads tt)[i]?)) ∧ (∀ i, S.2.1 = some i → i < S.1.length) ∧ (V tp 1 = .int (nI S.2.2.1.length) ∧ S.2.2.1.length ≤ 600 ∧ ob_bs B tb 0 S.2.2.1) ∧ (V rs 1 = .int (nI S.2.2.2.length) ∧ S.2.2.2.length ≤ 512 ∧ ob_bs B rr 0 S.2.2.2)
def ob_I (T : ob_T) (V : ob_V) (B : ob_B) (x me mu cap : Nat) (S : sp_S) : Prop := ∃ hp edge hb t nl tp tb rs rr N l tt K, ob_O T V B x me mu hp edge hb t nl tp tb rs rr cap N l tt K ∧ ob_Y V B x tp tb rs rr tt K S
/-- the answer: a value, or one of two throws -/
def ob_an (e1 e2 : String) (A : sp_A) (r : ob_r) : Prop := (A.1 = 0 → r = .inl (some (.int A.2.1))) ∧ (A.1 = 1 → r = .inr e1) ∧ (A.1 = 2 → r = .inr e2) ∧ A.1 ≤ 2
theorem ob_an0 {e1 e2 : String} {v v' : Int32} {s : sp_S} (h : v = v') : ob_an e1 e2 (0, v, s) (.inl (some (.int v'))) := ⟨fun _ => by rw [← h], fun h => (by cases h), fun h => (by cases h), by show 0 ≤ 2; decide⟩
theorem ob_an1 {e1 e2 : String} {v : Int32} {s : sp_S} : ob_an e1 e2 (1, v, s) (.inr e1) := ⟨fun h => (by cases h), fun _ => rfl, fun h => (by cases h), by show 1 ≤ 2; decide⟩
theorem ob_an2 {e1 e2 : String} {v : Int32} {s : sp_S} : ob_an e1 e2 (2, v, s) (.inr e2) := ⟨fun h => (by cases h), fun h => (by cases h), fun _ => rfl, by show 2 ≤ 2; decide⟩
def ob_qx (T : ob_T) (V : ob_V) (B : ob_B) (J : ob_J) (x me mu cap : Nat) (e1 e2 : String) (A : sp_A) : ob_r → ob_w → Prop := fun r w' => ∃ T' V' B' J', w' = (T', V', B', J') ∧ ob_WX T V B J T' V' B' J' ∧ ob_I T' V' B' x me mu cap A.2.2 ∧ ob_an e1 e2 A r
/-- changed: the current entry, the lengths of tape and result, their bytes -/
def ob_sc (V : ob_V) (B : ob_B) (x tp tb rs rr : Nat) (V' : ob_V) (B' : ob_B) : Prop := (∀ y j, ¬ (y = x ∧ j = 5) → ¬ (y = tp ∧ j = 1) → ¬ (y = rs ∧ j = 1) → V' y j = V y j) ∧ (∀ y, y ≠ rr → y ≠ tb → B' y = B y)
section OCF
variable {X : ob_X} {T : ob_T} {V V' : ob_V} {B B' : ob_B} {J : ob_J} {R : Room} {Q : ob_r → ob_w → Prop} {k n : Nat} {x me mu hp edge hb t nl tp tb rs rr cap N : Nat} {l : List ob_bk} {tt : ob_t} {K : ob_k} {S : sp_S}
theorem ob_O.small (h : ob_O T V B x me mu hp edge hb t nl tp tb rs rr cap N l tt K) (hc : ob_sc V B x tp tb rs rr V' B') (hF : sb_Fit (B' tb)) : ob_O T V' B' x me mu hp edge hb t nl tp tb rs rr cap N l tt K := by
  obtain ⟨⟨x1, x2, x3, x4, x5, x6, x7, x8⟩, hs, ⟨t1, t2, t3, t4, t5⟩, en, ⟨r1, r2, r3, r4, r5, r6, r7, r8, r9, r10, r11⟩, n1, n2, n3⟩ := h
  have far : ∀ y c z, T y = some (c, z) → c ≠ 5 → c ≠ 3 → ∀ j, V' y j = V y j := fun y c z hy h5 h3 j => hc.1 y j (fun e => by rw [e.1, x1] at hy; cases hy; exact h5 rfl) (fun e => by rw [e.1, r1] at hy; cases hy; exact h3 rfl) (fun e => by rw [e.1, r5] at hy; cases hy; exact h3 rfl)
  have xtp : x ≠ tp := fun e => by rw [e, r1] at x1; cases x1
  have xrs : x ≠ rs := fun e => by rw [e, r5] at x1; cases x1
  have fx : ∀ j, j ≠ 5 → V' x j = V x j := fun j hj => hc.1 x j (fun e => hj e.2) (fun e => xtp e.1) (fun e => xrs e.1)
  have f3 : ∀ y z, T y = some (3, z) → V' y 0 = V y 0 := fun y z hy => hc.1 y 0 (fun e => by omega) (fun e => by omega) (fun e => by omega)
  have hBb : B' hb = B hb := hc.2 hb r11 r10
  refine ⟨⟨x1, by rw [fx _ (by decide)]; exact x2, by rw [fx _ (by decide)]; exact x3, by rw [fx _ (by decide)]; exact x4, by rw [fx _ (by decide)]; exact x5, by rw [fx _ (by decide)]; exact x6, by rw [fx _ (by decide)]; exact x7, by rw [fx _ (by decide)]; exact x8⟩, hs.keep (fun y c z hy hc => far y c z hy (by omega) (by omega)) (by rw [hBb]; exact hs.2.2.2.2.2.2.2.1), ⟨t1.keep (fun _ _ h => h) (fun y c z hy h9 j _ => far y c z hy (by rcases h9 with rfl | rfl; rw [t1.1] at hy; cases hy; decide; decide) (by rcases h9 with rfl | rfl; rw [t1.1] at hy; cases hy; decide; decide) j), by rw [far t 4 0 t1.1 (by decide) (by decide)]; exact t2, t3, t4, t5⟩, ?_, ⟨r1, by rw [f3 tp 0 r1]; exact r2, r3, hF, r5, by rw [f3 rs 0 r5]; exact r6, r7, r8, r9, r10, r11⟩, n1, n2, n3⟩
  have en2 := en.keep (V' := V') (fun a => Iff.rfl) (fun a ha j _ => far a 2 0 (t1.2.2.2.2.2.1.2 a ha).1 (by decide) (by decide) j)
  refine ⟨fun a ha => ?_, en2.2⟩
  obtain ⟨q1, q2, q3, q4, q5, b9, s9, q6, q7, q8⟩ := en2.1 a ha
  exact ⟨q1, q2, q3, q4, q5, b9, s9, q6, q7, q8.same (fun j _ => by rw [hBb])⟩
theorem ob_O.wx (h : ob_O T V B x me mu hp edge hb t nl tp tb rs rr cap N l tt K) (hc : ob_sc V B x tp tb rs rr V' B') : ob_WX T V B J T V' B' J := by
  obtain ⟨⟨x1, -⟩, -, -, -, ⟨r1, r2, r3, r4, r5, r6, r7, -⟩, -⟩ := h
  refine ⟨fun _ _ h => h, fun y c z hy h6 h7 => ⟨fun j => hc.1 y j (fun e => by rw [e.1, x1] at hy; cases hy; omega) (fun e => by rw [e.1, r1] at hy; cases hy; omega) (fun e => by rw [e.1, r5] at hy; cases hy; omega), hc.2 y (fun e => by rw [e, r7] at hy; cases hy; exact h7 rfl) (fun e => by rw [e, r3] at hy; cases hy; exact h7 rfl), rfl⟩⟩
theorem ob_sc.tr {V2 : ob_V} {B2 : ob_B} (h : ob_sc V B x tp tb rs rr V' B') (g : ob_sc V' B' x tp tb rs rr V2 B2) : ob_sc V B x tp tb rs rr V2 B2 := ⟨fun y j a b c => (g.1 y j a b c).trans (h.1 y j a b c), fun y a b => (g.2 y a b).trans (h.2 y a b)⟩
theorem ob_sc_tp (v : Value) : ob_sc V B x tp tb rs rr (ob_set V tp 1 v) B := ⟨fun y j _ h2 _ => if_neg h2, fun _ _ _ => rfl⟩
theorem ob_sc_x (v : Value) : ob_sc V B x tp tb rs rr (ob_set V x 5 v) B := ⟨fun y j h1 _ _ => if_neg h1, fun _ _ _ => rfl⟩
theorem ob_sc_rs (v : Value) (hB : ∀ y, y ≠ rr → B' y = B y) : ob_sc V B x tp tb rs rr (ob_set V rs 1 v) B' := ⟨fun y j _ _ h3 => if_neg h3, fun y h _ => hB y h⟩
/-- the tape is read -/
theorem ob_Y.read (h : ob_O T V B x me mu hp edge hb t nl tp tb rs rr cap N l tt K) (hy : ob_Y V B x tp tb rs rr tt K S) : ob_O T (ob_set V tp 1 (.int 0)) B x me mu hp edge hb t nl tp tb rs rr cap N l tt K ∧ ob_Y (ob_set V tp 1 (.int 0)) B x tp tb rs rr tt K (sp_0 S) := by
  have x1 := h.1.1
  obtain ⟨r1, -, -, r4, r5, -, -, r8, -⟩ := h.2.2.2.2.1
  have xtp : x ≠ tp := fun e => by rw [e, r1] at x1; cases x1
  refine ⟨h.small (ob_sc_tp _) r4, ?_⟩
  obtain ⟨y1, y2, y3, ⟨y4, y5, y6⟩, y7, y8, y9⟩ := hy
  refine ⟨y1, by rw [ob_set_a _ _ _ _ _ xtp]; exact y2, y3, ⟨by rw [ob_set_s]; rfl, by simp [sp_0], fun j hj => by simp [sp_0] at hj⟩, by rw [ob_set_a _ _ _ _ _ r8.symm]; exact y7, y8, y9⟩
/-- an entry is told -/
theorem ob_Y.tell {i a : Nat} {v : Bool} (h : ob_O T V B x me mu hp edge hb t nl tp tb rs rr cap N l tt K) (hy : ob_Y V B x tp tb rs rr tt K S) (hi : (ob_ads tt)[i]? = some a) (hB : ∀ y, y ≠ rr → B' y = B y) (hr : ob_bs B' rr 0 (if v then (K a).2 else (K a).1)) :
    ob_O T (ob_set (ob_set V x 5 (.ref a)) rs 1 (.int (nI (if v then (K a).2 else (K a).1).length))) B' x me mu hp edge hb t nl tp tb rs rr cap N l tt K ∧ ob_Y (ob_set (ob_set V x 5 (.ref a)) rs 1 (.int (nI (if v then (K a).2 else (K a).1).length))) B' x tp tb rs rr tt K (sp_tell S i v) ∧ (sp_tell S i v).2.2.2 = (if v then (K a).2 else (K a).1) := by
  have x1 := h.1.1
  obtain ⟨r1, -, -, r4, r5, -, -, r8, r9, -⟩ := h.2.2.2.2.1
  have xtp : x ≠ tp := fun e => by rw [e, r1] at x1; cases x1
  have xrs : x ≠ rs := fun e => by rw [e, r5] at x1; cases x1
  obtain ⟨e1, e2, e3, -⟩ := h.2.2.2.1.1 a (List.mem_of_getElem? hi)
  have hl : (if v then (K a).2 else (K a).1).length ≤ 512 := by split <;> omega
  obtain ⟨y1, y2, y3, ⟨y4, y5, y6⟩, y7, y8, y9⟩ := hy
  have hg : S.1.getD i ([], []) = K a := by rw [y1, List.getD_eq_getElem?_getD, List.getElem?_map, hi]; rfl
  have hres : (sp_tell S i v).2.2.2 = (if v then (K a).2 else (K a).1) := by simp only [sp_tell, hg]
  have hil := (List.getElem?_eq_some_iff.mp hi).1
  refine ⟨h.small ((ob_sc_x _).tr (ob_sc_rs _ hB)) (by rw [hB tb r9]; exact r4), ⟨y1, ?_, ?_, ⟨?_, y5, ?_⟩, ?_, ?_, ?_⟩, hres⟩
  · rw [ob_set_a _ _ _ _ _ xrs, ob_set_s]
    simp [sp_tell, hi, va_rf]
  · intro j hj
    simp only [sp_tell, Option.some.injEq] at hj
    rw [← hj]
    show i < S.1.length
    rw [y1, List.length_map]; exact hil
  · rw [ob_set_a _ _ _ _ _ r8, ob_set_a _ _ _ _ _ xtp.symm]; exact y4
  · exact y6.same (fun j _ => by rw [hB tb r9])
  · rw [ob_set_s, hres]
  · rw [hres]; exact hl
  · rw [hres]; exact hr
theorem sp_kl_iff {n : Nat} (h : n ≤ 600) : (1 ≤ nI n ∧ nI n ≤ 64) ↔ sp_kl n = true := by
  simp only [sp_kl, decide_eq_true_eq]
  exact and_congr (nI_leI (a := 1) (by omega) (by omega)) (nI_leI (b := 64) (by omega) (by omega))
theorem ob_O.len (h : ob_O T V B x me mu hp edge hb t nl tp tb rs rr cap N l tt K) : (ob_ads tt).length ≤ 1024 := by have := h.2.2.2.2.2; omega
theorem ct_get (hI : ob_I T V B x me mu cap S) : ob_C X mX5_get 8 3 20 [.ref x] (T, V, B, J) (ob_qx T V B J x me mu cap ob_IA ob_NE (sp_get S)) := by
  obtain ⟨hp, edge, hb, t, nl, tp, tb, rs, rr, N, l, tt, K, h, hy⟩ := hI
  refine ob_C_of (by decide) rfl (Nat.le_of_ble_eq_true rfl) ?_
  obtain ⟨⟨x1, x2, x3, x4, x5, x6, x7, x8⟩, hs, ⟨t1, t2, t3, t4, t5⟩, en, ⟨r1, r2, r3, r4, r5, r6, r7, r8, r9, r10, r11⟩, n1, n2, n3⟩ := id h
  obtain ⟨y1, y2, y3, ⟨y4, y5, y6⟩, y7, y8, y9⟩ := id hy
  refine og_lv [(0, .ref x)] rfl ?_
  refine og_aload_n dX5_get_0 rfl rfl ?_
  refine og_getf dX5_get_1 kfX5_31 (by assumption) (by assumption) ?_
  refine og_aload_n dX5_get_4 rfl rfl ?_
  refine og_getf dX5_get_5 kfX5_38 (by assumption) (by assumption) ?_
  refine og_aload_n dX5_get_8 rfl rfl ?_
  obtain ⟨h1, hy1⟩ := hy.read h
  refine og_callVx dX5_get_9 kvX5_100 (ct_readKey x1 x5 r1 y4) rfl x1 rfl rfl ⟨by decide, by decide⟩ (by decide) (by decide) (Nat.le_of_ble_eq_true rfl) rfl (fun E w' h9 => ?_) (fun v w' h9 => ?_)
  · obtain ⟨rfl, g1, g2⟩ := h9
    by_cases hk : 1 ≤ nI S.2.2.1.length ∧ nI S.2.2.1.length ≤ 64
    · cases g1 hk
    · cases g2 hk
      have hA : sp_get S = (1, 0, sp_0 S) := if_neg (fun h9 => hk ((sp_kl_iff y5).mpr h9))
      rw [hA]
      exact ⟨_, _, _, _, rfl, h.wx (ob_sc_tp _), ⟨_, _, _, _, _, _, _, _, _, _, _, _, _, h1, hy1⟩, ob_an1⟩
  · obtain ⟨rfl, g1, g2⟩ := h9
    by_cases hk : 1 ≤ nI S.2.2.1.length ∧ nI S.2.2.1.length ≤ 64
    · cases g1 hk
      have hkl := (sp_kl_iff y5).mp hk
      have tT := t1.1
      have hkl' : 1 ≤ S.2.2.1.length ∧ S.2.2.1.length ≤ 64 := by simpa [sp_kl] using hkl
      refine og_callVe dX5_get_12 kvX5_74 (ct_find h1.2.2.1.1 h1.2.2.1.2.1 h1.hbp r1 h1.2.2.2.2.1.2.1 r3 y5 (by omega) y6 h1.ns t5) rfl tT rfl rfl ⟨by decide, by decide⟩ (by decide) (by decide) (Nat.le_of_ble_eq_true rfl) rfl ?_
      rw [sp_find t5, ← y1]
      have hA : sp_get S = (match sp_fd S.1 S.2.2.1 with | none => (2, 0, sp_0 S) | some i => (0, nI (sp_tell (sp_0 S) i true).2.2.2.length, sp_tell (sp_0 S) i true)) := if_pos hkl
      cases hf : sp_fd S.1 S.2.2.1 with
      | none =>
        rw [hf] at hA
        rw [hA]
        refine og_astore_n dX5_get_15 (by decide) rfl ?_
        refine og_aload_n dX5_get_16 rfl rfl ?_
        refine og_ifnonnullN dX5_get_17 ?_
        exact og_thrN ⟨dX5_get_20, dX5_get_23, dX5_get_24, dX5_get_26, dX5_get_29⟩ rfl rfl (by decide) (by decide) (by decide) (by decide) ⟨_, _, _, _, rfl, h.wx (ob_sc_tp _), ⟨_, _, _, _, _, _, _, _, _, _, _, _, _, h1, hy1⟩, ob_an2⟩
      | some i =>
        rw [hf] at hA
        rw [hA]
        have hil := (sp_fd_some hf).1
        rw [y1, List.length_map] at hil
        have hi := List.getElem?_eq_getElem hil
        have ha : (ob_ads tt)[i] ∈ ob_ads tt := List.getElem_mem hil
        generalize (ob_ads tt)[i] = a at *
        simp only [Option.bind_some, hi]
        refine og_astore_n dX5_get_15 (by decide) rfl ?_
        refine og_aload_n dX5_get_16 rfl rfl ?_
        refine og_ifnonnull (tgt := 30) dX5_get_17 (by decide) ?_
        refine og_aload_n dX5_get_30 rfl rfl ?_
        refine og_aload_n dX5_get_31 rfl rfl ?_
        refine og_put dX5_get_32 kfX5_92 (by assumption) rfl rfl ?_
        refine og_aload_n dX5_get_35 rfl rfl ?_
        refine og_aload_n dX5_get_36 rfl rfl ?_
        have h2 : ob_O T (ob_set (ob_set V tp 1 (.int 0)) x 5 (.ref a)) B x me mu hp edge hb t nl tp tb rs rr cap N l tt K := h1.small (ob_sc_x _) r4
        refine og_callVn dX5_get_37 kvX5_108 (ct_showValue h2 ha) rfl x1 rfl rfl ⟨by decide, by decide⟩ (by decide) (by decide) (Nat.le_of_ble_eq_true rfl) rfl (fun E w' h9 => by cases h9.1) (fun v w' h9 => ?_)
        obtain ⟨hv, B1, rfl, b1, b2⟩ := h9
        cases hv
        obtain ⟨h3, hy3, e3⟩ := hy1.tell (v := true) h1 hi b1 b2
        exact og_ireturn (ty := .int) rfl dX5_get_40 rfl (by decide) (by decide) ⟨_, _, _, _, rfl, h.wx ((ob_sc_tp _).tr ((ob_sc_x _).tr (ob_sc_rs _ b1))), ⟨_, _, _, _, _, _, _, _, _, _, _, _, _, h3, hy3⟩, ob_an0 (by rw [e3]; rfl)⟩
    · cases g2 hk
end OCF
