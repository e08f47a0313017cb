/-! THE OBJECT: changeValue -/
section OCE
variable {X : ob_X} {T : ob_T} {V : ob_V} {B : ob_B} {J : ob_J} {R : Room} {Q : ob_r → ob_w → Prop} {k n : Nat}
/-- what a put left: the entry a with another value -/
def ob_chg (T : ob_T) (V : ob_V) (B : ob_B) (J : ob_J) (x me mu hp edge t nl tp tb rs rr cap N a : Nat) (tt : ob_t) (K : ob_k) (e : List Nat × List Nat) : ob_r → ob_w → Prop := fun r w' => ∃ T' V' B' J' hb' l', r = .inl none ∧ w' = (T', V', B', J') ∧ ob_WX T V B J T' V' B' J' ∧ ob_O T' V' B' x me mu hp edge hb' t nl tp tb rs rr cap N l' tt (ob_ku K a e) ∧ ((∀ j, V' tp j = V tp j) ∧ (∀ j, V' rs j = V rs j) ∧ B' tb = B tb ∧ B' rr = B rr ∧ V' x 5 = V x 5)
theorem chg_end {x me mu hp edge hb t nl tp tb rs rr cap N a cap2 hb2 b s : Nat} {l l2 : List ob_bk} {tt : ob_t} {K : ob_k} {key val : List Nat} {L1 L2 : List Nat} {T2 : ob_T} {V2 : ob_V} {B2 : ob_B} {J2 : ob_J} (h : ob_O T V B x me mu hp edge hb t nl tp tb rs rr cap N l tt K) (htb : ob_bs B tb 0 (key ++ val)) (hL : ob_ads tt = L1 ++ a :: L2) (hK : (K a).1 = key) (hv : val.length ≤ 512)
    (TT : ∀ y z, T y = some z → T2 y = some z) (keep : ∀ y c z, T y = some (c, z) → 2 ≤ c → ∀ j, (y = a → j ≠ 2) → V2 y j = V y j) (hs2 : ob_hs T2 V2 B2 hp edge hb2 mu cap2 (sp_us (L1.map K ++ L2.map K) + ob_un (key.length + val.length)) l2) (hm : ((b, s, ob_un (key.length + val.length), some a) : ob_bk) ∈ l2) (ha2 : V2 a 2 = .ref b)
    (oth : ∀ y ∈ ob_ads tt, y ≠ a → ob_e1 V2 B2 hb2 l2 y (K y)) (own : ∀ b s u y, ((b, s, u, some y) : ob_bk) ∈ l2 → y ∈ ob_ads tt ∧ V2 y 2 = .ref b) (h1 : hb2 ≠ tb ∧ hb2 ≠ rr) (h2 : B2 tb = B tb ∧ B2 rr = B rr) (h3 : ∀ y c z, T y = some (c, z) → 6 ≤ c → c ≠ 7 → B2 y = B y ∧ J2 y = J y) (hc2 : 1 ≤ cap2)
    (hR : 4 ≤ R.frames ∧ 240 ≤ R.locals) (hk : k ≤ R.cells) (hs : n ≤ R.slots) : ob_G X mX5_changeValue R (ob_chg T V B J x me mu hp edge t nl tp tb rs rr cap2 N a tt K (key, val)) 41 [(0, .ref x), (1, .ref a), (2, .int (nI (key.length + val.length)))] [] (T2, V2, B2, J2) k n := by
  obtain ⟨⟨x1, x2, x3, x4, x5, x6, x7, x8⟩, hs0, ⟨t1, t2, t3, t4, t5⟩, ⟨en, eo⟩, ⟨r1, r2, r3, r4, r5, r6, r7, r8, r9, r10, r11⟩, n1, n2, n3⟩ := id h
  have nodeT := t1.2.2.2.2.2.1.2
  have haL : a ∈ ob_ads tt := by rw [hL]; simp
  have aT := (nodeT a haL).1
  have xT2 := TT _ _ x1
  have aT2 := TT _ _ aT
  obtain ⟨e1, e2, e3, e4, e5, -⟩ := en a haL
  have xa : x ≠ a := fun e => by rw [e, aT] at x1; cases x1
  have emap : (ob_ads tt).map K = L1.map K ++ K a :: L2.map K := by rw [hL, List.map_append, List.map_cons]
  have hnd := t1.2.2.2.2.2.2
  rw [hL, List.nodup_append] at hnd
  have nm1 : a ∉ L1 := fun h9 => hnd.2.2 a h9 a (by simp) rfl
  have nm2 : a ∉ L2 := fun h9 => (List.nodup_cons.mp hnd.2.1).1 h9
  have emap2 : (ob_ads tt).map (ob_ku K a (key, val)) = L1.map K ++ (key, val) :: L2.map K := by rw [hL, List.map_append, List.map_cons, ob_ku_s, ob_ku_map nm1, ob_ku_map nm2]
  have ev : sp_vb ((ob_ads tt).map K) = sp_vb (L1.map K ++ L2.map K) + (K a).2.length := by rw [emap, sp_vb_app]
  have y7 : V2 x 7 = .int (nI (sp_vb ((ob_ads tt).map K))) := by rw [keep x 5 0 x1 (by decide) 7 (fun e => absurd e xa)]; exact x8
  have y1 : V2 a 1 = .int (nI (K a).2.length) := by rw [keep a 2 0 aT (by decide) 1 (fun _ => by decide)]; exact e5
  refine og_aload_n dX5_changeValue_41 rfl rfl ?_
  refine og_dup dX5_changeValue_42 rfl ?_
  refine og_getf dX5_changeValue_43 kfX5_161 (by assumption) (by assumption) ?_
  refine og_aload_n dX5_changeValue_46 rfl rfl ?_
  refine og_getf dX5_changeValue_47 kfX5_225 (by assumption) (by assumption) ?_
  refine og_isub dX5_changeValue_50 ?_
  refine og_st [.int (nI (sp_vb (L1.map K ++ L2.map K))), .ref x] (by rw [nI_sub (by omega), ev, Nat.add_sub_cancel]) ?_
  refine og_put dX5_changeValue_51 kfX5_161 (by assumption) rfl rfl ?_
  refine og_aload_n dX5_changeValue_54 rfl rfl ?_
  refine og_aload_n dX5_changeValue_55 rfl rfl ?_
  refine og_iload_n dX5_changeValue_56 rfl ?_
  have f3 : ∀ y, y ≠ x → ∀ j, ob_set V2 x 7 (.int (nI (sp_vb (L1.map K ++ L2.map K)))) y j = V2 y j := fun y hy j => ob_set_a _ _ _ _ _ hy
  have f3x : ∀ j, j ≠ 7 → ob_set V2 x 7 (.int (nI (sp_vb (L1.map K ++ L2.map K)))) x j = V x j := fun j hj => by rw [ob_set_k _ _ _ _ _ hj]; exact keep x 5 0 x1 (by decide) j (fun e => absurd e xa)
  have f37 : ob_set V2 x 7 (.int (nI (sp_vb (L1.map K ++ L2.map K)))) x 7 = .int (nI (sp_vb (L1.map K ++ L2.map K))) := ob_set_s _ _ _ _
  generalize hV3 : ob_set V2 x 7 (.int (nI (sp_vb (L1.map K ++ L2.map K)))) = V3 at *
  have nx : ∀ y c z, T2 y = some (c, z) → c ≠ 5 → y ≠ x := fun y c z hy hc e => by rw [e, xT2] at hy; cases hy; exact hc rfl
  have na : ∀ y c z, T2 y = some (c, z) → c ≠ 2 → y ≠ a := fun y c z hy hc e => by rw [e, aT2] at hy; cases hy; exact hc rfl
  have hs3 : ob_hs T2 V3 B2 hp edge hb2 mu cap2 (sp_us (L1.map K ++ L2.map K) + ob_un (key.length + val.length)) l2 := hs2.keep (fun y c z hy hc => f3 y (nx y c z hy (by omega))) hs2.2.2.2.2.2.2.2.1
  obtain ⟨b1, b2, b3, b4⟩ := ob_sg_mem hs3.2.2.2.2.2.2.2.2.1.2.1 _ _ _ _ hm
  have til := (ob_til_le hs3.2.2.2.2.2.2.2.2.1.2.2.2).2 _ hm
  have hun := ob_un_le (key.length + val.length)
  have tpk : ∀ j, V3 tp j = V tp j := fun j => by
    rw [f3 tp (nx tp 3 0 (TT _ _ r1) (by decide)), keep tp 3 0 r1 (by decide) j (fun e => absurd e (na tp 3 0 (TT _ _ r1) (by decide)))]
  refine og_callVe dX5_changeValue_57 kvX5_215 (ct_fill (me := me) (u := ob_un (key.length + val.length)) (kl := key.length) (vb := sp_vb (L1.map K ++ L2.map K)) xT2 (by rw [f3x _ (by decide)]; exact x3) (by rw [f3x _ (by decide)]; exact x5) f37 aT2 (by rw [f3 a xa.symm, keep a 2 0 aT (by decide) 0 (fun _ => by decide), ← hK]; exact e4) (by rw [f3 a xa.symm]; exact ha2) hs3 b1 b2 (by simp only at til; omega) hun (TT _ _ r1) (by rw [tpk]; exact r2) (TT _ _ r3) (by show sb_Fit (B2 tb); rw [h2.1]; exact r4) (by omega) (by rw [hK] at e2; omega)) rfl xT2 rfl rfl ⟨Nat.le_trans (by decide) hR.1, Nat.le_trans (by decide) hR.2⟩ hk hs (Nat.le_of_ble_eq_true rfl) rfl ?_
  have hvl : key.length + val.length - key.length = val.length := by omega
  rw [hvl]
  generalize hV5 : ob_set (ob_set V3 a 1 (.int (nI val.length))) x 7 (.int (nI (sp_vb (L1.map K ++ L2.map K) + val.length))) = V5
  have f5 : ∀ y, y ≠ a → y ≠ x → ∀ j, V5 y j = V2 y j := fun y h1 h2 j => by rw [← f3 y h2 j, ← hV5]; simp [ob_set, h1, h2]
  have f5x : ∀ j, j ≠ 7 → V5 x j = V x j := fun j hj => by rw [← f3x j hj, ← hV5]; simp [ob_set, xa, hj]
  have f5x7 : V5 x 7 = .int (nI (sp_vb (L1.map K ++ L2.map K) + val.length)) := by rw [← hV5]; simp [ob_set]
  have f5a1 : V5 a 1 = .int (nI val.length) := by rw [← hV5]; simp [ob_set, xa.symm]
  have f5a : ∀ j, j ≠ 1 → V5 a j = V2 a j := fun j hj => by rw [← f3 a xa.symm j, ← hV5]; simp [ob_set, xa.symm, hj]
  have keep5 : ∀ y c z, T y = some (c, z) → 2 ≤ c → c ≠ 5 → ∀ j, (y = a → 3 ≤ j) → V5 y j = V y j := fun y c z hy hc h5 j hj => by
    by_cases hya : y = a
    · subst hya
      rw [f5a j (by have := hj rfl; omega)]
      exact keep y c z hy hc j (fun e => by have := hj e; omega)
    · rw [f5 y hya (nx y c z (TT _ _ hy) h5)]
      exact keep y c z hy hc j (fun e => absurd e hya)
  generalize hB5 : ob_row B2 hb2 (va_cpy (B2 tb) (B2 hb2) 0 (16 * s) (key.length + val.length)) = B5
  have tbB : B5 tb = B tb := by rw [← h2.1, ← hB5]; simp [ob_row, h1.1.symm]
  have rrB : B5 rr = B rr := by rw [← h2.2, ← hB5]; simp [ob_row, h1.2.symm]
  have na3 : ∀ y c z, T y = some (c, z) → c ≠ 2 → y ≠ a := fun y c z hy hc => na y c z (TT _ _ hy) hc
  refine og_return rfl dX5_changeValue_60 hk hs ⟨T2, V5, B5, J2, hb2, l2, rfl, by rw [← hV5, ← hB5], ⟨TT, fun y c z hy h6 h7 => ⟨fun j => keep5 y c z hy (by omega) (by omega) j (fun e => absurd e (na3 y c z hy (by omega))), ?_, (h3 y c z hy h6 h7).2⟩⟩, ⟨⟨xT2, ?_, ?_, ?_, ?_, ?_, ?_, ?_⟩, ?_, ⟨?_, ?_, t3, t4, ?_⟩, ?_, ⟨TT _ _ r1, ?_, TT _ _ r3, by rw [tbB]; exact r4, TT _ _ r5, ?_, TT _ _ r7, r8, r9, h1.1, h1.2⟩, n1, n2, hc2⟩, ?_, ?_, tbB, rrB, f5x _ (by decide)⟩
  · have e9 : y ≠ hb2 := fun e => by have := TT _ _ hy; rw [e, hs2.2.2.2.2.2.2.1] at this; cases this; exact h7 rfl
    rw [← hB5]
    simp only [ob_row, if_neg e9]
    exact (h3 y c z hy h6 h7).1
  · rw [f5x _ (by decide)]; exact x2
  · rw [f5x _ (by decide)]; exact x3
  · rw [f5x _ (by decide)]; exact x4
  · rw [f5x _ (by decide)]; exact x5
  · rw [f5x _ (by decide)]; exact x6
  · rw [f5x _ (by decide), x7, emap, emap2, sp_kb_app, sp_kb_app, hK]
  · rw [f5x7, emap2, sp_vb_app]
  · rw [emap2, sp_us_app]
    refine hs3.keep (fun y c z hy hc j => ?_) ?_
    · rw [f5 y (na y c z hy (by omega)) (nx y c z hy (by omega)), f3 y (nx y c z hy (by omega))]
    · have : B5 hb2 = va_cpy (B2 tb) (B2 hb2) 0 (16 * s) (key.length + val.length) := by rw [← hB5]; simp [ob_row]
      rw [this]
      exact sb_fitC (by rw [h2.1]; exact r4) hs3.2.2.2.2.2.2.2.1
  · refine t1.keep TT (fun y c z hy h9 j hj => ?_)
    rcases h9 with rfl | rfl
    · have hy' := hy
      rw [t1.1] at hy'; cases hy'
      exact keep5 y 4 0 hy (by decide) (by decide) j (fun e => absurd e (na3 y 4 0 hy (by decide)))
    · exact keep5 y 2 z hy (by decide) (by decide) j (fun _ => hj rfl)
  · rw [keep5 t 4 0 t1.1 (by decide) (by decide) 0 (fun e => absurd e (na3 t 4 0 t1.1 (by decide)))]; exact t2
  · rw [← sp_so_of, emap2]
    have so0 := sp_so_of.mpr t5
    rw [emap] at so0
    unfold sp_so at so0 ⊢
    rw [List.pairwise_append] at so0 ⊢
    obtain ⟨s1, s2, s3⟩ := so0
    obtain ⟨s4, s5⟩ := List.pairwise_cons.mp s2
    refine ⟨s1, List.pairwise_cons.mpr ⟨fun e he => by have := s4 e he; rw [hK] at this; exact this, s5⟩, fun e he f hf => ?_⟩
    rcases List.mem_cons.mp hf with rfl | hf
    · have := s3 e he (K a) (by simp)
      rw [hK] at this
      exact this
    · exact s3 e he f (List.mem_cons_of_mem _ hf)
  · rw [← hB5]
    refine ob_en_fill (V := V2) (L := ob_ads tt) hs3.2.2.2.2.2.2.2.2.1.2.2.2 (List.nodup_cons.mp hs3.2.2.2.2.2.2.2.2.1.2.2.1).2 hm oth (fun b9 s9 u9 y9 h9 => ?_) ⟨by rw [← hK]; exact e1, by rw [← hK]; exact e2, hv⟩ ?_ f5a1 ?_ (fun y hy hya j _ => f5 y hya (nx y 2 0 (TT _ _ (nodeT y hy).1) (by decide)) j) ?_ (fun y => ⟨Or.inr, fun h9 => h9.elim (fun e => e ▸ haL) id⟩)
    · obtain ⟨q1, q2⟩ := own _ _ _ _ h9
      refine ⟨Or.inr q1, ?_⟩
      by_cases hya : y9 = a
      · rw [hya, f5a _ (by decide), ← hya]; exact q2
      · rw [f5 y9 hya (nx y9 2 0 (TT _ _ (nodeT y9 q1).1) (by decide))]; exact q2
    · rw [f5a _ (by decide), keep a 2 0 aT (by decide) 0 (fun _ => by decide), ← hK]; exact e4
    · rw [f5a _ (by decide)]; exact ha2
    · exact htb.same (fun j _ => by rw [h2.1])
  · rw [keep5 tp 3 0 r1 (by decide) (by decide) 0 (fun e => absurd e (na3 tp 3 0 r1 (by decide)))]; exact r2
  · rw [keep5 rs 3 0 r5 (by decide) (by decide) 0 (fun e => absurd e (na3 rs 3 0 r5 (by decide)))]; exact r6
  · exact fun j => keep5 tp 3 0 r1 (by decide) (by decide) j (fun e => absurd e (na3 tp 3 0 r1 (by decide)))
  · exact fun j => keep5 rs 3 0 r5 (by decide) (by decide) j (fun e => absurd e (na3 rs 3 0 r5 (by decide)))
theorem ct_changeValue {x me mu hp edge hb t nl tp tb rs rr cap N a : Nat} {l : List ob_bk} {tt : ob_t} {K : ob_k} {key val : List Nat} {L1 L2 : List Nat} (h : ob_O T V B x me mu hp edge hb t nl tp tb rs rr cap N l tt K) (htb : ob_bs B tb 0 (key ++ val)) (hL : ob_ads tt = L1 ++ a :: L2) (hK : (K a).1 = key) (hv : val.length ≤ 512) (hus : sp_us (L1.map K ++ L2.map K) + ob_un (key.length + val.length) ≤ mu) :
    ∃ g, (g = 0 ∨ ((2 * cap ≤ g ∨ g = mu) ∧ cap < g ∧ g ≤ mu)) ∧ ob_C X mX5_changeValue 5 4 (12 + 16 * g) [.ref x, .ref a, .int (nI (key.length + val.length))] (T, V, B, J) (ob_chg T V B J x me mu hp edge t nl tp tb rs rr (if g = 0 then cap else g) N a tt K (key, val)) := by
  obtain ⟨⟨x1, x2, x3, x4, x5, x6, x7, x8⟩, hs, ⟨t1, t2, t3, t4, t5⟩, ⟨en, eo⟩, ⟨r1, r2, r3, r4, r5, r6, r7, r8, r9, r10, r11⟩, n1, n2, n3⟩ := id h
  have nodeT := t1.2.2.2.2.2.1.2
  have haL : a ∈ ob_ads tt := by rw [hL]; simp
  have aT := (nodeT a haL).1
  obtain ⟨e1, e2, e3, e4, e5, b, s, e6, e7, e8⟩ := en a haL
  have hhT := hs.1
  have hlim := hs.2.2.2.2.2.2.2.2.2.2.2
  have emap : (ob_ads tt).map K = L1.map K ++ K a :: L2.map K := by rw [hL, List.map_append, List.map_cons]
  have eu : sp_us ((ob_ads tt).map K) = sp_us (L1.map K ++ L2.map K) + ob_un ((K a).1.length + (K a).2.length) := by rw [emap, sp_us_app]
  obtain ⟨b1, b2, b3, b4⟩ := ob_sg_mem hs.2.2.2.2.2.2.2.2.1.2.1 _ _ _ _ e7
  have til := (ob_til_le hs.2.2.2.2.2.2.2.2.1.2.2.2).2 _ e7
  simp only at til
  rw [hK] at e2 e4 e7 eu til b3
  have hkl : key.length + val.length < 1200 := by omega
  by_cases hsame : ob_un (key.length + (K a).2.length) = ob_un (key.length + val.length)
  · refine ⟨0, Or.inl rfl, ?_⟩
    refine ob_C_of (by decide) rfl (Nat.le_of_ble_eq_true rfl) ?_
    refine og_lv [(0, .ref x), (1, .ref a), (2, .int (nI (key.length + val.length)))] rfl ?_
    refine og_aload_n dX5_changeValue_0 rfl rfl ?_
    refine og_getf dX5_changeValue_1 kfX5_196 (by assumption) (by assumption) ?_
    refine og_getf dX5_changeValue_4 kfX5_202 (by assumption) (by assumption) ?_
    refine og_iload_n dX5_changeValue_7 rfl ?_
    refine og_callSe dX5_changeValue_8 ksX5_78 (ct_unitsOf hkl) rfl rfl ⟨by decide, by decide⟩ (by decide) (by decide) (Nat.le_of_ble_eq_true rfl) rfl ?_
    refine og_icmp_eq (tgt := 41) dX5_changeValue_11 (by decide) (fun _ => ?_) (fun z9 => absurd (by rw [hsame]) z9)
    refine chg_end (l := l) (l2 := l) (hb2 := hb) (b := b) (s := s) h htb hL hK hv (fun _ _ h => h) (fun _ _ _ _ _ _ _ => rfl) ?_ (by rw [← hsame]; exact e7) e6 (fun y hy _ => en y hy) eo ⟨r10, r11⟩ ⟨rfl, rfl⟩ (fun _ _ _ _ _ _ => ⟨rfl, rfl⟩) n3 ⟨by decide, by decide⟩ (by decide) (by decide)
    rw [← hsame, ← eu]
    exact hs
  · obtain ⟨l1, l2, rfl⟩ := List.append_of_mem e7
    refine ⟨_, ob_gr_ok (l := l1 ++ (b, s, ob_un (key.length + (K a).2.length), none) :: l2) (cap := cap) rfl hus, ?_⟩
    generalize hgr : ob_gr (l1 ++ (b, s, ob_un (key.length + (K a).2.length), none) :: l2) mu cap (sp_us (L1.map K ++ L2.map K)) (ob_un (key.length + val.length)) = g
    refine ob_C_of (by decide) rfl (Nat.le_of_ble_eq_true rfl) ?_
    refine og_lv [(0, .ref x), (1, .ref a), (2, .int (nI (key.length + val.length)))] rfl ?_
    refine og_aload_n dX5_changeValue_0 rfl rfl ?_
    refine og_getf dX5_changeValue_1 kfX5_196 (by assumption) (by assumption) ?_
    refine og_getf dX5_changeValue_4 kfX5_202 (by assumption) (by assumption) ?_
    refine og_iload_n dX5_changeValue_7 rfl ?_
    refine og_callSe dX5_changeValue_8 ksX5_78 (ct_unitsOf hkl) rfl rfl ⟨Nat.le_of_ble_eq_true rfl, Nat.le_of_ble_eq_true rfl⟩ (by show 0 + 0 ≤ 4; omega) (by show 0 + 0 ≤ 12 + 16 * g; omega) (Nat.le_of_ble_eq_true rfl) rfl ?_
    have hu1 : ob_un (key.length + val.length) < 1000 := by unfold ob_un; omega
    have hu2 : ob_un (key.length + (K a).2.length) < 1000 := by unfold ob_un; omega
    refine og_icmp_eq (tgt := 41) dX5_changeValue_11 (by decide) (fun z9 => absurd z9 (fun h9 => hsame ((nI_eq (by omega) (by omega)).mp h9))) (fun _ => ?_)
    refine og_aload_n dX5_changeValue_14 rfl rfl ?_
    refine og_getf dX5_changeValue_15 kfX5_22 (by assumption) (by assumption) ?_
    refine og_aload_n dX5_changeValue_18 rfl rfl ?_
    refine og_getf dX5_changeValue_19 kfX5_196 (by assumption) (by assumption) ?_
    refine og_callVn dX5_changeValue_22 kvX5_221 (ct_giveBack hs) rfl hhT rfl rfl ⟨Nat.le_of_ble_eq_true rfl, Nat.le_of_ble_eq_true rfl⟩ (by show 0 + 0 + 0 ≤ 4; omega) (by show 0 + 0 + 0 ≤ 12 + 16 * g; omega) (Nat.le_of_ble_eq_true rfl) rfl (fun E w' h9 => by obtain ⟨_, h9, _⟩ := h9; cases h9) (fun v w' h9 => ?_)
    obtain ⟨V1, hv9, rfl, hle9, ⟨-, g1⟩, hs1⟩ := h9
    cases hv9
    have k1 : ∀ y c z, T y = some (c, z) → 2 ≤ c → ∀ j, V1 y j = V y j := fun y c z hy h2 j => g1 y c z hy (by omega) (fun e => by rw [e, hhT] at hy; cases hy; omega) j
    have y1 : V1 x 1 = .ref hp := by rw [k1 x 5 0 x1 (by decide)]; exact x3
    refine og_aload_n dX5_changeValue_25 rfl rfl ?_
    refine og_aload_n dX5_changeValue_26 rfl rfl ?_
    refine og_getf dX5_changeValue_27 kfX5_22 (by assumption) (by assumption) ?_
    refine og_aload_n dX5_changeValue_30 rfl rfl ?_
    refine og_iload_n dX5_changeValue_31 rfl ?_
    refine og_callSe dX5_changeValue_32 ksX5_78 (ct_unitsOf hkl) rfl rfl ⟨Nat.le_of_ble_eq_true rfl, Nat.le_of_ble_eq_true rfl⟩ (by show 0 + 0 + 0 + 0 ≤ 4; omega) (by show 0 + 0 + 0 + 0 ≤ 12 + 16 * g; omega) (Nat.le_of_ble_eq_true rfl) rfl ?_
    have hu0 : sp_us ((ob_ads tt).map K) - ob_un (key.length + (K a).2.length) = sp_us (L1.map K ++ L2.map K) := by omega
    rw [hu0] at hs1
    have hun : 1 ≤ ob_un (key.length + val.length) := by unfold ob_un; rw [hK] at e1; omega
    have tk := ct_take (X := X) (J := J) (a := a) hs1 hun hus
    rw [hgr] at tk
    refine og_callVn dX5_changeValue_35 kvX5_211 tk rfl hhT rfl rfl ⟨Nat.le_of_ble_eq_true rfl, Nat.le_of_ble_eq_true rfl⟩ (by show 0 + 0 + 0 + 0 + 4 ≤ 4; omega) (by show 0 + 0 + 0 + 0 + (12 + 16 * g) ≤ 12 + 16 * g; omega) (Nat.le_of_ble_eq_true rfl) rfl (fun E w' h9 => by obtain ⟨_, _, _, _, _, _, _, h9, _⟩ := h9; cases h9) (fun v w' h9 => ?_)
    obtain ⟨b', T2, V2, B2, J2, hb2, l3, hv9, rfl, hbb, hs2, tk1, ⟨s', tk2⟩, tk3, tk4, tk5, tk6, tk7⟩ := h9
    cases hv9
    have c2 : ∀ y c z, T y = some (c, z) → 2 ≤ c → ∀ j, V2 y j = V y j := fun y c z hy h2 j => by
      rw [tk1.2 y c z hy (by omega) (fun e => by rw [e, hhT] at hy; cases hy; omega), k1 y c z hy h2]
    have aT2 := tk1.1 _ _ aT
    refine og_put dX5_changeValue_38 kfX5_196 aT2 rfl rfl ?_
    refine og_lv [(0, .ref x), (1, .ref a), (2, .int (nI (key.length + val.length)))] rfl ?_
    have hne : ∀ b2 s2 u2 y, ((b2, s2, u2, some y) : ob_bk) ∈ l1 ++ (b, s, ob_un (key.length + (K a).2.length), none) :: l2 → y ≠ a ∧ ((b2, s2, u2, some y) : ob_bk) ∈ l1 ++ (b, s, ob_un (key.length + (K a).2.length), some a) :: l2 := by
      intro b2 s2 u2 y hm
      have hm2 : ((b2, s2, u2, some y) : ob_bk) ∈ l1 ++ (b, s, ob_un (key.length + (K a).2.length), some a) :: l2 := by
        rcases List.mem_append.mp hm with h | h
        · exact List.mem_append_left _ h
        · rcases List.mem_cons.mp h with h | h
          · cases h
          · exact List.mem_append_right _ (List.mem_cons_of_mem _ h)
      refine ⟨fun e => ?_, hm2⟩
      subst e
      obtain ⟨q1, q2⟩ := eo _ _ _ _ hm2
      rw [e6] at q2
      cases q2
      have := ob_nd_inj (List.nodup_cons.mp hs1.2.2.2.2.2.2.2.2.1.2.2.1).2 _ hm (b, s, ob_un (key.length + (K y).2.length), none) (by simp) rfl
      cases (congrArg (fun z : ob_bk => z.2.2.2) this)
    refine chg_end (l2 := l3) (hb2 := hb2) (b := b') (s := s') h htb hL hK hv tk1.1 (fun y c z hy hc j hj => ?_) (hs2.keep (fun y c z hy hc j => ob_set_a _ _ _ _ _ (fun e => by rw [e, aT2] at hy; cases hy; omega)) hs2.2.2.2.2.2.2.2.1) tk2 (ob_set_s _ _ _ _) (fun y hy hya => ?_) (fun b2 s2 u2 y hm => ?_) ?_ ⟨tk6 _ _ r3 r10.symm, tk6 _ _ r7 r11.symm⟩ (fun y c z hy h6 h7 => ⟨tk6 _ _ hy (fun e => by rw [e, hs.2.2.2.2.2.2.1] at hy; cases hy; exact h7 rfl), tk7 _ _ hy⟩) (by split <;> omega) ⟨Nat.le_of_ble_eq_true rfl, Nat.le_of_ble_eq_true rfl⟩ (by show 0 + 0 + 0 + 0 + 4 ≤ 4; omega) (by show 0 + 0 + 0 + 0 + (12 + 16 * g) ≤ 12 + 16 * g; omega)
    · show ob_set V2 a 2 (.ref b') y j = V y j
      rw [← c2 y c z hy hc j]
      exact if_neg (fun h9 => hj h9.1 h9.2)
    · obtain ⟨q1, q2, q3, q4, q5, b9, s9, q6, q7, q8⟩ := (en y hy).keep (V' := ob_set V2 a 2 (.ref b')) (fun j _ => by rw [ob_set_a _ _ _ _ _ hya]; exact c2 y 2 0 (nodeT y hy).1 (by decide) j)
      have q7' : ((b9, s9, ob_un ((K y).1.length + (K y).2.length), some y) : ob_bk) ∈ l1 ++ (b, s, ob_un (key.length + (K a).2.length), none) :: l2 := by
        rcases List.mem_append.mp q7 with h | h
        · exact List.mem_append_left _ h
        · rcases List.mem_cons.mp h with h | h
          · exact absurd (Option.some.inj (congrArg (fun z : ob_bk => z.2.2.2) h)) hya
          · exact List.mem_append_right _ (List.mem_cons_of_mem _ h)
      obtain ⟨s2, q9, q10⟩ := tk4 _ _ _ _ q7'
      have := ob_un_le ((K y).1.length + (K y).2.length)
      exact ⟨q1, q2, q3, q4, q5, b9, s2, q6, q9, q8.same (fun j hj => q10 j (by rw [List.length_append] at hj; omega))⟩
    · rcases tk5 _ _ _ _ hm with ⟨rfl, rfl, rfl⟩ | ⟨s8, h8⟩
      · exact ⟨haL, ob_set_s _ _ _ _⟩
      · obtain ⟨hya, h7⟩ := hne _ _ _ _ h8
        obtain ⟨q1, q2⟩ := eo _ _ _ _ h7
        exact ⟨q1, by rw [ob_set_a _ _ _ _ _ hya]; show V2 y 2 = _; rw [c2 y 2 0 (nodeT y q1).1 (by decide)]; exact q2⟩
    · rcases hbb with rfl | h9
      · exact ⟨r10, r11⟩
      · exact ⟨fun e => (by rw [e, r3] at h9; cases h9), fun e => (by rw [e, r7] at h9; cases h9)⟩
end OCE
