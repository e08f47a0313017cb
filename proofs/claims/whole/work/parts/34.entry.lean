/-! THE OBJECT: fill, newEntry -/
theorem ob_hs.ext {T T' : ob_T} {V V' : ob_V} {B B' : ob_B} {hp edge hb lim cap used : Nat} {l : List ob_bk} (h : ob_hs T V B hp edge hb lim cap used l) (hT : ∀ x y, T x = some y → T' x = some y) (hV : ∀ x c n, T x = some (c, n) → c < 2 → ∀ j, V' x j = V x j) (hB : sb_Fit (B' hb)) : ob_hs T' V' B' hp edge hb lim cap used l := by
  obtain ⟨h1, h2, h3, h4, h5, h6, h7, h8, ⟨g1, g2, g3, g4⟩, h10, h11, h12⟩ := h
  have e := hV hp 1 0 h1 (by decide)
  refine ⟨hT _ _ h1, by rw [e]; exact h2, by rw [e]; exact h3, by rw [e]; exact h4, by rw [e]; exact h5, by rw [e]; exact h6, hT _ _ h7, hB, ⟨hT _ _ g1, ?_, g3, g4⟩, h10, h11, h12⟩
  rw [hV edge 0 0 g1 (by decide)]
  exact ob_sg_ext hT (ob_sg_congr (fun a ha k => hV a 0 0 (ob_sg_T g2 a ha) (by decide) k) g2)
theorem ob_nd_inj : ∀ {l : List ob_bk}, (l.map (·.1)).Nodup → ∀ e ∈ l, ∀ f ∈ l, e.1 = f.1 → e = f
  | [], _, e, he, _, _, _ => by cases he
  | g :: l, hn, e, he, f, hf, h => by
    obtain ⟨n1, n2⟩ := List.nodup_cons.mp hn
    rcases List.mem_cons.mp he with e1 | he2
    · rcases List.mem_cons.mp hf with f1 | hf2
      · rw [e1, f1]
      · exact absurd (List.mem_map.mpr ⟨f, hf2, by rw [← h, e1]⟩) n1
    · rcases List.mem_cons.mp hf with f1 | hf2
      · exact absurd (List.mem_map.mpr ⟨e, he2, by rw [h, f1]⟩) n1
      · exact ob_nd_inj n2 e he2 f hf2 h
def ob_ku (K : ob_k) (a : Nat) (e : List Nat × List Nat) : ob_k := fun y => if y = a then e else K y
theorem ob_ku_s (K : ob_k) (a : Nat) (e : List Nat × List Nat) : ob_ku K a e a = e := if_pos rfl
theorem ob_ku_n {K : ob_k} {a y : Nat} {e : List Nat × List Nat} (h : y ≠ a) : ob_ku K a e y = K y := if_neg h
theorem ob_ku_map {K : ob_k} {a : Nat} {e : List Nat × List Nat} {L : List Nat} (h : a ∉ L) : L.map (ob_ku K a e) = L.map K := List.map_congr_left (fun y hy => ob_ku_n (fun e => h (e ▸ hy)))
theorem ob_en_fill {V V' : ob_V} {B : ob_B} {hb cap tb a b s : Nat} {l : List ob_bk} {L L' : List Nat} {K : ob_k} {key val : List Nat} (hl : ob_til l 0 cap) (hnd : (l.map (·.1)).Nodup) (hm : ((b, s, ob_un (key.length + val.length), some a) : ob_bk) ∈ l)
    (oth : ∀ y ∈ L, y ≠ a → ob_e1 V B hb l y (K y)) (own : ∀ b s u y, ((b, s, u, some y) : ob_bk) ∈ l → (y = a ∨ y ∈ L) ∧ V' y 2 = .ref b) (len : 1 ≤ key.length ∧ key.length ≤ 64 ∧ val.length ≤ 512) (v0 : V' a 0 = .int (nI key.length)) (v1 : V' a 1 = .int (nI val.length)) (v2 : V' a 2 = .ref b)
    (hV : ∀ y ∈ L, y ≠ a → ∀ j, j < 3 → V' y j = V y j) (htb : ob_bs B tb 0 (key ++ val)) (hL : ∀ y, y ∈ L' ↔ y = a ∨ y ∈ L) : ob_en V' (ob_row B hb (va_cpy (B tb) (B hb) 0 (16 * s) (key.length + val.length))) hb l L' (ob_ku K a (key, val)) := by
  refine ⟨fun y hy => ?_, fun b s u y h9 => ⟨(hL y).mpr (own b s u y h9).1, (own b s u y h9).2⟩⟩
  have hc : ∀ j, ob_row B hb (va_cpy (B tb) (B hb) 0 (16 * s) (key.length + val.length)) hb j = if 16 * s ≤ j ∧ j < 16 * s + (key.length + val.length) then B tb (0 + (j - 16 * s)) else B hb j := fun j => by simp [ob_row, va_cpy]
  by_cases hya : y = a
  · subst hya
    rw [ob_ku_s]
    refine ⟨len.1, len.2.1, len.2.2, v0, v1, b, s, v2, hm, htb.same (fun j hj => ?_)⟩
    rw [List.length_append] at hj
    rw [hc, if_pos (by omega)]
    congr 1
    omega
  · have hyL := ((hL y).mp hy).resolve_left hya
    rw [ob_ku_n hya]
    obtain ⟨h1, h2, h3, h4, h5, b', s', h6, h7, h8⟩ := (oth y hyL hya).keep (hV y hyL hya)
    refine ⟨h1, h2, h3, h4, h5, b', s', h6, h7, h8.same (fun j hj => ?_)⟩
    rw [List.length_append] at hj
    have hbb : b' ≠ b := fun e => by
      have := congrArg (fun z : ob_bk => z.2.2.2) (ob_nd_inj hnd _ h7 _ hm e)
      exact hya (Option.some.inj this)
    have hd := ob_til_dj hl _ h7 _ hm hbb
    have u1 := ob_un_le ((K y).1.length + (K y).2.length)
    have u2 := ob_un_le (key.length + val.length)
    simp only at hd
    rw [hc, if_neg (by omega)]
/-- what the calls leave as it is: objects of the other classes -/
def ob_WX (T : ob_T) (V : ob_V) (B : ob_B) (J : ob_J) (T' : ob_T) (V' : ob_V) (B' : ob_B) (J' : ob_J) : Prop := (∀ a y, T a = some y → T' a = some y) ∧ ∀ a c n, T a = some (c, n) → 6 ≤ c → c ≠ 7 → (∀ k, V' a k = V a k) ∧ B' a = B a ∧ J' a = J a
theorem ob_WX.tr {T T' T2 : ob_T} {V V' V2 : ob_V} {B B' B2 : ob_B} {J J' J2 : ob_J} (h : ob_WX T V B J T' V' B' J') (g : ob_WX T' V' B' J' T2 V2 B2 J2) : ob_WX T V B J T2 V2 B2 J2 := by
  refine ⟨fun a y h9 => g.1 a y (h.1 a y h9), fun a c n h9 h8 h7 => ?_⟩
  obtain ⟨h1, h2, h3⟩ := h.2 a c n h9 h8 h7
  obtain ⟨g1, g2, g3⟩ := g.2 a c n (h.1 _ _ h9) h8 h7
  exact ⟨fun k => (g1 k).trans (h1 k), g2.trans h2, g3.trans h3⟩
section OCB
variable {X : ob_X} {T : ob_T} {V : ob_V} {B : ob_B} {J : ob_J} {R : Room} {Q : ob_r → ob_w → Prop} {k n : Nat}
theorem ct_fill {x me hp edge hb mu cap used tp tb a b s u kl len vb : Nat} {l : List ob_bk} (hx : T x = some (5, 0)) (x1 : V x 1 = .ref hp) (x3 : V x 3 = .ref tp) (x7 : V x 7 = .int (nI vb)) (ha : T a = some (2, 0)) (a0 : V a 0 = .int (nI kl)) (a2 : V a 2 = .ref b) (hs : ob_hs T V B hp edge hb mu cap used l) (hb0 : T b = some (0, 0)) (hbs : V b 0 = .int (nI s)) (hsu : s + u ≤ cap) (hlu : len ≤ 16 * u) (r1 : T tp = some (3, 0)) (r2 : V tp 0 = .ref tb) (r3 : T tb = some (7, 600)) (r4 : sb_Fit (B tb)) (hk : kl ≤ len) (hlen : len ≤ 600) :
    ob_C X mX5_fill 3 0 0 [.ref x, .ref a, .int (nI len)] (T, V, B, J) (ob_e none (T, ob_set (ob_set V a 1 (.int (nI (len - kl)))) x 7 (.int (nI (vb + (len - kl)))), ob_row B hb (va_cpy (B tb) (B hb) 0 (16 * s) len), J)) := by
  refine ob_C_of (by decide) rfl (Nat.le_of_ble_eq_true rfl) ?_
  have hhT := hs.1
  have hax : a ≠ x := fun e => by rw [e, hx] at ha; cases ha
  refine og_lv [(0, .ref x), (1, .ref a), (2, .int (nI len))] rfl ?_
  refine og_aload_n dX5_fill_0 rfl rfl ?_
  refine og_getf dX5_fill_1 kfX5_22 (by assumption) (by assumption) ?_
  refine og_aload_n dX5_fill_4 rfl rfl ?_
  refine og_getf dX5_fill_5 kfX5_196 (by assumption) (by assumption) ?_
  refine og_aload_n dX5_fill_8 rfl rfl ?_
  refine og_getf dX5_fill_9 kfX5_38 (by assumption) (by assumption) ?_
  refine og_iload_n dX5_fill_12 rfl ?_
  refine og_callVe dX5_fill_13 kvX5_226 (ct_write (u := u) (o := none) hs hb0 hbs hsu r1 r2 r3 (by omega) r4 hlen hlu) rfl hhT rfl rfl ⟨by decide, by decide⟩ (by decide) (by decide) (Nat.le_of_ble_eq_true rfl) rfl ?_
  refine og_aload_n dX5_fill_16 rfl rfl ?_
  refine og_iload_n dX5_fill_17 rfl ?_
  refine og_aload_n dX5_fill_18 rfl rfl ?_
  refine og_getf dX5_fill_19 kfX5_230 (by assumption) (by assumption) ?_
  refine og_isub dX5_fill_22 ?_
  refine og_st [.int (nI (len - kl)), .ref a] (by rw [nI_sub hk]; rfl) ?_
  refine og_put dX5_fill_23 kfX5_225 (by assumption) rfl rfl ?_
  have y7 : ob_set V a 1 (.int (nI (len - kl))) x 7 = .int (nI vb) := by rw [ob_set_a _ _ _ _ _ hax.symm]; exact x7
  have y1 : ob_set V a 1 (.int (nI (len - kl))) a 1 = .int (nI (len - kl)) := ob_set_s _ _ _ _
  refine og_aload_n dX5_fill_26 rfl rfl ?_
  refine og_dup dX5_fill_27 rfl ?_
  refine og_getf dX5_fill_28 kfX5_161 (by assumption) (by assumption) ?_
  refine og_aload_n dX5_fill_31 rfl rfl ?_
  refine og_getf dX5_fill_32 kfX5_225 (by assumption) (by assumption) ?_
  refine og_iadd dX5_fill_35 ?_
  refine og_st [.int (nI (vb + (len - kl))), .ref x] (by rw [nI_add]) ?_
  refine og_put dX5_fill_36 kfX5_161 (by assumption) rfl rfl ?_
  exact og_return rfl dX5_fill_39 (by decide) (by decide) ⟨rfl, rfl⟩
theorem ct_newEntry {x me mu hp edge hb t nl tp tb rs rr cap N kl g : Nat} {l : List ob_bk} {tt : ob_t} {K : ob_k} {full : List Nat} (h : ob_O T V B x me mu hp edge hb t nl tp tb rs rr cap N l tt K) (htb : ob_bs B tb 0 full) (hk1 : 1 ≤ kl) (hk2 : kl ≤ 64) (hk3 : kl ≤ full.length) (hv : full.length - kl ≤ 512) (hlen : full.length ≤ 600) (hne : ∀ y ∈ ob_ads tt, (K y).1 ≠ full.take kl) (hus : sp_us ((ob_ads tt).map K) + ob_un full.length ≤ mu) (hsz : (ob_ads tt).length < me) (hgr : ob_gr l mu cap (sp_us ((ob_ads tt).map K)) (ob_un full.length) = g) :
    ob_C X mX5_newEntry 6 5 (20 + 16 * g) [.ref x, .int (nI kl), .int (nI full.length)] (T, V, B, J) (fun r w' => ∃ a T' V' B' J' hb' N' l' tt' L1 L2, r = .inl (some (.ref a)) ∧ w' = (T', V', B', J') ∧ T a = none ∧ ob_WX T V B J T' V' B' J' ∧ ob_O T' V' B' x me mu hp edge hb' t nl tp tb rs rr (if g = 0 then cap else g) N' l' tt' (ob_ku K a (full.take kl, full.drop kl)) ∧ ob_ads tt = L1 ++ L2 ∧ ob_ads tt' = L1 ++ a :: L2 ∧ (∀ y ∈ L1, ob_cmp (K y).1 (full.take kl) < 0) ∧ (∀ y ∈ L2, ob_cmp (full.take kl) (K y).1 < 0) ∧ ((∀ j, V' tp j = V tp j) ∧ (∀ j, V' rs j = V rs j) ∧ B' tb = B tb ∧ B' rr = B rr ∧ V' x 5 = V x 5)) := by
  refine ob_C_of (by decide) rfl (Nat.le_of_ble_eq_true rfl) ?_
  obtain ⟨⟨x1, x2, x3, x4, x5, x6, x7, x8⟩, hs, ⟨t1, t2, t3, t4, t5⟩, ⟨en, eo⟩, ⟨r1, r2, r3, r4, r5, r6, r7, r8, r9, r10, r11⟩, n1, n2, n3⟩ := id h
  have hlim := hs.2.2.2.2.2.2.2.2.2.2.2
  refine og_lv [(0, .ref x), (1, .int (nI kl)), (2, .int (nI full.length))] rfl ?_
  refine og_new dX5_newEntry_0 kc2 klX5_197 kn2 kt2 ob_fs2_ok (by show 0 + 1 ≤ 5; omega) (by show 0 + 8 ≤ 20 + 16 * g; omega) (fun a ha _ => ?_)
  have ha : T a = none := ha
  obtain ⟨nT1, nT2⟩ := ob_new_ext (c := 2) (n := 0) ha
  have ne : ∀ y z, T y = some z → y ≠ a := fun y z hy e => by rw [e, ha] at hy; cases hy
  generalize hT1 : ob_new T a 2 0 = T1 at *
  refine og_dup dX5_newEntry_3 rfl ?_
  refine og_iload_n dX5_newEntry_4 rfl ?_
  refine og_callIe dX5_newEntry_5 kiX5_210 (ct_Node nT2) rfl rfl ⟨Nat.le_of_ble_eq_true rfl, Nat.le_of_ble_eq_true rfl⟩ (by show 0 + 1 + 0 ≤ 5; omega) (by show 0 + 8 + 0 ≤ 20 + 16 * g; omega) (Nat.le_of_ble_eq_true rfl) ?_
  generalize hV1 : ob_set (ob_row V a ob_fs2) a 0 (.int (nI kl)) = V1
  have f1 : ∀ y, y ≠ a → ∀ j, V1 y j = V y j := fun y hy j => by rw [← hV1]; simp [ob_set, ob_row, hy]
  have a0 : V1 a 0 = .int (nI kl) := by rw [← hV1]; simp [ob_set]
  have fT : ∀ y z, T y = some z → ∀ j, V1 y j = V y j := fun y z hy => f1 y (ne y z hy)
  refine og_w (T1, V1, B, J) (by rw [← hV1]) ?_
  have xT1 := nT1 _ _ x1
  have z1 : V1 x 1 = .ref hp := by rw [fT x _ x1]; exact x3
  refine og_astore_n dX5_newEntry_8 (by decide) rfl ?_
  refine og_aload_n dX5_newEntry_9 rfl rfl ?_
  refine og_aload_n dX5_newEntry_10 rfl rfl ?_
  refine og_getf dX5_newEntry_11 kfX5_22 (by assumption) (by assumption) ?_
  refine og_aload_n dX5_newEntry_14 rfl rfl ?_
  refine og_iload_n dX5_newEntry_15 rfl ?_
  refine og_callSe dX5_newEntry_16 ksX5_78 (ct_unitsOf (by omega)) rfl rfl ⟨Nat.le_of_ble_eq_true rfl, Nat.le_of_ble_eq_true rfl⟩ (by show 0 + 1 + 0 + 0 ≤ 5; omega) (by show 0 + 8 + 0 + 0 ≤ 20 + 16 * g; omega) (Nat.le_of_ble_eq_true rfl) rfl ?_
  have hs1 : ob_hs T1 V1 B hp edge hb mu cap (sp_us ((ob_ads tt).map K)) l := hs.ext nT1 (fun y c z hy _ => fT y _ hy) hs.2.2.2.2.2.2.2.1
  have hun : 1 ≤ ob_un full.length := by unfold ob_un; omega
  have tk := ct_take (X := X) (J := J) (a := a) hs1 hun hus
  rw [hgr] at tk
  refine og_callVn dX5_newEntry_19 kvX5_211 tk rfl (nT1 _ _ hs.1) rfl rfl ⟨Nat.le_of_ble_eq_true rfl, Nat.le_of_ble_eq_true rfl⟩ (by show 0 + 1 + 0 + 0 + 4 ≤ 5; omega) (by show 0 + 8 + 0 + 0 + (12 + 16 * g) ≤ 20 + 16 * g; omega) (Nat.le_of_ble_eq_true rfl) rfl (fun E w' h9 => by obtain ⟨_, _, _, _, _, _, _, h9, _⟩ := h9; cases h9) (fun v w' h9 => ?_)
  obtain ⟨b, T2, V2, B2, J2, hb2, l2, hv9, rfl, hbb, hs2, tk1, ⟨s, tk2⟩, tk3, tk4, tk5, tk6, tk7⟩ := h9
  cases hv9
  generalize hc2 : (if g = 0 then cap else g) = cap2 at *
  have TT : ∀ y z, T y = some z → T2 y = some z := fun y z hy => tk1.1 _ _ (nT1 _ _ hy)
  have aT2 := tk1.1 _ _ nT2
  have xT2 := TT _ _ x1
  have hpT2 := TT _ _ hs.1
  have c2 : ∀ y c z, T1 y = some (c, z) → c ≠ 0 → c ≠ 1 → ∀ j, V2 y j = V1 y j := fun y c z hy h0 h1 => tk1.2 y c z hy h0 (fun e => by rw [e, nT1 _ _ hs.1] at hy; cases hy; exact h1 rfl)
  have hne5 : ∀ y c z, T2 y = some (c, z) → c ≠ 5 → y ≠ x := fun y c z hy hc e => by rw [e, xT2] at hy; cases hy; exact hc rfl
  have hne2 : ∀ y c z, T2 y = some (c, z) → c ≠ 2 → y ≠ a := fun y c z hy hc e => by rw [e, aT2] at hy; cases hy; exact hc rfl
  have xa := hne2 _ _ _ xT2 (by decide)
  have w6 : ob_set V2 a 2 (.ref b) x 6 = .int (nI (sp_kb ((ob_ads tt).map K))) := by rw [ob_set_a _ _ _ _ _ xa, c2 x 5 0 xT1 (by decide) (by decide), fT x _ x1]; exact x7
  refine og_put dX5_newEntry_22 kfX5_196 (by assumption) rfl rfl ?_
  refine og_aload_n dX5_newEntry_25 rfl rfl ?_
  refine og_dup dX5_newEntry_26 rfl ?_
  refine og_getf dX5_newEntry_27 kfX5_158 (by assumption) (by assumption) ?_
  refine og_iload_n dX5_newEntry_30 rfl ?_
  refine og_iadd dX5_newEntry_31 ?_
  refine og_st [.int (nI (sp_kb ((ob_ads tt).map K) + kl)), .ref x] (by rw [nI_add]) ?_
  refine og_put dX5_newEntry_32 kfX5_158 (by assumption) rfl rfl ?_
  generalize hV4 : ob_set (ob_set V2 a 2 (.ref b)) x 6 (.int (nI (sp_kb ((ob_ads tt).map K) + kl))) = V4
  have f4 : ∀ y, y ≠ a → y ≠ x → ∀ j, V4 y j = V2 y j := fun y h1 h2 j => by rw [← hV4]; simp [ob_set, h1, h2]
  have f4x : ∀ j, j ≠ 6 → V4 x j = V x j := fun j hj => by rw [← fT x _ x1 j, ← c2 x 5 0 xT1 (by decide) (by decide), ← hV4]; simp [ob_set, xa, hj]
  have f4x6 : V4 x 6 = .int (nI (sp_kb ((ob_ads tt).map K) + kl)) := by rw [← hV4]; simp [ob_set]
  have f4a2 : V4 a 2 = .ref b := by rw [← hV4]; simp [ob_set, xa.symm]
  have f4a : ∀ j, j ≠ 2 → V4 a j = V1 a j := fun j hj => by rw [← c2 a 2 0 nT2 (by decide) (by decide), ← hV4]; simp [ob_set, xa.symm, hj]
  have hs4 : ob_hs T2 V4 B2 hp edge hb2 mu cap2 (sp_us ((ob_ads tt).map K) + ob_un full.length) l2 := hs2.keep (fun y c z hy hc => f4 y (hne2 y c z hy (by omega)) (hne5 y c z hy (by omega))) hs2.2.2.2.2.2.2.2.1
  obtain ⟨b1, b2, b3, b4⟩ := ob_sg_mem hs4.2.2.2.2.2.2.2.2.1.2.1 _ _ _ _ tk2
  have til := (ob_til_le hs4.2.2.2.2.2.2.2.2.1.2.2.2).2 _ tk2
  have keep4 : ∀ y c z, T y = some (c, z) → 2 ≤ c → c ≠ 5 → ∀ j, V4 y j = V y j := fun y c z hy h2 h5 j => by
    rw [f4 y (ne _ _ hy) (hne5 y c z (TT _ _ hy) h5), c2 y c z (nT1 _ _ hy) (by omega) (by omega), fT y _ hy]
  have tbhb : tb ≠ hb2 := by
    rcases hbb with rfl | h9
    · exact r10.symm
    · intro e
      rw [← e, nT1 _ _ r3] at h9
      cases h9
  have rrhb : rr ≠ hb2 := by
    rcases hbb with rfl | h9
    · exact r11.symm
    · intro e
      rw [← e, nT1 _ _ r7] at h9
      cases h9
  have tbB : B2 tb = B tb := tk6 _ _ (nT1 _ _ r3) r10.symm
  have rrB : B2 rr = B rr := tk6 _ _ (nT1 _ _ r7) r11.symm
  refine og_w (T2, V4, B2, J2) (by rw [← hV4]) ?_
  refine og_aload_n dX5_newEntry_35 rfl rfl ?_
  refine og_aload_n dX5_newEntry_36 rfl rfl ?_
  refine og_iload_n dX5_newEntry_37 rfl ?_
  have hle9 := ob_un_le full.length
  refine og_callVe dX5_newEntry_38 kvX5_215 (ct_fill (me := me) (u := ob_un full.length) (kl := kl) (vb := sp_vb ((ob_ads tt).map K)) xT2 (by rw [f4x _ (by decide)]; exact x3) (by rw [f4x _ (by decide)]; exact x5) (by rw [f4x _ (by decide)]; exact x8) aT2 (by rw [f4a _ (by decide)]; exact a0) f4a2 hs4 b1 b2 (by simp only at til; omega) hle9 (TT _ _ r1) (by rw [keep4 tp 3 0 r1 (by decide) (by decide)]; exact r2) (TT _ _ r3) (by rw [tbB]; exact r4) hk3 hlen) rfl xT2 rfl rfl ⟨Nat.le_of_ble_eq_true rfl, Nat.le_of_ble_eq_true rfl⟩ (by show 0 + 1 + 0 + 0 + 4 + 0 ≤ 5; omega) (by show 0 + 8 + 0 + 0 + (12 + 16 * g) + 0 ≤ 20 + 16 * g; omega) (Nat.le_of_ble_eq_true rfl) rfl ?_
  generalize hV5 : ob_set (ob_set V4 a 1 (.int (nI (full.length - kl)))) x 7 (.int (nI (sp_vb ((ob_ads tt).map K) + (full.length - kl)))) = V5
  have f5 : ∀ y, y ≠ a → y ≠ x → ∀ j, V5 y j = V4 y j := fun y h1 h2 j => by rw [← hV5]; simp [ob_set, h1, h2]
  have f5x : ∀ j, j ≠ 7 → V5 x j = V4 x j := fun j hj => by rw [← hV5]; simp [ob_set, xa, hj]
  have f5x7 : V5 x 7 = .int (nI (sp_vb ((ob_ads tt).map K) + (full.length - kl))) := by rw [← hV5]; simp [ob_set]
  have f5a1 : V5 a 1 = .int (nI (full.length - kl)) := by rw [← hV5]; simp [ob_set, xa.symm]
  have f5a : ∀ j, j ≠ 1 → V5 a j = V4 a j := fun j hj => by rw [← hV5]; simp [ob_set, xa.symm, hj]
  have hkey : (full.take kl).length = kl := by rw [List.length_take]; omega
  have hval : (full.drop kl).length = full.length - kl := List.length_drop
  have hfl : (full.take kl).length + (full.drop kl).length = full.length := by rw [hkey, hval]; omega
  generalize hkk : full.take kl = key at *
  generalize hvv : full.drop kl = val at *
  have hkv : key ++ val = full := by rw [← hkk, ← hvv]; exact List.take_append_drop _ _
  generalize hB5 : ob_row B2 hb2 (va_cpy (B2 tb) (B2 hb2) 0 (16 * s) full.length) = B5
  have hs5 : ob_hs T2 V5 B5 hp edge hb2 mu cap2 (sp_us ((ob_ads tt).map K) + ob_un full.length) l2 := hs4.keep (fun y c z hy hc => f5 y (hne2 y c z hy (by omega)) (hne5 y c z hy (by omega))) (by
    have : B5 hb2 = va_cpy (B2 tb) (B2 hb2) 0 (16 * s) full.length := by rw [← hB5]; simp [ob_row]
    rw [this]
    exact sb_fitC (by rw [tbB]; exact r4) hs4.2.2.2.2.2.2.2.1)
  have keep5 : ∀ y c z, T y = some (c, z) → 2 ≤ c → c ≠ 5 → ∀ j, V5 y j = V y j := fun y c z hy h2 h5 j => by
    rw [f5 y (ne _ _ hy) (hne5 y c z (TT _ _ hy) h5)]; exact keep4 y c z hy h2 h5 j
  have nodeT := t1.2.2.2.2.2.1.2
  have haL : a ∉ ob_ads tt := fun h9 => ne _ _ (nodeT a h9).1 rfl
  have en5 : ob_en V5 B5 hb2 l2 (a :: ob_ads tt) (ob_ku K a (key, val)) := by
    rw [← hB5, ← hfl]
    refine ob_en_fill (V := V4) (L := ob_ads tt) hs5.2.2.2.2.2.2.2.2.1.2.2.2 (List.nodup_cons.mp hs5.2.2.2.2.2.2.2.2.1.2.2.1).2 (by rw [hfl]; exact tk2) (fun y hy _ => ?_) (fun b9 s9 u9 y9 h9 => ?_) ⟨by omega, by omega, by omega⟩ ?_ ?_ ?_ (fun y hy hya j _ => f5 y hya (hne5 y 2 0 (TT _ _ (nodeT y hy).1) (by decide)) j) ?_ (fun y => by rw [List.mem_cons])
    · obtain ⟨q1, q2, q3, q4, q5, b', s', q6, q7, q8⟩ := (en y hy).keep (V' := V4) (fun j _ => keep4 y 2 0 (nodeT y hy).1 (by decide) (by decide) j)
      obtain ⟨s2, q9, q10⟩ := tk4 _ _ _ _ q7
      have := ob_un_le ((K y).1.length + (K y).2.length)
      exact ⟨q1, q2, q3, q4, q5, b', s2, q6, q9, q8.same (fun j hj => q10 j (by rw [List.length_append] at hj; omega))⟩
    · rcases tk5 _ _ _ _ h9 with ⟨rfl, rfl, rfl⟩ | ⟨s8, h8⟩
      · exact ⟨Or.inl rfl, by rw [f5a _ (by decide)]; exact f4a2⟩
      · obtain ⟨q1, q2⟩ := eo _ _ _ _ h8
        exact ⟨Or.inr q1, by rw [keep5 y9 2 0 (nodeT y9 q1).1 (by decide) (by decide)]; exact q2⟩
    · rw [f5a _ (by decide), f4a _ (by decide), a0, hkey]
    · rw [f5a1, hval]
    · rw [f5a _ (by decide)]; exact f4a2
    · rw [hkv]
      exact htb.same (fun j _ => by rw [tbB])
  have ns5 : ∀ y ∈ a :: ob_ads tt, ob_nd T2 V5 B5 hb2 cap2 y (ob_ku K a (key, val) y).1 (ob_ku K a (key, val) y).2 ∧ (ob_ku K a (key, val) y).1.length ≤ 64 := by
    intro y hy
    refine ⟨(en5.1 y hy).nd hs5 ?_, (en5.1 y hy).2.1⟩
    rcases List.mem_cons.mp hy with rfl | hy
    · exact aT2
    · exact TT _ _ (nodeT y hy).1
  have kmap : (ob_ads tt).map (ob_ku K a (key, val)) = (ob_ads tt).map K := ob_ku_map haL
  have tr5 : ob_tr T2 V5 t nl tt := t1.keep TT (fun y c z hy h9 j _ => keep5 y c z hy (by
    rcases h9 with rfl | rfl
    · rw [t1.1] at hy; cases hy; decide
    · decide) (by
    rcases h9 with rfl | rfl
    · rw [t1.1] at hy; cases hy; decide
    · decide) j)
  have tT2 := TT _ _ t1.1
  refine og_w (T2, V5, B5, J2) (by rw [← hV5, ← hB5]) ?_
  have y2 : V5 x 2 = .ref t := by rw [f5x _ (by decide), f4x _ (by decide)]; exact x4
  refine og_aload_n dX5_newEntry_41 rfl rfl ?_
  refine og_getf dX5_newEntry_42 kfX5_31 (by assumption) (by assumption) ?_
  refine og_aload_n dX5_newEntry_45 rfl rfl ?_
  have so5 : ob_so (ob_ku K a (key, val)) (ob_ads tt) := by rw [← sp_so_of, kmap, sp_so_of]; exact t5
  have hk9 : ob_ku K a (key, val) a = (key, val) := ob_ku_s _ _ _
  have ks : ∀ y ∈ ob_ads tt, ob_ku K a (key, val) y = K y := fun y hy => ob_ku_n (fun e => haL (e ▸ hy))
  refine og_callVn dX5_newEntry_46 kvX5_218 (ct_link (K := ob_ku K a (key, val)) tr5 (by rw [keep5 t 4 0 t1.1 (by decide) (by decide)]; exact t2) ⟨hs5.1, hs5.2.2.2.2.2.1, hs5.2.2.2.2.2.2.1, by have := hs5.2.2.2.2.2.2.2.2.2.2.1; omega⟩ (ns5 a (by simp)).1 (ns5 a (by simp)).2 (fun e => ne _ _ t1.2.2.2.1.1 e.symm) haL (fun y hy => ns5 y (List.mem_cons_of_mem _ hy)) (fun y hy => by rw [hk9, ks y hy]; exact hne y hy) t3 t4 (by rw [ob_siz_len]; omega) so5) rfl tT2 rfl rfl ⟨Nat.le_of_ble_eq_true rfl, Nat.le_of_ble_eq_true rfl⟩ (by show 0 + 1 + 0 + 0 + 4 + 0 + 0 ≤ 5; omega) (by show 0 + 8 + 0 + 0 + (12 + 16 * g) + 0 + 0 ≤ 20 + 16 * g; omega) (Nat.le_of_ble_eq_true rfl) rfl (fun E w' h9 => by cases h9.1) (fun v w' h9 => ?_)
  obtain ⟨hv9, V6, tt6, N6, L1, L2, rfl, i1, i2, i3, i4, i5, i6, i7, i8⟩ := h9
  cases hv9
  refine og_aload_n dX5_newEntry_49 rfl rfl ?_
  have k6 : ∀ y, y ≠ t → y ∉ a :: ob_ads tt → ∀ j, V6 y j = V5 y j := fun y h1 h2 j => i8 y j (fun h9 => h9.elim (fun h => h1 h.1) (fun h => h2 h.1))
  have k6n : ∀ y, y ≠ t → ∀ j, j < 3 → V6 y j = V5 y j := fun y h1 j hj => i8 y j (fun h9 => h9.elim (fun h => h1 h.1) (fun h => by omega))
  have nn : ∀ y c z, T2 y = some (c, z) → c ≠ 2 → y ∉ a :: ob_ads tt := fun y c z hy hc h9 => by
    have : T2 y = some (2, 0) := by
      rcases List.mem_cons.mp h9 with rfl | h9
      · exact aT2
      · exact TT _ _ (nodeT y h9).1
    rw [hy] at this; cases this; exact hc rfl
  have nt : ∀ y c z, T2 y = some (c, z) → c ≠ 4 → y ≠ t := fun y c z hy hc e => by rw [e, tT2] at hy; cases hy; exact hc rfl
  have kx : ∀ j, V6 x j = V5 x j := k6 x (nt _ _ _ xT2 (by decide)) (nn _ _ _ xT2 (by decide))
  have keep6 : ∀ y c z, T y = some (c, z) → 2 ≤ c → c ≠ 5 → c ≠ 2 → c ≠ 4 → ∀ j, V6 y j = V y j := fun y c z hy h2 h5 h3 h4 j => by
    rw [k6 y (nt _ _ _ (TT _ _ hy) h4) (nn _ _ _ (TT _ _ hy) h3)]; exact keep5 y c z hy h2 h5 j
  have nm1 : a ∉ L1 := fun h9 => haL (by rw [i4]; exact List.mem_append_left _ h9)
  have nm2 : a ∉ L2 := fun h9 => haL (by rw [i4]; exact List.mem_append_right _ h9)
  have emap : (ob_ads tt6).map (ob_ku K a (key, val)) = L1.map K ++ (key, val) :: L2.map K := by
    rw [i5, List.map_append, List.map_cons, hk9, ob_ku_map nm1, ob_ku_map nm2]
  have emap0 : (ob_ads tt).map K = L1.map K ++ L2.map K := by rw [i4, List.map_append]
  have tbB5 : B5 tb = B tb := by rw [← tbB, ← hB5]; simp [ob_row, tbhb]
  have rrB5 : B5 rr = B rr := by rw [← rrB, ← hB5]; simp [ob_row, rrhb]
  refine og_areturn rfl (Or.inl ⟨_, rfl⟩) (Or.inr ⟨_, rfl⟩) dX5_newEntry_50 (by show 0 + 1 + 0 + 0 + 4 + 0 + 0 ≤ 5; omega) (by show 0 + 8 + 0 + 0 + (12 + 16 * g) + 0 + 0 ≤ 20 + 16 * g; omega) ⟨a, T2, V6, B5, J2, hb2, N6, l2, tt6, L1, L2, rfl, rfl, ha, ⟨TT, fun y c z hy h6 h7 => ⟨keep6 y c z hy (by omega) (by omega) (by omega) (by omega), ?_, tk7 _ _ (nT1 _ _ hy)⟩⟩, ⟨⟨xT2, ?_, ?_, ?_, ?_, ?_, ?_, ?_⟩, ?_, ⟨i1, ?_, i2, i3, ?_⟩, ?_, ⟨TT _ _ r1, ?_, TT _ _ r3, by rw [tbB5]; exact r4, TT _ _ r5, ?_, TT _ _ r7, r8, r9, tbhb.symm, rrhb.symm⟩, ?_, n2, ?_⟩, i4, i5, ?_, ?_, keep6 tp 3 0 r1 (by decide) (by decide) (by decide) (by decide), keep6 rs 3 0 r5 (by decide) (by decide) (by decide) (by decide), tbB5, rrB5, ?_⟩
  · have e1 : y ≠ hb2 := fun e => by have := TT _ _ hy; rw [e, hs2.2.2.2.2.2.2.1] at this; cases this; exact h7 rfl
    have e2 : y ≠ hb := fun e => by rw [e, hs.2.2.2.2.2.2.1] at hy; cases hy; exact h7 rfl
    rw [← hB5]
    simp only [ob_row, if_neg e1]
    exact tk6 _ _ (nT1 _ _ hy) e2
  · rw [kx, f5x _ (by decide), f4x _ (by decide)]; exact x2
  · rw [kx, f5x _ (by decide), f4x _ (by decide)]; exact x3
  · rw [kx, f5x _ (by decide), f4x _ (by decide)]; exact x4
  · rw [kx, f5x _ (by decide), f4x _ (by decide)]; exact x5
  · rw [kx, f5x _ (by decide), f4x _ (by decide)]; exact x6
  · rw [kx, f5x _ (by decide), f4x6, emap, sp_kb_app, ← emap0, hkey]
  · rw [kx, f5x7, emap, sp_vb_app, ← emap0, hval]
  · rw [emap, sp_us_app, ← emap0, hfl]
    exact hs5.keep (fun y c z hy hc => k6 y (nt _ _ _ hy (by omega)) (nn _ _ _ hy (by omega))) hs5.2.2.2.2.2.2.2.1
  · rw [i8 t 0 (fun h9 => h9.elim (fun h => by omega) (fun h => by omega)), keep5 t 4 0 t1.1 (by decide) (by decide)]; exact t2
  · rw [← sp_so_of, emap]
    have so0 := sp_so_of.mpr t5
    rw [emap0] at so0
    unfold sp_so at so0 ⊢
    rw [List.pairwise_append] at so0 ⊢
    refine ⟨so0.1, List.pairwise_cons.mpr ⟨fun e he => ?_, so0.2.1⟩, fun e he f hf => ?_⟩
    · obtain ⟨y, hy, rfl⟩ := List.mem_map.mp he
      have := i7 y hy
      rw [hk9, ks y (by rw [i4]; exact List.mem_append_right _ hy)] at this
      exact this
    · rcases List.mem_cons.mp hf with rfl | hf
      · obtain ⟨y, hy, rfl⟩ := List.mem_map.mp he
        have := i6 y hy
        rw [hk9, ks y (by rw [i4]; exact List.mem_append_left _ hy)] at this
        exact this
      · exact so0.2.2 e he f hf
  · refine en5.keep (fun y => ?_) (fun y hy j hj => k6n y ?_ j hj)
    · rw [i5, i4]; simp only [List.mem_append, List.mem_cons]; grind
    · rcases List.mem_cons.mp hy with rfl | hy
      · exact nt _ _ _ aT2 (by decide)
      · exact nt _ _ _ (TT _ _ (nodeT y hy).1) (by decide)
  · rw [keep6 tp 3 0 r1 (by decide) (by decide) (by decide) (by decide)]; exact r2
  · rw [keep6 rs 3 0 r5 (by decide) (by decide) (by decide) (by decide)]; exact r6
  · rw [i5]; rw [i4] at hsz; simp only [List.length_append, List.length_cons] at hsz ⊢; omega
  · rw [← hc2]; split <;> omega
  · intro y hy
    have := i6 y hy
    rw [hk9, ks y (by rw [i4]; exact List.mem_append_left _ hy)] at this
    exact this
  · intro y hy
    have := i7 y hy
    rw [hk9, ks y (by rw [i4]; exact List.mem_append_right _ hy)] at this
    exact this
  · rw [kx, f5x _ (by decide), f4x _ (by decide)]
end OCB
