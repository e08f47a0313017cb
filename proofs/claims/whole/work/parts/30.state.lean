/-! THE OBJECT: its state, and the abstract one (entries in order, the current place, the tape, the result) -/
abbrev ob_E : Type := List (List Nat × List Nat)
def ob_un (n : Nat) : Nat := (n + 15) / 16
def sp_us (E : ob_E) : Nat := (E.map (fun e => ob_un (e.1.length + e.2.length))).sum
def sp_kb (E : ob_E) : Nat := (E.map (fun e => e.1.length)).sum
def sp_vb (E : ob_E) : Nat := (E.map (fun e => e.2.length)).sum
theorem sp_us_app (A : ob_E) (e : List Nat × List Nat) (C : ob_E) : sp_us (A ++ e :: C) = sp_us (A ++ C) + ob_un (e.1.length + e.2.length) := by simp [sp_us]; omega
theorem sp_kb_app (A : ob_E) (e : List Nat × List Nat) (C : ob_E) : sp_kb (A ++ e :: C) = sp_kb (A ++ C) + e.1.length := by simp [sp_kb]; omega
theorem sp_vb_app (A : ob_E) (e : List Nat × List Nat) (C : ob_E) : sp_vb (A ++ e :: C) = sp_vb (A ++ C) + e.2.length := by simp [sp_vb]; omega
/-- an entry: node a bears its key and value in a block of its own -/
def ob_e1 (V : ob_V) (B : ob_B) (hb : Nat) (l : List ob_bk) (a : Nat) (e : List Nat × List Nat) : Prop := 1 ≤ e.1.length ∧ e.1.length ≤ 64 ∧ e.2.length ≤ 512 ∧ V a 0 = .int (nI e.1.length) ∧ V a 1 = .int (nI e.2.length) ∧ ∃ b s, V a 2 = .ref b ∧ ((b, s, ob_un (e.1.length + e.2.length), some a) : ob_bk) ∈ l ∧ ob_bs B hb (16 * s) (e.1 ++ e.2)
def ob_en (V : ob_V) (B : ob_B) (hb : Nat) (l : List ob_bk) (L : List Nat) (K : ob_k) : Prop := (∀ a ∈ L, ob_e1 V B hb l a (K a)) ∧ ∀ b s u a, ((b, s, u, some a) : ob_bk) ∈ l → a ∈ L ∧ V a 2 = .ref b
theorem ob_e1.keep {V V' : ob_V} {B : ob_B} {hb : Nat} {l : List ob_bk} {a : Nat} {e : List Nat × List Nat} (h : ob_e1 V B hb l a e) (hV : ∀ j, j < 3 → V' a j = V a j) : ob_e1 V' B hb l a e := by
  obtain ⟨h1, h2, h3, h4, h5, b, s, h6, h7, h8⟩ := h
  exact ⟨h1, h2, h3, by rw [hV 0 (by decide)]; exact h4, by rw [hV 1 (by decide)]; exact h5, b, s, by rw [hV 2 (by decide)]; exact h6, h7, h8⟩
theorem ob_en.keep {V V' : ob_V} {B : ob_B} {hb : Nat} {l : List ob_bk} {L L' : List Nat} {K : ob_k} (h : ob_en V B hb l L K) (hL : ∀ a, a ∈ L' ↔ a ∈ L) (hV : ∀ a ∈ L, ∀ j, j < 3 → V' a j = V a j) : ob_en V' B hb l L' K := by
  refine ⟨fun a ha => (h.1 a ((hL a).mp ha)).keep (hV a ((hL a).mp ha)), fun b s u a hm => ?_⟩
  obtain ⟨h1, h2⟩ := h.2 b s u a hm
  exact ⟨(hL a).mpr h1, by rw [hV a h1 2 (by decide)]; exact h2⟩
theorem ob_bs.same {B B' : ob_B} {a a' i i' : Nat} {l : List Nat} (h : ob_bs B a i l) (g : ∀ j, j < l.length → B' a' (i' + j) = B a (i + j)) : ob_bs B' a' i' l := fun j hj => ⟨(h j hj).1, by rw [g j hj]; exact (h j hj).2⟩
theorem ob_un_le (n : Nat) : n ≤ 16 * ob_un n := by unfold ob_un; omega
theorem ob_sg_mem {T : ob_T} {V : ob_V} : ∀ {l : List ob_bk} {v v' : Value}, ob_sg T V l v v' → ∀ b s u o, ((b, s, u, o) : ob_bk) ∈ l → T b = some (0, 0) ∧ V b 0 = .int (nI s) ∧ V b 1 = .int (nI u) ∧ V b 2 = va_rf o
  | [], _, _, _, b, s, u, o, h => by cases h
  | (b1, s1, u1, o1) :: l, v, v', ⟨h1, h2, h3, h4, h5, h6⟩, b, s, u, o, h => by
    rcases List.mem_cons.mp h with h | h
    · cases h; exact ⟨h2, h3, h4, h5⟩
    · exact ob_sg_mem h6 b s u o h
theorem ob_til_dj : ∀ {l : List ob_bk} {i cap : Nat}, ob_til l i cap → ∀ e ∈ l, ∀ f ∈ l, e.1 ≠ f.1 → e.2.1 + e.2.2.1 ≤ f.2.1 ∨ f.2.1 + f.2.2.1 ≤ e.2.1
  | [], _, _, _, e, he, _, _, _ => by cases he
  | (b, s, u, o) :: l, i, cap, ⟨h1, h2, h3⟩, e, he, f, hf, hne => by
    have hl := (ob_til_le h3).2
    rcases List.mem_cons.mp he with rfl | he
    · rcases List.mem_cons.mp hf with rfl | hf
      · exact absurd rfl hne
      · have := hl f hf; simp only; omega
    · rcases List.mem_cons.mp hf with rfl | hf
      · have := hl e he; simp only; omega
      · exact ob_til_dj h3 e he f hf hne
theorem ob_hs.keep {T : ob_T} {V V' : ob_V} {B B' : ob_B} {hp edge hb lim cap used : Nat} {l : List ob_bk} (h : ob_hs T V B hp edge hb lim cap used l) (hV : ∀ x c n, T x = some (c, n) → c < 2 → ∀ j, V' x j = V x j) (hB : sb_Fit (B' hb)) : ob_hs T V' B' hp edge hb lim cap used l := by
  obtain ⟨h1, h2, h3, h4, h5, h6, h7, h8, ⟨g1, g2, g3, g4⟩, h10, h11, h12⟩ := h
  have e := hV hp 1 0 h1 (by decide)
  refine ⟨h1, by rw [e]; exact h2, by rw [e]; exact h3, by rw [e]; exact h4, by rw [e]; exact h5, by rw [e]; exact h6, h7, hB, ⟨g1, ?_, g3, g4⟩, h10, h11, h12⟩
  rw [hV edge 0 0 g1 (by decide)]
  exact ob_sg_congr (fun a ha k => hV a 0 0 (ob_sg_T g2 a ha) (by decide) k) g2
theorem ob_tr.keep {T T' : ob_T} {V V' : ob_V} {t nl : Nat} {tt : ob_t} (h : ob_tr T V t nl tt) (hT : ∀ x y, T x = some y → T' x = some y) (hV : ∀ x c n, T x = some (c, n) → (x = t ∨ c = 2) → ∀ j, (c = 2 → 3 ≤ j) → V' x j = V x j) : ob_tr T' V' t nl tt := by
  obtain ⟨h1, h2, h3, ⟨n1, n2, n3, n4, n5⟩, h5, ⟨s1, s2⟩, h7⟩ := h
  have et := hV t 4 0 h1 (Or.inl rfl)
  have en := hV nl 2 0 n1 (Or.inr rfl)
  refine ⟨hT _ _ h1, by rw [et _ (by omega)]; exact h2, by rw [et _ (by omega)]; exact h3, ⟨hT _ _ n1, by rw [en _ (by omega)]; exact n2, by rw [en _ (by omega)]; exact n3, by rw [en _ (by omega)]; exact n4, by rw [en _ (by omega)]; exact n5⟩, by rw [en _ (by omega)]; exact h5, ⟨?_, fun a ha => ⟨hT _ _ (s2 a ha).1, (s2 a ha).2⟩⟩, h7⟩
  exact ob_tm_congr (fun a ha k hk _ => hV a 2 0 (s2 a ha).1 (Or.inr rfl) k (fun _ => hk)) s1
/-- the object with its parts -/
def ob_O (T : ob_T) (V : ob_V) (B : ob_B) (x me mu hp edge hb t nl tp tb rs rr cap N : Nat) (l : List ob_bk) (tt : ob_t) (K : ob_k) : Prop :=
  (T x = some (5, 0) ∧ V x 0 = .int (nI me) ∧ V x 1 = .ref hp ∧ V x 2 = .ref t ∧ V x 3 = .ref tp ∧ V x 4 = .ref rs ∧ V x 6 = .int (nI (sp_kb ((ob_ads tt).map K))) ∧ V x 7 = .int (nI (sp_vb ((ob_ads tt).map K)))) ∧
  ob_hs T V B hp edge hb mu cap (sp_us ((ob_ads tt).map K)) l ∧
  (ob_tr T V t nl tt ∧ V t 0 = .ref hp ∧ ob_rb tt N ∧ ob_red tt = false ∧ ob_so K (ob_ads tt)) ∧
  ob_en V B hb l (ob_ads tt) K ∧
  (T tp = some (3, 0) ∧ V tp 0 = .ref tb ∧ T tb = some (7, 600) ∧ sb_Fit (B tb) ∧ T rs = some (3, 0) ∧ V rs 0 = .ref rr ∧ T rr = some (7, 512) ∧ tp ≠ rs ∧ tb ≠ rr ∧ hb ≠ tb ∧ hb ≠ rr) ∧
  (ob_ads tt).length ≤ me ∧ me ≤ 1024 ∧ 1 ≤ cap
section OBZ
variable {T : ob_T} {V : ob_V} {B : ob_B} {x me mu hp edge hb t nl tp tb rs rr cap N : Nat} {l : List ob_bk} {tt : ob_t} {K : ob_k}
theorem ob_O.hbp (h : ob_O T V B x me mu hp edge hb t nl tp tb rs rr cap N l tt K) : ob_hb T V hp hb cap := by
  obtain ⟨-, ⟨h1, h2, h3, h4, h5, h6, h7, h8, h9, h10, h11, h12⟩, -⟩ := h
  exact ⟨h1, h6, h7, by omega⟩
theorem ob_e1.nd {used a : Nat} {e : List Nat × List Nat} (hs : ob_hs T V B hp edge hb mu cap used l) (ha : T a = some (2, 0)) (h : ob_e1 V B hb l a e) : ob_nd T V B hb cap a e.1 e.2 := by
  obtain ⟨h1, h2, h3, h4, h5, b, s, h6, h7, h8⟩ := h
  obtain ⟨-, -, -, -, -, -, -, -, ⟨-, g2, -, g4⟩, -⟩ := hs
  obtain ⟨k1, k2, k3, k4⟩ := ob_sg_mem g2 _ _ _ _ h7
  have hle := (ob_til_le g4).2 _ h7
  have := ob_un_le (e.1.length + e.2.length)
  exact ⟨ha, h4, h5, b, s, h6, k1, k2, h8, by simp only at hle; omega⟩
theorem ob_O.ns (h : ob_O T V B x me mu hp edge hb t nl tp tb rs rr cap N l tt K) : ob_ns T V B hb cap K (ob_ads tt) := by
  obtain ⟨-, hs, ⟨ht, -⟩, ⟨he, -⟩, -⟩ := h
  exact fun a ha => ⟨(he a ha).nd hs (ht.2.2.2.2.2.1.2 a ha).1, (he a ha).2.1⟩
end OBZ
