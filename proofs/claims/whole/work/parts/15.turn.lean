/-! TURNING: nodes by sides, contexts, replace, rotate -/
/-- a node with s on the side d and u on the other -/
def ob_mkn (d : Bool) (q a : Nat) (c : Bool) (s u : ob_t) : ob_t := if d then .inner q a c s u else .inner q a c u s
theorem ob_tm_mk {V : ob_V} {nl : Nat} (d : Bool) {q a : Nat} {c : Bool} {s u : ob_t} {p : Nat} : ob_tm V nl (ob_mkn d q a c s u) p ↔ V a (ob_sl d) = .ref (ob_top nl s) ∧ V a (ob_sl (!d)) = .ref (ob_top nl u) ∧ V a 5 = .ref p ∧ V a 6 = ob_cv c ∧ V a 7 = .int (nI (ob_siz s + ob_siz u + 1)) ∧ ob_tm V nl s a ∧ ob_tm V nl u a := by
  cases d
  · simp only [ob_mkn, Bool.false_eq_true, if_false, ob_tm, ob_sl, Bool.not_false, if_true, Nat.add_comm (ob_siz u) (ob_siz s)]
    constructor
    · rintro ⟨h1, h2, h3, h4, h5, h6, h7⟩; exact ⟨h2, h1, h3, h4, h5, h7, h6⟩
    · rintro ⟨h1, h2, h3, h4, h5, h6, h7⟩; exact ⟨h2, h1, h3, h4, h5, h7, h6⟩
  · simp only [ob_mkn, if_true, ob_tm, ob_sl, Bool.not_true, Bool.false_eq_true, if_false]
theorem ob_zm_cons {V : ob_V} {nl : Nat} {d : Bool} {a q : Nat} {c : Bool} {b : ob_t} {z : List ob_f} {h m : Nat} : ob_zm V nl ((d, a, c, b, q) :: z) h m ↔ V a (ob_sl d) = .ref h ∧ V a (ob_sl (!d)) = .ref (ob_top nl b) ∧ V a 5 = .ref (ob_zp nl z) ∧ V a 6 = ob_cv c ∧ V a 7 = .int (nI (m + ob_siz b + 1)) ∧ ob_tm V nl b a ∧ ob_zm V nl z a (m + ob_siz b + 1) := by
  cases d
  · simp only [ob_zm, Bool.false_eq_true, if_false, ob_sl, Bool.not_false, if_true]
    constructor
    · rintro ⟨h1, h2, h3⟩; exact ⟨h2, h1, h3⟩
    · rintro ⟨h1, h2, h3⟩; exact ⟨h2, h1, h3⟩
  · simp only [ob_zm, if_true, ob_sl, Bool.not_true, Bool.false_eq_true, if_false]
theorem ob_top_mk (nl : Nat) (d : Bool) (q a : Nat) (c : Bool) (s u : ob_t) : ob_top nl (ob_mkn d q a c s u) = a := by cases d <;> rfl
theorem ob_siz_mk (d : Bool) (q a : Nat) (c : Bool) (s u : ob_t) : ob_siz (ob_mkn d q a c s u) = ob_siz s + ob_siz u + 1 := by cases d <;> simp [ob_mkn, ob_siz, Nat.add_comm]
theorem ob_red_mk (d : Bool) (q a : Nat) (c : Bool) (s u : ob_t) : ob_red (ob_mkn d q a c s u) = c := by cases d <;> rfl
theorem ob_mem_mk {d : Bool} {q a : Nat} {c : Bool} {s u : ob_t} {x : Nat} : x ∈ ob_ads (ob_mkn d q a c s u) ↔ x = a ∨ x ∈ ob_ads s ∨ x ∈ ob_ads u := by
  cases d <;> simp [ob_mkn, ob_ads] <;> grind
theorem ob_nd_mk {d : Bool} {q a : Nat} {c : Bool} {s u : ob_t} : (ob_ads (ob_mkn d q a c s u)).Nodup ↔ a ∉ ob_ads s ∧ a ∉ ob_ads u ∧ (ob_ads s).Nodup ∧ (ob_ads u).Nodup ∧ ∀ x ∈ ob_ads s, x ∉ ob_ads u := by
  cases d <;> simp [ob_mkn, ob_ads, List.nodup_append] <;> grind
theorem ob_ads_rot (d : Bool) (q1 q2 q3 q4 x y : Nat) (c1 c2 c3 c4 : Bool) (A Bt C : ob_t) : ob_ads (ob_mkn d q1 x c1 A (ob_mkn d q2 y c2 Bt C)) = ob_ads (ob_mkn d q3 y c3 (ob_mkn d q4 x c4 A Bt) C) := by
  cases d <;> simp [ob_mkn, ob_ads]
theorem ob_plug_mk (d : Bool) (a q : Nat) (c : Bool) (b t : ob_t) (z : List ob_f) : ob_plug ((d, a, c, b, q) :: z) t = ob_plug z (ob_mkn d q a c t b) := by cases d <;> rfl
theorem ob_sl_ne (d : Bool) : ob_sl d ≠ ob_sl (!d) := by cases d <;> decide
theorem ob_sl_ne' (d : Bool) : ob_sl (!d) ≠ ob_sl d := by cases d <;> decide
theorem ob_sl_rg (d : Bool) : 3 ≤ ob_sl d ∧ ob_sl d ≤ 4 := by cases d <;> decide
/-- what changes: the tree's root, links, colours and sizes of the nodes A -/
def ob_fr (t : Nat) (A : List Nat) (V V' : ob_V) : Prop := ∀ a k, ¬ ((a = t ∧ k = 2) ∨ (a ∈ A ∧ 3 ≤ k ∧ k ≤ 7)) → V' a k = V a k
theorem ob_fr.rf {t : Nat} {A : List Nat} {V : ob_V} : ob_fr t A V V := fun _ _ _ => rfl
theorem ob_fr.tr {t : Nat} {A A' : List Nat} {V V1 V2 : ob_V} (h1 : ob_fr t A V V1) (h2 : ob_fr t A' V1 V2) (hA : ∀ a ∈ A', a ∈ A) : ob_fr t A V V2 := fun a k h => (h2 a k (fun q => h (q.imp id (fun r => ⟨hA a r.1, r.2⟩)))).trans (h1 a k h)
theorem ob_fr.set {t a k : Nat} {A : List Nat} {V V1 : ob_V} {v : Value} (h : ob_fr t A V V1) (ha : a ∈ A) (hk : 3 ≤ k ∧ k ≤ 7) : ob_fr t A V (ob_set V1 a k v) := fun b j hb => by
  rw [← h b j hb]
  simp only [ob_set]
  rw [if_neg]
  rintro ⟨rfl, rfl⟩
  exact hb (Or.inr ⟨ha, hk⟩)
theorem ob_fr.root {t : Nat} {A : List Nat} {V V1 : ob_V} {v : Value} (h : ob_fr t A V V1) : ob_fr t A V (ob_set V1 t 2 v) := fun b j hb => by
  rw [← h b j hb]
  simp only [ob_set]
  rw [if_neg]
  rintro ⟨rfl, rfl⟩
  exact hb (Or.inl ⟨rfl, rfl⟩)
/-- a tree at work: the context z, the tree tt in its hole -/
def ob_zt (T : ob_T) (V : ob_V) (t nl : Nat) (z : List ob_f) (tt : ob_t) : Prop :=
  T t = some (4, 0) ∧ V t 1 = .ref nl ∧ V t 2 = .ref (ob_top nl (ob_plug z tt)) ∧ ob_nil T V nl ∧ ob_zm V nl z (ob_top nl tt) (ob_siz tt) ∧ ob_tm V nl tt (ob_zp nl z) ∧ (∀ a ∈ ob_zads z ++ ob_ads tt, T a = some (2, 0) ∧ a ≠ nl) ∧ (ob_zads z ++ ob_ads tt).Nodup
theorem ob_tr.zt {T : ob_T} {V : ob_V} {t nl : Nat} {z : List ob_f} {tt : ob_t} (h : ob_tr T V t nl (ob_plug z tt)) : ob_zt T V t nl z tt := by
  obtain ⟨h1, h2, h3, h4, h5, h6, h7⟩ := h
  obtain ⟨g1, g2⟩ := (ob_tm_plug V nl z tt).mp h6.1
  exact ⟨h1, h2, h3, h4, g1, g2, fun a ha => h6.2 a (ob_mem_plug.mpr (List.mem_append.mp ha)), ob_nd_plug.mp h7⟩
theorem ob_zt.tr {T : ob_T} {V : ob_V} {t nl : Nat} {z : List ob_f} {tt : ob_t} (h : ob_zt T V t nl z tt) (h5 : V nl 5 = .ref nl) : ob_tr T V t nl (ob_plug z tt) := by
  obtain ⟨h1, h2, h3, h4, g1, g2, g3, g4⟩ := h
  exact ⟨h1, h2, h3, h4, h5, ⟨(ob_tm_plug V nl z tt).mpr ⟨g1, g2⟩, fun a ha => g3 a (List.mem_append.mpr (ob_mem_plug.mp ha))⟩, ob_nd_plug.mpr g4⟩
/-- the hole's tree and the frame above it are one tree -/
theorem ob_zt.up {T : ob_T} {V : ob_V} {t nl a q : Nat} {d c : Bool} {b tt : ob_t} {z : List ob_f} (h : ob_zt T V t nl ((d, a, c, b, q) :: z) tt) : ob_zt T V t nl z (ob_mkn d q a c tt b) := by
  obtain ⟨h1, h2, h3, h4, g1, g2, g3, g4⟩ := h
  rw [ob_zm_cons] at g1
  obtain ⟨e1, e2, e3, e4, e5, e6, e7⟩ := g1
  refine ⟨h1, h2, by rw [← ob_plug_mk]; exact h3, h4, ?_, (ob_tm_mk d).mpr ⟨e1, e2, e3, e4, e5, g2, e6⟩, ?_, ?_⟩
  · rw [ob_top_mk, ob_siz_mk]; exact e7
  · intro x hx
    refine g3 x ?_
    simp only [List.mem_append, ob_mem_mk, ob_zads, List.mem_cons] at hx ⊢
    grind
  · have g5 := g4
    simp only [ob_zads, List.cons_append, List.nodup_cons, List.mem_append, List.append_assoc, List.nodup_append, ob_nd_mk, ob_mem_mk] at g4 ⊢
    grind
theorem ob_zt.down {T : ob_T} {V : ob_V} {t nl a q : Nat} (d : Bool) {c : Bool} {b tt : ob_t} {z : List ob_f} (h : ob_zt T V t nl z (ob_mkn d q a c tt b)) : ob_zt T V t nl ((d, a, c, b, q) :: z) tt := by
  obtain ⟨h1, h2, h3, h4, g1, g2, g3, g4⟩ := h
  obtain ⟨e1, e2, e3, e4, e5, e6, e7⟩ := (ob_tm_mk d).mp g2
  rw [ob_top_mk, ob_siz_mk] at g1
  refine ⟨h1, h2, by rw [ob_plug_mk]; exact h3, h4, ob_zm_cons.mpr ⟨e1, e2, e3, e4, e5, e7, g1⟩, e6, ?_, ?_⟩
  · intro x hx
    refine g3 x ?_
    simp only [List.mem_append, ob_mem_mk, ob_zads, List.mem_cons] at hx ⊢
    grind
  · simp only [ob_zads, List.cons_append, List.nodup_cons, List.mem_append, List.append_assoc, List.nodup_append, ob_nd_mk, ob_mem_mk] at g4 ⊢
    grind
