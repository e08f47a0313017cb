/-! TREES, pure: a tree of addresses with colours (true: red), contexts (a hole in a tree), what the fields of the nodes hold, red-black rules. Slots of a Node: 3 left, 4 right, 5 parent, 6 red, 7 size -/
abbrev ob_t : Type := Std.DTreeMap.Internal.Impl Nat (fun _ => Bool)
abbrev ob_n (a : Nat) (c : Bool) (l r : ob_t) : ob_t := .inner 0 a c l r
def ob_top (nl : Nat) : ob_t → Nat
  | .leaf => nl
  | .inner _ a _ _ _ => a
def ob_ads : ob_t → List Nat
  | .leaf => []
  | .inner _ a _ l r => ob_ads l ++ a :: ob_ads r
def ob_siz : ob_t → Nat
  | .leaf => 0
  | .inner _ _ _ l r => ob_siz l + ob_siz r + 1
def ob_red : ob_t → Bool
  | .leaf => false
  | .inner _ _ c _ _ => c
def ob_cv (c : Bool) : Value := .int (if c then 1 else 0)
def ob_tm (V : Nat → Nat → Value) (nl : Nat) : ob_t → Nat → Prop
  | .leaf, _ => True
  | .inner _ a c l r, p => V a 3 = .ref (ob_top nl l) ∧ V a 4 = .ref (ob_top nl r) ∧ V a 5 = .ref p ∧ V a 6 = ob_cv c ∧ V a 7 = .int (nI (ob_siz l + ob_siz r + 1)) ∧ ob_tm V nl l a ∧ ob_tm V nl r a
abbrev ob_f : Type := Bool × Nat × Bool × ob_t × Nat
def ob_plug : List ob_f → ob_t → ob_t
  | [], t => t
  | (d, a, c, b, q) :: z, t => ob_plug z (if d then .inner q a c t b else .inner q a c b t)
def ob_zp (nl : Nat) : List ob_f → Nat
  | [] => nl
  | (_, a, _, _, _) :: _ => a
def ob_zm (V : Nat → Nat → Value) (nl : Nat) : List ob_f → Nat → Nat → Prop
  | [], _, _ => True
  | (d, a, c, b, q) :: z, h, n => V a 3 = .ref (if d then h else ob_top nl b) ∧ V a 4 = .ref (if d then ob_top nl b else h) ∧ V a 5 = .ref (ob_zp nl z) ∧ V a 6 = ob_cv c ∧ V a 7 = .int (nI (n + ob_siz b + 1)) ∧ ob_tm V nl b a ∧ ob_zm V nl z a (n + ob_siz b + 1)
def ob_zads : List ob_f → List Nat
  | [] => []
  | (_, a, _, b, _) :: z => a :: (ob_ads b ++ ob_zads z)
def ob_zl : List ob_f → List Nat
  | [] => []
  | (d, a, _, b, _) :: z => ob_zl z ++ (if d then [] else ob_ads b ++ [a])
def ob_zr : List ob_f → List Nat
  | [] => []
  | (d, a, _, b, _) :: z => (if d then a :: ob_ads b else []) ++ ob_zr z
def ob_zs : List ob_f → Nat
  | [] => 0
  | (_, _, _, b, _) :: z => ob_siz b + 1 + ob_zs z
theorem ob_siz_len : ∀ t : ob_t, ob_siz t = (ob_ads t).length
  | .leaf => rfl
  | .inner _ a c l r => by
    simp only [ob_siz, ob_ads, List.length_append, List.length_cons, ob_siz_len l, ob_siz_len r]; omega
theorem ob_ads_plug : ∀ (z : List ob_f) (t : ob_t), ob_ads (ob_plug z t) = ob_zl z ++ ob_ads t ++ ob_zr z
  | [], t => by simp [ob_plug, ob_zl, ob_zr]
  | (d, a, c, b, q) :: z, t => by
    cases d <;> simp [ob_plug, ob_zl, ob_zr, ob_ads_plug z, ob_ads, List.append_assoc]
theorem ob_perm_plug : ∀ (z : List ob_f) (t : ob_t), (ob_ads (ob_plug z t)).Perm (ob_zads z ++ ob_ads t)
  | [], t => by simp [ob_plug, ob_zads]
  | (d, a, c, b, q) :: z, t => by
    refine (ob_perm_plug z _).trans ?_
    cases d
    · simp only [ob_zads, ob_ads, Bool.false_eq_true, if_false]
      have : ((ob_zads z ++ (ob_ads b ++ a :: ob_ads t))).Perm (a :: (ob_ads b ++ ob_zads z) ++ ob_ads t) := by
        have e1 : (ob_zads z ++ (ob_ads b ++ a :: ob_ads t)).Perm ((ob_zads z ++ ob_ads b) ++ a :: ob_ads t) := by rw [List.append_assoc]
        refine e1.trans ?_
        refine (List.perm_middle).trans ?_
        rw [List.cons_append]
        exact List.Perm.cons a ((List.perm_append_comm).append_right _)
      exact this
    · simp only [ob_zads, ob_ads, if_true]
      have : (ob_zads z ++ (ob_ads t ++ a :: ob_ads b)).Perm (a :: (ob_ads b ++ ob_zads z) ++ ob_ads t) := by
        have e1 : (ob_zads z ++ (ob_ads t ++ a :: ob_ads b)).Perm ((ob_zads z ++ ob_ads t) ++ a :: ob_ads b) := by rw [List.append_assoc]
        refine e1.trans ((List.perm_middle).trans ?_)
        rw [List.cons_append]
        refine List.Perm.cons a ?_
        refine (List.perm_append_comm).trans ?_
        rw [List.append_assoc]
      exact this
theorem ob_nd_plug {z : List ob_f} {t : ob_t} : (ob_ads (ob_plug z t)).Nodup ↔ (ob_zads z ++ ob_ads t).Nodup := (ob_perm_plug z t).nodup_iff
theorem ob_mem_plug {z : List ob_f} {t : ob_t} {a : Nat} : a ∈ ob_ads (ob_plug z t) ↔ a ∈ ob_zads z ∨ a ∈ ob_ads t := by rw [(ob_perm_plug z t).mem_iff, List.mem_append]
theorem ob_tm_plug (V : Nat → Nat → Value) (nl : Nat) : ∀ (z : List ob_f) (t : ob_t), ob_tm V nl (ob_plug z t) nl ↔ ob_zm V nl z (ob_top nl t) (ob_siz t) ∧ ob_tm V nl t (ob_zp nl z)
  | [], t => by simp [ob_plug, ob_zm, ob_zp]
  | (d, a, c, b, q) :: z, t => by
    rw [ob_plug, ob_tm_plug V nl z]
    cases d
    · simp only [Bool.false_eq_true, if_false, ob_top, ob_siz, ob_tm, ob_zm, ob_zp, Nat.add_comm (ob_siz b) (ob_siz t)]
      constructor
      · rintro ⟨h1, h2, h3, h4, h5, h6, h7, h8⟩; exact ⟨⟨h2, h3, h4, h5, h6, h7, h1⟩, h8⟩
      · rintro ⟨⟨h2, h3, h4, h5, h6, h7, h1⟩, h8⟩; exact ⟨h1, h2, h3, h4, h5, h6, h7, h8⟩
    · simp only [if_true, ob_top, ob_siz, ob_tm, ob_zm, ob_zp]
      constructor
      · rintro ⟨h1, h2, h3, h4, h5, h6, h7, h8⟩; exact ⟨⟨h2, h3, h4, h5, h6, h8, h1⟩, h7⟩
      · rintro ⟨⟨h2, h3, h4, h5, h6, h8, h1⟩, h7⟩; exact ⟨h1, h2, h3, h4, h5, h6, h7, h8⟩
theorem ob_top_plug (nl : Nat) : ∀ (z : List ob_f) (t t' : ob_t), z ≠ [] → ob_top nl (ob_plug z t) = ob_top nl (ob_plug z t')
  | [], _, _, h => absurd rfl h
  | [(d, a, c, b, q)], t, t', _ => by cases d <;> rfl
  | (d, a, c, b, q) :: f :: z, t, t', _ => ob_top_plug nl (f :: z) _ _ (by simp)
/-- what a tree's fields are depends on its own nodes alone -/
theorem ob_tm_congr {V V' : Nat → Nat → Value} {nl : Nat} : ∀ {t : ob_t} {p : Nat}, (∀ a ∈ ob_ads t, ∀ k, 3 ≤ k → k ≤ 7 → V' a k = V a k) → ob_tm V nl t p → ob_tm V' nl t p
  | .leaf, _, _, _ => trivial
  | .inner q a c l r, p, h, ⟨h1, h2, h3, h4, h5, h6, h7⟩ => by
    have ha : a ∈ ob_ads (.inner q a c l r : ob_t) := by simp [ob_ads]
    refine ⟨?_, ?_, ?_, ?_, ?_, ob_tm_congr (fun x hx => h x (by simp [ob_ads, hx])) h6, ob_tm_congr (fun x hx => h x (by simp [ob_ads, hx])) h7⟩
    · rw [h a ha 3 (by omega) (by omega)]; exact h1
    · rw [h a ha 4 (by omega) (by omega)]; exact h2
    · rw [h a ha 5 (by omega) (by omega)]; exact h3
    · rw [h a ha 6 (by omega) (by omega)]; exact h4
    · rw [h a ha 7 (by omega) (by omega)]; exact h5
theorem ob_zm_congr {V V' : Nat → Nat → Value} {nl : Nat} : ∀ {z : List ob_f} {h n : Nat}, (∀ a ∈ ob_zads z, ∀ k, 3 ≤ k → k ≤ 7 → V' a k = V a k) → ob_zm V nl z h n → ob_zm V' nl z h n
  | [], _, _, _, _ => trivial
  | (d, a, c, b, q) :: z, hh, n, h, ⟨h1, h2, h3, h4, h5, h6, h7⟩ => by
    have ha : a ∈ ob_zads ((d, a, c, b, q) :: z) := by simp [ob_zads]
    refine ⟨?_, ?_, ?_, ?_, ?_, ob_tm_congr (fun x hx => h x (by simp [ob_zads, hx])) h6, ob_zm_congr (fun x hx => h x (by simp [ob_zads, hx])) h7⟩
    · rw [h a ha 3 (by omega) (by omega)]; exact h1
    · rw [h a ha 4 (by omega) (by omega)]; exact h2
    · rw [h a ha 5 (by omega) (by omega)]; exact h3
    · rw [h a ha 6 (by omega) (by omega)]; exact h4
    · rw [h a ha 7 (by omega) (by omega)]; exact h5
/-- every node of a tree stands in a context -/
theorem ob_split : ∀ (t : ob_t) (a : Nat) (z0 : List ob_f), a ∈ ob_ads t → ∃ (z : List ob_f) (q : Nat) (c : Bool) (l r : ob_t), ob_plug z0 t = ob_plug z (.inner q a c l r)
  | .leaf, a, _, h => by simp [ob_ads] at h
  | .inner q b c l r, a, z0, h => by
    simp only [ob_ads, List.mem_append, List.mem_cons] at h
    rcases h with h | rfl | h
    · exact (ob_split l a ((true, b, c, r, q) :: z0) h).imp fun z hz => hz
    · exact ⟨z0, q, c, l, r, rfl⟩
    · exact (ob_split r a ((false, b, c, l, q) :: z0) h).imp fun z hz => hz
