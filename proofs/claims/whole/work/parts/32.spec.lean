/-! WHAT EACH CALL IS TO ANSWER, pure: entries in order, the current place, the tape, the result -/
abbrev sp_S : Type := ob_E × Option Nat × List Nat × List Nat
/-- an answer: 0, or 1 or 2 for the two throws; the value; the state -/
abbrev sp_A : Type := Nat × Int32 × sp_S
def sp_bl (E : ob_E) (key : List Nat) (s : Bool) : Nat := E.countP (fun e => decide (0 < ob_cmp key e.1) || (s && decide (ob_cmp key e.1 = 0)))
def sp_fd (E : ob_E) (key : List Nat) : Option Nat := if (E[sp_bl E key false]?).map (fun e => e.1) = some key then some (sp_bl E key false) else none
def sp_cd (cur : Option Nat) (i : Nat) : Option Nat := match cur with
  | none => none
  | some c => if c = i then none else if i < c then some (c - 1) else some c
def sp_by (x : Int64) (i : Nat) : Nat := x.toBitVec.toNat / 2 ^ (8 * i) % 256
def sp_feed (S : sp_S) (x : Int64) (n : Int32) : sp_A := if ¬ (1 ≤ n ∧ n ≤ 8) then (1, 0, S) else if 600 < S.2.2.1.length + n.toNatClampNeg then (2, 0, S) else (0, nI (S.2.2.1.length + n.toNatClampNeg), (S.1, S.2.1, S.2.2.1 ++ (List.range n.toNatClampNeg).map (sp_by x), S.2.2.2))
def sp_0 (S : sp_S) : sp_S := (S.1, S.2.1, [], S.2.2.2)
def sp_kl (n : Nat) : Bool := decide (1 ≤ n ∧ n ≤ 64)
def sp_put (me mu : Nat) (S : sp_S) (k : Int32) : sp_A :=
  if ¬ ((1 ≤ k ∧ k ≤ 64) ∧ k.toNatClampNeg ≤ S.2.2.1.length ∧ S.2.2.1.length - k.toNatClampNeg ≤ 512) then (1, 0, sp_0 S) else
  match sp_fd S.1 (S.2.2.1.take k.toNatClampNeg) with
  | none => if me ≤ S.1.length ∨ mu < sp_us S.1 + ob_un S.2.2.1.length then (2, 0, sp_0 S) else (0, 1, (S.1.take (sp_bl S.1 (S.2.2.1.take k.toNatClampNeg) false) ++ (S.2.2.1.take k.toNatClampNeg, S.2.2.1.drop k.toNatClampNeg) :: S.1.drop (sp_bl S.1 (S.2.2.1.take k.toNatClampNeg) false), some (sp_bl S.1 (S.2.2.1.take k.toNatClampNeg) false), [], S.2.2.2))
  | some i => if mu < sp_us (S.1.eraseIdx i) + ob_un S.2.2.1.length then (2, 0, sp_0 S) else (0, 0, (S.1.set i (S.2.2.1.take k.toNatClampNeg, S.2.2.1.drop k.toNatClampNeg), some i, [], S.2.2.2))
/-- entry i told: its value or its key -/
def sp_tell (S : sp_S) (i : Nat) (v : Bool) : sp_S := (S.1, some i, S.2.2.1, if v then (S.1.getD i ([], [])).2 else (S.1.getD i ([], [])).1)
def sp_get (S : sp_S) : sp_A := if sp_kl S.2.2.1.length then (match sp_fd S.1 S.2.2.1 with
  | none => (2, 0, sp_0 S)
  | some i => (0, nI (sp_tell (sp_0 S) i true).2.2.2.length, sp_tell (sp_0 S) i true)) else (1, 0, sp_0 S)
def sp_rem (S : sp_S) : sp_A := if sp_kl S.2.2.1.length then (match sp_fd S.1 S.2.2.1 with
  | none => (0, 0, sp_0 S)
  | some i => (0, 1, (S.1.eraseIdx i, sp_cd S.2.1 i, [], S.2.2.2))) else (1, 0, sp_0 S)
def sp_to (c : Nat) (S : sp_S) (o : Option Nat) : sp_A := match o with
  | none => (c, 0, S)
  | some i => if i < S.1.length then (0, nI (sp_tell S i false).2.2.2.length, sp_tell S i false) else (c, 0, S)
def sp_pre (n : Nat) : Option Nat := if n = 0 then none else some (n - 1)
def sp_seek (S : sp_S) (how : Int32) : sp_A := if sp_kl S.2.2.1.length = true ∧ 0 ≤ how ∧ how ≤ 3 then sp_to 2 (sp_0 S) (if how < 2 then some (sp_bl S.1 S.2.2.1 (decide (how = 1 ∨ how = 2))) else sp_pre (sp_bl S.1 S.2.2.1 (decide (how = 1 ∨ how = 2)))) else (1, 0, sp_0 S)
def sp_at (S : sp_S) (k : Int32) : sp_A := sp_to 1 S (if 0 ≤ k then some k.toNatClampNeg else none)
def sp_step (S : sp_S) (back : Bool) : sp_A := match S.2.1 with
  | none => (1, 0, S)
  | some c => match (if back then sp_pre c else some (c + 1)) with
    | none => (0, 0, S)
    | some i => if i < S.1.length then (0, 1, sp_tell S i false) else (0, 0, S)
def sp_val (S : sp_S) : sp_A := match S.2.1 with
  | none => (1, 0, S)
  | some c => (0, nI (sp_tell S c true).2.2.2.length, sp_tell S c true)
def sp_plc (S : sp_S) : sp_A := match S.2.1 with
  | none => (1, 0, S)
  | some c => (0, nI c, S)
def sp_rng (S : sp_S) : sp_A := if 64 < S.2.2.1.length then (1, 0, sp_0 S) else match S.2.1 with
  | none => (2, 0, sp_0 S)
  | some c => (0, nI ((if S.2.2.1.length = 0 then S.1.length else sp_bl S.1 S.2.2.1 false) - c), sp_0 S)
def sp_rmf (S : sp_S) (n : Int32) : sp_A := if n < 0 then (1, 0, S) else match S.2.1 with
  | none => (2, 0, S)
  | some c => (0, nI (min n.toNatClampNeg (S.1.length - c - 1) + 1), (S.1.take c ++ S.1.drop (c + (min n.toNatClampNeg (S.1.length - c - 1) + 1)), none, S.2.2))
def sp_clr (S : sp_S) : sp_A := (0, nI S.1.length, ([], none, S.2.2))
def sp_byt (S : sp_S) (i : Int32) : sp_A := if 0 ≤ i ∧ i.toNatClampNeg < S.2.2.2.length then (0, nI (S.2.2.2.getD i.toNatClampNeg 0), S) else (1, 0, S)
def sp_cnt (S : sp_S) (w : Int32) : Int32 := if w = 0 then nI S.1.length else if w = 1 then nI (sp_us S.1) else if w = 2 then nI (sp_kb S.1) else if w = 3 then nI (sp_vb S.1) else if w = 4 then nI S.2.2.1.length else if w = 5 then nI S.2.2.2.length else -1
/-- the entries stand in order -/
def sp_so (E : ob_E) : Prop := E.Pairwise (fun a b => ob_cmp a.1 b.1 < 0)
theorem sp_so_of {K : ob_k} {L : List Nat} : sp_so (L.map K) ↔ ob_so K L := by simp [sp_so, ob_so, List.pairwise_map]
theorem sp_bl_of {K : ob_k} {L : List Nat} {key : List Nat} {s : Bool} : L.countP (ob_bl K key s) = sp_bl (L.map K) key s := by
  simp only [sp_bl, List.countP_map]
  congr 1
/-- in order: what is below a key stands in front -/
theorem sp_bl_split {key : List Nat} {s : Bool} : ∀ {E : ob_E}, sp_so E → (∀ e ∈ E.take (sp_bl E key s), 0 < ob_cmp key e.1 ∨ (s = true ∧ ob_cmp key e.1 = 0)) ∧ (∀ e ∈ E.drop (sp_bl E key s), ¬ (0 < ob_cmp key e.1 ∨ (s = true ∧ ob_cmp key e.1 = 0)))
  | [], _ => by simp
  | f :: E, h => by
    obtain ⟨h1, h2⟩ := List.pairwise_cons.mp h
    by_cases hf : 0 < ob_cmp key f.1 ∨ (s = true ∧ ob_cmp key f.1 = 0)
    · have e : sp_bl (f :: E) key s = sp_bl E key s + 1 := by
        simp only [sp_bl]
        rw [List.countP_cons_of_pos]
        simpa using hf
      obtain ⟨g1, g2⟩ := sp_bl_split (key := key) (s := s) h2
      rw [e]
      simp only [List.take_succ_cons, List.drop_succ_cons]
      refine ⟨fun e he => ?_, g2⟩
      rcases List.mem_cons.mp he with rfl | he
      · exact hf
      · exact g1 e he
    · have hn : ∀ e ∈ E, ¬ (0 < ob_cmp key e.1 ∨ (s = true ∧ ob_cmp key e.1 = 0)) := by
        intro e he h9
        have hlt := h1 e he
        have k1 : ob_cmp key f.1 ≤ 0 := by
          rcases Int.lt_or_le 0 (ob_cmp key f.1) with h | h
          · exact absurd (Or.inl h) hf
          · exact h
        have : ob_cmp key e.1 < 0 := by
          rcases Int.lt_or_eq_of_le k1 with h | h
          · exact ob_cmp_tr h hlt
          · rw [ob_cmp_0.mp h]; exact hlt
        rcases h9 with h9 | ⟨-, h9⟩ <;> omega
      have e : sp_bl (f :: E) key s = 0 := by
        simp only [sp_bl, List.countP_eq_zero]
        intro e he
        rcases List.mem_cons.mp he with rfl | he
        · simpa using hf
        · simpa using hn e he
      rw [e]
      simp only [List.take_zero, List.drop_zero]
      refine ⟨fun e he => (by cases he), fun e he => ?_⟩
      rcases List.mem_cons.mp he with rfl | he
      · exact hf
      · exact hn e he
theorem sp_bl_le (E : ob_E) (key : List Nat) (s : Bool) : sp_bl E key s ≤ E.length := List.countP_le_length
/-- the entry with the key: found at its place, or nowhere -/
theorem sp_fd_some {E : ob_E} {key : List Nat} {i : Nat} (h : sp_fd E key = some i) : i < E.length ∧ i = sp_bl E key false ∧ (E.getD i ([], [])).1 = key := by
  unfold sp_fd at h
  split at h
  · rename_i h9
    cases h
    cases h8 : E[sp_bl E key false]? with
    | none => rw [h8] at h9; cases h9
    | some e =>
      rw [h8] at h9
      have hl := (List.getElem?_eq_some_iff.mp h8).1
      refine ⟨hl, rfl, ?_⟩
      rw [List.getD_eq_getElem?_getD, h8]
      simpa using h9
  · cases h
theorem sp_fd_none {E : ob_E} {key : List Nat} (hs : sp_so E) (h : sp_fd E key = none) : ∀ e ∈ E, e.1 ≠ key := by
  obtain ⟨g1, g2⟩ := sp_bl_split (key := key) (s := false) hs
  intro e he hk
  rw [← List.take_append_drop (sp_bl E key false) E] at he
  rcases List.mem_append.mp he with h9 | h9
  · rcases g1 e h9 with h8 | h8
    · rw [hk, ob_cmp_0.mpr rfl] at h8; omega
    · cases h8.1
  · unfold sp_fd at h
    split at h
    · cases h
    · rename_i h7
      have hs2 : sp_so (E.drop (sp_bl E key false)) := List.Pairwise.sublist (List.drop_sublist _ _) hs
      cases h8 : E.drop (sp_bl E key false) with
      | nil => rw [h8] at h9; cases h9
      | cons f r =>
        have h6 : E[sp_bl E key false]? = some f := by
          have := congrArg (fun z => z[0]?) h8
          simpa using this
        rw [h8] at hs2 h9
        rcases List.mem_cons.mp h9 with rfl | h5
        · exact h7 (by rw [h6, ← hk]; rfl)
        · have := (List.pairwise_cons.mp hs2).1 e h5
          have hf := g2 f (by rw [h8]; simp)
          rw [hk] at this
          have : 0 < ob_cmp key f.1 := by rw [ob_cmp_neg]; omega
          exact hf (Or.inl this)
theorem sp_find {K : ob_k} {L : List Nat} {key : List Nat} (hs : ob_so K L) : L.find? (fun x => decide ((K x).1 = key)) = (sp_fd (L.map K) key).bind (fun i => L[i]?) := by
  cases h : sp_fd (L.map K) key with
  | none =>
    have := sp_fd_none (sp_so_of.mpr hs) h
    simp only [Option.bind_none, List.find?_eq_none]
    intro x hx
    simpa using this (K x) (List.mem_map.mpr ⟨x, hx, rfl⟩)
  | some i =>
    obtain ⟨h1, h2, h3⟩ := sp_fd_some h
    simp only [List.length_map] at h1
    have e : L = L.take i ++ L[i] :: L.drop (i + 1) := by rw [← List.drop_eq_getElem_cons h1, List.take_append_drop]
    have hk : (K L[i]).1 = key := by simpa [List.getD_eq_getElem?_getD, h1] using h3
    simp only [Option.bind_some, List.getElem?_eq_getElem h1]
    generalize L[i] = y at *
    rw [e, List.find?_append]
    have hn : (L.take i).find? (fun x => decide ((K x).1 = key)) = none := by
      rw [List.find?_eq_none]
      intro x hx h9
      have hs2 := hs
      rw [e] at hs2
      have := (ob_so.split hs2).2.2.1 x hx
      have h9 : (K x).1 = key := by simpa using h9
      rw [h9, hk, ob_cmp_0.mpr rfl] at this
      omega
    rw [hn]
    simp [hk]
