/-! ROWS THAT TOUCH THE HEAP, CALLS, CONTRACTS -/
theorem ob_in {w : Cond} (i : Nat) (h : lw_tbl[i]? = some w) (g : goodWord w = true) : w ∈ ob_tb := List.mem_filter.mpr ⟨List.mem_of_getElem? h, g⟩
theorem ob_gI {L : List Cond} (h : ∀ w ∈ L, w ∈ ob_tb) : GoodIn ob_tb L := fun w hw => ⟨h w hw, good_of_word (List.mem_filter.mp (h w hw)).2⟩
def ob_ty (ci k : Nat) : FieldType := match ci with
  | 0 => tyX0 k
  | 1 => tyX1 k
  | 2 => tyX2 k
  | 3 => tyX3 k
  | 4 => tyX4 k
  | 5 => tyX5 k
  | _ => tyX6 k
/-- a class of vwCl -/
def ob_cl (ci : Nat) (C : String) (T : u_T) (N : Nat) : Prop := vwCl[ci]? = some (C, T, N) ∧ ci < 7 ∧ (∀ w ∈ u_ws C T N, w ∈ ob_tb) ∧ (∀ k, k < N → parseFieldDescriptor (T k).2.2.1 = some (ob_ty ci k)) ∧ (∀ a, a < N → ∀ b, b < N → a ≠ b → (T a).2.1 ≠ (T b).2.1)
/-- field k of class ci, linked by the entry idx of the class own -/
def ob_fk (own : String) (idx ci k : Nat) (fin : Bool) : Prop := ∃ (C : String) (T : u_T) (N : Nat), ob_cl ci C T N ∧ k < N ∧ Cond.fieldLink own idx (T k).1 (T k).2.1 (T k).2.2.1 ∈ ob_tb ∧ (T k).2.2.2 = fin ∧ (T k).1 = C
section OBH
variable {X : ob_X} {y : ob_y} {R : Room} {Q : ob_r → ob_w → Prop} {pc : Nat} {lv : List (Nat × Value)} {st : List Value} {w : ob_w} {k n : Nat}
theorem og_getf {idx ci kf a n0 : Nat} {fin : Bool} {v : Value} (hdg : decode y.2.1 pc = .ok (.getfield idx, 3)) (hf : ob_fk y.1.cls idx ci kf fin) (ha : w.1 a = some (ci, n0)) (hv : w.2.1 a kf = v) (kk : ob_G X y R Q (pc + 3) lv (v :: st) w k n) : ob_G X y R Q pc lv (.ref a :: st) w k n := by
  intro p e s m args below meth c C H locs ls a1 a2 a3 a4
  obtain ⟨CC, T, N, ⟨hc, h7, hin, -, -⟩, hk, hl, -, -⟩ := hf
  obtain ⟨r, h1, cell, q1, q2, q3, q4⟩ := (a2 a ci n0 ha).obj h7
  have hr : r = (CC, T, N) := Option.some.inj (h1.symm.trans hc)
  subst hr
  have hts := C.2.2.2.2.2.1
  obtain ⟨hS, hfc, kC, hkC, hkind⟩ := C.2.2.2.2.2.2.2.2.2.1.1.1 ci _ hc
  obtain ⟨cf, kf9, fi, f, hi, hsl⟩ := hS kf hk
  refine W.getf C.1 C.2.1 C.2.2.2.2.1 (hts _ hl) hi (u_facts hfc hkC (u_lays hts hin hk) hi).1 q1 (by rw [q3]; exact fun h => by cases h) (v := v) ?_ rfl rfl hdg (kk p e s m args below meth c C H locs ls a1 a2 a3 a4)
  rw [hsl, q4 kf hk, hv]
theorem og_put {idx ci kf a n0 : Nat} {v : Value} (hdg : decode y.2.1 pc = .ok (.putfield idx, 3)) (hf : ob_fk y.1.cls idx ci kf false) (ha : w.1 a = some (ci, n0)) (hn : narrow (ob_ty ci kf) v = v) (hv : fits (ob_ty ci kf) v = true) (kk : ob_G X y R Q (pc + 3) lv st (w.1, ob_set w.2.1 a kf v, w.2.2.1, w.2.2.2) k n) : ob_G X y R Q pc lv (v :: .ref a :: st) w k n := by
  intro p e s m args below meth c C H locs ls a1 a2 a3 a4
  obtain ⟨CC, T, N, ⟨hc, h7, hin, hty, hnm⟩, hk, hl, hfin, -⟩ := hf
  have hts := C.2.2.2.2.2.1
  have hK := C.2.2.2.2.2.2.2.2.2.1.1
  have hap := va_apart (own := y.1.cls) hts hin (ob_ty ci) hty hnm hK hc
  obtain ⟨r, h1, cell, q1, q2, q3, q4⟩ := (a2 a ci n0 ha).obj h7
  have hr : r = (CC, T, N) := Option.some.inj (h1.symm.trans hc)
  subst hr
  obtain ⟨hS, hfc, kC, hkC, hkind⟩ := hK.1 ci _ hc
  obtain ⟨cf, kf9, fi, f, hi, hsl⟩ := hS kf hk
  have hlay := hts _ (hin _ (u_in_lay hk))
  unfold u_lay at hlay
  rw [if_neg (by rw [hfin]; decide)] at hlay
  have hst := (u_facts hfc hkC (u_lays hts hin hk) hi).1
  have h6 := u_store hfc hkC hkind hlay hi (hty kf hk) hn hv
  refine W.putK C.1 C.2.1 (f := f) ⟨C.2.2.2.2.1, hts _ hl, ⟨_, _, _, hi⟩, hst⟩ (by rw [q2]; exact h6) q1 q3 (by rw [hsl]; exact k2_hasslot (q4 kf hk)) rfl rfl hdg fun H' e1 e2 e3 => ?_
  rw [hsl] at e1 ⊢
  refine kk p e s m args below meth c C H' _ ls a1 (ob_P.put (a := a) a2 rfl ?_ e3 (fun b hb => by funext j; exact ob_set_a _ _ _ _ j hb) (fun _ _ => rfl) (fun _ _ => rfl)) a3 (a4.put e2 e3 (a3 a _ ha))
  intro c9 n9 h9
  cases h9.symm.trans ha
  refine ob_at.mk h7 ⟨_, hc, t_OB.to (V := updV (w.2.1 a) kf v) ⟨_, e1, q2, q3, t_set q4 hap hk v⟩ (fun j _ => ?_)⟩
  simp [updV, ob_set]
theorem og_putF {idx ci kf a n0 : Nat} {v : Value} (hdg : decode y.2.1 pc = .ok (.putfield idx, 3)) (hf : ob_fk y.1.cls idx ci kf true) (hin2 : y.1.name = "<init>") (hown : (vwCl[ci]?).map (fun q => q.1) = some y.1.cls) (ha : w.1 a = some (ci, n0)) (hn : narrow (ob_ty ci kf) v = v) (hv : fits (ob_ty ci kf) v = true) (kk : ob_G X y R Q (pc + 3) lv st (w.1, ob_set w.2.1 a kf v, w.2.2.1, w.2.2.2) k n) : ob_G X y R Q pc lv (v :: .ref a :: st) w k n := by
  intro p e s m args below meth c C H locs ls a1 a2 a3 a4
  obtain ⟨CC, T, N, ⟨hc, h7, hin, hty, hnm⟩, hk, hl, hfin, hcls⟩ := hf
  have hCC : CC = y.1.cls := by rw [hc] at hown; exact Option.some.inj hown
  have hts := C.2.2.2.2.2.1
  have hK := C.2.2.2.2.2.2.2.2.2.1.1
  have hap := va_apart (own := y.1.cls) hts hin (ob_ty ci) hty hnm hK hc
  obtain ⟨r, h1, cell, q1, q2, q3, q4⟩ := (a2 a ci n0 ha).obj h7
  have hr : r = (CC, T, N) := Option.some.inj (h1.symm.trans hc)
  subst hr
  obtain ⟨hS, hfc, kC, hkC, hkind⟩ := hK.1 ci _ hc
  obtain ⟨cf, kf9, fi, f, hi, hsl⟩ := hS kf hk
  have hlay := hts _ (hin _ (u_in_lay hk))
  unfold u_lay at hlay
  rw [if_pos hfin] at hlay
  have hst := (u_facts hfc hkC (u_lays hts hin hk) hi).1
  have hcf : m.cls = cf := by
    obtain ⟨_, _, c', _, _, _, -, -, hf', -, -, -, hown2, -⟩ := Cond.laysFinal_spec hlay
    have e1 : c' = cf := by have := hi.symm.trans hf'; simp at this; exact this.1.symm
    rw [hcls, hCC] at hown2
    rw [← e1]; exact Option.some.inj (C.2.2.2.2.1.symm.trans hown2)
  have h6 := u_fits hfc hkC hkind (Or.inr hlay) hi (hty kf hk) hn hv
  refine W.putFinK C.1 C.2.1 C.2.2.2.2.1 (hts _ hl) hi hst hcf (C.2.2.2.2.2.2.2.1.trans hin2) (by rw [q2]; exact h6) q1 q3 (by rw [hsl]; exact k2_hasslot (q4 kf hk)) rfl rfl hdg fun H' e1 e2 e3 => ?_
  rw [hsl] at e1 ⊢
  refine kk p e s m args below meth c C H' _ ls a1 (ob_P.put (a := a) a2 rfl ?_ e3 (fun b hb => by funext j; exact ob_set_a _ _ _ _ j hb) (fun _ _ => rfl) (fun _ _ => rfl)) a3 (a4.put e2 e3 (a3 a _ ha))
  intro c9 n9 h9
  cases h9.symm.trans ha
  refine ob_at.mk h7 ⟨_, hc, t_OB.to (V := updV (w.2.1 a) kf v) ⟨_, e1, q2, q3, t_set q4 hap hk v⟩ (fun j _ => ?_)⟩
  simp [updV, ob_set]
/-- a new cell at q -/
def ob_new (T : ob_T) (q c n : Nat) : ob_T := fun b => if b = q then some (c, n) else T b
def ob_row {α : Type} (V : Nat → α) (q : Nat) (f : α) : Nat → α := fun b => if b = q then f else V b
theorem ob_P.push {D : ob_D} {w w' : ob_w} {H H1 : Heap} {c n : Nat} (h : ob_P D w H) (z : H1.size = H.size + 1) (oq : ∀ q : Nat, q < H.size → H1[q]? = H[q]?) (hT : w'.1 = ob_new w.1 H.size c n) (ha : ob_at D w' H.size c n H1)
    (hV : ∀ b, b ≠ H.size → w'.2.1 b = w.2.1 b) (hB : ∀ b, b ≠ H.size → w'.2.2.1 b = w.2.2.1 b) (hJ : ∀ b, b ≠ H.size → w'.2.2.2 b = w.2.2.2 b) : ob_P D w' H1 := by
  intro b c9 n9 hb
  rw [hT] at hb
  unfold ob_new at hb
  split at hb
  · rename_i e; subst e; cases hb; exact ha
  · rename_i e
    exact ((h b c9 n9 hb).kept (oq b (h b c9 n9 hb).lt)).same (hV b e) (hB b e) (hJ b e)
theorem og_new {idx ci N : Nat} {C : String} {T : u_T} {fs : Nat → Value} (hdg : decode y.2.1 pc = .ok (.new idx, 3)) (hc : ob_cl ci C T N) (hl : Cond.classLink y.1.cls idx C ∈ ob_tb) (hi : Cond.instantiable C N ∈ ob_tb) (hini : Cond.initialized C ∈ ob_tb) (hfs : ∀ j, j < N → defaultValue (ob_ty ci j) = fs j) (hk : k + 1 ≤ R.cells) (hs : n + N ≤ R.slots)
    (kk : ∀ q, w.1 q = none → X.2.2 ≤ q → ob_G X y R Q (pc + 3) lv (.ref q :: st) (ob_new w.1 q ci 0, ob_row w.2.1 q fs, w.2.2.1, w.2.2.2) (k + 1) (n + N)) : ob_G X y R Q pc lv st w k n := by
  intro p e s m args below meth c C9 H locs ls a1 a2 a3 a4
  obtain ⟨hc0, h7, hin, hty, hnm⟩ := hc
  have hts := C9.2.2.2.2.2.1
  have hK := C9.2.2.2.2.2.2.2.2.2.1.1
  have hKn := hK.1 ci _ hc0
  refine W.newcK C9.1 C9.2.1 C9.2.2.2.2.1 (hts _ hl) (hts _ hi) (hts _ hini) rfl hdg hk hs hKn.2.1 rfl fun H1 kC hkC e1 z1 o1 => ?_
  have hq : w.1 H.size = none := by
    cases hz : w.1 H.size with
    | none => rfl
    | some x => exact absurd (a2 _ x.1 x.2 hz).lt (Nat.lt_irrefl _)
  have hlo : X.2.2 ≤ H.size := Nat.le_trans C9.2.2.2.2.2.2.2.2.2.2 a4.1
  refine kk H.size hq hlo p e s m args below meth c C9 H1 locs ls a1 (ob_P.push a2 z1 o1 rfl (ob_at.mk h7 ⟨_, hc0, ?_⟩) (fun b hb => by simp [ob_row, hb]) (fun _ _ => rfl) (fun _ _ => rfl)) ?_ ⟨Nat.le_trans a4.1 (by omega), fun x h1 h2 => (o1 x (Nat.lt_of_lt_of_le h1 a4.1)).trans (a4.2.1 x h1 h2), a4.2.2⟩
  · refine (u_born (ob_ty ci) hts hin hKn hkC e1 hty).to (fun j hj => ?_)
    simp [ob_row, hfs j hj]
  · intro a x hx
    unfold ob_new at hx
    dsimp only at hx
    split at hx
    · rename_i e9; subst e9; exact hlo
    · exact a3 a x hx
theorem og_objInit {idx a : Nat} (hdg : decode y.2.1 pc = .ok (.invokespecial idx, 3)) (hl : Cond.methodLink y.1.cls idx objectInit ∈ ob_tb) (hi : Cond.instanceMethod objectInit ∈ ob_tb) (hc : Cond.code objectInit ⟨#[0xb1]⟩ 1 none ∈ ob_tb) (hf : 1 ≤ R.frames) (hlo : (st.map fun v => v.category).sum + 12 ≤ R.locals) (kk : ob_G X y R Q (pc + 3) lv st w k n) : ob_G X y R Q pc lv (.ref a :: st) w k n := fun p e s m args below meth c C H locs ls a1 a2 a3 a4 => W.objInit C.1 C.2.1 C.2.2.2.2.1 (C.2.2.2.2.2.1 _ hl) (C.2.2.2.2.2.1 _ hi) (C.2.2.2.2.2.1 _ hc) rfl (by show ls.size = c.maxLocals; rw [C.2.2.2.1]; exact a1.1) rfl hdg hf (by show 2 * 0 + _ + 12 ≤ _; omega) (kk p e s m args below meth c C H locs ls a1 a2 a3 a4)
theorem og_mmax {idx : Nat} {x x9 : Int32} (hdg : decode y.2.1 pc = .ok (.invokestatic idx, 3)) (hl : Cond.methodLink y.1.cls idx Lib.Math.max.name ∈ ob_tb) (hf : 1 ≤ R.frames) (hlo : (st.map fun v => v.category).sum + 13 ≤ R.locals) (hk : k ≤ R.cells) (hs : n ≤ R.slots) (h1 : Cond.static Lib.Math.max.name ∈ ob_tb) (h2 : Cond.initialized "java/lang/Math" ∈ ob_tb) (h3 : Cond.code Lib.Math.max.name Lib.Math.max.code 2 (some .int) ∈ ob_tb) (kk : ob_G X y R Q (pc + 3) lv (.int (if x < x9 then x9 else x) :: st) w k n) : ob_G X y R Q pc lv (.int x9 :: .int x :: st) w k n := fun p e s m args below meth c C H locs ls a1 a2 a3 a4 => va_mmax C.1 C.2.1 (by rw [C.2.2.2.1]; exact a1.1.symm) C.2.2.2.2.1 (C.2.2.2.2.2.1 _ hl) (C.2.2.2.2.2.1 _ h1) (C.2.2.2.2.2.1 _ h2) (C.2.2.2.2.2.1 _ h3) hf hlo hk hs hdg (kk p e s m args below meth c C H locs ls a1 a2 a3 a4)
theorem og_mmin {idx : Nat} {x x9 : Int32} (hdg : decode y.2.1 pc = .ok (.invokestatic idx, 3)) (hl : Cond.methodLink y.1.cls idx Lib.Math.min.name ∈ ob_tb) (hf : 1 ≤ R.frames) (hlo : (st.map fun v => v.category).sum + 13 ≤ R.locals) (hk : k ≤ R.cells) (hs : n ≤ R.slots) (h1 : Cond.static Lib.Math.min.name ∈ ob_tb) (h2 : Cond.initialized "java/lang/Math" ∈ ob_tb) (h3 : Cond.code Lib.Math.min.name Lib.Math.min.code 2 (some .int) ∈ ob_tb) (kk : ob_G X y R Q (pc + 3) lv (.int (if x9 < x then x9 else x) :: st) w k n) : ob_G X y R Q pc lv (.int x9 :: .int x :: st) w k n := fun p e s m args below meth c C H locs ls a1 a2 a3 a4 => va_mmin C.1 C.2.1 (by rw [C.2.2.2.1]; exact a1.1.symm) C.2.2.2.2.1 (C.2.2.2.2.2.1 _ hl) (C.2.2.2.2.2.1 _ h1) (C.2.2.2.2.2.1 _ h2) (C.2.2.2.2.2.1 _ h3) hf hlo hk hs hdg (kk p e s m args below meth c C H locs ls a1 a2 a3 a4)
/-! arrays -/
theorem og_bald {a m0 : Nat} {i : Int32} (hdg : decode y.2.1 pc = .ok (.baload, 1)) (ha : w.1 a = some (7, m0)) (hi : vp_in i m0) (kk : ob_G X y R Q (pc + 1) lv (.int (w.2.2.1 a i.toNatClampNeg) :: st) w k n) : ob_G X y R Q pc lv (.int i :: .ref a :: st) w k n := by
  intro p e s m args below meth c C H locs ls a1 a2 a3 a4
  have h := a2 a 7 m0 ha
  have hK := C.2.2.2.2.2.2.2.2.2.1.1
  have hlt : i.toNatClampNeg < m0 := Nat.not_le.mp fun q => hi (Or.inr q)
  exact W.bald (v := .int (w.2.2.1 a i.toNatClampNeg)) C.1 C.2.1 h ((hK.2 0 _ rfl).1 m0 _) (fun q => by cases q) (by show ¬ (i < 0 ∨ (arrV _ _ _).slots.size ≤ _); rw [arrV_size]; exact hi) (arrV_read _ _ hlt) rfl rfl hdg (kk p e s m args below meth c C H locs ls a1 a2 a3 a4)
theorem og_iald {a m0 : Nat} {i : Int32} (hdg : decode y.2.1 pc = .ok (.iaload, 1)) (ha : w.1 a = some (8, m0)) (hi : vp_in i m0) (kk : ob_G X y R Q (pc + 1) lv (.int (w.2.2.1 a i.toNatClampNeg) :: st) w k n) : ob_G X y R Q pc lv (.int i :: .ref a :: st) w k n := by
  intro p e s m args below meth c C H locs ls a1 a2 a3 a4
  have h := a2 a 8 m0 ha
  have hK := C.2.2.2.2.2.2.2.2.2.1.1
  have hlt : i.toNatClampNeg < m0 := Nat.not_le.mp fun q => hi (Or.inr q)
  exact W.iald (v := .int (w.2.2.1 a i.toNatClampNeg)) C.1 C.2.1 h ((hK.2 1 _ rfl).1 m0 _) (fun q => by cases q) (by show ¬ (i < 0 ∨ (arrV _ _ _).slots.size ≤ _); rw [arrV_size]; exact hi) (arrV_read _ _ hlt) rfl rfl hdg (kk p e s m args below meth c C H locs ls a1 a2 a3 a4)
theorem og_lald {a m0 : Nat} {i : Int32} (hdg : decode y.2.1 pc = .ok (.laload, 1)) (ha : w.1 a = some (9, m0)) (hi : vp_in i m0) (kk : ob_G X y R Q (pc + 1) lv (.long (w.2.2.2 a i.toNatClampNeg) :: st) w k n) : ob_G X y R Q pc lv (.int i :: .ref a :: st) w k n := by
  intro p e s m args below meth c C H locs ls a1 a2 a3 a4
  have h := a2 a 9 m0 ha
  have hK := C.2.2.2.2.2.2.2.2.2.1.1
  have hlt : i.toNatClampNeg < m0 := Nat.not_le.mp fun q => hi (Or.inr q)
  exact W.lald (v := .long (w.2.2.2 a i.toNatClampNeg)) C.1 C.2.1 h ((hK.2 2 _ rfl).1 m0 _) (fun q => by cases q) (by show ¬ (i < 0 ∨ (arrV _ _ _).slots.size ≤ _); rw [arrV_size]; exact hi) (arrV_read _ _ hlt) rfl rfl hdg (kk p e s m args below meth c C H locs ls a1 a2 a3 a4)
theorem og_bast {a m0 : Nat} {i x : Int32} (hdg : decode y.2.1 pc = .ok (.bastore, 1)) (ha : w.1 a = some (7, m0)) (hi : vp_in i m0) (kk : ob_G X y R Q (pc + 1) lv st (w.1, w.2.1, ob_set w.2.2.1 a i.toNatClampNeg x.toInt8.toInt32, w.2.2.2) k n) : ob_G X y R Q pc lv (.int x :: .int i :: .ref a :: st) w k n := by
  intro p e s m args below meth c C H locs ls a1 a2 a3 a4
  have h := a2 a 7 m0 ha
  have hK := C.2.2.2.2.2.2.2.2.2.1.1
  refine W.bast C.1 C.2.1 h ((hK.2 0 _ rfl).1 m0 _) (fun q => by cases q) (by show ¬ (i < 0 ∨ (arrV _ _ _).slots.size ≤ _); rw [arrV_size]; exact hi) rfl rfl hdg fun H1 e1 z oq => ?_
  refine kk p e s m args below meth c C H1 _ ls a1 (ob_P.put (a := a) a2 rfl ?_ oq (fun _ _ => rfl) (fun b hb => by funext j; exact ob_set_a _ _ _ _ j hb) (fun _ _ => rfl)) a3 (a4.put z oq (a3 a _ ha))
  intro c9 n9 h9
  cases h9.symm.trans ha
  show H1[a]? = some (arrV _ _ _)
  rw [e1, arrV_store]
  congr 2
  funext q
  by_cases hq : q = i.toNatClampNeg
  · subst hq; simp [updV, ob_set, narrow]
  · simp [updV, ob_set, hq]
theorem og_iast {a m0 : Nat} {i x : Int32} (hdg : decode y.2.1 pc = .ok (.iastore, 1)) (ha : w.1 a = some (8, m0)) (hi : vp_in i m0) (kk : ob_G X y R Q (pc + 1) lv st (w.1, w.2.1, ob_set w.2.2.1 a i.toNatClampNeg x, w.2.2.2) k n) : ob_G X y R Q pc lv (.int x :: .int i :: .ref a :: st) w k n := by
  intro p e s m args below meth c C H locs ls a1 a2 a3 a4
  have h := a2 a 8 m0 ha
  have hK := C.2.2.2.2.2.2.2.2.2.1.1
  refine W.iast C.1 C.2.1 h ((hK.2 1 _ rfl).1 m0 _) (fun q => by cases q) (by show ¬ (i < 0 ∨ (arrV _ _ _).slots.size ≤ _); rw [arrV_size]; exact hi) rfl rfl hdg fun H1 e1 z oq => ?_
  refine kk p e s m args below meth c C H1 _ ls a1 (ob_P.put (a := a) a2 rfl ?_ oq (fun _ _ => rfl) (fun b hb => by funext j; exact ob_set_a _ _ _ _ j hb) (fun _ _ => rfl)) a3 (a4.put z oq (a3 a _ ha))
  intro c9 n9 h9
  cases h9.symm.trans ha
  show H1[a]? = some (arrV _ _ _)
  rw [e1, arrV_store]
  congr 2
  funext q
  by_cases hq : q = i.toNatClampNeg
  · subst hq; simp [updV, ob_set]
  · simp [updV, ob_set, hq]
theorem og_last {a m0 : Nat} {i : Int32} {x : Int64} (hdg : decode y.2.1 pc = .ok (.lastore, 1)) (ha : w.1 a = some (9, m0)) (hi : vp_in i m0) (kk : ob_G X y R Q (pc + 1) lv st (w.1, w.2.1, w.2.2.1, ob_set w.2.2.2 a i.toNatClampNeg x) k n) : ob_G X y R Q pc lv (.long x :: .int i :: .ref a :: st) w k n := by
  intro p e s m args below meth c C H locs ls a1 a2 a3 a4
  have h := a2 a 9 m0 ha
  have hK := C.2.2.2.2.2.2.2.2.2.1.1
  refine W.last C.1 C.2.1 h ((hK.2 2 _ rfl).1 m0 _) (fun q => by cases q) (by show ¬ (i < 0 ∨ (arrV _ _ _).slots.size ≤ _); rw [arrV_size]; exact hi) rfl rfl hdg fun H1 e1 z oq => ?_
  refine kk p e s m args below meth c C H1 _ ls a1 (ob_P.put (a := a) a2 rfl ?_ oq (fun _ _ => rfl) (fun _ _ => rfl) (fun b hb => by funext j; exact ob_set_a _ _ _ _ j hb)) a3 (a4.put z oq (a3 a _ ha))
  intro c9 n9 h9
  cases h9.symm.trans ha
  show H1[a]? = some (arrV _ _ _)
  rw [e1, arrV_store]
  congr 2
  funext q
  by_cases hq : q = i.toNatClampNeg
  · subst hq; simp [updV, ob_set]
  · simp [updV, ob_set, hq]
theorem og_alen {a c0 m0 : Nat} (hdg : decode y.2.1 pc = .ok (.arraylength, 1)) (ha : w.1 a = some (c0, m0)) (h0 : c0 = 7 ∨ c0 = 8) (kk : ob_G X y R Q (pc + 1) lv (.int (nI m0) :: st) w k n) : ob_G X y R Q pc lv (.ref a :: st) w k n := by
  intro p e s m args below meth c C H locs ls a1 a2 a3 a4
  have h := a2 a c0 m0 ha
  have hK := C.2.2.2.2.2.2.2.2.2.1.1
  rcases h0 with rfl | rfl
  · exact W.alen (n := nI m0) C.1 C.2.1 h ((hK.2 0 _ rfl).1 m0 _) (by rw [arrV_size] <;> rfl) rfl rfl hdg (kk p e s m args below meth c C H locs ls a1 a2 a3 a4)
  · exact W.alen (n := nI m0) C.1 C.2.1 h ((hK.2 1 _ rfl).1 m0 _) (by rw [arrV_size] <;> rfl) rfl rfl hdg (kk p e s m args below meth c C H locs ls a1 a2 a3 a4)
/-- new arrays: t = 0 byte[], 1 int[], 2 long[] -/
theorem og_newa {t : Nat} {at9 : ArrayType} {m0 : Nat} {i : Int32} (hdg : decode y.2.1 pc = .ok (.newarray at9, 2)) (hty : (t = 0 ∧ at9 = .byte) ∨ (t = 1 ∧ at9 = .int) ∨ (t = 2 ∧ at9 = .long)) (harr : Cond.arrayClass (newarray.typeOf at9) ∈ ob_tb) (hi : i = nI m0) (hm : m0 ≤ 1000000) (hk : k + 1 ≤ R.cells) (hs : n + m0 ≤ R.slots)
    (kk : ∀ q, w.1 q = none → X.2.2 ≤ q → ob_G X y R Q (pc + 2) lv (.ref q :: st) (ob_new w.1 q (7 + t) m0, w.2.1, ob_row w.2.2.1 q (fun _ => 0), ob_row w.2.2.2 q (fun _ => 0)) (k + 1) (n + m0)) : ob_G X y R Q pc lv (.int i :: st) w k n := by
  intro p e s m args below meth c C H locs ls a1 a2 a3 a4
  have hK := C.2.2.2.2.2.2.2.2.2.1.1
  have hts := C.2.2.2.2.2.1
  subst hi
  refine va_newaK C.1 C.2.1 (hts _ harr) rfl hdg rfl (nI_pos (by omega)) (nI_clamp (by omega)) (by rcases hty with ⟨-, rfl⟩ | ⟨-, rfl⟩ | ⟨-, rfl⟩ <;> simp [newarray.typeOf, componentBytes] <;> omega) hk hs rfl fun H1 cA e1 z1 o1 hAr hNm => ?_
  have hq : w.1 H.size = none := by
    cases hz : w.1 H.size with
    | none => rfl
    | some x => exact absurd (a2 _ x.1 x.2 hz).lt (Nat.lt_irrefl _)
  have hlo : X.2.2 ≤ H.size := Nat.le_trans C.2.2.2.2.2.2.2.2.2.2 a4.1
  refine kk H.size hq hlo p e s m args below meth c C H1 locs ls a1 (ob_P.push a2 z1 o1 rfl ?_ (fun _ _ => rfl) (fun b hb => by simp [ob_row, hb]) (fun b hb => by simp [ob_row, hb])) ?_ ⟨Nat.le_trans a4.1 (by omega), fun x h1 h2 => (o1 x (Nat.lt_of_lt_of_le h1 a4.1)).trans (a4.2.1 x h1 h2), a4.2.2⟩
  · rcases hty with ⟨rfl, rfl⟩ | ⟨rfl, rfl⟩ | ⟨rfl, rfl⟩
    · have e9 : cA = X.2.1.2 0 := Option.some.inj (hNm.symm.trans (hK.2 0 _ rfl).2)
      subst e9
      simpa [ob_at, ob_row, newarray.typeOf, defaultValue] using e1
    · have e9 : cA = X.2.1.2 1 := Option.some.inj (hNm.symm.trans (hK.2 1 _ rfl).2)
      subst e9
      simpa [ob_at, ob_row, newarray.typeOf, defaultValue] using e1
    · have e9 : cA = X.2.1.2 2 := Option.some.inj (hNm.symm.trans (hK.2 2 _ rfl).2)
      subst e9
      simpa [ob_at, ob_row, newarray.typeOf, defaultValue] using e1
  · intro a x hx
    unfold ob_new at hx
    dsimp only at hx
    split at hx
    · rename_i e9; subst e9; exact hlo
    · exact a3 a x hx
theorem og_ldc {idx : Nat} {v : Int32} (hdg : decode y.2.1 pc = .ok (.ldc idx, 2)) (hc : Cond.constant y.1.cls idx v ∈ ob_tb) (kk : ob_G X y R Q (pc + 2) lv (.int v :: st) w k n) : ob_G X y R Q pc lv st w k n := fun p e s m args below meth c C H locs ls a1 a2 a3 a4 => lv_ldc C.1 C.2.1 C.2.2.2.2.1 (C.2.2.2.2.2.1 _ hc) hdg (kk p e s m args below meth c C H locs ls a1 a2 a3 a4)
theorem og_ldcw {idx : Nat} {v : Int32} (hdg : decode y.2.1 pc = .ok (.ldc_w idx, 3)) (hc : Cond.constant y.1.cls idx v ∈ ob_tb) (kk : ob_G X y R Q (pc + 3) lv (.int v :: st) w k n) : ob_G X y R Q pc lv st w k n := fun p e s m args below meth c C H locs ls a1 a2 a3 a4 => lv_ldcw C.1 C.2.1 C.2.2.2.2.1 (C.2.2.2.2.2.1 _ hc) hdg (kk p e s m args below meth c C H locs ls a1 a2 a3 a4)
theorem og_ldc2 {idx : Nat} {v : Int64} (hdg : decode y.2.1 pc = .ok (.ldc2_w idx, 3)) (hc : Cond.constantLong y.1.cls idx v ∈ ob_tb) (kk : ob_G X y R Q (pc + 3) lv (.long v :: st) w k n) : ob_G X y R Q pc lv st w k n := fun p e s m args below meth c C H locs ls a1 a2 a3 a4 => lv_ldc2 C.1 C.2.1 C.2.2.2.2.1 (C.2.2.2.2.2.1 _ hc) hdg (kk p e s m args below meth c C H locs ls a1 a2 a3 a4)
theorem og_tableOut {dflt lo hi : Int} {offs : Array Int} {len : Nat} {x : Int32} {tgt : Nat} (hdg : decode y.2.1 pc = .ok (.tableswitch dflt lo hi offs, len)) (h : x.toInt < lo ∨ hi < x.toInt) (ht : (pc : Int) + dflt = (tgt : Int)) (kk : ob_G X y R Q tgt lv st w k n) : ob_G X y R Q pc lv (.int x :: st) w k n := fun p e s m args below meth c C H locs ls a1 a2 a3 a4 => lv_tableOut C.1 C.2.1 hdg h ht (kk p e s m args below meth c C H locs ls a1 a2 a3 a4)
theorem og_tableIn {dflt lo hi : Int} {offs : Array Int} {len : Nat} {x : Int32} {off : Int} {tgt : Nat} (hdg : decode y.2.1 pc = .ok (.tableswitch dflt lo hi offs, len)) (h1 : ¬ x.toInt < lo) (h2 : ¬ hi < x.toInt) (ho : offs[(x.toInt - lo).toNat]? = some off) (ht : (pc : Int) + off = (tgt : Int)) (kk : ob_G X y R Q tgt lv st w k n) : ob_G X y R Q pc lv (.int x :: st) w k n := fun p e s m args below meth c C H locs ls a1 a2 a3 a4 => lv_tableIn C.1 C.2.1 hdg h1 h2 ho ht (kk p e s m args below meth c C H locs ls a1 a2 a3 a4)
/-! contracts and calls -/
def ob_wd (X : ob_X) (w : ob_w) (U : State) : Prop := ob_P X.2.1 w U.heap ∧ ob_lo X w ∧ X.2.2 ≤ U.heap.size ∧ ob_K X U
def ob_ws (y : ob_y) : List Cond := Cond.code y.1 y.2.1 y.2.2.1 y.2.2.2.1 :: ob_tb
abbrev ob_rm (d mc ms : Nat) : Room := { frames := d, cells := mc, slots := ms, locals := 60 * d }
/-- method y, called with As in the world w, ends with Q: d frames deep, at most mc new cells of ms slots -/
def ob_C (X : ob_X) (y : ob_y) (d mc ms : Nat) (As : List Value) (w : ob_w) (Q : ob_r → ob_w → Prop) : Prop :=
  vx_Met X.1 y.1 (ob_ws y) (ob_rm d mc ms) (va_Pc As (ob_wd X w)) (ob_Qc X Q) (ob_XC X Q) mc ms (fun q => X.2.2 ≤ q)
theorem ob_C_of {X : ob_X} {y : ob_y} {d mc ms : Nat} {As : List Value} {w : ob_w} {Q : ob_r → ob_w → Prop} (hy : plainName y.1.cls = true) (hh : y.2.2.2.2 = []) (hl : (lg_sl As).length ≤ y.2.2.1) (h : ob_G X y (ob_rm d mc ms) Q 0 (lv_args 0 As) [] w 0 0) : ob_C X y d mc ms As w Q := by
  refine vx_ofW (cc := y.2.1) (maxL := y.2.2.1) (ret := y.2.2.2.1) hy rfl ?_
  intro p e s m args below meth c s₁ B hml htab hv
  obtain ⟨rfl, hP, hlo, hsz, hK⟩ := hv
  have hts := atoms_spec (ws := ob_ws y) B.pre
  have hent := lv_entry As (n := y.2.2.1) hl
  rw [lg_entry_eq]
  have ht : c.exceptionTable.toList = tableOf y.2.2.2.2 := by
    rw [hh]
    cases hz : c.exceptionTable.toList with
    | nil => rfl
    | cons x l => exact absurd (htab x (by rw [hz]; exact List.mem_cons_self)) (fun z => z)
  exact h p e s m As.toArray below meth c ⟨B.exec, B.bytes, B.returns, hml, findClass_of_methodNamed B.named, fun w9 h9 => hts w9 (List.mem_cons_of_mem _ h9), B.notSynchronized, (name_of_methodNamed B.named B.method).1, ht, hK, hsz⟩ s.heap [] _ hent hP hlo va_S.rf
theorem ob_K.warm {X : ob_X} {s U : State} {H : Heap} {locs : List Loc} (h : ob_K X s) (hS : va_S (fun q => X.2.2 ≤ q) s.heap H locs) (hU : U.heap = H) (hW : s.WarmedH U.vm) : ob_K X U := by
  obtain ⟨h1, h2, h3, h4, h5, h6, h7, h8, h9⟩ := h
  refine ⟨va_K.moved hW.alike h1, h2, fun q hq => ?_, fun x hx => va_Nw.warmD hW (h4 x hx), ?_, ?_, ob_N.moved hW h7, h8, ?_⟩
  · obtain ⟨sa, hsa⟩ := h3 q hq
    exact ⟨sa, hsa.warm hW⟩
  · rw [hU]; exact vx_Zq.moved hW.alike (h5.kept hS.2.1)
  · rw [hU]; exact vx_Zq.moved hW.alike (h6.kept hS.2.1)
  · refine va_X.moved hW.alike (h9.kept ?_)
    have hl9 : X.2.1.2 3 < s.heap.size := by
      obtain ⟨scr, q1, -⟩ := h9
      exact (Array.getElem?_eq_some_iff.mp q1).1
    rw [hU]
    exact hS.2.1 _ hl9 (Nat.not_le.mpr h8)
theorem ob_wd.blind {X : ob_X} {w : ob_w} (As : List Value) : FrameBlind (va_Pc As (ob_wd X w)) := by
  intro a U g mk h
  obtain ⟨h0, h1, h2, h3, h4, h5, h6, h7, h8, h9, h10, h11, h12⟩ := h
  refine ⟨h0, h1, h2, h3, va_K.moved (u := U) (U := U.calling g mk a) (Vm.Alike.refl U.vm) h4, h5, fun q hq => ?_, fun x hx => va_Nw.same rfl (u := U) (U := U.calling g mk a) rfl (h7 x hx), vx_Zq.moved (u := U) (U := U.calling g mk a) (Vm.Alike.refl U.vm) h8, vx_Zq.moved (u := U) (U := U.calling g mk a) (Vm.Alike.refl U.vm) h9, ob_N.same (u := U) (U := U.calling g mk a) rfl h10, h11, va_X.moved (u := U) (U := U.calling g mk a) (Vm.Alike.refl U.vm) h12⟩
  obtain ⟨sa, hsa⟩ := h6 q hq
  exact ⟨sa, vk_R.same (u := U) (U := U.calling g mk a) rfl hsa⟩
/-- behind a call -/
theorem ob_callW {p : Program} {e : Env} {s : State} {m : MethodId} {args a : Array Value} {below : List Frame} {meth : Method} {c : Code} {H : Heap} {locs : List Loc} {ls : Array Slot} {mc ms : Nat} {stk : List Value} {Qe : State → Prop} {Q2 : ob_r → ob_w → Prop}
    (hr : vx_Run p X.1 e R s m args below meth c H locs k n mc ms (F0 m pc ls stk) st (ob_Qc X Q2 a) (ob_XC X Q2) (fun q => X.2.2 ≤ q)) (hS : va_S (fun q => X.2.2 ≤ q) s.heap H locs)
    (kx : ∀ (E : String) (ce : Cell) (q : Addr) (w' : ob_w) (H1 : Heap) (locs1 : List Loc), Q2 (.inr E) w' → ob_P X.2.1 w' H1 → ob_lo X w' → va_S (fun q => X.2.2 ≤ q) s.heap H1 locs1 → H1[q]? = some ce → ce.vm = .none → s.vm.findClass E = some ce.cls → vx_W p X.1 e R s m args below meth c H1 locs1 (k + mc) (n + ms) Qe (F0 m pc ls st) q)
    (kk : ∀ (v : Option Value) (w' : ob_w) (H1 : Heap) (locs1 : List Loc), Q2 (.inl v) w' → ob_P X.2.1 w' H1 → ob_lo X w' → va_S (fun q => X.2.2 ≤ q) s.heap H1 locs1 → W p X.1 e R s m args below meth c H1 locs1 (k + mc) (n + ms) Qe (F0 m (pc + 3) ls (v.toList ++ st))) : W p X.1 e R s m args below meth c H locs k n Qe (F0 m pc ls stk) := by
  intro T hT X9
  rcases hr T hT X9 with ⟨v, st₀, t, T', L, h0, X', hL, e1, e2, ⟨⟨v', w', hv, hq, hP, hlo⟩, hF⟩, st9⟩ | ⟨q, st₀, t, T', L, E, ce, h0, X', hL, e1, e2, ⟨⟨w', hq, hP, hlo⟩, hF⟩, hce, hcv, hcl, st9⟩
  · cases hv
    obtain ⟨k1, k2, k3⟩ := vx_keep h0 e1 hS (fun q _ h => h) (fun q h => h) hL hF
    obtain ⟨t2, a1, b1⟩ := kk v w' T'.heap (locs ++ L) hq (by rw [e1]; exact hP) hlo k3 T' rfl X'
    exact ⟨t2, st9 t2 a1, b1⟩
  · obtain ⟨k1, k2, k3⟩ := vx_keep h0 e1 hS (fun q _ h => h) (fun q h => h) hL hF
    obtain ⟨t2, a1, b1⟩ := kx E ce q w' T'.heap (locs ++ L) hq (by rw [e1]; exact hP) hlo k3 (by rw [e1]; exact hce) hcv hcl T' rfl X'
    exact ⟨t2, st9.trans a1, b1⟩
/-- what a call of y needs of the tables -/
def ob_mk (y : ob_y) : Prop := Cond.code y.1 y.2.1 y.2.2.1 y.2.2.2.1 ∈ ob_tb ∧ Cond.initialized y.1.cls ∈ ob_tb ∧ y.1.cls ≠ "java/lang/invoke/MethodHandle" ∧ y.1.cls ≠ "java/lang/invoke/VarHandle"
def ob_mv (own : String) (idx : Nat) (y : ob_y) (np : Nat) : Prop := ob_mk y ∧ Cond.methodLink own idx y.1 ∈ ob_tb ∧ Cond.instanceMethod y.1 ∈ ob_tb ∧ Cond.selects y.1.cls y.1 y.1 ∈ ob_tb ∧ (parseMethodDescriptor y.1.desc).map (fun d => d.parameters.length) = some np
def ob_ms (own : String) (idx : Nat) (y : ob_y) (np : Nat) : Prop := ob_mk y ∧ Cond.methodLink own idx y.1 ∈ ob_tb ∧ Cond.static y.1 ∈ ob_tb ∧ (parseMethodDescriptor y.1.desc).map (fun d => d.parameters.length) = some np
/-- the same, of a private method of the outer class -/
def ob_msn (own : String) (idx : Nat) (y : ob_y) (np : Nat) : Prop := ob_mk y ∧ (own = RX1 ∧ (idx, y.1) ∈ ob_nst) ∧ Cond.static y.1 ∈ ob_tb ∧ (parseMethodDescriptor y.1.desc).map (fun d => d.parameters.length) = some np
def ob_mi (own : String) (idx : Nat) (y : ob_y) (np : Nat) : Prop := ob_mk y ∧ Cond.methodLink own idx y.1 ∈ ob_tb ∧ Cond.instanceMethod y.1 ∈ ob_tb ∧ y.1.name = "<init>" ∧ y.2.2.2.1 = none ∧ (parseMethodDescriptor y.1.desc).map (fun d => d.parameters.length) = some np
theorem ob_notab {p : Program} {e : Env} {s : State} {m : MethodId} {args : Array Value} {meth : Method} {c : Code} (C : ob_Cx X y p e s m args meth c) (hh : y.2.2.2.2 = []) (pc : Nat) : ∀ x ∈ c.exceptionTable.toList, covers x pc = false := by
  intro x hx
  rw [C.2.2.2.2.2.2.2.2.1, hh] at hx
  cases hx
theorem og_callV {idx b ci n0 d mc ms : Nat} {z : ob_y} {As stk : List Value} {Q2 : ob_r → ob_w → Prop} (hdg : decode y.2.1 pc = .ok (.invokevirtual idx, 3)) (hv : ob_mv y.1.cls idx z As.length) (hM : ob_C X z d mc ms (.ref b :: As) w Q2) (hb : w.1 b = some (ci, n0)) (hci : (vwCl[ci]?).map (fun q => q.1) = some z.1.cls) (hstk : stk = As.reverse ++ .ref b :: st) (hR : d + 1 ≤ R.frames ∧ 8 + (z.2.2.1 + 11) + 60 * d ≤ R.locals) (hk : k + mc ≤ R.cells) (hs : n + ms ≤ R.slots) (hsum : (st.map fun v => v.category).sum ≤ 8) (hh : y.2.2.2.2 = [])
    (kx : ∀ E w', Q2 (.inr E) w' → Q (.inr E) w') (kk : ∀ v w', Q2 (.inl v) w' → ob_G X y R Q (pc + 3) lv (v.toList ++ st) w' (k + mc) (n + ms)) : ob_G X y R Q pc lv stk w k n := by
  intro p e s m args below meth c C H locs ls a1 a2 a3 a4
  obtain ⟨⟨m1, m2, m3, m4⟩, m5, m6, m7, m8⟩ := hv
  have hts := C.2.2.2.2.2.1
  have hK := C.2.2.2.2.2.2.2.2.2.1
  have h7 : ci < 7 := by
    rcases Nat.lt_or_ge ci 7 with h | h
    · exact h
    · rw [List.getElem?_eq_none (by simpa using h)] at hci; cases hci
  obtain ⟨r, r1, cell, r2, r3, r4, -⟩ := (a2 b ci n0 hb).obj h7
  have hcell : s.vm.findClass z.1.cls = some cell.cls := by
    rw [r1] at hci
    have e9 : r.1 = z.1.cls := Option.some.inj hci
    rw [r3, ← e9]; exact (hK.1.1 ci r r1).2.1
  refine ob_callW (mc := mc) (ms := ms) (Q2 := Q2) (vx_runV (As := As) (b := b) (C := z.1.cls) (Ts := ob_tb) ⟨C.1, C.2.1, C.2.2.2.1, C.2.2.2.2.1, hts⟩ hM (cwV As.length hts (ob_gI (fun w9 h9 => ?_)) (ws' := ob_tb) rfl rfl rfl ⟨rfl, m3, m4, m8⟩ hR) ⟨ob_wd.blind _, ⟨cell, r2, by rw [r4]; rfl, hcell⟩, fun U hU hW => ⟨rfl, by rw [hU]; exact a2, a3, by rw [hU]; exact Nat.le_trans C.2.2.2.2.2.2.2.2.2.2 a4.1, hK.warm a4 hU hW⟩⟩ rfl rfl a1.1 hstk (lv_room hsum) hdg ⟨hk, hs⟩) a4 ?_ ?_
  · simp only [wsV, ob_ws, List.cons_append, List.nil_append, List.mem_cons] at h9
    rcases h9 with rfl | rfl | rfl | rfl | rfl | h9
    · exact m5
    · exact m6
    · exact m7
    · exact m2
    · exact m1
    · exact h9
  · intro E ce q w' H1 locs1 hq hP hlo hS hce hcv hcl
    exact vx_out (ob_notab C hh pc) C.2.2.2.2.2.2.1 hce hcv hcl (fun t ht hA => ⟨⟨w', kx E w' hq, by rw [ht]; exact hP, hlo⟩, hS.F ht⟩) hS.2.2 hk hs
  · intro v w' H1 locs1 hq hP hlo hS
    exact kk v w' hq p e s m args below meth c C H1 locs1 ls a1 hP hlo hS
theorem og_callS {idx d mc ms : Nat} {z : ob_y} {As stk : List Value} {Q2 : ob_r → ob_w → Prop} (hdg : decode y.2.1 pc = .ok (.invokestatic idx, 3)) (hv : ob_ms y.1.cls idx z As.length) (hM : ob_C X z d mc ms As w Q2) (hstk : stk = As.reverse ++ st) (hR : d + 1 ≤ R.frames ∧ 8 + (z.2.2.1 + 11) + 60 * d ≤ R.locals) (hk : k + mc ≤ R.cells) (hs : n + ms ≤ R.slots) (hsum : (st.map fun v => v.category).sum ≤ 8) (hh : y.2.2.2.2 = [])
    (kx : ∀ E w', Q2 (.inr E) w' → Q (.inr E) w') (kk : ∀ v w', Q2 (.inl v) w' → ob_G X y R Q (pc + 3) lv (v.toList ++ st) w' (k + mc) (n + ms)) : ob_G X y R Q pc lv stk w k n := by
  intro p e s m args below meth c C H locs ls a1 a2 a3 a4
  obtain ⟨⟨m1, m2, m3, m4⟩, m5, m6, m8⟩ := hv
  have hts := C.2.2.2.2.2.1
  have hK := C.2.2.2.2.2.2.2.2.2.1
  refine ob_callW (mc := mc) (ms := ms) (Q2 := Q2) (vx_runS (As := As) (Ts := ob_tb) ⟨C.1, C.2.1, C.2.2.2.1, C.2.2.2.2.1, hts⟩ hM ⟨callB_of As.length hts (ob_gI (fun w9 h9 => ?_)) (ws' := ob_tb) rfl rfl rfl (hts _ m2) (hts _ m5) ⟨m3, m4, m8⟩ hR, hts _ m6⟩ ⟨ob_wd.blind _, fun U hU hW => ⟨rfl, by rw [hU]; exact a2, a3, by rw [hU]; exact Nat.le_trans C.2.2.2.2.2.2.2.2.2.2 a4.1, hK.warm a4 hU hW⟩⟩ rfl rfl a1.1 hstk (lv_room hsum) hdg ⟨hk, hs⟩) a4 ?_ ?_
  · simp only [ob_ws, List.mem_cons] at h9
    rcases h9 with rfl | h9
    · exact m1
    · exact h9
  · intro E ce q w' H1 locs1 hq hP hlo hS hce hcv hcl
    exact vx_out (ob_notab C hh pc) C.2.2.2.2.2.2.1 hce hcv hcl (fun t ht hA => ⟨⟨w', kx E w' hq, by rw [ht]; exact hP, hlo⟩, hS.F ht⟩) hS.2.2 hk hs
  · intro v w' H1 locs1 hq hP hlo hS
    exact kk v w' hq p e s m args below meth c C H1 locs1 ls a1 hP hlo hS
theorem og_callSN {idx d mc ms : Nat} {z : ob_y} {As stk : List Value} {Q2 : ob_r → ob_w → Prop} (hdg : decode y.2.1 pc = .ok (.invokestatic idx, 3)) (hv : ob_msn y.1.cls idx z As.length) (hM : ob_C X z d mc ms As w Q2) (hstk : stk = As.reverse ++ st) (hR : d + 1 ≤ R.frames ∧ 8 + (z.2.2.1 + 11) + 60 * d ≤ R.locals) (hk : k + mc ≤ R.cells) (hs : n + ms ≤ R.slots) (hsum : (st.map fun v => v.category).sum ≤ 8) (hh : y.2.2.2.2 = [])
    (kx : ∀ E w', Q2 (.inr E) w' → Q (.inr E) w') (kk : ∀ v w', Q2 (.inl v) w' → ob_G X y R Q (pc + 3) lv (v.toList ++ st) w' (k + mc) (n + ms)) : ob_G X y R Q pc lv stk w k n := by
  intro p e s m args below meth c C H locs ls a1 a2 a3 a4
  obtain ⟨⟨m1, m2, m3, m4⟩, ⟨m5, m7⟩, m6, m8⟩ := hv
  have hts := C.2.2.2.2.2.1
  have hK := C.2.2.2.2.2.2.2.2.2.1
  refine ob_callW (mc := mc) (ms := ms) (Q2 := Q2) (vx_runSN (As := As) (host := RX5) (Ts := ob_tb) ⟨C.1, C.2.1, C.2.2.2.1, C.2.2.2.2.1, hts⟩ hM ⟨va_cnB As.length hts (ob_gI (fun w9 h9 => ?_)) (ws' := ob_tb) rfl rfl rfl (by rw [m5]; exact hK.2.2.2.2.2.2.1.2.2 _ m7) (hts _ m2) ⟨m3, m4, m8⟩ hR, hts _ m6⟩ ⟨ob_wd.blind _, fun U hU hW => ⟨rfl, by rw [hU]; exact a2, a3, by rw [hU]; exact Nat.le_trans C.2.2.2.2.2.2.2.2.2.2 a4.1, hK.warm a4 hU hW⟩⟩ rfl rfl a1.1 hstk (lv_room hsum) hdg ⟨hk, hs⟩) a4 ?_ ?_
  · simp only [ob_ws, List.mem_cons] at h9
    rcases h9 with rfl | h9
    · exact m1
    · exact h9
  · intro E ce q w' H1 locs1 hq hP hlo hS hce hcv hcl
    exact vx_out (ob_notab C hh pc) C.2.2.2.2.2.2.1 hce hcv hcl (fun t ht hA => ⟨⟨w', kx E w' hq, by rw [ht]; exact hP, hlo⟩, hS.F ht⟩) hS.2.2 hk hs
  · intro v w' H1 locs1 hq hP hlo hS
    exact kk v w' hq p e s m args below meth c C H1 locs1 ls a1 hP hlo hS
end OBH
