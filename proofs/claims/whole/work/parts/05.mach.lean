/-! MEMORY AND THE JUDGEMENT ob_G. A world w = (T, V, B, J): T a = some (kind, length) where a cell stands (kinds 0 .. 6: objects of vwCl's classes; 7 byte[], 8 int[], 9 long[]); V a k: field k of the object at a; B a j, J a j: what arrays hold. ob_G X y R Q pc lv st w k n: method y, at pc with the locals lv, the stack st and the world w, comes to its end with Q -/
abbrev ob_T : Type := Nat → Option (Nat × Nat)
abbrev ob_V : Type := Nat → Nat → Value
abbrev ob_B : Type := Nat → Nat → Int32
abbrev ob_J : Type := Nat → Nat → Int64
abbrev ob_w : Type := ob_T × ob_V × ob_B × ob_J
def ob_set {α : Type} (V : Nat → Nat → α) (a k : Nat) (v : α) : Nat → Nat → α := fun b j => if b = a ∧ j = k then v else V b j
theorem ob_set_s {α : Type} (V : Nat → Nat → α) (a k : Nat) (v : α) : ob_set V a k v a k = v := by simp [ob_set]
theorem ob_set_k {α : Type} (V : Nat → Nat → α) (a k : Nat) (v : α) (b : Nat) {j : Nat} (h : j ≠ k) : ob_set V a k v b j = V b j := by simp [ob_set, h]
theorem ob_set_a {α : Type} (V : Nat → Nat → α) (a k : Nat) (v : α) {b : Nat} (j : Nat) (h : b ≠ a) : ob_set V a k v b j = V b j := by simp [ob_set, h]
/-- classes' numbers and slots; the classes of byte[], int[], long[] -/
abbrev ob_D : Type := va_G × (Nat → ClassId)
def ob_at (D : ob_D) (w : ob_w) (a c n : Nat) (H : Heap) : Prop :=
  if c = 7 then H[a]? = some (arrV (D.2 0) n (fun j => .int (w.2.2.1 a j)))
  else if c = 8 then H[a]? = some (arrV (D.2 1) n (fun j => .int (w.2.2.1 a j)))
  else if c = 9 then H[a]? = some (arrV (D.2 2) n (fun j => .long (w.2.2.2 a j)))
  else ∃ r : vw_C, vwCl[c]? = some r ∧ t_OB a (D.1.1 c) r.2.2 (D.1.2 c) H (w.2.1 a)
def ob_P (D : ob_D) (w : ob_w) (H : Heap) : Prop := ∀ a c n, w.1 a = some (c, n) → ob_at D w a c n H
theorem ob_at.kept {D : ob_D} {w : ob_w} {a c n : Nat} {H H1 : Heap} (h : ob_at D w a c n H) (hq : H1[a]? = H[a]?) : ob_at D w a c n H1 := by
  unfold ob_at at h ⊢
  split
  · rename_i hc; rw [if_pos hc] at h; rw [hq]; exact h
  · rename_i hc; rw [if_neg hc] at h
    split
    · rename_i hc; rw [if_pos hc] at h; rw [hq]; exact h
    · rename_i hc; rw [if_neg hc] at h
      split
      · rename_i hc; rw [if_pos hc] at h; rw [hq]; exact h
      · rename_i hc; rw [if_neg hc] at h
        obtain ⟨r, h1, h2⟩ := h
        exact ⟨r, h1, h2.kept hq⟩
theorem ob_at.same {D : ob_D} {w w' : ob_w} {a c n : Nat} {H : Heap} (h : ob_at D w a c n H) (hV : w'.2.1 a = w.2.1 a) (hB : w'.2.2.1 a = w.2.2.1 a) (hJ : w'.2.2.2 a = w.2.2.2 a) : ob_at D w' a c n H := by
  unfold ob_at at h ⊢
  rw [hV, hB, hJ]
  exact h
theorem ob_at.lt {D : ob_D} {w : ob_w} {a c n : Nat} {H : Heap} (h : ob_at D w a c n H) : a < H.size := by
  unfold ob_at at h
  split at h
  · exact (Array.getElem?_eq_some_iff.mp h).1
  · split at h
    · exact (Array.getElem?_eq_some_iff.mp h).1
    · split at h
      · exact (Array.getElem?_eq_some_iff.mp h).1
      · obtain ⟨r, h1, cell, h2, -⟩ := h
        exact (Array.getElem?_eq_some_iff.mp h2).1
theorem ob_at.obj {D : ob_D} {w : ob_w} {a c n : Nat} {H : Heap} (hc : c < 7) (h : ob_at D w a c n H) : ∃ r : vw_C, vwCl[c]? = some r ∧ t_OB a (D.1.1 c) r.2.2 (D.1.2 c) H (w.2.1 a) := by
  unfold ob_at at h
  rwa [if_neg (by omega), if_neg (by omega), if_neg (by omega)] at h
theorem ob_at.mk {D : ob_D} {w : ob_w} {a c n : Nat} {H : Heap} (hc : c < 7) (h : ∃ r : vw_C, vwCl[c]? = some r ∧ t_OB a (D.1.1 c) r.2.2 (D.1.2 c) H (w.2.1 a)) : ob_at D w a c n H := by
  unfold ob_at
  rwa [if_neg (by omega), if_neg (by omega), if_neg (by omega)]
/-- one cell changes -/
theorem ob_P.put {D : ob_D} {w w' : ob_w} {H H1 : Heap} {a : Nat} (h : ob_P D w H) (hT : w'.1 = w.1) (ha : ∀ c n, w.1 a = some (c, n) → ob_at D w' a c n H1) (oq : ∀ q : Nat, q ≠ a → H1[q]? = H[q]?)
    (hV : ∀ b, b ≠ a → w'.2.1 b = w.2.1 b) (hB : ∀ b, b ≠ a → w'.2.2.1 b = w.2.2.1 b) (hJ : ∀ b, b ≠ a → w'.2.2.2 b = w.2.2.2 b) : ob_P D w' H1 := by
  intro b c n hb
  rw [hT] at hb
  by_cases hba : b = a
  · subst hba; exact ha c n hb
  · exact ((h b c n hb).kept (oq b hba)).same (hV b hba) (hB b hba) (hJ b hba)
/-- launch, classes, where the own cells begin -/
abbrev ob_X : Type := Launch × ob_D × Nat
def ob_lo (X : ob_X) (w : ob_w) : Prop := ∀ a x, w.1 a = some x → X.2.2 ≤ a
def ob_tys (D : ob_D) : List (ClassId × FieldType) := [(D.2 0, .byte), (D.2 1, .int), (D.2 2, .long)]
/-- the words of all methods -/
def ob_tb : List Cond := lw_tbl.filter goodWord
/-- the String constants of the throws -/
def ob_strs : List (Nat × String) := [(105, "no such key"), (116, "no such way to seek"), (131, "no such place"), (137, "no entry is current"), (139, "longer than a key"), (149, "fewer than none"), (164, "no such byte in the result"), (191, "no key"), (47, "not 1 to 8 bytes"), (57, "the tape is too short"), (72, "no key with a value"), (86, "full")]
/-- constructors that the throws' chain declares (no good words) -/
def ob_dcl : List MethodName := [⟨"java/lang/RuntimeException", "<init>", "(Ljava/lang/String;)V"⟩, ⟨"java/lang/Exception", "<init>", "(Ljava/lang/String;)V"⟩, ⟨"java/lang/Throwable", "<init>", "(Ljava/lang/String;)V"⟩]
/-- the outer class's private methods that the heap calls, by their links (no good words) -/
def ob_nst : List (Nat × MethodName) := [(72, yX5_copy), (91, yX5_numberAt)]
def ob_N (U : State) : Prop := va_Nc "java/lang/IllegalStateException" "java/lang/IllegalArgumentException" U ∧ va_Nc "java/util/NoSuchElementException" "java/lang/IllegalArgumentException" U ∧ ∀ q ∈ ob_nst, va_Nw (.methodLinkNest RX1 q.1 q.2 RX5) U
theorem ob_N.moved {u U : State} (hW : u.WarmedH U.vm) (h : ob_N u) : ob_N U := ⟨va_Nc.moved hW.alike h.1, va_Nc.moved hW.alike h.2.1, fun q hq => va_Nw.warmM hW (h.2.2 q hq)⟩
theorem ob_N.same {u U : State} (hvm : u.vm = U.vm) (h : ob_N u) : ob_N U := ⟨va_Nc.moved (by rw [hvm]; exact Vm.Alike.refl U.vm) h.1, va_Nc.moved (by rw [hvm]; exact Vm.Alike.refl U.vm) h.2.1, fun q hq => va_Nw.same rfl hvm (h.2.2 q hq)⟩
/-- the script: its cell, length and ints are kept behind the classes' numbers -/
def ob_scr (X : ob_X) (U : State) : Prop := X.2.1.2 3 < X.2.2 ∧ va_X (X.2.1.2 3) (X.2.1.2 4) (fun j => Int32.ofNat (X.2.1.2 (5 + j))) U U.heap
def ob_K (X : ob_X) (U : State) : Prop := va_K X.2.1.1 vwCl (ob_tys X.2.1) U ∧ X.1.stackTraces = false ∧ (∀ q ∈ ob_strs, ∃ sa, vk_R RX5 q.1 q.2 sa U) ∧ (∀ x ∈ ob_dcl, va_Nw (.declares x) U) ∧ vx_Zq Bundle.tN "UNASSIGNED_STACK" Bundle.steD (fun q => X.2.2 ≤ q) U U.heap ∧ vx_Zq Bundle.tN "SUPPRESSED_SENTINEL" Bundle.listD (fun q => X.2.2 ≤ q) U U.heap ∧ ob_N U ∧ ob_scr X U
/-- a method: name, code, locals, answer's type, its table of handlers -/
abbrev ob_y : Type := MethodName × ByteArray × Nat × Option FieldType × List (Nat × Nat × Nat × Nat)
/-- how a method ends: it returns (a value), or throws (a class) -/
abbrev ob_r : Type := Option Value ⊕ String
def ob_Qc (X : ob_X) (Q : ob_r → ob_w → Prop) : Array Value → State → Outcome → State → Prop := fun _ st oc t => (∃ (v : Option Value) (w : ob_w), oc = .returned v ∧ Q (.inl v) w ∧ ob_P X.2.1 w t.heap ∧ ob_lo X w) ∧ va_F (fun q => X.2.2 ≤ q) st t
def ob_XC (X : ob_X) (Q : ob_r → ob_w → Prop) : String → State → State → Prop := fun E st t => (∃ w : ob_w, Q (.inr E) w ∧ ob_P X.2.1 w t.heap ∧ ob_lo X w) ∧ va_F (fun q => X.2.2 ≤ q) st t
def ob_Cx (X : ob_X) (y : ob_y) (p : Program) (e : Env) (s : State) (m : MethodId) (args : Array Value) (meth : Method) (c : Code) : Prop :=
  p.tables.exec = Jvm.exec ∧ c.code = y.2.1 ∧ meth.sig.returnType = y.2.2.2.1 ∧ c.maxLocals = y.2.2.1 ∧ s.vm.findClass y.1.cls = some m.cls ∧ (∀ w ∈ ob_tb, w.before args s = true) ∧ meth.locks = false ∧ meth.name = y.1.name ∧ c.exceptionTable.toList = tableOf y.2.2.2.2 ∧ ob_K X s ∧ X.2.2 ≤ s.heap.size
def ob_G (X : ob_X) (y : ob_y) (R : Room) (Q : ob_r → ob_w → Prop) (pc : Nat) (lv : List (Nat × Value)) (st : List Value) (w : ob_w) (k n : Nat) : Prop :=
  ∀ (p : Program) (e : Env) (s : State) (m : MethodId) (args : Array Value) (below : List Frame) (meth : Method) (c : Code), ob_Cx X y p e s m args meth c →
    ∀ (H : Heap) (locs : List Loc) (ls : Array Slot), lv_has ls y.2.2.1 lv → ob_P X.2.1 w H → ob_lo X w → va_S (fun q => X.2.2 ≤ q) s.heap H locs →
      W p X.1 e R s m args below meth c H locs k n (vx_MQ below (ob_Qc X Q) (ob_XC X Q) args s R.cells R.slots (fun q => X.2.2 ≤ q)) (F0 m pc ls st)
/-- what local i holds -/
def ob_get : List (Nat × Value) → Nat → Option Value
  | [], _ => none
  | (j, v) :: l, i => if j = i then some v else ob_get l i
def ob_put (lv : List (Nat × Value)) (i : Nat) (v : Value) : List (Nat × Value) := (i, v) :: lv.filter (fun q => !(q.1 == i) && !(q.1 + 1 == i && q.2.category == 2))
theorem ob_get_mem : ∀ {lv : List (Nat × Value)} {i : Nat} {v : Value}, ob_get lv i = some v → (i, v) ∈ lv
  | [], _, _, h => by cases h
  | (j, u) :: l, i, v, h => by
    unfold ob_get at h
    split at h
    · rename_i e; subst e; cases h; exact List.mem_cons_self
    · exact List.mem_cons_of_mem _ (ob_get_mem h)
theorem ob_lv {ls : Array Slot} {nL : Nat} {lv : List (Nat × Value)} (h : lv_has ls nL lv) {i : Nat} {v : Value} (hv : ob_get lv i = some v) : ls[i]? = some (.val v) := h.2.2 (i, v) (ob_get_mem hv)
section OBG
variable {X : ob_X} {y : ob_y} {R : Room} {Q : ob_r → ob_w → Prop} {pc : Nat} {lv : List (Nat × Value)} {st : List Value} {w : ob_w} {k n : Nat}
/-- the locals, said anew -/
theorem og_lv (lv' : List (Nat × Value)) (h : lv'.map (fun q => ob_get lv q.1) = lv'.map (fun q => some q.2)) (kk : ob_G X y R Q pc lv' st w k n) : ob_G X y R Q pc lv st w k n := by
  intro p e s m args below meth c C H locs ls h1
  refine kk p e s m args below meth c C H locs ls ⟨h1.1, h1.2.1, fun q hq => ?_⟩
  obtain ⟨i, hi⟩ := List.getElem?_of_mem hq
  have e1 : (lv'.map (fun q => ob_get lv q.1))[i]? = some (ob_get lv q.1) := by rw [List.getElem?_map, hi]; rfl
  rw [h, List.getElem?_map, hi] at e1
  exact ob_lv h1 (Option.some.inj e1).symm
theorem og_widen {k' n' : Nat} (h1 : k ≤ k') (h2 : n ≤ n') (kk : ob_G X y R Q pc lv st w k' n') : ob_G X y R Q pc lv st w k n := fun p e s m args below meth c C H locs ls a1 a2 a3 a4 => W.widen h1 h2 (kk p e s m args below meth c C H locs ls a1 a2 a3 a4)
/-- a weaker end -/
theorem og_post {Q' : ob_r → ob_w → Prop} (h : ∀ r w, Q' r w → Q r w) (kk : ob_G X y R Q' pc lv st w k n) : ob_G X y R Q pc lv st w k n := by
  intro p e s m args below meth c C H locs ls a1 a2 a3 a4 T hT S
  obtain ⟨t, b1, o, b2, b3, b4⟩ := kk p e s m args below meth c C H locs ls a1 a2 a3 a4 T hT S
  refine ⟨t, b1, o, b2, b3, ?_⟩
  rcases b4 with ⟨⟨⟨v, w1, c1, c2, c3⟩, c4⟩, c5⟩ | ⟨q, c1, E, ce, L, ⟨⟨w1, c2, c3⟩, c4⟩, c5⟩
  · exact Or.inl ⟨⟨⟨v, w1, c1, h _ _ c2, c3⟩, c4⟩, c5⟩
  · exact Or.inr ⟨q, c1, E, ce, L, ⟨⟨w1, h _ _ c2, c3⟩, c4⟩, c5⟩
theorem og_iconst {n9 : Int} {v : Int32} (hdg : decode y.2.1 pc = .ok (.iconst n9, 1)) (hv : Int32.ofInt n9 = v) (kk : ob_G X y R Q (pc + 1) lv (.int v :: st) w k n) : ob_G X y R Q pc lv (st) w k n := fun p e s m args below meth c C H locs ls a1 a2 a3 a4 => lv_iconst C.1 C.2.1 hdg hv (kk p e s m args below meth c C H locs ls a1 a2 a3 a4)
theorem og_bipush {n9 : Int} {v : Int32} (hdg : decode y.2.1 pc = .ok (.bipush n9, 2)) (hv : (Int8.ofInt n9).toInt32 = v) (kk : ob_G X y R Q (pc + 2) lv (.int v :: st) w k n) : ob_G X y R Q pc lv (st) w k n := fun p e s m args below meth c C H locs ls a1 a2 a3 a4 => lv_bipush C.1 C.2.1 hdg hv (kk p e s m args below meth c C H locs ls a1 a2 a3 a4)
theorem og_sipush {n9 : Int} {v : Int32} (hdg : decode y.2.1 pc = .ok (.sipush n9, 3)) (hv : (Int16.ofInt n9).toInt32 = v) (kk : ob_G X y R Q (pc + 3) lv (.int v :: st) w k n) : ob_G X y R Q pc lv (st) w k n := fun p e s m args below meth c C H locs ls a1 a2 a3 a4 => lv_sipush C.1 C.2.1 hdg hv (kk p e s m args below meth c C H locs ls a1 a2 a3 a4)
theorem og_lconst {n9 : Fin 2} {v : Int64} (hdg : decode y.2.1 pc = .ok (.lconst n9, 1)) (hv : Int64.ofNat (n9 : Nat) = v) (kk : ob_G X y R Q (pc + 1) lv (.long v :: st) w k n) : ob_G X y R Q pc lv (st) w k n := fun p e s m args below meth c C H locs ls a1 a2 a3 a4 => lv_lconst C.1 C.2.1 hdg hv (kk p e s m args below meth c C H locs ls a1 a2 a3 a4)
theorem og_iadd {x y9 : Int32} (hdg : decode y.2.1 pc = .ok (.iadd, 1)) (kk : ob_G X y R Q (pc + 1) lv (.int (x + y9) :: st) w k n) : ob_G X y R Q pc lv (.int y9 :: .int x :: st) w k n := fun p e s m args below meth c C H locs ls a1 a2 a3 a4 => lv_iadd C.1 C.2.1 hdg (kk p e s m args below meth c C H locs ls a1 a2 a3 a4)
theorem og_isub {x y9 : Int32} (hdg : decode y.2.1 pc = .ok (.isub, 1)) (kk : ob_G X y R Q (pc + 1) lv (.int (x - y9) :: st) w k n) : ob_G X y R Q pc lv (.int y9 :: .int x :: st) w k n := fun p e s m args below meth c C H locs ls a1 a2 a3 a4 => lv_isub C.1 C.2.1 hdg (kk p e s m args below meth c C H locs ls a1 a2 a3 a4)
theorem og_imul {x y9 : Int32} (hdg : decode y.2.1 pc = .ok (.imul, 1)) (kk : ob_G X y R Q (pc + 1) lv (.int (x * y9) :: st) w k n) : ob_G X y R Q pc lv (.int y9 :: .int x :: st) w k n := fun p e s m args below meth c C H locs ls a1 a2 a3 a4 => lv_imul C.1 C.2.1 hdg (kk p e s m args below meth c C H locs ls a1 a2 a3 a4)
theorem og_iand {x y9 : Int32} (hdg : decode y.2.1 pc = .ok (.iand, 1)) (kk : ob_G X y R Q (pc + 1) lv (.int (x &&& y9) :: st) w k n) : ob_G X y R Q pc lv (.int y9 :: .int x :: st) w k n := fun p e s m args below meth c C H locs ls a1 a2 a3 a4 => lv_iand C.1 C.2.1 hdg (kk p e s m args below meth c C H locs ls a1 a2 a3 a4)
theorem og_ior {x y9 : Int32} (hdg : decode y.2.1 pc = .ok (.ior, 1)) (kk : ob_G X y R Q (pc + 1) lv (.int (x ||| y9) :: st) w k n) : ob_G X y R Q pc lv (.int y9 :: .int x :: st) w k n := fun p e s m args below meth c C H locs ls a1 a2 a3 a4 => lv_ior C.1 C.2.1 hdg (kk p e s m args below meth c C H locs ls a1 a2 a3 a4)
theorem og_idiv {x y9 : Int32} (hdg : decode y.2.1 pc = .ok (.idiv, 1)) (hne : ¬ y9 = 0) (kk : ob_G X y R Q (pc + 1) lv (.int (x / y9) :: st) w k n) : ob_G X y R Q pc lv (.int y9 :: .int x :: st) w k n := fun p e s m args below meth c C H locs ls a1 a2 a3 a4 => lv_idiv C.1 C.2.1 hdg hne (kk p e s m args below meth c C H locs ls a1 a2 a3 a4)
theorem og_irem {x y9 : Int32} (hdg : decode y.2.1 pc = .ok (.irem, 1)) (hne : ¬ y9 = 0) (kk : ob_G X y R Q (pc + 1) lv (.int (x - x / y9 * y9) :: st) w k n) : ob_G X y R Q pc lv (.int y9 :: .int x :: st) w k n := fun p e s m args below meth c C H locs ls a1 a2 a3 a4 => lv_irem C.1 C.2.1 hdg hne (kk p e s m args below meth c C H locs ls a1 a2 a3 a4)
theorem og_ineg {x : Int32} (hdg : decode y.2.1 pc = .ok (.ineg, 1)) (kk : ob_G X y R Q (pc + 1) lv (.int (-x) :: st) w k n) : ob_G X y R Q pc lv (.int x :: st) w k n := fun p e s m args below meth c C H locs ls a1 a2 a3 a4 => lv_ineg C.1 C.2.1 hdg (kk p e s m args below meth c C H locs ls a1 a2 a3 a4)
theorem og_ladd {x y9 : Int64} (hdg : decode y.2.1 pc = .ok (.ladd, 1)) (kk : ob_G X y R Q (pc + 1) lv (.long (x + y9) :: st) w k n) : ob_G X y R Q pc lv (.long y9 :: .long x :: st) w k n := fun p e s m args below meth c C H locs ls a1 a2 a3 a4 => lv_ladd C.1 C.2.1 hdg (kk p e s m args below meth c C H locs ls a1 a2 a3 a4)
theorem og_lsub {x y9 : Int64} (hdg : decode y.2.1 pc = .ok (.lsub, 1)) (kk : ob_G X y R Q (pc + 1) lv (.long (x - y9) :: st) w k n) : ob_G X y R Q pc lv (.long y9 :: .long x :: st) w k n := fun p e s m args below meth c C H locs ls a1 a2 a3 a4 => lv_lsub C.1 C.2.1 hdg (kk p e s m args below meth c C H locs ls a1 a2 a3 a4)
theorem og_land {x y9 : Int64} (hdg : decode y.2.1 pc = .ok (.land, 1)) (kk : ob_G X y R Q (pc + 1) lv (.long (x &&& y9) :: st) w k n) : ob_G X y R Q pc lv (.long y9 :: .long x :: st) w k n := fun p e s m args below meth c C H locs ls a1 a2 a3 a4 => lv_land C.1 C.2.1 hdg (kk p e s m args below meth c C H locs ls a1 a2 a3 a4)
theorem og_lor {x y9 : Int64} (hdg : decode y.2.1 pc = .ok (.lor, 1)) (kk : ob_G X y R Q (pc + 1) lv (.long (x ||| y9) :: st) w k n) : ob_G X y R Q pc lv (.long y9 :: .long x :: st) w k n := fun p e s m args below meth c C H locs ls a1 a2 a3 a4 => lv_lor C.1 C.2.1 hdg (kk p e s m args below meth c C H locs ls a1 a2 a3 a4)
theorem og_lxor {x y9 : Int64} (hdg : decode y.2.1 pc = .ok (.lxor, 1)) (kk : ob_G X y R Q (pc + 1) lv (.long (x ^^^ y9) :: st) w k n) : ob_G X y R Q pc lv (.long y9 :: .long x :: st) w k n := fun p e s m args below meth c C H locs ls a1 a2 a3 a4 => lv_lxor C.1 C.2.1 hdg (kk p e s m args below meth c C H locs ls a1 a2 a3 a4)
theorem og_ishl {x y9 : Int32} (hdg : decode y.2.1 pc = .ok (.ishl, 1)) (kk : ob_G X y R Q (pc + 1) lv (.int (x <<< (y9 &&& 31)) :: st) w k n) : ob_G X y R Q pc lv (.int y9 :: .int x :: st) w k n := fun p e s m args below meth c C H locs ls a1 a2 a3 a4 => lv_ishl C.1 C.2.1 hdg (kk p e s m args below meth c C H locs ls a1 a2 a3 a4)
theorem og_ishr {x y9 : Int32} (hdg : decode y.2.1 pc = .ok (.ishr, 1)) (kk : ob_G X y R Q (pc + 1) lv (.int (x >>> (y9 &&& 31)) :: st) w k n) : ob_G X y R Q pc lv (.int y9 :: .int x :: st) w k n := fun p e s m args below meth c C H locs ls a1 a2 a3 a4 => lv_ishr C.1 C.2.1 hdg (kk p e s m args below meth c C H locs ls a1 a2 a3 a4)
theorem og_i2l {x : Int32} {v : Int64} (hdg : decode y.2.1 pc = .ok (.i2l, 1)) (hv : x.toInt64 = v) (kk : ob_G X y R Q (pc + 1) lv (.long v :: st) w k n) : ob_G X y R Q pc lv (.int x :: st) w k n := fun p e s m args below meth c C H locs ls a1 a2 a3 a4 => lv_i2l C.1 C.2.1 hdg hv (kk p e s m args below meth c C H locs ls a1 a2 a3 a4)
theorem og_l2i {x : Int64} {v : Int32} (hdg : decode y.2.1 pc = .ok (.l2i, 1)) (hv : x.toInt32 = v) (kk : ob_G X y R Q (pc + 1) lv (.int v :: st) w k n) : ob_G X y R Q pc lv (.long x :: st) w k n := fun p e s m args below meth c C H locs ls a1 a2 a3 a4 => lv_l2i C.1 C.2.1 hdg hv (kk p e s m args below meth c C H locs ls a1 a2 a3 a4)
theorem og_i2b {x : Int32} {v : Int32} (hdg : decode y.2.1 pc = .ok (.i2b, 1)) (hv : x.toInt8.toInt32 = v) (kk : ob_G X y R Q (pc + 1) lv (.int v :: st) w k n) : ob_G X y R Q pc lv (.int x :: st) w k n := fun p e s m args below meth c C H locs ls a1 a2 a3 a4 => lv_i2b C.1 C.2.1 hdg hv (kk p e s m args below meth c C H locs ls a1 a2 a3 a4)
theorem og_iushr {x y9 v : Int32} (hdg : decode y.2.1 pc = .ok (.iushr, 1)) (hv : (x.toUInt32 >>> (y9.toUInt32 &&& Int32.toUInt32 31)).toInt32 = v) (kk : ob_G X y R Q (pc + 1) lv (.int v :: st) w k n) : ob_G X y R Q pc lv (.int y9 :: .int x :: st) w k n := fun p e s m args below meth c C H locs ls a1 a2 a3 a4 => lv_iushr C.1 C.2.1 hdg hv (kk p e s m args below meth c C H locs ls a1 a2 a3 a4)
theorem og_lushr {x v : Int64} {y9 : Int32} (hdg : decode y.2.1 pc = .ok (.lushr, 1)) (hv : (x.toUInt64 >>> (y9.toInt64.toUInt64 &&& Int64.toUInt64 63)).toInt64 = v) (kk : ob_G X y R Q (pc + 1) lv (.long v :: st) w k n) : ob_G X y R Q pc lv (.int y9 :: .long x :: st) w k n := fun p e s m args below meth c C H locs ls a1 a2 a3 a4 => lv_lushr C.1 C.2.1 hdg hv (kk p e s m args below meth c C H locs ls a1 a2 a3 a4)
theorem og_lshl {x v : Int64} {y9 : Int32} (hdg : decode y.2.1 pc = .ok (.lshl, 1)) (hv : x <<< (y9.toInt64 &&& 63) = v) (kk : ob_G X y R Q (pc + 1) lv (.long v :: st) w k n) : ob_G X y R Q pc lv (.int y9 :: .long x :: st) w k n := fun p e s m args below meth c C H locs ls a1 a2 a3 a4 => lv_lshl C.1 C.2.1 hdg hv (kk p e s m args below meth c C H locs ls a1 a2 a3 a4)
theorem og_lshr {x v : Int64} {y9 : Int32} (hdg : decode y.2.1 pc = .ok (.lshr, 1)) (hv : x >>> (y9.toInt64 &&& 63) = v) (kk : ob_G X y R Q (pc + 1) lv (.long v :: st) w k n) : ob_G X y R Q pc lv (.int y9 :: .long x :: st) w k n := fun p e s m args below meth c C H locs ls a1 a2 a3 a4 => lv_lshr C.1 C.2.1 hdg hv (kk p e s m args below meth c C H locs ls a1 a2 a3 a4)
theorem og_dup {va : Value} (hdg : decode y.2.1 pc = .ok (.dup, 1)) (hva : va.category = 1) (kk : ob_G X y R Q (pc + 1) lv (va :: va :: st) w k n) : ob_G X y R Q pc lv (va :: st) w k n := fun p e s m args below meth c C H locs ls a1 a2 a3 a4 => lv_dup C.1 C.2.1 hdg hva (kk p e s m args below meth c C H locs ls a1 a2 a3 a4)
theorem og_pop {va : Value} (hdg : decode y.2.1 pc = .ok (.pop, 1)) (hva : va.category = 1) (kk : ob_G X y R Q (pc + 1) lv (st) w k n) : ob_G X y R Q pc lv (va :: st) w k n := fun p e s m args below meth c C H locs ls a1 a2 a3 a4 => lv_pop C.1 C.2.1 hdg hva (kk p e s m args below meth c C H locs ls a1 a2 a3 a4)
theorem og_goto {off : Int} {tgt : Nat} (hdg : decode y.2.1 pc = .ok (.goto off, 3)) (ht : (pc : Int) + off = (tgt : Int)) (kk : ob_G X y R Q tgt lv st w k n) : ob_G X y R Q pc lv st w k n := fun p e s m args below meth c C H locs ls a1 a2 a3 a4 => lv_goto C.1 C.2.1 hdg ht (kk p e s m args below meth c C H locs ls a1 a2 a3 a4)
theorem og_ifnull {x : Nat} {off : Int} (hdg : decode y.2.1 pc = .ok (.ifnull off, 3)) (kk : ob_G X y R Q (pc + 3) lv st w k n) : ob_G X y R Q pc lv (.ref x :: st) w k n := fun p e s m args below meth c C H locs ls a1 a2 a3 a4 => lv_ifnull C.1 C.2.1 hdg (kk p e s m args below meth c C H locs ls a1 a2 a3 a4)
theorem og_ifnonnull {x : Nat} {off : Int} {tgt : Nat} (hdg : decode y.2.1 pc = .ok (.ifnonnull off, 3)) (ht : (pc : Int) + off = (tgt : Int)) (kk : ob_G X y R Q tgt lv st w k n) : ob_G X y R Q pc lv (.ref x :: st) w k n := fun p e s m args below meth c C H locs ls a1 a2 a3 a4 => lv_ifnonnull C.1 C.2.1 hdg ht (kk p e s m args below meth c C H locs ls a1 a2 a3 a4)
theorem og_ifnullN {off : Int} {tgt : Nat} (hdg : decode y.2.1 pc = .ok (.ifnull off, 3)) (ht : (pc : Int) + off = (tgt : Int)) (kk : ob_G X y R Q tgt lv st w k n) : ob_G X y R Q pc lv (.null :: st) w k n := fun p e s m args below meth c C H locs ls a1 a2 a3 a4 => lv_ifnullN C.1 C.2.1 hdg ht (kk p e s m args below meth c C H locs ls a1 a2 a3 a4)
theorem og_ifnonnullN {off : Int} (hdg : decode y.2.1 pc = .ok (.ifnonnull off, 3)) (kk : ob_G X y R Q (pc + 3) lv st w k n) : ob_G X y R Q pc lv (.null :: st) w k n := fun p e s m args below meth c C H locs ls a1 a2 a3 a4 => lv_ifnonnullN C.1 C.2.1 hdg (kk p e s m args below meth c C H locs ls a1 a2 a3 a4)
theorem og_null (hdg : decode y.2.1 pc = .ok (.aconst_null, 1)) (kk : ob_G X y R Q (pc + 1) lv (.null :: st) w k n) : ob_G X y R Q pc lv st w k n := fun p e s m args below meth c C H locs ls a1 a2 a3 a4 => lv_null C.1 C.2.1 hdg (kk p e s m args below meth c C H locs ls a1 a2 a3 a4)
theorem og_if_eq {x : Int32} {off : Int} {tgt : Nat} (hdg : decode y.2.1 pc = .ok (.ifCond .eq off, 3)) (ht : (pc : Int) + off = (tgt : Int)) (kt : x = 0 → ob_G X y R Q tgt lv st w k n) (kf : ¬ x = 0 → ob_G X y R Q (pc + 3) lv st w k n) : ob_G X y R Q pc lv (.int x :: st) w k n := fun p e s m args below meth c C H locs ls a1 a2 a3 a4 => lv_if_eq C.1 C.2.1 hdg ht (fun z => kt z p e s m args below meth c C H locs ls a1 a2 a3 a4) (fun z => kf z p e s m args below meth c C H locs ls a1 a2 a3 a4)
theorem og_if_ne {x : Int32} {off : Int} {tgt : Nat} (hdg : decode y.2.1 pc = .ok (.ifCond .ne off, 3)) (ht : (pc : Int) + off = (tgt : Int)) (kt : ¬ x = 0 → ob_G X y R Q tgt lv st w k n) (kf : x = 0 → ob_G X y R Q (pc + 3) lv st w k n) : ob_G X y R Q pc lv (.int x :: st) w k n := fun p e s m args below meth c C H locs ls a1 a2 a3 a4 => lv_if_ne C.1 C.2.1 hdg ht (fun z => kt z p e s m args below meth c C H locs ls a1 a2 a3 a4) (fun z => kf z p e s m args below meth c C H locs ls a1 a2 a3 a4)
theorem og_if_lt {x : Int32} {off : Int} {tgt : Nat} (hdg : decode y.2.1 pc = .ok (.ifCond .lt off, 3)) (ht : (pc : Int) + off = (tgt : Int)) (kt : x < 0 → ob_G X y R Q tgt lv st w k n) (kf : ¬ x < 0 → ob_G X y R Q (pc + 3) lv st w k n) : ob_G X y R Q pc lv (.int x :: st) w k n := fun p e s m args below meth c C H locs ls a1 a2 a3 a4 => lv_if_lt C.1 C.2.1 hdg ht (fun z => kt z p e s m args below meth c C H locs ls a1 a2 a3 a4) (fun z => kf z p e s m args below meth c C H locs ls a1 a2 a3 a4)
theorem og_if_ge {x : Int32} {off : Int} {tgt : Nat} (hdg : decode y.2.1 pc = .ok (.ifCond .ge off, 3)) (ht : (pc : Int) + off = (tgt : Int)) (kt : 0 ≤ x → ob_G X y R Q tgt lv st w k n) (kf : ¬ 0 ≤ x → ob_G X y R Q (pc + 3) lv st w k n) : ob_G X y R Q pc lv (.int x :: st) w k n := fun p e s m args below meth c C H locs ls a1 a2 a3 a4 => lv_if_ge C.1 C.2.1 hdg ht (fun z => kt z p e s m args below meth c C H locs ls a1 a2 a3 a4) (fun z => kf z p e s m args below meth c C H locs ls a1 a2 a3 a4)
theorem og_if_gt {x : Int32} {off : Int} {tgt : Nat} (hdg : decode y.2.1 pc = .ok (.ifCond .gt off, 3)) (ht : (pc : Int) + off = (tgt : Int)) (kt : 0 < x → ob_G X y R Q tgt lv st w k n) (kf : ¬ 0 < x → ob_G X y R Q (pc + 3) lv st w k n) : ob_G X y R Q pc lv (.int x :: st) w k n := fun p e s m args below meth c C H locs ls a1 a2 a3 a4 => lv_if_gt C.1 C.2.1 hdg ht (fun z => kt z p e s m args below meth c C H locs ls a1 a2 a3 a4) (fun z => kf z p e s m args below meth c C H locs ls a1 a2 a3 a4)
theorem og_if_le {x : Int32} {off : Int} {tgt : Nat} (hdg : decode y.2.1 pc = .ok (.ifCond .le off, 3)) (ht : (pc : Int) + off = (tgt : Int)) (kt : x ≤ 0 → ob_G X y R Q tgt lv st w k n) (kf : ¬ x ≤ 0 → ob_G X y R Q (pc + 3) lv st w k n) : ob_G X y R Q pc lv (.int x :: st) w k n := fun p e s m args below meth c C H locs ls a1 a2 a3 a4 => lv_if_le C.1 C.2.1 hdg ht (fun z => kt z p e s m args below meth c C H locs ls a1 a2 a3 a4) (fun z => kf z p e s m args below meth c C H locs ls a1 a2 a3 a4)
theorem og_icmp_eq {x y9 : Int32} {off : Int} {tgt : Nat} (hdg : decode y.2.1 pc = .ok (.if_icmp .eq off, 3)) (ht : (pc : Int) + off = (tgt : Int)) (kt : x = y9 → ob_G X y R Q tgt lv st w k n) (kf : ¬ x = y9 → ob_G X y R Q (pc + 3) lv st w k n) : ob_G X y R Q pc lv (.int y9 :: .int x :: st) w k n := fun p e s m args below meth c C H locs ls a1 a2 a3 a4 => lv_icmp_eq C.1 C.2.1 hdg ht (fun z => kt z p e s m args below meth c C H locs ls a1 a2 a3 a4) (fun z => kf z p e s m args below meth c C H locs ls a1 a2 a3 a4)
theorem og_icmp_ne {x y9 : Int32} {off : Int} {tgt : Nat} (hdg : decode y.2.1 pc = .ok (.if_icmp .ne off, 3)) (ht : (pc : Int) + off = (tgt : Int)) (kt : ¬ x = y9 → ob_G X y R Q tgt lv st w k n) (kf : x = y9 → ob_G X y R Q (pc + 3) lv st w k n) : ob_G X y R Q pc lv (.int y9 :: .int x :: st) w k n := fun p e s m args below meth c C H locs ls a1 a2 a3 a4 => lv_icmp_ne C.1 C.2.1 hdg ht (fun z => kt z p e s m args below meth c C H locs ls a1 a2 a3 a4) (fun z => kf z p e s m args below meth c C H locs ls a1 a2 a3 a4)
theorem og_icmp_lt {x y9 : Int32} {off : Int} {tgt : Nat} (hdg : decode y.2.1 pc = .ok (.if_icmp .lt off, 3)) (ht : (pc : Int) + off = (tgt : Int)) (kt : x < y9 → ob_G X y R Q tgt lv st w k n) (kf : ¬ x < y9 → ob_G X y R Q (pc + 3) lv st w k n) : ob_G X y R Q pc lv (.int y9 :: .int x :: st) w k n := fun p e s m args below meth c C H locs ls a1 a2 a3 a4 => lv_icmp_lt C.1 C.2.1 hdg ht (fun z => kt z p e s m args below meth c C H locs ls a1 a2 a3 a4) (fun z => kf z p e s m args below meth c C H locs ls a1 a2 a3 a4)
theorem og_icmp_ge {x y9 : Int32} {off : Int} {tgt : Nat} (hdg : decode y.2.1 pc = .ok (.if_icmp .ge off, 3)) (ht : (pc : Int) + off = (tgt : Int)) (kt : y9 ≤ x → ob_G X y R Q tgt lv st w k n) (kf : ¬ y9 ≤ x → ob_G X y R Q (pc + 3) lv st w k n) : ob_G X y R Q pc lv (.int y9 :: .int x :: st) w k n := fun p e s m args below meth c C H locs ls a1 a2 a3 a4 => lv_icmp_ge C.1 C.2.1 hdg ht (fun z => kt z p e s m args below meth c C H locs ls a1 a2 a3 a4) (fun z => kf z p e s m args below meth c C H locs ls a1 a2 a3 a4)
theorem og_icmp_gt {x y9 : Int32} {off : Int} {tgt : Nat} (hdg : decode y.2.1 pc = .ok (.if_icmp .gt off, 3)) (ht : (pc : Int) + off = (tgt : Int)) (kt : y9 < x → ob_G X y R Q tgt lv st w k n) (kf : ¬ y9 < x → ob_G X y R Q (pc + 3) lv st w k n) : ob_G X y R Q pc lv (.int y9 :: .int x :: st) w k n := fun p e s m args below meth c C H locs ls a1 a2 a3 a4 => lv_icmp_gt C.1 C.2.1 hdg ht (fun z => kt z p e s m args below meth c C H locs ls a1 a2 a3 a4) (fun z => kf z p e s m args below meth c C H locs ls a1 a2 a3 a4)
theorem og_icmp_le {x y9 : Int32} {off : Int} {tgt : Nat} (hdg : decode y.2.1 pc = .ok (.if_icmp .le off, 3)) (ht : (pc : Int) + off = (tgt : Int)) (kt : x ≤ y9 → ob_G X y R Q tgt lv st w k n) (kf : ¬ x ≤ y9 → ob_G X y R Q (pc + 3) lv st w k n) : ob_G X y R Q pc lv (.int y9 :: .int x :: st) w k n := fun p e s m args below meth c C H locs ls a1 a2 a3 a4 => lv_icmp_le C.1 C.2.1 hdg ht (fun z => kt z p e s m args below meth c C H locs ls a1 a2 a3 a4) (fun z => kf z p e s m args below meth c C H locs ls a1 a2 a3 a4)
theorem og_dup_x1 {va vb : Value} (hdg : decode y.2.1 pc = .ok (.dup_x1, 1)) (hva : va.category = 1) (hvb : vb.category = 1) (kk : ob_G X y R Q (pc + 1) lv (va :: vb :: va :: st) w k n) : ob_G X y R Q pc lv (va :: vb :: st) w k n := fun p e s m args below meth c C H locs ls a1 a2 a3 a4 => lv_dup_x1 C.1 C.2.1 hdg hva hvb (kk p e s m args below meth c C H locs ls a1 a2 a3 a4)
theorem og_lcmp {x x9 : Int64} (hdg : decode y.2.1 pc = .ok (.lcmp, 1)) (kk : ob_G X y R Q (pc + 1) lv (.int (lg_cmp x x9) :: st) w k n) : ob_G X y R Q pc lv (.long x9 :: .long x :: st) w k n := fun p e s m args below meth c C H locs ls a1 a2 a3 a4 => W.lcmp C.1 C.2.1 hdg (kk p e s m args below meth c C H locs ls a1 a2 a3 a4)
theorem og_iload_n {j : Fin 4} {x : Int32} (hdg : decode y.2.1 pc = .ok (.iload_n j, 1)) (hl : ob_get lv (j : Nat) = some (.int x)) (kk : ob_G X y R Q (pc + 1) lv (.int x :: st) w k n) : ob_G X y R Q pc lv st w k n := fun p e s m args below meth c C H locs ls a1 a2 a3 a4 => lv_iload_n C.1 C.2.1 hdg rfl (ob_lv a1 hl) (kk p e s m args below meth c C H locs ls a1 a2 a3 a4)
theorem og_iload {j : Nat} {x : Int32} (hdg : decode y.2.1 pc = .ok (.iload j, 2)) (hl : ob_get lv j = some (.int x)) (kk : ob_G X y R Q (pc + 2) lv (.int x :: st) w k n) : ob_G X y R Q pc lv st w k n := fun p e s m args below meth c C H locs ls a1 a2 a3 a4 => lv_iload C.1 C.2.1 hdg (ob_lv a1 hl) (kk p e s m args below meth c C H locs ls a1 a2 a3 a4)
theorem og_lload_n {j : Fin 4} {x : Int64} (hdg : decode y.2.1 pc = .ok (.lload_n j, 1)) (hl : ob_get lv (j : Nat) = some (.long x)) (kk : ob_G X y R Q (pc + 1) lv (.long x :: st) w k n) : ob_G X y R Q pc lv st w k n := fun p e s m args below meth c C H locs ls a1 a2 a3 a4 => lv_lload_n C.1 C.2.1 hdg rfl (ob_lv a1 hl) (kk p e s m args below meth c C H locs ls a1 a2 a3 a4)
theorem og_aload_n {j : Fin 4} {v : Value} (hdg : decode y.2.1 pc = .ok (.aload_n j, 1)) (hl : ob_get lv (j : Nat) = some v) (hv : v.isRef = true) (kk : ob_G X y R Q (pc + 1) lv (v :: st) w k n) : ob_G X y R Q pc lv st w k n := by
  intro p e s m args below meth c C H locs ls a1 a2 a3 a4
  cases v with
  | ref x => exact lv_aload_n C.1 C.2.1 hdg rfl (ob_lv a1 hl) (kk p e s m args below meth c C H locs ls a1 a2 a3 a4)
  | null => exact lv_aload_nN C.1 C.2.1 hdg rfl (ob_lv a1 hl) (kk p e s m args below meth c C H locs ls a1 a2 a3 a4)
  | _ => cases hv
theorem og_aload {j : Nat} {v : Value} (hdg : decode y.2.1 pc = .ok (.aload j, 2)) (hl : ob_get lv j = some v) (hv : v.isRef = true) (kk : ob_G X y R Q (pc + 2) lv (v :: st) w k n) : ob_G X y R Q pc lv st w k n := by
  intro p e s m args below meth c C H locs ls a1 a2 a3 a4
  cases v with
  | ref x => exact lv_aload C.1 C.2.1 hdg (ob_lv a1 hl) (kk p e s m args below meth c C H locs ls a1 a2 a3 a4)
  | null => exact lv_aloadN C.1 C.2.1 hdg (ob_lv a1 hl) (kk p e s m args below meth c C H locs ls a1 a2 a3 a4)
  | _ => cases hv
theorem og_istore_n {j : Fin 4} {x : Int32} (hdg : decode y.2.1 pc = .ok (.istore_n j, 1)) (hn : (j : Nat) < y.2.2.1) (kk : ob_G X y R Q (pc + 1) (ob_put lv j (.int x)) st w k n) : ob_G X y R Q pc lv (.int x :: st) w k n := fun p e s m args below meth c C H locs ls a1 a2 a3 a4 => lv_istore_n C.1 C.2.1 hdg rfl a1 hn rfl (fun ls' a1' => kk p e s m args below meth c C H locs ls' a1' a2 a3 a4)
theorem og_istore {j : Nat} {x : Int32} (hdg : decode y.2.1 pc = .ok (.istore j, 2)) (hn : j < y.2.2.1) (kk : ob_G X y R Q (pc + 2) (ob_put lv j (.int x)) st w k n) : ob_G X y R Q pc lv (.int x :: st) w k n := fun p e s m args below meth c C H locs ls a1 a2 a3 a4 => lv_istore C.1 C.2.1 hdg a1 hn rfl (fun ls' a1' => kk p e s m args below meth c C H locs ls' a1' a2 a3 a4)
theorem og_astore_n {j : Fin 4} {v : Value} (hdg : decode y.2.1 pc = .ok (.astore_n j, 1)) (hn : (j : Nat) < y.2.2.1) (hv : v.isRef = true) (kk : ob_G X y R Q (pc + 1) (ob_put lv j v) st w k n) : ob_G X y R Q pc lv (v :: st) w k n := by
  intro p e s m args below meth c C H locs ls a1 a2 a3 a4
  cases v with
  | ref x => exact lv_astore_n C.1 C.2.1 hdg rfl a1 hn rfl (fun ls' a1' => kk p e s m args below meth c C H locs ls' a1' a2 a3 a4)
  | null => exact lv_astore_nN C.1 C.2.1 hdg rfl a1 hn rfl (fun ls' a1' => kk p e s m args below meth c C H locs ls' a1' a2 a3 a4)
  | _ => cases hv
theorem og_astore {j : Nat} {v : Value} (hdg : decode y.2.1 pc = .ok (.astore j, 2)) (hn : j < y.2.2.1) (hv : v.isRef = true) (kk : ob_G X y R Q (pc + 2) (ob_put lv j v) st w k n) : ob_G X y R Q pc lv (v :: st) w k n := by
  intro p e s m args below meth c C H locs ls a1 a2 a3 a4
  cases v with
  | ref x => exact lv_astore C.1 C.2.1 hdg a1 hn rfl (fun ls' a1' => kk p e s m args below meth c C H locs ls' a1' a2 a3 a4)
  | null => exact lv_astoreN C.1 C.2.1 hdg a1 hn rfl (fun ls' a1' => kk p e s m args below meth c C H locs ls' a1' a2 a3 a4)
  | _ => cases hv
theorem og_iinc {j : Nat} {d : Int} {x v : Int32} (hdg : decode y.2.1 pc = .ok (.iinc j d, 3)) (hl : ob_get lv j = some (.int x)) (hv : x + Int32.ofInt d = v) (hn : j < y.2.2.1) (kk : ob_G X y R Q (pc + 3) (ob_put lv j (.int v)) st w k n) : ob_G X y R Q pc lv st w k n := by
  intro p e s m args below meth c C H locs ls a1 a2 a3 a4
  obtain ⟨i, hi⟩ := List.getElem?_of_mem (ob_get_mem hl)
  exact lv_iinc C.1 C.2.1 hdg a1 hi hv hn rfl (fun ls' a1' => kk p e s m args below meth c C H locs ls' a1' a2 a3 a4)
theorem og_acmp_eq {a b : Nat} {off : Int} {tgt : Nat} (hdg : decode y.2.1 pc = .ok (.if_acmp .eq off, 3)) (ht : (pc : Int) + off = (tgt : Int)) (kt : a = b → ob_G X y R Q tgt lv st w k n) (kf : a ≠ b → ob_G X y R Q (pc + 3) lv st w k n) : ob_G X y R Q pc lv (.ref b :: .ref a :: st) w k n := fun p e s m args below meth c C H locs ls a1 a2 a3 a4 => lv_acmp_eq (rx := some a) (ry := some b) C.1 C.2.1 hdg ht (fun z => kt (Option.some.inj z) p e s m args below meth c C H locs ls a1 a2 a3 a4) (fun z => kf (fun q => z (congrArg some q)) p e s m args below meth c C H locs ls a1 a2 a3 a4)
theorem og_acmp_ne {a b : Nat} {off : Int} {tgt : Nat} (hdg : decode y.2.1 pc = .ok (.if_acmp .ne off, 3)) (ht : (pc : Int) + off = (tgt : Int)) (kt : a ≠ b → ob_G X y R Q tgt lv st w k n) (kf : a = b → ob_G X y R Q (pc + 3) lv st w k n) : ob_G X y R Q pc lv (.ref b :: .ref a :: st) w k n := fun p e s m args below meth c C H locs ls a1 a2 a3 a4 => lv_acmp_ne (rx := some a) (ry := some b) C.1 C.2.1 hdg ht (fun z => kt (fun q => z (congrArg some q)) p e s m args below meth c C H locs ls a1 a2 a3 a4) (fun z => kf (by first | exact Option.some.inj z | exact Classical.byContradiction (fun q => z (fun r => q (Option.some.inj r)))) p e s m args below meth c C H locs ls a1 a2 a3 a4)
/-- the answer -/
theorem og_ireturn {x : Int32} {ty : FieldType} (hr : y.2.2.2.1 = some ty) (hdg : decode y.2.1 pc = .ok (.ireturn, 1)) (hn : narrow ty (.int x) = .int x) (hk : k ≤ R.cells) (hs : n ≤ R.slots) (hq : Q (.inl (some (.int x))) w) : ob_G X y R Q pc lv [.int x] w k n := fun p e s m args below meth c C H locs ls a1 a2 a3 a4 => W.widen hk hs (vx_ret (W.zret (hlocks := C.2.2.2.2.2.2.1) C.1 C.2.1 (C.2.2.1.trans hr) hn (fun t ht hW => ⟨⟨_, w, rfl, hq, by rw [ht]; exact a2, a3⟩, a4.F ht⟩) a4.2.2 hdg))
theorem og_return (hr : y.2.2.2.1 = none) (hdg : decode y.2.1 pc = .ok (.return_, 1)) (hk : k ≤ R.cells) (hs : n ≤ R.slots) (hq : Q (.inl none) w) : ob_G X y R Q pc lv [] w k n := fun p e s m args below meth c C H locs ls a1 a2 a3 a4 => W.widen hk hs (vx_ret (W.vret (hlocks := C.2.2.2.2.2.2.1) C.1 C.2.1 (C.2.2.1.trans hr) (fun t ht hW => ⟨⟨_, w, rfl, hq, by rw [ht]; exact a2, a3⟩, a4.F ht⟩) a4.2.2 hdg))
theorem og_areturn {v : Value} {rt : FieldType} (hr : y.2.2.2.1 = some rt) (hrt : (∃ d, rt = .object d) ∨ ∃ t, rt = .array t) (hv : v = .null ∨ ∃ a, v = .ref a) (hdg : decode y.2.1 pc = .ok (.areturn, 1)) (hk : k ≤ R.cells) (hs : n ≤ R.slots) (hq : Q (.inl (some v)) w) : ob_G X y R Q pc lv [v] w k n := fun p e s m args below meth c C H locs ls a1 a2 a3 a4 => W.widen hk hs (vx_ret (W.aret (hlocks := C.2.2.2.2.2.2.1) C.1 C.2.1 (C.2.2.1.trans hr) hrt hv (fun t ht hW => ⟨⟨_, w, rfl, hq, by rw [ht]; exact a2, a3⟩, a4.F ht⟩) a4.2.2 hdg))
end OBG
