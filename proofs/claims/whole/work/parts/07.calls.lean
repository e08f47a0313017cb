/-! CONSTRUCTORS' CALLS, COPIES, THROWS -/
theorem ob_C.post {X : ob_X} {y : ob_y} {d mc ms : Nat} {As : List Value} {w : ob_w} {Q Q' : ob_r → ob_w → Prop} (h : ob_C X y d mc ms As w Q) (hq : ∀ r w', Q r w' → Q' r w') : ob_C X y d mc ms As w Q' := by
  intro p e h1 h2 h3 s m args below h4 h5 h6 h7
  obtain ⟨n, o, g1, g2, g3, g4⟩ := h p e h1 h2 h3 s m args below h4 h5 h6 h7
  refine ⟨n, o, g1, g2, g3, ?_⟩
  rcases g4 with ⟨⟨⟨v, w1, c1, c2, c3⟩, c4⟩, c5⟩ | ⟨q, c1, E, ce, L, ⟨⟨w1, c2, c3⟩, c4⟩, c5⟩
  · exact Or.inl ⟨⟨⟨v, w1, c1, hq _ _ c2, c3⟩, c4⟩, c5⟩
  · exact Or.inr ⟨q, c1, E, ce, L, ⟨⟨w1, hq _ _ c2, c3⟩, c4⟩, c5⟩
/-- one that never throws -/
theorem ob_C.met {X : ob_X} {y : ob_y} {d mc ms : Nat} {As : List Value} {w : ob_w} {Q : ob_r → ob_w → Prop} (h : ob_C X y d mc ms As w Q) (hq : ∀ E w', ¬ Q (.inr E) w') : Met X.1 y.1 (ob_ws y) (ob_rm d mc ms) (va_Pc As (ob_wd X w)) (ob_Qc X Q) mc ms (fun q => X.2.2 ≤ q) := by
  intro p e h1 h2 h3 s m args below h4 h5 h6 h7
  obtain ⟨n, o, g1, g2, g3, g4⟩ := h p e h1 h2 h3 s m args below h4 h5 h6 h7
  refine ⟨n, o, g1, g2, g3, ?_⟩
  rcases g4 with g4 | ⟨q, c1, E, ce, L, ⟨⟨w1, c2, c3⟩, c4⟩, c5⟩
  · exact g4
  · exact absurd c2 (hq E w1)
section OBI
variable {X : ob_X} {y : ob_y} {R : Room} {Q : ob_r → ob_w → Prop} {pc : Nat} {lv : List (Nat × Value)} {st : List Value} {w : ob_w} {k n : Nat}
theorem og_callI {idx b d mc ms : Nat} {z : ob_y} {As stk : List Value} {Q2 : ob_r → ob_w → Prop} (hdg : decode y.2.1 pc = .ok (.invokespecial idx, 3)) (hv : ob_mi y.1.cls idx z As.length) (hM : ob_C X z d mc ms (.ref b :: As) w Q2) (hno : ∀ E w', ¬ Q2 (.inr E) w') (hstk : stk = As.reverse ++ .ref b :: st) (hR : d + 1 ≤ R.frames ∧ 8 + (z.2.2.1 + 11) + 60 * d ≤ R.locals) (hk : k + mc ≤ R.cells) (hs : n + ms ≤ R.slots) (hsum : (st.map fun v => v.category).sum ≤ 8)
    (kk : ∀ v w', Q2 (.inl v) w' → ob_G X y R Q (pc + 3) lv (v.toList ++ st) w' (k + mc) (n + ms)) : ob_G X y R Q pc lv stk w k n := by
  intro p e s m args below meth c C H locs ls a1 a2 a3 a4
  obtain ⟨⟨m1, m2, m3, m4⟩, m5, m6, m7, m9, m8⟩ := hv
  have hts := C.2.2.2.2.2.1
  have hK := C.2.2.2.2.2.2.2.2.2.1
  have hwd : ∀ w9 ∈ ob_ws z, w9 ∈ ob_tb := by
    intro w9 h9
    simp only [ob_ws, List.mem_cons] at h9
    rcases h9 with rfl | h9
    · exact m1
    · exact h9
  have hr := va_runI (R := R) (p := p) (l := X.1) (e := e) (s := s) (m := m) (args := args) (below := below) (meth := meth) (c := c) (H := H) (locs := locs) (cells := k) (slots := n) (b := b) (As := As) (rest := st) (g := F0 m pc ls stk) (index := idx) (maxL := z.2.2.1) (bytes := z.2.1) (n := As.length) (Ts := ob_tb) (own := y.1.cls) (cc := y.2.1) (nL := y.2.2.1) ⟨C.1, C.2.1, C.2.2.2.1, C.2.2.2.2.1, hts⟩ (hM.met hno) (cwI As.length hts (ob_gI hwd) (ws' := ob_tb) (by rw [← m9]; rfl) rfl rfl (hts _ m2) (hts _ m5) (hts _ m6) m7 ⟨m3, m4, m8⟩ hR) ⟨ob_wd.blind _, fun U hU hW => ⟨rfl, by rw [hU]; exact a2, a3, by rw [hU]; exact Nat.le_trans C.2.2.2.2.2.2.2.2.2.2 a4.1, hK.warm a4 hU hW⟩⟩ rfl rfl a1.1 hstk (lv_room hsum) hdg ⟨hk, hs⟩
  intro T hT X9
  obtain ⟨v, st₀, t, T', L, h0, X', hL, e1, e2, ⟨⟨v', w', hv, hq, hP, hlo⟩, hF⟩, st9⟩ := hr T hT X9
  cases hv
  obtain ⟨k1, k2, k3⟩ := vx_keep h0 e1 a4 (fun q _ h => h) (fun q h => h) hL hF
  obtain ⟨t2, b1, b2⟩ := kk v w' hq p e s m args below meth c C T'.heap (locs ++ L) ls a1 (by rw [e1]; exact hP) hlo k3 T' rfl X'
  exact ⟨t2, st9 t2 b1, b2⟩
/-- System.arraycopy of byte rows -/
theorem og_copyB {idx a0 a n0 n1 i0 i1 len : Nat} {sp dp m9 : Int32} (hdg : decode y.2.1 pc = .ok (.invokestatic idx, 3)) (hl : Cond.methodLink y.1.cls idx arraycopyName ∈ ob_tb) (h1 : Cond.native arraycopyName ∈ ob_tb) (h2 : Cond.static arraycopyName ∈ ob_tb) (h3 : Cond.initialized "java/lang/System" ∈ ob_tb)
    (ha0 : w.1 a0 = some (7, n0)) (ha : w.1 a = some (7, n1)) (e0 : sp = nI i0) (e1 : dp = nI i1) (e2 : m9 = nI len) (h4 : i0 + len ≤ n0) (h5 : i1 + len ≤ n1) (hb : n0 < 2 ^ 31 ∧ n1 < 2 ^ 31) (hfit : ∀ i, i < len → fits .byte (.int (w.2.2.1 a0 (i0 + i))) = true) (hf : 1 ≤ R.frames) (hlo : (st.map fun v => v.category).sum + (nativeFrameWords "java/lang/System" "arraycopy" 5 + 11) ≤ R.locals)
    (kk : ob_G X y R Q (pc + 3) lv st (w.1, w.2.1, ob_row w.2.2.1 a (va_cpy (w.2.2.1 a0) (w.2.2.1 a) i0 i1 len), w.2.2.2) k n) : ob_G X y R Q pc lv (.int m9 :: .int dp :: .ref a :: .int sp :: .ref a0 :: st) w k n := by
  intro p e s m args below meth c C H locs ls a1 a2 a3 a4
  have hts := C.2.2.2.2.2.1
  have hK := C.2.2.2.2.2.2.2.2.2.1.1
  subst e0; subst e1; subst e2
  have c0 : (nI i0).toNatClampNeg = i0 := nI_clamp (by omega)
  have c1 : (nI i1).toNatClampNeg = i1 := nI_clamp (by omega)
  have c2 : (nI len).toNatClampNeg = len := nI_clamp (by omega)
  have t0 : (nI i0).toInt = (i0 : Int) := nI_toInt (by omega)
  have t1 : (nI i1).toInt = (i1 : Int) := nI_toInt (by omega)
  have t2 : (nI len).toInt = (len : Int) := nI_toInt (by omega)
  intro T hT X9
  have hc0 : H[a0]? = some (arrV (X.2.1.2 0) n0 (fun j => .int (w.2.2.1 a0 j))) := a2 a0 7 n0 ha0
  have hc1 : H[a]? = some (arrV (X.2.1.2 0) n1 (fun j => .int (w.2.2.1 a j))) := a2 a 7 n1 ha
  obtain ⟨-, k0, hk0, cm0, hkk0⟩ := (hK.2 0 _ rfl).1 n0 (fun j => .int (w.2.2.1 a0 j))
  obtain ⟨-, k1, hk1, cm1, hkk1⟩ := (hK.2 0 _ rfl).1 n1 (fun j => .int (w.2.2.1 a j))
  obtain ⟨vm', X', step⟩ := X9.arraycopy C.1 C.2.2.2.2.1 (hts _ hl) (hts _ h1) (hts _ h2) (hts _ h3) (src := a0) (dst := a) (cs := arrV (X.2.1.2 0) n0 (fun j => .int (w.2.2.1 a0 j))) (cd := arrV (X.2.1.2 0) n1 (fun j => .int (w.2.2.1 a j))) (srcPos := nI i0) (destPos := nI i1) (n := nI len) (by rw [hT]; exact hc0) (by rw [hT]; exact hc1)
    (fun _ h => by cases h) (fun _ h => by cases h) (fun h => by cases h) (fun h => by cases h) hk0 hk1 hkk0 hkk1 (by simp [refKind]) (nI_pos (by omega)) (nI_pos (by omega)) (nI_pos (by omega))
    (by rw [t0, t2, arrV_size]; omega) (by rw [t1, t2, arrV_size]; omega)
    (fun vm₁ _ i hi => by
      rw [c2] at hi
      have e9 : (arrV (X.2.1.2 0) n0 (fun j => .int (w.2.2.1 a0 j))).slots.getD ((nI i0).toNatClampNeg + i) .null = .int (w.2.2.1 a0 (i0 + i)) := by
        rw [Array.getD_eq_getD_getElem?, c0, arrV_read _ _ (by omega)]
        rfl
      rw [e9]
      exact ⟨hfit i hi, trivial⟩)
    (g := F0 m pc ls (.int (nI len) :: .int (nI i1) :: .ref a :: .int (nI i0) :: .ref a0 :: st)) rfl (by show ls.size = c.maxLocals; rw [C.2.2.2.1]; exact a1.1) (rest := st) rfl (by rw [C.2.1]; exact hdg) hf (by show 2 * 0 + _ + _ ≤ _; omega)
  have e9 : copied (arrV (X.2.1.2 0) n0 (fun j => .int (w.2.2.1 a0 j))) (arrV (X.2.1.2 0) n1 (fun j => .int (w.2.2.1 a j))) (nI i0) (nI i1) (nI len) = arrV (X.2.1.2 0) n1 (fun j => .int (va_cpy (w.2.2.1 a0) (w.2.2.1 a) i0 i1 len j)) := by
    have h := va_copied (fun z => Value.int z) (X.2.1.2 0) (X.2.1.2 0) (n0 := n0) (n1 := n1) (sp := (nI i0).toNatClampNeg) (dp := (nI i1).toNatClampNeg) (n := (nI len).toNatClampNeg) (w.2.2.1 a0) (w.2.2.1 a) (by rw [c0, c2]; exact h4)
    rw [c0, c1, c2] at h
    show (arrV _ _ _).storeRun (nI i1).toNatClampNeg ((arrV _ _ _).stretch (nI i0).toNatClampNeg (nI len).toNatClampNeg) = _
    rw [c0, c1, c2]
    exact h
  rw [e9] at X' step
  have hl9 : a < H.size := (Array.getElem?_eq_some_iff.mp hc1).1
  generalize hcell : arrV (X.2.1.2 0) n1 (fun j => .int (va_cpy (w.2.2.1 a0) (w.2.2.1 a) i0 i1 len j)) = cell at X' step
  have hheap : ((T.setVm vm').setCell a cell).heap = H.setIfInBounds a cell := by rw [← hT]; rfl
  have oq : ∀ q : Nat, q ≠ a → (H.setIfInBounds a cell)[q]? = H[q]? := fun q hq => by simp [Array.getElem?_setIfInBounds, Ne.symm hq]
  obtain ⟨t, b1, b2⟩ := kk p e s m args below meth c C _ _ ls a1 (ob_P.put (a := a) a2 rfl (fun c9 n9 h9 => by
      cases h9.symm.trans ha
      show (H.setIfInBounds a cell)[a]? = some (arrV _ _ _)
      rw [Array.getElem?_setIfInBounds, if_pos rfl, if_pos hl9, ← hcell]
      simp [ob_row]) oq (fun _ _ => rfl) (fun b hb => by simp [ob_row, hb]) (fun _ _ => rfl)) a3 ⟨by simp; exact a4.1, fun q g1 g2 => by
      rw [oq q (fun e8 => g2 (by rw [e8]; exact a3 a _ ha))]
      exact a4.2.1 q g1 g2, fun q hq => by
      rcases List.mem_append.mp hq with h | h
      · exact a4.2.2 q h
      · obtain ⟨z, -, hz⟩ := List.mem_map.mp h
        rw [← hz]
        exact a3 a _ ha⟩ _ hheap X'
  exact ⟨t, step t b1, b2⟩
/-- what 'throw new E("text")' needs of the tables -/
def ob_th (own : String) (ic : Nat) (cls : String) : Prop := Bundle.fit cls = true ∧ Cond.initialized cls ∈ ob_tb ∧ ∀ w ∈ vx_atS own ic cls ["java/lang/RuntimeException", "java/lang/Exception"], (w ∈ ob_tb ∨ ∃ x ∈ ob_dcl, w = .declares x) ∧ vx_ot w = true
theorem og_throw {ik is ic : Nat} {cls text : String} (hd : decode y.2.1 pc = .ok (.new ik, 3) ∧ decode y.2.1 (pc + 3) = .ok (.dup, 1) ∧ decode y.2.1 (pc + 4) = .ok (.ldc is, 2) ∧ decode y.2.1 (pc + 6) = .ok (.invokespecial ic, 3) ∧ decode y.2.1 (pc + 9) = .ok (.athrow, 1))
    (hown : y.1.cls = RX5) (hl : Cond.classLink y.1.cls ik cls ∈ ob_tb) (hth : ob_th y.1.cls ic cls) (htx : (is, text) ∈ ob_strs) (hh : y.2.2.2.2 = []) (hf : 5 < R.frames) (hlo : (st.map fun v => v.category).sum + 82 ≤ R.locals) (hk : k + 1 ≤ R.cells) (hs : n + 6 ≤ R.slots) (hq : Q (.inr cls) w) : ob_G X y R Q pc lv st w k n := by
  intro p e s m args below meth c C H locs ls a1 a2 a3 a4
  have hts := C.2.2.2.2.2.1
  obtain ⟨hK1, hK2, hK3, hK4, hK5, hK6, -⟩ := C.2.2.2.2.2.2.2.2.2.1
  obtain ⟨t1, t2, t3⟩ := hth
  obtain ⟨sa, hsa⟩ := hK3 _ htx
  refine vx_throwS (names := ["java/lang/RuntimeException", "java/lang/Exception"]) (own := y.1.cls) (text := text) (sa := sa) C.1 C.2.1 hK2 C.2.2.2.2.1 t1 (by decide) (hts _ hl) (hts _ t2) (by rw [hown]; exact hsa) (fun w9 h9 => ?_) (fun w9 h9 => ?_) hK5 hK6 a4 (by rw [C.2.2.2.1]; exact a1.1) hd.1 hd.2.1 hd.2.2.1 hd.2.2.2.1 hd.2.2.2.2 (ob_notab C hh (pc + 9)) (by simpa using hf) (by simp only [List.length_cons, List.length_nil]; omega) hk hs C.2.2.2.2.2.2.1 (fun t hA hz ho => ⟨⟨w, hq, fun a c9 n9 h9 => (a2 a c9 n9 h9).kept (ho a (a2 a c9 n9 h9).lt), a3⟩, Nat.le_trans a4.1 hz, fun q g1 g2 => (ho q (Nat.lt_of_lt_of_le g1 a4.1)).trans (a4.2.1 q g1 g2)⟩) a4.2.2 hk hs
  · rcases (t3 w9 h9).1 with h | ⟨x, hx, rfl⟩
    · exact hts _ h
    · exact va_Nw.use rfl (hK4 x hx)
  · simp only [List.mem_cons] at h9
    rcases h9 with rfl | rfl | h9
    · simp only [vx_ot, Bool.or_eq_true]; exact Or.inr (List.mem_filter.mp hl).2
    · simp only [vx_ot, Bool.or_eq_true]; exact Or.inr (List.mem_filter.mp t2).2
    · exact (t3 w9 h9).2
end OBI
