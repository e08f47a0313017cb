/-! THE LAW: reading the script; a method that catches; calling it -/
section LWA
variable {X : ob_X} {y : ob_y} {R : Room} {Q : ob_r → ob_w → Prop} {pc : Nat} {lv : List (Nat × Value)} {st : List Value} {w : ob_w} {k n : Nat}
/-- the script: where it stands, its length, its ints -/
def sc_A (X : ob_X) : Nat := X.2.1.2 3
def sc_L (X : ob_X) : Nat := X.2.1.2 4
def sc_v (X : ob_X) (j : Nat) : Int32 := Int32.ofNat (X.2.1.2 (5 + j))
theorem og_sald {j : Nat} (hdg : decode y.2.1 pc = .ok (.iaload, 1)) (hj : j < sc_L X) (hL : sc_L X ≤ 2050) (kk : ob_G X y R Q (pc + 1) lv (.int (sc_v X j) :: st) w k n) : ob_G X y R Q pc lv (.int (nI j) :: .ref (sc_A X) :: st) w k n := by
  intro p e s m args below meth c C H locs ls a1 a2 a3 a4
  obtain ⟨-, -, -, -, -, -, -, h8, h9⟩ := C.2.2.2.2.2.2.2.2.2.1
  have hbl : X.2.1.2 3 < s.heap.size := by
    obtain ⟨scr, q1, -⟩ := h9
    exact (Array.getElem?_eq_some_iff.mp q1).1
  refine va_sld C.1 C.2.1 h9 hbl (Nat.not_le.mpr h8) a4 (vp_in_nI hj (Nat.lt_of_le_of_lt hL (by decide))) hdg ?_
  rw [nI_clamp (by omega)]
  exact kk p e s m args below meth c C H locs ls a1 a2 a3 a4
theorem og_slen (hdg : decode y.2.1 pc = .ok (.arraylength, 1)) (kk : ob_G X y R Q (pc + 1) lv (.int (nI (sc_L X)) :: st) w k n) : ob_G X y R Q pc lv (.ref (sc_A X) :: st) w k n := by
  intro p e s m args below meth c C H locs ls a1 a2 a3 a4
  obtain ⟨-, -, -, -, -, -, -, h8, h9⟩ := C.2.2.2.2.2.2.2.2.2.1
  have hbl : X.2.1.2 3 < s.heap.size := by
    obtain ⟨scr, q1, -⟩ := h9
    exact (Array.getElem?_eq_some_iff.mp q1).1
  exact va_slen C.1 C.2.1 h9 hbl (Nat.not_le.mpr h8) a4 hdg (kk p e s m args below meth c C H locs ls a1 a2 a3 a4)
/-- a method with a table of handlers, which lets nothing out -/
def ob_wsW (y : ob_y) : List Cond := Cond.codeWith y.1 y.2.1 y.2.2.1 y.2.2.2.1 y.2.2.2.2 :: ob_tb
def ob_CW (X : ob_X) (y : ob_y) (d mc ms : Nat) (As : List Value) (w : ob_w) (Q : ob_r → ob_w → Prop) : Prop :=
  Met X.1 y.1 (ob_wsW y) (ob_rm d mc ms) (va_Pc As (ob_wd X w)) (ob_Qc X Q) mc ms (fun q => X.2.2 ≤ q)
theorem ob_CW_of {d mc ms : Nat} {As : List Value} (hy : plainName y.1.cls = true) (hl : (lg_sl As).length ≤ y.2.2.1) (hno : ∀ E w', ¬ Q (.inr E) w') (h : ob_G X y (ob_rm d mc ms) Q 0 (lv_args 0 As) [] w 0 0) : ob_CW X y d mc ms As w Q := by
  have hM : vx_Met X.1 y.1 (ob_wsW y) (ob_rm d mc ms) (va_Pc As (ob_wd X w)) (ob_Qc X Q) (ob_XC X Q) mc ms (fun q => X.2.2 ≤ q) := by
    refine vx_ofWH (cc := y.2.1) (maxL := y.2.2.1) (ret := y.2.2.2.1) (hh := y.2.2.2.2) hy rfl ?_
    intro p e s m args below meth c s₁ B hml hv
    obtain ⟨rfl, hP, hlo, hsz, hK⟩ := hv
    have hts := atoms_spec (ws := ob_wsW y) B.pre
    have hent := lv_entry As (n := y.2.2.1) hl
    rw [lg_entry_eq]
    have ht : c.exceptionTable.toList = tableOf y.2.2.2.2 := vx_table (x := y.1) B (hts _ List.mem_cons_self)
    exact h p e s m As.toArray below meth c ⟨B.exec, B.bytes, B.returns, hml, findClass_of_methodNamed B.named, fun w9 h9 => hts w9 (List.mem_cons_of_mem _ h9), B.notSynchronized, (name_of_methodNamed B.named B.method).1, ht, hK, hsz⟩ s.heap [] _ hent hP hlo va_S.rf
  intro p e h1 h2 h3 s m args below h4 h5 h6 h7
  obtain ⟨t, o, q1, q2, q3, q4⟩ := hM p e h1 h2 h3 s m args below h4 h5 h6 h7
  refine ⟨t, o, q1, q2, q3, ?_⟩
  rcases q4 with q4 | ⟨q, rfl, E, ce, L, ⟨⟨w', hq, -⟩, -⟩, -⟩
  · exact q4
  · exact absurd hq (hno E w')
theorem og_callVc {idx b ci n0 d mc ms np : Nat} {z : ob_y} {As stk : List Value} {Q2 : ob_r → ob_w → Prop} (hdg : decode y.2.1 pc = .ok (.invokevirtual idx, 3)) (hv : ob_mv y.1.cls idx z np) (hM : ob_C X z d mc ms (.ref b :: As) w Q2) (hnp : np = As.length) (hb : w.1 b = some (ci, n0)) (hci : (vwCl[ci]?).map (fun q => q.1) = some z.1.cls) (hstk : stk = As.reverse ++ .ref b :: st) (hR : d + 1 ≤ R.frames ∧ 8 + (z.2.2.1 + 11) + 60 * d ≤ R.locals) (hk : k + mc ≤ R.cells) (hs : n + ms ≤ R.slots) (hsum : (st.map fun v => v.category).sum ≤ 8)
    (kx : ∀ E w', Q2 (.inr E) w' → ∃ (pre : List ExceptionTableEntry) (x : ExceptionTableEntry) (suf : List ExceptionTableEntry), tableOf y.2.2.2.2 = pre ++ x :: suf ∧ (∀ z ∈ pre, z.catchType ≠ 0 ∧ Cond.classLink y.1.cls z.catchType ob_IA ∈ ob_tb ∧ (E = ob_IS ∨ E = ob_NE)) ∧ covers x pc = true ∧ x.catchType ≠ 0 ∧ Cond.classLink y.1.cls x.catchType E ∈ ob_tb ∧ Cond.initialized E ∈ ob_tb ∧ ∀ q, ob_G X y R Q x.handlerPc lv [.ref q] w' (k + mc) (n + ms))
    (kk : ∀ v w', Q2 (.inl v) w' → ob_G X y R Q (pc + 3) lv (v.toList ++ st) w' (k + mc) (n + ms)) : ob_G X y R Q pc lv stk w k n := by
  subst hnp
  intro p e s m args below meth c C H locs ls a1 a2 a3 a4
  obtain ⟨⟨m1, m2, m3, m4⟩, m5, m6, m7, m8⟩ := hv
  have hts := C.2.2.2.2.2.1
  have hK := C.2.2.2.2.2.2.2.2.2.1
  have h7 : ci < 7 := by
    rcases Nat.lt_or_ge ci 7 with h | h
    · exact h
    · rw [List.getElem?_eq_none (by simpa using h)] at hci; cases hci
  obtain ⟨r, r1, cell, r2, r3, r4, -⟩ := (a2 b ci n0 hb).obj h7
  have hcell : s.vm.findClass z.1.cls = some cell.cls := by
    rw [r1] at hci
    have e9 : r.1 = z.1.cls := Option.some.inj hci
    rw [r3, ← e9]; exact (hK.1.1 ci r r1).2.1
  refine ob_callW (mc := mc) (ms := ms) (Q2 := Q2) (vx_runV (As := As) (b := b) (C := z.1.cls) (Ts := ob_tb) ⟨C.1, C.2.1, C.2.2.2.1, C.2.2.2.2.1, hts⟩ hM (cwV As.length hts (ob_gI (fun w9 h9 => ?_)) (ws' := ob_tb) rfl rfl rfl ⟨rfl, m3, m4, m8⟩ hR) ⟨ob_wd.blind _, ⟨cell, r2, by rw [r4]; rfl, hcell⟩, fun U hU hW => ⟨rfl, by rw [hU]; exact a2, a3, by rw [hU]; exact Nat.le_trans C.2.2.2.2.2.2.2.2.2.2 a4.1, hK.warm a4 hU hW⟩⟩ rfl rfl a1.1 hstk (lv_room hsum) hdg ⟨hk, hs⟩) a4 ?_ ?_
  · simp only [wsV, ob_ws, List.cons_append, List.nil_append, List.mem_cons] at h9
    rcases h9 with rfl | rfl | rfl | rfl | rfl | h9
    · exact m5
    · exact m6
    · exact m7
    · exact m2
    · exact m1
    · exact h9
  · intro E ce q w' H1 locs1 hq hP hlo hS hce hcv hcl
    obtain ⟨pre, x, suf, t1, t2, t3, t4, t5, t6, t7⟩ := kx E w' hq
    refine vx_catch (own := y.1.cls) (name := E) C.2.2.2.2.1 pre x suf (by rw [C.2.2.2.2.2.2.2.2.1]; exact t1) (fun z hz => Or.inr ?_) t3 t4 (hts _ t5) (ob_cast (hts _ t6)) hce hcv hcl (t7 q p e s m args below meth c C H1 locs1 ls a1 hP hlo hS)
    obtain ⟨z1, z2, z3⟩ := t2 z hz
    refine ⟨z1, ob_IA, hts _ z2, ?_⟩
    have hN := hK.2.2.2.2.2.2.1
    rcases z3 with rfl | rfl
    · exact hN.1
    · exact hN.2.1
  · intro v w' H1 locs1 hq hP hlo hS
    exact kk v w' hq p e s m args below meth c C H1 locs1 ls a1 hP hlo hS
def ob_msW (own : String) (idx : Nat) (y : ob_y) (np : Nat) : Prop := Cond.codeWith y.1 y.2.1 y.2.2.1 y.2.2.2.1 y.2.2.2.2 ∈ ob_tb ∧ Cond.initialized y.1.cls ∈ ob_tb ∧ (y.1.cls ≠ "java/lang/invoke/MethodHandle" ∧ y.1.cls ≠ "java/lang/invoke/VarHandle") ∧ Cond.methodLink own idx y.1 ∈ ob_tb ∧ Cond.static y.1 ∈ ob_tb ∧ (parseMethodDescriptor y.1.desc).map (fun d => d.parameters.length) = some np
theorem og_callSW {idx d mc ms np : Nat} {z : ob_y} {As stk : List Value} {Q2 : ob_r → ob_w → Prop} (hdg : decode y.2.1 pc = .ok (.invokestatic idx, 3)) (hv : ob_msW y.1.cls idx z np) (hM : ob_CW X z d mc ms As w Q2) (hnp : np = As.length) (hstk : stk = As.reverse ++ st) (hR : d + 1 ≤ R.frames ∧ 8 + (z.2.2.1 + 11) + 60 * d ≤ R.locals) (hk : k + mc ≤ R.cells) (hs : n + ms ≤ R.slots) (hsum : (st.map fun v => v.category).sum ≤ 8)
    (kk : ∀ v w', Q2 (.inl v) w' → ob_G X y R Q (pc + 3) lv (v.toList ++ st) w' (k + mc) (n + ms)) : ob_G X y R Q pc lv stk w k n := by
  subst hnp
  intro p e s m args below meth c C H locs ls a1 a2 a3 a4
  obtain ⟨m1, m2, m3, m5, m6, m8⟩ := hv
  have hts := C.2.2.2.2.2.1
  have hK := C.2.2.2.2.2.2.2.2.2.1
  have hr := vx_runSW (R := R) (e := e) (below := below) (meth := meth) (H := H) (locs := locs) (cells := k) (slots := n) (As := As) (rest := st) (g := F0 m pc ls stk) (Ts := ob_tb) (bytes := z.2.1) (maxL := z.2.2.1) (ret := z.2.2.2.1) (hh := z.2.2.2.2) ⟨C.1, C.2.1, C.2.2.2.1, C.2.2.2.2.1, hts⟩ hM (vx_cwSW As.length hts (ob_gI (fun w9 h9 => by
    simp only [va_wsS, ob_wsW, List.cons_append, List.nil_append, List.mem_cons] at h9
    rcases h9 with rfl | rfl | rfl | rfl | h9
    · first | exact m5 | exact m6 | exact m2 | exact m1
    · first | exact m5 | exact m6 | exact m2 | exact m1
    · first | exact m5 | exact m6 | exact m2 | exact m1
    · first | exact m5 | exact m6 | exact m2 | exact m1
    · exact h9)) (ws' := ob_tb) rfl rfl rfl ⟨m3.1, m3.2, m8⟩ hR) ⟨ob_wd.blind _, fun U hU hW => ⟨rfl, by rw [hU]; exact a2, a3, by rw [hU]; exact Nat.le_trans C.2.2.2.2.2.2.2.2.2.2 a4.1, hK.warm a4 hU hW⟩⟩ rfl rfl a1.1 hstk (lv_room hsum) hdg ⟨hk, hs⟩
  intro T hT X9
  obtain ⟨v, st₀, t, T', L, h0, X', hL, e1, e2, ⟨⟨v', w', hv', hq, hP, hlo⟩, hF⟩, st9⟩ := hr T hT X9
  cases hv'
  obtain ⟨k1, k2, k3⟩ := vx_keep h0 e1 a4 (fun q _ h => h) (fun q h => h) hL hF
  obtain ⟨t2, b1, b2⟩ := kk v w' hq p e s m args below meth c C T'.heap (locs ++ L) ls a1 (by rw [e1]; exact hP) hlo k3 T' rfl X'
  exact ⟨t2, st9 t2 b1, b2⟩
end LWA
