/-! THE START: what the tables and the Statement give, as the rows want it; then the claim -/
theorem lw_arr {s : State} {args : Array Value} {ty : FieldType} (h : (Cond.arrayClass ty).before args s = true) (hno : ∀ C, ty ≠ .object C) : ∃ cA : ClassId, ArrOfT s cA ty ∧ va_RA s cA ty := by
  obtain ⟨c, k, comp, h1, h2, h3⟩ := Cond.arrayClass_spec h
  refine ⟨c, fun n z => ⟨fun k h => (by cases h), k, h2, comp, h3⟩, ?_⟩
  cases ty with
  | object C => exact absurd rfl (hno C)
  | _ => exact h1
theorem lw_K {s : State} {b L : Nat} {xs : Nat → Int32} (l : Launch) (hst : l.stackTraces = false) (hts : ∀ w ∈ lw_tbl, w.before #[Value.ref b] s = true) (hX : va_X b L xs s s.heap) (hb : b < s.heap.size) (hgv : (Jvm.Cond.and given_1 narrow_1).before #[Value.ref b] s = true) : ∃ X : ob_X, X.1 = l ∧ X.2.2 = s.heap.size ∧ sc_A X = b ∧ sc_L X = L ∧ ob_K X s := by
  have hs := flat_of_before _ hgv
  have ht : ∀ w ∈ ob_tb, w.before #[Value.ref b] s = true := fun w hw => hts w (List.mem_filter.mp hw).1
  have hcl : ∀ c : Nat, ∃ z : ClassId × (Nat → Nat), ∀ q : vw_C, vwCl[c]? = some q → u_Kn s q.1 q.2.1 q.2.2 z.1 z.2 := by
    intro c
    have one : ∀ {C : String} {T : u_T} {N : Nat}, ob_cl c C T N → Cond.instantiable C N ∈ ob_tb → ∃ z : ClassId × (Nat → Nat), ∀ q : vw_C, vwCl[c]? = some q → u_Kn s q.1 q.2.1 q.2.2 z.1 z.2 := by
      intro C T N h1 h2
      obtain ⟨cC, iS, h3⟩ := u_known ht h1.2.2.1 (ht _ h2)
      refine ⟨(cC, iS), fun q hq => ?_⟩
      rw [h1.1] at hq
      cases hq
      exact h3
    match c with
    | 0 => exact one kc0 kn0
    | 1 => exact one kc1 kn1
    | 2 => exact one kc2 kn2
    | 3 => exact one kc3 kn3
    | 4 => exact one kc4 kn4
    | 5 => exact one kc5 kn5
    | 6 => exact one kc6 kn6
    | c + 7 => exact ⟨(0, fun _ => 0), fun q hq => by rw [List.getElem?_eq_none (by show 7 ≤ c + 7; omega)] at hq; cases hq⟩
  obtain ⟨f, hf⟩ := Classical.axiomOfChoice hcl
  obtain ⟨cB, hB1, hB2⟩ := lw_arr (ht _ kAB) (fun C h => by cases h)
  obtain ⟨cI, hI1, hI2⟩ := lw_arr (ht _ kAI) (fun C h => by cases h)
  obtain ⟨cJ, hJ1, hJ2⟩ := lw_arr (ht _ kAJ) (fun C h => by cases h)
  refine ⟨(l, ((fun c => (f c).1, fun c => (f c).2), fun j => match j with
    | 0 => cB
    | 1 => cI
    | 2 => cJ
    | 3 => b
    | 4 => L
    | j + 5 => (xs j).toBitVec.toNat), s.heap.size), rfl, rfl, rfl, rfl, ⟨hf, fun k q hk => ?_⟩, hst, ?_, ?_, ?_, ?_, ⟨va_Nc.of (hs (.not (.castable "java/lang/IllegalStateException" "java/lang/IllegalArgumentException")) (by decide +kernel)), va_Nc.of (hs (.not (.castable "java/util/NoSuchElementException" "java/lang/IllegalArgumentException")) (by decide +kernel)), fun q hq => by
    simp only [ob_nst, List.mem_cons, List.not_mem_nil, or_false] at hq
    rcases hq with rfl | rfl <;> exact va_Nw.of rfl (hts _ (by decide +kernel))⟩, hb, ?_⟩
  · match k, hk with
    | 0, hk => cases hk; exact ⟨hB1, hB2⟩
    | 1, hk => cases hk; exact ⟨hI1, hI2⟩
    | 2, hk => cases hk; exact ⟨hJ1, hJ2⟩
    | k + 3, hk => rw [List.getElem?_eq_none (by show 3 ≤ k + 3; omega)] at hk; cases hk
  · have one : ∀ {k : Nat} {tx : String}, Cond.stringRef RX5 k tx ∈ lw_tbl → (Cond.exactly (.string RX5 k) "java/lang/String").before #[Value.ref b] s = true → ∃ sa, vk_R RX5 k tx sa s := by
      intro k tx h1 h2
      obtain ⟨a, _, _, _, h3, -⟩ := Cond.exactly_spec h2
      exact ⟨a, vk_R.of (hts _ h1) h3⟩
    intro q hq
    simp only [ob_strs, List.mem_cons, List.not_mem_nil, or_false] at hq
    rcases hq with rfl | rfl | rfl | rfl | rfl | rfl | rfl | rfl | rfl | rfl | rfl | rfl <;> exact one (by decide +kernel) (hs _ (by decide +kernel))
  · intro x hx
    simp only [ob_dcl, List.mem_cons, List.not_mem_nil, or_false] at hx
    rcases hx with rfl | rfl | rfl <;> exact va_Nw.of rfl (hts _ (by decide +kernel))
  · exact vx_Zqof (hts _ (by decide +kernel)) (hts _ (by decide +kernel)) (hs _ (by decide +kernel)) (fun a h => Nat.not_le.mpr h)
  · exact vx_Zqof (hts _ (by decide +kernel)) (hts _ (by decide +kernel)) (hs _ (by decide +kernel)) (fun a h => Nat.not_le.mpr h)
  · have e : (fun j => Int32.ofNat (xs j).toBitVec.toNat) = xs := by
      funext j
      apply Int32.toBitVec_inj.mp
      show BitVec.ofNat 32 (xs j).toBitVec.toNat = (xs j).toBitVec
      rw [BitVec.ofNat_toNat, BitVec.setWidth_eq]
    show va_X b L (fun j => Int32.ofNat (match 5 + j with
      | 0 => cB
      | 1 => cI
      | 2 => cJ
      | 3 => b
      | 4 => L
      | j + 5 => (xs j).toBitVec.toNat)) s s.heap
    have e2 : (fun j => Int32.ofNat (match 5 + j with
      | 0 => cB
      | 1 => cI
      | 2 => cJ
      | 3 => b
      | 4 => L
      | j + 5 => (xs j).toBitVec.toNat)) = xs := by
      funext j
      rw [Nat.add_comm 5 j]
      exact congrFun e j
    rw [e2]
    exact hX
/-! THE CLAIM OUT OF ONE WALK OF THE LAW'S BODY. Your part is whole_start (and what it stands on); all else here is the same for every law, but numbers. -/
def R_law : String := "OrderedBytesLaw"
def lw_P (b : Addr) (xs : List Int32) (args : Array Value) (s : State) : Prop := args = #[.ref b] ∧ s.IntsAt b xs ∧ xs.length ≤ 2050 ∧ (Jvm.Cond.and given_1 narrow_1).before args s = true
def lw_Q (_ : Array Value) (s : State) (o : Outcome) (t : State) : Prop := o = .returned (some (.int 1)) ∧ Framed s o t [] 601024 7293000
def lw_Z (below : List Frame) (a : Array Value) (s : State) : State → Prop := fun t => ∃ o, t.status = .running ∧ Ended t below o ∧ lw_Q a s o t
/-- what holds at the law's entry: the machine, the code, the tables' words (any of lw_tbl by 'hts w (by decide +kernel)'), the script of L ints xs at the cell b, what the Statement gives of the start (any of its parts by flat_of_before) -/
def lw_At (p : Program) (s : State) (m : MethodId) (meth : Method) (c : Code) (b L : Nat) (xs : Nat → Int32) : Prop :=
  p.tables.exec = Jvm.exec ∧ c.code = code ∧ meth.sig.returnType = ret ∧ c.maxLocals = 7 ∧ s.vm.findClass R_law = some m.cls ∧ (∀ w ∈ lw_tbl, w.before #[Value.ref b] s = true) ∧ va_X b L xs s s.heap ∧ b < s.heap.size ∧ meth.locks = false ∧ (Jvm.Cond.and given_1 narrow_1).before #[Value.ref b] s = true ∧ meth.name = "law" ∧ c.exceptionTable.toList = []
/-- from the entry, for every script of at most 2050 ints, the law comes to its end with true -/
theorem whole_start {p : Program} {e : Env} {s : State} {m : MethodId} {below : List Frame} {meth : Method} {c : Code} (l : Launch) (hst : l.stackTraces = false) {b L : Nat} {xs : Nat → Int32} (hL : L ≤ 2050) (C0 : lw_At p s m meth c b L xs) : W p l e room_1 s m #[Value.ref b] below meth c s.heap [] 0 0 (lw_Z below #[Value.ref b] s) (entryFrame m ([Value.ref b] : List Value).toArray 7) := by
  obtain ⟨hx, hc, hr, hml, hown, hts, hX, hb, hlk, hgv, hnm, htab⟩ := C0
  obtain ⟨X, rfl, hsz, hA, hLL, hK⟩ := lw_K l hst hts hX hb hgv
  have hG := lw_begin (X := X) (R := room_1) (Q := fun r _ => r = .inl (some (.int 1))) ⟨by decide, by decide⟩ (by decide) (by decide) (by rw [hLL]; exact hL) (fun _ => rfl) (fun _ => none) (fun _ _ => .null) (fun _ _ => 0) (fun _ _ => 0)
  have hent := lv_entry [Value.ref b] (n := 7) (Nat.le_of_ble_eq_true rfl)
  rw [lg_entry_eq]
  have hW := hG p e s m #[Value.ref b] below meth c ⟨hx, hc, hr, hml, hown, fun w9 h9 => hts w9 (List.mem_filter.mp h9).1, hlk, hnm, by rw [htab]; rfl, hK, Nat.le_of_eq hsz⟩ s.heap [] _ (by rw [hA]; exact hent) (fun a c n h => by cases h) (fun a x h => by cases h) va_S.rf
  intro T hT X9
  obtain ⟨t, a1, o, b1, b2, b3⟩ := hW T hT X9
  refine ⟨t, a1, o, b1, b2, ?_⟩
  rcases b3 with ⟨⟨⟨v, w, rfl, hq, -⟩, -⟩, L9, ⟨f1, f2, f3⟩, hfree⟩ | ⟨q, rfl, E, ce, L9, ⟨⟨w, hq, -⟩, -⟩, -⟩
  · cases hq
    refine ⟨rfl, f1, f2, ?_⟩
    obtain ⟨g1, g2, g3, g4, g5, g6⟩ := f3
    refine ⟨g1, g2, g3, g4, g5, fun a c h => ?_⟩
    obtain ⟨c', k1, k2, k3, k4⟩ := g6 a c h
    refine ⟨c', k1, k2, k3, fun i _ => k4 i (fun hin => ?_)⟩
    have h8 := hfree _ hin
    have h9 : a < s.heap.size := (Array.getElem?_eq_some_iff.mp h).1
    have h7 : s.heap.size ≤ a := hsz ▸ h8
    exact absurd h7 (Nat.not_le.mpr h9)
  · cases hq
set_option maxHeartbeats 4000000 in
theorem lw_walk (l : Launch) (hst : l.stackTraces = false) (b : Addr) (xs : List Int32) : MetFree l x (headSpec (Jvm.Cond.code x code maxLocals ret :: tables_1) room_1) (lw_P b xs) (fun _ _ _ _ _ => True) lw_Q := by
  refine MetFree.of_bodyS (code := code) (maxLocals := maxLocals) (ret := ret) (by decide) ?_ ?_
  · intro args s m h hn
    obtain ⟨meth, c, h1, h2, h3, h4, h5, h6, -, -⟩ := Cond.code_spec hn (atoms_spec (ws := Jvm.Cond.code x code maxLocals ret :: tables_1) h _ List.mem_cons_self)
    exact ⟨meth, c, h1, h2, h3, h4, h5, h6⟩
  · intro p e s m args below meth c s₁ B hml0 hP _
    obtain ⟨rfl, hx, hbd, hgv⟩ := hP
    obtain ⟨scr, harrAt, hlist, hof, hsmall⟩ := hx
    obtain ⟨hcb, hkn, -, -⟩ := State.arrayAt?_spec harrAt
    have hown : s.vm.findClass R_law = some m.cls := findClass_of_methodNamed B.named
    have hts0 : ∀ c ∈ (Jvm.Cond.code x code maxLocals ret :: tables_1), c.before #[Value.ref b] s = true := atoms_spec (ws := Jvm.Cond.code x code maxLocals ret :: tables_1) B.pre
    have hts : ∀ w ∈ lw_tbl, w.before #[Value.ref b] s = true := k2_hts_sels lw_privs (fun w hw => hts0 w (List.mem_cons_of_mem _ hw)) lw_privs_ok
    have hml : c.maxLocals = 7 := B.maxLocals_eq (hts0 _ List.mem_cons_self)
    have htab : c.exceptionTable.toList = [] := by
      obtain ⟨meth9, c9, h1, h2, -, -, -, -, h7, -⟩ := Cond.code_spec B.named (hts0 _ List.mem_cons_self)
      cases Option.some.inj (h1.symm.trans B.method)
      cases Option.some.inj (h2.symm.trans (Stand.of_body B).code)
      rw [Array.isEmpty_iff.mp h7]
    have X₀ : Stand p l e room_1 s m #[Value.ref b] below meth c s₁ [] 0 0 := Stand.of_body B
    have hh0 : s₁.heap = s.heap := by rw [B.state]; rfl
    have hsz : scr.slots.size = xs.length := by rw [← Array.length_toList, hlist, List.length_map]
    have hval : ∀ j : Nat, j < xs.length → scr.slots[j]? = some (.int (xs.getD j 0)) := fun j hj => by
      rw [← Array.getElem?_toList, hlist]
      simp [hj]
    have hbl : b < s.heap.size := (Array.getElem?_eq_some_iff.mp hcb).1
    have hX : va_X b xs.length (fun j => xs.getD j 0) s s.heap := ⟨scr, hcb, hof, hkn, hsz, hval⟩
    have K : W p l e room_1 s m #[Value.ref b] below meth c s₁.heap [] 0 0 (lw_Z below #[Value.ref b] s) (entryFrame m ([Value.ref b] : List Value).toArray 7) := by
      rw [hh0]
      exact whole_start l hst hbd ⟨B.exec, B.bytes, B.returns, hml, hown, hts, hX, hbl, B.notSynchronized, hgv, (name_of_methodNamed B.named B.method).1, htab⟩
    obtain ⟨t, a1, o, b1, b2, b3⟩ := K s₁ rfl X₀
    exact ⟨t, o, a1, b1, b2, b3⟩
theorem lw_pre_spec {args : Array Value} {s : State} (h : (Jvm.Cond.and given_1 narrow_1).before args s = true) (hr : rest_1_c.before args s = true) : ∃ (b : Addr) (xs : List Int32), lw_P b xs args s := by
  have hs := flat_of_before _ h
  have hq := flat_of_before _ hr
  have hc : (Cond.count 1).before args s = true := hs _ (by decide +kernel)
  have harr : (Cond.arrayOf (.arg 0) .int).before args s = true := hs _ (by decide +kernel)
  have hle : (Cond.le (.length (.arg 0)) (.int 2050)).before args s = true := hs _ (by decide +kernel)
  have hlen : (Cond.isInt (.length (.arg 0))).before args s = true := hq _ (by decide +kernel)
  have hall : (Cond.all (.arg 0) (.isInt (.elem (.arg 0) (.index 0)))).before args s = true := hq _ (by decide +kernel)
  obtain ⟨b, xs, hb, hx⟩ := State.ints_of_pre rfl harr hlen hall
  have hsm : xs.length < 2 ^ 31 := hx.choose_spec.2.2.2
  have hev : (Term.length (.arg 0)).eval args s none [] s = some (.int xs.length.toInt32) := hx.length_eval hb
  have hv := Cond.le_ints hev (show (Term.int 2050).eval args s none [] s = some (.int 2050) from rfl)
  have hd : xs.length.toInt32 ≤ 2050 := by
    simpa [Cond.before, Cond.holds, hv] using hle
  have hN : xs.length ≤ 2050 := (Int32.ofNat_le_ofNat hsm (by decide)).mp (show Int32.ofNat xs.length ≤ Int32.ofNat 2050 from hd)
  exact ⟨b, xs, Cond.one_arg hc (show args[0]? = some (.ref b) from hb), hx, hN, h⟩
theorem lw_comes (l : Launch) (hst : l.stackTraces = false) : Comes l x (Jvm.Cond.code x code maxLocals ret :: tables_1) room_1 (fun tb e args s => Calls_1 tb e args s ∧ rest_1 tb e args s ∧ Pre_1 tb e args s)
    (fun _ _ args s o t => lw_Q args s o t) := by
  intro p e ha hc hk s m args below hf hfit hheap happ hpre
  obtain ⟨b, xs, hP⟩ := lw_pre_spec hpre.2.2 hpre.2.1
  obtain ⟨k, o, h1, h2, h3, hQ⟩ := lw_walk l hst b xs p e ha hc hk s m args below hf ((Spec.applies_iff_loose hf).mp happ).1 hP trivial
  exact ⟨k, o, h1, h2, h3, hQ⟩
theorem lw_frame {s t : State} {o : Outcome} {args : Array Value} (h : Framed s o t [] 601024 7293000) :
    Framed s o t (fieldLocs frame_1_writes args s ++ arrayLocs frame_1_arrays args s ++ staticLocs frame_1_statics s) 601024 7293000 := h
theorem lw_limb (L : Cond) (hL : ∀ (args : Array Value) (s t : State), L.after args s (.returned (some (.int 1))) t = true) :
    ArmFor flags0 classFile x code maxLocals ret World_1 tables_1 room_1 Calls_1 rest_1 Pre_1
      (fun tb e a s o t => postC L tb e a s o t ∧ Framed s o t (fieldLocs frame_1_writes a s ++ arrayLocs frame_1_arrays a s ++ staticLocs frame_1_statics s) 601024 7293000) := by
  intro l hfl _ _ p e ha hc hk s m args below hf hfit hheap happ hpre
  obtain ⟨k, o, h1, h2, h3, rfl, hF⟩ := lw_comes l (by unfold Launch.stackTraces; rw [hfl]; decide +kernel) p e ha hc hk s m args below hf hfit hheap happ hpre
  exact ⟨k, _, h1, h2, h3, hL args s _, lw_frame hF⟩
theorem i_vc : Claimed_1_1 ∧ Claimed_1_2 := ⟨lw_limb limb_1_1 (fun args s t => by simp [limb_1_1, Cond.after, Cond.holds, Cond.value]), lw_limb limb_1_2 (fun args s t => Cond.after_iff.mpr (by
  first | (rw [show limb_1_2 = Cond.eq .result (.int 1) from rfl, Cond.eq_ints (x := 1) (y := 1) rfl rfl]; simp; done) | (simp [limb_1_2, Cond.value, Term.eval]; done)))⟩
