/-! THROWS -/
def ob_th2 (own : String) (ic : Nat) (cls : String) : Prop := Bundle.fit cls = true ∧ Cond.initialized cls ∈ ob_tb ∧ ∀ w ∈ vx_atS own ic cls ["java/lang/RuntimeException", "java/lang/Exception"], (w ∈ ob_tb ∨ (∃ x ∈ ob_dcl, w = .declares x) ∨ w = .castable cls cls) ∧ vx_ot w = true
theorem ob_th_of {own : String} {ic : Nat} {cls : String} (h : (Bundle.fit cls && decide (Cond.initialized cls ∈ ob_tb) && (vx_atS own ic cls ["java/lang/RuntimeException", "java/lang/Exception"]).all (fun w => (decide (w ∈ ob_tb) || (ob_dcl.any (fun x => decide (w = .declares x)) || decide (w = .castable cls cls))) && vx_ot w)) = true) : ob_th2 own ic cls := by
  simp only [Bool.and_eq_true, decide_eq_true_eq, List.all_eq_true, Bool.or_eq_true, List.any_eq_true] at h
  exact ⟨h.1.1, h.1.2, h.2⟩
theorem ktIA : ob_th2 RX5 49 "java/lang/IllegalArgumentException" := ob_th_of (by decide +kernel)
theorem ktIS : ob_th2 RX5 59 "java/lang/IllegalStateException" := ob_th_of (by decide +kernel)
theorem ktIO : ob_th2 RX5 133 "java/lang/IndexOutOfBoundsException" := ob_th_of (by decide +kernel)
theorem ob_cast {cls : String} {args : Array Value} {s : State} (h : (Cond.initialized cls).before args s = true) : (Cond.castable cls cls).before args s = true := by
  have h2 := h
  simp only [Cond.before, Cond.holds, Cond.value] at h2 ⊢
  cases h9 : s.vm.findClass cls with
  | none => rw [h9] at h2; cases h2
  | some c =>
    have h8 : s.vm.assignable c c = true := by
      show Vm.assignableAux s.vm (255 + 1) c c = true
      rw [Vm.assignableAux, beq_self_eq_true, Bool.true_or]
    simp only [h8]
    rfl
section OBA
variable {X : ob_X} {y : ob_y} {R : Room} {Q : ob_r → ob_w → Prop} {pc : Nat} {lv : List (Nat × Value)} {st : List Value} {w : ob_w} {k n : Nat}
theorem og_thr {ik is ic : Nat} {cls text : String} (hd : decode y.2.1 pc = .ok (.new ik, 3) ∧ decode y.2.1 (pc + 3) = .ok (.dup, 1) ∧ decode y.2.1 (pc + 4) = .ok (.ldc is, 2) ∧ decode y.2.1 (pc + 6) = .ok (.invokespecial ic, 3) ∧ decode y.2.1 (pc + 9) = .ok (.athrow, 1))
    (hown : y.1.cls = RX5) (hl : Cond.classLink y.1.cls ik cls ∈ ob_tb) (hth : ob_th2 y.1.cls ic cls) (htx : (is, text) ∈ ob_strs) (hh : y.2.2.2.2 = []) (hf : 5 < R.frames) (hlo : (st.map fun v => v.category).sum + 82 ≤ R.locals) (hk : k + 1 ≤ R.cells) (hs : n + 6 ≤ R.slots) (hq : Q (.inr cls) w) : ob_G X y R Q pc lv st w k n := by
  intro p e s m args below meth c C H locs ls a1 a2 a3 a4
  have hts := C.2.2.2.2.2.1
  obtain ⟨hK1, hK2, hK3, hK4, hK5, hK6, -⟩ := C.2.2.2.2.2.2.2.2.2.1
  obtain ⟨t1, t2, t3⟩ := hth
  obtain ⟨sa, hsa⟩ := hK3 _ htx
  refine vx_throwS (names := ["java/lang/RuntimeException", "java/lang/Exception"]) (own := y.1.cls) (text := text) (sa := sa) C.1 C.2.1 hK2 C.2.2.2.2.1 t1 (by decide) (hts _ hl) (hts _ t2) (by rw [hown]; exact hsa) (fun w9 h9 => ?_) (fun w9 h9 => ?_) hK5 hK6 a4 (by rw [C.2.2.2.1]; exact a1.1) hd.1 hd.2.1 hd.2.2.1 hd.2.2.2.1 hd.2.2.2.2 (ob_notab C hh (pc + 9)) (by simpa using hf) (by simp only [List.length_cons, List.length_nil]; omega) hk hs C.2.2.2.2.2.2.1 (fun t hA hz ho => ⟨⟨w, hq, fun a c9 n9 h9 => (a2 a c9 n9 h9).kept (ho a (a2 a c9 n9 h9).lt), a3⟩, Nat.le_trans a4.1 hz, fun q g1 g2 => (ho q (Nat.lt_of_lt_of_le g1 a4.1)).trans (a4.2.1 q g1 g2)⟩) a4.2.2 hk hs
  · rcases (t3 w9 h9).1 with h | ⟨x, hx, rfl⟩ | rfl
    · exact hts _ h
    · exact va_Nw.use rfl (hK4 x hx)
    · exact ob_cast (hts _ t2)
  · simp only [List.mem_cons] at h9
    rcases h9 with rfl | rfl | h9
    · simp only [vx_ot, Bool.or_eq_true]; exact Or.inr (List.mem_filter.mp hl).2
    · simp only [vx_ot, Bool.or_eq_true]; exact Or.inr (List.mem_filter.mp t2).2
    · exact (t3 w9 h9).2
end OBA
