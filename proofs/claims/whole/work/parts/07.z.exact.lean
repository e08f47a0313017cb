/-! CALLS OF METHODS WHOSE END IS KNOWN EXACTLY -/
/-- the end is this one -/
def ob_e (v0 : Option Value) (w0 : ob_w) : ob_r → ob_w → Prop := fun r w' => r = .inl v0 ∧ w' = w0
section OBE
variable {X : ob_X} {y : ob_y} {R : Room} {Q : ob_r → ob_w → Prop} {pc : Nat} {lv : List (Nat × Value)} {st : List Value} {w : ob_w} {k n : Nat}
theorem ob_e_no {v0 : Option Value} {w0 : ob_w} (E : String) (w' : ob_w) : ¬ ob_e v0 w0 (.inr E) w' := fun h => by cases h.1
theorem og_callVe {idx b ci n0 d mc ms : Nat} {z : ob_y} {As stk : List Value} {v0 : Option Value} {w0 : ob_w} (hdg : decode y.2.1 pc = .ok (.invokevirtual idx, 3)) {np : Nat} (hv : ob_mv y.1.cls idx z np) (hM : ob_C X z d mc ms (.ref b :: As) w (ob_e v0 w0)) (hnp : np = As.length) (hb : w.1 b = some (ci, n0)) (hci : (vwCl[ci]?).map (fun q => q.1) = some z.1.cls) (hstk : stk = As.reverse ++ .ref b :: st) (hR : d + 1 ≤ R.frames ∧ 8 + (z.2.2.1 + 11) + 60 * d ≤ R.locals) (hk : k + mc ≤ R.cells) (hs : n + ms ≤ R.slots) (hsum : (st.map fun v => v.category).sum ≤ 8) (hh : y.2.2.2.2 = [])
    (kk : ob_G X y R Q (pc + 3) lv (v0.toList ++ st) w0 (k + mc) (n + ms)) : ob_G X y R Q pc lv stk w k n := by
  subst hnp
  exact og_callV hdg hv hM hb hci hstk hR hk hs hsum hh (fun E w' h => absurd h (ob_e_no E w')) (fun v w' h => by obtain ⟨h1, rfl⟩ := h; cases h1; exact kk)
theorem og_callSe {idx d mc ms : Nat} {z : ob_y} {As stk : List Value} {v0 : Option Value} {w0 : ob_w} (hdg : decode y.2.1 pc = .ok (.invokestatic idx, 3)) {np : Nat} (hv : ob_ms y.1.cls idx z np) (hM : ob_C X z d mc ms As w (ob_e v0 w0)) (hnp : np = As.length) (hstk : stk = As.reverse ++ st) (hR : d + 1 ≤ R.frames ∧ 8 + (z.2.2.1 + 11) + 60 * d ≤ R.locals) (hk : k + mc ≤ R.cells) (hs : n + ms ≤ R.slots) (hsum : (st.map fun v => v.category).sum ≤ 8) (hh : y.2.2.2.2 = [])
    (kk : ob_G X y R Q (pc + 3) lv (v0.toList ++ st) w0 (k + mc) (n + ms)) : ob_G X y R Q pc lv stk w k n := by
  subst hnp
  exact og_callS hdg hv hM hstk hR hk hs hsum hh (fun E w' h => absurd h (ob_e_no E w')) (fun v w' h => by obtain ⟨h1, rfl⟩ := h; cases h1; exact kk)
theorem og_callSne {idx d mc ms : Nat} {z : ob_y} {As stk : List Value} {v0 : Option Value} {w0 : ob_w} (hdg : decode y.2.1 pc = .ok (.invokestatic idx, 3)) {np : Nat} (hv : ob_msn y.1.cls idx z np) (hM : ob_C X z d mc ms As w (ob_e v0 w0)) (hnp : np = As.length) (hstk : stk = As.reverse ++ st) (hR : d + 1 ≤ R.frames ∧ 8 + (z.2.2.1 + 11) + 60 * d ≤ R.locals) (hk : k + mc ≤ R.cells) (hs : n + ms ≤ R.slots) (hsum : (st.map fun v => v.category).sum ≤ 8) (hh : y.2.2.2.2 = [])
    (kk : ob_G X y R Q (pc + 3) lv (v0.toList ++ st) w0 (k + mc) (n + ms)) : ob_G X y R Q pc lv stk w k n := by
  subst hnp
  exact og_callSN hdg hv hM hstk hR hk hs hsum hh (fun E w' h => absurd h (ob_e_no E w')) (fun v w' h => by obtain ⟨h1, rfl⟩ := h; cases h1; exact kk)
theorem og_callIe {idx b d mc ms : Nat} {z : ob_y} {As stk : List Value} {v0 : Option Value} {w0 : ob_w} (hdg : decode y.2.1 pc = .ok (.invokespecial idx, 3)) {np : Nat} (hv : ob_mi y.1.cls idx z np) (hM : ob_C X z d mc ms (.ref b :: As) w (ob_e v0 w0)) (hnp : np = As.length) (hstk : stk = As.reverse ++ .ref b :: st) (hR : d + 1 ≤ R.frames ∧ 8 + (z.2.2.1 + 11) + 60 * d ≤ R.locals) (hk : k + mc ≤ R.cells) (hs : n + ms ≤ R.slots) (hsum : (st.map fun v => v.category).sum ≤ 8)
    (kk : ob_G X y R Q (pc + 3) lv (v0.toList ++ st) w0 (k + mc) (n + ms)) : ob_G X y R Q pc lv stk w k n := by
  subst hnp
  exact og_callI hdg hv hM ob_e_no hstk hR hk hs hsum (fun v w' h => by obtain ⟨h1, rfl⟩ := h; cases h1; exact kk)
/-- the world, said anew -/
theorem og_w (w' : ob_w) (h : w = w') (kk : ob_G X y R Q pc lv st w' k n) : ob_G X y R Q pc lv st w k n := by rw [h]; exact kk
theorem og_st (st' : List Value) (h : st = st') (kk : ob_G X y R Q pc lv st' w k n) : ob_G X y R Q pc lv st w k n := by rw [h]; exact kk
end OBE
