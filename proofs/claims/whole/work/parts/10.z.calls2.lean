/-! CALLS, the number of parameters said beside -/
section OBN
variable {X : ob_X} {y : ob_y} {R : Room} {Q : ob_r → ob_w → Prop} {pc : Nat} {lv : List (Nat × Value)} {st : List Value} {w : ob_w} {k n : Nat}
/-- a callee that never throws -/
theorem og_callVn {idx b ci n0 d mc ms np : Nat} {z : ob_y} {As stk : List Value} {Q2 : ob_r → ob_w → Prop} (hdg : decode y.2.1 pc = .ok (.invokevirtual idx, 3)) (hv : ob_mv y.1.cls idx z np) (hM : ob_C X z d mc ms (.ref b :: As) w Q2) (hnp : np = As.length) (hb : w.1 b = some (ci, n0)) (hci : (vwCl[ci]?).map (fun q => q.1) = some z.1.cls) (hstk : stk = As.reverse ++ .ref b :: st) (hR : d + 1 ≤ R.frames ∧ 8 + (z.2.2.1 + 11) + 60 * d ≤ R.locals) (hk : k + mc ≤ R.cells) (hs : n + ms ≤ R.slots) (hsum : (st.map fun v => v.category).sum ≤ 8) (hh : y.2.2.2.2 = [])
    (hno : ∀ E w', ¬ Q2 (.inr E) w') (kk : ∀ v w', Q2 (.inl v) w' → ob_G X y R Q (pc + 3) lv (v.toList ++ st) w' (k + mc) (n + ms)) : ob_G X y R Q pc lv stk w k n := by
  subst hnp
  exact og_callV hdg hv hM hb hci hstk hR hk hs hsum hh (fun E w' h => absurd h (hno E w')) kk
theorem og_callSn {idx d mc ms np : Nat} {z : ob_y} {As stk : List Value} {Q2 : ob_r → ob_w → Prop} (hdg : decode y.2.1 pc = .ok (.invokestatic idx, 3)) (hv : ob_ms y.1.cls idx z np) (hM : ob_C X z d mc ms As w Q2) (hnp : np = As.length) (hstk : stk = As.reverse ++ st) (hR : d + 1 ≤ R.frames ∧ 8 + (z.2.2.1 + 11) + 60 * d ≤ R.locals) (hk : k + mc ≤ R.cells) (hs : n + ms ≤ R.slots) (hsum : (st.map fun v => v.category).sum ≤ 8) (hh : y.2.2.2.2 = [])
    (hno : ∀ E w', ¬ Q2 (.inr E) w') (kk : ∀ v w', Q2 (.inl v) w' → ob_G X y R Q (pc + 3) lv (v.toList ++ st) w' (k + mc) (n + ms)) : ob_G X y R Q pc lv stk w k n := by
  subst hnp
  exact og_callS hdg hv hM hstk hR hk hs hsum hh (fun E w' h => absurd h (hno E w')) kk
/-- a callee that may throw: what it throws goes on -/
theorem og_callVx {idx b ci n0 d mc ms np : Nat} {z : ob_y} {As stk : List Value} {Q2 : ob_r → ob_w → Prop} (hdg : decode y.2.1 pc = .ok (.invokevirtual idx, 3)) (hv : ob_mv y.1.cls idx z np) (hM : ob_C X z d mc ms (.ref b :: As) w Q2) (hnp : np = As.length) (hb : w.1 b = some (ci, n0)) (hci : (vwCl[ci]?).map (fun q => q.1) = some z.1.cls) (hstk : stk = As.reverse ++ .ref b :: st) (hR : d + 1 ≤ R.frames ∧ 8 + (z.2.2.1 + 11) + 60 * d ≤ R.locals) (hk : k + mc ≤ R.cells) (hs : n + ms ≤ R.slots) (hsum : (st.map fun v => v.category).sum ≤ 8) (hh : y.2.2.2.2 = [])
    (kx : ∀ E w', Q2 (.inr E) w' → Q (.inr E) w') (kk : ∀ v w', Q2 (.inl v) w' → ob_G X y R Q (pc + 3) lv (v.toList ++ st) w' (k + mc) (n + ms)) : ob_G X y R Q pc lv stk w k n := by
  subst hnp
  exact og_callV hdg hv hM hb hci hstk hR hk hs hsum hh kx kk
end OBN
