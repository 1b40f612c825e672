-- WHAT THE START GIVES
theorem v99_79 : Jvm.Cond.instantiable "LeftTillCalled" (8 : Nat) ∈ WU := wt_1 (i := 15) rfl rfl
theorem v99_80 : Jvm.Cond.instantiable "LeftTillCalledModel" (16 : Nat) ∈ WU := wt_3 (i := 151) rfl rfl
theorem known_D {s : State} {args : Array Value} (hts : ∀ w ∈ WU, w.before args s = true) : ∃ D : va_G, ∀ (c : Nat) (q : vw_C), vwCl[c]? = some q → u_Kn s q.1 q.2.1 q.2.2 (D.1 c) (D.2 c) := by
  obtain ⟨c0, i0, h0⟩ := u_known hts inW0 (hts _ v_57)
  obtain ⟨c1, i1, h1⟩ := u_known hts inW1 (hts _ v_39)
  obtain ⟨c2, i2, h2⟩ := u_known hts inW2 (hts _ v_13)
  obtain ⟨c3, i3, h3⟩ := u_known hts inW3 (hts _ v_48)
  obtain ⟨c4, i4, h4⟩ := u_known hts inW4 (hts _ v99_79)
  obtain ⟨c5, i5, h5⟩ := u_known hts inW5 (hts _ v99_80)
  refine ⟨(fun k => match k with | 0 => c0 | 1 => c1 | 2 => c2 | 3 => c3 | 4 => c4 | _ => c5, fun k => match k with | 0 => i0 | 1 => i1 | 2 => i2 | 3 => i3 | 4 => i4 | _ => i5), fun c q h => ?_⟩
  match c, h with
  | 0, h => cases h; exact h0
  | 1, h => cases h; exact h1
  | 2, h => cases h; exact h2
  | 3, h => cases h; exact h3
  | 4, h => cases h; exact h4
  | 5, h => cases h; exact h5
  | c + 6, h => cases h
