-- ARRAY CLASSES AT THE START
theorem arr_prim {ty : FieldType} {s : State} {args : Array Value} (h : (Cond.arrayClass ty).before args s = true) : ∃ cA : ClassId, s.vm.findClass ("[" ++ ty.toString) = some cA ∧ ArrOfT s cA ty := by
  obtain ⟨c, k, comp, hc, hk, hkind⟩ := Cond.arrayClass_spec h
  exact ⟨c, hc, fun n z => ⟨fun k h => (by cases h), k, hk, comp, hkind⟩⟩
theorem arr_obj {C : String} {s : State} (h : va_AO C s) : ∃ cA : ClassId, ArrOfT s cA (.object C) ∧ va_RA s cA (.object C) := by
  obtain ⟨comp, cA, kA, h1, h2, h3, h4, h5⟩ := Cond.arrayOver_spec (va_AO.use (A := #[]) h)
  exact ⟨cA, fun n z => ⟨fun k h => (by cases h), kA, h3, comp, h4⟩, kA, comp, h3, h4, h1, h5⟩
theorem known_K {s : State} {args : Array Value} (hts : ∀ w ∈ WU, w.before args s = true) (h0 : (Cond.arrayClass .int).before args s = true) (h1 : (Cond.arrayClass .long).before args s = true) (h2 : (Cond.arrayClass .byte).before args s = true) (h3 : va_AO "LeftTillCalled$Sheet" s) : ∃ (D : va_G) (tc : Nat → ClassId), va_K D vwCl (tyL tc) s := by
  obtain ⟨D, hD⟩ := known_D hts
  obtain ⟨c0, a0, b0⟩ := arr_prim h0
  obtain ⟨c1, a1, b1⟩ := arr_prim h1
  obtain ⟨c2, a2, b2⟩ := arr_prim h2
  obtain ⟨c3, b3, a3⟩ := arr_obj h3
  refine ⟨D, fun k => match k with | 0 => c0 | 1 => c1 | 2 => c2 | _ => c3, hD, fun k q h => ?_⟩
  match k, h with
  | 0, h => cases h; exact ⟨b0, a0⟩
  | 1, h => cases h; exact ⟨b1, a1⟩
  | 2, h => cases h; exact ⟨b2, a2⟩
  | 3, h => cases h; exact ⟨b3, a3⟩
  | k + 4, h => cases h
