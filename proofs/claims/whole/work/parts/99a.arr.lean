-- ARRAY CLASSES AT THE START
theorem arr_prim {ty : FieldType} {s : State} {args : Array Value} (h : (Cond.arrayClass ty).before args s = true) : ∃ cA : ClassId, s.vm.findClass ("[" ++ ty.toString) = some cA ∧ ArrOfT s cA ty := by
  obtain ⟨c, k, comp, hc, hk, hkind⟩ := Cond.arrayClass_spec h
  exact ⟨c, hc, fun n z => ⟨fun k h => (by cases h), k, hk, comp, hkind⟩⟩
