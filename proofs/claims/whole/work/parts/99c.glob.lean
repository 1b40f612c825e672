theorem g_w : (∀ i, i < 13 → Cond.stringRef "LeftTillCalled$Text" (strT.getD i (0, "", [])).1 (strT.getD i (0, "", [])).2.1 ∈ lw_tbl) := by decide +kernel
theorem g_nq : ∀ q ∈ nestL, nestC q ∈ lw_tbl := by decide +kernel
theorem glob_at {s : State} {b : Nat} (hts : ∀ w ∈ lw_tbl, w.before #[Value.ref b] s = true) (hn : nar.before #[Value.ref b] s = true) : ∃ ad : Nat → Nat, ad 1200 = b ∧ Glob ad (fun q => s.heap.size ≤ q) s s.heap := by
  have hf : ∀ {k : Nat} {w : Cond}, (flatC nar)[k]? = some w → w.before #[Value.ref b] s = true := fun h => flat_of_before nar hn _ (List.mem_of_getElem? h)
  have hA : ∀ a : Nat, a < s.heap.size → ¬ (fun q => s.heap.size ≤ q) a := fun a h z => absurd h (Nat.not_lt.mpr z)
  obtain ⟨adK, adV, hS, hE⟩ := vk_Sof (args := #[Value.ref b]) (s := s) (N := 13) (tm := tmS) (len := strLens) (byt := strBys) (A := fun q => s.heap.size ≤ q) g_lt (fun i hi => hf (g_ex i hi)) (fun i hi => hf (g_co i hi)) (fun i hi => hf (g_ar i hi)) (fun i hi => hf (g_le i hi)) (fun i hi j hj => hf (g_el i hi j hj)) (fun i j hi hj hij => by
    rcases Nat.lt_or_gt_of_ne hij with h | h
    · exact Or.inl (hf (g_ne j hj i h))
    · exact Or.inr (hf (g_ne i hi j h))) hA
  obtain ⟨t, ht, hT⟩ := va_Tof (args := #[Value.ref b]) (s := s) (tm := tmK) (ty := .int) (N := 6) (f := fun j => .int (kaF j)) (A := fun q => s.heap.size ≤ q) (by decide) (hf g_ka) (va_eqt (hf g_kl)) (fun j hj => va_eqt (hf (g_ke j hj))) hA
  refine ⟨fun k => if k = 1200 then b else if k = 1100 then t else adK (k - 1000), rfl, fun q hq => va_Nw.of rfl (hts _ (g_nq q hq)), ?_, ?_, fun i hi => ?_, ⟨adV, ?_⟩, ?_, ?_⟩
  · exact va_Zof (hts _ (by decide +kernel)) (hts _ (by decide +kernel)) ht hA
  · exact hT
  · have e : (if 1000 + i = 1200 then b else if 1000 + i = 1100 then t else adK (1000 + i - 1000)) = adK i := by
      rw [if_neg (by omega), if_neg (by omega), Nat.add_sub_cancel_left]
    show vk_R _ _ _ (if 1000 + i = 1200 then b else if 1000 + i = 1100 then t else adK (1000 + i - 1000)) s
    rw [e]
    exact vk_R.of (hts _ (g_w i hi)) (hE i hi)
  · have e : ∀ i, i < 13 → (if 1000 + i = 1200 then b else if 1000 + i = 1100 then t else adK (1000 + i - 1000)) = adK i := fun i hi => by
      rw [if_neg (by omega), if_neg (by omega), Nat.add_sub_cancel_left]
    refine ⟨fun i hi => ?_, fun i j hi hj h => ?_⟩
    · show va_O _ (if 1000 + i = 1200 then b else if 1000 + i = 1100 then t else adK (1000 + i - 1000)) _ _ _ ∧ va_OF _ _ _ _ (if 1000 + i = 1200 then b else if 1000 + i = 1100 then t else adK (1000 + i - 1000)) _ _ _ ∧ va_OF _ _ _ _ (if 1000 + i = 1200 then b else if 1000 + i = 1100 then t else adK (1000 + i - 1000)) _ _ _ ∧ _
      rw [e i hi]
      exact hS.1 i hi
    · refine hS.2 i j hi hj ?_
      rw [← e i hi, ← e j hj]
      exact h
  · exact va_Zof (hts _ (by decide +kernel)) (hts _ (by decide +kernel)) (va_eqi (hf g_cs)) hA
  · rcases va_Zqof (A := fun q => s.heap.size ≤ q) (hts (.laysStatic "jdk/internal/util/Preconditions" "SIOOBE_FORMATTER" "Ljava/util/function/BiFunction;") (by decide +kernel)) (hts (.initialized "jdk/internal/util/Preconditions") (by decide +kernel)) (hf g_si) hA with h | ⟨q, h⟩
    · exact ⟨.null, Or.inl rfl, h⟩
    · exact ⟨.ref q, Or.inr ⟨q, rfl⟩, h⟩
theorem whole_start {p : Program} {e : Env} {s : State} {m : MethodId} {below : List Frame} {meth : Method} {c : Code} (l : Launch) (hflags : l.flags = flags0) {b L : Nat} {xs : Nat → Int32} (hL : L ≤ 3072) (C0 : lw_At p s m meth c b L xs) : W p l e room_1 s m #[Value.ref b] below meth c s.heap [] 0 0 (lw_Z below #[Value.ref b] s) (entryFrame m ([Value.ref b] : List Value).toArray 4) := by
  have hts := C0.2.2.2.2.2.1
  have hn : nar.before #[Value.ref b] s = true := C0.2.2.2.2.2.2.2.2.2
  have hAO : va_AO "LeftTillCalled$Sheet" s := va_AO.of (hts (.arrayOver (.object "LeftTillCalled$Sheet")) (by decide +kernel))
  obtain ⟨D, tc, hK⟩ := known_K (args := #[Value.ref b]) (fun w hw => hts w (List.mem_filter.mp hw).1) (hts (.arrayClass .int) (by decide +kernel)) (hts (.arrayClass .long) (by decide +kernel)) (hts (.arrayClass .byte) (by decide +kernel)) hAO
  obtain ⟨ad, h12, hG⟩ := glob_at hts hn
  exact whole_entry hL C0 hK hG hAO h12
