-- THE WHOLE, from what the start gives
theorem whole_from {p : Program} {l : Launch} {e : Env} {s : State} {m : MethodId} {below : List Frame} {meth : Method} {c : Code} {b L : Nat} {xs : Nat → Int32} {D : va_G} {tc : Nat → ClassId} {ad : Nat → Nat} (hL : L ≤ 3072) (C0 : lw_At p s m meth c b L xs) (hK : va_K D vwCl (tyL tc) s) (hG : Glob ad (fun q => s.heap.size ≤ q) s s.heap) (hAO : va_AO "LeftTillCalled$Sheet" s) (h12 : ad 1200 = b) : Go p l e room_1 s m #[Value.ref b] below meth c 0 0 (lw_Z below #[Value.ref b] s) D tc ad (fun q => s.heap.size ≤ q) 4 0 [some (.ref 1200), none, none, none] [] [] := by
  obtain ⟨hx, hb, hr, hml, hown, hts, ⟨scr, x1, x2, x3, x4, x5⟩, hbs, hlk, hnar⟩ := C0
  have CX : ∀ (cells slots : Nat) (ad' : Nat → Nat), cells ≤ room_1.cells → slots ≤ room_1.slots → (∀ k, 1000 ≤ k → ad' k = ad k) → Cx p room_1 s m #[Value.ref b] c cells slots D tc ad' (fun q => s.heap.size ≤ q) 4 "LeftTillCalledLaw" cL_law (caL L xs) := by
    intro cells slots ad' h1 h2 h3
    have hG' : Glob ad' (fun q => s.heap.size ≤ q) s s.heap := Glob.go hG (State.WarmedH.refl s) (fun _ _ _ => rfl) (fun q h => h) h3
    refine ⟨⟨hx, hb, hml, hown, fun w hw => hts w (List.mem_filter.mp hw).1⟩, hK, hG', fun q h => h, ⟨h1, h2⟩, fun a n f h => ?_⟩
    unfold caL at h
    by_cases c1 : a = 1100
    · rw [if_pos c1] at h
      cases h
      rw [c1]
      exact hG'.2.2.1
    · rw [if_neg c1] at h
      by_cases c2 : a = 1200
      · rw [if_pos c2] at h
        cases h
        rw [c2, h3 1200 (by decide), h12]
        exact ⟨scr, x1, x2, x3, Nat.le_of_eq x4.symm, by rw [x4], x5, fun z => absurd hbs (Nat.not_lt.mpr z)⟩
      · rw [if_neg c2] at h
        cases h
  exact lawGo hAO CX hL (fun ad' h3 i x n _ => law_done hx hb hr hlk (CX 55 1179 ad' (Nat.le_of_ble_eq_true rfl) (Nat.le_of_ble_eq_true rfl) h3) i x n)
theorem whole_entry {p : Program} {l : Launch} {e : Env} {s : State} {m : MethodId} {below : List Frame} {meth : Method} {c : Code} {b L : Nat} {xs : Nat → Int32} {D : va_G} {tc : Nat → ClassId} {ad : Nat → Nat} (hL : L ≤ 3072) (C0 : lw_At p s m meth c b L xs) (hK : va_K D vwCl (tyL tc) s) (hG : Glob ad (fun q => s.heap.size ≤ q) s s.heap) (hAO : va_AO "LeftTillCalled$Sheet" s) (h12 : ad 1200 = b) : W p l e room_1 s m #[Value.ref b] below meth c s.heap [] 0 0 (lw_Z below #[Value.ref b] s) (entryFrame m ([Value.ref b] : List Value).toArray 4) := by
  subst h12
  rw [lg_entry_eq]
  exact whole_from hL C0 hK hG hAO rfl s.heap [] _ ⟨fun k u h => (by cases h), ⟨fun i j a b h => (by cases h), fun i a h => (by cases h)⟩, va_S.rf, rfl, loIn_has (ad := ad) (n := 4) (as := [.ref 1200]) (by decide)⟩
