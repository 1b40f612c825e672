-- THE START
def wX0 : AW := (.inr (4, [.ref 1, .ref 11, .ref 21, .int 0, .ref 32, .ref 31, .ref 34, .ref 43]) :: .inr (1, [.int 0, .int 0, .ref 2, .ref 3, .ref 4, .int 0, .ref 5, .ref 6, .ref 7, .ref 8, .ref 9, .ref 10]) :: .inl (0, 6, .inl (fill 100 6)) :: .inl (0, 6, .inl (fill 10 6)) :: .inl (0, 6, .inl (fill 5 6)) :: .inl (0, 8, .inl (fun _ => (0 : Int32))) :: .inl (0, 8, .inl (fun _ => (0 : Int32))) :: .inl (0, 8, .inl (fun _ => (0 : Int32))) :: .inl (0, 8, .inl (fun _ => (0 : Int32))) :: .inl (0, 8, .inl (fun _ => (0 : Int32))) :: .inl (0, 8, .inl (fun _ => (0 : Int32))) :: .inr (1, [.int 0, .int 0, .ref 12, .ref 13, .ref 14, .int 0, .ref 15, .ref 16, .ref 17, .ref 18, .ref 19, .ref 20]) :: .inl (0, 6, .inl (fill 100 6)) :: .inl (0, 6, .inl (fill 10 6)) :: .inl (0, 6, .inl (fill 5 6)) :: .inl (0, 8, .inl (fun _ => (0 : Int32))) :: .inl (0, 8, .inl (fun _ => (0 : Int32))) :: .inl (0, 8, .inl (fun _ => (0 : Int32))) :: .inl (0, 8, .inl (fun _ => (0 : Int32))) :: .inl (0, 8, .inl (fun _ => (0 : Int32))) :: .inl (0, 8, .inl (fun _ => (0 : Int32))) :: .inr (1, [.int 0, .int 0, .ref 22, .ref 23, .ref 24, .int 0, .ref 25, .ref 26, .ref 27, .ref 28, .ref 29, .ref 30]) :: .inl (0, 6, .inl (fill 100 6)) :: .inl (0, 6, .inl (fill 10 6)) :: .inl (0, 6, .inl (fill 5 6)) :: .inl (0, 8, .inl (fun _ => (0 : Int32))) :: .inl (0, 8, .inl (fun _ => (0 : Int32))) :: .inl (0, 8, .inl (fun _ => (0 : Int32))) :: .inl (0, 8, .inl (fun _ => (0 : Int32))) :: .inl (0, 8, .inl (fun _ => (0 : Int32))) :: .inl (0, 8, .inl (fun _ => (0 : Int32))) :: .inr (3, [.ref 32, .int 0, .int 0, .int 0, .int 0]) :: .inr (2, [.ref 33, .int 0]) :: .inl (2, 120, .inl (fun _ => (0 : Int32))) :: .inr (99, [.ref 35, .ref 37, .ref 39, .ref 41]) :: .inr (0, [.int 0, .int 0, .ref 36]) :: .inl (1, 40, .inr (.inl (fun _ => (0 : Int64)))) :: .inr (0, [.int 0, .int 0, .ref 38]) :: .inl (1, 40, .inr (.inl (fun _ => (0 : Int64)))) :: .inr (0, [.int 0, .int 0, .ref 40]) :: .inl (1, 40, .inr (.inl (fun _ => (0 : Int64)))) :: .inr (0, [.int 0, .int 0, .ref 42]) :: .inl (1, 40, .inr (.inl (fun _ => (0 : Int64)))) :: .inl (0, 7, .inl (fun _ => (0 : Int32))) :: [])
def wM0 : AW := [.inr (5, [.ref 1, .ref 2, .ref 3, .ref 4, .ref 5, .int 0, .ref 6, .int 0, .int 0, .int 0, .int 0, .int 0, .ref 7, .ref 8, .ref 9, .ref 10]), .inl (0, 69, .inl (fillM 6)), .inl (0, 69, .inl (fun _ => (0 : Int32))), .inl (0, 69, .inl (fun _ => (0 : Int32))), .inl (0, 69, .inl (fun _ => (0 : Int32))), .inl (0, 7, .inl (fun _ => (0 : Int32))), .inl (0, 120, .inl (fun _ => (0 : Int32))), .inl (0, 4, .inl (fun _ => (0 : Int32))), .inl (0, 4, .inl (fun _ => (0 : Int32))), .inl (1, 160, .inr (.inl (fun _ => (0 : Int64)))), .inl (1, 40, .inr (.inl (fun _ => (0 : Int64))))]
def x0 : XS := (unX wX0).get rfl
def m0 : MS := (unM wM0).get rfl
theorem x0_pic : picX x0 = wX0 := rfl
theorem m0_pic : picM m0 = wM0 := rfl
theorem fill_lt (v : Int32) : ∀ p, p < 6 → fill v 6 p = v := by
  intro p hp
  rcases (show p = 0 ∨ p = 1 ∨ p = 2 ∨ p = 3 ∨ p = 4 ∨ p = 5 by omega) with h | h | h | h | h | h <;> subst h <;> rfl
theorem fillM_ok : (∀ p, p < 6 → fillM 6 (3 + 3 * p) = 100 ∧ fillM 6 (4 + 3 * p) = 10 ∧ fillM 6 (5 + 3 * p) = 5) := by
  intro p hp
  rcases (show p = 0 ∨ p = 1 ∨ p = 2 ∨ p = 3 ∨ p = 4 ∨ p = 5 by omega) with h | h | h | h | h | h <;> subst h <;> exact ⟨rfl, rfl, rfl⟩
theorem fillM_hi : ∀ k, k < 69 → 21 ≤ k → fillM 6 k = 0 := by decide +kernel
theorem inv0 : Inv x0 m0 := by
  have r1 : sMns (xRoom x0) = fill 100 6 := rfl
  have r2 : sErn (xRoom x0) = fill 10 6 := rfl
  have r3 : sSpd (xRoom x0) = fill 5 6 := rfl
  have r4 : mS m0 = fillM 6 := rfl
  refine ⟨⟨0, 0, ⟨by decide, by decide, rfl, rfl, ⟨0, by decide, rfl⟩, fun p hp => ?_, fun t ht => absurd ht (Nat.not_lt_zero t)⟩, by decide⟩, ⟨by rw [r4]; rfl, by rw [r4]; rfl, by rw [r4]; rfl, fun p hp => ?_, fun t ht => ?_⟩, Or.inl ⟨rfl, rfl⟩, fun q _ => rfl, ⟨0, by decide, rfl, rfl, fun i h => absurd h (Nat.not_lt_zero i)⟩, fun s hs => ?_⟩
  · refine ⟨?_, ?_, ?_⟩
    · rw [r1, fill_lt _ p hp]; exact ⟨100, by decide, rfl⟩
    · rw [r2, fill_lt _ p hp]; exact ⟨10, by decide, rfl⟩
    · rw [r3, fill_lt _ p hp]; exact ⟨5, by decide, rfl⟩
  · rw [r1, r2, r3, r4, fill_lt _ p hp, fill_lt _ p hp, fill_lt _ p hp]
    exact fillM_ok p hp
  · rw [r4, fillM_hi _ (by omega) (by omega), fillM_hi _ (by omega) (by omega), fillM_hi _ (by omega) (by omega), fillM_hi _ (by omega) (by omega), fillM_hi _ (by omega) (by omega), fillM_hi _ (by omega) (by omega)]
    exact ⟨rfl, rfl, rfl, rfl, rfl, rfl⟩
  · rcases (show s = 0 ∨ s = 1 ∨ s = 2 ∨ s = 3 by omega) with h | h | h | h <;> subst h <;> exact ⟨rfl, rfl, ⟨0, by decide, rfl⟩, fun i _ => rfl⟩
