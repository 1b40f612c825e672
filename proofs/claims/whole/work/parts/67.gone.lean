-- WHEN A THING IS GONE
/-- first on day n0 of at most N, or not at all -/
def GoneAt (k : Nat) (u : St) (t N : Nat) (r : Int32) (v : St) : Prop :=
  (∃ n0, n0 ≤ N ∧ r = nI n0 ∧ v = daysS k n0 u ∧ thereS v t = false ∧ ∀ i, i < n0 → thereS (daysS k i u) t = true) ∨ (r = -1 ∧ v = daysS k N u ∧ ∀ i, i ≤ N → thereS (daysS k i u) t = true)
theorem X_goneL {k d t N : Nat} {u : St} (h : WF k d u) (ht : t < k) (hN : d + N ≤ 20000) : ∀ (i j n : Nat), i + j = N → i < n → (∀ q, q < j → thereS (daysS k q u) t = true) → ∃ r v, lX1_daysTillGone_2 n (nI t) (nI N) (nI j) (daysS k j u) = some (r, v) ∧ GoneAt k u t N r v := by
  have ht8 : t < 8 := by have := h.k8; omega
  intro i
  induction i with
  | zero =>
    intro j n hk hn hq
    obtain ⟨n, rfl⟩ : ∃ q, n = q + 1 := ⟨n - 1, by omega⟩
    obtain rfl : j = N := by omega
    rw [lX1_daysTillGone_2_eq, if_pos (nI_le (Nat.le_refl j) (by omega)), if_neg (nI_nlt (Nat.le_refl j) (by omega)), X_isThere ht8]
    simp only [Option.bind_some, b2i_0]
    cases c : thereS (daysS k j u) t
    · exact ⟨_, _, if_pos rfl, Or.inl ⟨j, Nat.le_refl j, rfl, rfl, c, hq⟩⟩
    · refine ⟨_, _, if_neg (by decide), Or.inr ⟨rfl, rfl, fun q hq2 => ?_⟩⟩
      by_cases e : q = j
      · subst e; exact c
      · exact hq q (by omega)
  | succ i ih =>
    intro j n hk hn hq
    obtain ⟨n, rfl⟩ : ∃ q, n = q + 1 := ⟨n - 1, by omega⟩
    rw [lX1_daysTillGone_2_eq, if_neg (nI_ge (by omega) (by omega)), X_isThere ht8]
    simp only [Option.bind_some, b2i_0, X_isThere ht8, if_neg (nI_nlt (show j ≤ N by omega) (show N < 2 ^ 31 by omega))]
    cases c : thereS (daysS k j u) t
    · rw [if_pos rfl]
      exact ⟨_, _, if_pos rfl, Or.inl ⟨j, by omega, rfl, rfl, c, hq⟩⟩
    · rw [if_neg (by decide), (X_goDay (daysS_wf h j (by omega)) (by omega)).1, Option.bind_some, nI_1]
      exact ih (j + 1) n (by omega) (by omega) (fun q hq2 => by
        by_cases e : q = j
        · subst e; exact c
        · exact hq q (by omega))
theorem X_tillGone {k d t N : Nat} {u : St} (h : WF k d u) (ht : t < k) (hN : d + N ≤ 20000) (hN2 : N < 1900) : ∃ r v, fX1_daysTillGone (nI t) (nI N) u = some (r, v) ∧ GoneAt k u t N r v := by
  rw [fX1_daysTillGone_eq]
  exact X_goneL h ht hN N 0 FU (by omega) (by rw [FU_eq]; omega) (fun q hq => absurd hq (Nat.not_lt_zero q))
theorem X_tillGone_m1 {t : Nat} {u : St} : fX1_daysTillGone (nI t) (-1) u = some (-1, u) := by
  rw [fX1_daysTillGone_eq, show FU = 1999 + 1 by rw [FU_eq], lX1_daysTillGone_2_eq, if_pos (by decide), if_pos (by decide)]
-- the reference: gone (who -1), or with one, first
theorem M_goneL {k d t N : Nat} {u : St} (h : WF k d u) (ht : t < k) (hN : d + N + 1 ≤ 20000) : ∀ (i j n : Nat) (m : MS), i + j = N + 1 → i < n → Rel (daysS k j u) (mS m) → (∀ q, q < 69 → mAsd m q = mAsd m q) → (∀ q, q < j → thereS (daysS k q u) t = true) → ∃ j2 s1 s', lX5_goneIn_7 n (nI t) (-1) (nI N) (nI j) m = some (nI j2, mS' (mS' m s1) s') ∧ (∀ q, q < 69 → s' q = mAsd m q) ∧ ((j2 ≤ N ∧ thereS (daysS k j2 u) t = false ∧ ∀ q, q < j2 → thereS (daysS k q u) t = true) ∨ (j2 = N + 1 ∧ ∀ q, q ≤ N → thereS (daysS k q u) t = true)) := by
  have ht8 : t < 8 := by have := h.k8; omega
  intro i
  induction i with
  | zero =>
    intro j n m hk hn hR _ hq
    obtain ⟨n, rfl⟩ : ∃ q, n = q + 1 := ⟨n - 1, by omega⟩
    obtain rfl : j = N + 1 := by omega
    obtain ⟨s', e1, e2⟩ := M_takesBack (nI (N + 1)) m
    refine ⟨N + 1, mS m, s', ?_, e2, Or.inr ⟨rfl, fun q hq2 => hq q (by omega)⟩⟩
    rw [lX5_goneIn_7_eq, if_pos (nI_lt (by omega) (by omega)), e1]
    rfl
  | succ i ih =>
    intro j n m hk hn hR _ hq
    obtain ⟨n, rfl⟩ : ∃ q, n = q + 1 := ⟨n - 1, by omega⟩
    rw [lX5_goneIn_7_eq, if_neg (nI_nlt (by omega) (by omega)), if_neg (by decide), M_isThere hR ht8]
    simp only [Option.bind_some, b2i_0]
    cases c : thereS (daysS k j u) t
    · obtain ⟨s', e1, e2⟩ := M_takesBack (nI j) m
      refine ⟨j, mS m, s', ?_, e2, Or.inl ⟨by omega, c, hq⟩⟩
      rw [if_pos rfl, e1]
      rfl
    · obtain ⟨s1, e1, e2⟩ := M_dayS (daysS_wf h j (by omega)) (by omega) hR
      rw [if_neg (by decide), e1, Option.bind_some, nI_1]
      obtain ⟨j2, s2, s', e3, e4, e5⟩ := ih (j + 1) n (mS' m s1) (by omega) (by omega) e2 (fun _ _ => rfl) (fun q hq2 => by
        by_cases e : q = j
        · subst e; exact c
        · exact hq q (by omega))
      exact ⟨j2, s2, s', e3, e4, e5⟩
