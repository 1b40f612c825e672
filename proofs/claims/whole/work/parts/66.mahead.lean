-- LOOKING AHEAD: the reference lays its row aside and takes it back
theorem Rel.cong {u : St} {s s' : F32} (h : Rel u s) (e : ∀ q, q < 69 → s' q = s q) : Rel u s' := by
  obtain ⟨h0, h1, h2, h3, h4⟩ := h
  refine ⟨by rw [e 0 (by omega)]; exact h0, by rw [e 1 (by omega)]; exact h1, by rw [e 2 (by omega)]; exact h2, fun p hp => ⟨?_, ?_, ?_⟩, fun t ht => ⟨?_, ?_, ?_, ?_, ?_, ?_⟩⟩
  · rw [e _ (by omega)]; exact (h3 p hp).1
  · rw [e _ (by omega)]; exact (h3 p hp).2.1
  · rw [e _ (by omega)]; exact (h3 p hp).2.2
  · rw [e _ (by omega)]; exact (h4 t ht).1
  · rw [e _ (by omega)]; exact (h4 t ht).2.1
  · rw [e _ (by omega)]; exact (h4 t ht).2.2.1
  · rw [e _ (by omega)]; exact (h4 t ht).2.2.2.1
  · rw [e _ (by omega)]; exact (h4 t ht).2.2.2.2.1
  · rw [e _ (by omega)]; exact (h4 t ht).2.2.2.2.2
theorem M_asideL : ∀ (i j n : Nat) (m : MS), i + j = 69 → i < n → (∀ q, q < j → mAsd m q = mS m q) → ∃ a', lX5_laysAside_2 n (nI j) m = some (mAsd' m a') ∧ ∀ q, q < 69 → a' q = mS m q := by
  intro i
  induction i with
  | zero =>
    intro j n m hk hn hq
    obtain ⟨n, rfl⟩ : ∃ q, n = q + 1 := ⟨n - 1, by omega⟩
    obtain rfl : j = 69 := by omega
    exact ⟨mAsd m, by rw [lX5_laysAside_2_eq, if_pos (by decide)]; rfl, hq⟩
  | succ i ih =>
    intro j n m hk hn hq
    obtain ⟨n, rfl⟩ : ∃ q, n = q + 1 := ⟨n - 1, by omega⟩
    have hj : j < 69 := by omega
    rw [lX5_laysAside_2_eq, if_neg (by rw [show (69 : Int32) = nI 69 from rfl]; exact nI_ge hj (by decide))]
    simp only [if_neg (ix' hj), cl (show j < 2 ^ 31 by omega), nI_1]
    obtain ⟨a', e1, e2⟩ := ih (j + 1) n (mAsd' m (upd (mAsd m) j (mS m j))) (by omega) (by omega) (fun q hq2 => by
      show upd (mAsd m) j (mS m j) q = mS m q
      rw [upd_at]
      by_cases e : q = j
      · rw [if_pos e, e]
      · rw [if_neg e]; exact hq q (by omega))
    exact ⟨a', e1, e2⟩
theorem M_laysAside (m : MS) : ∃ a', fX5_laysAside m = some (mAsd' m a') ∧ ∀ q, q < 69 → a' q = mS m q := by
  rw [fX5_laysAside_eq]
  exact M_asideL 69 0 FU m (by omega) (by rw [FU_eq]; omega) (fun q hq => absurd hq (Nat.not_lt_zero q))
theorem M_backL (v : Int32) : ∀ (i j n : Nat) (m : MS), i + j = 69 → i < n → (∀ q, q < j → mS m q = mAsd m q) → ∃ s', lX5_takesBack_2 n v (nI j) m = some (v, mS' m s') ∧ ∀ q, q < 69 → s' q = mAsd m q := by
  intro i
  induction i with
  | zero =>
    intro j n m hk hn hq
    obtain ⟨n, rfl⟩ : ∃ q, n = q + 1 := ⟨n - 1, by omega⟩
    obtain rfl : j = 69 := by omega
    exact ⟨mS m, by rw [lX5_takesBack_2_eq, if_pos (by decide)]; rfl, hq⟩
  | succ i ih =>
    intro j n m hk hn hq
    obtain ⟨n, rfl⟩ : ∃ q, n = q + 1 := ⟨n - 1, by omega⟩
    have hj : j < 69 := by omega
    rw [lX5_takesBack_2_eq, if_neg (by rw [show (69 : Int32) = nI 69 from rfl]; exact nI_ge hj (by decide))]
    simp only [if_neg (ix' hj), cl (show j < 2 ^ 31 by omega), nI_1]
    obtain ⟨s', e1, e2⟩ := ih (j + 1) n (mS' m (upd (mS m) j (mAsd m j))) (by omega) (by omega) (fun q hq2 => by
      show upd (mS m) j (mAsd m j) q = mAsd m q
      rw [upd_at]
      by_cases e : q = j
      · rw [if_pos e, e]
      · rw [if_neg e]; exact hq q (by omega))
    exact ⟨s', e1, e2⟩
theorem M_takesBack (v : Int32) (m : MS) : ∃ s', fX5_takesBack v m = some (v, mS' m s') ∧ ∀ q, q < 69 → s' q = mAsd m q := by
  rw [fX5_takesBack_eq]
  exact M_backL v 69 0 FU m (by omega) (by rw [FU_eq]; omega) (fun q hq => absurd hq (Nat.not_lt_zero q))
theorem M_dayS {k d : Nat} {u : St} {m : MS} (h : WF k d u) (hd : d < 20000) (hR : Rel u (mS m)) : ∃ s', fX5_day m = some (mS' m s') ∧ Rel (dayS k u) s' := by
  obtain ⟨s', e1, e2⟩ := M_day h hd hR
  rw [day_same h] at e2
  exact ⟨s', e1, e2⟩
theorem M_daysL {k d N : Nat} {u : St} (h : WF k d u) (hN : d + N ≤ 20000) : ∀ (i j n : Nat) (m : MS), i + j = N → i < n → Rel (daysS k j u) (mS m) → ∃ s', lX5_daysGo_2 n (nI N) (nI j) m = some (mS' m s') ∧ Rel (daysS k N u) s' := by
  intro i
  induction i with
  | zero =>
    intro j n m hk hn hR
    obtain ⟨n, rfl⟩ : ∃ q, n = q + 1 := ⟨n - 1, by omega⟩
    obtain rfl : j = N := by omega
    exact ⟨mS m, by rw [lX5_daysGo_2_eq, if_pos (nI_le (Nat.le_refl j) (by omega))]; rfl, hR⟩
  | succ i ih =>
    intro j n m hk hn hR
    obtain ⟨n, rfl⟩ : ∃ q, n = q + 1 := ⟨n - 1, by omega⟩
    obtain ⟨s1, e1, e2⟩ := M_dayS (daysS_wf h j (by omega)) (by omega) hR
    rw [lX5_daysGo_2_eq, if_neg (nI_ge (by omega) (by omega)), e1, Option.bind_some, nI_1]
    obtain ⟨s', e3, e4⟩ := ih (j + 1) n (mS' m s1) (by omega) (by omega) e2
    exact ⟨s', e3, e4⟩
theorem M_daysGo {k d N : Nat} {u : St} {m : MS} (h : WF k d u) (hN : d + N ≤ 20000) (hN2 : N < 2000) (hR : Rel u (mS m)) : ∃ s', fX5_daysGo (nI N) m = some (mS' m s') ∧ Rel (daysS k N u) s' := by
  rw [fX5_daysGo_eq]
  exact M_daysL h hN N 0 FU m (by omega) (by rw [FU_eq]; omega) hR
/-- what stands somewhere on so many days; the row is as it was -/
theorem M_behind {k d N w : Nat} {u : St} {m : MS} (h : WF k d u) (hN : d + N ≤ 20000) (hN2 : N < 2000) (hw : w < 69) (hR : Rel u (mS m)) : ∃ a' s1 s', fX5_behind (nI w) (nI N) m = some (s1 w, mS' (mAsd' m a') s') ∧ Rel (daysS k N u) s1 ∧ Rel u s' := by
  obtain ⟨a', e1, e2⟩ := M_laysAside m
  obtain ⟨s1, e3, e4⟩ := M_daysGo (m := mAsd' m a') h hN hN2 hR
  obtain ⟨s', e5, e6⟩ := M_takesBack (s1 w) (mS' (mAsd' m a') s1)
  refine ⟨a', s1, s', ?_, e4, hR.cong (fun q hq => (e6 q hq).trans (e2 q hq))⟩
  rw [fX5_behind_eq, e1, Option.bind_some, e3, Option.bind_some, if_neg (ix hw), cl (by omega)]
  show (fX5_takesBack (s1 w) (mS' (mAsd' m a') s1)).bind _ = _
  rw [e5]
  rfl
-- once it is with somebody, it stays there
theorem hand_wit (v : St) (t p : Nat) (x : Int32) (q : Nat) : sWit (handS v t p x) q = if q = t then nI p else sWit v q := rfl
theorem mount_wit (v : St) (j q : Nat) : sWit (bodyMount v j) q = sWit v q := by
  rw [bodyMount_def]
  split <;> rfl
theorem foldMount_wit (u : St) (q : Nat) : ∀ j, sWit (foldS bodyMount j u) q = sWit u q
  | 0 => rfl
  | j + 1 => (mount_wit _ j q).trans (foldMount_wit u q j)
theorem foldEarn_wit (u : St) (q : Nat) : ∀ j, sWit (foldS bodyEarn j u) q = sWit u q
  | 0 => rfl
  | j + 1 => foldEarn_wit u q j
theorem can_there {v : St} {t : Nat} (h : canS v t = true) : sWit v t = -1 := by
  unfold canS thereS at h
  simp only [Bool.and_eq_true, decide_eq_true_eq] at h
  exact h.1
theorem callF_wit (u : St) (q : Nat) (hq : sWit u q ≠ -1) : ∀ j, sWit (callF j u).2 q = sWit u q
  | 0 => rfl
  | j + 1 => by
    have ih := callF_wit u q hq j
    unfold callF
    split
    · split
      · rename_i c
        have hc := can_there c
        rw [hand_wit]
        split
        · rename_i e
          subst e
          exact absurd (ih.symm.trans hc) hq
        · exact ih
      · exact ih
    · exact ih
theorem sale_wit (v : St) (j q : Nat) (hq : sWit v q ≠ -1) : sWit (bodySale v j) q = sWit v q := by
  rw [bodySale_def]
  split
  · rename_i c
    split
    · rfl
    · rw [hand_wit]
      split
      · rename_i e
        subst e
        simp only [Bool.and_eq_true, thereS, decide_eq_true_eq] at c
        exact absurd c.1 hq
      · rfl
  · rfl
theorem foldSale_wit (u : St) (q : Nat) (hq : sWit u q ≠ -1) : ∀ j, sWit (foldS bodySale j u) q = sWit u q
  | 0 => rfl
  | j + 1 => by
    have ih := foldSale_wit u q hq j
    show sWit (bodySale (foldS bodySale j u) j) q = _
    rw [sale_wit _ j q (by rw [ih]; exact hq), ih]
theorem day_wit {k : Nat} {u : St} {q : Nat} (hq : sWit u q ≠ -1) : sWit (dayS k u) q = sWit u q := by
  have h1 : sWit (earnAll (mountAll k u)) q = sWit u q := (foldEarn_wit _ q 6).trans (foldMount_wit u q k)
  have h2 : sWit (callAll k (earnAll (mountAll k u))) q = sWit u q := (callF_wit _ q (by rw [h1]; exact hq) k).trans h1
  unfold dayS
  split
  · unfold saleAll
    rw [foldSale_wit _ q (by show sWit (callAll k (earnAll (mountAll k u))) q ≠ -1; rw [h2]; exact hq)]
    exact h2
  · exact h2
theorem days_wit {k : Nat} {u : St} {q : Nat} (hq : sWit u q ≠ -1) : ∀ n, sWit (daysS k n u) q = sWit u q
  | 0 => rfl
  | n + 1 => by
    have ih := days_wit (k := k) hq n
    show sWit (dayS k (daysS k n u)) q = _
    rw [day_wit (by rw [ih]; exact hq), ih]
theorem days_later {k : Nat} {u : St} {q a : Nat} (hq : sWit (daysS k a u) q ≠ -1) : ∀ b, sWit (daysS k (a + b) u) q = sWit (daysS k a u) q
  | 0 => rfl
  | b + 1 => by
    have ih := days_later (k := k) hq b
    show sWit (dayS k (daysS k (a + b) u)) q = _
    rw [day_wit (by rw [ih]; exact hq), ih]
