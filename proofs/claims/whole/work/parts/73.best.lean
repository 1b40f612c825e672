-- WHAT IS BEST
theorem mS_two (u : MS) (s r : F32) : mS' (mS' u s) r = mS' u r := rfl
theorem backRow {s s0 : F32} {w : Nat} (h : ∀ q, q < 69 → q ≠ w → s q = s0 q) : ∀ q, q < 69 → upd s w (s0 w) q = s0 q := fun q hq => by
  rw [upd_at]
  by_cases e : q = w
  · rw [if_pos e, e]
  · rw [if_neg e]; exact h q hq e
theorem midRow {s s0 : F32} {w : Nat} (h : ∀ q, q < 69 → q ≠ w → s q = s0 q) (x : Int32) : ∀ q, q < 69 → upd s w x q = upd s0 w x q := fun q hq => by
  rw [upd_at, upd_at]
  by_cases e : q = w
  · rw [if_pos e, if_pos e]
  · rw [if_neg e, if_neg e]; exact h q hq e
theorem offRow {s s' s0 : F32} {w : Nat} {x : Int32} (h : ∀ q, q < 69 → q ≠ w → s q = s0 q) (g : ∀ q, q < 69 → s' q = upd s w x q) : ∀ q, q < 69 → q ≠ w → s' q = s0 q := fun q hq e => by
  rw [g q hq, upd_at, if_neg e]; exact h q hq e
theorem firstW {k t p N j : Nat} {u : St} (hp : p < 6) (e : FirstD (fun i => sWit (daysS k i u) t = nI p) N j) : (sWit (daysS k N u) t = nI p ∧ j ≤ N) ∨ (sWit (daysS k N u) t ≠ nI p ∧ N < j) := by
  rcases e with ⟨h1, h2, h3⟩ | ⟨h1, h2⟩
  · left
    refine ⟨?_, h1⟩
    have h2 : sWit (daysS k j u) t = nI p := h2
    have := days_later (k := k) (u := u) (q := t) (a := j) (by rw [h2]; exact fun z => nI_m1 (by omega) z.symm) (N - j)
    rw [show j + (N - j) = N by omega, h2] at this
    exact this
  · exact Or.inr ⟨h2 N (Nat.le_refl N), by omega⟩
theorem firstG {k t N j : Nat} {u : St} (e : FirstD (fun i => thereS (daysS k i u) t = false) N j) : (sWit (daysS k N u) t ≠ -1 ∧ j ≤ N) ∨ (sWit (daysS k N u) t = -1 ∧ N < j) := by
  rcases e with ⟨h1, h2, h3⟩ | ⟨h1, h2⟩
  · left
    refine ⟨?_, h1⟩
    have h2 := wit_nthere (show thereS (daysS k j u) t = false from h2)
    have := days_later (k := k) (u := u) (q := t) (a := j) h2 (N - j)
    rw [show j + (N - j) = N by omega] at this
    rw [this]
    exact h2
  · refine Or.inr ⟨?_, by omega⟩
    rcases bool_cases (thereS (daysS k N u) t) with c | c
    · exact absurd c (h2 N (Nat.le_refl N))
    · exact wit_there c
def dI : Nat → Int32
  | 0 => -1
  | i + 1 => nI i
theorem dI_dec (i : Nat) : nI i + (-1) = dI i := by
  cases i with
  | zero => decide
  | succ i => exact pk_m1 i
theorem enoughL {x0 : XS} {m0 : MS} {k d t p N : Nat} (h : Inv x0 m0) (hw : WF k d (xRoom x0)) (hd : d ≤ 9999) (ht : t < k) (hp : p < 6) (hN : N ≤ 60) : ∀ (i v n n' : Nat) (a : St) (b s : F32), i + v = 1000 → i < n → i + 1 < n' → (∀ q, q < 69 → q ≠ 3 + 3 * p → s q = mS m0 q) → Same (lX4_enough_38 n (nI t) (nI p) (nI N) (nI v) (xAhd' x0 a)) (lX5_enough_51 n' (nI t) (nI p) (nI N) (nI (3 + 3 * p)) (mS m0 (3 + 3 * p)) (-1) (nI v) (mS' (mAsd' m0 b) s)) := by
  have hR := h.2.1
  have hk := hw.k8
  have ht8 : t < 8 := by omega
  have hn1 : ¬ (0 : Int32) ≤ -1 := by decide
  have hw69 : 3 + 3 * p < 69 := by omega
  intro i
  induction i with
  | zero =>
    intro v n n' a b s hi hn hn' hs
    obtain ⟨n, rfl⟩ : ∃ q, n = q + 1 := ⟨n - 1, by omega⟩
    obtain ⟨n', rfl⟩ : ∃ q, n' = q + 1 := ⟨n' - 1, by omega⟩
    obtain rfl : v = 1000 := by omega
    rw [lX4_enough_38_eq, lX5_enough_51_eq, if_pos (show (999 : Int32) < nI 1000 from nI_lt (by decide) (by decide)), if_pos (show (999 : Int32) < nI 1000 from nI_lt (by decide) (by decide)), if_neg (ix hw69), if_neg hn1, cl (by omega)]
    exact sf (h.look (hR.cong (backRow hs))) fcN
  | succ i ih =>
    intro v n n' a b s hi hn hn' hs
    obtain ⟨n, rfl⟩ : ∃ q, n = q + 1 := ⟨n - 1, by omega⟩
    obtain ⟨n', rfl⟩ : ∃ q, n' = q + 1 := ⟨n' - 1, by omega⟩
    obtain ⟨a2, ea, wa, ra⟩ := X_start (xAhd' x0 a)
    have hwa := wa k d hw
    have hra := ra _ hR
    have hwu := hwa.mns (p := p) (x := nI v) (in_nI (by omega))
    obtain ⟨j, v', e1, e2⟩ := X_tillWith2 (N := N) hwu ht hp (by omega) (by omega)
    have hru : Rel (sMns' a2 (upd (sMns a2) p (nI v))) (mS (mS' (mAsd' m0 b) (upd s (3 + 3 * p) (nI v)))) := (hra.mns hp (nI v)).cong (midRow hs _)
    obtain ⟨b', s1, s', e3, e4, e5⟩ := M_behind2 (N := N) (w := 26 + 6 * t) (m := mS' (mAsd' m0 b) (upd s (3 + 3 * p) (nI v))) hwu (by omega) (by omega) (by omega) hru
    have e6 := (e4.2.2.2.2 t ht8).2.2.2.2.2
    rw [lX4_enough_38_eq, lX5_enough_51_eq, if_neg (show ¬ (999 : Int32) < nI v from nI_nlt (show v ≤ 999 by omega) (by decide)), if_neg (show ¬ (999 : Int32) < nI v from nI_nlt (show v ≤ 999 by omega) (by decide)), if_neg hn1, ea, Option.bind_some, if_neg (ix hp), if_neg (ix hw69), cl (show p < 2 ^ 31 by omega), cl (show 3 + 3 * p < 2 ^ 31 by omega), M_spot5, Option.bind_some]
    simp only [xAhd_xAhd', mS_mS', mS_two, e1, e3, Option.bind_some]
    rcases firstW hp e2 with ⟨c, cj⟩ | ⟨c, cj⟩
    · rw [if_neg (ans_pos cj (by omega)).1, if_pos (e6.trans c)]
      obtain ⟨n', rfl⟩ : ∃ q, n' = q + 1 := ⟨n' - 1, by omega⟩
      have z : (0 : Int32) ≤ nI v := nI_pos' (by omega)
      rw [lX5_enough_51_eq]
      have fin : Same (some (nI v, xAhd' (xAhd' (xAhd' x0 a) a2) v')) (some (nI v, mS' (mAsd' m0 b') (upd s' (3 + 3 * p) (mS m0 (3 + 3 * p))))) := same_of (h.look (hR.cong (backRow (offRow hs e5))))
      simp only [if_pos z, cl (show 3 + 3 * p < 2 ^ 31 by omega), if_neg (ix' hw69), ite_self]
      exact fin
    · rw [ans_neg cj, if_pos (by decide), if_neg (fun z => c (e6.symm.trans z)), nI_1]
      exact ih (v + 1) n n' v' b' s' (by omega) (by omega) (by omega) (offRow hs e5)
theorem spendL {x0 : XS} {m0 : MS} {k d t p N : Nat} (h : Inv x0 m0) (hw : WF k d (xRoom x0)) (hd : d ≤ 9999) (ht : t < k) (hp : p < 6) (hN : N ≤ 60) : ∀ (i n n' : Nat) (a : St) (b s : F32), i ≤ 100 → i < n → i + 1 < n' → (∀ q, q < 69 → q ≠ 5 + 3 * p → s q = mS m0 q) → Same (lX4_spend_39 n (nI t) (nI p) (nI N) (dI i) (xAhd' x0 a)) (lX5_spend_52 n' (nI t) (nI p) (nI N) (nI (5 + 3 * p)) (mS m0 (5 + 3 * p)) (-1) (dI i) (mS' (mAsd' m0 b) s)) := by
  have hR := h.2.1
  have hk := hw.k8
  have ht8 : t < 8 := by omega
  have hn1 : ¬ (0 : Int32) ≤ -1 := by decide
  have hw69 : 5 + 3 * p < 69 := by omega
  intro i
  induction i with
  | zero =>
    intro n n' a b s hi hn hn' hs
    obtain ⟨n, rfl⟩ : ∃ q, n = q + 1 := ⟨n - 1, by omega⟩
    obtain ⟨n', rfl⟩ : ∃ q, n' = q + 1 := ⟨n' - 1, by omega⟩
    rw [lX4_spend_39_eq, lX5_spend_52_eq, if_pos (show dI 0 < 0 by decide), if_pos (show dI 0 < 0 by decide), if_neg (ix hw69), if_neg hn1, cl (by omega)]
    exact sf (h.look (hR.cong (backRow hs))) fcN
  | succ i ih =>
    intro n n' a b s hi hn hn' hs
    obtain ⟨n, rfl⟩ : ∃ q, n = q + 1 := ⟨n - 1, by omega⟩
    obtain ⟨n', rfl⟩ : ∃ q, n' = q + 1 := ⟨n' - 1, by omega⟩
    obtain ⟨a2, ea, wa, ra⟩ := X_start (xAhd' x0 a)
    have hwa := wa k d hw
    have hra := ra _ hR
    have hwu := hwa.spd (p := p) (x := nI i) (in_nI (by omega))
    obtain ⟨j, v', e1, e2⟩ := X_tillWith2 (N := N) hwu ht hp (by omega) (by omega)
    have hru : Rel (sSpd' a2 (upd (sSpd a2) p (nI i))) (mS (mS' (mAsd' m0 b) (upd s (5 + 3 * p) (nI i)))) := (hra.spd hp (nI i)).cong (midRow hs _)
    obtain ⟨b', s1, s', e3, e4, e5⟩ := M_behind2 (N := N) (w := 26 + 6 * t) (m := mS' (mAsd' m0 b) (upd s (5 + 3 * p) (nI i))) hwu (by omega) (by omega) (by omega) hru
    have e6 := (e4.2.2.2.2 t ht8).2.2.2.2.2
    rw [lX4_spend_39_eq, lX5_spend_52_eq, if_neg (show ¬ dI (i + 1) < 0 from nI_pos (show i < 2 ^ 31 by omega)), if_neg (show ¬ dI (i + 1) < 0 from nI_pos (show i < 2 ^ 31 by omega)), if_neg hn1, ea, Option.bind_some, if_neg (ix hp), if_neg (ix hw69), cl (show p < 2 ^ 31 by omega), cl (show 5 + 3 * p < 2 ^ 31 by omega), M_spot5, Option.bind_some]
    simp only [xAhd_xAhd', mS_mS', mS_two, show dI (i + 1) = nI i from rfl, e1, e3, Option.bind_some]
    rcases firstW hp e2 with ⟨c, cj⟩ | ⟨c, cj⟩
    · rw [if_neg (ans_pos cj (by omega)).1, if_pos (e6.trans c)]
      obtain ⟨n', rfl⟩ : ∃ q, n' = q + 1 := ⟨n' - 1, by omega⟩
      have z : (0 : Int32) ≤ nI i := nI_pos' (by omega)
      rw [lX5_spend_52_eq]
      have fin : Same (some (nI i, xAhd' (xAhd' (xAhd' x0 a) a2) v')) (some (nI i, mS' (mAsd' m0 b') (upd s' (5 + 3 * p) (mS m0 (5 + 3 * p))))) := same_of (h.look (hR.cong (backRow (offRow hs e5))))
      simp only [if_pos z, cl (show 5 + 3 * p < 2 ^ 31 by omega), if_neg (ix' hw69), ite_self]
      exact fin
    · rw [ans_neg cj, if_pos (by decide), if_neg (fun z => c (e6.symm.trans z)), dI_dec]
      exact ih n n' v' b' s' (by omega) (by omega) (by omega) (offRow hs e5)
theorem worthL {x0 : XS} {m0 : MS} {k d t N : Nat} (h : Inv x0 m0) (hw : WF k d (xRoom x0)) (hd : d ≤ 9999) (ht : t < k) (hN : N ≤ 60) : ∀ (i v n n' : Nat) (a : St) (b s : F32), i + v = 1000 → i < n → i + 1 < n' → (∀ q, q < 69 → q ≠ 25 + 6 * t → s q = mS m0 q) → Same (lX4_worth_30 n (nI t) (nI N) (nI v) (xAhd' x0 a)) (lX5_worth_42 n' (nI t) (nI N) (nI (25 + 6 * t)) (mS m0 (25 + 6 * t)) (-1) (nI v) (mS' (mAsd' m0 b) s)) := by
  have hR := h.2.1
  have hk := hw.k8
  have ht8 : t < 8 := by omega
  have hn1 : ¬ (0 : Int32) ≤ -1 := by decide
  have hw69 : 25 + 6 * t < 69 := by omega
  intro i
  induction i with
  | zero =>
    intro v n n' a b s hi hn hn' hs
    obtain ⟨n, rfl⟩ : ∃ q, n = q + 1 := ⟨n - 1, by omega⟩
    obtain ⟨n', rfl⟩ : ∃ q, n' = q + 1 := ⟨n' - 1, by omega⟩
    obtain rfl : v = 1000 := by omega
    rw [lX4_worth_30_eq, lX5_worth_42_eq, if_pos (show (999 : Int32) < nI 1000 from nI_lt (by decide) (by decide)), if_pos (show (999 : Int32) < nI 1000 from nI_lt (by decide) (by decide)), if_neg (ix hw69), if_neg hn1, cl (by omega)]
    exact sf (h.look (hR.cong (backRow hs))) fcN
  | succ i ih =>
    intro v n n' a b s hi hn hn' hs
    obtain ⟨n, rfl⟩ : ∃ q, n = q + 1 := ⟨n - 1, by omega⟩
    obtain ⟨n', rfl⟩ : ∃ q, n' = q + 1 := ⟨n' - 1, by omega⟩
    obtain ⟨a2, ea, wa, ra⟩ := X_start (xAhd' x0 a)
    have hwa := wa k d hw
    have hra := ra _ hR
    have hwu := hwa.wth (t := t) (x := nI v) (in_nI (by omega))
    obtain ⟨j, v', e1, e2⟩ := X_tillGone2 (N := N) hwu ht (by omega) (by omega)
    have hru : Rel (sWth' a2 (upd (sWth a2) t (nI v))) (mS (mS' (mAsd' m0 b) (upd s (25 + 6 * t) (nI v)))) := (hra.wth ht8 (nI v)).cong (midRow hs _)
    obtain ⟨b', s1, s', e3, e4, e5⟩ := M_behind2 (N := N) (w := 26 + 6 * t) (m := mS' (mAsd' m0 b) (upd s (25 + 6 * t) (nI v))) hwu (by omega) (by omega) (by omega) hru
    have e6 := (e4.2.2.2.2 t ht8).2.2.2.2.2
    rw [lX4_worth_30_eq, lX5_worth_42_eq, if_neg (show ¬ (999 : Int32) < nI v from nI_nlt (show v ≤ 999 by omega) (by decide)), if_neg (show ¬ (999 : Int32) < nI v from nI_nlt (show v ≤ 999 by omega) (by decide)), if_neg hn1, ea, Option.bind_some, if_neg (ix ht8), if_neg (ix hw69), cl (show t < 2 ^ 31 by omega), cl (show 25 + 6 * t < 2 ^ 31 by omega), M_spot5, Option.bind_some]
    simp only [xAhd_xAhd', mS_mS', mS_two, e1, e3, Option.bind_some]
    rcases firstG e2 with ⟨c, cj⟩ | ⟨c, cj⟩
    · have cp := (ans_pos cj (by omega)).2
      rw [cp, if_pos (nI_pos' (show j < 2 ^ 31 by omega)), if_neg (fun z => c (e6.symm.trans z)), nI_1]
      exact ih (v + 1) n n' v' b' s' (by omega) (by omega) (by omega) (offRow hs e5)
    · rw [ans_neg cj, if_neg hn1, if_pos (e6.trans c)]
      obtain ⟨n', rfl⟩ : ∃ q, n' = q + 1 := ⟨n' - 1, by omega⟩
      have z : (0 : Int32) ≤ nI v := nI_pos' (by omega)
      rw [lX5_worth_42_eq]
      have fin : Same (some (nI v, xAhd' (xAhd' (xAhd' x0 a) a2) v')) (some (nI v, mS' (mAsd' m0 b') (upd s' (25 + 6 * t) (mS m0 (25 + 6 * t))))) := same_of (h.look (hR.cong (backRow (offRow hs e5))))
      simp only [if_pos z, cl (show 25 + 6 * t < 2 ^ 31 by omega), if_neg (ix' hw69), ite_self]
      exact fin
theorem S_enough {x : XS} {m : MS} (h : Inv x m) (a0 a1 a2 : Int32) : Same (fX4_enough a0 a1 a2 x) (fX5_enough a0 a1 a2 m) := by
  obtain ⟨k, d, hw, hd⟩ := h.1
  have hR := h.2.1
  have hk := hw.k8
  have hB := sf h fcB
  rw [fX4_enough_eq, fX5_enough_eq]
  simp +decide only [X_has hw, M_isThing hw hR, X_isPerson, M_isPerson, X_within, M_isSoon, xRoom_eta, Option.bind_some, b2i_0, z32_0, z64_0, z32_1, z64_1, z32_2, z64_2, z32_3, z64_3, z32_4, z64_4, z32_5, z64_5, z32_6, z64_6, z32_7, z64_7, z32_60, z64_60, z32_100, z64_100, z32_999, z64_999, z32_9999, z64_9999, z32_999999, z64_999999, z32_m1, z64_m1, if_true, if_false, eq_self, Bool.true_eq_false, Bool.false_eq_true]
  rcases bool_cases (inB a0 0 ((k : Int) - 1)) with cp | cp
  · simp +decide only [cp, if_true, if_false, eq_self, Bool.true_eq_false, Bool.false_eq_true]; exact hB
  rcases bool_cases (inB a1 0 5) with cv | cv
  · simp +decide only [cp, cv, if_true, if_false, eq_self, Bool.true_eq_false, Bool.false_eq_true]; exact hB
  rcases bool_cases (inB a2 1 60) with cn | cn
  · simp +decide only [cp, cv, cn, if_true, if_false, eq_self, Bool.true_eq_false, Bool.false_eq_true]; exact hB
  obtain ⟨t, ht, rfl⟩ := inB_k cp
  obtain ⟨p, -, hp, rfl⟩ := inB_nat (L := 0) (N := 5) cv
  obtain ⟨n, hn1, hn, rfl⟩ := inB_nat (L := 1) (N := 60) cn
  simp +decide only [cp, cv, cn, M_place0, Option.bind_some, b2i_0, z32_0, z64_0, z32_1, z64_1, z32_2, z64_2, z32_3, z64_3, z32_4, z64_4, z32_5, z64_5, z32_6, z64_6, z32_7, z64_7, z32_60, z64_60, z32_100, z64_100, z32_999, z64_999, z32_9999, z64_9999, z32_999999, z64_999999, z32_m1, z64_m1, if_true, if_false, eq_self, Bool.true_eq_false, Bool.false_eq_true]
  rw [if_neg (ix (by omega)), cl (by omega)]
  exact enoughL h hw hd ht (show p < 6 by omega) hn 1000 0 FU FU (xAhd x) (mAsd m) (mS m) (by omega) (by rw [FU_eq]; omega) (by rw [FU_eq]; omega) (fun q _ _ => rfl)
theorem S_spend {x : XS} {m : MS} (h : Inv x m) (a0 a1 a2 : Int32) : Same (fX4_spend a0 a1 a2 x) (fX5_spend a0 a1 a2 m) := by
  obtain ⟨k, d, hw, hd⟩ := h.1
  have hR := h.2.1
  have hk := hw.k8
  have hB := sf h fcB
  rw [fX4_spend_eq, fX5_spend_eq]
  simp +decide only [X_has hw, M_isThing hw hR, X_isPerson, M_isPerson, X_within, M_isSoon, xRoom_eta, Option.bind_some, b2i_0, z32_0, z64_0, z32_1, z64_1, z32_2, z64_2, z32_3, z64_3, z32_4, z64_4, z32_5, z64_5, z32_6, z64_6, z32_7, z64_7, z32_60, z64_60, z32_100, z64_100, z32_999, z64_999, z32_9999, z64_9999, z32_999999, z64_999999, z32_m1, z64_m1, if_true, if_false, eq_self, Bool.true_eq_false, Bool.false_eq_true]
  rcases bool_cases (inB a0 0 ((k : Int) - 1)) with cp | cp
  · simp +decide only [cp, if_true, if_false, eq_self, Bool.true_eq_false, Bool.false_eq_true]; exact hB
  rcases bool_cases (inB a1 0 5) with cv | cv
  · simp +decide only [cp, cv, if_true, if_false, eq_self, Bool.true_eq_false, Bool.false_eq_true]; exact hB
  rcases bool_cases (inB a2 1 60) with cn | cn
  · simp +decide only [cp, cv, cn, if_true, if_false, eq_self, Bool.true_eq_false, Bool.false_eq_true]; exact hB
  obtain ⟨t, ht, rfl⟩ := inB_k cp
  obtain ⟨p, -, hp, rfl⟩ := inB_nat (L := 0) (N := 5) cv
  obtain ⟨n, hn1, hn, rfl⟩ := inB_nat (L := 1) (N := 60) cn
  simp +decide only [cp, cv, cn, M_place2, Option.bind_some, b2i_0, z32_0, z64_0, z32_1, z64_1, z32_2, z64_2, z32_3, z64_3, z32_4, z64_4, z32_5, z64_5, z32_6, z64_6, z32_7, z64_7, z32_60, z64_60, z32_100, z64_100, z32_999, z64_999, z32_9999, z64_9999, z32_999999, z64_999999, z32_m1, z64_m1, if_true, if_false, eq_self, Bool.true_eq_false, Bool.false_eq_true]
  rw [if_neg (ix (by omega)), cl (by omega)]
  exact spendL h hw hd ht (show p < 6 by omega) hn 100 FU FU (xAhd x) (mAsd m) (mS m) (by omega) (by rw [FU_eq]; omega) (by rw [FU_eq]; omega) (fun q _ _ => rfl)
theorem S_worth {x : XS} {m : MS} (h : Inv x m) (a0 a1 : Int32) : Same (fX4_worth a0 a1 x) (fX5_worth a0 a1 m) := by
  obtain ⟨k, d, hw, hd⟩ := h.1
  have hR := h.2.1
  have hk := hw.k8
  have hB := sf h fcB
  rw [fX4_worth_eq, fX5_worth_eq]
  simp +decide only [X_has hw, M_isThing hw hR, X_within, M_isSoon, xRoom_eta, Option.bind_some, b2i_0, z32_0, z64_0, z32_1, z64_1, z32_2, z64_2, z32_3, z64_3, z32_4, z64_4, z32_5, z64_5, z32_6, z64_6, z32_7, z64_7, z32_60, z64_60, z32_100, z64_100, z32_999, z64_999, z32_9999, z64_9999, z32_999999, z64_999999, z32_m1, z64_m1, if_true, if_false, eq_self, Bool.true_eq_false, Bool.false_eq_true]
  rcases bool_cases (inB a0 0 ((k : Int) - 1)) with cp | cp
  · simp +decide only [cp, if_true, if_false, eq_self, Bool.true_eq_false, Bool.false_eq_true]; exact hB
  rcases bool_cases (inB a1 1 60) with cn | cn
  · simp +decide only [cp, cn, if_true, if_false, eq_self, Bool.true_eq_false, Bool.false_eq_true]; exact hB
  obtain ⟨t, ht, rfl⟩ := inB_k cp
  obtain ⟨n, hn1, hn, rfl⟩ := inB_nat (L := 1) (N := 60) cn
  simp +decide only [cp, cn, M_spot4, Option.bind_some, b2i_0, z32_0, z64_0, z32_1, z64_1, z32_2, z64_2, z32_3, z64_3, z32_4, z64_4, z32_5, z64_5, z32_6, z64_6, z32_7, z64_7, z32_60, z64_60, z32_100, z64_100, z32_999, z64_999, z32_9999, z64_9999, z32_999999, z64_999999, z32_m1, z64_m1, if_true, if_false, eq_self, Bool.true_eq_false, Bool.false_eq_true]
  rw [if_neg (ix (by omega)), cl (by omega)]
  exact worthL h hw hd ht hn 1000 0 FU FU (xAhd x) (mAsd m) (mS m) (by omega) (by rw [FU_eq]; omega) (by rw [FU_eq]; omega) (fun q _ _ => rfl)
theorem X_withm1 {t p : Nat} {u : St} : fX1_daysTillWith (nI t) (nI p) (-1) u = some (-1, u) := by
  rw [fX1_daysTillWith_eq, X_tillGone_m1, Option.bind_some, if_pos (show ((-1 : Int32), u).1 < 0 by show (-1 : Int32) < 0; decide)]
theorem kindL {x0 : XS} {m0 : MS} {k d t p : Nat} (h : Inv x0 m0) (hw : WF k d (xRoom x0)) (hd : d ≤ 9999) (ht : t < k) (hp : p < 6) : ∀ (i v n n' L : Nat) (best : Int32) (a : St) (b s : F32), i + v = 6 → i < n → i < n' → L ≤ 101 → (∀ q, q < 69 → q ≠ 21 + 6 * t → s q = mS m0 q) → Same (lX4_kind_34 n (nI t) (nI p) best (nI L) (nI v) (xAhd' x0 a)) (lX5_soonestBy_18 n' (nI (21 + 6 * t)) 5 (nI t) (nI p) (mS m0 (21 + 6 * t)) best (nI L) (nI v) (mS' (mAsd' m0 b) s)) := by
  have hR := h.2.1
  have hk := hw.k8
  have ht8 : t < 8 := by omega
  have hw69 : 21 + 6 * t < 69 := by omega
  intro i
  induction i with
  | zero =>
    intro v n n' L best a b s hi hn hn' hL hs
    obtain ⟨n, rfl⟩ : ∃ q, n = q + 1 := ⟨n - 1, by omega⟩
    obtain ⟨n', rfl⟩ : ∃ q, n' = q + 1 := ⟨n' - 1, by omega⟩
    obtain rfl : v = 6 := by omega
    rw [lX4_kind_34_eq, lX5_soonestBy_18_eq, if_pos (by decide), if_pos (by decide), if_neg (ix hw69), cl (by omega), fX4_orNone_eq]
    have hI := h.look (a := a) (b := b) (hR.cong (backRow hs))
    by_cases c : (0 : Int32) ≤ best
    · rw [if_pos c, if_pos c]; exact same_of hI
    · rw [if_neg c, if_neg c]
      obtain ⟨x', m', e1, e2, e3⟩ := same_found hI fcN
      rw [e1]
      show Same _ ((fX5_finds (-1000000004) (mS' (mAsd' m0 b) (upd s (21 + 6 * t) (mS m0 (21 + 6 * t))))).bind _)
      rw [e2]
      exact same_of e3
  | succ i ih =>
    intro v n n' L best a b s hi hn hn' hL hs
    obtain ⟨n, rfl⟩ : ∃ q, n = q + 1 := ⟨n - 1, by omega⟩
    obtain ⟨n', rfl⟩ : ∃ q, n' = q + 1 := ⟨n' - 1, by omega⟩
    obtain ⟨a2, ea, wa, ra⟩ := X_start (xAhd' x0 a)
    have hwa := wa k d hw
    have hra := ra _ hR
    have hwu := hwa.knd (t := t) (x := nI v) (in_nI (by omega))
    have hru : Rel (sKnd' a2 (upd (sKnd a2) t (nI v))) (mS (mS' (mAsd' m0 b) (upd s (21 + 6 * t) (nI v)))) := (hra.knd ht8 (nI v)).cong (midRow hs _)
    obtain ⟨j', b', s', e3, e4, e5⟩ := M_withIn (N := 100) (p := p) (m := mS' (mAsd' m0 b) (upd s (21 + 6 * t) (nI v))) hwu ht hp (by omega) (by omega) hru
    replace e3 : fX5_goneIn (nI t) (nI p) 100 (mS' (mAsd' m0 b) (upd s (21 + 6 * t) (nI v))) = some (nI j', mS' (mAsd' (mS' (mAsd' m0 b) (upd s (21 + 6 * t) (nI v))) b') s') := e3
    have hj' := firstD_le e5
    rw [lX4_kind_34_eq, lX5_soonestBy_18_eq, if_neg (show ¬ (6 : Int32) ≤ nI v from nI_ge (show v < 6 by omega) (by decide)), if_neg (show ¬ (5 : Int32) < nI v from nI_nlt (show v ≤ 5 by omega) (by decide)), ea, Option.bind_some, if_neg (ix ht8), if_neg (ix hw69), cl (show t < 2 ^ 31 by omega), cl (show 21 + 6 * t < 2 ^ 31 by omega)]
    simp only [xAhd_xAhd', mS_mS', mS_two, e3, Option.bind_some]
    cases L with
    | zero =>
      rw [show nI 0 - 1 = (-1 : Int32) by decide, X_withm1, Option.bind_some, if_pos (show ((-1 : Int32), _).1 < 0 by show (-1 : Int32) < 0; decide), if_pos (nI_le (Nat.zero_le j') (by omega)), if_pos (nI_le (Nat.zero_le j') (by omega)), nI_1]
      exact ih (v + 1) n n' 0 best _ b' s' (by omega) (by omega) (by omega) (by omega) (offRow hs e4)
    | succ L =>
      obtain ⟨j, v', e1, e2⟩ := X_tillWith2 (N := L) hwu ht hp (by omega) (by omega)
      rw [nI_pred, e1, Option.bind_some, nI_1]
      rcases firstD_cut (show L ≤ 100 by omega) e5 e2 with ⟨c1, rfl⟩ | ⟨c1, c2⟩
      · obtain ⟨q1, q2⟩ := ans_pos c1 (show L < 2 ^ 31 by omega)
        rw [if_neg q1, q2, if_neg (nI_ge (show j < L + 1 by omega) (by omega)), if_neg (nI_ge (show j < L + 1 by omega) (by omega))]
        exact ih (v + 1) n n' j (nI v) v' b' s' (by omega) (by omega) (by omega) (by omega) (offRow hs e4)
      · rw [ans_neg (show L < j by omega), if_pos (show ((-1 : Int32), v').1 < 0 by show (-1 : Int32) < 0; decide), if_pos (nI_le (show L + 1 ≤ j' by omega) (by omega)), if_pos (nI_le (show L + 1 ≤ j' by omega) (by omega))]
        exact ih (v + 1) n n' (L + 1) best v' b' s' (by omega) (by omega) (by omega) (by omega) (offRow hs e4)
theorem labelL {x0 : XS} {m0 : MS} {k d t : Nat} (h : Inv x0 m0) (hw : WF k d (xRoom x0)) (hd : d ≤ 9999) (ht : t < k) : ∀ (i v n n' L : Nat) (best : Int32) (a : St) (b s : F32), i + v = 6 → i < n → i < n' → L ≤ 101 → (∀ q, q < 69 → q ≠ 22 + 6 * t → s q = mS m0 q) → Same (lX4_label_44 n (nI t) best (nI L) (nI v) (xAhd' x0 a)) (lX5_soonestBy_18 n' (nI (22 + 6 * t)) 5 (nI t) (-1) (mS m0 (22 + 6 * t)) best (nI L) (nI v) (mS' (mAsd' m0 b) s)) := by
  have hR := h.2.1
  have hk := hw.k8
  have ht8 : t < 8 := by omega
  have hw69 : 22 + 6 * t < 69 := by omega
  intro i
  induction i with
  | zero =>
    intro v n n' L best a b s hi hn hn' hL hs
    obtain ⟨n, rfl⟩ : ∃ q, n = q + 1 := ⟨n - 1, by omega⟩
    obtain ⟨n', rfl⟩ : ∃ q, n' = q + 1 := ⟨n' - 1, by omega⟩
    obtain rfl : v = 6 := by omega
    rw [lX4_label_44_eq, lX5_soonestBy_18_eq, if_pos (by decide), if_pos (by decide), if_neg (ix hw69), cl (by omega), fX4_orNone_eq]
    have hI := h.look (a := a) (b := b) (hR.cong (backRow hs))
    by_cases c : (0 : Int32) ≤ best
    · rw [if_pos c, if_pos c]; exact same_of hI
    · rw [if_neg c, if_neg c]
      obtain ⟨x', m', e1, e2, e3⟩ := same_found hI fcN
      rw [e1]
      show Same _ ((fX5_finds (-1000000004) (mS' (mAsd' m0 b) (upd s (22 + 6 * t) (mS m0 (22 + 6 * t))))).bind _)
      rw [e2]
      exact same_of e3
  | succ i ih =>
    intro v n n' L best a b s hi hn hn' hL hs
    obtain ⟨n, rfl⟩ : ∃ q, n = q + 1 := ⟨n - 1, by omega⟩
    obtain ⟨n', rfl⟩ : ∃ q, n' = q + 1 := ⟨n' - 1, by omega⟩
    obtain ⟨a2, ea, wa, ra⟩ := X_start (xAhd' x0 a)
    have hwa := wa k d hw
    have hra := ra _ hR
    have hwu := hwa.lbl (t := t) (x := nI v) (in_nI (by omega))
    have hru : Rel (sLbl' a2 (upd (sLbl a2) t (nI v))) (mS (mS' (mAsd' m0 b) (upd s (22 + 6 * t) (nI v)))) := (hra.lbl ht8 (nI v)).cong (midRow hs _)
    obtain ⟨j', b', s', e3, e4, e5⟩ := M_goneIn (N := 100) (m := mS' (mAsd' m0 b) (upd s (22 + 6 * t) (nI v))) hwu ht (by omega) (by omega) hru
    replace e3 : fX5_goneIn (nI t) (-1) 100 (mS' (mAsd' m0 b) (upd s (22 + 6 * t) (nI v))) = some (nI j', mS' (mAsd' (mS' (mAsd' m0 b) (upd s (22 + 6 * t) (nI v))) b') s') := e3
    have hj' := firstD_le e5
    rw [lX4_label_44_eq, lX5_soonestBy_18_eq, if_neg (show ¬ (6 : Int32) ≤ nI v from nI_ge (show v < 6 by omega) (by decide)), if_neg (show ¬ (5 : Int32) < nI v from nI_nlt (show v ≤ 5 by omega) (by decide)), ea, Option.bind_some, if_neg (ix ht8), if_neg (ix hw69), cl (show t < 2 ^ 31 by omega), cl (show 22 + 6 * t < 2 ^ 31 by omega)]
    simp only [xAhd_xAhd', mS_mS', mS_two, e3, Option.bind_some]
    cases L with
    | zero =>
      rw [show nI 0 - 1 = (-1 : Int32) by decide, X_tillGone_m1, Option.bind_some, if_pos (show ((-1 : Int32), _).1 < 0 by show (-1 : Int32) < 0; decide), if_pos (nI_le (Nat.zero_le j') (by omega)), if_pos (nI_le (Nat.zero_le j') (by omega)), nI_1]
      exact ih (v + 1) n n' 0 best _ b' s' (by omega) (by omega) (by omega) (by omega) (offRow hs e4)
    | succ L =>
      obtain ⟨j, v', e1, e2⟩ := X_tillGone2 (N := L) hwu ht (by omega) (by omega)
      rw [nI_pred, e1, Option.bind_some, nI_1]
      rcases firstD_cut (show L ≤ 100 by omega) e5 e2 with ⟨c1, rfl⟩ | ⟨c1, c2⟩
      · obtain ⟨q1, q2⟩ := ans_pos c1 (show L < 2 ^ 31 by omega)
        rw [if_neg q1, q2, if_neg (nI_ge (show j < L + 1 by omega) (by omega)), if_neg (nI_ge (show j < L + 1 by omega) (by omega))]
        exact ih (v + 1) n n' j (nI v) v' b' s' (by omega) (by omega) (by omega) (by omega) (offRow hs e4)
      · rw [ans_neg (show L < j by omega), if_pos (show ((-1 : Int32), v').1 < 0 by show (-1 : Int32) < 0; decide), if_pos (nI_le (show L + 1 ≤ j' by omega) (by omega)), if_pos (nI_le (show L + 1 ≤ j' by omega) (by omega))]
        exact ih (v + 1) n n' (L + 1) best v' b' s' (by omega) (by omega) (by omega) (by omega) (offRow hs e4)
theorem S_kind {x : XS} {m : MS} (h : Inv x m) (a0 a1 : Int32) : Same (fX4_kind a0 a1 x) (fX5_kind a0 a1 m) := by
  obtain ⟨k, d, hw, hd⟩ := h.1
  have hR := h.2.1
  have hk := hw.k8
  have hB := sf h fcB
  rw [fX4_kind_eq, fX5_kind_eq]
  simp +decide only [X_has hw, M_isThing hw hR, X_isPerson, M_isPerson, xRoom_eta, Option.bind_some, b2i_0, z32_0, z64_0, z32_1, z64_1, z32_2, z64_2, z32_3, z64_3, z32_4, z64_4, z32_5, z64_5, z32_6, z64_6, z32_7, z64_7, z32_60, z64_60, z32_100, z64_100, z32_999, z64_999, z32_9999, z64_9999, z32_999999, z64_999999, z32_m1, z64_m1, if_true, if_false, eq_self, Bool.true_eq_false, Bool.false_eq_true]
  rcases bool_cases (inB a0 0 ((k : Int) - 1)) with cp | cp
  · simp +decide only [cp, if_true, if_false, eq_self, Bool.true_eq_false, Bool.false_eq_true]; exact hB
  rcases bool_cases (inB a1 0 5) with cv | cv
  · simp +decide only [cp, cv, if_true, if_false, eq_self, Bool.true_eq_false, Bool.false_eq_true]; exact hB
  obtain ⟨t, ht, rfl⟩ := inB_k cp
  obtain ⟨p, -, hp, rfl⟩ := inB_nat (L := 0) (N := 5) cv
  simp +decide only [cp, cv, M_spot0, fX5_soonestBy_eq, Option.bind_some, b2i_0, z32_0, z64_0, z32_1, z64_1, z32_2, z64_2, z32_3, z64_3, z32_4, z64_4, z32_5, z64_5, z32_6, z64_6, z32_7, z64_7, z32_60, z64_60, z32_100, z64_100, z32_999, z64_999, z32_9999, z64_9999, z32_999999, z64_999999, z32_m1, z64_m1, if_true, if_false, eq_self, Bool.true_eq_false, Bool.false_eq_true]
  rw [if_neg (ix (by omega)), cl (by omega)]
  obtain ⟨r, x', m', e1, e2, e3⟩ := kindL h hw hd ht (show p < 6 by omega) 6 0 FU FU 101 (-1) (xAhd x) (mAsd m) (mS m) (by omega) (by rw [FU_eq]; omega) (by rw [FU_eq]; omega) (by omega) (fun q _ _ => rfl)
  exact ⟨r, x', m', e1, by rw [show lX5_soonestBy_18 FU (nI (21 + 6 * t)) 5 (nI t) (nI p) (mS m (21 + 6 * t)) (-1) 101 0 m = some (r, m') from e2]; rfl, e3⟩
theorem S_label {x : XS} {m : MS} (h : Inv x m) (a0 : Int32) : Same (fX4_label a0 x) (fX5_label a0 m) := by
  obtain ⟨k, d, hw, hd⟩ := h.1
  have hR := h.2.1
  have hk := hw.k8
  have hB := sf h fcB
  have hS := sf h fcS
  rw [fX4_label_eq, fX5_label_eq]
  simp +decide only [X_has hw, M_isThing hw hR, xRoom_eta, Option.bind_some, b2i_0, z32_0, z64_0, z32_1, z64_1, z32_2, z64_2, z32_3, z64_3, z32_4, z64_4, z32_5, z64_5, z32_6, z64_6, z32_7, z64_7, z32_60, z64_60, z32_100, z64_100, z32_999, z64_999, z32_9999, z64_9999, z32_999999, z64_999999, z32_m1, z64_m1, if_true, if_false, eq_self, Bool.true_eq_false, Bool.false_eq_true]
  rcases bool_cases (inB a0 0 ((k : Int) - 1)) with cp | cp
  · simp +decide only [cp, if_true, if_false, eq_self, Bool.true_eq_false, Bool.false_eq_true]; exact hB
  obtain ⟨t, ht, rfl⟩ := inB_k cp
  have ht8 : t < 8 := by omega
  simp +decide only [cp, X_isThere ht8, M_isThere hR ht8, xRoom_eta, Option.bind_some, b2i_0, z32_0, z64_0, z32_1, z64_1, z32_2, z64_2, z32_3, z64_3, z32_4, z64_4, z32_5, z64_5, z32_6, z64_6, z32_7, z64_7, z32_60, z64_60, z32_100, z64_100, z32_999, z64_999, z32_9999, z64_9999, z32_999999, z64_999999, z32_m1, z64_m1, if_true, if_false, eq_self, Bool.true_eq_false, Bool.false_eq_true]
  rcases bool_cases (thereS (xRoom x) t) with cv | cv
  · simp +decide only [cv, if_true, if_false, eq_self, Bool.true_eq_false, Bool.false_eq_true]; exact hS
  simp +decide only [cv, M_spot1, fX5_soonestBy_eq, Option.bind_some, b2i_0, z32_0, z64_0, z32_1, z64_1, z32_2, z64_2, z32_3, z64_3, z32_4, z64_4, z32_5, z64_5, z32_6, z64_6, z32_7, z64_7, z32_60, z64_60, z32_100, z64_100, z32_999, z64_999, z32_9999, z64_9999, z32_999999, z64_999999, z32_m1, z64_m1, if_true, if_false, eq_self, Bool.true_eq_false, Bool.false_eq_true]
  rw [if_neg (ix (by omega)), cl (by omega)]
  obtain ⟨r, x', m', e1, e2, e3⟩ := labelL h hw hd ht 6 0 FU FU 101 (-1) (xAhd x) (mAsd m) (mS m) (by omega) (by rw [FU_eq]; omega) (by rw [FU_eq]; omega) (by omega) (fun q _ _ => rfl)
  exact ⟨r, x', m', e1, by rw [show lX5_soonestBy_18 FU (nI (22 + 6 * t)) 5 (nI t) (-1) (mS m (22 + 6 * t)) (-1) 101 0 m = some (r, m') from e2]; rfl, e3⟩
theorem can_same {k d j : Nat} {u v : St} {s : F32} (hu : WF k d u) (hv : WF k d v) (hj : j < k) (ru : Rel u s) (rv : Rel v s) : canS v j = canS u j := by
  have hj8 : j < 8 := by have := hu.k8; omega
  obtain ⟨a1, a2, a3, a4, a5, a6⟩ := ru.2.2.2.2 j hj8
  obtain ⟨b1, b2, b3, b4, b5, b6⟩ := rv.2.2.2.2 j hj8
  have e1 : sWit v j = sWit u j := b6.symm.trans a6
  have e2 : sDue v j = sDue u j := b4.symm.trans a4
  have e3 : lbN v j = lbN u j := by unfold lbN; rw [b2.symm.trans a2]
  have hl := (hu.lb hj).1
  have e4 : sMns v (lbN u j) = sMns u (lbN u j) := (rv.2.2.2.1 _ hl).1.symm.trans (ru.2.2.2.1 _ hl).1
  unfold canS thereS
  rw [e1, e2, e3, e4]
theorem firstL {x0 : XS} {m0 : MS} {k d p N : Nat} (h : Inv x0 m0) (hw : WF k d (xRoom x0)) (hd : d ≤ 9999) (hp : p < 6) (hN : N ≤ 60) : ∀ (i j n n' : Nat) (most best : Int32) (a : St) (b s : F32), i + j = k → i < n → i < n' → (∀ q, q < 69 → b q = mS m0 q) → (∀ q, q < 69 → s q = mS m0 q) → Same (lX4_first_51 n (nI p) (nI N) most best (nI j) (xAhd' x0 a)) (lX5_first_50 n' (nI p) (nI N) most best (nI j) (mS' (mAsd' m0 b) s)) := by
  have hR := h.2.1
  have hk := hw.k8
  intro i
  induction i with
  | zero =>
    intro j n n' most best a b s hi hn hn' hb hs
    obtain ⟨n, rfl⟩ : ∃ q, n = q + 1 := ⟨n - 1, by omega⟩
    obtain ⟨n', rfl⟩ : ∃ q, n' = q + 1 := ⟨n' - 1, by omega⟩
    obtain rfl : j = k := by omega
    have hRs : Rel (xRoom x0) s := hR.cong hs
    rw [lX4_first_51_eq, lX5_first_50_eq, xRoom_xAhd', mS_mS', hRs.1, hw.2.2.1, if_pos (nI_le (Nat.le_refl j) (by omega)), if_pos (nI_le (Nat.le_refl j) (by omega))]
    exact same_of (h.look hRs)
  | succ i ih =>
    intro j n n' most best a b s hi hn hn' hb hs
    obtain ⟨n, rfl⟩ : ∃ q, n = q + 1 := ⟨n - 1, by omega⟩
    obtain ⟨n', rfl⟩ : ∃ q, n' = q + 1 := ⟨n' - 1, by omega⟩
    have hj : j < k := by omega
    have hj8 : j < 8 := by omega
    have hRs : Rel (xRoom x0) (mS (mS' (mAsd' m0 b) s)) := hR.cong hs
    have hl := hw.lb hj
    rw [lX4_first_51_eq, lX5_first_50_eq, M_lbl hRs hj8, xRoom_xAhd', hRs.1, hw.2.2.1, if_neg (nI_ge hj (by omega)), if_neg (nI_ge hj (by omega)), if_neg (ix hj8), cl (show j < 2 ^ 31 by omega), Option.bind_some]
    by_cases c1 : sLbl (xRoom x0) j = nI p
    · rw [if_pos c1, if_pos c1, X_canBeCalled hj8 hl, M_mayCall hRs hj8 hl, Option.bind_some, Option.bind_some]
      rcases bool_cases (canS (xRoom x0) j) with c2 | c2
      · rw [c2, nI_1]
        exact ih (j + 1) n n' most best a b s (by omega) (by omega) (by omega) hb hs
      · obtain ⟨a2, ea, wa, ra⟩ := X_start (xAhd' x0 a)
        have hwa := wa k d hw
        have hra : Rel a2 (mS (mS' (mAsd' m0 b) s)) := ra _ hRs
        have hla := hwa.lb hj
        have el : sLbl a2 j = nI p := (hra.2.2.2.2 j hj8).2.1.symm.trans ((hRs.2.2.2.2 j hj8).2.1.trans c1)
        have elb : lbN a2 j = p := by unfold lbN; rw [el]; exact cl (by omega)
        have ca : canS a2 j = true := (can_same hw hwa hj hRs hra).trans c2
        obtain ⟨s1, e1, e2⟩ := M_calls hra hj8 hla
        rw [elb] at e2
        have hwh := call_wf hwa hj ca
        rw [elb] at hwh
        obtain ⟨s2, e3, e4⟩ := M_daysGo (N := N) (m := mS' (mS' (mAsd' m0 b) s) s1) hwh (by omega) (by omega) e2
        have hwn := daysS_wf hwh N (by omega)
        have hsn := setF_in (sWit (daysS k N (handS a2 j p (sDue a2 j)))) (nI p) k hk
        obtain ⟨s3, e5, e6⟩ := M_takesBack (bcE (setF (sWit (daysS k N (handS a2 j p (sDue a2 j)))) (nI p) k)) (mS' (mS' (mS' (mAsd' m0 b) s) s1) s2)
        have ihh := fun most best => ih (j + 1) n n' most best (daysS k N (handS a2 j p (sDue a2 j))) b s3 (by omega) (by omega) (by omega) hb (fun q hq => (e6 q hq).trans (hb q hq))
        rw [c2]
        show Same ((fX4_startAhead (xAhd' x0 a)).bind _) _
        rw [if_neg (show ¬ b2i true = 0 by decide), ea, Option.bind_some, if_neg (ix' hj8), xAhd_xAhd', X_handOver hj8 hp, Option.bind_some, X_goDays hwh (by omega) (by omega), Option.bind_some, X_count hwn, Option.bind_some, e1, Option.bind_some]
        show Same _ ((fX5_daysGo (nI N) (mS' (mS' (mAsd' m0 b) s) s1)).bind _)
        rw [e3, Option.bind_some, M_those5 (m := mS' (mS' (mS' (mAsd' m0 b) s) s1) s2) hwn e4, Option.bind_some, M_ones hsn, Option.bind_some, e5, Option.bind_some, nI_1]
        by_cases c3 : bcE (setF (sWit (daysS k N (handS a2 j p (sDue a2 j)))) (nI p) k) ≤ most
        · rw [if_pos c3, if_pos c3, if_pos c3]
          exact ihh most best
        · rw [if_neg c3, if_neg c3, if_neg c3]
          exact ihh _ _
    · rw [if_neg c1, if_neg c1, nI_1]
      exact ih (j + 1) n n' most best a b s (by omega) (by omega) (by omega) hb hs
theorem S_first {x : XS} {m : MS} (h : Inv x m) (a0 a1 : Int32) : Same (fX4_first a0 a1 x) (fX5_first a0 a1 m) := by
  obtain ⟨k, d, hw, hd⟩ := h.1
  have hR := h.2.1
  have hk := hw.k8
  have hB := sf h fcB
  rw [fX4_first_eq, fX5_first_eq]
  simp +decide only [X_isPerson, M_isPerson, X_within, M_isSoon, Option.bind_some, b2i_0, z32_0, z64_0, z32_1, z64_1, z32_2, z64_2, z32_3, z64_3, z32_4, z64_4, z32_5, z64_5, z32_6, z64_6, z32_7, z64_7, z32_60, z64_60, z32_100, z64_100, z32_999, z64_999, z32_9999, z64_9999, z32_999999, z64_999999, z32_m1, z64_m1, if_true, if_false, eq_self, Bool.true_eq_false, Bool.false_eq_true]
  rcases bool_cases (inB a0 0 5) with cp | cp
  · simp +decide only [cp, if_true, if_false, eq_self, Bool.true_eq_false, Bool.false_eq_true]; exact hB
  rcases bool_cases (inB a1 1 60) with cn | cn
  · simp +decide only [cp, cn, if_true, if_false, eq_self, Bool.true_eq_false, Bool.false_eq_true]; exact hB
  obtain ⟨p, -, hp, rfl⟩ := inB_nat (L := 0) (N := 5) cp
  obtain ⟨n, hn1, hn, rfl⟩ := inB_nat (L := 1) (N := 60) cn
  obtain ⟨a, ea, wa, ra⟩ := X_start x
  have hwa := wa k d hw
  have hra := ra _ hR
  have hwn := daysS_wf hwa n (by omega)
  have hsn := setF_in (sWit (daysS k n a)) (nI p) k hk
  obtain ⟨b, e1, e2⟩ := M_laysAside m
  obtain ⟨s1, e3, e4⟩ := M_daysGo (N := n) (m := mAsd' m b) hwa (by omega) (by omega) hra
  obtain ⟨s2, e5, e6⟩ := M_takesBack (bcE (setF (sWit (daysS k n a)) (nI p) k)) (mS' (mAsd' m b) s1)
  simp +decide only [cp, cn, ea, e1, xAhd_xAhd', X_goDays hwa (show d + n ≤ 20000 by omega) (show n < 2000 by omega), X_count hwn, e3, M_those5 (m := mS' (mAsd' m b) s1) hwn e4, M_ones hsn, e5, Option.bind_some, b2i_0, z32_0, z64_0, z32_1, z64_1, z32_2, z64_2, z32_3, z64_3, z32_4, z64_4, z32_5, z64_5, z32_6, z64_6, z32_7, z64_7, z32_60, z64_60, z32_100, z64_100, z32_999, z64_999, z32_9999, z64_9999, z32_999999, z64_999999, z32_m1, z64_m1, if_true, if_false, eq_self, Bool.true_eq_false, Bool.false_eq_true]
  exact firstL h hw hd (show p < 6 by omega) hn k 0 FU FU _ 0 _ b s2 (by omega) (by rw [FU_eq]; omega) (by rw [FU_eq]; omega) e2 (fun q hq => (e6 q hq).trans (e2 q hq))
-- with whom most are
theorem mostL {x0 : XS} {m0 : MS} {k d : Nat} {v : St} (h : Inv x0 m0) (hv : WF k d v) : ∀ (i j n n' best : Nat) (b s : F32), i + j = 6 → i < n → i < n' → (∀ q, q < 69 → b q = mS m0 q) → Rel v s → Same (lX4_most_33 n (nI best) (nI j) (xAhd' x0 v)) (lX5_most_32 n' (nI best) (nI j) (mS' (mAsd' m0 b) s)) := by
  have hR := h.2.1
  have hk := hv.k8
  intro i
  induction i with
  | zero =>
    intro j n n' best b s hi hn hn' hb hs
    obtain ⟨n, rfl⟩ : ∃ q, n = q + 1 := ⟨n - 1, by omega⟩
    obtain ⟨n', rfl⟩ : ∃ q, n' = q + 1 := ⟨n' - 1, by omega⟩
    obtain rfl : j = 6 := by omega
    obtain ⟨s1, e1, e2⟩ := M_takesBack (nI best) (mS' (mAsd' m0 b) s)
    rw [lX4_most_33_eq, lX5_most_32_eq, if_pos (by decide), if_pos (by decide), e1, Option.bind_some]
    exact same_of (h.look (hR.cong (fun q hq => (e2 q hq).trans (hb q hq))))
  | succ i ih =>
    intro j n n' best b s hi hn hn' hb hs
    obtain ⟨n, rfl⟩ : ∃ q, n = q + 1 := ⟨n - 1, by omega⟩
    obtain ⟨n', rfl⟩ : ∃ q, n' = q + 1 := ⟨n' - 1, by omega⟩
    have hs1 := setF_in (sWit v) (nI j) k hk
    have hs2 := setF_in (sWit v) (nI best) k hk
    rw [lX4_most_33_eq, lX5_most_32_eq, if_neg (show ¬ (6 : Int32) ≤ nI j from nI_ge (show j < 6 by omega) (by decide)), if_neg (show ¬ (6 : Int32) ≤ nI j from nI_ge (show j < 6 by omega) (by decide)), xAhd_xAhd', X_count hv, Option.bind_some, X_count hv, Option.bind_some, M_those5 (m := mS' (mAsd' m0 b) s) hv hs, Option.bind_some, M_ones hs1, Option.bind_some, M_those5 (m := mS' (mAsd' m0 b) s) hv hs, Option.bind_some, M_ones hs2, Option.bind_some, nI_1]
    by_cases c : bcE (setF (sWit v) (nI j) k) ≤ bcE (setF (sWit v) (nI best) k)
    · rw [if_pos c, if_pos c]
      exact ih (j + 1) n n' best b s (by omega) (by omega) (by omega) hb hs
    · rw [if_neg c, if_neg c]
      exact ih (j + 1) n n' j b s (by omega) (by omega) (by omega) hb hs
theorem S_most {x : XS} {m : MS} (h : Inv x m) (a0 : Int32) : Same (fX4_most a0 x) (fX5_most a0 m) := by
  obtain ⟨k, d, hw, hd⟩ := h.1
  have hR := h.2.1
  have hk := hw.k8
  have hB := sf h fcB
  rw [fX4_most_eq, fX5_most_eq]
  simp +decide only [X_within, M_in, Option.bind_some, b2i_0, z32_0, z64_0, z32_1, z64_1, z32_2, z64_2, z32_3, z64_3, z32_4, z64_4, z32_5, z64_5, z32_6, z64_6, z32_7, z64_7, z32_60, z64_60, z32_100, z64_100, z32_999, z64_999, z32_9999, z64_9999, z32_999999, z64_999999, z32_m1, z64_m1, if_true, if_false, eq_self, Bool.true_eq_false, Bool.false_eq_true]
  rcases bool_cases (inB a0 0 100) with cn | cn
  · simp +decide only [cn, if_true, if_false, eq_self, Bool.true_eq_false, Bool.false_eq_true]; exact hB
  obtain ⟨n, hn1, hn, rfl⟩ := inB_nat (L := 0) (N := 100) cn
  obtain ⟨a, ea, wa, ra⟩ := X_start x
  have hwa := wa k d hw
  have hra := ra _ hR
  have hwn := daysS_wf hwa n (by omega)
  obtain ⟨b, e1, e2⟩ := M_laysAside m
  obtain ⟨s1, e3, e4⟩ := M_daysGo (N := n) (m := mAsd' m b) hwa (by omega) (by omega) hra
  simp +decide only [cn, ea, e1, xAhd_xAhd', X_goDays hwa (show d + n ≤ 20000 by omega) (show n < 2000 by omega), e3, Option.bind_some, b2i_0, z32_0, z64_0, z32_1, z64_1, z32_2, z64_2, z32_3, z64_3, z32_4, z64_4, z32_5, z64_5, z32_6, z64_6, z32_7, z64_7, z32_60, z64_60, z32_100, z64_100, z32_999, z64_999, z32_9999, z64_9999, z32_999999, z64_999999, z32_m1, z64_m1, if_true, if_false, eq_self, Bool.true_eq_false, Bool.false_eq_true]
  exact mostL h hwn 5 1 FU FU 0 b s1 (by omega) (by rw [FU_eq]; omega) (by rw [FU_eq]; omega) e2 e4
