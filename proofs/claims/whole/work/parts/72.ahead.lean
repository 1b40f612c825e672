-- SUMS AND SETS
def dueF (u : St) : Nat → Int32
  | 0 => 0
  | t + 1 => if thereS u t = true then dueF u t + sDue u t else dueF u t
def salF (u : St) : Nat → Int32
  | 0 => 0
  | t + 1 => if (thereS u t && sellS u t) = true then salF u t ||| ((1 : Int32) <<< (nI t &&& 31)) else salF u t
def mnsF (u : St) : Nat → Int32
  | 0 => 0
  | t + 1 => mnsF u t + sMns u t
def wthF (u : St) : Nat → Int32
  | 0 => 0
  | t + 1 => wthF u t + sWth u t
theorem X_dueL {k d : Nat} {u : St} (h : WF k d u) : ∀ (i j n : Nat), i + j = k → i < n → lX1_dueOfAllThere_4 n (dueF u j) (nI j) u = some (dueF u k, u) := by
  have hk := h.k8
  intro i
  induction i with
  | zero =>
    intro j n hi hn
    obtain ⟨n, rfl⟩ : ∃ q, n = q + 1 := ⟨n - 1, by omega⟩
    obtain rfl : j = k := by omega
    rw [lX1_dueOfAllThere_4_eq, h.2.2.1, if_pos (nI_le (Nat.le_refl j) (by omega))]
  | succ i ih =>
    intro j n hi hn
    obtain ⟨n, rfl⟩ : ∃ q, n = q + 1 := ⟨n - 1, by omega⟩
    have hj8 : j < 8 := by omega
    have ihh := ih (j + 1) n (by omega) (by omega)
    rw [lX1_dueOfAllThere_4_eq, h.2.2.1, if_neg (nI_ge (show j < k by omega) (by omega))]
    have e : dueF u (j + 1) = if thereS u j = true then dueF u j + sDue u j else dueF u j := rfl
    rw [e] at ihh
    simp only [X_isThere hj8, Option.bind_some, b2i_0, nI_1, if_neg (ix' hj8), cl (show j < 2 ^ 31 by omega)]
    rcases bool_cases (thereS u j) with c | c
    · rw [c] at ihh ⊢; exact ihh
    · rw [c] at ihh ⊢; exact ihh
theorem M_dueL {k d : Nat} {u : St} {m : MS} (h : WF k d u) (hR : Rel u (mS m)) : ∀ (i j n : Nat), i + j = k → i < n → lX5_duesThere_4 n (dueF u j) (nI j) m = some (dueF u k, m) := by
  have hk := h.k8
  intro i
  induction i with
  | zero =>
    intro j n hi hn
    obtain ⟨n, rfl⟩ : ∃ q, n = q + 1 := ⟨n - 1, by omega⟩
    obtain rfl : j = k := by omega
    rw [lX5_duesThere_4_eq, hR.1, h.2.2.1, if_pos (nI_le (Nat.le_refl j) (by omega))]
  | succ i ih =>
    intro j n hi hn
    obtain ⟨n, rfl⟩ : ∃ q, n = q + 1 := ⟨n - 1, by omega⟩
    have hj8 : j < 8 := by omega
    have ihh := ih (j + 1) n (by omega) (by omega)
    rw [lX5_duesThere_4_eq, hR.1, h.2.2.1, if_neg (nI_ge (show j < k by omega) (by omega))]
    have e : dueF u (j + 1) = if thereS u j = true then dueF u j + sDue u j else dueF u j := rfl
    rw [e] at ihh
    simp only [M_isThere hR hj8, M_due hR hj8, Option.bind_some, b2i_0, nI_1, Int32.add_zero]
    rcases bool_cases (thereS u j) with c | c
    · rw [c] at ihh ⊢; exact ihh
    · rw [c] at ihh ⊢; exact ihh
theorem X_salL {k d : Nat} {u : St} (h : WF k d u) : ∀ (i j n : Nat), i + j = k → i < n → lX1_setForSale_4 n (salF u j) (nI j) u = some (salF u k, u) := by
  have hk := h.k8
  intro i
  induction i with
  | zero =>
    intro j n hi hn
    obtain ⟨n, rfl⟩ : ∃ q, n = q + 1 := ⟨n - 1, by omega⟩
    obtain rfl : j = k := by omega
    rw [lX1_setForSale_4_eq, h.2.2.1, if_pos (nI_le (Nat.le_refl j) (by omega))]
  | succ i ih =>
    intro j n hi hn
    obtain ⟨n, rfl⟩ : ∃ q, n = q + 1 := ⟨n - 1, by omega⟩
    have hj8 : j < 8 := by omega
    have ihh := ih (j + 1) n (by omega) (by omega)
    rw [lX1_setForSale_4_eq, h.2.2.1, if_neg (nI_ge (show j < k by omega) (by omega))]
    have e : salF u (j + 1) = if (thereS u j && sellS u j) = true then salF u j ||| ((1 : Int32) <<< (nI j &&& 31)) else salF u j := rfl
    rw [e] at ihh
    simp only [X_isThere hj8, X_maySell hj8, Option.bind_some, b2i_0, nI_1]
    rcases bool_cases (thereS u j) with c | c
    · rw [c] at ihh ⊢; exact ihh
    · rcases bool_cases (sellS u j) with c2 | c2
      · rw [c, c2] at ihh ⊢; exact ihh
      · rw [c, c2] at ihh ⊢; exact ihh
theorem M_salL {k d : Nat} {u : St} {m : MS} (h : WF k d u) (hR : Rel u (mS m)) : ∀ (i j n : Nat), i + j = k → i < n → lX5_forSale_4 n (salF u j) (nI j) m = some (salF u k, m) := by
  have hk := h.k8
  intro i
  induction i with
  | zero =>
    intro j n hi hn
    obtain ⟨n, rfl⟩ : ∃ q, n = q + 1 := ⟨n - 1, by omega⟩
    obtain rfl : j = k := by omega
    rw [lX5_forSale_4_eq, hR.1, h.2.2.1, if_pos (nI_le (Nat.le_refl j) (by omega))]
  | succ i ih =>
    intro j n hi hn
    obtain ⟨n, rfl⟩ : ∃ q, n = q + 1 := ⟨n - 1, by omega⟩
    have hj8 : j < 8 := by omega
    have ihh := ih (j + 1) n (by omega) (by omega)
    rw [lX5_forSale_4_eq, hR.1, h.2.2.1, if_neg (nI_ge (show j < k by omega) (by omega))]
    have e : salF u (j + 1) = if (thereS u j && sellS u j) = true then salF u j ||| ((1 : Int32) <<< (nI j &&& 31)) else salF u j := rfl
    rw [e] at ihh
    simp only [M_isThere hR hj8, M_maySell hR hj8, Option.bind_some, b2i_0, nI_1, Int32.or_zero]
    rcases bool_cases (thereS u j) with c | c
    · rw [c] at ihh ⊢; exact ihh
    · rcases bool_cases (sellS u j) with c2 | c2
      · rw [c, c2] at ihh ⊢; exact ihh
      · rw [c, c2] at ihh ⊢; exact ihh
theorem X_mnsL {k d : Nat} {u : St} (h : WF k d u) : ∀ (i j n : Nat), i + j = 6 → i < n → lX1_meansOfAll_4 n (mnsF u j) (nI j) u = some (mnsF u 6, u) := by
  have hk := h.k8
  intro i
  induction i with
  | zero =>
    intro j n hi hn
    obtain ⟨n, rfl⟩ : ∃ q, n = q + 1 := ⟨n - 1, by omega⟩
    obtain rfl : j = 6 := by omega
    rw [lX1_meansOfAll_4_eq, if_pos (show (6 : Int32) ≤ nI 6 from nI_le (Nat.le_refl 6) (by decide))]
  | succ i ih =>
    intro j n hi hn
    obtain ⟨n, rfl⟩ : ∃ q, n = q + 1 := ⟨n - 1, by omega⟩
    have hj8 : j < 8 := by omega
    have ihh := ih (j + 1) n (by omega) (by omega)
    rw [lX1_meansOfAll_4_eq, if_neg (show ¬ (6 : Int32) ≤ nI j from nI_ge (show j < 6 by omega) (by decide))]
    have e : mnsF u (j + 1) = mnsF u j + sMns u j := rfl
    rw [e] at ihh
    rw [if_neg (ix (show j < 6 by omega)), cl (by omega), nI_1]
    exact ihh
theorem M_mnsL {k d : Nat} {u : St} {m : MS} (h : WF k d u) (hR : Rel u (mS m)) : ∀ (i j n : Nat), i + j = 6 → i < n → lX5_meansAll_4 n (mnsF u j) (nI j) m = some (mnsF u 6, m) := by
  have hk := h.k8
  intro i
  induction i with
  | zero =>
    intro j n hi hn
    obtain ⟨n, rfl⟩ : ∃ q, n = q + 1 := ⟨n - 1, by omega⟩
    obtain rfl : j = 6 := by omega
    rw [lX5_meansAll_4_eq, if_pos (show (6 : Int32) ≤ nI 6 from nI_le (Nat.le_refl 6) (by decide))]
  | succ i ih =>
    intro j n hi hn
    obtain ⟨n, rfl⟩ : ∃ q, n = q + 1 := ⟨n - 1, by omega⟩
    have hj8 : j < 8 := by omega
    have ihh := ih (j + 1) n (by omega) (by omega)
    rw [lX5_meansAll_4_eq, if_neg (show ¬ (6 : Int32) ≤ nI j from nI_ge (show j < 6 by omega) (by decide))]
    have e : mnsF u (j + 1) = mnsF u j + sMns u j := rfl
    rw [e] at ihh
    rw [M_means hR (show j < 6 by omega), Option.bind_some, nI_1]
    exact ihh
theorem X_wthL {k d : Nat} {u : St} (h : WF k d u) : ∀ (i j n : Nat), i + j = k → i < n → lX1_worthOfAll_4 n (wthF u j) (nI j) u = some (wthF u k, u) := by
  have hk := h.k8
  intro i
  induction i with
  | zero =>
    intro j n hi hn
    obtain ⟨n, rfl⟩ : ∃ q, n = q + 1 := ⟨n - 1, by omega⟩
    obtain rfl : j = k := by omega
    rw [lX1_worthOfAll_4_eq, h.2.2.1, if_pos (nI_le (Nat.le_refl j) (by omega))]
  | succ i ih =>
    intro j n hi hn
    obtain ⟨n, rfl⟩ : ∃ q, n = q + 1 := ⟨n - 1, by omega⟩
    have hj8 : j < 8 := by omega
    have ihh := ih (j + 1) n (by omega) (by omega)
    rw [lX1_worthOfAll_4_eq, h.2.2.1, if_neg (nI_ge (show j < k by omega) (by omega))]
    have e : wthF u (j + 1) = wthF u j + sWth u j := rfl
    rw [e] at ihh
    rw [if_neg (ix hj8), cl (by omega), nI_1]
    exact ihh
theorem M_wthL {k d : Nat} {u : St} {m : MS} (h : WF k d u) (hR : Rel u (mS m)) : ∀ (i j n : Nat), i + j = k → i < n → lX5_worths_4 n (wthF u j) (nI j) m = some (wthF u k, m) := by
  have hk := h.k8
  intro i
  induction i with
  | zero =>
    intro j n hi hn
    obtain ⟨n, rfl⟩ : ∃ q, n = q + 1 := ⟨n - 1, by omega⟩
    obtain rfl : j = k := by omega
    rw [lX5_worths_4_eq, hR.1, h.2.2.1, if_pos (nI_le (Nat.le_refl j) (by omega))]
  | succ i ih =>
    intro j n hi hn
    obtain ⟨n, rfl⟩ : ∃ q, n = q + 1 := ⟨n - 1, by omega⟩
    have hj8 : j < 8 := by omega
    have ihh := ih (j + 1) n (by omega) (by omega)
    rw [lX5_worths_4_eq, hR.1, h.2.2.1, if_neg (nI_ge (show j < k by omega) (by omega))]
    have e : wthF u (j + 1) = wthF u j + sWth u j := rfl
    rw [e] at ihh
    rw [M_worth hR hj8, Option.bind_some, nI_1]
    exact ihh
theorem X_dueOfAllThere {k d : Nat} {u : St} (h : WF k d u) : fX1_dueOfAllThere u = some (dueF u k, u) := by
  rw [fX1_dueOfAllThere_eq]
  exact X_dueL h k 0 FU (by omega) (by rw [FU_eq]; have := h.k8; omega)
theorem M_duesThere {k d : Nat} {u : St} {m : MS} (h : WF k d u) (hR : Rel u (mS m)) : fX5_duesThere m = some (dueF u k, m) := by
  rw [fX5_duesThere_eq]
  exact M_dueL h hR k 0 FU (by omega) (by rw [FU_eq]; have := h.k8; omega)
theorem X_setForSale {k d : Nat} {u : St} (h : WF k d u) : fX1_setForSale u = some (salF u k, u) := by
  rw [fX1_setForSale_eq]
  exact X_salL h k 0 FU (by omega) (by rw [FU_eq]; have := h.k8; omega)
theorem M_forSale {k d : Nat} {u : St} {m : MS} (h : WF k d u) (hR : Rel u (mS m)) : fX5_forSale m = some (salF u k, m) := by
  rw [fX5_forSale_eq]
  exact M_salL h hR k 0 FU (by omega) (by rw [FU_eq]; have := h.k8; omega)
theorem X_meansOfAll {k d : Nat} {u : St} (h : WF k d u) : fX1_meansOfAll u = some (mnsF u 6, u) := by
  rw [fX1_meansOfAll_eq]
  exact X_mnsL h 6 0 FU (by omega) (by rw [FU_eq]; have := h.k8; omega)
theorem M_meansAll {k d : Nat} {u : St} {m : MS} (h : WF k d u) (hR : Rel u (mS m)) : fX5_meansAll m = some (mnsF u 6, m) := by
  rw [fX5_meansAll_eq]
  exact M_mnsL h hR 6 0 FU (by omega) (by rw [FU_eq]; have := h.k8; omega)
theorem X_worthOfAll {k d : Nat} {u : St} (h : WF k d u) : fX1_worthOfAll u = some (wthF u k, u) := by
  rw [fX1_worthOfAll_eq]
  exact X_wthL h k 0 FU (by omega) (by rw [FU_eq]; have := h.k8; omega)
theorem M_worths {k d : Nat} {u : St} {m : MS} (h : WF k d u) (hR : Rel u (mS m)) : fX5_worths m = some (wthF u k, m) := by
  rw [fX5_worths_eq]
  exact M_wthL h hR k 0 FU (by omega) (by rw [FU_eq]; have := h.k8; omega)
theorem S_days {x : XS} {m : MS} (h : Inv x m) (a0 : Int32) : Same (fX4_days a0 x) (fX5_days a0 m) := by
  obtain ⟨k, d, hw, hd⟩ := h.1
  have hR := h.2.1
  have hk := hw.k8
  have hB := sf h fcB
  have hS := sf h fcS
  rw [fX4_days_eq, fX5_days_eq]
  simp +decide only [X_within, M_in, Option.bind_some, b2i_0, z32_0, z64_0, z32_1, z64_1, z32_2, z64_2, z32_3, z64_3, z32_4, z64_4, z32_5, z64_5, z32_6, z64_6, z32_7, z64_7, z32_60, z64_60, z32_100, z64_100, z32_999, z64_999, z32_9999, z64_9999, z32_999999, z64_999999, z32_m1, z64_m1, if_true, if_false, eq_self, Bool.true_eq_false, Bool.false_eq_true]
  rcases bool_cases (inB a0 1 100) with cp | cp
  · simp +decide only [cp, if_true, if_false, eq_self, Bool.true_eq_false, Bool.false_eq_true]; exact hB
  · obtain ⟨n, hn1, hn, rfl⟩ := inB_nat (L := 1) (N := 100) cp
    simp +decide only [cp, if_true, if_false, eq_self, Bool.true_eq_false, Bool.false_eq_true]
    rw [hR.2.1, hw.2.2.2.1, nI_add]
    by_cases c : d + n ≤ 9999
    · have c1 : nI (d + n) ≤ (9999 : Int32) := nI_le c (by decide)
      have hw2 := daysS_wf hw n (by omega)
      obtain ⟨s', e1, e2⟩ := M_daysGo hw (N := n) (by omega) (by omega) hR
      rw [if_pos c1, if_pos c1, X_goDays hw (by omega) (by omega), Option.bind_some, X_set9 hw2, Option.bind_some, e1, Option.bind_some, M_there hw2 (m := mS' m s') e2, Option.bind_some]
      exact same_of (h.room ⟨k, d + n, hw2, c⟩ e2)
    · have c1 : ¬ nI (d + n) ≤ (9999 : Int32) := nI_ge (show 9999 < d + n by omega) (by omega)
      rw [if_neg c1, if_neg c1]
      exact hS
theorem S_now {x : XS} {m : MS} (h : Inv x m) (a0 : Int32) : Same (fX4_now a0 x) (fX5_now a0 m) := by
  obtain ⟨k, d, hw, hd⟩ := h.1
  have hR := h.2.1
  have hk := hw.k8
  have hB := sf h fcB
  rw [fX4_now_eq, fX5_now_eq]
  by_cases c0 : a0 = 0
  · subst c0
    simp +decide only [hR.2.1, hR.2.1, xRoom_eta, Option.bind_some, b2i_0, z32_0, z64_0, z32_1, z64_1, z32_2, z64_2, z32_3, z64_3, z32_4, z64_4, z32_5, z64_5, z32_6, z64_6, z32_7, z64_7, z32_60, z64_60, z32_100, z64_100, z32_999, z64_999, z32_9999, z64_9999, z32_999999, z64_999999, z32_m1, z64_m1, if_true, if_false, eq_self, Bool.true_eq_false, Bool.false_eq_true]
    exact same_of h
  by_cases c1 : a0 = 1
  · subst c1
    simp +decide only [hR.2.2.1, hR.2.2.1, xRoom_eta, Option.bind_some, b2i_0, z32_0, z64_0, z32_1, z64_1, z32_2, z64_2, z32_3, z64_3, z32_4, z64_4, z32_5, z64_5, z32_6, z64_6, z32_7, z64_7, z32_60, z64_60, z32_100, z64_100, z32_999, z64_999, z32_9999, z64_9999, z32_999999, z64_999999, z32_m1, z64_m1, if_true, if_false, eq_self, Bool.true_eq_false, Bool.false_eq_true]
    exact same_of h
  by_cases c2 : a0 = 2
  · subst c2
    simp +decide only [X_set9 hw, M_there hw hR, xRoom_eta, Option.bind_some, b2i_0, z32_0, z64_0, z32_1, z64_1, z32_2, z64_2, z32_3, z64_3, z32_4, z64_4, z32_5, z64_5, z32_6, z64_6, z32_7, z64_7, z32_60, z64_60, z32_100, z64_100, z32_999, z64_999, z32_9999, z64_9999, z32_999999, z64_999999, z32_m1, z64_m1, if_true, if_false, eq_self, Bool.true_eq_false, Bool.false_eq_true]
    exact same_of h
  by_cases c3 : a0 = 3
  · subst c3
    simp +decide only [X_dueOfAllThere hw, M_duesThere hw hR, xRoom_eta, Option.bind_some, b2i_0, z32_0, z64_0, z32_1, z64_1, z32_2, z64_2, z32_3, z64_3, z32_4, z64_4, z32_5, z64_5, z32_6, z64_6, z32_7, z64_7, z32_60, z64_60, z32_100, z64_100, z32_999, z64_999, z32_9999, z64_9999, z32_999999, z64_999999, z32_m1, z64_m1, if_true, if_false, eq_self, Bool.true_eq_false, Bool.false_eq_true]
    exact same_of h
  by_cases c4 : a0 = 4
  · subst c4
    simp +decide only [X_meansOfAll hw, M_meansAll hw hR, xRoom_eta, Option.bind_some, b2i_0, z32_0, z64_0, z32_1, z64_1, z32_2, z64_2, z32_3, z64_3, z32_4, z64_4, z32_5, z64_5, z32_6, z64_6, z32_7, z64_7, z32_60, z64_60, z32_100, z64_100, z32_999, z64_999, z32_9999, z64_9999, z32_999999, z64_999999, z32_m1, z64_m1, if_true, if_false, eq_self, Bool.true_eq_false, Bool.false_eq_true]
    exact same_of h
  by_cases c5 : a0 = 5
  · subst c5
    simp +decide only [X_setForSale hw, M_forSale hw hR, xRoom_eta, Option.bind_some, b2i_0, z32_0, z64_0, z32_1, z64_1, z32_2, z64_2, z32_3, z64_3, z32_4, z64_4, z32_5, z64_5, z32_6, z64_6, z32_7, z64_7, z32_60, z64_60, z32_100, z64_100, z32_999, z64_999, z32_9999, z64_9999, z32_999999, z64_999999, z32_m1, z64_m1, if_true, if_false, eq_self, Bool.true_eq_false, Bool.false_eq_true]
    exact same_of h
  · simp +decide only [c0, c1, c2, c3, c4, c5, if_true, if_false, eq_self, Bool.true_eq_false, Bool.false_eq_true]
    exact hB
-- LOOKING AHEAD
theorem M_behind2 {k d N w : Nat} {u : St} {m : MS} (h : WF k d u) (hN : d + N ≤ 20000) (hN2 : N < 2000) (hw : w < 69) (hR : Rel u (mS m)) : ∃ a' s1 s', fX5_behind (nI w) (nI N) m = some (s1 w, mS' (mAsd' m a') s') ∧ Rel (daysS k N u) s1 ∧ ∀ q, q < 69 → s' q = mS m q := by
  obtain ⟨a', e1, e2⟩ := M_laysAside m
  obtain ⟨s1, e3, e4⟩ := M_daysGo (m := mAsd' m a') h hN hN2 hR
  obtain ⟨s', e5, e6⟩ := M_takesBack (s1 w) (mS' (mAsd' m a') s1)
  refine ⟨a', s1, s', ?_, e4, fun q hq => (e6 q hq).trans (e2 q hq)⟩
  rw [fX5_behind_eq, e1, Option.bind_some, e3, Option.bind_some, if_neg (ix hw), cl (by omega)]
  show (fX5_takesBack (s1 w) (mS' (mAsd' m a') s1)).bind _ = _
  rw [e5]
  rfl
theorem S_on {x : XS} {m : MS} (h : Inv x m) (a0 a1 a2 : Int32) : Same (fX4_on a0 a1 a2 x) (fX5_on a0 a1 a2 m) := by
  obtain ⟨k, d, hw, hd⟩ := h.1
  have hR := h.2.1
  have hk := hw.k8
  have hB := sf h fcB
  rw [fX4_on_eq, fX5_on_eq]
  simp +decide only [X_has hw, M_isThing hw hR, X_within, M_in, xRoom_eta, Option.bind_some, b2i_0, z32_0, z64_0, z32_1, z64_1, z32_2, z64_2, z32_3, z64_3, z32_4, z64_4, z32_5, z64_5, z32_6, z64_6, z32_7, z64_7, z32_60, z64_60, z32_100, z64_100, z32_999, z64_999, z32_9999, z64_9999, z32_999999, z64_999999, z32_m1, z64_m1, if_true, if_false, eq_self, Bool.true_eq_false, Bool.false_eq_true]
  rcases bool_cases (inB a0 0 ((k : Int) - 1)) with cp | cp
  · simp +decide only [cp, if_true, if_false, eq_self, Bool.true_eq_false, Bool.false_eq_true]; exact hB
  rcases bool_cases (inB a1 0 100) with cn | cn
  · simp +decide only [cp, cn, if_true, if_false, eq_self, Bool.true_eq_false, Bool.false_eq_true]; exact hB
  rcases bool_cases (inB a2 0 1) with cv | cv
  · simp +decide only [cp, cn, cv, if_true, if_false, eq_self, Bool.true_eq_false, Bool.false_eq_true]; exact hB
  obtain ⟨t, ht, rfl⟩ := inB_k cp
  obtain ⟨n, -, hn, rfl⟩ := inB_nat (L := 0) (N := 100) cn
  have ht8 : t < 8 := by omega
  obtain ⟨a, ea, wa, ra⟩ := X_start x
  have hwa := wa k d hw
  have hra := ra _ hR
  simp +decide only [cp, cn, cv, ea, xAhd_xAhd', X_goDays hwa (show d + n ≤ 20000 by omega) (show n < 2000 by omega), M_spot3, M_spot5, Option.bind_some, b2i_0, z32_0, z64_0, z32_1, z64_1, z32_2, z64_2, z32_3, z64_3, z32_4, z64_4, z32_5, z64_5, z32_6, z64_6, z32_7, z64_7, z32_60, z64_60, z32_100, z64_100, z32_999, z64_999, z32_9999, z64_9999, z32_999999, z64_999999, z32_m1, z64_m1, if_true, if_false, eq_self, Bool.true_eq_false, Bool.false_eq_true]
  by_cases c : a2 = 0
  · obtain ⟨b, s1, s', e1, e2, e3⟩ := M_behind2 (N := n) (w := 24 + 6 * t) hwa (by omega) (by omega) (by omega) hra
    rw [if_pos c, if_pos c, e1, if_neg (ix ht8), cl (by omega), Option.bind_some, (e2.2.2.2.2 t ht8).2.2.2.1]
    exact same_of (h.look (hR.cong e3))
  · obtain ⟨b, s1, s', e1, e2, e3⟩ := M_behind2 (N := n) (w := 26 + 6 * t) hwa (by omega) (by omega) (by omega) hra
    rw [if_neg c, if_neg c, e1, if_neg (ix ht8), cl (by omega), Option.bind_some, (e2.2.2.2.2 t ht8).2.2.2.2.2]
    exact same_of (h.look (hR.cong e3))
theorem S_means {x : XS} {m : MS} (h : Inv x m) (a0 a1 : Int32) : Same (fX4_means a0 a1 x) (fX5_means a0 a1 m) := by
  obtain ⟨k, d, hw, hd⟩ := h.1
  have hR := h.2.1
  have hk := hw.k8
  have hB := sf h fcB
  rw [fX4_means_eq, fX5_means_eq]
  simp +decide only [X_isPerson, M_isPerson, X_within, M_in, Option.bind_some, b2i_0, z32_0, z64_0, z32_1, z64_1, z32_2, z64_2, z32_3, z64_3, z32_4, z64_4, z32_5, z64_5, z32_6, z64_6, z32_7, z64_7, z32_60, z64_60, z32_100, z64_100, z32_999, z64_999, z32_9999, z64_9999, z32_999999, z64_999999, z32_m1, z64_m1, if_true, if_false, eq_self, Bool.true_eq_false, Bool.false_eq_true]
  rcases bool_cases (inB a0 0 5) with cp | cp
  · simp +decide only [cp, if_true, if_false, eq_self, Bool.true_eq_false, Bool.false_eq_true]; exact hB
  rcases bool_cases (inB a1 0 100) with cn | cn
  · simp +decide only [cp, cn, if_true, if_false, eq_self, Bool.true_eq_false, Bool.false_eq_true]; exact hB
  obtain ⟨p, -, hp, rfl⟩ := inB_nat (L := 0) (N := 5) cp
  obtain ⟨n, -, hn, rfl⟩ := inB_nat (L := 0) (N := 100) cn
  have hp6 : p < 6 := by omega
  obtain ⟨a, ea, wa, ra⟩ := X_start x
  have hwa := wa k d hw
  have hra := ra _ hR
  obtain ⟨b, s1, s', e1, e2, e3⟩ := M_behind2 (N := n) (w := 3 + 3 * p) hwa (by omega) (by omega) (by omega) hra
  simp +decide only [cp, cn, ea, xAhd_xAhd', X_goDays hwa (show d + n ≤ 20000 by omega) (show n < 2000 by omega), M_place0, e1, Option.bind_some, b2i_0, z32_0, z64_0, z32_1, z64_1, z32_2, z64_2, z32_3, z64_3, z32_4, z64_4, z32_5, z64_5, z32_6, z64_6, z32_7, z64_7, z32_60, z64_60, z32_100, z64_100, z32_999, z64_999, z32_9999, z64_9999, z32_999999, z64_999999, z32_m1, z64_m1, if_true, if_false, eq_self, Bool.true_eq_false, Bool.false_eq_true]
  rw [if_neg (ix hp6), cl (by omega), (e2.2.2.2.1 p hp6).1]
  exact same_of (h.look (hR.cong e3))
-- FIRST DAYS
def FirstD (P : Nat → Prop) (N j : Nat) : Prop := (j ≤ N ∧ P j ∧ ∀ q, q < j → ¬ P q) ∨ (j = N + 1 ∧ ∀ q, q ≤ N → ¬ P q)
theorem firstD_uniq {P : Nat → Prop} {N i j : Nat} (h : FirstD P N i) (g : FirstD P N j) : i = j := by
  rcases h with ⟨h1, h2, h3⟩ | ⟨h1, h2⟩ <;> rcases g with ⟨g1, g2, g3⟩ | ⟨g1, g2⟩
  · rcases Nat.lt_trichotomy i j with z | z | z
    · exact absurd h2 (g3 i z)
    · exact z
    · exact absurd g2 (h3 j z)
  · exact absurd h2 (g2 i h1)
  · exact absurd g2 (h2 j g1)
  · omega
theorem firstD_le {P : Nat → Prop} {N i : Nat} (h : FirstD P N i) : i ≤ N + 1 := by
  rcases h with ⟨h1, -⟩ | ⟨h1, -⟩ <;> omega
/-- of a shorter run -/
theorem firstD_cut {P : Nat → Prop} {N M i j : Nat} (hM : M ≤ N) (h : FirstD P N i) (g : FirstD P M j) : (i ≤ M ∧ j = i) ∨ (M < i ∧ j = M + 1) := by
  rcases h with ⟨h1, h2, h3⟩ | ⟨h1, h2⟩ <;> rcases g with ⟨g1, g2, g3⟩ | ⟨g1, g2⟩
  · left
    rcases Nat.lt_trichotomy i j with z | z | z
    · exact absurd h2 (g3 i z)
    · omega
    · exact absurd g2 (h3 j z)
  · by_cases c : i ≤ M
    · exact absurd h2 (g2 i c)
    · right; omega
  · exact absurd g2 (h2 j (by omega))
  · right; omega
def ansX (N j : Nat) : Int32 := if j ≤ N then nI j else -1
theorem X_tillGone2 {k d t N : Nat} {u : St} (h : WF k d u) (ht : t < k) (hN : d + N ≤ 20000) (hN2 : N < 1900) : ∃ j v, fX1_daysTillGone (nI t) (nI N) u = some (ansX N j, v) ∧ FirstD (fun i => thereS (daysS k i u) t = false) N j := by
  obtain ⟨r, v, e, g⟩ := X_tillGone h ht hN hN2
  rcases g with ⟨n0, g1, g2, g3, g4, g5⟩ | ⟨g1, g2, g3⟩
  · refine ⟨n0, v, ?_, Or.inl ⟨g1, by show thereS (daysS k n0 u) t = false; rw [← g3]; exact g4, fun q hq => by show ¬ _ = _; rw [g5 q hq]; decide⟩⟩
    rw [e, g2]; unfold ansX; rw [if_pos g1]
  · refine ⟨N + 1, v, ?_, Or.inr ⟨rfl, fun q hq => by show ¬ _ = _; rw [g3 q hq]; decide⟩⟩
    rw [e, g1]; unfold ansX; rw [if_neg (by omega)]
theorem wit_there {v : St} {t : Nat} (h : thereS v t = true) : sWit v t = -1 := of_decide_eq_true h
theorem wit_nthere {v : St} {t : Nat} (h : thereS v t = false) : sWit v t ≠ -1 := of_decide_eq_false h
theorem nI_m1 {p : Nat} (h : p < 2 ^ 31) : (-1 : Int32) ≠ nI p := fun z => by
  have h1 := nI_toInt h
  rw [← z, z32_m1] at h1
  omega
theorem X_tillWith2 {k d t p N : Nat} {u : St} (h : WF k d u) (ht : t < k) (hp : p < 6) (hN : d + N ≤ 20000) (hN2 : N < 1900) : ∃ j v, fX1_daysTillWith (nI t) (nI p) (nI N) u = some (ansX N j, v) ∧ FirstD (fun i => sWit (daysS k i u) t = nI p) N j := by
  have ht8 : t < 8 := by have := h.k8; omega
  obtain ⟨r, v, e, g⟩ := X_tillGone h ht hN hN2
  have hq : ∀ q, thereS (daysS k q u) t = true → ¬ sWit (daysS k q u) t = nI p := fun q hq z => by
    rw [wit_there hq] at z
    exact nI_m1 (by omega) z
  rw [fX1_daysTillWith_eq, e, Option.bind_some]
  rcases g with ⟨n0, g1, g2, g3, g4, g5⟩ | ⟨g1, g2, g3⟩
  · show ∃ j v', (if r < 0 then _ else _) = _ ∧ _
    rw [g2, if_neg (nI_pos (by omega)), if_neg (ix ht8), cl (by omega)]
    by_cases c : sWit v t = nI p
    · refine ⟨n0, v, ?_, Or.inl ⟨g1, by show sWit (daysS k n0 u) t = nI p; rw [← g3]; exact c, fun q hq2 => hq q (g5 q hq2)⟩⟩
      rw [if_pos c]; unfold ansX; rw [if_pos g1]
    · refine ⟨N + 1, v, ?_, Or.inr ⟨rfl, fun q hq2 => ?_⟩⟩
      · rw [if_neg c]; unfold ansX; rw [if_neg (by omega)]
      · by_cases c2 : q < n0
        · exact hq q (g5 q c2)
        · have := days_later (k := k) (u := u) (q := t) (a := n0) (by rw [← g3]; exact wit_nthere g4) (q - n0)
          rw [show n0 + (q - n0) = q by omega, ← g3] at this
          show ¬ sWit (daysS k q u) t = nI p
          rw [this]
          exact c
  · refine ⟨N + 1, v, ?_, Or.inr ⟨rfl, fun q hq2 => hq q (g3 q hq2)⟩⟩
    show (if r < 0 then _ else _) = _
    rw [g1, if_pos (by decide)]; unfold ansX; rw [if_neg (by omega)]
theorem M_goneIn {k d t N : Nat} {u : St} {m : MS} (h : WF k d u) (ht : t < k) (hN : d + N + 1 ≤ 20000) (hN2 : N < 1900) (hR : Rel u (mS m)) : ∃ j b s', fX5_goneIn (nI t) (-1) (nI N) m = some (nI j, mS' (mAsd' m b) s') ∧ (∀ q, q < 69 → s' q = mS m q) ∧ FirstD (fun i => thereS (daysS k i u) t = false) N j := by
  obtain ⟨b, e1, e2⟩ := M_laysAside m
  obtain ⟨j, s1, s', e3, e4, e5⟩ := M_goneL h ht hN (N + 1) 0 FU (mAsd' m b) (by omega) (by rw [FU_eq]; omega) hR (fun _ _ => rfl) (fun q hq => absurd hq (Nat.not_lt_zero q))
  refine ⟨j, b, s', ?_, fun q hq => (e4 q hq).trans (e2 q hq), ?_⟩
  · rw [fX5_goneIn_eq, e1, Option.bind_some]
    exact e3
  · rcases e5 with ⟨g1, g2, g3⟩ | ⟨g1, g2⟩
    · exact Or.inl ⟨g1, g2, fun q hq => by show ¬ _ = _; rw [g3 q hq]; decide⟩
    · exact Or.inr ⟨g1, fun q hq => by show ¬ _ = _; rw [g2 q hq]; decide⟩
theorem M_withL {k d t p N : Nat} {u : St} (h : WF k d u) (ht : t < k) (hp : p < 6) (hN : d + N + 1 ≤ 20000) : ∀ (i j n : Nat) (m : MS), i + j = N + 1 → i < n → Rel (daysS k j u) (mS m) → (∀ q, q < j → ¬ sWit (daysS k q u) t = nI p) → ∃ j2 s1 s', lX5_goneIn_7 n (nI t) (nI p) (nI N) (nI j) m = some (nI j2, mS' (mS' m s1) s') ∧ (∀ q, q < 69 → s' q = mAsd m q) ∧ FirstD (fun i => sWit (daysS k i u) t = nI p) N j2 := by
  have ht8 : t < 8 := by have := h.k8; omega
  intro i
  induction i with
  | zero =>
    intro j n m hk hn hR hq
    obtain ⟨n, rfl⟩ : ∃ q, n = q + 1 := ⟨n - 1, by omega⟩
    obtain rfl : j = N + 1 := by omega
    obtain ⟨s', e1, e2⟩ := M_takesBack (nI (N + 1)) m
    refine ⟨N + 1, mS m, s', ?_, e2, Or.inr ⟨rfl, fun q hq2 => hq q (by omega)⟩⟩
    rw [lX5_goneIn_7_eq, if_pos (nI_lt (by omega) (by omega)), e1]
    rfl
  | succ i ih =>
    intro j n m hk hn hR hq
    obtain ⟨n, rfl⟩ : ∃ q, n = q + 1 := ⟨n - 1, by omega⟩
    rw [lX5_goneIn_7_eq, if_neg (nI_nlt (by omega) (by omega)), if_pos (nI_pos' (by omega)), M_wit hR ht8]
    simp only [Option.bind_some]
    by_cases c : sWit (daysS k j u) t = nI p
    · obtain ⟨s', e1, e2⟩ := M_takesBack (nI j) m
      refine ⟨j, mS m, s', ?_, e2, Or.inl ⟨by omega, c, hq⟩⟩
      rw [if_pos c, e1]
      rfl
    · obtain ⟨s1, e1, e2⟩ := M_dayS (daysS_wf h j (by omega)) (by omega) hR
      rw [if_neg c, e1, Option.bind_some, nI_1]
      obtain ⟨j2, s2, s', e3, e4, e5⟩ := ih (j + 1) n (mS' m s1) (by omega) (by omega) e2 (fun q hq2 => by
        by_cases e : q = j
        · subst e; exact c
        · exact hq q (by omega))
      exact ⟨j2, s2, s', e3, e4, e5⟩
theorem M_withIn {k d t p N : Nat} {u : St} {m : MS} (h : WF k d u) (ht : t < k) (hp : p < 6) (hN : d + N + 1 ≤ 20000) (hN2 : N < 1900) (hR : Rel u (mS m)) : ∃ j b s', fX5_goneIn (nI t) (nI p) (nI N) m = some (nI j, mS' (mAsd' m b) s') ∧ (∀ q, q < 69 → s' q = mS m q) ∧ FirstD (fun i => sWit (daysS k i u) t = nI p) N j := by
  obtain ⟨b, e1, e2⟩ := M_laysAside m
  obtain ⟨j, s1, s', e3, e4, e5⟩ := M_withL h ht hp hN (N + 1) 0 FU (mAsd' m b) (by omega) (by rw [FU_eq]; omega) hR (fun q hq => absurd hq (Nat.not_lt_zero q))
  refine ⟨j, b, s', ?_, fun q hq => (e4 q hq).trans (e2 q hq), e5⟩
  rw [fX5_goneIn_eq, e1, Option.bind_some]
  exact e3
theorem ans_pos {N j : Nat} (h : j ≤ N) (hN : N < 2 ^ 31) : ¬ ansX N j < 0 ∧ ansX N j = nI j := by
  unfold ansX
  rw [if_pos h]
  exact ⟨nI_pos (by omega), rfl⟩
theorem ans_neg {N j : Nat} (h : N < j) : ansX N j = -1 := by
  unfold ansX
  rw [if_neg (by omega)]
theorem orNone_same {x : XS} {m : MS} (h : Inv x m) {N j : Nat} (hN : N < 2 ^ 30) (hj : j ≤ N + 1) : Same ((fX4_orNone (ansX N j) x).bind fun q => some (q.1, q.2)) ((fX5_orNone (nI j) (nI N) m).bind fun q => some (q.1, q.2)) := by
  rw [fX4_orNone_eq, fX5_orNone_eq]
  by_cases c : j ≤ N
  · obtain ⟨h1, h2⟩ := ans_pos c (by omega)
    rw [h2, if_pos (nI_pos' (by omega)), if_pos (nI_le c (by omega))]
    exact same_of h
  · rw [ans_neg (by omega), if_neg (by decide), if_neg (nI_ge (by omega) (by omega))]
    obtain ⟨x', m', e1, e2, e3⟩ := same_found h fcN
    rw [e1, e2]
    exact same_of e3
theorem S_gone {x : XS} {m : MS} (h : Inv x m) (a0 : Int32) : Same (fX4_gone a0 x) (fX5_gone a0 m) := by
  obtain ⟨k, d, hw, hd⟩ := h.1
  have hR := h.2.1
  have hk := hw.k8
  have hB := sf h fcB
  rw [fX4_gone_eq, fX5_gone_eq]
  simp +decide only [X_has hw, M_isThing hw hR, xRoom_eta, Option.bind_some, b2i_0, z32_0, z64_0, z32_1, z64_1, z32_2, z64_2, z32_3, z64_3, z32_4, z64_4, z32_5, z64_5, z32_6, z64_6, z32_7, z64_7, z32_60, z64_60, z32_100, z64_100, z32_999, z64_999, z32_9999, z64_9999, z32_999999, z64_999999, z32_m1, z64_m1, if_true, if_false, eq_self, Bool.true_eq_false, Bool.false_eq_true]
  rcases bool_cases (inB a0 0 ((k : Int) - 1)) with cp | cp
  · simp +decide only [cp, if_true, if_false, eq_self, Bool.true_eq_false, Bool.false_eq_true]; exact hB
  obtain ⟨t, ht, rfl⟩ := inB_k cp
  obtain ⟨a, ea, wa, ra⟩ := X_start x
  have hwa := wa k d hw
  have hra := ra _ hR
  obtain ⟨j, v, e1, e2⟩ := X_tillGone2 (N := 200) hwa ht (by omega) (by omega)
  obtain ⟨j', b, s', e3, e4, e5⟩ := M_goneIn (N := 200) hwa ht (by omega) (by omega) hra
  obtain rfl := firstD_uniq e2 e5
  replace e1 : fX1_daysTillGone (nI t) 200 a = some (ansX 200 j, v) := e1
  replace e3 : fX5_goneIn (nI t) (-1) 200 m = some (nI j, mS' (mAsd' m b) s') := e3
  simp +decide only [cp, ea, xAhd_xAhd', e1, e3, Option.bind_some, b2i_0, z32_0, z64_0, z32_1, z64_1, z32_2, z64_2, z32_3, z64_3, z32_4, z64_4, z32_5, z64_5, z32_6, z64_6, z32_7, z64_7, z32_60, z64_60, z32_100, z64_100, z32_999, z64_999, z32_9999, z64_9999, z32_999999, z64_999999, z32_m1, z64_m1, if_true, if_false, eq_self, Bool.true_eq_false, Bool.false_eq_true]
  exact orNone_same (N := 200) (h.look (hR.cong e4)) (by decide) (firstD_le e2)
theorem S_comes {x : XS} {m : MS} (h : Inv x m) (a0 a1 : Int32) : Same (fX4_comes a0 a1 x) (fX5_comes a0 a1 m) := by
  obtain ⟨k, d, hw, hd⟩ := h.1
  have hR := h.2.1
  have hk := hw.k8
  have hB := sf h fcB
  rw [fX4_comes_eq, fX5_comes_eq]
  simp +decide only [X_has hw, M_isThing hw hR, X_isPerson, M_isPerson, xRoom_eta, Option.bind_some, b2i_0, z32_0, z64_0, z32_1, z64_1, z32_2, z64_2, z32_3, z64_3, z32_4, z64_4, z32_5, z64_5, z32_6, z64_6, z32_7, z64_7, z32_60, z64_60, z32_100, z64_100, z32_999, z64_999, z32_9999, z64_9999, z32_999999, z64_999999, z32_m1, z64_m1, if_true, if_false, eq_self, Bool.true_eq_false, Bool.false_eq_true]
  rcases bool_cases (inB a0 0 ((k : Int) - 1)) with cp | cp
  · simp +decide only [cp, if_true, if_false, eq_self, Bool.true_eq_false, Bool.false_eq_true]; exact hB
  rcases bool_cases (inB a1 0 5) with cv | cv
  · simp +decide only [cp, cv, if_true, if_false, eq_self, Bool.true_eq_false, Bool.false_eq_true]; exact hB
  obtain ⟨t, ht, rfl⟩ := inB_k cp
  obtain ⟨p, -, hp, rfl⟩ := inB_nat (L := 0) (N := 5) cv
  obtain ⟨a, ea, wa, ra⟩ := X_start x
  have hwa := wa k d hw
  have hra := ra _ hR
  obtain ⟨j, v, e1, e2⟩ := X_tillWith2 (N := 200) (p := p) hwa ht (by omega) (by omega) (by omega)
  obtain ⟨j', b, s', e3, e4, e5⟩ := M_withIn (N := 200) (p := p) hwa ht (by omega) (by omega) (by omega) hra
  obtain rfl := firstD_uniq e2 e5
  replace e1 : fX1_daysTillWith (nI t) (nI p) 200 a = some (ansX 200 j, v) := e1
  replace e3 : fX5_goneIn (nI t) (nI p) 200 m = some (nI j, mS' (mAsd' m b) s') := e3
  simp +decide only [cp, cv, ea, xAhd_xAhd', e1, e3, Option.bind_some, b2i_0, z32_0, z64_0, z32_1, z64_1, z32_2, z64_2, z32_3, z64_3, z32_4, z64_4, z32_5, z64_5, z32_6, z64_6, z32_7, z64_7, z32_60, z64_60, z32_100, z64_100, z32_999, z64_999, z32_9999, z64_9999, z32_999999, z64_999999, z32_m1, z64_m1, if_true, if_false, eq_self, Bool.true_eq_false, Bool.false_eq_true]
  exact orNone_same (N := 200) (h.look (hR.cong e4)) (by decide) (firstD_le e2)
-- nothing is there
theorem X_emptyL {k d : Nat} {u : St} (h : WF k d u) (hd : d ≤ 9999) : ∀ (i j n : Nat), i + j = 201 → i < n → (∀ q, q < j → ¬ setF (sWit (daysS k q u)) (-1) k = 0) → ∃ j2 v, lX1_daysTillEmpty_2 n 200 (nI j) (daysS k j u) = some (ansX 200 j2, v) ∧ FirstD (fun i => setF (sWit (daysS k i u)) (-1) k = 0) 200 j2 := by
  intro i
  induction i with
  | zero =>
    intro j n hk hn hq
    obtain ⟨n, rfl⟩ : ∃ q, n = q + 1 := ⟨n - 1, by omega⟩
    obtain rfl : j = 201 := by omega
    refine ⟨201, daysS k 201 u, ?_, Or.inr ⟨rfl, fun q hq2 => hq q (by omega)⟩⟩
    rw [lX1_daysTillEmpty_2_eq, if_pos (show (200 : Int32) < nI 201 from nI_lt (by decide) (by decide))]
    rfl
  | succ i ih =>
    intro j n hk hn hq
    obtain ⟨n, rfl⟩ : ∃ q, n = q + 1 := ⟨n - 1, by omega⟩
    have hwj := daysS_wf h j (by omega)
    have hs := setF_in (sWit (daysS k j u)) (-1) k h.k8
    rw [lX1_daysTillEmpty_2_eq, if_neg (show ¬ (200 : Int32) < nI j from nI_nlt (show j ≤ 200 by omega) (by decide)), X_count hwj]
    simp only [Option.bind_some]
    by_cases c : setF (sWit (daysS k j u)) (-1) k = 0
    · refine ⟨j, daysS k j u, ?_, Or.inl ⟨by omega, c, hq⟩⟩
      rw [if_pos ((bc_0 hs).mpr c)]; unfold ansX; rw [if_pos (by omega)]
    · rw [if_neg (fun z => c ((bc_0 hs).mp z)), (X_goDay hwj (by omega)).1, Option.bind_some, nI_1]
      exact ih (j + 1) n (by omega) (by omega) (fun q hq2 => by
        by_cases e : q = j
        · subst e; exact c
        · exact hq q (by omega))
theorem M_emptyL {k d : Nat} {u : St} (h : WF k d u) (hd : d ≤ 9999) : ∀ (i j n : Nat) (m : MS), i + j = 201 → i < n → Rel (daysS k j u) (mS m) → (∀ q, q < j → ¬ setF (sWit (daysS k q u)) (-1) k = 0) → ∃ j2 s', lX5_empty_6 n (nI j) m = ((fX5_orNone (nI j2) 200 (mS' m s')).bind fun q => some (q.1, q.2)) ∧ (∀ q, q < 69 → s' q = mAsd m q) ∧ FirstD (fun i => setF (sWit (daysS k i u)) (-1) k = 0) 200 j2 := by
  intro i
  induction i with
  | zero =>
    intro j n m hk hn hR hq
    obtain ⟨n, rfl⟩ : ∃ q, n = q + 1 := ⟨n - 1, by omega⟩
    obtain rfl : j = 201 := by omega
    obtain ⟨s', e1, e2⟩ := M_takesBack (nI 201) m
    refine ⟨201, s', ?_, e2, Or.inr ⟨rfl, fun q hq2 => hq q (by omega)⟩⟩
    rw [lX5_empty_6_eq, if_pos (show (200 : Int32) < nI 201 from nI_lt (by decide) (by decide)), e1, Option.bind_some]
  | succ i ih =>
    intro j n m hk hn hR hq
    obtain ⟨n, rfl⟩ : ∃ q, n = q + 1 := ⟨n - 1, by omega⟩
    have hwj := daysS_wf h j (by omega)
    rw [lX5_empty_6_eq, if_neg (show ¬ (200 : Int32) < nI j from nI_nlt (show j ≤ 200 by omega) (by decide)), M_there hwj hR]
    simp only [Option.bind_some]
    by_cases c : setF (sWit (daysS k j u)) (-1) k = 0
    · obtain ⟨s', e1, e2⟩ := M_takesBack (nI j) m
      refine ⟨j, s', ?_, e2, Or.inl ⟨by omega, c, hq⟩⟩
      rw [if_pos c, e1, Option.bind_some]
    · obtain ⟨s1, e1, e2⟩ := M_dayS hwj (by omega) hR
      rw [if_neg c, e1, Option.bind_some, nI_1]
      exact ih (j + 1) n (mS' m s1) (by omega) (by omega) e2 (fun q hq2 => by
        by_cases e : q = j
        · subst e; exact c
        · exact hq q (by omega))
theorem S_empty {x : XS} {m : MS} (h : Inv x m) : Same (fX4_empty x) (fX5_empty m) := by
  obtain ⟨k, d, hw, hd⟩ := h.1
  have hR := h.2.1
  have hk := hw.k8
  have hB := sf h fcB
  obtain ⟨a, ea, wa, ra⟩ := X_start x
  have hwa := wa k d hw
  have hra := ra _ hR
  obtain ⟨b, e1, e2⟩ := M_laysAside m
  obtain ⟨j, v, e3, e4⟩ := X_emptyL hwa hd 201 0 FU (by omega) (by rw [FU_eq]; omega) (fun q hq => absurd hq (Nat.not_lt_zero q))
  obtain ⟨j', s', e5, e6, e7⟩ := M_emptyL hwa hd 201 0 FU (mAsd' m b) (by omega) (by rw [FU_eq]; omega) hra (fun q hq => absurd hq (Nat.not_lt_zero q))
  obtain rfl := firstD_uniq e4 e7
  replace e3 : lX1_daysTillEmpty_2 FU 200 0 a = some (ansX 200 j, v) := e3
  replace e5 : lX5_empty_6 FU 0 (mAsd' m b) = ((fX5_orNone (nI j) 200 (mS' (mAsd' m b) s')).bind fun q => some (q.1, q.2)) := e5
  rw [fX4_empty_eq, fX5_empty_eq, ea, e1, Option.bind_some, Option.bind_some, e5, fX1_daysTillEmpty_eq, xAhd_xAhd', e3, Option.bind_some]
  exact orNone_same (N := 200) (h.look (hR.cong (fun q hq => (e6 q hq).trans (e2 q hq)))) (by decide) (firstD_le e4)
