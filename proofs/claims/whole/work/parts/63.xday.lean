-- THE SALE
def offS (v : St) (t p : Nat) : Int32 := if nI p = sLbl v t then 0 else bidS v t p
def hbF (v : St) (t : Nat) : Nat → Int32 × Int32
  | 0 => (-1, 0)
  | p + 1 => if offS v t p ≤ (hbF v t p).2 then hbF v t p else (nI p, offS v t p)
theorem X_hbL {u : St} {t : Nat} (ht : t < 8) : ∀ (i j n : Nat), i + j = 6 → i < n → lX1_highestBidder_7 n (nI t) (hbF u t j).1 (hbF u t j).2 (nI j) u = some ((hbF u t 6).1, u) := by
  intro i
  induction i with
  | zero =>
    intro j n hk hn
    obtain ⟨n, rfl⟩ : ∃ q, n = q + 1 := ⟨n - 1, by omega⟩
    obtain rfl : j = 6 := by omega
    rw [lX1_highestBidder_7_eq, if_pos (by decide)]
  | succ i ih =>
    intro j n hk hn
    obtain ⟨n, rfl⟩ : ∃ q, n = q + 1 := ⟨n - 1, by omega⟩
    have hj : j < 6 := by omega
    rw [lX1_highestBidder_7_eq, if_neg (by rw [show (6 : Int32) = nI 6 from rfl]; exact nI_ge hj (by decide))]
    simp only [if_neg (ix' ht), cl (show t < 2 ^ 31 by omega), nI_1, X_offerOf ht hj, Option.bind_some]
    have ihh := ih (j + 1) n (by omega) (by omega)
    have e : hbF u t (j + 1) = if offS u t j ≤ (hbF u t j).2 then hbF u t j else (nI j, offS u t j) := rfl
    rw [e] at ihh
    unfold offS at ihh
    by_cases c1 : nI j = sLbl u t
    · rw [if_pos c1] at ihh ⊢
      by_cases c2 : (0 : Int32) ≤ (hbF u t j).2
      · rw [if_pos c2] at ihh ⊢; exact ihh
      · rw [if_neg c2] at ihh ⊢; exact ihh
    · rw [if_neg c1] at ihh ⊢
      by_cases c2 : bidS u t j ≤ (hbF u t j).2
      · rw [if_pos c2] at ihh ⊢; exact ihh
      · rw [if_neg c2] at ihh ⊢; exact ihh
theorem X_highestBidder {u : St} {t : Nat} (ht : t < 8) : fX1_highestBidder (nI t) u = some ((hbF u t 6).1, u) := by
  rw [fX1_highestBidder_eq]
  exact X_hbL ht 6 0 FU (by omega) (by rw [FU_eq]; omega)
theorem hb_who {u : St} {t : Nat} : ∀ j, 0 ≤ ((hbF u t j).2).toInt ∧ ((hbF u t j).1 = -1 ∨ ∃ q, q < j ∧ (hbF u t j).1 = nI q ∧ (hbF u t j).2 = bidS u t q)
  | 0 => ⟨by show (0 : Int) ≤ (0 : Int32).toInt; decide, Or.inl rfl⟩
  | j + 1 => by
    obtain ⟨h0, h1⟩ := hb_who (u := u) (t := t) j
    have e : hbF u t (j + 1) = if offS u t j ≤ (hbF u t j).2 then hbF u t j else (nI j, offS u t j) := rfl
    rw [e]
    by_cases c : offS u t j ≤ (hbF u t j).2
    · rw [if_pos c]
      refine ⟨h0, ?_⟩
      rcases h1 with h1 | ⟨q, a, b⟩
      · exact Or.inl h1
      · exact Or.inr ⟨q, by omega, b⟩
    · rw [if_neg c]
      have c' : ¬ (offS u t j).toInt ≤ ((hbF u t j).2).toInt := fun z => c ((fa_le _ _).mpr z)
      refine ⟨by show (0 : Int) ≤ (offS u t j).toInt; omega, Or.inr ⟨j, by omega, rfl, ?_⟩⟩
      show offS u t j = bidS u t j
      unfold offS
      split
      · rename_i c1
        exfalso
        unfold offS at c'
        rw [if_pos c1] at c'
        have : (0 : Int32).toInt = 0 := rfl
        omega
      · rfl
theorem min_le {a b : Int32} : (minS a b).toInt ≤ a.toInt := by
  unfold minS
  split
  · rename_i h
    have := (fa_lt b a).mp h
    omega
  · exact Int.le_refl _
theorem bid_le {k d : Nat} {u : St} (h : WF k d u) {t p : Nat} (hp : p < 6) : (bidS u t p).toInt ≤ (sMns u p).toInt := by
  have hm := (h.p hp).1.int (by decide)
  unfold bidS
  have e0 : (0 : Int32).toInt = 0 := rfl
  split
  · exact min_le
  split
  · exact min_le
  split
  · rw [e0]; exact hm.1
  split
  · exact min_le
  split
  · exact min_le
  · exact min_le
def bodySale (v : St) (t : Nat) : St := if (thereS v t && sellS v t) = true then (if (hbF v t 6).1 < 0 then v else handS v t (hbF v t 6).1.toNatClampNeg (hbF v t 6).2) else v
theorem bodySale_def (v : St) (t : Nat) : bodySale v t = if (thereS v t && sellS v t) = true then (if (hbF v t 6).1 < 0 then v else handS v t (hbF v t 6).1.toNatClampNeg (hbF v t 6).2) else v := rfl
theorem bodySale_wf {k d : Nat} {u : St} (h : WF k d u) {t : Nat} : WF k d (bodySale u t) := by
  unfold bodySale
  split
  · obtain ⟨h0, h1⟩ := hb_who (u := u) (t := t) 6
    rcases h1 with h1 | ⟨q, a, b, e⟩
    · rw [h1, if_pos (by decide)]; exact h
    · rw [b, if_neg (nI_pos (by omega)), cl (by omega)]
      exact hand_wf h a h0 (by rw [e]; exact bid_le h a)
  · exact h
theorem X_saleL {k d : Nat} {u : St} (h : WF k d u) : ∀ (i j n : Nat), i + j = k → i < n → lX1_holdSale_2 n (nI j) (foldS bodySale j u) = some (foldS bodySale k u) := by
  intro i
  induction i with
  | zero =>
    intro j n hk hn
    obtain ⟨n, rfl⟩ : ∃ q, n = q + 1 := ⟨n - 1, by omega⟩
    have hw := foldS_wf (b := bodySale) (N := k) (fun v t hv ht => bodySale_wf hv) h j (by omega)
    rw [lX1_holdSale_2_eq, hw.2.2.1, if_pos (nI_le (by omega) (by have := h.k8; omega)), show j = k by omega]
  | succ i ih =>
    intro j n hk hn
    obtain ⟨n, rfl⟩ : ∃ q, n = q + 1 := ⟨n - 1, by omega⟩
    have hw := foldS_wf (b := bodySale) (N := k) (fun v t hv ht => bodySale_wf hv) h j (by omega)
    have hj : j < k := by omega
    have hj8 : j < 8 := by have := h.k8; omega
    rw [lX1_holdSale_2_eq, hw.2.2.1, if_neg (nI_ge hj (by have := h.k8; omega)), X_isThere hj8]
    simp only [Option.bind_some, b2i_0, X_maySell hj8, X_highestBidder hj8, nI_1]
    have ihh := ih (j + 1) n (by omega) (by omega)
    have e : foldS bodySale (j + 1) u = bodySale (foldS bodySale j u) j := rfl
    rw [e] at ihh
    generalize foldS bodySale j u = v at ihh hw ⊢
    rw [bodySale_def] at ihh
    cases c1 : thereS v j
    · rw [c1] at ihh; simpa using ihh
    · cases c2 : sellS v j
      · rw [c1, c2] at ihh; simpa using ihh
      · rw [c1, c2] at ihh
        obtain ⟨h0, h1⟩ := hb_who (u := v) (t := j) 6
        rcases h1 with h1 | ⟨q, a, b, e9⟩
        · rw [h1] at ihh ⊢
          have hneg : (-1 : Int32) < 0 := by decide
          simpa [hneg] using ihh
        · rw [b, if_neg (nI_pos (by omega)), cl (by omega), e9] at ihh
          rw [b, if_neg (nI_pos (by omega)), X_offerOf hj8 a]
          simp only [Option.bind_some, X_handOver hj8 a, Bool.true_eq_false, if_false]
          simpa using ihh
def saleAll (k : Nat) (u : St) : St := foldS bodySale k u
theorem X_saleAll {k d : Nat} {u : St} (h : WF k d u) : fX1_holdSale u = some (saleAll k u) := by
  rw [fX1_holdSale_eq]
  exact X_saleL h k 0 FU (by omega) (by rw [FU_eq]; have := h.k8; omega)
theorem saleAll_wf {k d : Nat} {u : St} (h : WF k d u) : WF k d (saleAll k u) := foldS_wf (N := k) (fun v t hv _ => bodySale_wf hv) h k (Nat.le_refl k)
-- THE CALLS, thing by thing
def bitS (v : St) (j : Nat) : Int32 := (1 : Int32) <<< (sLbl v j &&& 31)
def callF : Nat → St → Int32 × St
  | 0, u => (0, u)
  | j + 1, u => if (callF j u).1 &&& bitS (callF j u).2 j = 0 then (if canS (callF j u).2 j = true then ((callF j u).1 ||| bitS (callF j u).2 j, handS (callF j u).2 j (lbN (callF j u).2 j) (sDue (callF j u).2 j)) else callF j u) else callF j u
theorem callF_wf {k d : Nat} {u : St} (h : WF k d u) : ∀ j, j ≤ k → WF k d (callF j u).2
  | 0, _ => h
  | j + 1, hj => by
    have ih := callF_wf h j (by omega)
    unfold callF
    split
    · split
      · rename_i c
        exact call_wf ih (by omega) c
      · exact ih
    · exact ih
theorem X_callL {k d : Nat} {u : St} (h : WF k d u) : ∀ (i j n : Nat), i + j = k → i < n → lX1_callForOneEach_4 n (callF j u).1 (nI j) (callF j u).2 = some (callF k u).2 := by
  intro i
  induction i with
  | zero =>
    intro j n hk hn
    obtain ⟨n, rfl⟩ : ∃ q, n = q + 1 := ⟨n - 1, by omega⟩
    have hw := callF_wf h j (by omega)
    rw [lX1_callForOneEach_4_eq, hw.2.2.1, if_pos (nI_le (by omega) (by have := h.k8; omega)), show j = k by omega]
  | succ i ih =>
    intro j n hk hn
    obtain ⟨n, rfl⟩ : ∃ q, n = q + 1 := ⟨n - 1, by omega⟩
    have hw := callF_wf h j (by omega)
    have hj : j < k := by omega
    have hj8 : j < 8 := by have := h.k8; omega
    have hl := hw.lb hj
    rw [lX1_callForOneEach_4_eq, hw.2.2.1, if_neg (nI_ge hj (by have := h.k8; omega))]
    simp only [Option.bind_some, b2i_0, X_canBeCalled hj8 hl, if_neg (ix' hj8), cl (show j < 2 ^ 31 by omega), nI_1]
    have ihh := ih (j + 1) n (by omega) (by omega)
    rw [show callF (j + 1) u = if (callF j u).1 &&& bitS (callF j u).2 j = 0 then (if canS (callF j u).2 j = true then ((callF j u).1 ||| bitS (callF j u).2 j, handS (callF j u).2 j (lbN (callF j u).2 j) (sDue (callF j u).2 j)) else callF j u) else callF j u from rfl] at ihh
    generalize callF j u = q at ihh hw hl ⊢
    obtain ⟨c, v⟩ := q
    simp only at ihh hw hl ⊢
    show (if c &&& bitS v j = 0 then _ else _) = _
    by_cases c1 : c &&& bitS v j = 0
    · rw [if_pos c1] at ihh ⊢
      cases c2 : canS v j
      · rw [c2] at ihh; simpa using ihh
      · rw [c2] at ihh
        rw [hl.2, X_handOver hj8 hl.1, ← hl.2]
        simp only [Option.bind_some, Bool.true_eq_false, if_false]
        simpa [bitS] using ihh
    · rw [if_neg c1] at ihh ⊢
      exact ihh
def callAll (k : Nat) (u : St) : St := (callF k u).2
theorem X_callAll {k d : Nat} {u : St} (h : WF k d u) : fX1_callForOneEach u = some (callAll k u) := by
  rw [fX1_callForOneEach_eq]
  exact X_callL h k 0 FU (by omega) (by rw [FU_eq]; have := h.k8; omega)
theorem callAll_wf {k d : Nat} {u : St} (h : WF k d u) : WF k d (callAll k u) := callF_wf h k (Nat.le_refl k)
-- A DAY
def dayS (k : Nat) (u : St) : St :=
  if ((sDay (callAll k (earnAll (mountAll k u))) + 1) - (sDay (callAll k (earnAll (mountAll k u))) + 1) / 7 * 7) = 0 then saleAll k (sDay' (callAll k (earnAll (mountAll k u))) (sDay (callAll k (earnAll (mountAll k u))) + 1)) else sDay' (callAll k (earnAll (mountAll k u))) (sDay (callAll k (earnAll (mountAll k u))) + 1)
theorem WF.next {k d : Nat} {u : St} (h : WF k d u) (hd : d < 20000) : WF k (d + 1) (sDay' u (sDay u + 1)) := by
  obtain ⟨h1, h2, h3, h4, h5, h6, h7⟩ := h
  refine ⟨h1, by omega, h3, ?_, h5, h6, fun t ht => ?_⟩
  · show sDay u + 1 = _
    rw [h4, nI_1]
  · obtain ⟨g1, g2, g3, g4⟩ := h7 t ht
    exact ⟨g1, g2, g3.mono (by omega), g4⟩
theorem X_goDay {k d : Nat} {u : St} (h : WF k d u) (hd : d < 20000) : fX1_goDay u = some (dayS k u) ∧ WF k (d + 1) (dayS k u) := by
  have h1 := mountAll_wf h
  have h2 := earnAll_wf h1
  have h3 := callAll_wf h2
  have h4 := h3.next hd
  rw [fX1_goDay_eq, X_mountAll h, Option.bind_some, X_earnAll, Option.bind_some, X_callAll h2, Option.bind_some]
  unfold dayS
  split
  · rw [X_saleAll h4]
    exact ⟨rfl, saleAll_wf h4⟩
  · exact ⟨rfl, h4⟩
def daysS (k : Nat) : Nat → St → St
  | 0, u => u
  | n + 1, u => dayS k (daysS k n u)
theorem daysS_wf {k d : Nat} {u : St} (h : WF k d u) : ∀ n, d + n ≤ 20000 → WF k (d + n) (daysS k n u)
  | 0, _ => h
  | n + 1, hn => (X_goDay (daysS_wf h n (by omega)) (by omega)).2
theorem X_daysL {k d N : Nat} {u : St} (h : WF k d u) (hN : d + N ≤ 20000) : ∀ (i j n : Nat), i + j = N → i < n → lX1_goDays_2 n (nI N) (nI j) (daysS k j u) = some (daysS k N u) := by
  intro i
  induction i with
  | zero =>
    intro j n hk hn
    obtain ⟨n, rfl⟩ : ∃ q, n = q + 1 := ⟨n - 1, by omega⟩
    rw [lX1_goDays_2_eq, if_pos (nI_le (by omega) (by omega)), show j = N by omega]
  | succ i ih =>
    intro j n hk hn
    obtain ⟨n, rfl⟩ : ∃ q, n = q + 1 := ⟨n - 1, by omega⟩
    rw [lX1_goDays_2_eq, if_neg (nI_ge (by omega) (by omega)), (X_goDay (daysS_wf h j (by omega)) (by omega)).1, Option.bind_some, nI_1]
    exact ih (j + 1) n (by omega) (by omega)
theorem X_goDays {k d N : Nat} {u : St} (h : WF k d u) (hN : d + N ≤ 20000) (hN2 : N < 2000) : fX1_goDays (nI N) u = some (daysS k N u) := by
  rw [fX1_goDays_eq]
  exact X_daysL h hN N 0 FU (by omega) (by rw [FU_eq]; omega)
