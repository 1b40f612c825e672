-- IMAGES, COUNTS, THE TAPE
theorem M_imageL : ∀ (i j n : Nat) (m : MS), i + j = 69 → i < n → (∀ q, q < j → mKpt m q = mS m q) → ∃ a', lX5_image_2 n (nI j) m = some (1, mIsK' (mKpt' m a') 1) ∧ ∀ q, q < 69 → a' q = mS m q := by
  intro i
  induction i with
  | zero =>
    intro j n m hk hn hq
    obtain ⟨n, rfl⟩ : ∃ q, n = q + 1 := ⟨n - 1, by omega⟩
    obtain rfl : j = 69 := by omega
    exact ⟨mKpt m, by rw [lX5_image_2_eq, if_pos (by decide)]; rfl, hq⟩
  | succ i ih =>
    intro j n m hk hn hq
    obtain ⟨n, rfl⟩ : ∃ q, n = q + 1 := ⟨n - 1, by omega⟩
    have hj : j < 69 := by omega
    rw [lX5_image_2_eq, if_neg (by rw [show (69 : Int32) = nI 69 from rfl]; exact nI_ge hj (by decide))]
    simp only [if_neg (ix' hj), cl (show j < 2 ^ 31 by omega), nI_1]
    obtain ⟨a', e1, e2⟩ := ih (j + 1) n (mKpt' m (upd (mKpt m) j (mS m j))) (by omega) (by omega) (fun q hq2 => by
      show upd (mKpt m) j (mS m j) q = mS m q
      rw [upd_at]
      by_cases e : q = j
      · rw [if_pos e, e]
      · rw [if_neg e]; exact hq q (by omega))
    exact ⟨a', e1, e2⟩
theorem S_image {x : XS} {m : MS} (h : Inv x m) : Same (fX4_image x) (fX5_image m) := by
  obtain ⟨c, e1, h1, h2⟩ := X_become (xKpt x) (xRoom x)
  obtain ⟨a', e2, e3⟩ := M_imageL 69 0 FU m (by omega) (by rw [FU_eq]; omega) (fun q hq => absurd hq (Nat.not_lt_zero q))
  refine ⟨1, xIsK' (xKpt' x c) 1, mIsK' (mKpt' m a') 1, ?_, ?_, ?_⟩
  · rw [fX4_image_eq, e1]; rfl
  · rw [fX5_image_eq]; exact e2
  · obtain ⟨k, d, hw, hd⟩ := h.1
    exact ⟨h.1, h.2.1, Or.inr ⟨rfl, rfl, ⟨k, d, h1 k d hw, hd⟩, h2 _ (h.2.1.cong e3)⟩, h.2.2.2⟩
theorem M_undoL : ∀ (i j n : Nat) (m : MS), i + j = 69 → i < n → (∀ q, q < j → mS m q = mKpt m q) → ∃ s', lX5_undo_16 n (nI j) m = some (s' 0, mS' m s') ∧ ∀ q, q < 69 → s' q = mKpt m q := by
  intro i
  induction i with
  | zero =>
    intro j n m hk hn hq
    obtain ⟨n, rfl⟩ : ∃ q, n = q + 1 := ⟨n - 1, by omega⟩
    obtain rfl : j = 69 := by omega
    exact ⟨mS m, by rw [lX5_undo_16_eq, if_pos (by decide)]; rfl, hq⟩
  | succ i ih =>
    intro j n m hk hn hq
    obtain ⟨n, rfl⟩ : ∃ q, n = q + 1 := ⟨n - 1, by omega⟩
    have hj : j < 69 := by omega
    rw [lX5_undo_16_eq, if_neg (by rw [show (69 : Int32) = nI 69 from rfl]; exact nI_ge hj (by decide))]
    simp only [if_neg (ix' hj), cl (show j < 2 ^ 31 by omega), nI_1]
    obtain ⟨a', e1, e2⟩ := ih (j + 1) n (mS' m (upd (mS m) j (mKpt m j))) (by omega) (by omega) (fun q hq2 => by
      show upd (mS m) j (mKpt m j) q = mKpt m q
      rw [upd_at]
      by_cases e : q = j
      · rw [if_pos e, e]
      · rw [if_neg e]; exact hq q (by omega))
    exact ⟨a', e1, e2⟩
theorem S_undo {x : XS} {m : MS} (h : Inv x m) : Same (fX4_undo x) (fX5_undo m) := by
  have hN := sf h fcN
  rw [fX4_undo_eq, fX5_undo_eq]
  rcases h.2.2.1 with ⟨k1, k2⟩ | ⟨k1, k2, k3, k4⟩
  · rw [if_pos k1, if_pos k2]; exact hN
  · obtain ⟨c, e1, h1, h2⟩ := X_become (xRoom x) (xKpt x)
    obtain ⟨s', e2, e3⟩ := M_undoL 69 0 FU m (by omega) (by rw [FU_eq]; omega) (fun q hq => absurd hq (Nat.not_lt_zero q))
    replace e2 : lX5_undo_16 FU 0 m = some (s' 0, mS' m s') := e2
    have hr : Rel c s' := (h2 _ k4).cong e3
    rw [if_neg (by rw [k1]; decide), if_neg (by rw [k2]; decide), e1, e2, Option.bind_some, hr.1]
    obtain ⟨k, d, hw, hd⟩ := k3
    exact same_of (x' := xKpt' (xRoom' x c) (xKpt x)) ⟨⟨k, d, h1 k d hw, hd⟩, hr, h.2.2⟩
theorem S_tear {x : XS} {m : MS} (h : Inv x m) : Same (fX4_tear x) (fX5_tear m) := by
  have hI : Inv (xIsK' x 0) (mIsK' m 0) := ⟨h.1, h.2.1, Or.inl ⟨rfl, rfl⟩, h.2.2.2⟩
  rw [fX4_tear_eq, fX5_tear_eq]
  rcases h.2.2.1 with ⟨k1, k2⟩ | ⟨k1, k2, k3, k4⟩
  · rw [if_pos k1, if_pos k2]; exact same_of hI
  · rw [if_neg (by rw [k1]; decide), if_neg (by rw [k2]; decide)]; exact same_of hI
theorem S_count {x : XS} {m : MS} (h : Inv x m) (a0 : Int32) : Same (fX4_count a0 x) (fX5_count a0 m) := by
  obtain ⟨k, d, hw, hd⟩ := h.1
  have hR := h.2.1
  have hk := hw.k8
  have hB := sf h fcB
  obtain ⟨n, hn, t1, t2, -⟩ := h.2.2.2.2.1
  have hs := setF_in (sWit (xRoom x)) (-1) k hk
  rw [fX4_count_eq, fX5_count_eq]
  by_cases c0 : a0 = 0
  · rw [if_pos c0, if_pos c0, hR.1]; exact same_of h
  by_cases c1 : a0 = 1
  · rw [if_neg c0, if_neg c0, if_pos c1, if_pos c1, t1, t2]; exact same_of h
  by_cases c2 : a0 = 2
  · rw [if_neg c0, if_neg c0, if_neg c1, if_neg c1, if_pos c2, if_pos c2, X_count hw, M_there hw hR, Option.bind_some, Option.bind_some, M_ones hs]; exact same_of h
  by_cases c3 : a0 = 3
  · rw [if_neg c0, if_neg c0, if_neg c1, if_neg c1, if_neg c2, if_neg c2, if_pos c3, if_pos c3, X_worthOfAll hw, M_worths hw hR]; exact same_of h
  · rw [if_neg c0, if_neg c0, if_neg c1, if_neg c1, if_neg c2, if_neg c2, if_neg c3, if_neg c3]; exact hB
def stF (f : F32) : Nat → Int32
  | 0 => 0
  | j + 1 => stF f j + f j
theorem X_stL {x : XS} : ∀ (i j n : Nat), i + j = 7 → i < n → lX4_status_32 n (stF (xFnd x) j) (nI j) x = some (stF (xFnd x) 7, x) := by
  intro i
  induction i with
  | zero =>
    intro j n hk hn
    obtain ⟨n, rfl⟩ : ∃ q, n = q + 1 := ⟨n - 1, by omega⟩
    obtain rfl : j = 7 := by omega
    rw [lX4_status_32_eq, if_pos (by decide)]
  | succ i ih =>
    intro j n hk hn
    obtain ⟨n, rfl⟩ : ∃ q, n = q + 1 := ⟨n - 1, by omega⟩
    rw [lX4_status_32_eq, if_neg (show ¬ (7 : Int32) ≤ nI j from nI_ge (show j < 7 by omega) (by decide)), if_neg (ix (show j < 7 by omega)), cl (by omega), nI_1]
    exact ih (j + 1) n (by omega) (by omega)
theorem M_stL {m : MS} {w : Int32} (hw : w < 0) : ∀ (i j n : Nat), i + j = 7 → i < n → lX5_status_25 n w (stF (mSts m) j) (nI j) m = some (stF (mSts m) 7, m) := by
  intro i
  induction i with
  | zero =>
    intro j n hk hn
    obtain ⟨n, rfl⟩ : ∃ q, n = q + 1 := ⟨n - 1, by omega⟩
    obtain rfl : j = 7 := by omega
    rw [lX5_status_25_eq, if_pos (by decide)]
  | succ i ih =>
    intro j n hk hn
    obtain ⟨n, rfl⟩ : ∃ q, n = q + 1 := ⟨n - 1, by omega⟩
    rw [lX5_status_25_eq, if_neg (show ¬ (7 : Int32) ≤ nI j from nI_ge (show j < 7 by omega) (by decide)), if_pos hw, if_neg (ix (show j < 7 by omega)), cl (by omega), nI_1]
    exact ih (j + 1) n (by omega) (by omega)
theorem M_st1L {m : MS} {w : Nat} (hw : w < 7) : ∀ (i j n : Nat), i + j = 7 → i < n → lX5_status_25 n (nI w) (if w < j then mSts m w else 0) (nI j) m = some (mSts m w, m) := by
  intro i
  induction i with
  | zero =>
    intro j n hk hn
    obtain ⟨n, rfl⟩ : ∃ q, n = q + 1 := ⟨n - 1, by omega⟩
    obtain rfl : j = 7 := by omega
    rw [lX5_status_25_eq, if_pos (show (7 : Int32) ≤ nI 7 by decide), if_pos hw]
  | succ i ih =>
    intro j n hk hn
    obtain ⟨n, rfl⟩ : ∃ q, n = q + 1 := ⟨n - 1, by omega⟩
    have ihh := ih (j + 1) n (by omega) (by omega)
    rw [lX5_status_25_eq, if_neg (show ¬ (7 : Int32) ≤ nI j from nI_ge (show j < 7 by omega) (by decide)), if_neg (nI_pos (show w < 2 ^ 31 by omega)), nI_1]
    by_cases c : j = w
    · subst c
      rw [if_pos rfl, if_neg (ix (show j < 7 by omega)), cl (by omega), if_neg (Nat.lt_irrefl j), Int32.zero_add]
      rw [if_pos (Nat.lt_succ_self j)] at ihh
      exact ihh
    · rw [if_neg (fun z => c ((nI_eq (by omega) (by omega)).mp z)), Int32.add_zero]
      by_cases c2 : w < j
      · rw [if_pos c2]
        rw [if_pos (show w < j + 1 by omega)] at ihh
        exact ihh
      · rw [if_neg c2]
        rw [if_neg (show ¬ w < j + 1 by omega)] at ihh
        exact ihh
theorem stF_same {f g : F32} (h : ∀ q, q < 7 → f q = g q) : ∀ j, j ≤ 7 → stF f j = stF g j
  | 0, _ => rfl
  | j + 1, hj => by
    show stF f j + f j = stF g j + g j
    rw [stF_same h j (by omega), h j (by omega)]
theorem S_status {x : XS} {m : MS} (h : Inv x m) (a0 : Int32) : Same (fX4_status a0 x) (fX5_status a0 m) := by
  obtain ⟨k, d, hw, hd⟩ := h.1
  have hR := h.2.1
  have hk := hw.k8
  have hB := sf h fcB
  have hf := h.2.2.2.1
  rw [fX4_status_eq, fX5_status_eq]
  simp +decide only [X_within, M_in, Option.bind_some, b2i_0, z32_0, z64_0, z32_1, z64_1, z32_2, z64_2, z32_3, z64_3, z32_4, z64_4, z32_5, z64_5, z32_6, z64_6, z32_7, z64_7, z32_60, z64_60, z32_100, z64_100, z32_999, z64_999, z32_9999, z64_9999, z32_999999, z64_999999, z32_m1, z64_m1, if_true, if_false, eq_self, Bool.true_eq_false, Bool.false_eq_true]
  rcases bool_cases (inB a0 (-1) 6) with cp | cp
  · simp +decide only [cp, if_true, if_false, eq_self, Bool.true_eq_false, Bool.false_eq_true]; exact hB
  simp +decide only [cp, if_true, if_false, eq_self, Bool.true_eq_false, Bool.false_eq_true]
  by_cases c : a0 < 0
  · rw [if_pos c]
    have e1 := X_stL (x := x) 7 0 FU (by omega) (by rw [FU_eq]; omega)
    have e2 := M_stL (m := m) c 7 0 FU (by omega) (by rw [FU_eq]; omega)
    rw [show lX4_status_32 FU 0 0 x = some (stF (xFnd x) 7, x) from e1, show lX5_status_25 FU a0 0 0 m = some (stF (mSts m) 7, m) from e2, stF_same hf 7 (by omega)]
    exact same_of h
  · obtain ⟨w, hw2, rfl, ew⟩ := nat_of (a := a0) (by
      have := mt (fa_lt a0 0).mpr c
      rw [z32_0] at this
      omega)
    have hw7 : w < 7 := by
      have := (inB_int cp).2
      rw [ew] at this
      omega
    have e2 := M_st1L (m := m) hw7 7 0 FU (by omega) (by rw [FU_eq]; omega)
    rw [if_neg (Nat.not_lt_zero w)] at e2
    rw [if_neg c, if_neg (ix hw7), cl (by omega), show lX5_status_25 FU (nI w) 0 0 m = some (mSts m w, m) from e2, hf w hw7]
    exact same_of h
theorem byte_and (z : Int32) : (z &&& 255).toInt8 = z.toInt8 := by
  apply Int8.toBitVec_inj.1
  rw [Int32.toBitVec_toInt8, Int32.toBitVec_toInt8, Int32.toBitVec_and]
  rw [BitVec.signExtend_eq_setWidth_of_le _ (by decide), BitVec.signExtend_eq_setWidth_of_le _ (by decide), BitVec.setWidth_and]
  have e : (BitVec.setWidth 8 (255 : Int32).toBitVec) = BitVec.allOnes 8 := by decide
  rw [e, BitVec.and_allOnes]
theorem feedL (y : Int32) : ∀ (i n n' : Nat) (x : XS) (m : MS), Inv x m → (∃ l, l + i ≤ 120 ∧ tLen (xTape x) = nI l) → i < n → i < n' → i ≤ 4 → Same (lX4_feed_41 n y (dI i) x) (lX5_feed_41 n' y (dI i) m) := by
  intro i
  induction i with
  | zero =>
    intro n n' x m h hl hn hn' hi
    obtain ⟨n, rfl⟩ : ∃ q, n = q + 1 := ⟨n - 1, by omega⟩
    obtain ⟨n', rfl⟩ : ∃ q, n' = q + 1 := ⟨n' - 1, by omega⟩
    obtain ⟨l, _, t1, t2, -⟩ := h.2.2.2.2.1
    rw [lX4_feed_41_eq, lX5_feed_41_eq, if_pos (show dI 0 < 0 by decide), if_pos (show dI 0 < 0 by decide), t1, t2]
    exact same_of h
  | succ i ih =>
    intro n n' x m h hl hn hn' hi
    obtain ⟨n, rfl⟩ : ∃ q, n = q + 1 := ⟨n - 1, by omega⟩
    obtain ⟨n', rfl⟩ : ∃ q, n' = q + 1 := ⟨n' - 1, by omega⟩
    obtain ⟨l, hl120, t1, t2, t3⟩ := h.2.2.2.2.1
    obtain ⟨l', hl', tl⟩ := hl
    obtain rfl : l' = l := (nI_eq (by omega) (by omega)).mp (tl.symm.trans t1)
    have hlt : l' < 120 := by omega
    have hz : ¬ dI (i + 1) < 0 := nI_pos (show i < 2 ^ 31 by omega)
    rw [lX4_feed_41_eq, lX5_feed_41_eq, if_neg hz, if_neg hz, fX2_add_eq, t1, t2, if_neg (ix hlt), if_neg (ix hlt), cl (by omega), Option.bind_some, nI_1, show dI (i + 1) = nI i from rfl, dI_dec, pk_vb]
    refine ih n n' _ _ ⟨h.1, h.2.1, h.2.2.1, h.2.2.2.1, ⟨l' + 1, by omega, rfl, rfl, fun q hq => ?_⟩, h.2.2.2.2.2⟩ ⟨l' + 1, by omega, rfl⟩ (by omega) (by omega) (by omega)
    generalize y >>> ((8 * nI i) &&& 31) = z
    obtain ⟨b, hb, eb⟩ := pk_andE z (m := 255) 8 (by decide)
    show ∃ b', b' ≤ 255 ∧ upd (mTape m) l' (z &&& 255) q = nI b' ∧ upd (tByt (xTape x)) l' z.toInt8.toInt32 q = (nI b').toInt8.toInt32
    by_cases c : q = l'
    · refine ⟨b, by omega, ?_, ?_⟩
      · rw [upd_at, if_pos c]; exact eb
      · rw [upd_at, if_pos c, ← eb, byte_and]
    · rw [upd_at, if_neg c, upd_at, if_neg c]
      exact t3 q (by omega)
theorem S_feed {x : XS} {m : MS} (h : Inv x m) (a0 a1 : Int32) : Same (fX4_feed a0 a1 x) (fX5_feed a0 a1 m) := by
  obtain ⟨k, d, hw, hd⟩ := h.1
  have hR := h.2.1
  have hk := hw.k8
  have hB := sf h fcB
  have hF := sf h fcF
  rw [fX4_feed_eq, fX5_feed_eq]
  simp +decide only [X_within, M_in, show (4 : Int32).toInt = 4 from rfl, Option.bind_some, b2i_0, z32_0, z64_0, z32_1, z64_1, z32_2, z64_2, z32_3, z64_3, z32_4, z64_4, z32_5, z64_5, z32_6, z64_6, z32_7, z64_7, z32_60, z64_60, z32_100, z64_100, z32_999, z64_999, z32_9999, z64_9999, z32_999999, z64_999999, z32_m1, z64_m1, if_true, if_false, eq_self, Bool.true_eq_false, Bool.false_eq_true]
  rcases bool_cases (inB a1 1 4) with cp | cp
  · simp +decide only [cp, if_true, if_false, eq_self, Bool.true_eq_false, Bool.false_eq_true]; exact hB
  obtain ⟨n, hn1, hn, rfl⟩ := inB_nat (L := 1) (N := 4) cp
  obtain ⟨l, hl, t1, t2, -⟩ := h.2.2.2.2.1
  simp +decide only [cp, if_true, if_false, eq_self, Bool.true_eq_false, Bool.false_eq_true]
  rw [t1, t2, nI_add]
  by_cases c : l + n ≤ 120
  · have c1 : nI (l + n) ≤ (120 : Int32) := nI_le c (by decide)
    rw [if_pos c1, if_pos c1]
    obtain ⟨i, rfl⟩ : ∃ i, n = i + 1 := ⟨n - 1, by omega⟩
    rw [nI_pred]
    exact feedL a0 (i + 1) FU FU x m h ⟨l, c, t1⟩ (by rw [FU_eq]; omega) (by rw [FU_eq]; omega) hn
  · have c1 : ¬ nI (l + n) ≤ (120 : Int32) := nI_ge (show 120 < l + n by omega) (by omega)
    rw [if_neg c1, if_neg c1]
    exact hF
theorem S_wipe {x : XS} {m : MS} (h : Inv x m) : Same (fX4_wipe x) (fX5_wipe m) := by
  obtain ⟨l, hl, t1, t2, -⟩ := h.2.2.2.2.1
  rw [fX4_wipe_eq, fX5_wipe_eq, t1, t2]
  exact same_of ⟨h.1, h.2.1, h.2.2.1, h.2.2.2.1, ⟨0, by omega, rfl, rfl, fun q hq => absurd hq (Nat.not_lt_zero q)⟩, h.2.2.2.2.2⟩
