-- SHEETS
theorem four {s : Nat} (h : s < 4) : s = 0 ∨ s = 1 ∨ s = 2 ∨ s = 3 := by omega
def xShS (x : XS) (s : Nat) (u : Sh) : XS := if s = 0 then xS0' x u else if s = 1 then xS1' x u else if s = 2 then xS2' x u else xS3' x u
theorem xSh_S (x : XS) (u : Sh) {s r : Nat} (hs : s < 4) (hr : r < 4) : xSh (xShS x s u) r = if r = s then u else xSh x r := by
  rcases four hs with rfl | rfl | rfl | rfl <;> rcases four hr with rfl | rfl | rfl | rfl <;> rfl
theorem xShS_eta (x : XS) {s : Nat} (hs : s < 4) : xShS x s (xSh x s) = x := by
  rcases four hs with rfl | rfl | rfl | rfl <;> rfl
theorem xShS_ahd (x : XS) (a : St) (u : Sh) {s : Nat} (hs : s < 4) : xAhd (xShS (xAhd' x a) s u) = a := by
  rcases four hs with rfl | rfl | rfl | rfl <;> rfl
theorem xSh_ahd (x : XS) (a : St) (s : Nat) : xSh (xAhd' x a) s = xSh x s := rfl
theorem xSh_room (x : XS) (a : St) (s : Nat) : xSh (xRoom' x a) s = xSh x s := rfl
def RestX (x x' : XS) : Prop := xRoom x' = xRoom x ∧ xKpt x' = xKpt x ∧ xIsK x' = xIsK x ∧ xFnd x' = xFnd x ∧ xTape x' = xTape x
def RestM (m m' : MS) : Prop := mKpt m' = mKpt m ∧ mIsK m' = mIsK m ∧ mSts m' = mSts m ∧ mTape m' = mTape m ∧ mTpd m' = mTpd m
theorem RestX.rf (x : XS) : RestX x x := ⟨rfl, rfl, rfl, rfl, rfl⟩
theorem RestX.tr {x y z : XS} (h : RestX x y) (g : RestX y z) : RestX x z := ⟨g.1.trans h.1, g.2.1.trans h.2.1, g.2.2.1.trans h.2.2.1, g.2.2.2.1.trans h.2.2.2.1, g.2.2.2.2.trans h.2.2.2.2⟩
theorem RestX.sh (x : XS) {s : Nat} (hs : s < 4) (u : Sh) : RestX x (xShS x s u) := by
  rcases four hs with rfl | rfl | rfl | rfl <;> exact ⟨rfl, rfl, rfl, rfl, rfl⟩
theorem RestX.ahd (x : XS) (a : St) : RestX x (xAhd' x a) := ⟨rfl, rfl, rfl, rfl, rfl⟩
theorem Inv.to {x x' : XS} {m m' : MS} (h : Inv x m) (hx : RestX x x') (hm : RestM m m') (r : Rel (xRoom x) (mS m')) (sh : ∀ r, r < 4 → ShR (xSh x' r) m' r) : Inv x' m' := by
  obtain ⟨x1, x2, x3, x4, x5⟩ := hx
  obtain ⟨m1, m2, m3, m4, m5⟩ := hm
  obtain ⟨h1, h2, h3, h4, h5, h6⟩ := h
  refine ⟨by rw [x1]; exact h1, by rw [x1]; exact r, ?_, fun q hq => by rw [x4, m3]; exact h4 q hq, ?_, sh⟩
  · unfold KpR at h3 ⊢
    rw [x2, x3, m1, m2]; exact h3
  · unfold TpR at h5 ⊢
    rw [x5, m4, m5]; exact h5
theorem shr_set {x : XS} {m' : MS} {s : Nat} {u : Sh} (hs : s < 4) (h1 : ShR u m' s) (h2 : ∀ r, r < 4 → r ≠ s → ShR (xSh x r) m' r) : ∀ r, r < 4 → ShR (xSh (xShS x s u) r) m' r := fun r hr => by
  rw [xSh_S x u hs hr]
  by_cases c : r = s
  · rw [if_pos c, c]; exact h1
  · rw [if_neg c]; exact h2 r hr c
theorem shr_mS {u : Sh} {m : MS} {r : Nat} (h : ShR u m r) (s : F32) : ShR u (mS' m s) r := h
theorem updL_at (f : F64) (k j : Nat) (x : Int64) : vp_updL f k x j = if j = k then x else f j := rfl
def narF (b : Int32) (v : Int64) : Int64 := if b = 8 then (Int32.toInt64 (Int32.toInt8 (Int64.toInt32 v)).toInt32) else if b = 16 then (Int32.toInt64 (Int32.toInt16 (Int64.toInt32 v)).toInt32) else v
theorem X_put {u : Sh} {i : Nat} (hi : i < 40) (v : Int64) : fX0_put (nI i) v u = some (hNum' u (vp_updL (hNum u) i (narF (hBit u) v))) := by
  rw [fX0_put_eq]
  unfold narF
  by_cases c1 : hBit u = 8
  · rw [if_pos c1, if_pos c1, if_neg (ix hi), cl (by omega)]
  · rw [if_neg c1, if_neg c1]
    by_cases c2 : hBit u = 16
    · rw [if_pos c2, if_pos c2, if_neg (ix hi), cl (by omega)]
    · rw [if_neg c2, if_neg c2, if_neg (ix hi), cl (by omega)]
theorem M_narrowed (b : Int32) (v : Int64) : fX5_narrowed b v = some (narF b v) := by
  rw [fX5_narrowed_eq]
  unfold narF
  by_cases c1 : b = 8
  · rw [if_pos c1, if_pos c1]
  · rw [if_neg c1, if_neg c1]
    by_cases c2 : b = 16
    · rw [if_pos c2, if_pos c2]
    · rw [if_neg c2, if_neg c2]
theorem n40 (s i : Nat) : (40 : Int32) * nI s + nI i = nI (40 * s + i) := by
  rw [show (40 : Int32) = nI 40 from rfl, pk_mul, nI_add]
theorem shr_num {x : XS} {m : MS} {s i : Nat} (h : ∀ r, r < 4 → ShR (xSh x r) m r) (hs : s < 4) (hi : i < 40) (v : Int64) : ∀ r, r < 4 → ShR (xSh (xShS x s (hNum' (xSh x s) (vp_updL (hNum (xSh x s)) i v))) r) (mNum' m (vp_updL (mNum m) (40 * s + i) v)) r := by
  refine shr_set hs ?_ ?_
  · obtain ⟨g1, g2, g3, g4⟩ := h s hs
    refine ⟨g1, g2, g3, fun q hq => ?_⟩
    show vp_updL (hNum (xSh x s)) i v q = vp_updL (mNum m) (40 * s + i) v (40 * s + q)
    rw [updL_at, updL_at]
    by_cases c : q = i
    · rw [if_pos c, if_pos (by omega)]
    · rw [if_neg c, if_neg (by omega)]; exact g4 q hq
  · intro r hr hne
    obtain ⟨g1, g2, g3, g4⟩ := h r hr
    refine ⟨g1, g2, g3, fun q hq => ?_⟩
    show _ = vp_updL (mNum m) (40 * s + i) v (40 * r + q)
    rw [updL_at, if_neg (by omega)]; exact g4 q hq
/-- a number of a sheet becomes another -/
theorem Inv.num {x : XS} {m : MS} {s i : Nat} (h : Inv x m) (hs : s < 4) (hi : i < 40) (v : Int64) : Inv (xShS x s (hNum' (xSh x s) (vp_updL (hNum (xSh x s)) i v))) (mNum' m (vp_updL (mNum m) (40 * s + i) v)) :=
  h.to (RestX.sh x hs _) ⟨rfl, rfl, rfl, rfl, rfl⟩ h.2.1 (shr_num h.2.2.2.2.2 hs hi v)
theorem M_wrong0 {a : Int32} {m : MS} (c : inB a 0 3 = false) : fX5_wrongSheet a m = some (-1000000001, m) := by
  rw [fX5_wrongSheet_eq, M_isOne, Option.bind_some, c, if_pos (by decide)]
theorem M_wrong1 {s : Nat} {m : MS} (hs : s < 4) : fX5_wrongSheet (nI s) m = if mBit m s = 0 then some (-1000000006, m) else some (0, m) := by
  rw [fX5_wrongSheet_eq, M_isOne, Option.bind_some, show inB (nI s) 0 3 = true from inB_nI (L := 0) (N := 3) (by omega) (by omega) (by decide), if_neg (by decide), if_neg (ix hs), cl (by omega)]
theorem X_write {x : XS} {s : Nat} (hs : s < 4) (i : Int32) (v : Int64) : fX4_write (nI s) i v x = if hBit (xSh x s) = 0 then ((fX4_found (-1000000006 : Int32) x).bind fun q2 => (some ((Int32.toInt64 q2.1), q2.2))) else ((fX4_isWithin i 0 ((hLen (xSh x s)) - 1)).bind fun q2 => (if q2 = 0 then ((fX4_found (-1000000001 : Int32) x).bind fun q3 => (some ((Int32.toInt64 q3.1), q3.2))) else (if i < 0 ∨ 40 ≤ (i).toNatClampNeg then none else ((fX0_put i v (xSh x s)).bind fun q3 => (some (((hNum (xSh x s)) (i).toNatClampNeg), (xShS x s q3))))))) := by
  rw [fX4_write_eq, X_isSheet, Option.bind_some]
  rcases four hs with rfl | rfl | rfl | rfl
  · rw [show xSh x 0 = xS0 x from rfl, if_neg (show ¬ b2i (inB (nI 0) 0 3) = 0 by decide), if_pos (rfl : nI 0 = nI 0), fX0_isMissing_eq]
    by_cases c : hBit (xS0 x) = 0
    · rw [if_pos c, if_pos c]; rfl
    · rw [if_neg c, if_neg c]; rfl
  · rw [show xSh x 1 = xS1 x from rfl, if_neg (show ¬ b2i (inB (nI 1) 0 3) = 0 by decide), if_neg (show ¬ nI 1 = nI 0 by decide), if_pos (rfl : nI 1 = nI 1), fX0_isMissing_eq]
    by_cases c : hBit (xS1 x) = 0
    · rw [if_pos c, if_pos c]; rfl
    · rw [if_neg c, if_neg c]; rfl
  · rw [show xSh x 2 = xS2 x from rfl, if_neg (show ¬ b2i (inB (nI 2) 0 3) = 0 by decide), if_neg (show ¬ nI 2 = nI 0 by decide), if_neg (show ¬ nI 2 = nI 1 by decide), if_pos (rfl : nI 2 = nI 2), fX0_isMissing_eq]
    by_cases c : hBit (xS2 x) = 0
    · rw [if_pos c, if_pos c]; rfl
    · rw [if_neg c, if_neg c]; rfl
  · rw [show xSh x 3 = xS3 x from rfl, if_neg (show ¬ b2i (inB (nI 3) 0 3) = 0 by decide), if_neg (show ¬ nI 3 = nI 0 by decide), if_neg (show ¬ nI 3 = nI 1 by decide), if_neg (show ¬ nI 3 = nI 2 by decide), if_pos (rfl : nI 3 = nI 3), fX0_isMissing_eq]
    by_cases c : hBit (xS3 x) = 0
    · rw [if_pos c, if_pos c]; rfl
    · rw [if_neg c, if_neg c]; rfl
theorem X_page {x : XS} {s : Nat} (hs : s < 4) (a : Int32) : fX4_findingOfPage (nI s) a x = if hBit (xSh x s) = 0 then some ((-1000000006 : Int32), x) else ((fX1_hasThing a (xRoom x)).bind fun q2 => (if q2.1 = 0 then (some ((-1000000001 : Int32), (xRoom' x q2.2))) else (some (0, (xRoom' x q2.2))))) := by
  rw [fX4_findingOfPage_eq, X_isSheet, Option.bind_some]
  rcases four hs with rfl | rfl | rfl | rfl
  · rw [show xSh x 0 = xS0 x from rfl, if_neg (show ¬ b2i (inB (nI 0) 0 3) = 0 by decide), if_pos (rfl : nI 0 = nI 0), fX0_isMissing_eq]
    by_cases c : hBit (xS0 x) = 0
    · rw [if_pos c, if_pos c]; rfl
    · rw [if_neg c, if_neg c]; rfl
  · rw [show xSh x 1 = xS1 x from rfl, if_neg (show ¬ b2i (inB (nI 1) 0 3) = 0 by decide), if_neg (show ¬ nI 1 = nI 0 by decide), if_pos (rfl : nI 1 = nI 1), fX0_isMissing_eq]
    by_cases c : hBit (xS1 x) = 0
    · rw [if_pos c, if_pos c]; rfl
    · rw [if_neg c, if_neg c]; rfl
  · rw [show xSh x 2 = xS2 x from rfl, if_neg (show ¬ b2i (inB (nI 2) 0 3) = 0 by decide), if_neg (show ¬ nI 2 = nI 0 by decide), if_neg (show ¬ nI 2 = nI 1 by decide), if_pos (rfl : nI 2 = nI 2), fX0_isMissing_eq]
    by_cases c : hBit (xS2 x) = 0
    · rw [if_pos c, if_pos c]; rfl
    · rw [if_neg c, if_neg c]; rfl
  · rw [show xSh x 3 = xS3 x from rfl, if_neg (show ¬ b2i (inB (nI 3) 0 3) = 0 by decide), if_neg (show ¬ nI 3 = nI 0 by decide), if_neg (show ¬ nI 3 = nI 1 by decide), if_neg (show ¬ nI 3 = nI 2 by decide), if_pos (rfl : nI 3 = nI 3), fX0_isMissing_eq]
    by_cases c : hBit (xS3 x) = 0
    · rw [if_pos c, if_pos c]; rfl
    · rw [if_neg c, if_neg c]; rfl
theorem S_write {x : XS} {m : MS} (h : Inv x m) (a0 a1 : Int32) (v : Int64) : Same (fX4_write a0 a1 v x) (fX5_write a0 a1 v m) := by
  have hB := sfL h fcB
  have hM := sfL h fcM
  rcases bool_cases (inB a0 0 3) with cp | cp
  · rw [fX4_write_eq, fX5_write_eq, X_isSheet, M_wrong0 cp, cp, Option.bind_some, Option.bind_some, if_pos (by decide), if_neg (show ¬ (-1000000001 : Int32) = 0 by decide)]
    exact hB
  obtain ⟨s, -, hs3, rfl⟩ := inB_nat (L := 0) (N := 3) cp
  have hs : s < 4 := by omega
  obtain ⟨g1, g2, ⟨l, hl, g3⟩, g4⟩ := h.2.2.2.2.2 s hs
  rw [X_write hs, fX5_write_eq, M_wrong1 hs, ← g1]
  by_cases c : hBit (xSh x s) = 0
  · rw [if_pos c, if_pos c, Option.bind_some, if_neg (show ¬ (-1000000006 : Int32) = 0 by decide)]
    exact hM
  · rw [if_neg c, if_neg c, Option.bind_some, if_pos (show (0 : Int32) = 0 from rfl), if_neg (ix hs), X_within, M_in, cl (show s < 2 ^ 31 by omega), ← g2, Option.bind_some, Option.bind_some, Int32.toInt_toInt64, z32_0, z64_0]
    rcases bool_cases (inB a1 0 ((hLen (xSh x s) - 1)).toInt) with cv | cv
    · rw [cv, if_pos (by decide), if_pos (by decide)]
      exact hB
    · have hl1 : (hLen (xSh x s) - 1).toInt = (l : Int) - 1 := by
        rw [g3, sub_int (by rw [nI_toInt (by omega), z32_1]; omega) (by rw [nI_toInt (by omega), z32_1]; omega), nI_toInt (by omega), z32_1]
      rw [cv]
      rw [hl1] at cv
      obtain ⟨i, hi, rfl⟩ := inB_k cv
      have hi40 : i < 40 := by omega
      rw [if_neg (show ¬ b2i true = 0 by decide), if_neg (show ¬ b2i true = 0 by decide), if_neg (ix hi40), cl (show i < 2 ^ 31 by omega), X_put hi40, Option.bind_some, n40, if_neg (ix (show 40 * s + i < 160 by omega)), if_neg (ix' hs), ← g1, M_narrowed, Option.bind_some, if_neg (ix (show 40 * s + i < 160 by omega)), cl (show 40 * s + i < 2 ^ 31 by omega), g4 i hi40]
      exact same_of (h.num hs hi40 _)
-- a new sheet
theorem X_beginL (b n0 : Int32) : ∀ (i j n : Nat) (f : F64), i + j = 40 → i < n → (∀ q, q < j → f q = 0) → ∃ f', lX0_begin_12 n (nI j) (b, n0, f) = some (b, n0, f') ∧ ∀ q, q < 40 → f' q = 0 := by
  intro i
  induction i with
  | zero =>
    intro j n f hk hn hq
    obtain ⟨n, rfl⟩ : ∃ q, n = q + 1 := ⟨n - 1, by omega⟩
    obtain rfl : j = 40 := by omega
    exact ⟨f, by rw [lX0_begin_12_eq, if_pos (by decide)], hq⟩
  | succ i ih =>
    intro j n f hk hn hq
    obtain ⟨n, rfl⟩ : ∃ q, n = q + 1 := ⟨n - 1, by omega⟩
    rw [lX0_begin_12_eq, if_neg (show ¬ (40 : Int32) ≤ nI j from nI_ge (show j < 40 by omega) (by decide)), if_neg (ix (show j < 40 by omega)), cl (by omega), nI_1]
    exact ih (j + 1) n _ (by omega) (by omega) (fun q hq2 => by
      show vp_updL f j 0 q = 0
      rw [updL_at]
      by_cases c : q = j
      · rw [if_pos c]
      · rw [if_neg c]; exact hq q (by omega))
theorem X_begin (b n0 : Int32) (u : Sh) : ∃ f', fX0_begin b n0 u = some (b, n0, f') ∧ ∀ q, q < 40 → f' q = 0 := by
  rw [fX0_begin_eq]
  exact X_beginL b n0 40 0 FU (hNum u) (by omega) (by rw [FU_eq]; omega) (fun q hq => absurd hq (Nat.not_lt_zero q))
theorem M_sheetL {s : Nat} (hs : s < 4) : ∀ (i j n : Nat) (m : MS), i + j = 40 → i < n → (∀ q, q < j → mNum m (40 * s + q) = 0) → ∃ f', lX5_sheet_86 n (nI s) (nI j) m = some (mSiz m s, mNum' m f') ∧ (∀ q, q < 40 → f' (40 * s + q) = 0) ∧ ∀ q, q < 40 * s ∨ 40 * s + 40 ≤ q → f' q = mNum m q := by
  intro i
  induction i with
  | zero =>
    intro j n m hk hn hq
    obtain ⟨n, rfl⟩ : ∃ q, n = q + 1 := ⟨n - 1, by omega⟩
    obtain rfl : j = 40 := by omega
    refine ⟨mNum m, ?_, hq, fun _ _ => rfl⟩
    rw [lX5_sheet_86_eq, if_pos (by decide), if_neg (ix hs), cl (by omega)]
    rfl
  | succ i ih =>
    intro j n m hk hn hq
    obtain ⟨n, rfl⟩ : ∃ q, n = q + 1 := ⟨n - 1, by omega⟩
    rw [lX5_sheet_86_eq, if_neg (show ¬ (40 : Int32) ≤ nI j from nI_ge (show j < 40 by omega) (by decide)), n40, if_neg (ix (show 40 * s + j < 160 by omega)), cl (by omega), nI_1]
    obtain ⟨f', e1, e2, e3⟩ := ih (j + 1) n (mNum' m (vp_updL (mNum m) (40 * s + j) 0)) (by omega) (by omega) (fun q hq2 => by
      show vp_updL (mNum m) (40 * s + j) 0 (40 * s + q) = 0
      rw [updL_at]
      by_cases c : q = j
      · rw [if_pos (by omega)]
      · rw [if_neg (by omega)]; exact hq q (by omega))
    refine ⟨f', e1, e2, fun q hq2 => ?_⟩
    rw [e3 q hq2]
    show vp_updL (mNum m) (40 * s + j) 0 q = mNum m q
    rw [updL_at, if_neg (by omega)]
def bit4 (b : Int32) : Prop := b = 0 ∨ b = 8 ∨ b = 16 ∨ b = 64
theorem X_sheet {x : XS} {s : Nat} (hs : s < 4) {b : Int32} (hb : bit4 b) (n : Int32) : fX4_sheet (nI s) b n x = if (0 : Int32) ≤ n then (if n ≤ 40 then ((fX0_begin b (if b = 0 then 0 else n) (xSh x s)).bind fun q => some (hLen q, xShS x s q)) else ((fX4_found (-1000000001 : Int32) x).bind fun q1 => (some (q1.1, q1.2)))) else ((fX4_found (-1000000007 : Int32) x).bind fun q1 => (some (q1.1, q1.2))) := by
  rw [fX4_sheet_eq, X_isSheet, Option.bind_some]
  by_cases c1 : (0 : Int32) ≤ n
  · by_cases c2 : n ≤ 40
    · simp only [if_pos c1, if_pos c2]
      rcases four hs with rfl | rfl | rfl | rfl <;> rcases hb with rfl | rfl | rfl | rfl <;> (simp +decide only [if_true, if_false]; rfl)
    · simp only [if_pos c1, if_neg c2]
      rcases four hs with rfl | rfl | rfl | rfl <;> rcases hb with rfl | rfl | rfl | rfl <;> simp +decide only [if_true, if_false]
  · simp only [if_neg c1]
    rcases four hs with rfl | rfl | rfl | rfl <;> rcases hb with rfl | rfl | rfl | rfl <;> simp +decide only [if_true, if_false]
theorem M_sheet {m : MS} {s : Nat} (hs : s < 4) {b : Int32} (hb : bit4 b) (n : Int32) : fX5_sheet (nI s) b n m = if (0 : Int32) ≤ n then (if n ≤ 40 then (lX5_sheet_86 FU (nI s) 0 (mSiz' (mBit' m (upd (mBit m) s b)) (upd (mSiz m) s (if b = 0 then 0 else n)))) else ((fX5_finds (-1000000001 : Int32) m).bind fun q1 => (some (q1.1, q1.2)))) else ((fX5_finds (-1000000007 : Int32) m).bind fun q1 => (some (q1.1, q1.2))) := by
  rw [fX5_sheet_eq, M_isOne, Option.bind_some, show inB (nI s) 0 3 = true from inB_nI (L := 0) (N := 3) (by omega) (by omega) (by decide), if_neg (by decide)]
  by_cases c1 : (0 : Int32) ≤ n
  · by_cases c2 : n ≤ 40
    · simp only [if_pos c1, if_pos c2, cl (show s < 2 ^ 31 by omega), if_neg (ix' hs)]
      rcases hb with rfl | rfl | rfl | rfl <;> simp +decide only [if_true, if_false]
    · simp only [if_pos c1, if_neg c2]
      rcases hb with rfl | rfl | rfl | rfl <;> simp +decide only [if_true, if_false]
  · simp only [if_neg c1]
    rcases hb with rfl | rfl | rfl | rfl <;> simp +decide only [if_true, if_false]
theorem S_sheet {x : XS} {m : MS} (h : Inv x m) (a0 a1 a2 : Int32) : Same (fX4_sheet a0 a1 a2 x) (fX5_sheet a0 a1 a2 m) := by
  have hB := sf h fcB
  have hZ := sf h fcZ
  rcases bool_cases (inB a0 0 3) with cp | cp
  · rw [fX4_sheet_eq, fX5_sheet_eq, X_isSheet, M_isOne, cp, Option.bind_some, Option.bind_some, if_pos (by decide), if_pos (by decide)]
    exact hB
  obtain ⟨s, -, hs3, rfl⟩ := inB_nat (L := 0) (N := 3) cp
  have hs : s < 4 := by omega
  by_cases hb : bit4 a1
  · rw [X_sheet hs hb, M_sheet hs hb]
    by_cases c1 : (0 : Int32) ≤ a2
    · by_cases c2 : a2 ≤ 40
      · rw [if_pos c1, if_pos c1, if_pos c2, if_pos c2]
        obtain ⟨l, hl, e⟩ : ∃ l, l ≤ 40 ∧ (if a1 = 0 then 0 else a2) = nI l := by
          split
          · exact ⟨0, by omega, rfl⟩
          · obtain ⟨p, hp, e1, e2⟩ := nat_of (a := a2) (by have := (fa_le _ _).mp c1; rw [z32_0] at this; exact this)
            have := (fa_le _ _).mp c2
            rw [e2, show (40 : Int32).toInt = 40 from rfl] at this
            exact ⟨p, by omega, e1⟩
        rw [e]
        obtain ⟨f, e1, e2⟩ := X_begin a1 (nI l) (xSh x s)
        obtain ⟨g, e3, e4, e5⟩ := M_sheetL hs 40 0 FU (mSiz' (mBit' m (upd (mBit m) s a1)) (upd (mSiz m) s (nI l))) (by omega) (by rw [FU_eq]; omega) (fun q hq => absurd hq (Nat.not_lt_zero q))
        rw [e1, Option.bind_some, show lX5_sheet_86 FU (nI s) 0 _ = _ from e3]
        have e6 : mSiz (mSiz' (mBit' m (upd (mBit m) s a1)) (upd (mSiz m) s (nI l))) s = nI l := by
          show upd (mSiz m) s (nI l) s = nI l
          rw [upd_at, if_pos rfl]
        rw [e6]
        refine same_of (h.to (RestX.sh x hs _) ⟨rfl, rfl, rfl, rfl, rfl⟩ h.2.1 (shr_set hs ?_ ?_))
        · refine ⟨?_, ?_, ⟨l, hl, rfl⟩, fun q hq => ?_⟩
          · show a1 = upd (mBit m) s a1 s
            rw [upd_at, if_pos rfl]
          · show nI l = upd (mSiz m) s (nI l) s
            rw [upd_at, if_pos rfl]
          · exact (e2 q hq).trans (e4 q hq).symm
        · intro r hr hne
          obtain ⟨g1, g2, g3, g4⟩ := h.2.2.2.2.2 r hr
          refine ⟨?_, ?_, g3, fun q hq => ?_⟩
          · show _ = upd (mBit m) s a1 r
            rw [upd_at, if_neg hne]; exact g1
          · show _ = upd (mSiz m) s (nI l) r
            rw [upd_at, if_neg hne]; exact g2
          · exact (g4 q hq).trans (e5 _ (by omega)).symm
      · rw [if_pos c1, if_pos c1, if_neg c2, if_neg c2]; exact hB
    · rw [if_neg c1, if_neg c1]; exact hZ
  · have b0 : ¬ a1 = 0 := fun z => hb (Or.inl z)
    have b1 : ¬ a1 = 8 := fun z => hb (Or.inr (Or.inl z))
    have b2 : ¬ a1 = 16 := fun z => hb (Or.inr (Or.inr (Or.inl z)))
    have b3 : ¬ a1 = 64 := fun z => hb (Or.inr (Or.inr (Or.inr z)))
    rw [fX4_sheet_eq, fX5_sheet_eq, X_isSheet, M_isOne, Option.bind_some, Option.bind_some]
    simp +decide only [cp, b0, b1, b2, b3, if_true, if_false, b2i_0]
    exact hB
-- means out of a sheet
noncomputable def laysX (s n : Nat) (c j : Int32) (x : XS) : Option (Int32 × XS) := if s = 0 then lX4_lays_40_2_35 n c j x else if s = 1 then lX4_lays_40_2_37 n c j x else if s = 2 then lX4_lays_40_2_39 n c j x else lX4_lays_40_2_41 n c j x
theorem laysX_eq {s : Nat} (hs : s < 4) (n : Nat) (x3 x4 : Int32) (u : XS) : laysX s (n + 1) x3 x4 u = (if (6 : Int32) ≤ x4 then (some (x3, u)) else (if (hLen (xSh u s)) ≤ x4 then (some (x3, u)) else (if x4 < 0 ∨ 40 ≤ (x4).toNatClampNeg then none else (if (lg_cmp ((hNum (xSh u s)) (x4).toNatClampNeg) (0 : Int64)) < 0 then (laysX s n x3 ((x4 + 1)) u) else (if (0 : Int32) < (lg_cmp ((hNum (xSh u s)) (x4).toNatClampNeg) (999999 : Int64)) then (laysX s n x3 ((x4 + 1)) u) else (if x4 < 0 ∨ 6 ≤ (x4).toNatClampNeg then none else (laysX s n ((x3 + 1)) ((x4 + 1)) (xRoom' u (sMns' (xRoom u) (upd (sMns (xRoom u)) (x4).toNatClampNeg (Int64.toInt32 ((hNum (xSh u s)) (x4).toNatClampNeg)))))))))))) := by
  rcases four hs with rfl | rfl | rfl | rfl
  · exact lX4_lays_40_2_35_eq n x3 x4 u
  · exact lX4_lays_40_2_37_eq n x3 x4 u
  · exact lX4_lays_40_2_39_eq n x3 x4 u
  · exact lX4_lays_40_2_41_eq n x3 x4 u
theorem X_lays {x : XS} {s : Nat} (hs : s < 4) : fX4_lays (nI s) x = if hBit (xSh x s) = 0 then ((fX4_found (-1000000006 : Int32) x).bind fun q2 => (some (q2.1, q2.2))) else laysX s FU 0 0 x := by
  rw [fX4_lays_eq, X_isSheet, Option.bind_some]
  rcases four hs with rfl | rfl | rfl | rfl
  · rw [show xSh x 0 = xS0 x from rfl, if_neg (show ¬ b2i (inB (nI 0) 0 3) = 0 by decide), if_pos (rfl : nI 0 = nI 0), fX0_isMissing_eq]
    by_cases c : hBit (xS0 x) = 0
    · rw [if_pos c, if_pos c]; rfl
    · rw [if_neg c, if_neg c]; rfl
  · rw [show xSh x 1 = xS1 x from rfl, if_neg (show ¬ b2i (inB (nI 1) 0 3) = 0 by decide), if_neg (show ¬ nI 1 = nI 0 by decide), if_pos (rfl : nI 1 = nI 1), fX0_isMissing_eq]
    by_cases c : hBit (xS1 x) = 0
    · rw [if_pos c, if_pos c]; rfl
    · rw [if_neg c, if_neg c]; rfl
  · rw [show xSh x 2 = xS2 x from rfl, if_neg (show ¬ b2i (inB (nI 2) 0 3) = 0 by decide), if_neg (show ¬ nI 2 = nI 0 by decide), if_neg (show ¬ nI 2 = nI 1 by decide), if_pos (rfl : nI 2 = nI 2), fX0_isMissing_eq]
    by_cases c : hBit (xS2 x) = 0
    · rw [if_pos c, if_pos c]; rfl
    · rw [if_neg c, if_neg c]; rfl
  · rw [show xSh x 3 = xS3 x from rfl, if_neg (show ¬ b2i (inB (nI 3) 0 3) = 0 by decide), if_neg (show ¬ nI 3 = nI 0 by decide), if_neg (show ¬ nI 3 = nI 1 by decide), if_neg (show ¬ nI 3 = nI 2 by decide), if_pos (rfl : nI 3 = nI 3), fX0_isMissing_eq]
    by_cases c : hBit (xS3 x) = 0
    · rw [if_pos c, if_pos c]; rfl
    · rw [if_neg c, if_neg c]; rfl
theorem Rel.stay {u : St} {s : F32} (h : Rel u s) {w : Nat} {v : Int32} (hv : v = s w) : Rel u (upd s w v) := h.cong (fun q _ => by
  rw [upd_at]
  by_cases c : q = w
  · rw [if_pos c, hv, c]
  · rw [if_neg c])
theorem laysL {s : Nat} (hs : s < 4) : ∀ (i j n n' : Nat) (c : Int32) (x : XS) (m : MS), i + j = 6 → i < n → i < n' → Inv x m → Same (laysX s n c (nI j) x) (lX5_lays_21 n' (nI s) c (nI j) m) := by
  intro i
  induction i with
  | zero =>
    intro j n n' c x m hi hn hn' h
    obtain ⟨n, rfl⟩ : ∃ q, n = q + 1 := ⟨n - 1, by omega⟩
    obtain ⟨n', rfl⟩ : ∃ q, n' = q + 1 := ⟨n' - 1, by omega⟩
    obtain rfl : j = 6 := by omega
    rw [laysX_eq hs, lX5_lays_21_eq, if_pos (show (6 : Int32) ≤ nI 6 by decide), if_neg (ix hs), if_pos (show (6 : Int32) ≤ nI 6 by decide), ite_self]
    exact same_of h
  | succ i ih =>
    intro j n n' c x m hi hn hn' h
    obtain ⟨n, rfl⟩ : ∃ q, n = q + 1 := ⟨n - 1, by omega⟩
    obtain ⟨n', rfl⟩ : ∃ q, n' = q + 1 := ⟨n' - 1, by omega⟩
    obtain ⟨k, d, hw, hd⟩ := h.1
    have hR := h.2.1
    obtain ⟨g1, g2, ⟨l, hl, g3⟩, g4⟩ := h.2.2.2.2.2 s hs
    have hj6 : j < 6 := by omega
    have h6 : ¬ (6 : Int32) ≤ nI j := nI_ge hj6 (by decide)
    have en := g4 j (by omega)
    rw [laysX_eq hs, lX5_lays_21_eq, if_neg h6, if_neg (ix hs), if_neg h6, cl (show s < 2 ^ 31 by omega), ← g2]
    by_cases c1 : hLen (xSh x s) ≤ nI j
    · rw [if_pos c1, if_pos c1]; exact same_of h
    · rw [if_neg c1, if_neg c1, if_neg (ix (show j < 40 by omega)), n40, if_neg (ix (show 40 * s + j < 160 by omega)), cl (show j < 2 ^ 31 by omega), cl (show 40 * s + j < 2 ^ 31 by omega), ← en, M_in64, Option.bind_some, M_place0, Option.bind_some, nI_1, z64_0, z64_999999]
      generalize hv : hNum (xSh x s) j = v
      by_cases c2 : lg_cmp v 0 < 0
      · have c2' := Int64.lt_iff_toInt_lt.mp ((lg_cmp_lt v 0).mp c2)
        rw [z64_0] at c2'
        rw [if_pos c2, decide_eq_false (fun z => by omega), if_pos (by decide), M_means hR hj6, Option.bind_some, if_neg (ix (show 3 + 3 * j < 69 by omega)), if_pos (by decide), cl (by omega), Int32.add_zero]
        exact ih (j + 1) n n' c x _ (by omega) (by omega) (by omega) ⟨h.1, hR.stay (hR.2.2.2.1 j hj6).1.symm, h.2.2⟩
      · have c2' : ¬ v.toInt < (0 : Int64).toInt := fun z => c2 ((lg_cmp_lt v 0).mpr (Int64.lt_iff_toInt_lt.mpr z))
        rw [z64_0] at c2'
        rw [if_neg c2]
        by_cases c3 : 0 < lg_cmp v 999999
        · have c3' := Int64.lt_iff_toInt_lt.mp ((lg_cmp_gt v 999999).mp c3)
          rw [z64_999999] at c3'
          rw [if_pos c3, decide_eq_false (fun z => by omega), if_pos (by decide), M_means hR hj6, Option.bind_some, if_neg (ix (show 3 + 3 * j < 69 by omega)), if_pos (by decide), cl (by omega), Int32.add_zero]
          exact ih (j + 1) n n' c x _ (by omega) (by omega) (by omega) ⟨h.1, hR.stay (hR.2.2.2.1 j hj6).1.symm, h.2.2⟩
        · have c3' : ¬ (999999 : Int64).toInt < v.toInt := fun z => c3 ((lg_cmp_gt v 999999).mpr (Int64.lt_iff_toInt_lt.mpr z))
          rw [z64_999999] at c3'
          have hv32 : v.toInt32.toInt = v.toInt := by
            rw [Int64.toInt_toInt32]
            exact Int.bmod_eq_of_le (by omega) (by omega)
          rw [if_neg c3, if_neg (ix' hj6), decide_eq_true ⟨by omega, by omega⟩, if_neg (by decide), if_neg (ix' (show 40 * s + j < 160 by omega)), if_neg (ix (show 3 + 3 * j < 69 by omega)), if_neg (by decide), cl (by omega)]
          exact ih (j + 1) n n' (c + 1) _ _ (by omega) (by omega) (by omega) (h.room ⟨k, d, hw.mns (in_of (by omega) (by omega) (by decide)), hd⟩ (hR.mns hj6 _))
theorem S_lays {x : XS} {m : MS} (h : Inv x m) (a0 : Int32) : Same (fX4_lays a0 x) (fX5_lays a0 m) := by
  have hB := sf h fcB
  have hM := sf h fcM
  rcases bool_cases (inB a0 0 3) with cp | cp
  · rw [fX4_lays_eq, fX5_lays_eq, X_isSheet, M_wrong0 cp, cp, Option.bind_some, Option.bind_some, if_pos (by decide), if_neg (show ¬ (-1000000001 : Int32) = 0 by decide)]
    exact hB
  obtain ⟨s, -, hs3, rfl⟩ := inB_nat (L := 0) (N := 3) cp
  have hs : s < 4 := by omega
  obtain ⟨g1, g2, ⟨l, hl, g3⟩, g4⟩ := h.2.2.2.2.2 s hs
  rw [X_lays hs, fX5_lays_eq, M_wrong1 hs, ← g1]
  by_cases c : hBit (xSh x s) = 0
  · rw [if_pos c, if_pos c, Option.bind_some, if_neg (show ¬ (-1000000006 : Int32) = 0 by decide)]
    exact hM
  · rw [if_neg c, if_neg c, Option.bind_some, if_pos (show (0 : Int32) = 0 from rfl)]
    exact laysL hs 6 0 FU FU 0 x m (by omega) (by rw [FU_eq]; omega) (by rw [FU_eq]; omega) h
-- books
theorem page_same {x : XS} {m : MS} (h : Inv x m) (a0 a1 : Int32) : ∃ r, fX4_findingOfPage a0 a1 x = some (r, x) ∧ fX5_wrongBook a0 a1 m = some (r, m) ∧ ((¬ r = 0 ∧ FC r) ∨ (r = 0 ∧ ∃ s k d t, s < 4 ∧ a0 = nI s ∧ WF k d (xRoom x) ∧ d ≤ 9999 ∧ t < k ∧ a1 = nI t)) := by
  obtain ⟨k, d, hw, hd⟩ := h.1
  have hR := h.2.1
  rcases bool_cases (inB a0 0 3) with cp | cp
  · refine ⟨-1000000001, ?_, ?_, Or.inl ⟨by decide, fcB⟩⟩
    · rw [fX4_findingOfPage_eq, X_isSheet, cp, Option.bind_some, if_pos (by decide)]
    · rw [fX5_wrongBook_eq, M_wrong0 cp, Option.bind_some, if_neg (show ¬ (-1000000001 : Int32) = 0 by decide)]
  obtain ⟨s, -, hs3, rfl⟩ := inB_nat (L := 0) (N := 3) cp
  have hs : s < 4 := by omega
  obtain ⟨g1, g2, ⟨l, hl, g3⟩, g4⟩ := h.2.2.2.2.2 s hs
  by_cases c : hBit (xSh x s) = 0
  · refine ⟨-1000000006, ?_, ?_, Or.inl ⟨by decide, fcM⟩⟩
    · rw [X_page hs, if_pos c]
    · rw [fX5_wrongBook_eq, M_wrong1 hs, ← g1, if_pos c, Option.bind_some, if_neg (show ¬ (-1000000006 : Int32) = 0 by decide)]
  rcases bool_cases (inB a1 0 ((k : Int) - 1)) with cv | cv
  · refine ⟨-1000000001, ?_, ?_, Or.inl ⟨by decide, fcB⟩⟩
    · rw [X_page hs, if_neg c, X_has hw, cv, Option.bind_some, if_pos (show b2i false = 0 by decide)]; rfl
    · rw [fX5_wrongBook_eq, M_wrong1 hs, ← g1, if_neg c, Option.bind_some, if_pos (show (0 : Int32) = 0 from rfl), M_isThing hw hR, cv, Option.bind_some, if_pos (show b2i false = 0 by decide)]
  · obtain ⟨t, ht, rfl⟩ := inB_k cv
    refine ⟨0, ?_, ?_, Or.inr ⟨rfl, s, k, d, t, hs, rfl, hw, hd, ht, rfl⟩⟩
    · rw [X_page hs, if_neg c, X_has hw, cv, Option.bind_some, if_neg (show ¬ b2i true = 0 by decide)]; rfl
    · rw [fX5_wrongBook_eq, M_wrong1 hs, ← g1, if_neg c, Option.bind_some, if_pos (show (0 : Int32) = 0 from rfl), M_isThing hw hR, cv, Option.bind_some, if_neg (show ¬ b2i true = 0 by decide)]
noncomputable def bookX (s n : Nat) (t j : Int32) (x : XS) : Option (Int32 × XS) := if s = 0 then lX4_book_32_4_35 n t j x else if s = 1 then lX4_book_32_4_37 n t j x else if s = 2 then lX4_book_32_4_39 n t j x else lX4_book_32_4_41 n t j x
theorem bookX0 : bookX 0 = lX4_book_32_4_35 := rfl
theorem bookX1 : bookX 1 = lX4_book_32_4_37 := rfl
theorem bookX2 : bookX 2 = lX4_book_32_4_39 := rfl
theorem bookX3 : bookX 3 = lX4_book_32_4_41 := rfl
theorem xSh0 (u : XS) : xSh u 0 = xS0 u := rfl
theorem xSh1 (u : XS) : xSh u 1 = xS1 u := rfl
theorem xSh2 (u : XS) : xSh u 2 = xS2 u := rfl
theorem xSh3 (u : XS) : xSh u 3 = xS3 u := rfl
theorem xShS0 (u : XS) (v : Sh) : xShS u 0 v = xS0' u v := rfl
theorem xShS1 (u : XS) (v : Sh) : xShS u 1 v = xS1' u v := rfl
theorem xShS2 (u : XS) (v : Sh) : xShS u 2 v = xS2' u v := rfl
theorem xShS3 (u : XS) (v : Sh) : xShS u 3 v = xS3' u v := rfl
theorem bookX_eq {s : Nat} (hs : s < 4) (n : Nat) (x2 x5 : Int32) (u : XS) : bookX s (n + 1) x2 x5 u = (if (hLen (xSh u s)) ≤ x5 then (some ((hLen (xSh u s)), u)) else (if x2 < 0 ∨ 8 ≤ (x2).toNatClampNeg then none else ((fX0_put x5 (Int32.toInt64 ((sDue (xAhd u)) (x2).toNatClampNeg)) (xSh u s)).bind fun q0 => ((fX1_goDay (xAhd u)).bind fun q1 => (bookX s n x2 ((x5 + 1)) (xShS (xAhd' u q1) s q0)))))) := by
  rcases four hs with rfl | rfl | rfl | rfl
  · simp only [bookX0, xSh0, xShS0]; exact lX4_book_32_4_35_eq n x2 x5 u
  · simp only [bookX1, xSh1, xShS1]; exact lX4_book_32_4_37_eq n x2 x5 u
  · simp only [bookX2, xSh2, xShS2]; exact lX4_book_32_4_39_eq n x2 x5 u
  · simp only [bookX3, xSh3, xShS3]; exact lX4_book_32_4_41_eq n x2 x5 u
theorem X_book {x : XS} {s : Nat} (hs : s < 4) (a : Int32) (r : Int32 × XS) (e : fX4_findingOfPage (nI s) a x = some (0, x)) : fX4_book (nI s) a x = ((fX4_startAhead x).bind fun q1 => bookX s FU a 0 q1) := by
  rw [fX4_book_eq, e, Option.bind_some, if_pos (show ((0 : Int32), x).1 = 0 from rfl)]
  rcases four hs with rfl | rfl | rfl | rfl
  · rw [if_pos (rfl : nI 0 = nI 0), bookX0]
  · rw [if_neg (show ¬ nI 1 = nI 0 by decide), if_pos (rfl : nI 1 = nI 1), bookX1]
  · rw [if_neg (show ¬ nI 2 = nI 0 by decide), if_neg (show ¬ nI 2 = nI 1 by decide), if_pos (rfl : nI 2 = nI 2), bookX2]
  · rw [if_neg (show ¬ nI 3 = nI 0 by decide), if_neg (show ¬ nI 3 = nI 1 by decide), if_neg (show ¬ nI 3 = nI 2 by decide), if_pos (rfl : nI 3 = nI 3), bookX3]
/-- ahead goes along with the row; all else is as it was but the sheet -/
theorem bookL {s k t : Nat} (hs : s < 4) (ht : t < k) {x0 : XS} {m0 : MS} (h0 : Inv x0 m0) : ∀ (i n n' j l d : Nat) (x : XS) (m : MS), i + j = l → i < n → i < n' → l ≤ 40 → hLen (xSh x s) = nI l → RestX x0 x → RestM m0 m → (∀ r, r < 4 → ShR (xSh x r) m r) → WF k d (xAhd x) → d + i ≤ 20000 → Rel (xAhd x) (mS m) → (∀ q, q < 69 → mAsd m q = mS m0 q) → Same (bookX s n (nI t) (nI j) x) (lX5_book_24 n' (nI s) (nI t) (nI j) m) := by
  intro i
  induction i with
  | zero =>
    intro n n' j l d x m hi hn hn' hl40 hl hx hm hS hw hd hR ha
    obtain ⟨n, rfl⟩ : ∃ q, n = q + 1 := ⟨n - 1, by omega⟩
    obtain ⟨n', rfl⟩ : ∃ q, n' = q + 1 := ⟨n' - 1, by omega⟩
    obtain rfl : j = l := by omega
    obtain ⟨g1, g2, -, g4⟩ := hS s hs
    obtain ⟨s', e1, e2⟩ := M_takesBack (nI j) m
    rw [bookX_eq hs, lX5_book_24_eq, hl, if_neg (ix hs), cl (show s < 2 ^ 31 by omega), ← g2, hl, if_pos (nI_le (Nat.le_refl j) (by omega)), if_pos (nI_le (Nat.le_refl j) (by omega)), if_neg (ix' hs), e1, Option.bind_some]
    exact same_of (h0.to hx hm (h0.2.1.cong (fun q hq => (e2 q hq).trans (ha q hq))) (fun r hr => shr_mS (hS r hr) s'))
  | succ i ih =>
    intro n n' j l d x m hi hn hn' hl40 hl hx hm hS hw hd hR ha
    obtain ⟨n, rfl⟩ : ∃ q, n = q + 1 := ⟨n - 1, by omega⟩
    obtain ⟨n', rfl⟩ : ∃ q, n' = q + 1 := ⟨n' - 1, by omega⟩
    have hk := hw.k8
    have ht8 : t < 8 := by omega
    have hj40 : j < 40 := by omega
    obtain ⟨g1, g2, -, g4⟩ := hS s hs
    have hgo := X_goDay hw (show d < 20000 by omega)
    obtain ⟨s1, e1, e2⟩ := M_dayS (m := mNum' m (vp_updL (mNum m) (40 * s + j) (narF (mBit m s) (Int32.toInt64 (sDue (xAhd x) t))))) hw (show d < 20000 by omega) hR
    rw [bookX_eq hs, lX5_book_24_eq, hl, if_neg (ix hs), cl (show s < 2 ^ 31 by omega), ← g2, hl, if_neg (nI_ge (show j < l by omega) (by omega)), if_neg (nI_ge (show j < l by omega) (by omega)), if_neg (ix ht8), if_neg (ix' hs), cl (show t < 2 ^ 31 by omega), X_put hj40, Option.bind_some, hgo.1, Option.bind_some, M_due hR ht8, Option.bind_some, M_narrowed, Option.bind_some, n40, if_neg (ix (show 40 * s + j < 160 by omega)), cl (show 40 * s + j < 2 ^ 31 by omega), e1, Option.bind_some, nI_1, g1]
    have hS2 := shr_num (x := xAhd' x (dayS k (xAhd x))) hS hs hj40 (narF (mBit m s) (Int32.toInt64 (sDue (xAhd x) t)))
    have e3 := xSh_S (xAhd' x (dayS k (xAhd x))) (hNum' (xSh x s) (vp_updL (hNum (xSh x s)) j (narF (mBit m s) (Int32.toInt64 (sDue (xAhd x) t))))) hs hs
    rw [if_pos rfl] at e3
    have e4 := xShS_ahd x (dayS k (xAhd x)) (hNum' (xSh x s) (vp_updL (hNum (xSh x s)) j (narF (mBit m s) (Int32.toInt64 (sDue (xAhd x) t))))) hs
    refine ih n n' (j + 1) l (d + 1) _ _ (by omega) (by omega) (by omega) hl40 ?_ ?_ ?_ ?_ ?_ (by omega) ?_ ?_
    · rw [e3]; exact hl
    · exact hx.tr ((RestX.ahd x _).tr (RestX.sh _ hs _))
    · exact ⟨hm.1, hm.2.1, hm.2.2.1, hm.2.2.2.1, hm.2.2.2.2⟩
    · exact fun r hr => shr_mS (hS2 r hr) s1
    · rw [e4]; exact hgo.2
    · rw [e4]; exact e2
    · exact ha
theorem S_book {x : XS} {m : MS} (h : Inv x m) (a0 a1 : Int32) : Same (fX4_book a0 a1 x) (fX5_book a0 a1 m) := by
  obtain ⟨r, e1, e2, hr⟩ := page_same h a0 a1
  rcases hr with ⟨hr, hc⟩ | ⟨rfl, s, k, d, t, hs, rfl, hw, hd, ht, rfl⟩
  · rw [fX4_book_eq, fX5_book_eq, e1, e2, Option.bind_some, Option.bind_some, if_neg hr, if_neg hr]
    exact sf h hc
  · obtain ⟨a, ea, wa, ra⟩ := X_start x
    have hwa := wa k d hw
    have hra := ra _ h.2.1
    obtain ⟨b, e3, e4⟩ := M_laysAside m
    obtain ⟨g1, g2, ⟨l, hl, g3⟩, g4⟩ := h.2.2.2.2.2 s hs
    rw [X_book hs (nI t) (0, x) e1, ea, Option.bind_some, fX5_book_eq, e2, Option.bind_some, if_pos (show ((0 : Int32), m).1 = 0 from rfl), e3, Option.bind_some]
    exact bookL hs ht h l FU FU 0 l d (xAhd' x a) (mAsd' m b) (by omega) (by rw [FU_eq]; omega) (by rw [FU_eq]; omega) hl g3 (RestX.ahd x a) ⟨rfl, rfl, rfl, rfl, rfl⟩ h.2.2.2.2.2 hwa (by omega) hra e4
-- the reader
noncomputable def bkX (s n : Nat) (t j : Int32) (x : XS) : Option (Int32 × XS) := if s = 0 then lX4_isBookedAhead_35_2_1_35 n t j x else if s = 1 then lX4_isBookedAhead_37_2_1_37 n t j x else if s = 2 then lX4_isBookedAhead_39_2_1_39 n t j x else lX4_isBookedAhead_41_2_1_41 n t j x
theorem bkX0 : bkX 0 = lX4_isBookedAhead_35_2_1_35 := rfl
theorem bkX1 : bkX 1 = lX4_isBookedAhead_37_2_1_37 := rfl
theorem bkX2 : bkX 2 = lX4_isBookedAhead_39_2_1_39 := rfl
theorem bkX3 : bkX 3 = lX4_isBookedAhead_41_2_1_41 := rfl
theorem bkX_eq {s : Nat} (hs : s < 4) (n : Nat) (x2 x3 : Int32) (u : XS) : bkX s (n + 1) x2 x3 u = (if (hLen (xSh u s)) ≤ x3 then (some (1, u)) else (if x3 < 0 ∨ 40 ≤ (x3).toNatClampNeg then none else (if x2 < 0 ∨ 8 ≤ (x2).toNatClampNeg then none else (if (lg_cmp ((hNum (xSh u s)) (x3).toNatClampNeg) (Int32.toInt64 ((sDue (xAhd u)) (x2).toNatClampNeg))) = 0 then ((fX1_goDay (xAhd u)).bind fun q0 => (bkX s n x2 ((x3 + 1)) (xAhd' u q0))) else (some (0, u)))))) := by
  rcases four hs with rfl | rfl | rfl | rfl
  · simp only [bkX0, xSh0]; exact lX4_isBookedAhead_35_2_1_35_eq n x2 x3 u
  · simp only [bkX1, xSh1]; exact lX4_isBookedAhead_37_2_1_37_eq n x2 x3 u
  · simp only [bkX2, xSh2]; exact lX4_isBookedAhead_39_2_1_39_eq n x2 x3 u
  · simp only [bkX3, xSh3]; exact lX4_isBookedAhead_41_2_1_41_eq n x2 x3 u
theorem readX_eq {s : Nat} (hs : s < 4) (n : Nat) (x2 x4 x5 x6 : Int32) (u : XS) : lX4_read_33 (n + 1) (nI s) x2 x4 x5 x6 u = (if (6 : Int32) ≤ x6 then (lX4_read_23 n (nI s) x2 x4 ((x5 + 1)) u) else ((fX4_startAhead u).bind fun q0 => (if x2 < 0 ∨ 8 ≤ (x2).toNatClampNeg then none else ((bkX s FU x2 0 (xAhd' q0 (sLbl' (sKnd' (xAhd q0) (upd (sKnd (xAhd q0)) (x2).toNatClampNeg x5)) (upd (sLbl (xAhd q0)) (x2).toNatClampNeg x6)))).bind fun q1 => (if q1.1 = 0 then (lX4_read_33 n (nI s) x2 x4 x5 ((x6 + 1)) q1.2) else (lX4_read_33 n (nI s) x2 ((x4 + 1)) x5 ((x6 + 1)) q1.2)))))) := by
  rw [lX4_read_33_eq]
  by_cases c : (6 : Int32) ≤ x6
  · rw [if_pos c, if_pos c]
  · rw [if_neg c, if_neg c]
    congr 1
    funext q0
    by_cases c2 : x2 < 0 ∨ 8 ≤ (x2).toNatClampNeg
    · rw [if_pos c2, if_pos c2]
    · rw [if_neg c2, if_neg c2, if_neg c2]
      rcases four hs with rfl | rfl | rfl | rfl
      · rw [if_pos (rfl : nI 0 = nI 0), fX4_isBookedAhead_35_eq, bkX0]
      · rw [if_neg (show ¬ nI 1 = nI 0 by decide), if_pos (rfl : nI 1 = nI 1), fX4_isBookedAhead_37_eq, bkX1]
      · rw [if_neg (show ¬ nI 2 = nI 0 by decide), if_neg (show ¬ nI 2 = nI 1 by decide), if_pos (rfl : nI 2 = nI 2), fX4_isBookedAhead_39_eq, bkX2]
      · rw [if_neg (show ¬ nI 3 = nI 0 by decide), if_neg (show ¬ nI 3 = nI 1 by decide), if_neg (show ¬ nI 3 = nI 2 by decide), if_pos (rfl : nI 3 = nI 3), fX4_isBookedAhead_41_eq, bkX3]
theorem isBookL {s k t : Nat} (hs : s < 4) (ht : t < k) {x : XS} {m : MS} (hS : ShR (xSh x s) m s) : ∀ (i n n' j l d : Nat) (v : St) (r : F32), i + j = l → i < n → i < n' → l ≤ 40 → hLen (xSh x s) = nI l → WF k d v → d + i ≤ 20000 → Rel v r → ∃ q v' r', bkX s n (nI t) (nI j) (xAhd' x v) = some (q, xAhd' x v') ∧ lX5_isBook_2 n' (nI s) (nI t) (nI j) (mS' m r) = some (q, mS' m r') := by
  obtain ⟨g1, g2, -, g4⟩ := hS
  intro i
  induction i with
  | zero =>
    intro n n' j l d v r hi hn hn' hl40 hl hw hd hR
    obtain ⟨n, rfl⟩ : ∃ q, n = q + 1 := ⟨n - 1, by omega⟩
    obtain ⟨n', rfl⟩ : ∃ q, n' = q + 1 := ⟨n' - 1, by omega⟩
    obtain rfl : j = l := by omega
    refine ⟨1, v, r, ?_, ?_⟩
    · rw [bkX_eq hs, xSh_ahd, hl, if_pos (nI_le (Nat.le_refl j) (by omega))]
    · rw [lX5_isBook_2_eq, if_neg (ix hs), cl (show s < 2 ^ 31 by omega)]
      show (if mSiz m s ≤ nI j then _ else _) = _
      rw [← g2, hl, if_pos (nI_le (Nat.le_refl j) (by omega))]
  | succ i ih =>
    intro n n' j l d v r hi hn hn' hl40 hl hw hd hR
    obtain ⟨n, rfl⟩ : ∃ q, n = q + 1 := ⟨n - 1, by omega⟩
    obtain ⟨n', rfl⟩ : ∃ q, n' = q + 1 := ⟨n' - 1, by omega⟩
    have ht8 : t < 8 := by have := hw.k8; omega
    have hj40 : j < 40 := by omega
    have hgo := X_goDay hw (show d < 20000 by omega)
    obtain ⟨r1, e1, e2⟩ := M_dayS (m := mS' m r) hw (show d < 20000 by omega) hR
    obtain ⟨q, v', r', h1, h2⟩ := ih n n' (j + 1) l (d + 1) (dayS k v) r1 (by omega) (by omega) (by omega) hl40 hl hgo.2 (by omega) e2
    have e3 := M_due (m := mS' m r) hR ht8
    by_cases c : lg_cmp (hNum (xSh x s) j) (Int32.toInt64 (sDue v t)) = 0
    · refine ⟨q, v', r', ?_, ?_⟩
      · rw [bkX_eq hs, xSh_ahd, hl, if_neg (nI_ge (show j < l by omega) (by omega)), if_neg (ix hj40), if_neg (ix ht8), cl (show j < 2 ^ 31 by omega), cl (show t < 2 ^ 31 by omega), xAhd_xAhd', if_pos c, hgo.1, Option.bind_some, nI_1]
        exact h1
      · rw [lX5_isBook_2_eq, if_neg (ix hs), cl (show s < 2 ^ 31 by omega)]
        show (if mSiz m s ≤ nI j then _ else _) = _
        rw [← g2, hl, if_neg (nI_ge (show j < l by omega) (by omega)), n40, if_neg (ix (show 40 * s + j < 160 by omega)), e3, Option.bind_some, cl (show 40 * s + j < 2 ^ 31 by omega)]
        show (if lg_cmp (mNum m (40 * s + j)) _ = 0 then _ else _) = _
        rw [← g4 j hj40, if_pos c, e1, Option.bind_some, nI_1]
        exact h2
    · refine ⟨0, v, r, ?_, ?_⟩
      · rw [bkX_eq hs, xSh_ahd, hl, if_neg (nI_ge (show j < l by omega) (by omega)), if_neg (ix hj40), if_neg (ix ht8), cl (show j < 2 ^ 31 by omega), cl (show t < 2 ^ 31 by omega), xAhd_xAhd', if_neg c]
      · rw [lX5_isBook_2_eq, if_neg (ix hs), cl (show s < 2 ^ 31 by omega)]
        show (if mSiz m s ≤ nI j then _ else _) = _
        rw [← g2, hl, if_neg (nI_ge (show j < l by omega) (by omega)), n40, if_neg (ix (show 40 * s + j < 160 by omega)), e3, Option.bind_some, cl (show 40 * s + j < 2 ^ 31 by omega)]
        show (if lg_cmp (mNum m (40 * s + j)) _ = 0 then _ else _) = _
        rw [← g4 j hj40, if_neg c]
theorem readP {x0 : XS} {m0 : MS} {s k d t g : Nat} (h : Inv x0 m0) (hs : s < 4) (hw : WF k d (xRoom x0)) (hd : d ≤ 9999) (ht : t < k) (hg : g < 6) {b : F32} (hb : ∀ q, q < 69 → b q = mS m0 q) : ∀ (i p n n' : Nat) (c : Int32) (a : St) (r : F32), i + p = 6 → (∀ q, q < 69 → r q = mS m0 q) → ∃ c' a' r', lX4_read_33 (n + i + 1) (nI s) (nI t) c (nI g) (nI p) (xAhd' x0 a) = lX4_read_23 n (nI s) (nI t) c' (nI (g + 1)) (xAhd' x0 a') ∧ lX5_read_27 (n' + i) (nI s) (nI t) c (nI (6 * g + p)) (mS' (mAsd' m0 b) r) = lX5_read_27 n' (nI s) (nI t) c' (nI (6 * (g + 1))) (mS' (mAsd' m0 b) r') ∧ ∀ q, q < 69 → r' q = mS m0 q := by
  have hR := h.2.1
  have hS := h.2.2.2.2.2 s hs
  obtain ⟨l, hl, g3⟩ := hS.2.2.1
  have hk := hw.k8
  have ht8 : t < 8 := by omega
  intro i
  induction i with
  | zero =>
    intro p n n' c a r hi hr
    obtain rfl : p = 6 := by omega
    refine ⟨c, a, r, ?_, by rw [show 6 * g + 6 = 6 * (g + 1) by omega, Nat.add_zero], hr⟩
    rw [readX_eq hs, if_pos (by decide), nI_1, Nat.add_zero]
  | succ i ih =>
    intro p n n' c a r hi hr
    obtain ⟨a2, ea, wa, ra⟩ := X_start (xAhd' x0 a)
    have hwa := wa k d hw
    have hra := ra _ hR
    have hwu := (hwa.knd (t := t) (x := nI g) (in_nI (by omega))).lbl (t := t) (x := nI p) (in_nI (by omega))
    have hru := ((hra.knd ht8 (nI g)).lbl ht8 (nI p))
    have hru2 : Rel (sLbl' (sKnd' a2 (upd (sKnd a2) t (nI g))) (upd (sLbl a2) t (nI p))) (upd (upd r (21 + 6 * t) (nI g)) (22 + 6 * t) (nI p)) := hru.cong (fun q hq => by rw [upd_at, upd_at, upd_at, upd_at, hr q hq])
    obtain ⟨q, v', r', e1, e2⟩ := isBookL (x := xAhd' x0 a) (m := mAsd' m0 b) hs ht hS l FU FU 0 l d _ _ (by omega) (by rw [FU_eq]; omega) (by rw [FU_eq]; omega) hl g3 hwu (by omega) hru2
    replace e1 : bkX s FU (nI t) 0 (xAhd' (xAhd' x0 a) (sLbl' (sKnd' a2 (upd (sKnd a2) t (nI g))) (upd (sLbl a2) t (nI p)))) = some (q, xAhd' (xAhd' x0 a) v') := e1
    have q6 : nI (6 * g + p) / 6 = nI g := by
      rw [show (6 : Int32) = nI 6 from rfl, pk_div (by omega) (by decide) (by decide), show (6 * g + p) / 6 = g by omega]
    have q7 : nI (6 * g + p) - nI (6 * g + p) / 6 * 6 = nI p := by
      rw [show (6 : Int32) = nI 6 from rfl, pk_rem (by omega) (by decide) (by decide), show (6 * g + p) % 6 = p by omega]
    have hx : ∀ n, lX4_read_33 (n + 1) (nI s) (nI t) c (nI g) (nI p) (xAhd' x0 a) = if q = 0 then lX4_read_33 n (nI s) (nI t) c (nI g) (nI (p + 1)) (xAhd' x0 v') else lX4_read_33 n (nI s) (nI t) (c + 1) (nI g) (nI (p + 1)) (xAhd' x0 v') := fun n => by
      rw [readX_eq hs, if_neg (show ¬ (6 : Int32) ≤ nI p from nI_ge (show p < 6 by omega) (by decide)), ea, Option.bind_some, if_neg (ix ht8), cl (show t < 2 ^ 31 by omega)]
      show ((bkX s FU (nI t) 0 (xAhd' (xAhd' x0 a) (sLbl' (sKnd' a2 (upd (sKnd a2) t (nI g))) (upd (sLbl a2) t (nI p))))).bind _) = _
      rw [e1, Option.bind_some, nI_1]
      rfl
    have hm : ∀ n', ∃ r2, (∀ q, q < 69 → r2 q = mS m0 q) ∧ lX5_read_27 (n' + 1) (nI s) (nI t) c (nI (6 * g + p)) (mS' (mAsd' m0 b) r) = if q = 0 then lX5_read_27 n' (nI s) (nI t) c (nI (6 * g + (p + 1))) (mS' (mAsd' m0 b) r2) else lX5_read_27 n' (nI s) (nI t) (c + 1) (nI (6 * g + (p + 1))) (mS' (mAsd' m0 b) r2) := fun n' => by
      replace e2 : fX5_isBook (nI s) (nI t) (mS' (mS' (mAsd' m0 b) r) (upd (upd (mS (mS' (mAsd' m0 b) r)) (21 + 6 * t) (nI g)) (22 + 6 * t) (nI p))) = some (q, mS' (mAsd' m0 b) r') := by
        rw [fX5_isBook_eq]; exact e2
      by_cases cq : q = 0
      · obtain ⟨r2, e3, e4⟩ := M_takesBack (c + 0) (mS' (mAsd' m0 b) r')
        refine ⟨r2, fun q hq => (e4 q hq).trans (hb q hq), ?_⟩
        rw [lX5_read_27_eq, if_neg (show ¬ (36 : Int32) ≤ nI (6 * g + p) from nI_ge (show 6 * g + p < 36 by omega) (by decide)), M_spot0, Option.bind_some, if_neg (ix (show 21 + 6 * t < 69 by omega)), M_spot1, Option.bind_some, if_neg (ix (show 22 + 6 * t < 69 by omega)), cl (show 21 + 6 * t < 2 ^ 31 by omega), cl (show 22 + 6 * t < 2 ^ 31 by omega), q7, q6, e2, Option.bind_some, if_pos cq, if_pos cq, e3, Option.bind_some, nI_1, Int32.add_zero]
        rfl
      · obtain ⟨r2, e3, e4⟩ := M_takesBack (c + 1) (mS' (mAsd' m0 b) r')
        refine ⟨r2, fun q hq => (e4 q hq).trans (hb q hq), ?_⟩
        rw [lX5_read_27_eq, if_neg (show ¬ (36 : Int32) ≤ nI (6 * g + p) from nI_ge (show 6 * g + p < 36 by omega) (by decide)), M_spot0, Option.bind_some, if_neg (ix (show 21 + 6 * t < 69 by omega)), M_spot1, Option.bind_some, if_neg (ix (show 22 + 6 * t < 69 by omega)), cl (show 21 + 6 * t < 2 ^ 31 by omega), cl (show 22 + 6 * t < 2 ^ 31 by omega), q7, q6, e2, Option.bind_some, if_neg cq, if_neg cq, e3, Option.bind_some, nI_1]
        rfl
    obtain ⟨r2, hr2, hm2⟩ := hm (n' + i)
    rw [show n + (i + 1) + 1 = (n + i + 1) + 1 by omega, hx, show n' + (i + 1) = (n' + i) + 1 by omega, hm2]
    by_cases cq : q = 0
    · rw [if_pos cq, if_pos cq]
      exact ih (p + 1) n n' c v' r2 (by omega) hr2
    · rw [if_neg cq, if_neg cq]
      exact ih (p + 1) n n' (c + 1) v' r2 (by omega) hr2
theorem readL {x0 : XS} {m0 : MS} {s k d t : Nat} (h : Inv x0 m0) (hs : s < 4) (hw : WF k d (xRoom x0)) (hd : d ≤ 9999) (ht : t < k) {b : F32} (hb : ∀ q, q < 69 → b q = mS m0 q) : ∀ (i g n n' : Nat) (c : Int32) (a : St) (r : F32), i + g = 6 → (∀ q, q < 69 → r q = mS m0 q) → Same (lX4_read_23 (n + 8 * i + 1) (nI s) (nI t) c (nI g) (xAhd' x0 a)) (lX5_read_27 (n' + 6 * i + 1) (nI s) (nI t) c (nI (6 * g)) (mS' (mAsd' m0 b) r)) := by
  have hR := h.2.1
  intro i
  induction i with
  | zero =>
    intro g n n' c a r hi hr
    obtain rfl : g = 6 := by omega
    rw [lX4_read_23_eq, lX5_read_27_eq, if_pos (by decide), if_pos (by decide)]
    exact same_of (h.look (hR.cong hr))
  | succ i ih =>
    intro g n n' c a r hi hr
    obtain ⟨c', a', r', e1, e2, e3⟩ := readP h hs hw hd ht (show g < 6 by omega) hb 6 0 (n + 8 * i + 1) (n' + 6 * i + 1) c a r (by omega) hr
    rw [show n + 8 * (i + 1) + 1 = (n + 8 * i + 1 + 6 + 1) + 1 by omega, lX4_read_23_eq, if_neg (show ¬ (6 : Int32) ≤ nI g from nI_ge (show g < 6 by omega) (by decide)), show n' + 6 * (i + 1) + 1 = n' + 6 * i + 1 + 6 by omega, show lX4_read_33 (n + 8 * i + 1 + 6 + 1) (nI s) (nI t) c (nI g) 0 (xAhd' x0 a) = _ from e1, show lX5_read_27 (n' + 6 * i + 1 + 6) (nI s) (nI t) c (nI (6 * g)) (mS' (mAsd' m0 b) r) = _ from e2]
    exact ih (g + 1) n n' c' a' r' (by omega) e3
theorem S_read {x : XS} {m : MS} (h : Inv x m) (a0 a1 : Int32) : Same (fX4_read a0 a1 x) (fX5_read a0 a1 m) := by
  obtain ⟨r, e1, e2, hr⟩ := page_same h a0 a1
  rcases hr with ⟨hr, hc⟩ | ⟨rfl, s, k, d, t, hs, rfl, hw, hd, ht, rfl⟩
  · rw [fX4_read_eq, fX5_read_eq, e1, e2, Option.bind_some, Option.bind_some, if_neg hr, if_neg hr]
    exact sf h hc
  · obtain ⟨b, e3, e4⟩ := M_laysAside m
    rw [fX4_read_eq, fX5_read_eq, e1, e2, Option.bind_some, Option.bind_some, if_pos (show ((0 : Int32), x).1 = 0 from rfl), if_pos (show ((0 : Int32), m).1 = 0 from rfl), e3, Option.bind_some, show FU = 1951 + 8 * 6 + 1 by rw [FU_eq]]
    exact readL h hs hw hd ht e4 6 0 1951 1963 0 (xAhd x) (mS m) (by omega) (fun _ _ => rfl)
