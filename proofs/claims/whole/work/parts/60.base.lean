-- PLAIN FACTS (the families fa_, fb_ are the kit's to paste)
theorem fa_lt (a b : Int32) : a < b ↔ a.toInt < b.toInt := Int32.lt_iff_toInt_lt
theorem fa_le (a b : Int32) : a ≤ b ↔ a.toInt ≤ b.toInt := Int32.le_iff_toInt_le
theorem fa_eq (a b : Int32) : a = b ↔ a.toInt = b.toInt := Int32.toInt_inj.symm
def In (x : Int32) (N : Nat) : Prop := ∃ a : Nat, a ≤ N ∧ x = nI a
theorem In.mono {x : Int32} {N M : Nat} (h : In x N) (hNM : N ≤ M) : In x M := by
  obtain ⟨a, h1, h2⟩ := h
  exact ⟨a, Nat.le_trans h1 hNM, h2⟩
theorem in_nI {a N : Nat} (h : a ≤ N) : In (nI a) N := ⟨a, h, rfl⟩
theorem lit_nI (n : Nat) : (OfNat.ofNat n : Int32) = nI n := rfl
theorem In.int {x : Int32} {N : Nat} (hN : N < 2 ^ 31) (h : In x N) : 0 ≤ x.toInt ∧ x.toInt ≤ N := by
  obtain ⟨a, h1, rfl⟩ := h
  rw [nI_toInt (by omega)]
  omega
theorem in_of {x : Int32} {N : Nat} (h1 : 0 ≤ x.toInt) (h2 : x.toInt ≤ N) (hN : N < 2 ^ 31) : In x N := by
  obtain ⟨j, hj, rfl⟩ := nI_of (x := x) (fun h => by
    have := (fa_lt x 0).mp h
    have e : (0 : Int32).toInt = 0 := rfl
    omega)
  rw [nI_toInt hj] at h2
  exact ⟨j, by omega, rfl⟩
theorem add_int {x y : Int32} (h1 : -2147483648 ≤ x.toInt + y.toInt) (h2 : x.toInt + y.toInt < 2147483648) : (x + y).toInt = x.toInt + y.toInt := by
  rw [Int32.toInt_add]
  exact Int.bmod_eq_of_le (by omega) (by omega)
theorem sub_int {x y : Int32} (h1 : -2147483648 ≤ x.toInt - y.toInt) (h2 : x.toInt - y.toInt < 2147483648) : (x - y).toInt = x.toInt - y.toInt := by
  rw [Int32.toInt_sub]
  exact Int.bmod_eq_of_le (by omega) (by omega)
theorem ix {t N : Nat} (h : t < N) (hN : N < 2 ^ 31 := by decide) : ¬ (nI t < 0 ∨ N ≤ (nI t).toNatClampNeg) := nI_in h hN
theorem ix' {t N : Nat} (h : t < N) (hN : N < 2 ^ 31 := by decide) : ¬ (nI t < 0 ∨ N ≤ t) := by
  rintro (z | z)
  · exact nI_pos (by omega) z
  · omega
theorem cl {t : Nat} (h : t < 2 ^ 31) : (nI t).toNatClampNeg = t := nI_clamp h
-- STATIONS: what holds in each
def WFp (u : St) (p : Nat) : Prop := In (sMns u p) 999999 ∧ In (sErn u p) 999 ∧ In (sSpd u p) 999
def WFt (d : Nat) (u : St) (t : Nat) : Prop := In (sKnd u t) 5 ∧ In (sLbl u t) 5 ∧ In (sLft u t) d ∧ In (sDue u t) 999999 ∧ In (sWth u t) 9999 ∧ (sWit u t = -1 ∨ In (sWit u t) 5)
/-- k things on day d -/
def WF (k d : Nat) (u : St) : Prop := k ≤ 8 ∧ d ≤ 20000 ∧ sNum u = nI k ∧ sDay u = nI d ∧ In (sTkn u) 99999999 ∧ (∀ p, p < 6 → WFp u p) ∧ ∀ t, t < k → WFt d u t
/-- the label as a place among people -/
def lbN (u : St) (t : Nat) : Nat := (sLbl u t).toNatClampNeg
theorem WF.lb {k d : Nat} {u : St} (h : WF k d u) {t : Nat} (ht : t < k) : lbN u t < 6 ∧ sLbl u t = nI (lbN u t) := by
  obtain ⟨a, h1, h2⟩ := (h.2.2.2.2.2.2 t ht).2.1
  have e : lbN u t = a := by
    unfold lbN
    rw [h2]
    exact cl (by omega)
  rw [e]
  exact ⟨by omega, h2⟩
-- the same words for the class and the reference
def mountS (u : St) (t : Nat) : Int32 :=
  if sKnd u t = 1 then 6 else if sKnd u t = 2 then (if (sDay u - sLft u t) - (sDay u - sLft u t) / 2 * 2 = 0 then 1 else 0) else if sKnd u t = 3 then 2 + sWth u t / 100
  else if sKnd u t = 4 then 6 + (sDay u - sLft u t) / 10 else if sKnd u t = 5 then (if (sDay u - sLft u t) - (sDay u - sLft u t) / 2 * 2 = 0 then 1 else 0) + 1 else 2
def sellS (u : St) (t : Nat) : Bool :=
  if sKnd u t = 2 then decide (¬ sDue u t ≤ sWth u t / 2) else if sKnd u t = 3 then false else if sKnd u t = 4 then (decide (¬ sDay u - sLft u t < 30) && decide (¬ sDue u t ≤ sWth u t)) else if sKnd u t = 5 then decide (¬ sDue u t ≤ sWth u t / 2) else decide (¬ sDue u t ≤ sWth u t)
def minS (a b : Int32) : Int32 := if b < a then b else a
def bidS (u : St) (t p : Nat) : Int32 :=
  if sKnd u t = 1 then minS (sMns u p) (sWth u t / 2 + sMns u p / 100) else if sKnd u t = 2 then minS (sMns u p) (sWth u t / 2) else if sKnd u t = 3 then 0
  else if sKnd u t = 4 then minS (sMns u p) (2 * (sWth u t / 2 + sMns u p / 100)) else if sKnd u t = 5 then minS (sMns u p) (sWth u t / 2 + 5) else minS (sMns u p) (sWth u t / 2)
def thereS (u : St) (t : Nat) : Bool := decide (sWit u t = -1)
def canS (u : St) (t : Nat) : Bool := thereS u t && decide (¬ sMns u (lbN u t) < sDue u t)
def handS (u : St) (t p : Nat) (x : Int32) : St :=
  sWit' (sDue' (sLbl' (sMns' (sTkn' u (minS 99999999 (sTkn u + x))) (upd (sMns u) p (sMns u p - x))) (upd (sLbl u) t (nI p))) (upd (sDue u) t 0)) (upd (sWit u) t (nI p))
def b2i (b : Bool) : Int32 := if b = true then 1 else 0
theorem b2i_0 {b : Bool} : b2i b = 0 ↔ b = false := by cases b <;> decide
-- the class's readers
theorem X_isThere {u : St} {t : Nat} (h : t < 8) : fX1_isThere (nI t) u = some (b2i (thereS u t), u) := by
  rw [fX1_isThere_eq, if_neg (ix h), cl (by omega)]
  unfold thereS b2i
  by_cases e : sWit u t = -1
  · rw [if_pos e]; simp [e]
  · rw [if_neg e]; simp [e]
theorem X_mountOf {u : St} {t : Nat} (h : t < 8) : fX1_mountOf (nI t) u = some (mountS u t, u) := by
  rw [fX1_mountOf_eq]
  simp only [if_neg (ix' h), cl (show t < 2 ^ 31 by omega)]
  unfold mountS
  by_cases e : (sDay u - sLft u t) - (sDay u - sLft u t) / 2 * 2 = 0 <;> simp only [e, if_true, if_false] <;> (repeat' split) <;> first | rfl | simp_all
theorem X_maySell {u : St} {t : Nat} (h : t < 8) : fX1_maySell (nI t) u = some (b2i (sellS u t), u) := by
  rw [fX1_maySell_eq]
  simp only [if_neg (ix' h), cl (show t < 2 ^ 31 by omega)]
  unfold sellS b2i
  (repeat' split) <;> simp_all
theorem X_offerOf {u : St} {t p : Nat} (h : t < 8) (hp : p < 6) : fX1_offerOf (nI t) (nI p) u = some (bidS u t p, u) := by
  rw [fX1_offerOf_eq]
  simp only [if_neg (ix' h), if_neg (ix' hp), cl (show t < 2 ^ 31 by omega), cl (show p < 2 ^ 31 by omega)]
  unfold bidS minS
  (repeat' split) <;> first | rfl | simp_all
theorem X_canBeCalled {u : St} {t : Nat} (h : t < 8) (hl : lbN u t < 6 ∧ sLbl u t = nI (lbN u t)) : fX1_canBeCalled (nI t) u = some (b2i (canS u t), u) := by
  rw [fX1_canBeCalled_eq, X_isThere h]
  simp only [Option.bind_some, if_neg (ix' h), cl (show t < 2 ^ 31 by omega), b2i_0]
  unfold canS
  cases e : thereS u t
  · simp [b2i]
  · rw [hl.2]
    simp only [if_neg (ix' hl.1), cl (show lbN u t < 2 ^ 31 by omega), Bool.true_and]
    unfold b2i
    by_cases e2 : sMns u (lbN u t) < sDue u t
    · simp [e2]
    · simp [e2]
theorem X_handOver {u : St} {t p : Nat} {x : Int32} (h : t < 8) (hp : p < 6) : fX1_handOver (nI t) (nI p) x u = some (handS u t p x) := by
  rw [fX1_handOver_eq]
  simp only [if_neg (ix' h), if_neg (ix' hp), cl (show t < 2 ^ 31 by omega), cl (show p < 2 ^ 31 by omega)]
  rfl
