theorem fa_and (a b : Nat) : nI a &&& nI b = nI (a &&& b) := by
  apply Int32.toBitVec_inj.1
  show BitVec.ofNat 32 a &&& BitVec.ofNat 32 b = BitVec.ofNat 32 (a &&& b)
  apply BitVec.eq_of_getLsbD_eq
  intro i hi
  simp [hi]
theorem fa_or (a b : Nat) : nI a ||| nI b = nI (a ||| b) := by
  apply Int32.toBitVec_inj.1
  show BitVec.ofNat 32 a ||| BitVec.ofNat 32 b = BitVec.ofNat 32 (a ||| b)
  apply BitVec.eq_of_getLsbD_eq
  intro i hi
  simp [hi]
theorem fa_bit {n j : Nat} (hj : j < 31) : nI n &&& nI (2 ^ j) = 0 ↔ n.testBit j = false := by
  have h2 : (2 : Nat) ^ j < 2 ^ 31 := Nat.pow_lt_pow_right (by decide) hj
  have hle : n &&& 2 ^ j ≤ 2 ^ j := Nat.and_le_right
  have e : n &&& 2 ^ j = 0 ↔ n.testBit j = false := by
    constructor
    · intro h
      have h1 : (n &&& 2 ^ j).testBit j = false := by rw [h]; simp
      rw [Nat.testBit_and] at h1
      first | simpa using h1 | simpa [Nat.testBit_two_pow_self] using h1 | simpa [Nat.testBit_two_pow] using h1
    · intro h
      apply Nat.eq_of_testBit_eq
      intro i
      rw [Nat.testBit_and]
      by_cases hi : j = i
      · subst hi; simp [h]
      · first | (simp [Nat.testBit_two_pow, hi]; done) | (simp [Nat.testBit_two_pow_of_ne hi]; done)
  rw [fa_and]
  constructor
  · intro h
    apply e.mp
    rcases Nat.eq_zero_or_pos (n &&& 2 ^ j) with z | z
    · exact z
    · exact absurd h (nI_ne0 z (Nat.lt_of_le_of_lt hle h2))
  · intro h
    rw [e.mpr h]; exact nI_0
theorem fb_bit_set (n j i : Nat) : (n ||| 2 ^ j).testBit i = (n.testBit i || decide (i = j)) := by
  rw [Nat.testBit_or]
  by_cases h : j = i
  · subst h; simp
  · have h2 : ¬ i = j := fun e => h e.symm
    first | (simp [Nat.testBit_two_pow, h, h2]; done) | (simp [Nat.testBit_two_pow_of_ne h, h2]; done)
-- THE CALLS OF A DAY: thing by thing, or person by person, it comes to the same
def sumI (f : Nat → Int32) : Nat → Int32
  | 0 => 0
  | n + 1 => sumI f n + f n
def sumN (f : Nat → Nat) : Nat → Nat
  | 0 => 0
  | n + 1 => sumN f n + f n
theorem sumI_cong {f g : Nat → Int32} : ∀ n, (∀ t, t < n → f t = g t) → sumI f n = sumI g n
  | 0, _ => rfl
  | n + 1, h => by
    show sumI f n + f n = sumI g n + g n
    rw [sumI_cong n (fun t ht => h t (by omega)), h n (by omega)]
theorem sumI_zero {f : Nat → Int32} : ∀ n, (∀ t, t < n → f t = 0) → sumI f n = 0
  | 0, _ => rfl
  | n + 1, h => by
    show sumI f n + f n = 0
    rw [sumI_zero n (fun t ht => h t (by omega)), h n (by omega)]
    rfl
theorem sumI_add {f g : Nat → Int32} {a : Nat} {x : Int32} (hx : g a = f a + x) (hne : ∀ t, t ≠ a → g t = f t) : ∀ n, a < n → sumI g n = sumI f n + x
  | 0, h => absurd h (Nat.not_lt_zero a)
  | n + 1, h => by
    show sumI g n + g n = sumI f n + f n + x
    by_cases e : a = n
    · subst e
      rw [hx, sumI_cong a (fun t ht => hne t (by omega)), Int32.add_assoc]
    · rw [sumI_add hx hne n (by omega), hne n (fun z => e z.symm), Int32.add_assoc, Int32.add_assoc, Int32.add_comm x (f n)]
theorem sumN_cong {f g : Nat → Nat} : ∀ n, (∀ t, t < n → f t = g t) → sumN f n = sumN g n
  | 0, _ => rfl
  | n + 1, h => by
    show sumN f n + f n = sumN g n + g n
    rw [sumN_cong n (fun t ht => h t (by omega)), h n (by omega)]
theorem sumN_add {f g : Nat → Nat} {a x : Nat} (hx : g a = f a + x) (hne : ∀ t, t ≠ a → g t = f t) : ∀ n, a < n → sumN g n = sumN f n + x
  | 0, h => absurd h (Nat.not_lt_zero a)
  | n + 1, h => by
    show sumN g n + g n = sumN f n + f n + x
    by_cases e : a = n
    · subst e
      rw [hx, sumN_cong a (fun t ht => hne t (by omega))]
      omega
    · rw [sumN_add hx hne n (by omega), hne n (fun z => e z.symm)]
      omega
theorem sumN_le {f : Nat → Nat} {c : Nat} : ∀ n, (∀ t, t < n → f t ≤ c) → sumN f n ≤ n * c
  | 0, _ => Nat.zero_le _
  | n + 1, h => by
    show sumN f n + f n ≤ (n + 1) * c
    have h1 := sumN_le (c := c) n (fun t ht => h t (by omega))
    have h2 := h n (by omega)
    rw [Nat.succ_mul]
    omega
theorem minS_nI {a b : Nat} (ha : a < 2 ^ 31) (hb : b < 2 ^ 31) : minS (nI a) (nI b) = nI (min a b) := by
  unfold minS
  by_cases h : b < a
  · rw [if_pos (nI_lt h ha), Nat.min_eq_right (by omega)]
  · rw [if_neg (nI_nlt (by omega) hb), Nat.min_eq_left (by omega)]
def dN (u : St) (t : Nat) : Nat := (sDue u t).toNatClampNeg
/-- the things of S have been called for -/
def CS (u : St) (S : Nat → Bool) : St :=
  (sDay u, nI (min 99999999 ((sTkn u).toNatClampNeg + sumN (fun t => if S t = true then dN u t else 0) 8)), (fun p => sMns u p - sumI (fun t => if (S t && decide (lbN u t = p)) = true then sDue u t else 0) 8), sErn u, sSpd u, sNum u, sKnd u, sLbl u, sLft u, (fun t => if S t = true then 0 else sDue u t), sWth u, (fun t => if S t = true then sLbl u t else sWit u t))
theorem CS_congr {u : St} {S S' : Nat → Bool} (h : ∀ t, S t = S' t) : CS u S = CS u S' := by
  have : S = S' := funext h
  rw [this]
theorem CS_0 {k d : Nat} {u : St} (h : WF k d u) : CS u (fun _ => false) = u := by
  obtain ⟨a, ha, ea⟩ := h.2.2.2.2.1
  have e1 : sumN (fun _ => if false = true then dN u 0 else 0) 8 = 0 := rfl
  have e2 : nI (min 99999999 ((sTkn u).toNatClampNeg + sumN (fun t => if false = true then dN u t else 0) 8)) = sTkn u := by
    rw [show sumN (fun t => if false = true then dN u t else 0) 8 = 0 from rfl, ea, cl (by omega), Nat.add_zero, Nat.min_eq_right (by omega)]
  have e3 : (fun p => sMns u p - sumI (fun t => if (false && decide (lbN u t = p)) = true then sDue u t else 0) 8) = sMns u := by
    funext p
    rw [show sumI (fun t => if (false && decide (lbN u t = p)) = true then sDue u t else 0) 8 = 0 from rfl, Int32.sub_zero]
  unfold CS
  rw [e2, e3]
  rfl
theorem CS_add {k d : Nat} {u : St} (h : WF k d u) {S : Nat → Bool} {a : Nat} (ha : a < k) (hS : S a = false) (hS8 : ∀ t, S t = true → t < k) : CS u (fun t => decide (t = a) || S t) = handS (CS u S) a (lbN u a) (sDue u a) := by
  obtain ⟨x, hx, ex⟩ := (h.t ha).2.2.2.1
  obtain ⟨y, hy, ey⟩ := h.2.2.2.2.1
  have h8 := h.k8
  have hl := h.lb ha
  have c1 : sumN (fun t => if (decide (t = a) || S t) = true then dN u t else 0) 8 = sumN (fun t => if S t = true then dN u t else 0) 8 + x := by
    refine sumN_add (a := a) ?_ (fun t ht => ?_) 8 (by omega)
    · simp [hS, dN, ex, cl (show x < 2 ^ 31 by omega)]
    · simp [ht]
  have c2 : sumN (fun t => if S t = true then dN u t else 0) 8 ≤ 8 * 999999 := by
    refine sumN_le 8 (fun t _ => ?_)
    by_cases e : S t = true
    · rw [if_pos e]
      obtain ⟨z, hz, ez⟩ := (h.t (hS8 t e)).2.2.2.1
      unfold dN
      rw [ez, cl (by omega)]
      exact hz
    · rw [if_neg e]; omega
  have e1 : nI (min 99999999 ((sTkn u).toNatClampNeg + sumN (fun t => if (decide (t = a) || S t) = true then dN u t else 0) 8)) = minS 99999999 (nI (min 99999999 ((sTkn u).toNatClampNeg + sumN (fun t => if S t = true then dN u t else 0) 8)) + sDue u a) := by
    rw [ex, nI_add, show (99999999 : Int32) = nI 99999999 from rfl, minS_nI (by decide) (by omega), c1]
    congr 1
    omega
  have e2 : (fun p => sMns u p - sumI (fun t => if ((decide (t = a) || S t) && decide (lbN u t = p)) = true then sDue u t else 0) 8) = upd (fun p => sMns u p - sumI (fun t => if (S t && decide (lbN u t = p)) = true then sDue u t else 0) 8) (lbN u a) ((fun p => sMns u p - sumI (fun t => if (S t && decide (lbN u t = p)) = true then sDue u t else 0) 8) (lbN u a) - sDue u a) := by
    funext p
    rw [upd_at]
    by_cases e : p = lbN u a
    · subst e
      rw [if_pos rfl]
      have : sumI (fun t => if ((decide (t = a) || S t) && decide (lbN u t = lbN u a)) = true then sDue u t else 0) 8 = sumI (fun t => if (S t && decide (lbN u t = lbN u a)) = true then sDue u t else 0) 8 + sDue u a := by
        refine sumI_add (a := a) ?_ (fun t ht => ?_) 8 (by omega)
        · simp [hS]
        · simp [ht]
      rw [this]
      show sMns u (lbN u a) - (_ + sDue u a) = sMns u (lbN u a) - _ - sDue u a
      rw [Int32.sub_eq_add_neg, Int32.sub_eq_add_neg, Int32.sub_eq_add_neg, Int32.neg_add, Int32.add_assoc, Int32.sub_eq_add_neg]
    · rw [if_neg e]
      have : sumI (fun t => if ((decide (t = a) || S t) && decide (lbN u t = p)) = true then sDue u t else 0) 8 = sumI (fun t => if (S t && decide (lbN u t = p)) = true then sDue u t else 0) 8 := by
        refine sumI_cong 8 (fun t _ => ?_)
        by_cases e3 : t = a
        · subst e3
          have e4 : ¬ lbN u t = p := fun z => e z.symm
          simp [e4]
        · simp [e3]
      rw [this]
  have e3 : sLbl u = upd (sLbl u) a (nI (lbN u a)) := by
    funext t
    rw [upd_at]
    split
    · rename_i e; subst e; exact hl.2
    · rfl
  have e4 : (fun t => if (decide (t = a) || S t) = true then 0 else sDue u t) = upd (fun t => if S t = true then 0 else sDue u t) a 0 := by
    funext t
    rw [upd_at]
    by_cases e : t = a
    · simp [e]
    · simp [e]
  have e5 : (fun t => if (decide (t = a) || S t) = true then sLbl u t else sWit u t) = upd (fun t => if S t = true then sLbl u t else sWit u t) a (nI (lbN u a)) := by
    funext t
    rw [upd_at]
    by_cases e : t = a
    · subst e; simp [← hl.2]
    · simp [e]
  show (sDay u, _, _, sErn u, sSpd u, sNum u, sKnd u, sLbl u, sLft u, _, sWth u, _) = _
  rw [e1, e2, e4, e5]
  have e6 : handS (CS u S) a (lbN u a) (sDue u a) = (sDay u, minS 99999999 (nI (min 99999999 ((sTkn u).toNatClampNeg + sumN (fun t => if S t = true then dN u t else 0) 8)) + sDue u a), upd (fun p => sMns u p - sumI (fun t => if (S t && decide (lbN u t = p)) = true then sDue u t else 0) 8) (lbN u a) ((fun p => sMns u p - sumI (fun t => if (S t && decide (lbN u t = p)) = true then sDue u t else 0) 8) (lbN u a) - sDue u a), sErn u, sSpd u, sNum u, sKnd u, upd (sLbl u) a (nI (lbN u a)), sLft u, upd (fun t => if S t = true then 0 else sDue u t) a 0, sWth u, upd (fun t => if S t = true then sLbl u t else sWit u t) a (nI (lbN u a))) := rfl
  rw [e6, ← e3]
theorem CS_can {u : St} {S : Nat → Bool} {j : Nat} (hj : S j = false) (hs : ∀ t, t < 8 → S t = true → lbN u t ≠ lbN u j) : canS (CS u S) j = canS u j := by
  have e1 : sWit (CS u S) j = sWit u j := by
    show (if S j = true then sLbl u j else sWit u j) = _
    rw [hj]; rfl
  have e2 : sDue (CS u S) j = sDue u j := by
    show (if S j = true then 0 else sDue u j) = _
    rw [hj]; rfl
  have e3 : lbN (CS u S) j = lbN u j := rfl
  have e4 : sMns (CS u S) (lbN u j) = sMns u (lbN u j) := by
    show sMns u (lbN u j) - sumI (fun t => if (S t && decide (lbN u t = lbN u j)) = true then sDue u t else 0) 8 = _
    rw [sumI_zero 8 (fun t ht => by
      cases c : S t
      · rfl
      · have := hs t ht c
        simp [this]), Int32.sub_zero]
  unfold canS thereS
  rw [e1, e2, e3, e4]
/-- the least of its label that can be called for -/
def cal (u : St) (t : Nat) : Prop := canS u t = true ∧ ∀ t', t' < t → lbN u t' = lbN u t → canS u t' = false
theorem cal_one {u : St} {s t : Nat} (hs : cal u s) (ht : cal u t) (h : lbN u s = lbN u t) : s = t := by
  rcases Nat.lt_trichotomy s t with c | c | c
  · have := ht.2 s c h; rw [hs.1] at this; cases this
  · exact c
  · have := hs.2 t c h.symm; rw [ht.1] at this; cases this
theorem cal_of {u : St} : ∀ (t : Nat), canS u t = true → ∃ s, s ≤ t ∧ lbN u s = lbN u t ∧ cal u s := by
  intro t
  induction t using Nat.strongRecOn with
  | _ t ih =>
    intro h
    by_cases c : ∃ s, s < t ∧ lbN u s = lbN u t ∧ canS u s = true
    · obtain ⟨s, h1, h2, h3⟩ := c
      obtain ⟨r, g1, g2, g3⟩ := ih s h1 h3
      exact ⟨r, by omega, g2.trans h2, g3⟩
    · refine ⟨t, Nat.le_refl t, rfl, h, fun s hs hl => ?_⟩
      cases e : canS u s
      · rfl
      · exact absurd ⟨s, hs, hl, e⟩ c
theorem bitQ : ∀ q, q < 6 → (1 : Int32) <<< (nI q &&& 31) = nI (2 ^ q) := by decide
theorem X_callCS {k d : Nat} {u : St} (h : WF k d u) [DecidablePred (cal u)] : ∀ j, j ≤ k → (callF j u).2 = CS u (fun t => decide (t < j) && decide (cal u t)) ∧ ∃ n, (callF j u).1 = nI n ∧ ∀ q, q < 6 → (n.testBit q = true ↔ ∃ t, t < j ∧ cal u t ∧ lbN u t = q)
  | 0, _ => by
    refine ⟨?_, 0, rfl, fun q _ => ?_⟩
    · rw [CS_congr (S' := fun _ => false) (fun t => by simp)]
      exact (CS_0 h).symm
    · simp
  | j + 1, hj => by
    obtain ⟨h1, n, h2, h3⟩ := X_callCS h j (by omega)
    have hjk : j < k := by omega
    have h8 := h.k8
    have hl := h.lb hjk
    have eb : bitS (callF j u).2 j = nI (2 ^ lbN u j) := by
      rw [h1]
      show (1 : Int32) <<< (sLbl u j &&& 31) = _
      rw [hl.2]
      exact bitQ _ hl.1
    have el : lbN (callF j u).2 j = lbN u j := by rw [h1]; rfl
    have ed : sDue (callF j u).2 j = sDue u j := by
      rw [h1]
      show (if (decide (j < j) && decide (cal u j)) = true then 0 else sDue u j) = _
      simp
    unfold callF
    rw [eb, h2, el, ed]
    have hcond : (nI n &&& nI (2 ^ lbN u j) = 0) ↔ n.testBit (lbN u j) = false := fa_bit (by omega)
    by_cases c : n.testBit (lbN u j) = false
    · rw [if_pos (hcond.mpr c)]
      have hno : ∀ t, t < j → cal u t → lbN u t ≠ lbN u j := fun t ht hc he => by
        have := (h3 (lbN u j) hl.1).mpr ⟨t, ht, hc, he⟩
        rw [c] at this; cases this
      have ec : canS (callF j u).2 j = canS u j := by
        rw [h1]
        refine CS_can (by simp) (fun t _ ht => ?_)
        simp only [Bool.and_eq_true, decide_eq_true_eq] at ht
        exact hno t ht.1 ht.2
      rw [ec]
      by_cases c2 : canS u j = true
      · have hcal : cal u j := by
          refine ⟨c2, fun t' ht' he => ?_⟩
          cases e : canS u t'
          · rfl
          · obtain ⟨s, s1, s2, s3⟩ := cal_of t' e
            exact absurd (s2.trans he) (hno s (by omega) s3)
        rw [if_pos c2]
        refine ⟨?_, n ||| 2 ^ lbN u j, fa_or _ _, fun q hq => ?_⟩
        · rw [h1, ← CS_add h hjk (by simp) (fun t ht => by simp only [Bool.and_eq_true, decide_eq_true_eq] at ht; omega)]
          refine CS_congr (fun t => ?_)
          by_cases e : t = j
          · subst e; simp [hcal]
          · have : (t < j + 1) = (t < j) := propext (by omega)
            simp [e, this]
        · rw [fb_bit_set, Bool.or_eq_true, decide_eq_true_eq, h3 q hq]
          constructor
          · rintro (⟨t, a, b, e⟩ | e)
            · exact ⟨t, by omega, b, e⟩
            · exact ⟨j, by omega, hcal, e.symm⟩
          · rintro ⟨t, a, b, e⟩
            by_cases e2 : t = j
            · subst e2; exact Or.inr e.symm
            · exact Or.inl ⟨t, by omega, b, e⟩
      · rw [if_neg c2]
        have hncal : ¬ cal u j := fun z => c2 z.1
        refine ⟨?_, n, h2, fun q hq => ?_⟩
        · rw [h1]
          refine CS_congr (fun t => ?_)
          by_cases e : t = j
          · subst e; simp [hncal]
          · have : (t < j + 1) = (t < j) := propext (by omega)
            simp [this]
        · rw [h3 q hq]
          constructor
          · rintro ⟨t, a, b⟩; exact ⟨t, by omega, b⟩
          · rintro ⟨t, a, b, e⟩
            by_cases e2 : t = j
            · subst e2; exact absurd b hncal
            · exact ⟨t, by omega, b, e⟩
    · rw [if_neg (fun z => c (hcond.mp z))]
      have c' : n.testBit (lbN u j) = true := by cases e : n.testBit (lbN u j); · exact absurd e c
                                                 · rfl
      obtain ⟨s, s1, s2, s3⟩ := (h3 _ hl.1).mp c'
      have hncal : ¬ cal u j := fun z => by have := cal_one s2 z s3; omega
      refine ⟨?_, n, h2, fun q hq => ?_⟩
      · rw [h1]
        refine CS_congr (fun t => ?_)
        by_cases e : t = j
        · subst e; simp [hncal]
        · have : (t < j + 1) = (t < j) := propext (by omega)
          simp [this]
      · rw [h3 q hq]
        constructor
        · rintro ⟨t, a, b⟩; exact ⟨t, by omega, b⟩
        · rintro ⟨t, a, b, e⟩
          by_cases e2 : t = j
          · subst e2; exact absurd b hncal
          · exact ⟨t, by omega, b, e⟩
theorem cp_CS {k d p : Nat} {u : St} (h : WF k d u) (hp : p < 6) [DecidablePred (cal u)] : ∀ (i j : Nat), i + j = k → (∀ t, t < j → lbN u t = p → canS u t = false) → cpF p (CS u (fun t => decide (t < k) && (decide (cal u t) && decide (lbN u t < p)))) i j = CS u (fun t => decide (t < k) && (decide (cal u t) && decide (lbN u t < p + 1)))
  | 0, j, hk, hno => by
    unfold cpF
    refine CS_congr (fun t => ?_)
    by_cases c1 : t < k
    · by_cases c2 : cal u t
      · have : lbN u t ≠ p := fun e => by have := hno t (by omega) e; rw [c2.1] at this; cases this
        have e : (lbN u t < p + 1) = (lbN u t < p) := propext (by omega)
        simp [e]
      · simp [c2]
    · simp [c1]
  | i + 1, j, hk, hno => by
    have hjk : j < k := by omega
    have h8 := h.k8
    have hl := h.lb hjk
    unfold cpF
    have e1 : sLbl (CS u (fun t => decide (t < k) && (decide (cal u t) && decide (lbN u t < p)))) j = sLbl u j := rfl
    by_cases cl1 : lbN u j = p
    · have hSj : (decide (j < k) && (decide (cal u j) && decide (lbN u j < p))) = false := by simp [cl1]
      have ec := CS_can (u := u) (S := fun t => decide (t < k) && (decide (cal u t) && decide (lbN u t < p))) (j := j) hSj (fun t _ ht => by
        simp only [Bool.and_eq_true, decide_eq_true_eq] at ht
        omega)
      rw [ec, e1]
      by_cases c2 : canS u j = true
      · rw [if_pos ⟨by rw [hl.2, cl1], c2⟩]
        have hcal : cal u j := ⟨c2, fun t' ht' he => hno t' ht' (by omega)⟩
        have ed : sDue (CS u (fun t => decide (t < k) && (decide (cal u t) && decide (lbN u t < p)))) j = sDue u j := by
          show (if (decide (j < k) && (decide (cal u j) && decide (lbN u j < p))) = true then 0 else sDue u j) = _
          rw [hSj]; rfl
        rw [ed, show lbN (CS u (fun t => decide (t < k) && (decide (cal u t) && decide (lbN u t < p)))) j = lbN u j from rfl, ← CS_add h hjk hSj (fun t ht => by simp only [Bool.and_eq_true, decide_eq_true_eq] at ht; omega)]
        refine CS_congr (fun t => ?_)
        by_cases e : t = j
        · subst e; simp [hjk, hcal, cl1]
        · by_cases c3 : cal u t
          · have hne : lbN u t ≠ p := fun z => e (cal_one c3 hcal (by omega))
            have e9 : (lbN u t < p + 1) = (lbN u t < p) := propext (by omega)
            simp [e, e9]
          · simp [e, c3]
      · rw [if_neg (fun z => c2 z.2)]
        exact cp_CS h hp i (j + 1) (by omega) (fun t ht hlt => by
          by_cases e : t = j
          · subst e; cases e3 : canS u t
            · rfl
            · exact absurd e3 c2
          · exact hno t (by omega) hlt)
    · rw [e1, if_neg (fun z => by
        have := z.1
        rw [hl.2] at this
        have := (nI_eq (by omega) (by omega)).mp this
        omega)]
      exact cp_CS h hp i (j + 1) (by omega) (fun t ht hlt => by
        by_cases e : t = j
        · subst e; exact absurd hlt cl1
        · exact hno t (by omega) hlt)
theorem calM_CS {k d : Nat} {u : St} (h : WF k d u) [DecidablePred (cal u)] : ∀ p, p ≤ 6 → calM k p u = CS u (fun t => decide (t < k) && (decide (cal u t) && decide (lbN u t < p)))
  | 0, _ => by
    rw [CS_congr (S' := fun _ => false) (fun t => by simp)]
    exact (CS_0 h).symm
  | p + 1, hp => by
    show cpF p (calM k p u) k 0 = _
    rw [calM_CS h p (by omega)]
    exact cp_CS h (by omega) k 0 (by omega) (fun t ht => absurd ht (Nat.not_lt_zero t))
theorem call_same {k d : Nat} {u : St} (h : WF k d u) : calM k 6 u = callAll k u := by
  have : DecidablePred (cal u) := fun t => Classical.propDecidable _
  unfold callAll
  rw [calM_CS h 6 (Nat.le_refl 6), (X_callCS h k (Nat.le_refl k)).1]
  refine CS_congr (fun t => ?_)
  by_cases c : t < k
  · have := (h.lb c).1
    simp [c, this]
  · simp [c]
theorem day_same {k d : Nat} {u : St} (h : WF k d u) : dayM k u = dayS k u := by
  unfold dayM dayS
  rw [call_same (earnAll_wf (mountAll_wf h))]
