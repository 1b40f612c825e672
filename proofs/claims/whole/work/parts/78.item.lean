-- NUMBERS, CLAUSES, ITEMS
def dM (B : Nat → Nat) (p : Nat) : Nat → Nat
  | 0 => 0
  | i + 1 => if 9999 < dM B p i then dM B p i else 10 * dM B p i + (B (p + i) - 48)
theorem num_rel {n p e : Nat} {B : Nat → Nat} (h : TkRun n B 2 p (p + e)) : ∀ i, i ≤ e → (dX B p i = dM B p i ∧ dM B p i ≤ 9999) ∨ (dX B p i = 10000 ∧ 9999 < dM B p i ∧ dM B p i < 200000)
  | 0, _ => Or.inl ⟨rfl, by show 0 ≤ _; omega⟩
  | i + 1, hi => by
    have ih := num_rel h i (by omega)
    have b := tk_digit (h (p + i) (by omega) (by omega))
    have e1 : dM B p (i + 1) = if 9999 < dM B p i then dM B p i else 10 * dM B p i + (B (p + i) - 48) := rfl
    have e2 : dX B p (i + 1) = min 10000 (10 * dX B p i + (B (p + i) - 48)) := rfl
    obtain ⟨b0, b1, b2⟩ := b
    rw [e1, e2]
    generalize dX B p i = x at *
    generalize dM B p i = y at *
    generalize B (p + i) = z at *
    split <;> omega
noncomputable def nEnd (hi v : Int32) (m : MS) : Option MS := ((fX5_in (Int32.toInt64 v) (Int32.toInt64 0) (Int32.toInt64 hi)).bind fun q0 => (if q0 = 0 then ((fX5_must 0 (mVal' m v)).bind fun q1 => (some q1)) else ((fX5_must 1 (mVal' m v)).bind fun q1 => (some q1))))
theorem numL {n p e : Nat} {B : Nat → Nat} {t : Tp} {m : MS} {hi : Int32} (h : TC n B t m) (hr : TkRun n B 2 p (p + e)) (hm : mTo m = nI (p + e)) (hp : p + e ≤ n) : ∀ (i j nf : Nat), i + j = e → i < nf → lX5_number_29 nf 0 hi 1 (nI (dM B p j)) (nI (p + j)) m = nEnd hi (nI (dM B p e)) m := by
  have h120 := h.1
  intro i
  induction i with
  | zero =>
    intro j nf hi hn
    obtain ⟨nf, rfl⟩ : ∃ q, nf = q + 1 := ⟨nf - 1, by omega⟩
    obtain rfl : j = e := by omega
    rw [lX5_number_29_eq, hm, if_pos (nI_le (Nat.le_refl _) (by omega)), if_neg (show ¬ (1 : Int32) = 0 by decide)]
    rfl
  | succ i ih =>
    intro j nf hi hn
    obtain ⟨nf, rfl⟩ : ∃ q, nf = q + 1 := ⟨nf - 1, by omega⟩
    have b := tk_digit (hr (p + j) (by omega) (by omega))
    have hd := num_rel hr j (by omega)
    have ihh := ih (j + 1) nf (by omega) (by omega)
    have eW : dM B p (j + 1) = if 9999 < dM B p j then dM B p j else 10 * dM B p j + (B (p + j) - 48) := rfl
    rw [eW] at ihh
    rw [lX5_number_29_eq, hm, if_neg (nI_ge (show p + j < p + e by omega) (by omega)), if_neg (show ¬ (1 : Int32) = 0 by decide), nI_1]
    by_cases c : 9999 < dM B p j
    · rw [if_neg (show ¬ nI (dM B p j) ≤ (9999 : Int32) from nI_ge c (by omega))]
      rw [if_pos c] at ihh
      exact ihh
    · rw [if_pos (show nI (dM B p j) ≤ (9999 : Int32) from nI_le (show dM B p j ≤ 9999 from Nat.not_lt.mp c) (by decide)), if_neg (ix (show p + j < 120 by omega)), cl (by omega), (h.2.2.2 (p + j) (by omega)).2.1, show (10 : Int32) = nI 10 from rfl, show (48 : Int32) = nI 48 from rfl, pk_mul, nI_add, pk_sub (by omega), show 10 * dM B p j + B (p + j) - 48 = 10 * dM B p j + (B (p + j) - 48) by omega]
      rw [if_neg c] at ihh
      exact ihh
theorem W_number {m : MS} {p : Nat} (h : Wr m p) (a b : Int32) : fX5_number a b m = some m := by
  rw [fX5_number_eq, if_neg (by rw [h.2.2]; decide)]
theorem W_part {m : MS} {p code : Nat} (h : Wr m p) (hc : 0 < code ∧ code ≤ 36028797018963967) (a b : Int32) : fX5_partItem (lN code) a b m = some m := by
  have hcode : code < 2 ^ 62 := by omega
  rw [fX5_partItem_eq, W_word h, Option.bind_some, if_neg]
  intro z
  have z : (0 : Int64) = lN code := (lg_cmp_eq _ _).mp z
  have z1 : (0 : Int64).toInt = (code : Int) := by rw [z]; exact lN_int hcode
  rw [z64_0] at z1
  omega
theorem num_same {n p e : Nat} {B : Nat → Nat} {t : Tp} {c : Tx} {m : MS} (h : Sy n B t c m p e) {M : Nat} (hM : M ≤ 9999) :
    (∃ v p' e' m', v ≤ M ∧ fX3_numberUpTo (nI M) (c, t) = some (nI v, (cTx n B p' e', t)) ∧ fX5_number 0 (nI M) m = some m' ∧ Sy n B t (cTx n B p' e') m' p' e' ∧ p < p' ∧ PM m m' ∧ mS m' = mS m ∧ mVal m' = nI v) ∨
    (∃ m', fX3_numberUpTo (nI M) (c, t) = some (-1, (c, t)) ∧ fX5_number 0 (nI M) m = some m' ∧ Wr m' p ∧ PM m m') := by
  have h0 := h
  obtain ⟨h1, h2, rfl, h4, h5, h6⟩ := h
  have h120 := h1.1
  obtain ⟨t1, t2, t3, t4, t5⟩ := h2
  have hb : p < n → B p ≤ 255 := fun c => (h1.2.2.2 p c).1
  have htl := tk_lt (n := n) (B := B) (i := p)
  rw [fX3_numberUpTo_eq, fX5_number_eq, if_pos h6, h4, M_byteAt h1 (by omega), Option.bind_some, M_isDigit, Option.bind_some, bt_digit hb]
  show (∃ v p' e' m', v ≤ M ∧ (if nI (tk n B p) = 2 then (if nI (if tk n B p = 2 then dX B p (e - p) else 0) ≤ nI M then ((fX3_advance (cTx n B p e, t)).bind fun q0 => some (nI (if tk n B p = 2 then dX B p (e - p) else 0), q0)) else some (-1, (cTx n B p e, t))) else some (-1, (cTx n B p e, t))) = _ ∧ _) ∨ (∃ m', (if nI (tk n B p) = 2 then (if nI (if tk n B p = 2 then dX B p (e - p) else 0) ≤ nI M then ((fX3_advance (cTx n B p e, t)).bind fun q0 => some (nI (if tk n B p = 2 then dX B p (e - p) else 0), q0)) else some (-1, (cTx n B p e, t))) else some (-1, (cTx n B p e, t))) = _ ∧ _)
  by_cases c1 : tk n B p = 2
  · have hr : TkRun n B 2 p (p + (e - p)) := by rw [show p + (e - p) = e by omega]; exact t5 c1
    have hnr := num_rel hr (e - p) (Nat.le_refl _)
    have hL := numL (hi := nI M) h1 hr (by rw [show p + (e - p) = e by omega]; exact h5) (by omega) (e - p) 0 FU (by omega) (by rw [FU_eq]; omega)
    have hL : lX5_number_29 FU 0 (nI M) 1 0 (nI p) m = nEnd (nI M) (nI (dM B p (e - p))) m := hL
    have hlt := (tk_digit c1).1
    rw [if_pos (show nI (tk n B p) = (2 : Int32) by rw [c1]; rfl), if_pos c1, decide_eq_true c1, h4, show b2i true = 1 from rfl, hL]
    unfold nEnd
    rw [M_in, Option.bind_some, Int32.toInt_toInt64, Int32.toInt_toInt64, z32_0, nI_toInt (show M < 2 ^ 31 by omega)]
    by_cases c2 : dX B p (e - p) ≤ M
    · left
      have hd : dX B p (e - p) = dM B p (e - p) ∧ dM B p (e - p) ≤ M := by omega
      have hS : Sy n B t (cTx n B p e) (mVal' m (nI (dM B p (e - p)))) p e := h0
      obtain ⟨p', e', m', q1, q2, q3, q4, q5, q6, q7⟩ := tok_next hS
      refine ⟨dX B p (e - p), p', e', m', c2, ?_, ?_, q3, by have := t3 hlt; omega, ?_, q6, ?_⟩
      · rw [if_pos (nI_le c2 (by omega)), q1]
        rfl
      · have hin : inB (nI (dM B p (e - p))) 0 (M : Int) = true := inB_of (by rw [nI_toInt (by omega)]; omega) (by rw [nI_toInt (by omega)]; omega)
        rw [hin, if_neg (by decide), must1 (m := mVal' m (nI (dM B p (e - p)))) h6, q2]
        rfl
      · exact PM.tr (b := mVal' m (nI (dM B p (e - p)))) ⟨rfl, rfl, rfl, rfl, rfl, rfl, rfl, rfl, rfl⟩ q5
      · rw [hd.1]
        exact q7
    · right
      have hin : inB (nI (dM B p (e - p))) 0 (M : Int) = false := by
        refine decide_eq_false (fun z => ?_)
        rw [nI_toInt (show dM B p (e - p) < 2 ^ 31 by omega)] at z
        omega
      refine ⟨mWrg' (mVal' m (nI (dM B p (e - p)))) 1, ?_, ?_, ⟨h4, ⟨e, t1, by omega, h5⟩, rfl⟩, ⟨rfl, rfl, rfl, rfl, rfl, rfl, rfl, rfl, rfl⟩⟩
      · rw [if_neg (nI_ge (by omega) (by have := dX_le B p (e - p); omega))]
      · rw [hin, if_pos (by decide), must0 (m := mVal' m (nI (dM B p (e - p)))) h6]
        rfl
  · right
    refine ⟨mWrg' (mVal' m 0) 1, ?_, ?_, ⟨h4, ⟨e, t1, by omega, h5⟩, rfl⟩, ⟨rfl, rfl, rfl, rfl, rfl, rfl, rfl, rfl, rfl⟩⟩
    · rw [if_neg (show ¬ nI (tk n B p) = (2 : Int32) from fun z => c1 ((nI_eq (b := 2) (by omega) (by omega)).mp z))]
    · rw [decide_eq_false c1, show b2i false = 0 from rfl, show FU = 1999 + 1 by rw [FU_eq], lX5_number_29_eq, if_pos (show (0 : Int32) = 0 from rfl), if_pos (show (0 : Int32) = 0 from rfl), must0 (m := mVal' m 0) h6, ite_self]
      rfl
theorem Wr.ms {m : MS} {p : Nat} (h : Wr m p) (s : F32) : Wr (mS' m s) p := h
/-- a clause: there or not, and right; or a fault in it -/
theorem clause_same {n p e : Nat} {B : Nat → Nat} {t : Tp} {c : Tx} {m : MS} (h : Sy n B t c m p e) {i code M w : Nat} (ok : WdOK i code) (hM : M ≤ 9999) (hw : w < 69) {o : Int32} (ho : mS m w = o) :
    (∃ r p' e' m', fX3_clause (1000 + i) (nI M) o (c, t) = some (r, (cTx n B p' e', t)) ∧ fX5_partItem (lN code) (nI w) (nI M) m = some m' ∧ Sy n B t (cTx n B p' e') m' p' e' ∧ p ≤ p' ∧ PM m m' ∧ (∀ q, mS m' q = upd (mS m) w r q) ∧ (r = o ∨ ∃ v, v ≤ M ∧ r = nI v)) ∨
    (∃ p' e' m', fX3_clause (1000 + i) (nI M) o (c, t) = some (-1, (cTx n B p' e', t)) ∧ fX5_partItem (lN code) (nI w) (nI M) m = some m' ∧ Wr m' p' ∧ PM m m') := by
  obtain ⟨r, e1, e2, e3⟩ := word_same h ok
  have hc := h.2.2.1
  rw [fX3_clause_eq, e1, Option.bind_some, fX5_partItem_eq, M_word h, Option.bind_some]
  cases r with
  | false =>
    left
    refine ⟨o, p, e, m, ?_, ?_, by rw [← hc]; exact h, Nat.le_refl p, PM.rf m, fun q => ?_, Or.inl rfl⟩
    · rw [← hc]; rfl
    · rw [if_neg (fun z => absurd (e2.mp z) (by decide))]
    · rw [upd_at]
      by_cases cq : q = w
      · rw [if_pos cq, cq]; exact ho
      · rw [if_neg cq]
  | true =>
    obtain ⟨p1, e1', m1, a1, a2, a3, a4, a5, a6, a7⟩ := tok_next h
    have hpe : p < e := h.2.1.2.2.1 (tk_letter (e3 rfl)).1
    have hx : (if (b2i true, (c, t)).1 = 0 then (some (o, (b2i true, (c, t)).2) : Option (Int32 × TT)) else ((fX3_advance (b2i true, (c, t)).2).bind fun q1 => ((fX3_numberUpTo (nI M) q1).bind fun q2 => (some (q2.1, q2.2))))) = ((fX3_numberUpTo (nI M) (cTx n B p1 e1', t)).bind fun q2 => (some (q2.1, q2.2))) := by
      rw [if_neg (show ¬ (b2i true, (c, t)).1 = 0 by show ¬ b2i true = 0; decide)]
      show ((fX3_advance (c, t)).bind _) = _
      rw [a1, Option.bind_some]
    rw [hx, if_pos (e2.mpr rfl), must1 h.2.2.2.2.2, a2, Option.bind_some]
    rcases num_same a3 hM with ⟨v, p2, e2', m2, b1, b2, b3, b4, b5, b6, b7, b8⟩ | ⟨m2, b1, b2, b3, b4⟩
    · left
      refine ⟨nI v, p2, e2', mS' m2 (upd (mS m2) w (nI v)), by rw [b2]; rfl, ?_, b4, by omega, ?_, fun q => ?_, Or.inr ⟨v, b1, rfl⟩⟩
      · rw [b3, Option.bind_some, if_pos b4.2.2.2.2.2, if_neg (ix hw), cl (by omega), b8]
      · exact (a5.tr b6).tr (b := m2) ⟨rfl, rfl, rfl, rfl, rfl, rfl, rfl, rfl, rfl⟩
      · show upd (mS m2) w (nI v) q = _
        rw [b7, a6]
    · right
      refine ⟨p1, e1', mS' m2 (upd (mS m2) w (mS m2 w)), by rw [b1]; rfl, ?_, b3.ms _, ?_⟩
      · rw [b2, Option.bind_some, if_neg (by rw [b3.2.2]; decide), if_neg (ix hw), if_neg (ix hw), cl (by omega)]
      · exact (a5.tr b4).tr (b := m2) ⟨rfl, rfl, rfl, rfl, rfl, rfl, rfl, rfl, rfl⟩
theorem kind_same {n p e : Nat} {B : Nat → Nat} {t : Tp} {c : Tx} {m : MS} (h : Sy n B t c m p e) : ∃ r : Int32, fX3_kindNamed (c, t) = some (r, (c, t)) ∧ fX5_kindHere m = some (r, m) ∧ (r = -1 ∨ ∃ g, g < 6 ∧ r = nI g ∧ tk n B p = 1 ∧ ¬ lg_cmp (if tk n B p = 1 then lN (WV B p (e - p)) else 0) 13796819 = 0) := by
  obtain ⟨r0, a0, b0, d0⟩ := word_same h wd3
  replace a0 : fX3_isWord 1003 (c, t) = some (b2i r0, (c, t)) := a0
  replace b0 : lg_cmp (if tk n B p = 1 then lN (WV B p (e - p)) else 0) 538512556 = 0 ↔ r0 = true := b0
  obtain ⟨r1, a1, b1, d1⟩ := word_same h wd4
  replace a1 : fX3_isWord 1004 (c, t) = some (b2i r1, (c, t)) := a1
  replace b1 : lg_cmp (if tk n B p = 1 then lN (WV B p (e - p)) else 0) 394393 = 0 ↔ r1 = true := b1
  obtain ⟨r2, a2, b2, d2⟩ := word_same h wd5
  replace a2 : fX3_isWord 1005 (c, t) = some (b2i r2, (c, t)) := a2
  replace b2 : lg_cmp (if tk n B p = 1 then lN (WV B p (e - p)) else 0) 7749317 = 0 ↔ r2 = true := b2
  obtain ⟨r3, a3, b3, d3⟩ := word_same h wd6
  replace a3 : fX3_isWord 1006 (c, t) = some (b2i r3, (c, t)) := a3
  replace b3 : lg_cmp (if tk n B p = 1 then lN (WV B p (e - p)) else 0) 624088749524 = 0 ↔ r3 = true := b3
  obtain ⟨r4, a4, b4, d4⟩ := word_same h wd7
  replace a4 : fX3_isWord 1007 (c, t) = some (b2i r4, (c, t)) := a4
  replace b4 : lg_cmp (if tk n B p = 1 then lN (WV B p (e - p)) else 0) 763077 = 0 ↔ r4 = true := b4
  obtain ⟨r5, a5, b5, d5⟩ := word_same h wd8
  replace a5 : fX3_isWord 1008 (c, t) = some (b2i r5, (c, t)) := a5
  replace b5 : lg_cmp (if tk n B p = 1 then lN (WV B p (e - p)) else 0) 270141944 = 0 ↔ r5 = true := b5
  have hX : ∀ nf j x q, x = nI j → j < 6 → fX3_nameOf x = some q → ∀ r : Bool, fX3_isWord q (c, t) = some (b2i r, (c, t)) → lX3_kindNamed_2 (nf + 1) x (c, t) = if r = true then some (x, (c, t)) else lX3_kindNamed_2 nf (x + 1) (c, t) := by
    intro nf j x q hx hj hq r hr
    rw [lX3_kindNamed_2_eq, if_neg (by rw [hx]; exact (show ¬ (6 : Int32) ≤ nI j from nI_ge hj (by decide))), hq, Option.bind_some, hr, Option.bind_some]
    cases r <;> rfl
  rw [fX3_kindNamed_eq, show FU = 1993 + 1 + 1 + 1 + 1 + 1 + 1 + 1 by rw [FU_eq], fX5_kindHere_eq, M_word h, Option.bind_some]
  rw [hX _ 0 0 1003 rfl (by decide) (by rw [fX3_nameOf_eq]; simp +decide only [if_true, if_false]) r0 a0]
  cases r0 with
  | true => exact ⟨_, if_pos rfl, by rw [if_pos (b0.mpr rfl)] <;> rfl, Or.inr ⟨0, by decide, rfl, d0 rfl, fun z => absurd (((lg_cmp_eq _ _).mp (b0.mpr rfl)).symm.trans ((lg_cmp_eq _ _).mp z)) (by decide)⟩⟩
  | false =>
    rw [if_neg (show ¬ false = true by decide), if_neg (fun z => absurd (b0.mp z) (by decide))]
    rw [hX _ 1 (0 + 1) 1004 rfl (by decide) (by rw [fX3_nameOf_eq]; simp +decide only [if_true, if_false]) r1 a1]
    cases r1 with
    | true => exact ⟨_, if_pos rfl, by rw [if_pos (b1.mpr rfl)] <;> rfl, Or.inr ⟨1, by decide, rfl, d1 rfl, fun z => absurd (((lg_cmp_eq _ _).mp (b1.mpr rfl)).symm.trans ((lg_cmp_eq _ _).mp z)) (by decide)⟩⟩
    | false =>
      rw [if_neg (show ¬ false = true by decide), if_neg (fun z => absurd (b1.mp z) (by decide))]
      rw [hX _ 2 (0 + 1 + 1) 1005 rfl (by decide) (by rw [fX3_nameOf_eq]; simp +decide only [if_true, if_false]) r2 a2]
      cases r2 with
      | true => exact ⟨_, if_pos rfl, by rw [if_pos (b2.mpr rfl)] <;> rfl, Or.inr ⟨2, by decide, rfl, d2 rfl, fun z => absurd (((lg_cmp_eq _ _).mp (b2.mpr rfl)).symm.trans ((lg_cmp_eq _ _).mp z)) (by decide)⟩⟩
      | false =>
        rw [if_neg (show ¬ false = true by decide), if_neg (fun z => absurd (b2.mp z) (by decide))]
        rw [hX _ 3 (0 + 1 + 1 + 1) 1006 rfl (by decide) (by rw [fX3_nameOf_eq]; simp +decide only [if_true, if_false]) r3 a3]
        cases r3 with
        | true => exact ⟨_, if_pos rfl, by rw [if_pos (b3.mpr rfl)] <;> rfl, Or.inr ⟨3, by decide, rfl, d3 rfl, fun z => absurd (((lg_cmp_eq _ _).mp (b3.mpr rfl)).symm.trans ((lg_cmp_eq _ _).mp z)) (by decide)⟩⟩
        | false =>
          rw [if_neg (show ¬ false = true by decide), if_neg (fun z => absurd (b3.mp z) (by decide))]
          rw [hX _ 4 (0 + 1 + 1 + 1 + 1) 1007 rfl (by decide) (by rw [fX3_nameOf_eq]; simp +decide only [if_true, if_false]) r4 a4]
          cases r4 with
          | true => exact ⟨_, if_pos rfl, by rw [if_pos (b4.mpr rfl)] <;> rfl, Or.inr ⟨4, by decide, rfl, d4 rfl, fun z => absurd (((lg_cmp_eq _ _).mp (b4.mpr rfl)).symm.trans ((lg_cmp_eq _ _).mp z)) (by decide)⟩⟩
          | false =>
            rw [if_neg (show ¬ false = true by decide), if_neg (fun z => absurd (b4.mp z) (by decide))]
            rw [hX _ 5 (0 + 1 + 1 + 1 + 1 + 1) 1008 rfl (by decide) (by rw [fX3_nameOf_eq]; simp +decide only [if_true, if_false]) r5 a5]
            cases r5 with
            | true => exact ⟨_, if_pos rfl, by rw [if_pos (b5.mpr rfl)] <;> rfl, Or.inr ⟨5, by decide, rfl, d5 rfl, fun z => absurd (((lg_cmp_eq _ _).mp (b5.mpr rfl)).symm.trans ((lg_cmp_eq _ _).mp z)) (by decide)⟩⟩
            | false =>
              rw [if_neg (show ¬ false = true by decide), if_neg (fun z => absurd (b5.mp z) (by decide))]
              exact ⟨-1, by rw [lX3_kindNamed_2_eq, if_pos (by decide)], rfl, Or.inl rfl⟩
-- a thing told
theorem upd_upd (f : F32) (k : Nat) (a b : Int32) : upd (upd f k a) k b = upd f k b := by
  funext j
  rw [upd_at, upd_at, upd_at]
  by_cases c : j = k
  · rw [if_pos c, if_pos c]
  · rw [if_neg c, if_neg c, if_neg c]
def takeS (u : St) (k : Nat) (a b c e : Int32) : St := ((sDay u), (sTkn u), (sMns u), (sErn u), (sSpd u), nI (k + 1), (upd (sKnd u) k a), (upd (sLbl u) k b), (upd (sLft u) k (sDay u)), (upd (sDue u) k c), (upd (sWth u) k e), (upd (sWit u) k (-1)))
theorem takeS_rel {u : St} {s : F32} {k : Nat} {a : Int32} (h : Rel (takeS u k a 0 0 100) s) (hk : k < 8) {s' : F32} {r1 r2 r3 : Int32} (hs : ∀ q, s' q = upd (upd (upd s (22 + 6 * k) r1) (24 + 6 * k) r2) (25 + 6 * k) r3 q) : Rel (takeS u k a r1 r2 r3) s' := by
  have h1 := ((h.lbl hk r1).due hk r2).wth hk r3
  have h2 : Rel (takeS u k a r1 r2 r3) (upd (upd (upd s (22 + 6 * k) r1) (24 + 6 * k) r2) (25 + 6 * k) r3) := by
    have e : takeS u k a r1 r2 r3 = sWth' (sDue' (sLbl' (takeS u k a 0 0 100) (upd (sLbl (takeS u k a 0 0 100)) k r1)) (upd (sDue (takeS u k a 0 0 100)) k r2)) (upd (sWth (takeS u k a 0 0 100)) k r3) := by
      show _ = ((sDay u), (sTkn u), (sMns u), (sErn u), (sSpd u), nI (k + 1), (upd (sKnd u) k a), upd (upd (sLbl u) k 0) k r1, (upd (sLft u) k (sDay u)), upd (upd (sDue u) k 0) k r2, upd (upd (sWth u) k 100) k r3, (upd (sWit u) k (-1)))
      rw [upd_upd, upd_upd, upd_upd]
      rfl
    rw [e]
    exact h1
  exact h2.cong (fun q _ => hs q)
/-- an item came to both, or a fault was found at one place -/
def ItemO (n : Nat) (B : Nat → Nat) (t : Tp) (d p : Nat) (m : MS) (X : Option (Int32 × TS)) (M : Option MS) : Prop :=
  (∃ k' u' p' e' m', X = some (1, (cTx n B p' e', t, u')) ∧ M = some m' ∧ Sy n B t (cTx n B p' e') m' p' e' ∧ p < p' ∧ PM m m' ∧ WF k' d u' ∧ Rel u' (mS m')) ∨
  (∃ u' p' e' m', X = some (0, (cTx n B p' e', t, u')) ∧ M = some m' ∧ Wr m' p' ∧ p' ≤ 120 ∧ PM m m')
theorem Wr.wn {m : MS} {p : Nat} (h : Wr m p) : p ≤ 120 := by
  obtain ⟨-, ⟨e, h1, h2, -⟩, -⟩ := h
  omega
theorem Wr.le {n p e : Nat} {B : Nat → Nat} {t : Tp} {c : Tx} {m : MS} (h : Sy n B t c m p e) : p ≤ n := by
  have := h.2.1.1
  have := h.2.1.2.1
  omega
theorem In.pos {x : Int32} {N : Nat} (h : In x N) (hN : N < 2 ^ 31) : (0 : Int32) ≤ x := by
  obtain ⟨a, h1, rfl⟩ := h
  exact nI_pos' (by omega)
theorem clause_in {r o : Int32} {M : Nat} (h : r = o ∨ ∃ v, v ≤ M ∧ r = nI v) (ho : In o M) : In r M := by
  rcases h with rfl | ⟨v, h1, rfl⟩
  · exact ho
  · exact in_nI h1
theorem thing_same {n p e : Nat} {B : Nat → Nat} {t : Tp} {c : Tx} {m : MS} (h : Sy n B t c m p e) {k d : Nat} {u : St} (hw : WF k d u) (hR : Rel u (mS m)) {g : Nat} (hg : g < 6) (hl : tk n B p = 1) (ek : fX3_kindNamed (c, t) = some (nI g, (c, t))) : ItemO n B t d p m (fX3_tellThing (c, t, u)) (fX5_thingItem (nI g) m) := by
  have hk8 := hw.k8
  have h120 := h.1.1
  have hc := h.2.2.1
  have hpn := Wr.le h
  have e0 : mS m 0 = nI k := by rw [hR.1, hw.2.2.1]
  rw [fX3_tellThing_eq]
  show ItemO n B t d p m ((fX3_kindNamed (c, t)).bind _) _
  rw [ek, Option.bind_some, if_neg (show ¬ (nI g, (c, t)).1 < 0 from nI_pos (show g < 2 ^ 31 by omega)), fX1_isFull_eq, fX5_thingItem_eq, e0]
  show ItemO n B t d p m ((if sNum u < 8 then some ((0 : Int32), u) else some (1, u)).bind _) _
  rw [hw.2.2.1]
  by_cases ck : k < 8
  · obtain ⟨p1, e1, m1, a1, a2, a3, a4, a5, a6, a7⟩ := tok_next h
    have hR1 : Rel u (mS m1) := by rw [a6]; exact hR
    have ha := M_adds hw ck hR1 (nI g) 0
    have hr2 : Rel (takeS u k (nI g) 0 0 100) (upd (upd (upd (upd (upd (upd (upd (mS m1) (21 + 6 * k) (nI g)) (22 + 6 * k) 0) (23 + 6 * k) (sDay u)) (24 + 6 * k) 0) (25 + 6 * k) 100) (26 + 6 * k) (-1)) 0 (nI (k + 1))) := hR1.take ck (nI g) 0 0 100 (nI (k + 1))
    generalize (upd (upd (upd (upd (upd (upd (upd (mS m1) (21 + 6 * k) (nI g)) (22 + 6 * k) 0) (23 + 6 * k) (sDay u)) (24 + 6 * k) 0) (25 + 6 * k) 100) (26 + 6 * k) (-1)) 0 (nI (k + 1))) = s2 at ha hr2
    obtain ⟨-, f1, -, f3, f4, -⟩ := hr2.2.2.2.2 k ck
    have f1 : s2 (22 + 6 * k) = 0 := by rw [f1]; show upd (sLbl u) k 0 k = 0; rw [upd_at, if_pos rfl]
    have f3 : s2 (24 + 6 * k) = 0 := by rw [f3]; show upd (sDue u) k 0 k = 0; rw [upd_at, if_pos rfl]
    have f4 : s2 (25 + 6 * k) = 100 := by rw [f4]; show upd (sWth u) k 100 k = 100; rw [upd_at, if_pos rfl]
    have hpe : p < e := h.2.1.2.2.1 (tk_letter hl).1
    have hS2 : Sy n B t (cTx n B p1 e1) (mS' m1 s2) p1 e1 := a3
    have hP2 : PM m (mS' m1 s2) := a5.tr (b := m1) ⟨rfl, rfl, rfl, rfl, rfl, rfl, rfl, rfl, rfl⟩
    rw [if_pos (show nI k < (8 : Int32) from nI_lt ck (by decide)), if_neg (show ¬ (8 : Int32) ≤ nI k from nI_ge ck (by decide)), Option.bind_some, if_pos (show ((0 : Int32), u).1 = 0 from rfl), must1 h.2.2.2.2.2, a2, Option.bind_some, if_pos a3.2.2.2.2.2, ha, Option.bind_some]
    show ItemO n B t d p m ((fX3_advance (c, t)).bind _) _
    rw [a1, Option.bind_some, M_spot1, Option.bind_some]
    rcases clause_same (i := 10) (code := 6642) (M := 5) (w := 22 + 6 * k) (o := 0) hS2 wd10 (by omega) (by omega) f1 with ⟨r1, p2, e2, m2, b1, b2, b3, b4, b5, b6, b7⟩ | ⟨p2, e2, m2, b1, b2, b3, b4⟩
    · have i1 := clause_in b7 ⟨0, by omega, rfl⟩
      have g3 : mS m2 (24 + 6 * k) = 0 := by rw [b6, upd_at, if_neg (by omega)]; exact f3
      rw [show fX3_clause 1010 5 0 (cTx n B p1 e1, t) = _ from b1, Option.bind_some, if_pos (show (0 : Int32) ≤ (r1, (cTx n B p2 e2, t)).1 from i1.pos (by decide)), show fX5_partItem 6642 (nI (22 + 6 * k)) 5 (mS' m1 s2) = _ from b2, Option.bind_some, M_spot3, Option.bind_some]
      rcases clause_same (i := 11) (code := 4773) (M := 9999) (w := 24 + 6 * k) (o := 0) b3 wd11 (by omega) (by omega) g3 with ⟨r2, p3, e3, m3, c1, c2, c3, c4, c5, c6, c7⟩ | ⟨p3, e3, m3, c1, c2, c3, c4⟩
      · have i2 := clause_in c7 ⟨0, by omega, rfl⟩
        have g4 : mS m3 (25 + 6 * k) = 100 := by rw [c6, upd_at, if_neg (by omega), b6, upd_at, if_neg (by omega)]; exact f4
        rw [show fX3_clause 1011 9999 0 (r1, (cTx n B p2 e2, t)).2 = _ from c1, Option.bind_some, if_pos (show (0 : Int32) ≤ (r2, (cTx n B p3 e3, t)).1 from i2.pos (by decide)), show fX5_partItem 4773 (nI (24 + 6 * k)) 9999 m2 = _ from c2, Option.bind_some, M_spot4, Option.bind_some]
        rcases clause_same (i := 12) (code := 24627848) (M := 9999) (w := 25 + 6 * k) (o := 100) c3 wd12 (by omega) (by omega) g4 with ⟨r3, p4, e4, m4, d1, d2, d3, d4, d5, d6, d7⟩ | ⟨p4, e4, m4, d1, d2, d3, d4⟩
        · have i3 := clause_in d7 ⟨100, by omega, rfl⟩
          rw [show fX3_clause 1012 9999 100 (r2, (cTx n B p3 e3, t)).2 = _ from d1, Option.bind_some, if_pos (show (0 : Int32) ≤ (r3, (cTx n B p4 e4, t)).1 from i3.pos (by decide)), show fX5_partItem 24627848 (nI (25 + 6 * k)) 9999 m3 = _ from d2, Option.bind_some, fX1_take_eq]
          left
          have q := take_wf hw ck (a := nI g) (b := r1) (c := r2) (e := r3) (in_nI (by omega)) i1 (i2.mono (by omega)) i3
          rw [hw.2.2.1, nI_1] at q
          refine ⟨k + 1, takeS u k (nI g) r1 r2 r3, p4, e4, m4, ?_, rfl, d3, by omega, ((hP2.tr b5).tr c5).tr d5, q, takeS_rel hr2 ck (fun q => ?_)⟩
          · show ((if sNum u < 0 ∨ 8 ≤ (sNum u).toNatClampNeg then none else _).bind _) = _
            rw [hw.2.2.1, if_neg (ix ck), if_neg (ix ck), if_neg (ix ck), if_neg (ix ck), if_neg (ix ck), if_neg (ix ck), cl (by omega), nI_1]
            rfl
          · have b6 : ∀ q, mS m2 q = upd s2 (22 + 6 * k) r1 q := b6
            rw [d6, upd_at, upd_at]
            by_cases cq : q = 25 + 6 * k
            · rw [if_pos cq, if_pos cq]
            · rw [if_neg cq, if_neg cq, c6, upd_at, upd_at]
              by_cases cq2 : q = 24 + 6 * k
              · rw [if_pos cq2, if_pos cq2]
              · rw [if_neg cq2, if_neg cq2]; exact b6 q
        · right
          rw [show fX3_clause 1012 9999 100 (r2, (cTx n B p3 e3, t)).2 = _ from d1, Option.bind_some, if_neg (show ¬ (0 : Int32) ≤ ((-1 : Int32), (cTx n B p4 e4, t)).1 by show ¬ (0 : Int32) ≤ -1; decide), show fX5_partItem 24627848 (nI (25 + 6 * k)) 9999 m3 = _ from d2, Option.bind_some]
          exact ⟨u, p4, e4, m4, rfl, rfl, d3, Wr.wn d3, ((hP2.tr b5).tr c5).tr d4⟩
      · right
        rw [show fX3_clause 1011 9999 0 (r1, (cTx n B p2 e2, t)).2 = _ from c1, Option.bind_some, if_neg (show ¬ (0 : Int32) ≤ ((-1 : Int32), (cTx n B p3 e3, t)).1 by show ¬ (0 : Int32) ≤ -1; decide), show fX5_partItem 4773 (nI (24 + 6 * k)) 9999 m2 = _ from c2, Option.bind_some, M_spot4, Option.bind_some, show fX5_partItem 24627848 (nI (25 + 6 * k)) 9999 m3 = _ from W_part (code := 24627848) c3 (by decide) _ _, Option.bind_some]
        exact ⟨u, p3, e3, m3, rfl, rfl, c3, Wr.wn c3, (hP2.tr b5).tr c4⟩
    · right
      rw [show fX3_clause 1010 5 0 (cTx n B p1 e1, t) = _ from b1, Option.bind_some, if_neg (show ¬ (0 : Int32) ≤ ((-1 : Int32), (cTx n B p2 e2, t)).1 by show ¬ (0 : Int32) ≤ -1; decide), show fX5_partItem 6642 (nI (22 + 6 * k)) 5 (mS' m1 s2) = _ from b2, Option.bind_some, M_spot3, Option.bind_some, show fX5_partItem 4773 (nI (24 + 6 * k)) 9999 m2 = _ from W_part (code := 4773) b3 (by decide) _ _, Option.bind_some, M_spot4, Option.bind_some, show fX5_partItem 24627848 (nI (25 + 6 * k)) 9999 m2 = _ from W_part (code := 24627848) b3 (by decide) _ _, Option.bind_some]
      exact ⟨u, p2, e2, m2, rfl, rfl, b3, Wr.wn b3, hP2.tr b4⟩
  · obtain rfl : k = 8 := by omega
    right
    rw [if_neg (show ¬ nI 8 < (8 : Int32) by decide), if_pos (show (8 : Int32) ≤ nI 8 by decide), Option.bind_some, if_neg (show ¬ ((1 : Int32), u).1 = 0 by show ¬ (1 : Int32) = 0; decide), must0 h.2.2.2.2.2, Option.bind_some, if_neg (show ¬ mWrg (mWrg' m 1) = 0 by show ¬ (1 : Int32) = 0; decide), hc]
    exact ⟨u, p, e, mWrg' m 1, rfl, rfl, ⟨h.2.2.2.1, ⟨e, h.2.1.1, by have := h.2.1.2.1; omega, h.2.2.2.2.1⟩, rfl⟩, Nat.le_trans hpn h120, ⟨rfl, rfl, rfl, rfl, rfl, rfl, rfl, rfl, rfl⟩⟩
-- means told
theorem W_means {m : MS} {p : Nat} (h : Wr m p) : ∃ m', fX5_meansItem m = some m' ∧ Wr m' p ∧ PM m m' := by
  have hw : ¬ mWrg m = 0 := by rw [h.2.2]; decide
  refine ⟨mS' m (upd (mS m) 3 (mS m 3)), ?_, h, ⟨rfl, rfl, rfl, rfl, rfl, rfl, rfl, rfl, rfl⟩⟩
  have e0 : fX5_placeOf 0 0 = some (nI 3) := M_place0 0
  have e1 : fX5_placeOf 0 1 = some (nI 4) := M_place1 0
  have e2 : fX5_placeOf 0 2 = some (nI 5) := M_place2 0
  have e3 : fX5_his 0 0 m = some (mS m 3, m) := M_his (p := 0) (w := 0) (by omega) (by omega)
  rw [fX5_meansItem_eq, W_number h, Option.bind_some, if_neg hw, W_number h, Option.bind_some, e0, Option.bind_some, if_neg hw, e3, Option.bind_some, if_neg (ix (by omega)), e1, Option.bind_some]
  show ((fX5_partItem 5294547 (nI 4) 999 (mS' m (upd (mS m) (nI 3).toNatClampNeg (mS m 3)))).bind _) = _
  rw [cl (by omega), show fX5_partItem 5294547 (nI 4) 999 (mS' m (upd (mS m) 3 (mS m 3))) = _ from W_part (code := 5294547) (h.ms _) (by decide) _ _, Option.bind_some, e2, Option.bind_some, show fX5_partItem 654489747 (nI 5) 999 (mS' m (upd (mS m) 3 (mS m 3))) = _ from W_part (code := 654489747) (h.ms _) (by decide) _ _, Option.bind_some]
theorem person_same {n p e : Nat} {B : Nat → Nat} {t : Tp} {c : Tx} {m : MS} (h : Sy n B t c m p e) {k d : Nat} {u : St} (hw : WF k d u) (hR : Rel u (mS m)) (hl : tk n B p = 1) : ItemO n B t d p m (fX3_tellPerson (c, t, u)) ((fX5_must 1 m).bind fun q2 => ((fX5_meansItem q2).bind fun q3 => (some q3))) := by
  have hpe : p < e := h.2.1.2.2.1 (tk_letter hl).1
  obtain ⟨p1, e1, m1, a1, a2, a3, a4, a5, a6, a7⟩ := tok_next h
  rw [fX3_tellPerson_eq]
  show ItemO n B t d p m ((fX3_advance (c, t)).bind _) _
  rw [a1, Option.bind_some, must1 h.2.2.2.2.2, a2, Option.bind_some, bind_same]
  have hp1 := Wr.le a3
  rcases num_same (M := 5) a3 (by omega) with ⟨v1, p2, e2, m2, b1, b2, b3, b4, b5, b6, b7, b8⟩ | ⟨m2, b1, b2, b3, b4⟩
  · have hv6 : v1 < 6 := by omega
    have hp2 := Wr.le b4
    have z1 : (0 : Int32) ≤ nI v1 := nI_pos' (by omega)
    rw [show fX3_numberUpTo 5 (cTx n B p1 e1, t) = _ from b2, Option.bind_some, if_pos (show (0 : Int32) ≤ (nI v1, (cTx n B p2 e2, t)).1 from z1), fX5_meansItem_eq, show fX5_number 0 5 m1 = _ from b3, Option.bind_some, if_pos b4.2.2.2.2.2]
    rcases num_same (M := 9999) b4 (by omega) with ⟨v2, p3, e3, m3, c1, c2, c3, c4, c5, c6, c7, c8⟩ | ⟨m3, c1, c2, c3, c4⟩
    · have z2 : (0 : Int32) ≤ nI v2 := nI_pos' (by omega)
      have hS3 : Sy n B t (cTx n B p3 e3) (mS' m3 (upd (mS m3) (3 + 3 * v1) (nI v2))) p3 e3 := c4
      have hP3 : PM m (mS' m3 (upd (mS m3) (3 + 3 * v1) (nI v2))) := ((a5.tr b6).tr c6).tr (b := m3) ⟨rfl, rfl, rfl, rfl, rfl, rfl, rfl, rfl, rfl⟩
      have r3 : mS m3 = mS m := by rw [c7, b7, a6]
      have f4 : upd (mS m3) (3 + 3 * v1) (nI v2) (4 + 3 * v1) = sErn u v1 := by rw [upd_at, if_neg (by omega), r3]; exact (hR.2.2.2.1 v1 hv6).2.1
      have hwp := hw.p hv6
      rw [show fX3_numberUpTo 9999 (nI v1, (cTx n B p2 e2, t)).2 = _ from c2, Option.bind_some, if_pos (show (0 : Int32) ≤ (nI v2, (cTx n B p3 e3, t)).1 from z2), if_neg (show ¬ ((nI v1, (cTx n B p2 e2, t)).1 < 0 ∨ 6 ≤ ((nI v1, (cTx n B p2 e2, t)).1).toNatClampNeg) from ix hv6), show fX5_number 0 9999 m2 = _ from c3, Option.bind_some, b8, M_place0, Option.bind_some, if_pos c4.2.2.2.2.2, if_neg (ix (show 3 + 3 * v1 < 69 by omega)), M_place1, Option.bind_some, cl (show 3 + 3 * v1 < 2 ^ 31 by omega), c8]
      show ItemO n B t d p m ((fX3_clause 1001 999 (sErn u (nI v1).toNatClampNeg) (cTx n B p3 e3, t)).bind _) _
      rw [cl (show v1 < 2 ^ 31 by omega)]
      rcases clause_same (i := 1) (code := 5294547) (M := 999) (w := 4 + 3 * v1) (o := sErn u v1) hS3 wd1 (by omega) (by omega) f4 with ⟨r1, p4, e4, m4, d1, d2, d3, d4, d5, d6, d7⟩ | ⟨p4, e4, m4, d1, d2, d3, d4⟩
      · have i1 := clause_in d7 hwp.2.1
        have f5 : mS m4 (5 + 3 * v1) = sSpd u v1 := by rw [d6, upd_at, if_neg (by omega)]; show upd (mS m3) (3 + 3 * v1) (nI v2) (5 + 3 * v1) = _; rw [upd_at, if_neg (by omega), r3]; exact (hR.2.2.2.1 v1 hv6).2.2
        rw [show fX3_clause 1001 999 (sErn u v1) (cTx n B p3 e3, t) = _ from d1, Option.bind_some, if_pos (show (0 : Int32) ≤ (r1, (cTx n B p4 e4, t)).1 from i1.pos (by decide)), if_neg (show ¬ ((nI v1, (cTx n B p2 e2, t)).1 < 0 ∨ 6 ≤ v1) from ix' hv6), show fX5_partItem 5294547 (nI (4 + 3 * v1)) 999 (mS' m3 (upd (mS m3) (3 + 3 * v1) (nI v2))) = _ from d2, Option.bind_some, M_place2, Option.bind_some]
        show ItemO n B t d p m ((fX3_clause 1002 999 (sSpd u v1) (cTx n B p4 e4, t)).bind _) _
        rcases clause_same (i := 2) (code := 654489747) (M := 999) (w := 5 + 3 * v1) (o := sSpd u v1) d3 wd2 (by omega) (by omega) f5 with ⟨r2, p5, e5, m5, g1, g2, g3, g4, g5, g6, g7⟩ | ⟨p5, e5, m5, g1, g2, g3, g4⟩
        · have i2 := clause_in g7 hwp.2.2
          left
          rw [show fX3_clause 1002 999 (sSpd u v1) (cTx n B p4 e4, t) = _ from g1, Option.bind_some, if_pos (show (0 : Int32) ≤ (r2, (cTx n B p5 e5, t)).1 from i2.pos (by decide)), show fX5_partItem 654489747 (nI (5 + 3 * v1)) 999 m4 = _ from g2, Option.bind_some]
          have hRf := ((hR.mns hv6 (nI v2)).ern hv6 r1).spd hv6 r2
          refine ⟨k, sSpd' (sErn' (sMns' u (upd (sMns u) v1 (nI v2))) (upd (sErn u) v1 r1)) (upd (sSpd u) v1 r2), p5, e5, m5, ?_, rfl, g3, by omega, (hP3.tr d5).tr g5, ((hw.mns (in_nI (by omega))).ern i1).spd i2, ?_⟩
          · rw [if_neg (show ¬ ((nI v1, (cTx n B p2 e2, t)).1 < 0 ∨ 6 ≤ v1) from ix' hv6), if_neg (show ¬ ((nI v1, (cTx n B p2 e2, t)).1 < 0 ∨ 6 ≤ v1) from ix' hv6), if_neg (show ¬ ((nI v1, (cTx n B p2 e2, t)).1 < 0 ∨ 6 ≤ v1) from ix' hv6)]
            rfl
          · refine hRf.cong (fun q _ => ?_)
            have d6 : ∀ q, mS m4 q = upd (upd (mS m3) (3 + 3 * v1) (nI v2)) (4 + 3 * v1) r1 q := d6
            rw [g6, upd_at, upd_at]
            by_cases cq : q = 5 + 3 * v1
            · rw [if_pos cq, if_pos cq]
            · rw [if_neg cq, if_neg cq, d6, r3]
        · right
          rw [show fX3_clause 1002 999 (sSpd u v1) (cTx n B p4 e4, t) = _ from g1, Option.bind_some, if_neg (show ¬ (0 : Int32) ≤ ((-1 : Int32), (cTx n B p5 e5, t)).1 by show ¬ (0 : Int32) ≤ -1; decide), show fX5_partItem 654489747 (nI (5 + 3 * v1)) 999 m4 = _ from g2, Option.bind_some]
          exact ⟨u, p5, e5, m5, rfl, rfl, g3, Wr.wn g3, (hP3.tr d5).tr g4⟩
      · right
        rw [show fX3_clause 1001 999 (sErn u v1) (cTx n B p3 e3, t) = _ from d1, Option.bind_some, if_neg (show ¬ (0 : Int32) ≤ ((-1 : Int32), (cTx n B p4 e4, t)).1 by show ¬ (0 : Int32) ≤ -1; decide), show fX5_partItem 5294547 (nI (4 + 3 * v1)) 999 (mS' m3 (upd (mS m3) (3 + 3 * v1) (nI v2))) = _ from d2, Option.bind_some, M_place2, Option.bind_some, show fX5_partItem 654489747 (nI (5 + 3 * v1)) 999 m4 = _ from W_part (code := 654489747) d3 (by decide) _ _, Option.bind_some]
        exact ⟨u, p4, e4, m4, rfl, rfl, d3, Wr.wn d3, hP3.tr d4⟩
    · right
      have e3h : fX5_his (nI v1) 0 m3 = some (mS m3 (3 + 3 * v1), m3) := M_his (p := v1) (w := 0) hv6 (by omega)
      rw [show fX3_numberUpTo 9999 (nI v1, (cTx n B p2 e2, t)).2 = _ from c1, Option.bind_some, if_neg (show ¬ (0 : Int32) ≤ ((-1 : Int32), (cTx n B p2 e2, t)).1 by show ¬ (0 : Int32) ≤ -1; decide), show fX5_number 0 9999 m2 = _ from c2, Option.bind_some, b8, M_place0, Option.bind_some, if_neg (show ¬ mWrg m3 = 0 by rw [c3.2.2]; decide), e3h, Option.bind_some, if_neg (ix (show 3 + 3 * v1 < 69 by omega)), M_place1, Option.bind_some]
      show ∃ u' p' e' m', _ ∧ ((fX5_partItem 5294547 (nI (4 + 3 * v1)) 999 (mS' m3 (upd (mS m3) (nI (3 + 3 * v1)).toNatClampNeg (mS m3 (3 + 3 * v1))))).bind _) = _ ∧ _
      rw [cl (by omega), show fX5_partItem 5294547 (nI (4 + 3 * v1)) 999 (mS' m3 (upd (mS m3) (3 + 3 * v1) (mS m3 (3 + 3 * v1)))) = _ from W_part (code := 5294547) (c3.ms _) (by decide) _ _, Option.bind_some, M_place2, Option.bind_some, show fX5_partItem 654489747 (nI (5 + 3 * v1)) 999 (mS' m3 (upd (mS m3) (3 + 3 * v1) (mS m3 (3 + 3 * v1)))) = _ from W_part (code := 654489747) (c3.ms _) (by decide) _ _, Option.bind_some]
      exact ⟨u, p2, e2, mS' m3 (upd (mS m3) (3 + 3 * v1) (mS m3 (3 + 3 * v1))), rfl, rfl, c3.ms _, Wr.wn c3, ((a5.tr b6).tr c4).tr (b := m3) ⟨rfl, rfl, rfl, rfl, rfl, rfl, rfl, rfl, rfl⟩⟩
  · right
    obtain ⟨m3, w1, w2, w3⟩ := W_means b3
    have w1' : fX5_meansItem m1 = some m3 := by
      rw [fX5_meansItem_eq, show fX5_number 0 5 m1 = some m2 from b2, Option.bind_some]
      rw [fX5_meansItem_eq, W_number b3, Option.bind_some] at w1
      exact w1
    rw [show fX3_numberUpTo 5 (cTx n B p1 e1, t) = _ from b1, Option.bind_some, if_neg (show ¬ (0 : Int32) ≤ ((-1 : Int32), (cTx n B p1 e1, t)).1 by show ¬ (0 : Int32) ≤ -1; decide), w1']
    exact ⟨u, p1, e1, m3, rfl, rfl, w2, Wr.wn w2, (a5.tr b4).tr w3⟩
