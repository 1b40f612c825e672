-- WORDS
def PM (m m' : MS) : Prop := mKpt m' = mKpt m ∧ mOth m' = mOth m ∧ mSts m' = mSts m ∧ mIsK m' = mIsK m ∧ mTape m' = mTape m ∧ mTpd m' = mTpd m ∧ mBit m' = mBit m ∧ mSiz m' = mSiz m ∧ mNum m' = mNum m
theorem PM.rf (m : MS) : PM m m := ⟨rfl, rfl, rfl, rfl, rfl, rfl, rfl, rfl, rfl⟩
theorem PM.tr {a b c : MS} (h : PM a b) (g : PM b c) : PM a c :=
  ⟨g.1.trans h.1, g.2.1.trans h.2.1, g.2.2.1.trans h.2.2.1, g.2.2.2.1.trans h.2.2.2.1, g.2.2.2.2.1.trans h.2.2.2.2.1, g.2.2.2.2.2.1.trans h.2.2.2.2.2.1, g.2.2.2.2.2.2.1.trans h.2.2.2.2.2.2.1, g.2.2.2.2.2.2.2.1.trans h.2.2.2.2.2.2.2.1, g.2.2.2.2.2.2.2.2.trans h.2.2.2.2.2.2.2.2⟩
theorem TC.pm {n : Nat} {B : Nat → Nat} {t : Tp} {m m' : MS} (h : TC n B t m) (g : PM m m') : TC n B t m' := by
  obtain ⟨h1, h2, h3, h4⟩ := h
  obtain ⟨-, -, -, -, g5, g6, -⟩ := g
  exact ⟨h1, h2, by rw [g6]; exact h3, fun i hi => by rw [g5]; exact h4 i hi⟩
/-- both stand at the token from p to e -/
def Sy (n : Nat) (B : Nat → Nat) (t : Tp) (c : Tx) (m : MS) (p e : Nat) : Prop := TC n B t m ∧ Tok n B p e ∧ c = cTx n B p e ∧ mFrm m = nI p ∧ mTo m = nI e ∧ mWrg m = 0
theorem tok_next {n : Nat} {B : Nat → Nat} {t : Tp} {c : Tx} {m : MS} {p e : Nat} (h : Sy n B t c m p e) : ∃ p' e' m', fX3_advance (c, t) = some (cTx n B p' e', t) ∧ fX5_token m = some m' ∧ Sy n B t (cTx n B p' e') m' p' e' ∧ e ≤ p' ∧ PM m m' ∧ mS m' = mS m ∧ mVal m' = mVal m := by
  obtain ⟨h1, h2, rfl, h4, h5, h6⟩ := h
  have h120 := h1.1
  have he := h2.2.1
  obtain ⟨p', e', e1, e2, e3, e4⟩ := tokL (c := nI (tk n B p)) (d := nI p) (v := nI (if tk n B p = 2 then dX B p (e - p) else 0)) (n - e) e (FU + 1) FU (mFrm' m (mTo m)) h1 h5 (by omega) (by rw [FU_eq]; omega) (by rw [FU_eq]; omega)
  refine ⟨p', e', mTo' (mFrm' m (nI p')) (nI e'), ?_, ?_, ⟨h1, e4, rfl, rfl, rfl, h6⟩, e3, ⟨rfl, rfl, rfl, rfl, rfl, rfl, rfl, rfl, rfl⟩, rfl, rfl⟩
  · rw [fX3_advance_eq]; exact e1
  · rw [fX5_token_eq]; exact e2
theorem bind_same {α : Type} (x : Option α) : (x.bind fun q => some q) = x := by cases x <;> rfl
theorem wrg_eta {m : MS} (h : mWrg m = 0) : mWrg' m 0 = m := by
  have e : mWrg' m (mWrg m) = m := rfl
  rw [h] at e
  exact e
theorem wrg_eta1 {m : MS} (h : mWrg m = 1) : mWrg' m 1 = m := by
  have e : mWrg' m (mWrg m) = m := rfl
  rw [h] at e
  exact e
theorem must1 {m : MS} (h : mWrg m = 0) : fX5_must 1 m = fX5_token m := by
  rw [fX5_must_eq, if_pos h, if_neg (by decide), if_pos rfl, wrg_eta h, bind_same]
theorem must0 {m : MS} (h : mWrg m = 0) : fX5_must 0 m = some (mWrg' m 1) := by
  rw [fX5_must_eq, if_pos h, if_pos rfl, if_neg (by decide)]
theorem mustW {m : MS} (h : mWrg m = 1) (a : Int32) : fX5_must a m = some m := by
  rw [fX5_must_eq, if_neg (by rw [h]; decide), if_neg (by decide), wrg_eta1 h]
/-- the reference has found a fault at p -/
def Wr (m : MS) (p : Nat) : Prop := mFrm m = nI p ∧ (∃ e, p ≤ e ∧ e ≤ 120 ∧ mTo m = nI e) ∧ mWrg m = 1
noncomputable def wEnd (y : Int64) (m : MS) : Option (Int64 × MS) := (if (mWrg m) = 0 then ((fX5_byteAt (mFrm m) m).bind fun q0 => ((fX5_isLetter q0.1).bind fun q1 => (if q1 = 0 then (some ((0 : Int64), q0.2)) else (some (y, q0.2))))) else (some ((0 : Int64), m)))
theorem word_any {m : MS} {e : Nat} (he : e ≤ 120) (hm : mTo m = nI e) : ∀ (i k nf : Nat) (y : Int64), i + k = e → i < nf → ∃ y', lX5_word_7 nf y (nI k) m = wEnd y' m := by
  intro i
  induction i with
  | zero =>
    intro k nf y hi hn
    obtain ⟨nf, rfl⟩ : ∃ q, nf = q + 1 := ⟨nf - 1, by omega⟩
    obtain rfl : k = e := by omega
    refine ⟨y, ?_⟩
    rw [lX5_word_7_eq, hm, if_pos (nI_le (Nat.le_refl k) (by omega))]
    rfl
  | succ i ih =>
    intro k nf y hi hn
    obtain ⟨nf, rfl⟩ : ∃ q, nf = q + 1 := ⟨nf - 1, by omega⟩
    rw [lX5_word_7_eq, hm, if_neg (nI_ge (show k < e by omega) (by omega)), nI_1]
    by_cases c : lg_cmp y 36028797018963967 ≤ 0
    · rw [if_pos c, if_neg (ix (show k < 120 by omega))]
      exact ih (k + 1) nf _ (by omega) (by omega)
    · rw [if_neg c]
      exact ih (k + 1) nf _ (by omega) (by omega)
theorem W_word {m : MS} {p : Nat} (h : Wr m p) : fX5_word m = some (0, m) := by
  obtain ⟨h1, ⟨e, h2, h3, h4⟩, h5⟩ := h
  obtain ⟨y, e1⟩ := word_any h3 h4 (e - p) p FU 0 (by omega) (by rw [FU_eq]; omega)
  rw [fX5_word_eq, h1, e1]
  unfold wEnd
  rw [if_neg (by rw [h5]; decide)]
def WV (B : Nat → Nat) (p : Nat) : Nat → Nat
  | 0 => 0
  | i + 1 => if 36028797018963967 < WV B p i then WV B p i else 32 * WV B p i + (B (p + i) - 96)
theorem WV_lt {n p e : Nat} {B : Nat → Nat} (h : TkRun n B 1 p (p + e)) : ∀ i, i ≤ e → WV B p i < 2 ^ 62
  | 0, _ => by show 0 < _; decide
  | i + 1, hi => by
    have ih := WV_lt h i (by omega)
    have b := tk_letter (h (p + i) (by omega) (by omega))
    have eW : WV B p (i + 1) = if 36028797018963967 < WV B p i then WV B p i else 32 * WV B p i + (B (p + i) - 96) := rfl
    rw [eW]
    split
    · exact ih
    · have b2 := b.2.2
      generalize WV B p i = w at *
      generalize B (p + i) = y at *
      omega
theorem lN_int {a : Nat} (h : a < 2 ^ 62) : (lN a).toInt = (a : Int) := lg_ofNat_toInt (by omega)
theorem lN_inj {a b : Nat} (ha : a < 2 ^ 62) (hb : b < 2 ^ 62) : lN a = lN b ↔ a = b := by
  constructor
  · intro z
    have h1 := lN_int ha
    have h2 := lN_int hb
    rw [z, h2] at h1
    omega
  · rintro rfl; rfl
theorem word_val {n p e : Nat} {B : Nat → Nat} {t : Tp} {m : MS} (h : TC n B t m) (hr : TkRun n B 1 p (p + e)) (hm : mTo m = nI (p + e)) (hp : p + e ≤ n) : ∀ (i j nf : Nat), i + j = e → i < nf → lX5_word_7 nf (lN (WV B p j)) (nI (p + j)) m = wEnd (lN (WV B p e)) m := by
  have h120 := h.1
  intro i
  induction i with
  | zero =>
    intro j nf hi hn
    obtain ⟨nf, rfl⟩ : ∃ q, nf = q + 1 := ⟨nf - 1, by omega⟩
    obtain rfl : j = e := by omega
    rw [lX5_word_7_eq, hm, if_pos (nI_le (Nat.le_refl _) (by omega))]
    rfl
  | succ i ih =>
    intro j nf hi hn
    obtain ⟨nf, rfl⟩ : ∃ q, nf = q + 1 := ⟨nf - 1, by omega⟩
    have hlt := WV_lt hr j (by omega)
    have b := tk_letter (hr (p + j) (by omega) (by omega))
    have ihh := ih (j + 1) nf (by omega) (by omega)
    have eW : WV B p (j + 1) = if 36028797018963967 < WV B p j then WV B p j else 32 * WV B p j + (B (p + j) - 96) := rfl
    rw [eW] at ihh
    have cc : lg_cmp (lN (WV B p j)) 36028797018963967 ≤ 0 ↔ ¬ 36028797018963967 < WV B p j := by
      rw [lg_cmp_le, Int64.le_iff_toInt_le, lN_int hlt, show (36028797018963967 : Int64).toInt = 36028797018963967 from rfl]
      omega
    rw [lX5_word_7_eq, hm, if_neg (nI_ge (show p + j < p + e by omega) (by omega)), nI_1]
    by_cases c : 36028797018963967 < WV B p j
    · rw [if_neg (fun z => (cc.mp z) c)]
      rw [if_pos c] at ihh
      exact ihh
    · rw [if_pos (cc.mpr c), if_neg (ix (show p + j < 120 by omega)), cl (by omega), (h.2.2.2 (p + j) (by omega)).2.1, show (96 : Int32) = nI 96 from rfl, pk_sub (by omega), nI_l (by omega), show (32 : Int64) = lN 32 from rfl, lN_mul, lN_add]
      rw [if_neg c] at ihh
      exact ihh
theorem M_word {n p e : Nat} {B : Nat → Nat} {t : Tp} {c : Tx} {m : MS} (h : Sy n B t c m p e) : fX5_word m = some (if tk n B p = 1 then lN (WV B p (e - p)) else 0, m) := by
  obtain ⟨h1, h2, rfl, h4, h5, h6⟩ := h
  have h120 := h1.1
  obtain ⟨t1, t2, t3, t4, t5⟩ := h2
  have hb : p < n → B p ≤ 255 := fun c => (h1.2.2.2 p c).1
  rw [fX5_word_eq, h4]
  by_cases c : tk n B p = 1
  · have e1 := word_val (p := p) (e := e - p) h1 (by rw [show p + (e - p) = e by omega]; exact t4 c) (by rw [show p + (e - p) = e by omega]; exact h5) (by omega) (e - p) 0 FU (by omega) (by rw [FU_eq]; omega)
    rw [if_pos c, show lX5_word_7 FU 0 (nI p) m = _ from e1]
    unfold wEnd
    rw [if_pos h6, h4, M_byteAt h1 (by omega), Option.bind_some, M_isLetter, Option.bind_some, bt_letter hb, decide_eq_true c]
    rfl
  · obtain ⟨y, e1⟩ := word_any (show e ≤ 120 by omega) h5 (e - p) p FU 0 (by omega) (by rw [FU_eq]; omega)
    rw [if_neg c, e1]
    unfold wEnd
    rw [if_pos h6, h4, M_byteAt h1 (by omega), Option.bind_some, M_isLetter, Option.bind_some, bt_letter hb, decide_eq_false c]
    rfl
-- a word by its number
def cdF (w : Nat → Nat) : Nat → Nat
  | 0 => 0
  | k + 1 => 32 * cdF w k + (w k - 96)
theorem wv_code {n p : Nat} {B w : Nat → Nat} : ∀ (k e : Nat), (∀ i, i < k → 97 ≤ w i ∧ w i ≤ 122) → TkRun n B 1 p (p + e) → cdF w k ≤ 36028797018963967 → (WV B p e = cdF w k ↔ e = k ∧ ∀ i, i < k → B (p + i) = w i) := by
  intro k
  induction k with
  | zero =>
    intro e hw hr hM
    cases e with
    | zero => exact ⟨fun _ => ⟨rfl, fun i hi => absurd hi (Nat.not_lt_zero i)⟩, fun _ => rfl⟩
    | succ e =>
      have b := tk_letter (hr (p + e) (by omega) (by omega))
      constructor
      · intro z
        exfalso
        have z : (if 36028797018963967 < WV B p e then WV B p e else 32 * WV B p e + (B (p + e) - 96)) = 0 := z
        split at z <;> omega
      · intro z; exact absurd z.1 (by omega)
  | succ k ih =>
    intro e hw hr hM
    have hM : 32 * cdF w k + (w k - 96) ≤ 36028797018963967 := hM
    have hwk := hw k (by omega)
    cases e with
    | zero =>
      constructor
      · intro z
        exfalso
        have z : 0 = 32 * cdF w k + (w k - 96) := z
        omega
      · intro z; exact absurd z.1 (by omega)
    | succ e =>
      have b := tk_letter (hr (p + e) (by omega) (by omega))
      have ihh := ih e (fun i hi => hw i (by omega)) (fun j h1 h2 => hr j h1 (by omega)) (by omega)
      show (if 36028797018963967 < WV B p e then WV B p e else 32 * WV B p e + (B (p + e) - 96)) = 32 * cdF w k + (w k - 96) ↔ _
      by_cases c : 36028797018963967 < WV B p e
      · rw [if_pos c]
        constructor
        · intro z; omega
        · rintro ⟨z1, z2⟩
          obtain rfl : e = k := by omega
          have := ihh.mpr ⟨rfl, fun i hi => z2 i (by omega)⟩
          omega
      · rw [if_neg c]
        constructor
        · intro z
          have z1 : WV B p e = cdF w k := by omega
          have z2 : B (p + e) = w k := by omega
          obtain ⟨q1, q2⟩ := ihh.mp z1
          subst q1
          refine ⟨rfl, fun i hi => ?_⟩
          by_cases ci : i = e
          · rw [ci]; exact z2
          · exact q2 i (by omega)
        · rintro ⟨z1, z2⟩
          obtain rfl : e = k := by omega
          have q1 := ihh.mpr ⟨rfl, fun i hi => z2 i (by omega)⟩
          have q2 := z2 e (by omega)
          rw [q1, q2]
def chN (i k : Nat) : Nat := ((strB i).getD k 0).toNatClampNeg
def lenN (i : Nat) : Nat := (strB i).length
def WdOK (i code : Nat) : Prop := (i < 13 ∧ lenN i ≤ 8 ∧ 0 < code ∧ code ≤ 36028797018963967) ∧ (∀ k, k < lenN i → (strB i).getD k 0 = nI (chN i k) ∧ 97 ≤ chN i k ∧ chN i k ≤ 122) ∧ cdF (chN i) (lenN i) = code
theorem wd0 : WdOK 0 13796819 := ⟨by decide, by decide, by decide⟩
theorem wd1 : WdOK 1 5294547 := ⟨by decide, by decide, by decide⟩
theorem wd2 : WdOK 2 654489747 := ⟨by decide, by decide, by decide⟩
theorem wd3 : WdOK 3 538512556 := ⟨by decide, by decide, by decide⟩
theorem wd4 : WdOK 4 394393 := ⟨by decide, by decide, by decide⟩
theorem wd5 : WdOK 5 7749317 := ⟨by decide, by decide, by decide⟩
theorem wd6 : WdOK 6 624088749524 := ⟨by decide, by decide, by decide⟩
theorem wd7 : WdOK 7 763077 := ⟨by decide, by decide, by decide⟩
theorem wd8 : WdOK 8 270141944 := ⟨by decide, by decide, by decide⟩
theorem wd10 : WdOK 10 6642 := ⟨by decide, by decide, by decide⟩
theorem wd11 : WdOK 11 4773 := ⟨by decide, by decide, by decide⟩
theorem wd12 : WdOK 12 24627848 := ⟨by decide, by decide, by decide⟩
theorem strLn_eq (i : Nat) : strLn (1000 + i) = nI (lenN i) := by
  unfold strLn strL lenN
  rw [Nat.add_sub_cancel_left]
theorem strL_eq (i : Nat) : strL (1000 + i) = lenN i := by
  unfold strL lenN
  rw [Nat.add_sub_cancel_left]
theorem strCh_eq {i code k : Nat} (ok : WdOK i code) (hk : k < lenN i) : strCh (1000 + i) k = nI (chN i k) := by
  unfold strCh
  rw [Nat.add_sub_cancel_left]
  exact (ok.2.1 k hk).1
theorem isWL {n p : Nat} {B : Nat → Nat} {t : Tp} {m : MS} (h : TC n B t m) {i code : Nat} (ok : WdOK i code) (hp : p + lenN i ≤ n) {a b d : Int32} : ∀ (q j nf : Nat), q + j = lenN i → q < nf → ∃ r : Bool, lX3_isWord_28 nf (1000 + i) (nI j) ((a, b, nI p, d), t) = some (b2i r, ((a, b, nI p, d), t)) ∧ (r = true ↔ ∀ k, j ≤ k → k < lenN i → B (p + k) = chN i k) := by
  have h120 := h.1
  have hi13 := ok.1.1
  have hw : 1000 ≤ 1000 + i ∧ 1000 + i < 1013 := by omega
  intro q
  induction q with
  | zero =>
    intro j nf hq hn
    obtain ⟨nf, rfl⟩ : ∃ q, nf = q + 1 := ⟨nf - 1, by omega⟩
    obtain rfl : j = lenN i := by omega
    refine ⟨true, ?_, ⟨fun _ k h1 h2 => absurd h2 (by omega), fun _ => rfl⟩⟩
    rw [lX3_isWord_28_eq, if_pos hw, strLn_eq, if_pos (nI_le (Nat.le_refl _) (by omega))]
    rfl
  | succ q ih =>
    intro j nf hq hn
    obtain ⟨nf, rfl⟩ : ∃ q, nf = q + 1 := ⟨nf - 1, by omega⟩
    have hj : j < lenN i := by omega
    obtain ⟨b1, b2, b3⟩ := h.2.2.2 (p + j) (by omega)
    obtain ⟨-, c1, c2⟩ := ok.2.1 j hj
    rw [lX3_isWord_28_eq, if_pos hw, strLn_eq, if_neg (nI_ge hj (by omega))]
    show ∃ r : Bool, (if tLen t ≤ nI p + nI j then _ else (if nI p + nI j < 0 ∨ 120 ≤ (nI p + nI j).toNatClampNeg then none else (if (1000 ≤ 1000 + i ∧ 1000 + i < 1013) ∧ ¬ (nI j < 0 ∨ strL (1000 + i) ≤ (nI j).toNatClampNeg) then (if tByt t (nI p + nI j).toNatClampNeg = strCh (1000 + i) (nI j).toNatClampNeg then _ else _) else none))) = _ ∧ _
    rw [h.2.1, nI_add, if_neg (nI_ge (show p + j < n by omega) (by omega)), if_neg (ix (show p + j < 120 by omega)), strL_eq, if_pos ⟨hw, ix hj (by omega)⟩, cl (show p + j < 2 ^ 31 by omega), cl (show j < 2 ^ 31 by omega), strCh_eq ok hj, b3]
    by_cases c : B (p + j) = chN i j
    · rw [if_pos ((byt_eq b1 (by omega)).mpr c), nI_1]
      obtain ⟨r, e1, e2⟩ := ih (j + 1) nf (by omega) (by omega)
      refine ⟨r, e1, e2.trans ⟨fun z k h1 h2 => ?_, fun z k h1 h2 => z k (by omega) h2⟩⟩
      by_cases ck : k = j
      · rw [ck]; exact c
      · exact z k (by omega) h2
    · refine ⟨false, ?_, ⟨fun z => absurd z (by decide), fun z => absurd (z j (Nat.le_refl j) hj) c⟩⟩
      rw [if_neg (fun z => c ((byt_eq b1 (by omega)).mp z))]
      rfl
/-- a word is there for both, or for neither -/
theorem word_same {n p e : Nat} {B : Nat → Nat} {t : Tp} {c : Tx} {m : MS} (h : Sy n B t c m p e) {i code : Nat} (ok : WdOK i code) : ∃ r : Bool, fX3_isWord (1000 + i) (c, t) = some (b2i r, (c, t)) ∧ (lg_cmp (if tk n B p = 1 then lN (WV B p (e - p)) else 0) (lN code) = 0 ↔ r = true) ∧ (r = true → tk n B p = 1) := by
  obtain ⟨h1, h2, rfl, h4, h5, h6⟩ := h
  have h120 := h1.1
  obtain ⟨t1, t2, t3, t4, t5⟩ := h2
  have hi13 := ok.1.1
  have hw : 1000 ≤ 1000 + i ∧ 1000 + i < 1013 := by omega
  have hcode : code < 2 ^ 62 := by have := ok.1.2.2.2; omega
  have htl := tk_lt (n := n) (B := B) (i := p)
  rw [fX3_isWord_eq, if_pos hw, strLn_eq]
  show ∃ r : Bool, (if nI (tk n B p) = 1 then (if nI e - nI p = nI (lenN i) then _ else _) else _) = _ ∧ _
  rw [pk_sub t1, lg_cmp_eq]
  by_cases c1 : tk n B p = 1
  · have hr : TkRun n B 1 p (p + (e - p)) := by rw [show p + (e - p) = e by omega]; exact t4 c1
    have hlt := WV_lt hr (e - p) (Nat.le_refl _)
    have key := wv_code (w := chN i) (lenN i) (e - p) (fun k hk => (ok.2.1 k hk).2) hr (by rw [ok.2.2]; exact ok.1.2.2.2)
    rw [ok.2.2] at key
    rw [if_pos (show nI (tk n B p) = (1 : Int32) by rw [c1]; rfl), if_pos c1, lN_inj hlt hcode, key]
    by_cases c2 : e - p = lenN i
    · rw [if_pos (by rw [c2])]
      obtain ⟨r, e1, e2⟩ := isWL (a := nI e) (b := nI (tk n B p)) (d := nI (if tk n B p = 2 then dX B p (e - p) else 0)) h1 ok (p := p) (by omega) (lenN i) 0 FU (by omega) (by rw [FU_eq]; have := ok.1.2.1; omega)
      refine ⟨r, e1, ?_, fun _ => c1⟩
      rw [e2]
      exact ⟨fun z k _ hk => z.2 k hk, fun z => ⟨c2, fun k hk => z k (Nat.zero_le k) hk⟩⟩
    · rw [if_neg (fun z => c2 ((nI_eq (by omega) (by have := ok.1.2.1; omega)).mp z))]
      exact ⟨false, rfl, ⟨fun z => absurd z.1 c2, fun z => absurd z (by decide)⟩, fun z => absurd z (by decide)⟩
  · rw [if_neg (show ¬ nI (tk n B p) = (1 : Int32) from fun z => c1 ((nI_eq (b := 1) (by omega) (by omega)).mp z)), if_neg c1]
    refine ⟨false, rfl, ⟨fun z => ?_, fun z => absurd z (by decide)⟩, fun z => absurd z (by decide)⟩
    exfalso
    have z1 : (0 : Int64).toInt = (code : Int) := by rw [z]; exact lN_int hcode
    have := ok.1.2.2.1
    rw [z64_0] at z1
    omega
