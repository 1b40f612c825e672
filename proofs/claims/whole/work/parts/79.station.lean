-- A STATION TOLD
noncomputable def itemX (c : Tx) (t : Tp) (u : St) : Option (Int32 × TS) := (fX3_isWord 1000 (c, t)).bind fun q0 => if q0.1 = 0 then fX3_tellThing (c, t, u) else fX3_tellPerson (c, t, u)
theorem item_same {n p e : Nat} {B : Nat → Nat} {t : Tp} {c : Tx} {m : MS} (h : Sy n B t c m p e) {k d : Nat} {u : St} (hw : WF k d u) (hR : Rel u (mS m)) : ItemO n B t d p m (itemX c t u) (fX5_item m) := by
  obtain ⟨r0, a0, b0, d0⟩ := word_same h wd0
  replace a0 : fX3_isWord 1000 (c, t) = some (b2i r0, (c, t)) := a0
  replace b0 : lg_cmp (if tk n B p = 1 then lN (WV B p (e - p)) else 0) 13796819 = 0 ↔ r0 = true := b0
  obtain ⟨r, k1, k2, k3⟩ := kind_same h
  have hc := h.2.2.1
  have h120 := h.1.1
  unfold itemX
  rw [a0, Option.bind_some, fX5_item_eq, k2, Option.bind_some]
  rcases k3 with rfl | ⟨g, hg, rfl, hl, hne⟩
  · rw [if_pos (show ((-1 : Int32), m).1 < 0 by show (-1 : Int32) < 0; decide), M_word h, Option.bind_some]
    cases r0 with
    | true =>
      rw [if_neg (show ¬ (b2i true, (c, t)).1 = 0 by show ¬ b2i true = 0; decide), if_pos (b0.mpr rfl)]
      exact person_same h hw hR (d0 rfl)
    | false =>
      right
      have hW : Wr (mWrg' m 1) p := ⟨h.2.2.2.1, ⟨e, h.2.1.1, by have := h.2.1.2.1; omega, h.2.2.2.2.1⟩, rfl⟩
      obtain ⟨m3, w1, w2, w3⟩ := W_means hW
      rw [if_pos (show (b2i false, (c, t)).1 = 0 from rfl), if_neg (fun z => absurd (b0.mp z) (by decide)), fX3_tellThing_eq]
      show ∃ u' p' e' m', ((fX3_kindNamed (c, t)).bind _) = _ ∧ _
      rw [k1, Option.bind_some, if_pos (show ((-1 : Int32), (c, t)).1 < 0 by show (-1 : Int32) < 0; decide)]
      show ∃ u' p' e' m', some ((0 : Int32), (c, t, u)) = _ ∧ ((fX5_must 0 m).bind _) = _ ∧ _
      rw [must0 h.2.2.2.2.2, Option.bind_some, w1, hc]
      exact ⟨u, p, e, m3, rfl, rfl, w2, Wr.wn w2, PM.tr (b := mWrg' m 1) ⟨rfl, rfl, rfl, rfl, rfl, rfl, rfl, rfl, rfl⟩ w3⟩
  · rw [if_neg (show ¬ (nI g, m).1 < 0 from nI_pos (show g < 2 ^ 31 by omega)), bind_same]
    cases r0 with
    | true => exact absurd (b0.mpr rfl) hne
    | false =>
      rw [if_pos (show (b2i false, (c, t)).1 = 0 from rfl)]
      exact thing_same h hw hR hg hl k1
theorem M_putsL : ∀ (i j n : Nat) (m : MS), i + j = 69 → i < n → (∀ q, q < j → mS m q = mOth m q) → ∃ s', lX5_putsBack_2 n (nI j) m = some (mS' m s') ∧ ∀ q, q < 69 → s' q = mOth m q := by
  intro i
  induction i with
  | zero =>
    intro j n m hk hn hq
    obtain ⟨n, rfl⟩ : ∃ q, n = q + 1 := ⟨n - 1, by omega⟩
    obtain rfl : j = 69 := by omega
    exact ⟨mS m, by rw [lX5_putsBack_2_eq, if_pos (by decide)]; rfl, hq⟩
  | succ i ih =>
    intro j n m hk hn hq
    obtain ⟨n, rfl⟩ : ∃ q, n = q + 1 := ⟨n - 1, by omega⟩
    have hj : j < 69 := by omega
    rw [lX5_putsBack_2_eq, if_neg (by rw [show (69 : Int32) = nI 69 from rfl]; exact nI_ge hj (by decide))]
    simp only [if_neg (ix' hj), cl (show j < 2 ^ 31 by omega), nI_1]
    obtain ⟨s', e1, e2⟩ := ih (j + 1) n (mS' m (upd (mS m) j (mOth m j))) (by omega) (by omega) (fun q hq2 => by
      show upd (mS m) j (mOth m j) q = mOth m q
      rw [upd_at]
      by_cases e : q = j
      · rw [if_pos e, e]
      · rw [if_neg e]; exact hq q (by omega))
    exact ⟨s', e1, e2⟩
theorem M_putsBack (m : MS) : ∃ s', fX5_putsBack m = some (mS' m s') ∧ ∀ q, q < 69 → s' q = mOth m q := by
  rw [fX5_putsBack_eq]
  exact M_putsL 69 0 FU m (by omega) (by rw [FU_eq]; omega) (fun q hq => absurd hq (Nat.not_lt_zero q))
theorem M_savesL : ∀ (i j n : Nat) (m : MS), i + j = 69 → i < n → (∀ q, q < j → mOth m q = mS m q) → ∃ a', lX5_saves_2 n (nI j) m = some (mOth' m a') ∧ ∀ q, q < 69 → a' q = mS m q := by
  intro i
  induction i with
  | zero =>
    intro j n m hk hn hq
    obtain ⟨n, rfl⟩ : ∃ q, n = q + 1 := ⟨n - 1, by omega⟩
    obtain rfl : j = 69 := by omega
    exact ⟨mOth m, by rw [lX5_saves_2_eq, if_pos (by decide)]; rfl, hq⟩
  | succ i ih =>
    intro j n m hk hn hq
    obtain ⟨n, rfl⟩ : ∃ q, n = q + 1 := ⟨n - 1, by omega⟩
    have hj : j < 69 := by omega
    rw [lX5_saves_2_eq, if_neg (by rw [show (69 : Int32) = nI 69 from rfl]; exact nI_ge hj (by decide))]
    simp only [if_neg (ix' hj), cl (show j < 2 ^ 31 by omega), nI_1]
    obtain ⟨a', e1, e2⟩ := ih (j + 1) n (mOth' m (upd (mOth m) j (mS m j))) (by omega) (by omega) (fun q hq2 => by
      show upd (mOth m) j (mS m j) q = mS m q
      rw [upd_at]
      by_cases e : q = j
      · rw [if_pos e, e]
      · rw [if_neg e]; exact hq q (by omega))
    exact ⟨a', e1, e2⟩
theorem M_saves (m : MS) : ∃ a', fX5_saves m = some (mOth' m a') ∧ ∀ q, q < 69 → a' q = mS m q := by
  rw [fX5_saves_eq]
  exact M_savesL 69 0 FU m (by omega) (by rw [FU_eq]; omega) (fun q hq => absurd hq (Nat.not_lt_zero q))
/-- the reference's end with a fault at p -/
theorem st_wrong {m : MS} {p nf : Nat} (h : Wr m p) (x1 : Int32) : ∃ m', lX5_station_24 (nf + 1) x1 m = some (-1 - nI p, m') ∧ (∀ q, q < 69 → mS m' q = mOth m q) ∧ PM (mTpd' m 0) m' := by
  have hw : ¬ mWrg m = 0 := by rw [h.2.2]; decide
  obtain ⟨s', e1, e2⟩ := M_putsBack (mWrg' m 1)
  refine ⟨mTpd' (mS' (mWrg' m 1) s') 0, ?_, e2, ⟨rfl, rfl, rfl, rfl, rfl, rfl, rfl, rfl, rfl⟩⟩
  rw [lX5_station_24_eq, if_neg hw, if_neg hw, if_neg (show ¬ (1 : Int32) = 0 by decide), e1, Option.bind_some, if_neg (show ¬ mWrg (mS' (mWrg' m 1) s') = 0 by show ¬ (1 : Int32) = 0; decide)]
  show some (-1 - mFrm m, _) = _
  rw [h.1]
theorem PM.tpd {a b : MS} (h : PM a b) : PM (mTpd' a 0) (mTpd' b 0) := ⟨h.1, h.2.1, h.2.2.1, h.2.2.2.1, h.2.2.2.2.1, rfl, h.2.2.2.2.2.2.1, h.2.2.2.2.2.2.2.1, h.2.2.2.2.2.2.2.2⟩
theorem tell_step {nf : Nat} {x2 : Int32} {c : Tx} {t : Tp} {u : St} {n p e : Nat} {B : Nat → Nat} {m : MS} (h : Sy n B t c m p e) {q1 : Int32 × TS} (hx : ¬ (120 : Int32) < x2) (e1 : itemX c t u = some q1) : lX3_tellTo_11_1_3 (nf + 1) x2 (c, t, u) = (if q1.1 = 0 then (some (((-1 : Int32) - (cPlc (tsX q1.2))), q1.2)) else (if (cTok (tsX q1.2)) = 0 then (some (x2, q1.2)) else (if (cTok (tsX q1.2)) = 3 then ((fX3_advance ((tsX q1.2), (tsP q1.2))).bind fun q2 => (lX3_tellTo_11_1_3 nf ((x2 + 1)) ((ttX q2), (ttP q2), (tsS q1.2)))) else (some (((-1 : Int32) - (cPlc (tsX q1.2))), q1.2))))) := by
  obtain ⟨r0, a0, -, -⟩ := word_same h wd0
  replace a0 : fX3_isWord 1000 (c, t) = some (b2i r0, (c, t)) := a0
  unfold itemX at e1
  rw [a0, Option.bind_some] at e1
  rw [lX3_tellTo_11_1_3_eq, if_neg hx]
  show ((fX3_isWord 1000 (c, t)).bind _) = _
  rw [a0, Option.bind_some]
  cases r0 with
  | false =>
    rw [if_pos (show (b2i false, (c, t)).1 = 0 from rfl)] at e1 ⊢
    show ((fX3_tellThing (c, t, u)).bind _) = _
    rw [e1, Option.bind_some]
    by_cases c1 : q1.1 = 0
    · rw [if_pos c1, if_pos c1, if_pos c1]
    · rw [if_neg c1, if_neg c1, if_neg c1]
  | true =>
    rw [if_neg (show ¬ (b2i true, (c, t)).1 = 0 by show ¬ b2i true = 0; decide)] at e1 ⊢
    show ((fX3_tellPerson (c, t, u)).bind _) = _
    rw [e1, Option.bind_some]
    by_cases c1 : q1.1 = 0
    · rw [if_pos c1, if_pos c1, if_pos c1]
    · rw [if_neg c1, if_neg c1, if_neg c1]
/-- how a text ends, for both -/
def EndO (d : Nat) (t : Tp) (m : MS) (X : Option (Int32 × TS)) (M : Option (Int32 × MS)) : Prop :=
  (∃ J k' c' u' m', J ≤ 200 ∧ X = some (nI J, (c', t, u')) ∧ M = some (nI J, m') ∧ WF k' d u' ∧ Rel u' (mS m') ∧ PM (mTpd' m 0) m') ∨
  (∃ p' c' u' m', p' ≤ 120 ∧ X = some (-1 - nI p', (c', t, u')) ∧ M = some (-1 - nI p', m') ∧ (∀ q, q < 69 → mS m' q = mOth m q) ∧ PM (mTpd' m 0) m')
theorem stationL {n d : Nat} {B : Nat → Nat} {t : Tp} : ∀ (f nf nf' it p e k : Nat) (c : Tx) (u : St) (m : MS), n + 1 ≤ f + p → f < nf → f < nf' → Sy n B t c m p e → WF k d u → Rel u (mS m) → 1 ≤ it → 2 * (it - 1) ≤ p → EndO d t m (lX3_tellTo_11_1_3 nf (nI it) (c, t, u)) ((fX5_item m).bind fun q2 => lX5_station_24 nf' (nI it) q2) := by
  intro f
  induction f with
  | zero =>
    intro nf nf' it p e k c u m hf hn hn' h hw hR hi hp
    have := Wr.le h
    omega
  | succ f ih =>
    intro nf nf' it p e k c u m hf hn hn' h hw hR hi hp
    obtain ⟨nf, rfl⟩ : ∃ q, nf = q + 1 := ⟨nf - 1, by omega⟩
    obtain ⟨nf', rfl⟩ : ∃ q, nf' = q + 1 := ⟨nf' - 1, by omega⟩
    have hpn := Wr.le h
    have h120 := h.1.1
    have hx : ¬ (120 : Int32) < nI it := nI_nlt (show it ≤ 120 by omega) (by decide)
    rcases item_same h hw hR with ⟨k', u', p', e', m', a1, a2, a3, a4, a5, a6, a7⟩ | ⟨u', p', e', m', a1, a2, a3, a4, a5⟩
    · rw [tell_step h hx a1, a2, Option.bind_some, if_neg (show ¬ ((1 : Int32), (cTx n B p' e', t, u')).1 = 0 by show ¬ (1 : Int32) = 0; decide)]
      show EndO d t m (if nI (tk n B p') = 0 then some (nI it, (cTx n B p' e', t, u')) else (if nI (tk n B p') = 3 then ((fX3_advance (cTx n B p' e', t)).bind fun q2 => (lX3_tellTo_11_1_3 nf (nI it + 1) (ttX q2, ttP q2, u'))) else some (-1 - nI p', (cTx n B p' e', t, u')))) _
      have htl := tk_lt (n := n) (B := B) (i := p')
      have hp'n := Wr.le a3
      have hb : p' < n → B p' ≤ 255 := fun c => (a3.1.2.2.2 p' c).1
      have hbt := M_byteAt a3.1 (show p' < 2 ^ 31 by omega)
      have hw0 := a3.2.2.2.2.2
      by_cases c0 : n ≤ p'
      · have ht0 : tk n B p' = 0 := tk_0.mpr c0
        left
        refine ⟨it, k', cTx n B p' e', u', mWrg' (mTpd' m' 0) 0, by omega, ?_, ?_, a6, a7, a5.tpd⟩
        · rw [if_pos (by rw [ht0]; rfl)]
        · rw [lX5_station_24_eq, if_pos hw0, a3.2.2.2.1, hbt, Option.bind_some, if_neg (show ¬ btM n B p' = (59 : Int32) from fun z => absurd ((bt_is (c := 59) hb (by omega)).mp z).1 (by omega))]
          show (if mWrg m' = 0 then (if mTpd m' ≤ mFrm m' then _ else _) else _) = _
          rw [if_pos hw0, a3.1.2.2.1, a3.2.2.2.1, if_pos (nI_le c0 (by omega)), if_pos (show (0 : Int32) = 0 from rfl), if_pos (show (0 : Int32) = 0 from rfl)]
      · have ht0 : ¬ tk n B p' = 0 := fun z => c0 (tk_0.mp z)
        rw [if_neg (show ¬ nI (tk n B p') = (0 : Int32) from fun z => ht0 ((nI_eq (b := 0) (by omega) (by omega)).mp z))]
        by_cases c3 : tk n B p' = 3
        · obtain ⟨p2, e2, m2, b1, b2, b3, b4, b5, b6, b7⟩ := tok_next a3
          have hpe : p' < e' := a3.2.1.2.2.1 (by omega)
          have hR2 : Rel u' (mS m2) := by rw [b6]; exact a7
          have ihh := ih nf nf' (it + 1) p2 e2 k' (cTx n B p2 e2) u' m2 (by omega) (by omega) (by omega) b3 a6 hR2 (by omega) (by omega)
          rw [if_pos (show nI (tk n B p') = (3 : Int32) by rw [c3]; rfl), b1, Option.bind_some, nI_1, lX5_station_24_eq, if_pos hw0, a3.2.2.2.1, hbt, Option.bind_some, if_pos (show btM n B p' = (59 : Int32) from (bt_is (c := 59) hb (by omega)).mpr (tk_3.mp c3)), must1 hw0, b2, Option.bind_some, nI_1]
          have hP := (a5.tr b5).tpd
          rcases ihh with ⟨J, k2, c2, u2, m4, d1, d2, d3, d4, d5, d6⟩ | ⟨p4, c2, u2, m4, d1, d2, d3, d4, d5⟩
          · exact Or.inl ⟨J, k2, c2, u2, m4, d1, d2, d3, d4, d5, hP.tr d6⟩
          · exact Or.inr ⟨p4, c2, u2, m4, d1, d2, d3, fun q hq => (d4 q hq).trans (by rw [b5.2.1, a5.2.1]), hP.tr d5⟩
        · right
          obtain ⟨s', e1, e2⟩ := M_putsBack (mWrg' m' 1)
          refine ⟨p', cTx n B p' e', u', mTpd' (mS' (mWrg' m' 1) s') 0, by omega, ?_, ?_, fun q hq => (e2 q hq).trans (by show mOth m' q = _; rw [a5.2.1]), ?_⟩
          · rw [if_neg (show ¬ nI (tk n B p') = (3 : Int32) from fun z => c3 ((nI_eq (b := 3) (by omega) (by omega)).mp z))]
          · rw [lX5_station_24_eq, if_pos hw0, a3.2.2.2.1, hbt, Option.bind_some, if_neg (show ¬ btM n B p' = (59 : Int32) from fun z => c3 (tk_3.mpr ((bt_is (c := 59) hb (by omega)).mp z)))]
            show (if mWrg m' = 0 then (if mTpd m' ≤ mFrm m' then _ else (if (1 : Int32) = 0 then _ else ((fX5_putsBack (mWrg' m' 1)).bind _))) else _) = _
            rw [if_pos hw0, a3.1.2.2.1, a3.2.2.2.1, if_neg (nI_ge (show p' < n by omega) (by omega)), if_neg (show ¬ (1 : Int32) = 0 by decide), e1, Option.bind_some, if_neg (show ¬ mWrg (mS' (mWrg' m' 1) s') = 0 by show ¬ (1 : Int32) = 0; decide)]
            show some (-1 - mFrm m', _) = _
            rw [a3.2.2.2.1]
          · exact a5.tpd.tr (b := mTpd' m' 0) ⟨rfl, rfl, rfl, rfl, rfl, rfl, rfl, rfl, rfl⟩
    · right
      obtain ⟨m2, e1, e2, e3⟩ := st_wrong (nf := nf') a3 (nI it)
      refine ⟨p', cTx n B p' e', u', m2, a4, ?_, ?_, fun q hq => (e2 q hq).trans (by rw [a5.2.1]), a5.tpd.tr e3⟩
      · rw [tell_step h hx a1, if_pos (show ((0 : Int32), (cTx n B p' e', t, u')).1 = 0 from rfl)]
        rfl
      · rw [a2, Option.bind_some, e1]
theorem Inv.st {x x' : XS} {m m' : MS} (h : Inv x m) (k1 : xKpt x' = xKpt x) (k2 : xIsK x' = xIsK x) (k3 : xFnd x' = xFnd x) (k4 : tLen (xTape x') = 0) (k5 : ∀ s, xSh x' s = xSh x s) (m1 : mKpt m' = mKpt m) (m2 : mIsK m' = mIsK m) (m3 : mSts m' = mSts m) (m4 : mTpd m' = 0) (m5 : mBit m' = mBit m) (m6 : mSiz m' = mSiz m) (m7 : mNum m' = mNum m) (g : GoodS (xRoom x')) (r : Rel (xRoom x') (mS m')) : Inv x' m' := by
  obtain ⟨h1, h2, h3, h4, h5, h6⟩ := h
  refine ⟨g, r, ?_, fun q hq => by rw [k3, m3]; exact h4 q hq, ⟨0, by omega, k4, m4, fun i hi => absurd hi (Nat.not_lt_zero i)⟩, fun s hs => ?_⟩
  · unfold KpR at h3 ⊢
    rw [k1, k2, m1, m2]; exact h3
  · have h6 := h6 s hs
    unfold ShR at h6 ⊢
    rw [k5, m5, m6, m7]; exact h6
theorem S_station {x : XS} {m : MS} (h : Inv x m) : Same (fX4_station x) (fX5_station m) := by
  obtain ⟨k, d, hw, hd⟩ := h.1
  have hR := h.2.1
  obtain ⟨n, hn, t1, t2, t3⟩ := h.2.2.2.2.1
  obtain ⟨a, ea, wa, ra⟩ := X_start x
  have hwa := wa k d hw
  have hra := ra _ hR
  obtain ⟨o, s1, s2⟩ := M_saves m
  have hT : TC n (fun i => (mTape m i).toNatClampNeg) (xTape x) m := ⟨hn, t1, t2, fun i hi => by
    obtain ⟨b, b1, b2, b3⟩ := t3 i hi
    have e : (mTape m i).toNatClampNeg = b := by rw [b2]; exact cl (by omega)
    show (mTape m i).toNatClampNeg ≤ 255 ∧ mTape m i = nI ((mTape m i).toNatClampNeg) ∧ tByt (xTape x) i = (nI ((mTape m i).toNatClampNeg)).toInt8.toInt32
    rw [e]
    exact ⟨b1, b2, b3⟩⟩
  generalize (fun i => (mTape m i).toNatClampNeg) = B at hT
  obtain ⟨m2, hm2⟩ : ∃ z, z = mFrm' (mWrg' (mTo' (mOth' m o) 0) 0) 0 := ⟨_, rfl⟩
  have hT2 : TC n B (xTape x) m2 := by
    unfold TC at hT ⊢
    rw [hm2]
    simp only [mTpd_mFrm', mTpd_mWrg', mTpd_mTo', mTpd_mOth', mTape_mFrm', mTape_mWrg', mTape_mTo', mTape_mOth']
    exact hT
  have f2 : mFrm m2 = nI 0 := by rw [hm2, mFrm_mFrm']; rfl
  have w2 : mWrg m2 = 0 := by rw [hm2, mWrg_mFrm', mWrg_mWrg']
  obtain ⟨p, e, e1, e2, e3, e4⟩ := tokL (c := cTok (xText x)) (d := cPlc (xText x)) (v := cNum (xText x)) n 0 (FU + 1) FU m2 hT2 f2 (by omega) (by rw [FU_eq]; omega) (by rw [FU_eq]; omega)
  obtain ⟨m3, hm3⟩ : ∃ z, z = mTo' (mFrm' m2 (nI p)) (nI e) := ⟨_, rfl⟩
  rw [← hm3] at e2
  have hP3 : PM m2 m3 := by
    rw [hm3]
    exact ⟨rfl, rfl, rfl, rfl, rfl, rfl, rfl, rfl, rfl⟩
  have hS : Sy n B (xTape x) (cTx n B p e) m3 p e := by
    refine ⟨hT2.pm hP3, e4, rfl, ?_, ?_, ?_⟩
    · rw [hm3, mFrm_mTo', mFrm_mFrm']
    · rw [hm3, mTo_mTo']
    · rw [hm3, mWrg_mTo', mWrg_mFrm']; exact w2
  have hS3 : mS m3 = mS m := by rw [hm3, hm2]; simp only [mS_mFrm', mS_mWrg', mS_mTo', mS_mOth']
  have q1 : mKpt m3 = mKpt m := by rw [hm3, hm2]; simp only [mKpt_mFrm', mKpt_mWrg', mKpt_mTo', mKpt_mOth']
  have q2 : mIsK m3 = mIsK m := by rw [hm3, hm2]; simp only [mIsK_mFrm', mIsK_mWrg', mIsK_mTo', mIsK_mOth']
  have q3 : mSts m3 = mSts m := by rw [hm3, hm2]; simp only [mSts_mFrm', mSts_mWrg', mSts_mTo', mSts_mOth']
  have q5 : mBit m3 = mBit m := by rw [hm3, hm2]; simp only [mBit_mFrm', mBit_mWrg', mBit_mTo', mBit_mOth']
  have q6 : mSiz m3 = mSiz m := by rw [hm3, hm2]; simp only [mSiz_mFrm', mSiz_mWrg', mSiz_mTo', mSiz_mOth']
  have q7 : mNum m3 = mNum m := by rw [hm3, hm2]; simp only [mNum_mFrm', mNum_mWrg', mNum_mTo', mNum_mOth']
  have q8 : mOth m3 = o := by rw [hm3, hm2]; simp only [mOth_mFrm', mOth_mWrg', mOth_mTo', mOth_mOth']
  have hend := stationL (n + 1) FU FU 1 p e k (cTx n B p e) a m3 (by omega) (by rw [FU_eq]; omega) (by rw [FU_eq]; omega) hS hwa (by rw [hS3]; exact hra) (by omega) (by omega)
  have hX : fX3_tellTo (xText x, xTape x, a) = lX3_tellTo_11_1_3 FU 1 (cTx n B p e, xTape x, a) := by
    rw [fX3_tellTo_eq]
    show ((fX3_advance (cAt' (xText x) 0, xTape x)).bind _) = _
    rw [fX3_advance_eq]
    show ((lX3_advance_0 (FU + 1) ((0, cTok (xText x), cPlc (xText x), cNum (xText x)), xTape x)).bind _) = _
    rw [show lX3_advance_0 (FU + 1) ((0, cTok (xText x), cPlc (xText x), cNum (xText x)), xTape x) = _ from e1, Option.bind_some]
    rfl
  have hM : fX5_station m = ((fX5_item m3).bind fun q2 => lX5_station_24 FU 1 q2) := by
    rw [fX5_station_eq, s1, Option.bind_some, fX5_token_eq, mTo_mWrg', mTo_mTo', ← hm2, e2, Option.bind_some]
  clear hm2 hm3 e1 e2 hS hT hT2 hP3 f2 w2
  rw [fX4_station_eq, ea, Option.bind_some, hM]
  rw [show ((xText (xAhd' x a), xTape (xAhd' x a), xAhd (xAhd' x a)) : TS) = (xText x, xTape x, a) from rfl, hX]
  rcases hend with ⟨J, k', c', u', m', d1, d2, d3, d4, d5, d6⟩ | ⟨p', c', u', m', d1, d2, d3, d4, d5⟩
  · obtain ⟨cc, f1, f2, f3⟩ := X_become (xRoom x) u'
    rw [show lX3_tellTo_11_1_3 FU 1 (cTx n B p e, xTape x, a) = some (nI J, (c', xTape x, u')) from d2, Option.bind_some, if_neg (show ¬ (nI J, (c', xTape x, u')).1 < 0 from nI_pos (show J < 2 ^ 31 by omega)), xRoom_xAhd']
    rw [show tsS (nI J, (c', xTape x, u')).2 = u' from rfl, f1, Option.bind_some, show ((fX5_item m3).bind fun q2 => lX5_station_24 FU 1 q2) = some (nI J, m') from d3]
    refine same_of (h.st ?_ ?_ ?_ ?_ ?_ (d6.1.trans q1) (d6.2.2.2.1.trans q2) (d6.2.2.1.trans q3) d6.2.2.2.2.2.1 (d6.2.2.2.2.2.2.1.trans q5) (d6.2.2.2.2.2.2.2.1.trans q6) (d6.2.2.2.2.2.2.2.2.trans q7) ?_ ?_)
    · simp only [xKpt_xText', xKpt_xTape', xKpt_xAhd', xKpt_xRoom']
    · simp only [xIsK_xText', xIsK_xTape', xIsK_xAhd', xIsK_xRoom']
    · simp only [xFnd_xText', xFnd_xTape', xFnd_xAhd', xFnd_xRoom']
    · simp only [xTape_xText', xTape_xTape', tLen_tLen']
    · intro s
      unfold xSh
      simp only [xS0_xText', xS0_xTape', xS0_xAhd', xS0_xRoom', xS1_xText', xS1_xTape', xS1_xAhd', xS1_xRoom', xS2_xText', xS2_xTape', xS2_xAhd', xS2_xRoom', xS3_xText', xS3_xTape', xS3_xAhd', xS3_xRoom']
    · simp only [xRoom_xText', xRoom_xTape', xRoom_xAhd', xRoom_xRoom']
      exact ⟨k', d, f2 k' d d4, hd⟩
    · simp only [xRoom_xText', xRoom_xTape', xRoom_xAhd', xRoom_xRoom']
      exact f3 _ d5
  · have hneg : (-1 : Int32) - nI p' < 0 := by
      refine (fa_lt _ _).mpr ?_
      rw [sub_int (by rw [nI_toInt (by omega), z32_m1]; omega) (by rw [nI_toInt (by omega), z32_m1]; omega), nI_toInt (by omega), z32_m1, z32_0]
      omega
    rw [show lX3_tellTo_11_1_3 FU 1 (cTx n B p e, xTape x, a) = some (-1 - nI p', (c', xTape x, u')) from d2, Option.bind_some, if_pos (show ((-1 : Int32) - nI p', (c', xTape x, u')).1 < 0 from hneg), show ((fX5_item m3).bind fun q2 => lX5_station_24 FU 1 q2) = some (-1 - nI p', m') from d3]
    refine same_of (h.st ?_ ?_ ?_ ?_ ?_ (d5.1.trans q1) (d5.2.2.2.1.trans q2) (d5.2.2.1.trans q3) d5.2.2.2.2.2.1 (d5.2.2.2.2.2.2.1.trans q5) (d5.2.2.2.2.2.2.2.1.trans q6) (d5.2.2.2.2.2.2.2.2.trans q7) ?_ ?_)
    · simp only [xKpt_xText', xKpt_xTape', xKpt_xAhd', xKpt_xRoom']
    · simp only [xIsK_xText', xIsK_xTape', xIsK_xAhd', xIsK_xRoom']
    · simp only [xFnd_xText', xFnd_xTape', xFnd_xAhd', xFnd_xRoom']
    · simp only [xTape_xText', xTape_xTape', tLen_tLen']
    · intro s
      unfold xSh
      simp only [xS0_xText', xS0_xTape', xS0_xAhd', xS0_xRoom', xS1_xText', xS1_xTape', xS1_xAhd', xS1_xRoom', xS2_xText', xS2_xTape', xS2_xAhd', xS2_xRoom', xS3_xText', xS3_xTape', xS3_xAhd', xS3_xRoom']
    · simp only [xRoom_xText', xRoom_xTape', xRoom_xAhd', xRoom_xRoom']
      exact h.1
    · simp only [xRoom_xText', xRoom_xTape', xRoom_xAhd', xRoom_xRoom']
      exact hR.cong (fun q hq => (d4 q hq).trans (by rw [q8]; exact s2 q hq))
