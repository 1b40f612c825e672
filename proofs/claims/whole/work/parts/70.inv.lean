theorem Rel.ern {u : St} {s : F32} (h : Rel u s) {p : Nat} (hp : p < 6) (x : Int32) : Rel (sErn' u (upd (sErn u) p x)) (upd s (4 + 3 * p) x) := by
  obtain ⟨h0, h1, h2, h3, h4⟩ := h
  refine ⟨?_, ?_, ?_, fun q hq => ⟨?_, ?_, ?_⟩, fun t' ht' => ⟨?_, ?_, ?_, ?_, ?_, ?_⟩⟩
  · rw [upd_at, if_neg (by omega)]; exact h0
  · rw [upd_at, if_neg (by omega)]; exact h1
  · rw [upd_at, if_neg (by omega)]; exact h2
  · rw [upd_at, if_neg (by omega)]; exact (h3 q hq).1
  · show _ = upd (sErn u) p x q
    rw [upd_at, upd_at]
    by_cases e : q = p
    · subst e; rw [if_pos rfl, if_pos rfl]
    · rw [if_neg (by omega), if_neg e]; exact (h3 q hq).2.1
  · rw [upd_at, if_neg (by omega)]; exact (h3 q hq).2.2
  · rw [upd_at, if_neg (by omega)]; exact (h4 t' ht').1
  · rw [upd_at, if_neg (by omega)]; exact (h4 t' ht').2.1
  · rw [upd_at, if_neg (by omega)]; exact (h4 t' ht').2.2.1
  · rw [upd_at, if_neg (by omega)]; exact (h4 t' ht').2.2.2.1
  · rw [upd_at, if_neg (by omega)]; exact (h4 t' ht').2.2.2.2.1
  · rw [upd_at, if_neg (by omega)]; exact (h4 t' ht').2.2.2.2.2
theorem Rel.spd {u : St} {s : F32} (h : Rel u s) {p : Nat} (hp : p < 6) (x : Int32) : Rel (sSpd' u (upd (sSpd u) p x)) (upd s (5 + 3 * p) x) := by
  obtain ⟨h0, h1, h2, h3, h4⟩ := h
  refine ⟨?_, ?_, ?_, fun q hq => ⟨?_, ?_, ?_⟩, fun t' ht' => ⟨?_, ?_, ?_, ?_, ?_, ?_⟩⟩
  · rw [upd_at, if_neg (by omega)]; exact h0
  · rw [upd_at, if_neg (by omega)]; exact h1
  · rw [upd_at, if_neg (by omega)]; exact h2
  · rw [upd_at, if_neg (by omega)]; exact (h3 q hq).1
  · rw [upd_at, if_neg (by omega)]; exact (h3 q hq).2.1
  · show _ = upd (sSpd u) p x q
    rw [upd_at, upd_at]
    by_cases e : q = p
    · subst e; rw [if_pos rfl, if_pos rfl]
    · rw [if_neg (by omega), if_neg e]; exact (h3 q hq).2.2
  · rw [upd_at, if_neg (by omega)]; exact (h4 t' ht').1
  · rw [upd_at, if_neg (by omega)]; exact (h4 t' ht').2.1
  · rw [upd_at, if_neg (by omega)]; exact (h4 t' ht').2.2.1
  · rw [upd_at, if_neg (by omega)]; exact (h4 t' ht').2.2.2.1
  · rw [upd_at, if_neg (by omega)]; exact (h4 t' ht').2.2.2.2.1
  · rw [upd_at, if_neg (by omega)]; exact (h4 t' ht').2.2.2.2.2
theorem Rel.knd {u : St} {s : F32} (h : Rel u s) {t : Nat} (ht : t < 8) (x : Int32) : Rel (sKnd' u (upd (sKnd u) t x)) (upd s (21 + 6 * t) x) := by
  obtain ⟨h0, h1, h2, h3, h4⟩ := h
  refine ⟨?_, ?_, ?_, fun q hq => ⟨?_, ?_, ?_⟩, fun t' ht' => ⟨?_, ?_, ?_, ?_, ?_, ?_⟩⟩
  · rw [upd_at, if_neg (by omega)]; exact h0
  · rw [upd_at, if_neg (by omega)]; exact h1
  · rw [upd_at, if_neg (by omega)]; exact h2
  · rw [upd_at, if_neg (by omega)]; exact (h3 q hq).1
  · rw [upd_at, if_neg (by omega)]; exact (h3 q hq).2.1
  · rw [upd_at, if_neg (by omega)]; exact (h3 q hq).2.2
  · show _ = upd (sKnd u) t x t'
    rw [upd_at, upd_at]
    by_cases e : t' = t
    · subst e; rw [if_pos rfl, if_pos rfl]
    · rw [if_neg (by omega), if_neg e]; exact (h4 t' ht').1
  · rw [upd_at, if_neg (by omega)]; exact (h4 t' ht').2.1
  · rw [upd_at, if_neg (by omega)]; exact (h4 t' ht').2.2.1
  · rw [upd_at, if_neg (by omega)]; exact (h4 t' ht').2.2.2.1
  · rw [upd_at, if_neg (by omega)]; exact (h4 t' ht').2.2.2.2.1
  · rw [upd_at, if_neg (by omega)]; exact (h4 t' ht').2.2.2.2.2
theorem Rel.lbl {u : St} {s : F32} (h : Rel u s) {t : Nat} (ht : t < 8) (x : Int32) : Rel (sLbl' u (upd (sLbl u) t x)) (upd s (22 + 6 * t) x) := by
  obtain ⟨h0, h1, h2, h3, h4⟩ := h
  refine ⟨?_, ?_, ?_, fun q hq => ⟨?_, ?_, ?_⟩, fun t' ht' => ⟨?_, ?_, ?_, ?_, ?_, ?_⟩⟩
  · rw [upd_at, if_neg (by omega)]; exact h0
  · rw [upd_at, if_neg (by omega)]; exact h1
  · rw [upd_at, if_neg (by omega)]; exact h2
  · rw [upd_at, if_neg (by omega)]; exact (h3 q hq).1
  · rw [upd_at, if_neg (by omega)]; exact (h3 q hq).2.1
  · rw [upd_at, if_neg (by omega)]; exact (h3 q hq).2.2
  · rw [upd_at, if_neg (by omega)]; exact (h4 t' ht').1
  · show _ = upd (sLbl u) t x t'
    rw [upd_at, upd_at]
    by_cases e : t' = t
    · subst e; rw [if_pos rfl, if_pos rfl]
    · rw [if_neg (by omega), if_neg e]; exact (h4 t' ht').2.1
  · rw [upd_at, if_neg (by omega)]; exact (h4 t' ht').2.2.1
  · rw [upd_at, if_neg (by omega)]; exact (h4 t' ht').2.2.2.1
  · rw [upd_at, if_neg (by omega)]; exact (h4 t' ht').2.2.2.2.1
  · rw [upd_at, if_neg (by omega)]; exact (h4 t' ht').2.2.2.2.2
theorem Rel.lft {u : St} {s : F32} (h : Rel u s) {t : Nat} (ht : t < 8) (x : Int32) : Rel (sLft' u (upd (sLft u) t x)) (upd s (23 + 6 * t) x) := by
  obtain ⟨h0, h1, h2, h3, h4⟩ := h
  refine ⟨?_, ?_, ?_, fun q hq => ⟨?_, ?_, ?_⟩, fun t' ht' => ⟨?_, ?_, ?_, ?_, ?_, ?_⟩⟩
  · rw [upd_at, if_neg (by omega)]; exact h0
  · rw [upd_at, if_neg (by omega)]; exact h1
  · rw [upd_at, if_neg (by omega)]; exact h2
  · rw [upd_at, if_neg (by omega)]; exact (h3 q hq).1
  · rw [upd_at, if_neg (by omega)]; exact (h3 q hq).2.1
  · rw [upd_at, if_neg (by omega)]; exact (h3 q hq).2.2
  · rw [upd_at, if_neg (by omega)]; exact (h4 t' ht').1
  · rw [upd_at, if_neg (by omega)]; exact (h4 t' ht').2.1
  · show _ = upd (sLft u) t x t'
    rw [upd_at, upd_at]
    by_cases e : t' = t
    · subst e; rw [if_pos rfl, if_pos rfl]
    · rw [if_neg (by omega), if_neg e]; exact (h4 t' ht').2.2.1
  · rw [upd_at, if_neg (by omega)]; exact (h4 t' ht').2.2.2.1
  · rw [upd_at, if_neg (by omega)]; exact (h4 t' ht').2.2.2.2.1
  · rw [upd_at, if_neg (by omega)]; exact (h4 t' ht').2.2.2.2.2
theorem Rel.wth {u : St} {s : F32} (h : Rel u s) {t : Nat} (ht : t < 8) (x : Int32) : Rel (sWth' u (upd (sWth u) t x)) (upd s (25 + 6 * t) x) := by
  obtain ⟨h0, h1, h2, h3, h4⟩ := h
  refine ⟨?_, ?_, ?_, fun q hq => ⟨?_, ?_, ?_⟩, fun t' ht' => ⟨?_, ?_, ?_, ?_, ?_, ?_⟩⟩
  · rw [upd_at, if_neg (by omega)]; exact h0
  · rw [upd_at, if_neg (by omega)]; exact h1
  · rw [upd_at, if_neg (by omega)]; exact h2
  · rw [upd_at, if_neg (by omega)]; exact (h3 q hq).1
  · rw [upd_at, if_neg (by omega)]; exact (h3 q hq).2.1
  · rw [upd_at, if_neg (by omega)]; exact (h3 q hq).2.2
  · rw [upd_at, if_neg (by omega)]; exact (h4 t' ht').1
  · rw [upd_at, if_neg (by omega)]; exact (h4 t' ht').2.1
  · rw [upd_at, if_neg (by omega)]; exact (h4 t' ht').2.2.1
  · rw [upd_at, if_neg (by omega)]; exact (h4 t' ht').2.2.2.1
  · show _ = upd (sWth u) t x t'
    rw [upd_at, upd_at]
    by_cases e : t' = t
    · subst e; rw [if_pos rfl, if_pos rfl]
    · rw [if_neg (by omega), if_neg e]; exact (h4 t' ht').2.2.2.2.1
  · rw [upd_at, if_neg (by omega)]; exact (h4 t' ht').2.2.2.2.2
theorem Rel.wit {u : St} {s : F32} (h : Rel u s) {t : Nat} (ht : t < 8) (x : Int32) : Rel (sWit' u (upd (sWit u) t x)) (upd s (26 + 6 * t) x) := by
  obtain ⟨h0, h1, h2, h3, h4⟩ := h
  refine ⟨?_, ?_, ?_, fun q hq => ⟨?_, ?_, ?_⟩, fun t' ht' => ⟨?_, ?_, ?_, ?_, ?_, ?_⟩⟩
  · rw [upd_at, if_neg (by omega)]; exact h0
  · rw [upd_at, if_neg (by omega)]; exact h1
  · rw [upd_at, if_neg (by omega)]; exact h2
  · rw [upd_at, if_neg (by omega)]; exact (h3 q hq).1
  · rw [upd_at, if_neg (by omega)]; exact (h3 q hq).2.1
  · rw [upd_at, if_neg (by omega)]; exact (h3 q hq).2.2
  · rw [upd_at, if_neg (by omega)]; exact (h4 t' ht').1
  · rw [upd_at, if_neg (by omega)]; exact (h4 t' ht').2.1
  · rw [upd_at, if_neg (by omega)]; exact (h4 t' ht').2.2.1
  · rw [upd_at, if_neg (by omega)]; exact (h4 t' ht').2.2.2.1
  · rw [upd_at, if_neg (by omega)]; exact (h4 t' ht').2.2.2.2.1
  · show _ = upd (sWit u) t x t'
    rw [upd_at, upd_at]
    by_cases e : t' = t
    · subst e; rw [if_pos rfl, if_pos rfl]
    · rw [if_neg (by omega), if_neg e]; exact (h4 t' ht').2.2.2.2.2
theorem WF.ern {k d : Nat} {u : St} (h : WF k d u) {p : Nat} {x : Int32} (hx : In x 999) : WF k d (sErn' u (upd (sErn u) p x)) := by
  obtain ⟨h1, h2, h3, h4, h5, h6, h7⟩ := h
  refine ⟨h1, h2, h3, h4, h5, fun q hq => ?_, h7⟩
  obtain ⟨g1, g2, g3⟩ := h6 q hq
  refine ⟨g1, ?_, g3⟩
  show In (upd (sErn u) p x q) _
  unfold upd
  split
  · exact hx
  · exact g2
theorem WF.spd {k d : Nat} {u : St} (h : WF k d u) {p : Nat} {x : Int32} (hx : In x 999) : WF k d (sSpd' u (upd (sSpd u) p x)) := by
  obtain ⟨h1, h2, h3, h4, h5, h6, h7⟩ := h
  refine ⟨h1, h2, h3, h4, h5, fun q hq => ?_, h7⟩
  obtain ⟨g1, g2, g3⟩ := h6 q hq
  refine ⟨g1, g2, ?_⟩
  show In (upd (sSpd u) p x q) _
  unfold upd
  split
  · exact hx
  · exact g3
theorem WF.knd {k d : Nat} {u : St} (h : WF k d u) {t : Nat} {x : Int32} (hx : In x 5) : WF k d (sKnd' u (upd (sKnd u) t x)) := by
  obtain ⟨h1, h2, h3, h4, h5, h6, h7⟩ := h
  refine ⟨h1, h2, h3, h4, h5, h6, fun t' ht' => ?_⟩
  obtain ⟨g1, g2, g3, g4, g5, g6⟩ := h7 t' ht'
  refine ⟨?_, g2, g3, g4, g5, g6⟩
  show In (upd (sKnd u) t x t') _
  unfold upd
  split
  · exact hx
  · exact g1
theorem WF.lbl {k d : Nat} {u : St} (h : WF k d u) {t : Nat} {x : Int32} (hx : In x 5) : WF k d (sLbl' u (upd (sLbl u) t x)) := by
  obtain ⟨h1, h2, h3, h4, h5, h6, h7⟩ := h
  refine ⟨h1, h2, h3, h4, h5, h6, fun t' ht' => ?_⟩
  obtain ⟨g1, g2, g3, g4, g5, g6⟩ := h7 t' ht'
  refine ⟨g1, ?_, g3, g4, g5, g6⟩
  show In (upd (sLbl u) t x t') _
  unfold upd
  split
  · exact hx
  · exact g2
theorem WF.lft {k d : Nat} {u : St} (h : WF k d u) {t : Nat} {x : Int32} (hx : In x d) : WF k d (sLft' u (upd (sLft u) t x)) := by
  obtain ⟨h1, h2, h3, h4, h5, h6, h7⟩ := h
  refine ⟨h1, h2, h3, h4, h5, h6, fun t' ht' => ?_⟩
  obtain ⟨g1, g2, g3, g4, g5, g6⟩ := h7 t' ht'
  refine ⟨g1, g2, ?_, g4, g5, g6⟩
  show In (upd (sLft u) t x t') _
  unfold upd
  split
  · exact hx
  · exact g3
theorem WF.wth {k d : Nat} {u : St} (h : WF k d u) {t : Nat} {x : Int32} (hx : In x 9999) : WF k d (sWth' u (upd (sWth u) t x)) := by
  obtain ⟨h1, h2, h3, h4, h5, h6, h7⟩ := h
  refine ⟨h1, h2, h3, h4, h5, h6, fun t' ht' => ?_⟩
  obtain ⟨g1, g2, g3, g4, g5, g6⟩ := h7 t' ht'
  refine ⟨g1, g2, g3, g4, ?_, g6⟩
  show In (upd (sWth u) t x t') _
  unfold upd
  split
  · exact hx
  · exact g5
theorem WF.wit {k d : Nat} {u : St} (h : WF k d u) {t : Nat} {x : Int32} (hx : x = -1 ∨ In x 5) : WF k d (sWit' u (upd (sWit u) t x)) := by
  obtain ⟨h1, h2, h3, h4, h5, h6, h7⟩ := h
  refine ⟨h1, h2, h3, h4, h5, h6, fun t' ht' => ?_⟩
  obtain ⟨g1, g2, g3, g4, g5, g6⟩ := h7 t' ht'
  refine ⟨g1, g2, g3, g4, g5, ?_⟩
  show upd (sWit u) t x t' = -1 ∨ In (upd (sWit u) t x t') _
  unfold upd
  split
  · exact hx
  · exact g6
-- THE TWO SIDES: one state of the class, one of the reference
def xSh (x : XS) (s : Nat) : Sh := if s = 0 then xS0 x else if s = 1 then xS1 x else if s = 2 then xS2 x else xS3 x
def ShR (u : Sh) (m : MS) (s : Nat) : Prop := hBit u = mBit m s ∧ hLen u = mSiz m s ∧ (∃ n, n ≤ 40 ∧ hLen u = nI n) ∧ ∀ i, i < 40 → hNum u i = mNum m (40 * s + i)
def TpR (t : Tp) (m : MS) : Prop := ∃ n, n ≤ 120 ∧ tLen t = nI n ∧ mTpd m = nI n ∧ ∀ i, i < n → ∃ b, b ≤ 255 ∧ mTape m i = nI b ∧ tByt t i = (nI b).toInt8.toInt32
def GoodS (u : St) : Prop := ∃ k d, WF k d u ∧ d ≤ 9999
def KpR (x : XS) (m : MS) : Prop := (xIsK x = 0 ∧ mIsK m = 0) ∨ (xIsK x = 1 ∧ mIsK m = 1 ∧ GoodS (xKpt x) ∧ Rel (xKpt x) (mKpt m))
def Inv (x : XS) (m : MS) : Prop := GoodS (xRoom x) ∧ Rel (xRoom x) (mS m) ∧ KpR x m ∧ (∀ q, q < 7 → xFnd x q = mSts m q) ∧ TpR (xTape x) m ∧ ∀ s, s < 4 → ShR (xSh x s) m s
def Same {α : Type} (a : Option (α × XS)) (b : Option (α × MS)) : Prop := ∃ r x' m', a = some (r, x') ∧ b = some (r, m') ∧ Inv x' m'
theorem same_of {α : Type} {r : α} {x' : XS} {m' : MS} (h : Inv x' m') : Same (some (r, x')) (some (r, m')) := ⟨r, x', m', rfl, rfl, h⟩
theorem Inv.room {x : XS} {m : MS} {u : St} {s : F32} (h : Inv x m) (g : GoodS u) (r : Rel u s) : Inv (xRoom' x u) (mS' m s) := ⟨g, r, h.2.2⟩
theorem Inv.look {x : XS} {m : MS} {a : St} {b s : F32} (h : Inv x m) (r : Rel (xRoom x) s) : Inv (xAhd' x a) (mS' (mAsd' m b) s) := ⟨h.1, r, h.2.2⟩
theorem Inv.ahd {x : XS} {m : MS} {a : St} (h : Inv x m) : Inv (xAhd' x a) m := h
theorem xRoom_eta (x : XS) : xRoom' x (xRoom x) = x := rfl
theorem xAhd_eta (x : XS) : xAhd' x (xAhd x) = x := rfl
theorem xAhd_two (x : XS) (a b : St) : xAhd' (xAhd' x a) b = xAhd' x b := rfl
-- guards
def inB (a : Int32) (l h : Int) : Bool := decide (l ≤ a.toInt ∧ a.toInt ≤ h)
theorem b2i_ok (b : Bool) : b2i b = 0 ∨ b2i b = 1 := by cases b <;> decide
theorem b2i_1 {b : Bool} : b2i b = 1 ↔ b = true := by cases b <;> decide
theorem X_within (a l h : Int32) : fX4_isWithin a l h = some (b2i (inB a l.toInt h.toInt)) := by
  rw [fX4_isWithin_eq]
  unfold inB
  by_cases c1 : a < l
  · rw [if_pos c1, decide_eq_false (fun z => by have := (fa_lt _ _).mp c1; omega)]; rfl
  · rw [if_neg c1]
    have c1' : ¬ a.toInt < l.toInt := fun z => c1 ((fa_lt _ _).mpr z)
    by_cases c2 : h < a
    · rw [if_pos c2, decide_eq_false (fun z => by have := (fa_lt _ _).mp c2; omega)]; rfl
    · have c2' : ¬ h.toInt < a.toInt := fun z => c2 ((fa_lt _ _).mpr z)
      rw [if_neg c2, decide_eq_true ⟨by omega, by omega⟩]; rfl
theorem M_in64 (x l h : Int64) : fX5_in x l h = some (b2i (decide (l.toInt ≤ x.toInt ∧ x.toInt ≤ h.toInt))) := by
  rw [fX5_in_eq]
  by_cases c1 : lg_cmp x l < 0
  · have := Int64.lt_iff_toInt_lt.mp ((lg_cmp_lt x l).mp c1)
    rw [if_pos c1, decide_eq_false (fun z => by omega)]; rfl
  · have c1' : ¬ x.toInt < l.toInt := fun z => c1 ((lg_cmp_lt x l).mpr (Int64.lt_iff_toInt_lt.mpr z))
    rw [if_neg c1]
    by_cases c2 : 0 < lg_cmp x h
    · have := Int64.lt_iff_toInt_lt.mp ((lg_cmp_gt x h).mp c2)
      rw [if_pos c2, decide_eq_false (fun z => by omega)]; rfl
    · have c2' : ¬ h.toInt < x.toInt := fun z => c2 ((lg_cmp_gt x h).mpr (Int64.lt_iff_toInt_lt.mpr z))
      rw [if_neg c2, decide_eq_true ⟨by omega, by omega⟩]; rfl
theorem M_in (a : Int32) (l h : Int64) : fX5_in (Int32.toInt64 a) l h = some (b2i (inB a l.toInt h.toInt)) := by
  rw [M_in64, Int32.toInt_toInt64]
  rfl
theorem inB_of {a : Int32} {l h : Int} (h1 : l ≤ a.toInt) (h2 : a.toInt ≤ h) : inB a l h = true := decide_eq_true ⟨h1, h2⟩
theorem inB_int {a : Int32} {l h : Int} (c : inB a l h = true) : l ≤ a.toInt ∧ a.toInt ≤ h := of_decide_eq_true c
theorem inB_not {a : Int32} {l h : Int} (c : inB a l h = false) : ¬ (l ≤ a.toInt ∧ a.toInt ≤ h) := of_decide_eq_false c
theorem nat_of {a : Int32} (h : 0 ≤ a.toInt) : ∃ p : Nat, p < 2 ^ 31 ∧ a = nI p ∧ a.toInt = p := by
  obtain ⟨j, hj, e⟩ := nI_of (x := a) (fun z => by
    have := (fa_lt a 0).mp z
    have e0 : (0 : Int32).toInt = 0 := rfl
    omega)
  exact ⟨j, hj, e, by rw [e, nI_toInt hj]⟩
theorem inB_nat {a : Int32} {L N : Nat} (c : inB a (L : Int) (N : Int) = true) : ∃ p : Nat, L ≤ p ∧ p ≤ N ∧ a = nI p := by
  obtain ⟨h1, h2⟩ := inB_int c
  obtain ⟨p, hp, e, e2⟩ := nat_of (a := a) (by omega)
  exact ⟨p, by omega, by omega, e⟩
theorem inB_k {a : Int32} {k : Nat} (c : inB a 0 ((k : Int) - 1) = true) : ∃ t : Nat, t < k ∧ a = nI t := by
  obtain ⟨h1, h2⟩ := inB_int c
  obtain ⟨p, hp, e, e2⟩ := nat_of (a := a) h1
  exact ⟨p, by omega, e⟩
theorem inB_In {a : Int32} {N : Nat} (hN : N < 2 ^ 31) (c : inB a 0 (N : Int) = true) : In a N := by
  obtain ⟨h1, h2⟩ := inB_int c
  exact in_of h1 h2 hN
theorem inB_nI {p L N : Nat} (h1 : L ≤ p) (h2 : p ≤ N) (hN : N < 2 ^ 31) : inB (nI p) (L : Int) (N : Int) = true := by
  refine inB_of ?_ ?_ <;> rw [nI_toInt (by omega)] <;> omega
theorem X_isPerson (a : Int32) : fX4_isPerson a = some (b2i (inB a 0 5)) := by
  have := X_within a 0 5
  rw [fX4_isWithin_eq] at this
  rw [fX4_isPerson_eq]
  have e : (some (b2i (inB a 0 5)) : Option Int32) = some (b2i (inB a (0 : Int32).toInt (5 : Int32).toInt)) := rfl
  rw [e, ← this]
  by_cases c1 : a < 0
  · rw [if_pos c1, if_pos c1]
  · rw [if_neg c1, if_neg c1]
    by_cases c2 : (6 : Int32) ≤ a
    · rw [if_pos c2, if_pos ((fa_lt _ _).mpr (by have := (fa_le _ _).mp c2; have e5 : (5 : Int32).toInt = 5 := rfl; have e6 : (6 : Int32).toInt = 6 := rfl; omega))]
    · rw [if_neg c2, if_neg (fun z => c2 ((fa_le _ _).mpr (by have := (fa_lt _ _).mp z; have e5 : (5 : Int32).toInt = 5 := rfl; have e6 : (6 : Int32).toInt = 6 := rfl; omega)))]
theorem X_isKind (a : Int32) : fX4_isKind a = some (b2i (inB a 0 5)) := by
  rw [← X_isPerson, fX4_isKind_eq, fX4_isPerson_eq]
theorem X_isSheet (a : Int32) : fX4_isSheet a = some (b2i (inB a 0 3)) := by
  have := X_within a 0 3
  rw [fX4_isWithin_eq] at this
  rw [fX4_isSheet_eq]
  have e : (some (b2i (inB a 0 3)) : Option Int32) = some (b2i (inB a (0 : Int32).toInt (3 : Int32).toInt)) := rfl
  rw [e, ← this]
  by_cases c1 : a < 0
  · rw [if_pos c1, if_pos c1]
  · rw [if_neg c1, if_neg c1]
    by_cases c2 : (4 : Int32) ≤ a
    · rw [if_pos c2, if_pos ((fa_lt _ _).mpr (by have := (fa_le _ _).mp c2; have e5 : (3 : Int32).toInt = 3 := rfl; have e6 : (4 : Int32).toInt = 4 := rfl; omega))]
    · rw [if_neg c2, if_neg (fun z => c2 ((fa_le _ _).mpr (by have := (fa_lt _ _).mp z; have e5 : (3 : Int32).toInt = 3 := rfl; have e6 : (4 : Int32).toInt = 4 := rfl; omega)))]
theorem M_isPerson (a : Int32) : fX5_isPerson a = some (b2i (inB a 0 5)) := by
  rw [fX5_isPerson_eq, M_in, Option.bind_some, if_pos (b2i_ok _)]
  rfl
theorem M_isKind (a : Int32) : fX5_isKind a = some (b2i (inB a 0 5)) := by
  rw [fX5_isKind_eq, M_in, Option.bind_some, if_pos (b2i_ok _)]
  rfl
theorem M_isOne (a : Int32) : fX5_isOne a = some (b2i (inB a 0 3)) := by
  rw [fX5_isOne_eq, M_in, Option.bind_some, if_pos (b2i_ok _)]
  rfl
theorem M_isSoon (a : Int32) : fX5_isSoon a = some (b2i (inB a 1 60)) := by
  rw [fX5_isSoon_eq, M_in, Option.bind_some, if_pos (b2i_ok _)]
  rfl
theorem X_has {k d : Nat} {u : St} (h : WF k d u) (a : Int32) : fX1_hasThing a u = some (b2i (inB a 0 ((k : Int) - 1)), u) := by
  have hk := h.k8
  have e0 : (0 : Int32).toInt = 0 := rfl
  rw [fX1_hasThing_eq, h.2.2.1]
  unfold inB
  by_cases c1 : a < 0
  · have := (fa_lt _ _).mp c1
    rw [if_pos c1, decide_eq_false (fun z => by omega)]; rfl
  · have c1' : ¬ a.toInt < (0 : Int32).toInt := fun z => c1 ((fa_lt _ _).mpr z)
    rw [if_neg c1]
    by_cases c2 : nI k ≤ a
    · have := (fa_le _ _).mp c2
      rw [nI_toInt (by omega)] at this
      rw [if_pos c2, decide_eq_false (fun z => by omega)]; rfl
    · have c2' : ¬ (nI k).toInt ≤ a.toInt := fun z => c2 ((fa_le _ _).mpr z)
      rw [nI_toInt (by omega)] at c2'
      rw [if_neg c2, decide_eq_true ⟨by omega, by omega⟩]; rfl
theorem M_isThing {k d : Nat} {u : St} {m : MS} (h : WF k d u) (hR : Rel u (mS m)) (a : Int32) : fX5_isThing a m = some (b2i (inB a 0 ((k : Int) - 1)), m) := by
  have hk := h.k8
  have e1 : (1 : Int32).toInt = 1 := rfl
  have e2 : (nI k).toInt = (k : Int) := nI_toInt (by omega)
  have e : (mS m 0 - 1).toInt = (k : Int) - 1 := by
    rw [hR.1, h.2.2.1, sub_int (by omega) (by omega), e1, e2]
  rw [fX5_isThing_eq, M_in, Option.bind_some, if_pos (b2i_ok _), Int32.toInt_toInt64, e]
  rfl
-- findings
def FC (c : Int32) : Prop := ∃ j, j < 7 ∧ (-1000000001 : Int32) - c = nI j
theorem fcB : FC (-1000000001) := ⟨0, by decide, by decide +kernel⟩
theorem fcF : FC (-1000000002) := ⟨1, by decide, by decide +kernel⟩
theorem fcK : FC (-1000000003) := ⟨2, by decide, by decide +kernel⟩
theorem fcN : FC (-1000000004) := ⟨3, by decide, by decide +kernel⟩
theorem fcS : FC (-1000000005) := ⟨4, by decide, by decide +kernel⟩
theorem fcM : FC (-1000000006) := ⟨5, by decide, by decide +kernel⟩
theorem fcZ : FC (-1000000007) := ⟨6, by decide, by decide +kernel⟩
theorem same_found {x : XS} {m : MS} (h : Inv x m) {c : Int32} (hc : FC c) : ∃ x' m', fX4_found c x = some (c, x') ∧ fX5_finds c m = some (c, m') ∧ Inv x' m' := by
  obtain ⟨j, hj, e⟩ := hc
  refine ⟨xFnd' x (upd (xFnd x) j (xFnd x j + 1)), mSts' m (upd (mSts m) j (mSts m j + 1)), ?_, ?_, ?_⟩
  · rw [fX4_found_eq, e, if_neg (nI_pos (by omega)), if_neg (by rw [show (7 : Int32) = nI 7 from rfl]; exact nI_ge hj (by decide)), if_neg (ix hj), if_neg (ix hj), cl (by omega)]
  · rw [fX5_finds_eq, e, if_neg (ix hj), if_neg (ix hj), cl (by omega)]
  · obtain ⟨h1, h2, h3, h4, h5, h6⟩ := h
    refine ⟨h1, h2, h3, fun q hq => ?_, h5, h6⟩
    show upd (xFnd x) j (xFnd x j + 1) q = upd (mSts m) j (mSts m j + 1) q
    rw [upd_at, upd_at, h4 q hq, h4 j hj]
theorem sf {x : XS} {m : MS} (h : Inv x m) {c : Int32} (hc : FC c) : Same ((fX4_found c x).bind fun q => some (q.1, q.2)) ((fX5_finds c m).bind fun q => some (q.1, q.2)) := by
  obtain ⟨x', m', e1, e2, e3⟩ := same_found h hc
  rw [e1, e2]
  exact same_of e3
theorem sfL {x : XS} {m : MS} (h : Inv x m) {c : Int32} (hc : FC c) : Same ((fX4_found c x).bind fun q => some (Int32.toInt64 q.1, q.2)) ((fX5_finds c m).bind fun q => some (Int32.toInt64 q.1, q.2)) := by
  obtain ⟨x', m', e1, e2, e3⟩ := same_found h hc
  rw [e1, e2]
  exact same_of e3
-- cells of the row
theorem M_becomes {m : MS} {w : Nat} {v : Int32} (hw : w < 69) : fX5_becomes (nI w) v m = some (mS m w, mS' m (upd (mS m) w v)) := by
  rw [fX5_becomes_eq, if_neg (ix hw), if_neg (ix hw), cl (by omega)]
-- sets
def setF (f : F32) (v : Int32) : Nat → Int32
  | 0 => 0
  | t + 1 => if f t = v then setF f v t ||| ((1 : Int32) <<< (nI t &&& 31)) else setF f v t
theorem X_set9L {k d : Nat} {u : St} (h : WF k d u) (v : Int32) : ∀ (i j n : Nat), i + j = k → i < n → lX1_setOf_9_5_1_9 n v (setF (sWit u) v j) (nI j) u = some (setF (sWit u) v k, u) := by
  have hk := h.k8
  intro i
  induction i with
  | zero =>
    intro j n hi hn
    obtain ⟨n, rfl⟩ : ∃ q, n = q + 1 := ⟨n - 1, by omega⟩
    obtain rfl : j = k := by omega
    rw [lX1_setOf_9_5_1_9_eq, h.2.2.1, if_pos (nI_le (Nat.le_refl j) (by omega))]
  | succ i ih =>
    intro j n hi hn
    obtain ⟨n, rfl⟩ : ∃ q, n = q + 1 := ⟨n - 1, by omega⟩
    have ihh := ih (j + 1) n (by omega) (by omega)
    rw [lX1_setOf_9_5_1_9_eq, h.2.2.1, if_neg (nI_ge (show j < k by omega) (by omega)), if_neg (ix (by omega)), cl (by omega), nI_1]
    have e : setF (sWit u) v (j + 1) = if sWit u j = v then setF (sWit u) v j ||| ((1 : Int32) <<< (nI j &&& 31)) else setF (sWit u) v j := rfl
    rw [e] at ihh
    by_cases c : sWit u j = v
    · rw [if_pos c] at ihh ⊢; exact ihh
    · rw [if_neg c] at ihh ⊢; exact ihh
theorem X_set5L {k d : Nat} {u : St} (h : WF k d u) (v : Int32) : ∀ (i j n : Nat), i + j = k → i < n → lX1_setOf_5_5_1_5 n v (setF (sLbl u) v j) (nI j) u = some (setF (sLbl u) v k, u) := by
  have hk := h.k8
  intro i
  induction i with
  | zero =>
    intro j n hi hn
    obtain ⟨n, rfl⟩ : ∃ q, n = q + 1 := ⟨n - 1, by omega⟩
    obtain rfl : j = k := by omega
    rw [lX1_setOf_5_5_1_5_eq, h.2.2.1, if_pos (nI_le (Nat.le_refl j) (by omega))]
  | succ i ih =>
    intro j n hi hn
    obtain ⟨n, rfl⟩ : ∃ q, n = q + 1 := ⟨n - 1, by omega⟩
    have ihh := ih (j + 1) n (by omega) (by omega)
    rw [lX1_setOf_5_5_1_5_eq, h.2.2.1, if_neg (nI_ge (show j < k by omega) (by omega)), if_neg (ix (by omega)), cl (by omega), nI_1]
    have e : setF (sLbl u) v (j + 1) = if sLbl u j = v then setF (sLbl u) v j ||| ((1 : Int32) <<< (nI j &&& 31)) else setF (sLbl u) v j := rfl
    rw [e] at ihh
    by_cases c : sLbl u j = v
    · rw [if_pos c] at ihh ⊢; exact ihh
    · rw [if_neg c] at ihh ⊢; exact ihh
theorem X_set9 {k d : Nat} {u : St} (h : WF k d u) (v : Int32) : fX1_setOf_9 v u = some (setF (sWit u) v k, u) := by
  rw [fX1_setOf_9_eq]
  exact X_set9L h v k 0 FU (by omega) (by rw [FU_eq]; have := h.k8; omega)
theorem X_set5 {k d : Nat} {u : St} (h : WF k d u) (v : Int32) : fX1_setOf_5 v u = some (setF (sLbl u) v k, u) := by
  rw [fX1_setOf_5_eq]
  exact X_set5L h v k 0 FU (by omega) (by rw [FU_eq]; have := h.k8; omega)
theorem M_thoseL {k w : Nat} {f : F32} {m : MS} (hk : k ≤ 8) (h0 : mS m 0 = nI k) (hw : w < 6) (hf : ∀ t, t < k → mS m (21 + 6 * t + w) = f t) (v : Int32) : ∀ (i j n : Nat), i + j = k → i < n → lX5_thoseAs_5 n (nI w) v (setF f v j) (nI j) m = some (setF f v k, m) := by
  intro i
  induction i with
  | zero =>
    intro j n hi hn
    obtain ⟨n, rfl⟩ : ∃ q, n = q + 1 := ⟨n - 1, by omega⟩
    obtain rfl : j = k := by omega
    rw [lX5_thoseAs_5_eq, h0, if_pos (nI_le (Nat.le_refl j) (by omega))]
  | succ i ih =>
    intro j n hi hn
    obtain ⟨n, rfl⟩ : ∃ q, n = q + 1 := ⟨n - 1, by omega⟩
    have ihh := ih (j + 1) n (by omega) (by omega)
    have e : setF f v (j + 1) = if f j = v then setF f v j ||| ((1 : Int32) <<< (nI j &&& 31)) else setF f v j := rfl
    rw [e] at ihh
    rw [lX5_thoseAs_5_eq, h0, if_neg (nI_ge (show j < k by omega) (by omega)), M_its (by omega) hw, Option.bind_some]
    simp only [nI_1, Int32.or_zero, hf j (by omega)]
    by_cases c : f j = v
    · rw [if_pos c] at ihh ⊢; exact ihh
    · rw [if_neg c] at ihh ⊢; exact ihh
theorem M_those1 {k d : Nat} {u : St} {m : MS} (h : WF k d u) (hR : Rel u (mS m)) (v : Int32) : fX5_thoseAs 1 v m = some (setF (sLbl u) v k, m) := by
  have hk := h.k8
  rw [fX5_thoseAs_eq]
  exact M_thoseL (w := 1) hk (by rw [hR.1, h.2.2.1]) (by omega) (fun t ht => by rw [show 21 + 6 * t + 1 = 22 + 6 * t by omega]; exact (hR.2.2.2.2 t (by omega)).2.1) v k 0 FU (by omega) (by rw [FU_eq]; omega)
theorem M_those5 {k d : Nat} {u : St} {m : MS} (h : WF k d u) (hR : Rel u (mS m)) (v : Int32) : fX5_thoseAs 5 v m = some (setF (sWit u) v k, m) := by
  have hk := h.k8
  rw [fX5_thoseAs_eq]
  exact M_thoseL (w := 5) hk (by rw [hR.1, h.2.2.1]) (by omega) (fun t ht => by rw [show 21 + 6 * t + 5 = 26 + 6 * t by omega]; exact (hR.2.2.2.2 t (by omega)).2.2.2.2.2) v k 0 FU (by omega) (by rw [FU_eq]; omega)
theorem M_there {k d : Nat} {u : St} {m : MS} (h : WF k d u) (hR : Rel u (mS m)) : fX5_thoseThere m = some (setF (sWit u) (-1) k, m) := by
  rw [fX5_thoseThere_eq, M_those5 h hR, Option.bind_some]
theorem bit_or : ∀ (a : Fin 256) (t : Fin 8), ∃ b : Fin 256, (nI a.val ||| ((1 : Int32) <<< (nI t.val &&& 31))) = nI b.val := by
  have h : ∀ (a : Fin 256) (t : Fin 8), (a.val ||| 2 ^ t.val) < 256 ∧ (nI a.val ||| ((1 : Int32) <<< (nI t.val &&& 31))) = nI (a.val ||| 2 ^ t.val) := by decide +kernel
  exact fun a t => ⟨⟨a.val ||| 2 ^ t.val, (h a t).1⟩, (h a t).2⟩
theorem setF_in (f : F32) (v : Int32) : ∀ k, k ≤ 8 → ∃ b : Fin 256, setF f v k = nI b.val
  | 0, _ => ⟨⟨0, by omega⟩, rfl⟩
  | k + 1, h => by
    obtain ⟨b, e⟩ := setF_in f v k (by omega)
    unfold setF
    split
    · rw [e]
      exact bit_or b ⟨k, by omega⟩
    · exact ⟨b, e⟩
-- how many
def onesF : Nat → Int32 → Int32 → Option Int32
  | 0, _, _ => none
  | n + 1, c, x => if x = 0 then some c else onesF n (c + 1) (x &&& (x - 1))
theorem ones_run : ∀ (n : Nat) (c x r : Int32), onesF n c x = some r → ∀ N, n ≤ N → lX5_ones_4 N c x = some r
  | 0, _, _, _, h, _, _ => by cases h
  | n + 1, c, x, r, h, N, hN => by
    obtain ⟨N, rfl⟩ : ∃ q, N = q + 1 := ⟨N - 1, by omega⟩
    rw [lX5_ones_4_eq]
    unfold onesF at h
    split at h
    · rename_i e
      rw [if_pos e]; exact h
    · rename_i e
      rw [if_neg e]
      exact ones_run n _ _ r h N (by omega)
def bcE (a0 : Int32) : Int32 := (((((((((a0 - ((Int32.toUInt32 a0 >>> (Int32.toUInt32 1 &&& Int32.toUInt32 31)).toInt32 &&& 1431655765)) &&& 858993459) + ((Int32.toUInt32 (a0 - ((Int32.toUInt32 a0 >>> (Int32.toUInt32 1 &&& Int32.toUInt32 31)).toInt32 &&& 1431655765)) >>> (Int32.toUInt32 2 &&& Int32.toUInt32 31)).toInt32 &&& 858993459)) + (Int32.toUInt32 (((a0 - ((Int32.toUInt32 a0 >>> (Int32.toUInt32 1 &&& Int32.toUInt32 31)).toInt32 &&& 1431655765)) &&& 858993459) + ((Int32.toUInt32 (a0 - ((Int32.toUInt32 a0 >>> (Int32.toUInt32 1 &&& Int32.toUInt32 31)).toInt32 &&& 1431655765)) >>> (Int32.toUInt32 2 &&& Int32.toUInt32 31)).toInt32 &&& 858993459)) >>> (Int32.toUInt32 4 &&& Int32.toUInt32 31)).toInt32) &&& 252645135) + (Int32.toUInt32 (((((a0 - ((Int32.toUInt32 a0 >>> (Int32.toUInt32 1 &&& Int32.toUInt32 31)).toInt32 &&& 1431655765)) &&& 858993459) + ((Int32.toUInt32 (a0 - ((Int32.toUInt32 a0 >>> (Int32.toUInt32 1 &&& Int32.toUInt32 31)).toInt32 &&& 1431655765)) >>> (Int32.toUInt32 2 &&& Int32.toUInt32 31)).toInt32 &&& 858993459)) + (Int32.toUInt32 (((a0 - ((Int32.toUInt32 a0 >>> (Int32.toUInt32 1 &&& Int32.toUInt32 31)).toInt32 &&& 1431655765)) &&& 858993459) + ((Int32.toUInt32 (a0 - ((Int32.toUInt32 a0 >>> (Int32.toUInt32 1 &&& Int32.toUInt32 31)).toInt32 &&& 1431655765)) >>> (Int32.toUInt32 2 &&& Int32.toUInt32 31)).toInt32 &&& 858993459)) >>> (Int32.toUInt32 4 &&& Int32.toUInt32 31)).toInt32) &&& 252645135) >>> (Int32.toUInt32 8 &&& Int32.toUInt32 31)).toInt32) + (Int32.toUInt32 ((((((a0 - ((Int32.toUInt32 a0 >>> (Int32.toUInt32 1 &&& Int32.toUInt32 31)).toInt32 &&& 1431655765)) &&& 858993459) + ((Int32.toUInt32 (a0 - ((Int32.toUInt32 a0 >>> (Int32.toUInt32 1 &&& Int32.toUInt32 31)).toInt32 &&& 1431655765)) >>> (Int32.toUInt32 2 &&& Int32.toUInt32 31)).toInt32 &&& 858993459)) + (Int32.toUInt32 (((a0 - ((Int32.toUInt32 a0 >>> (Int32.toUInt32 1 &&& Int32.toUInt32 31)).toInt32 &&& 1431655765)) &&& 858993459) + ((Int32.toUInt32 (a0 - ((Int32.toUInt32 a0 >>> (Int32.toUInt32 1 &&& Int32.toUInt32 31)).toInt32 &&& 1431655765)) >>> (Int32.toUInt32 2 &&& Int32.toUInt32 31)).toInt32 &&& 858993459)) >>> (Int32.toUInt32 4 &&& Int32.toUInt32 31)).toInt32) &&& 252645135) + (Int32.toUInt32 (((((a0 - ((Int32.toUInt32 a0 >>> (Int32.toUInt32 1 &&& Int32.toUInt32 31)).toInt32 &&& 1431655765)) &&& 858993459) + ((Int32.toUInt32 (a0 - ((Int32.toUInt32 a0 >>> (Int32.toUInt32 1 &&& Int32.toUInt32 31)).toInt32 &&& 1431655765)) >>> (Int32.toUInt32 2 &&& Int32.toUInt32 31)).toInt32 &&& 858993459)) + (Int32.toUInt32 (((a0 - ((Int32.toUInt32 a0 >>> (Int32.toUInt32 1 &&& Int32.toUInt32 31)).toInt32 &&& 1431655765)) &&& 858993459) + ((Int32.toUInt32 (a0 - ((Int32.toUInt32 a0 >>> (Int32.toUInt32 1 &&& Int32.toUInt32 31)).toInt32 &&& 1431655765)) >>> (Int32.toUInt32 2 &&& Int32.toUInt32 31)).toInt32 &&& 858993459)) >>> (Int32.toUInt32 4 &&& Int32.toUInt32 31)).toInt32) &&& 252645135) >>> (Int32.toUInt32 8 &&& Int32.toUInt32 31)).toInt32) >>> (Int32.toUInt32 16 &&& Int32.toUInt32 31)).toInt32) &&& 63))
theorem bc_run (a : Int32) : fJ6_bitCount_0f7a4 a = some (bcE a) := fJ6_bitCount_0f7a4_eq a
theorem ones_all : ∀ a : Fin 256, onesF 9 0 (nI a.val) = some (bcE (nI a.val)) ∧ (bcE (nI a.val) = 0 ↔ nI a.val = 0) := by decide +kernel
theorem M_ones {x : Int32} (h : ∃ b : Fin 256, x = nI b.val) : fX5_ones x = some (bcE x) := by
  obtain ⟨b, rfl⟩ := h
  rw [fX5_ones_eq]
  exact ones_run 9 0 _ _ (ones_all b).1 FU (by rw [FU_eq]; omega)
theorem bc_0 {x : Int32} (h : ∃ b : Fin 256, x = nI b.val) : bcE x = 0 ↔ x = 0 := by
  obtain ⟨b, rfl⟩ := h
  exact (ones_all b).2
theorem X_count {k d : Nat} {u : St} (h : WF k d u) (v : Int32) : fX1_countWith v u = some (bcE (setF (sWit u) v k), u) := by
  rw [fX1_countWith_eq, X_set9 h, Option.bind_some, bc_run, Option.bind_some]
-- a copy of a station
theorem X_become (a b : St) : ∃ c, fX1_become (a, b) = some (c, b) ∧ (∀ k d, WF k d b → WF k d c) ∧ ∀ s, Rel b s → Rel c s := by
  refine ⟨_, fX1_become_eq (a, b), ?_, ?_⟩
  · intro k d h
    obtain ⟨h1, h2, h3, h4, h5, h6, h7⟩ := h
    refine ⟨h1, h2, h3, h4, h5, fun p hp => ?_, fun t ht => ?_⟩
    · obtain ⟨g1, g2, g3⟩ := h6 p hp
      refine ⟨?_, ?_, ?_⟩
      · show In (va_cpy (sMns b) (sMns a) 0 0 6 p) _
        rw [pk_cpy_in (by omega) (by omega), Nat.zero_add, Nat.sub_zero]; exact g1
      · show In (va_cpy (sErn b) (sErn a) 0 0 6 p) _
        rw [pk_cpy_in (by omega) (by omega), Nat.zero_add, Nat.sub_zero]; exact g2
      · show In (va_cpy (sSpd b) (sSpd a) 0 0 6 p) _
        rw [pk_cpy_in (by omega) (by omega), Nat.zero_add, Nat.sub_zero]; exact g3
    · obtain ⟨g1, g2, g3, g4, g5, g6⟩ := h7 t ht
      refine ⟨?_, ?_, ?_, ?_, ?_, ?_⟩
      · show In (va_cpy (sKnd b) (sKnd a) 0 0 8 t) _
        rw [pk_cpy_in (by omega) (by omega), Nat.zero_add, Nat.sub_zero]; exact g1
      · show In (va_cpy (sLbl b) (sLbl a) 0 0 8 t) _
        rw [pk_cpy_in (by omega) (by omega), Nat.zero_add, Nat.sub_zero]; exact g2
      · show In (va_cpy (sLft b) (sLft a) 0 0 8 t) _
        rw [pk_cpy_in (by omega) (by omega), Nat.zero_add, Nat.sub_zero]; exact g3
      · show In (va_cpy (sDue b) (sDue a) 0 0 8 t) _
        rw [pk_cpy_in (by omega) (by omega), Nat.zero_add, Nat.sub_zero]; exact g4
      · show In (va_cpy (sWth b) (sWth a) 0 0 8 t) _
        rw [pk_cpy_in (by omega) (by omega), Nat.zero_add, Nat.sub_zero]; exact g5
      · show va_cpy (sWit b) (sWit a) 0 0 8 t = -1 ∨ In (va_cpy (sWit b) (sWit a) 0 0 8 t) _
        rw [pk_cpy_in (by omega) (by omega), Nat.zero_add, Nat.sub_zero]; exact g6
  · intro s h
    obtain ⟨h0, h1, h2, h3, h4⟩ := h
    refine ⟨h0, h1, h2, fun p hp => ?_, fun t ht => ?_⟩
    · obtain ⟨g1, g2, g3⟩ := h3 p hp
      refine ⟨?_, ?_, ?_⟩
      · show _ = va_cpy (sMns b) (sMns a) 0 0 6 p
        rw [pk_cpy_in (by omega) (by omega), Nat.zero_add, Nat.sub_zero]; exact g1
      · show _ = va_cpy (sErn b) (sErn a) 0 0 6 p
        rw [pk_cpy_in (by omega) (by omega), Nat.zero_add, Nat.sub_zero]; exact g2
      · show _ = va_cpy (sSpd b) (sSpd a) 0 0 6 p
        rw [pk_cpy_in (by omega) (by omega), Nat.zero_add, Nat.sub_zero]; exact g3
    · obtain ⟨g1, g2, g3, g4, g5, g6⟩ := h4 t ht
      refine ⟨?_, ?_, ?_, ?_, ?_, ?_⟩
      · show _ = va_cpy (sKnd b) (sKnd a) 0 0 8 t
        rw [pk_cpy_in (by omega) (by omega), Nat.zero_add, Nat.sub_zero]; exact g1
      · show _ = va_cpy (sLbl b) (sLbl a) 0 0 8 t
        rw [pk_cpy_in (by omega) (by omega), Nat.zero_add, Nat.sub_zero]; exact g2
      · show _ = va_cpy (sLft b) (sLft a) 0 0 8 t
        rw [pk_cpy_in (by omega) (by omega), Nat.zero_add, Nat.sub_zero]; exact g3
      · show _ = va_cpy (sDue b) (sDue a) 0 0 8 t
        rw [pk_cpy_in (by omega) (by omega), Nat.zero_add, Nat.sub_zero]; exact g4
      · show _ = va_cpy (sWth b) (sWth a) 0 0 8 t
        rw [pk_cpy_in (by omega) (by omega), Nat.zero_add, Nat.sub_zero]; exact g5
      · show _ = va_cpy (sWit b) (sWit a) 0 0 8 t
        rw [pk_cpy_in (by omega) (by omega), Nat.zero_add, Nat.sub_zero]; exact g6
theorem X_start (x : XS) : ∃ a, fX4_startAhead x = some (xAhd' x a) ∧ (∀ k d, WF k d (xRoom x) → WF k d a) ∧ ∀ s, Rel (xRoom x) s → Rel a s := by
  obtain ⟨c, e, h1, h2⟩ := X_become (xAhd x) (xRoom x)
  exact ⟨c, by rw [fX4_startAhead_eq, e]; rfl, h1, h2⟩
