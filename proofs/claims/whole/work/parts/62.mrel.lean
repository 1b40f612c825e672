-- THE REFERENCE's ROW: a station, thing by thing
def Rel (u : St) (s : F32) : Prop := s 0 = sNum u ∧ s 1 = sDay u ∧ s 2 = sTkn u ∧ (∀ p, p < 6 → s (3 + 3 * p) = sMns u p ∧ s (4 + 3 * p) = sErn u p ∧ s (5 + 3 * p) = sSpd u p) ∧
  ∀ t, t < 8 → s (21 + 6 * t) = sKnd u t ∧ s (22 + 6 * t) = sLbl u t ∧ s (23 + 6 * t) = sLft u t ∧ s (24 + 6 * t) = sDue u t ∧ s (25 + 6 * t) = sWth u t ∧ s (26 + 6 * t) = sWit u t
theorem nI3 (p w : Nat) : ((3 : Int32) + (3 : Int32) * nI p) + nI w = nI (3 + 3 * p + w) := by
  rw [show (3 : Int32) = nI 3 from rfl, pk_mul, nI_add, nI_add]
theorem nI21 (t w : Nat) : ((21 : Int32) + (6 : Int32) * nI t) + nI w = nI (21 + 6 * t + w) := by
  rw [show (21 : Int32) = nI 21 from rfl, show (6 : Int32) = nI 6 from rfl, pk_mul, nI_add, nI_add]
theorem M_placeOf (p w : Nat) : fX5_placeOf (nI p) (nI w) = some (nI (3 + 3 * p + w)) := by
  rw [fX5_placeOf_eq, nI3]
theorem M_spotOf (t w : Nat) : fX5_spotOf (nI t) (nI w) = some (nI (21 + 6 * t + w)) := by
  rw [fX5_spotOf_eq, nI21]
theorem M_place0 (p : Nat) : fX5_placeOf (nI p) 0 = some (nI (3 + 3 * p)) := M_placeOf p 0
theorem M_place1 (p : Nat) : fX5_placeOf (nI p) 1 = some (nI (4 + 3 * p)) := by
  rw [show (1 : Int32) = nI 1 from rfl, M_placeOf, show 3 + 3 * p + 1 = 4 + 3 * p by omega]
theorem M_place2 (p : Nat) : fX5_placeOf (nI p) 2 = some (nI (5 + 3 * p)) := by
  rw [show (2 : Int32) = nI 2 from rfl, M_placeOf, show 3 + 3 * p + 2 = 5 + 3 * p by omega]
theorem M_spot0 (t : Nat) : fX5_spotOf (nI t) 0 = some (nI (21 + 6 * t)) := M_spotOf t 0
theorem M_spot1 (t : Nat) : fX5_spotOf (nI t) 1 = some (nI (22 + 6 * t)) := by
  rw [show (1 : Int32) = nI 1 from rfl, M_spotOf, show 21 + 6 * t + 1 = 22 + 6 * t by omega]
theorem M_spot2 (t : Nat) : fX5_spotOf (nI t) 2 = some (nI (23 + 6 * t)) := by
  rw [show (2 : Int32) = nI 2 from rfl, M_spotOf, show 21 + 6 * t + 2 = 23 + 6 * t by omega]
theorem M_spot3 (t : Nat) : fX5_spotOf (nI t) 3 = some (nI (24 + 6 * t)) := by
  rw [show (3 : Int32) = nI 3 from rfl, M_spotOf, show 21 + 6 * t + 3 = 24 + 6 * t by omega]
theorem M_spot4 (t : Nat) : fX5_spotOf (nI t) 4 = some (nI (25 + 6 * t)) := by
  rw [show (4 : Int32) = nI 4 from rfl, M_spotOf, show 21 + 6 * t + 4 = 25 + 6 * t by omega]
theorem M_spot5 (t : Nat) : fX5_spotOf (nI t) 5 = some (nI (26 + 6 * t)) := by
  rw [show (5 : Int32) = nI 5 from rfl, M_spotOf, show 21 + 6 * t + 5 = 26 + 6 * t by omega]
theorem M_his {m : MS} {p w : Nat} (hp : p < 6) (hw : w < 3) : fX5_his (nI p) (nI w) m = some (mS m (3 + 3 * p + w), m) := by
  rw [fX5_his_eq, M_placeOf, Option.bind_some, if_neg (ix (by omega)), cl (by omega)]
theorem M_its {m : MS} {t w : Nat} (ht : t < 8) (hw : w < 6) : fX5_its (nI t) (nI w) m = some (mS m (21 + 6 * t + w), m) := by
  rw [fX5_its_eq, M_spotOf, Option.bind_some, if_neg (ix (by omega)), cl (by omega)]
theorem M_means {u : St} {m : MS} {p : Nat} (h : Rel u (mS m)) (hp : p < 6) : fX5_his (nI p) 0 m = some (sMns u p, m) := by
  rw [show (0 : Int32) = nI 0 from rfl, M_his hp (by omega), ← (h.2.2.2.1 p hp).1, Nat.add_zero]
theorem M_earns {u : St} {m : MS} {p : Nat} (h : Rel u (mS m)) (hp : p < 6) : fX5_his (nI p) 1 m = some (sErn u p, m) := by
  rw [show (1 : Int32) = nI 1 from rfl, M_his hp (by omega), ← (h.2.2.2.1 p hp).2.1, show 3 + 3 * p + 1 = 4 + 3 * p by omega]
theorem M_spends {u : St} {m : MS} {p : Nat} (h : Rel u (mS m)) (hp : p < 6) : fX5_his (nI p) 2 m = some (sSpd u p, m) := by
  rw [show (2 : Int32) = nI 2 from rfl, M_his hp (by omega), ← (h.2.2.2.1 p hp).2.2, show 3 + 3 * p + 2 = 5 + 3 * p by omega]
theorem M_sort {u : St} {m : MS} {t : Nat} (h : Rel u (mS m)) (ht : t < 8) : fX5_its (nI t) 0 m = some (sKnd u t, m) := by
  rw [show (0 : Int32) = nI 0 from rfl, M_its ht (by omega), ← (h.2.2.2.2 t ht).1, Nat.add_zero]
theorem M_lbl {u : St} {m : MS} {t : Nat} (h : Rel u (mS m)) (ht : t < 8) : fX5_its (nI t) 1 m = some (sLbl u t, m) := by
  rw [show (1 : Int32) = nI 1 from rfl, M_its ht (by omega), ← (h.2.2.2.2 t ht).2.1, show 21 + 6 * t + 1 = 22 + 6 * t by omega]
theorem M_left {u : St} {m : MS} {t : Nat} (h : Rel u (mS m)) (ht : t < 8) : fX5_its (nI t) 2 m = some (sLft u t, m) := by
  rw [show (2 : Int32) = nI 2 from rfl, M_its ht (by omega), ← (h.2.2.2.2 t ht).2.2.1, show 21 + 6 * t + 2 = 23 + 6 * t by omega]
theorem M_due {u : St} {m : MS} {t : Nat} (h : Rel u (mS m)) (ht : t < 8) : fX5_its (nI t) 3 m = some (sDue u t, m) := by
  rw [show (3 : Int32) = nI 3 from rfl, M_its ht (by omega), ← (h.2.2.2.2 t ht).2.2.2.1, show 21 + 6 * t + 3 = 24 + 6 * t by omega]
theorem M_worth {u : St} {m : MS} {t : Nat} (h : Rel u (mS m)) (ht : t < 8) : fX5_its (nI t) 4 m = some (sWth u t, m) := by
  rw [show (4 : Int32) = nI 4 from rfl, M_its ht (by omega), ← (h.2.2.2.2 t ht).2.2.2.2.1, show 21 + 6 * t + 4 = 25 + 6 * t by omega]
theorem M_wit {u : St} {m : MS} {t : Nat} (h : Rel u (mS m)) (ht : t < 8) : fX5_its (nI t) 5 m = some (sWit u t, m) := by
  rw [show (5 : Int32) = nI 5 from rfl, M_its ht (by omega), ← (h.2.2.2.2 t ht).2.2.2.2.2, show 21 + 6 * t + 5 = 26 + 6 * t by omega]
theorem M_isThere {u : St} {m : MS} {t : Nat} (h : Rel u (mS m)) (ht : t < 8) : fX5_isThere (nI t) m = some (b2i (thereS u t), m) := by
  rw [fX5_isThere_eq, M_wit h ht, Option.bind_some]
  unfold thereS b2i
  by_cases e : sWit u t = -1
  · simp [e]
  · simp [e]
theorem M_daysOf {u : St} {m : MS} {t : Nat} (h : Rel u (mS m)) (ht : t < 8) : fX5_daysOf (nI t) m = some (sDay u - sLft u t, m) := by
  rw [fX5_daysOf_eq, M_left h ht, Option.bind_some, h.2.1]
theorem M_mountsOf {u : St} {m : MS} {t : Nat} (h : Rel u (mS m)) (ht : t < 8) : fX5_mountsOf (nI t) m = some (mountS u t, m) := by
  rw [fX5_mountsOf_eq]
  simp only [M_daysOf h ht, Option.bind_some, M_sort h ht, M_worth h ht]
  unfold mountS
  by_cases e : (sDay u - sLft u t) - (sDay u - sLft u t) / 2 * 2 = 0 <;> simp only [e, if_true, if_false] <;> (repeat' split) <;> first | rfl | simp_all
theorem M_maySell {u : St} {m : MS} {t : Nat} (h : Rel u (mS m)) (ht : t < 8) : fX5_maySell (nI t) m = some (b2i (sellS u t), m) := by
  rw [fX5_maySell_eq]
  simp only [M_daysOf h ht, Option.bind_some, M_sort h ht, M_worth h ht, M_due h ht]
  unfold sellS b2i
  (repeat' split) <;> simp_all
theorem M_heldTo (a b : Int32) : fX5_heldTo a b = some (minS b a) := by
  rw [fX5_heldTo_eq]
  unfold minS
  by_cases h : a ≤ b
  · rw [if_pos h]
    by_cases e : a < b
    · rw [if_pos e]
    · rw [if_neg e]
      have h1 := (fa_le a b).mp h
      have h2 : ¬ a.toInt < b.toInt := fun z => e ((fa_lt a b).mpr z)
      rw [(fa_eq a b).mpr (by omega)]
  · rw [if_neg h]
    have h1 : ¬ a.toInt ≤ b.toInt := fun z => h ((fa_le a b).mpr z)
    rw [if_neg (fun z => by have := (fa_lt a b).mp z; omega)]
theorem M_bidOf {u : St} {m : MS} {t p : Nat} (h : Rel u (mS m)) (ht : t < 8) (hp : p < 6) (hm : In (sMns u p) 999999) : fX5_bidOf (nI t) (nI p) m = some (bidS u t p, m) := by
  rw [fX5_bidOf_eq]
  simp only [M_means h hp, Option.bind_some, M_sort h ht, M_worth h ht, M_heldTo]
  unfold bidS
  have e0 : minS (sMns u p) 0 = 0 := by
    unfold minS
    by_cases e : (0 : Int32) < sMns u p
    · rw [if_pos e]
    · rw [if_neg e]
      have h1 := hm.int (by decide)
      have h2 : ¬ (0 : Int32).toInt < (sMns u p).toInt := fun z => e ((fa_lt _ _).mpr z)
      have h3 : (0 : Int32).toInt = 0 := rfl
      exact (fa_eq _ _).mpr (by omega)
  rw [e0]
  (repeat' split) <;> first | rfl | simp_all
theorem M_mayCall {u : St} {m : MS} {t : Nat} (h : Rel u (mS m)) (ht : t < 8) (hl : lbN u t < 6 ∧ sLbl u t = nI (lbN u t)) : fX5_mayCall (nI t) m = some (b2i (canS u t), m) := by
  rw [fX5_mayCall_eq, M_isThere h ht]
  simp only [Option.bind_some, b2i_0, M_due h ht, M_lbl h ht]
  unfold canS
  cases e : thereS u t
  · simp [b2i]
  · simp only [Bool.true_eq_false, if_false, Bool.true_and]
    rw [hl.2, M_means h hl.1]
    simp only [Option.bind_some]
    unfold b2i
    by_cases e2 : sMns u (lbN u t) < sDue u t
    · simp [e2]
    · simp [e2]
-- writing into the row
theorem upd_at (f : F32) (k j : Nat) (x : Int32) : upd f k x j = if j = k then x else f j := rfl
theorem Rel.hand {u : St} {s : F32} {t p : Nat} {x : Int32} (h : Rel u s) (ht : t < 8) (hp : p < 6) : Rel (handS u t p x) (upd (upd (upd (upd (upd s (3 + 3 * p) (sMns u p - x)) 2 (minS 99999999 (sTkn u + x))) (24 + 6 * t) 0) (22 + 6 * t) (nI p)) (26 + 6 * t) (nI p)) := by
  obtain ⟨h0, h1, h2, h3, h4⟩ := h
  refine ⟨?_, ?_, ?_, fun p' hp' => ?_, fun t' ht' => ?_⟩
  · simp only [upd_at]
    rw [if_neg (by omega), if_neg (by omega), if_neg (by omega), if_neg (by omega), if_neg (by omega)]
    exact h0
  · simp only [upd_at]
    rw [if_neg (by omega), if_neg (by omega), if_neg (by omega), if_neg (by omega), if_neg (by omega)]
    exact h1
  · simp only [upd_at]
    rw [if_neg (by omega), if_neg (by omega), if_neg (by omega), if_pos trivial]
    rfl
  · obtain ⟨g0, g1, g2⟩ := h3 p' hp'
    refine ⟨?_, ?_, ?_⟩
    · simp only [upd_at]
      rw [if_neg (by omega), if_neg (by omega), if_neg (by omega), if_neg (by omega)]
      show _ = upd (sMns u) p (sMns u p - x) p'
      rw [upd_at]
      by_cases e : p' = p
      · subst e; rw [if_pos rfl, if_pos rfl]
      · rw [if_neg (by omega), if_neg e]; exact g0
    · simp only [upd_at]
      rw [if_neg (by omega), if_neg (by omega), if_neg (by omega), if_neg (by omega), if_neg (by omega)]
      exact g1
    · simp only [upd_at]
      rw [if_neg (by omega), if_neg (by omega), if_neg (by omega), if_neg (by omega), if_neg (by omega)]
      exact g2
  · obtain ⟨g0, g1, g2, g3, g4, g5⟩ := h4 t' ht'
    refine ⟨?_, ?_, ?_, ?_, ?_, ?_⟩
    · simp only [upd_at]
      rw [if_neg (by omega), if_neg (by omega), if_neg (by omega), if_neg (by omega), if_neg (by omega)]
      exact g0
    · show _ = upd (sLbl u) t (nI p) t'
      simp only [upd_at]
      by_cases e : t' = t
      · subst e; rw [if_neg (by omega), if_pos rfl, if_pos rfl]
      · rw [if_neg (by omega), if_neg (by omega), if_neg (by omega), if_neg (by omega), if_neg (by omega), if_neg e]; exact g1
    · simp only [upd_at]
      rw [if_neg (by omega), if_neg (by omega), if_neg (by omega), if_neg (by omega), if_neg (by omega)]
      exact g2
    · show _ = upd (sDue u) t 0 t'
      simp only [upd_at]
      by_cases e : t' = t
      · subst e; rw [if_neg (by omega), if_neg (by omega), if_pos rfl, if_pos rfl]
      · rw [if_neg (by omega), if_neg (by omega), if_neg (by omega), if_neg (by omega), if_neg (by omega), if_neg e]; exact g3
    · simp only [upd_at]
      rw [if_neg (by omega), if_neg (by omega), if_neg (by omega), if_neg (by omega), if_neg (by omega)]
      exact g4
    · show _ = upd (sWit u) t (nI p) t'
      simp only [upd_at]
      by_cases e : t' = t
      · subst e; rw [if_pos rfl, if_pos rfl]
      · rw [if_neg (by omega), if_neg (by omega), if_neg (by omega), if_neg (by omega), if_neg (by omega), if_neg e]; exact g5
theorem M_comesTo {u : St} {m : MS} {t p : Nat} {x : Int32} (h : Rel u (mS m)) (ht : t < 8) (hp : p < 6) : ∃ s', fX5_comesTo (nI t) (nI p) x m = some (mS' m s') ∧ Rel (handS u t p x) s' := by
  refine ⟨_, ?_, h.hand (x := x) ht hp⟩
  rw [fX5_comesTo_eq]
  simp only [M_place0, M_spot1, M_spot3, M_spot5, Option.bind_some, M_heldTo]
  rw [if_neg (ix (by omega)), if_neg (ix (by omega)), if_neg (ix (by omega)), if_neg (ix (by omega)), if_neg (ix (by omega))]
  simp only [cl (show 3 + 3 * p < 2 ^ 31 by omega), cl (show 24 + 6 * t < 2 ^ 31 by omega), cl (show 22 + 6 * t < 2 ^ 31 by omega), cl (show 26 + 6 * t < 2 ^ 31 by omega)]
  have e2 : upd (mS m) (3 + 3 * p) (mS m (3 + 3 * p) - x) 2 = sTkn u := by
    rw [upd_at, if_neg (by omega)]; exact h.2.2.1
  rw [e2, (h.2.2.2.1 p hp).1]
theorem M_calls {u : St} {m : MS} {t : Nat} (h : Rel u (mS m)) (ht : t < 8) (hl : lbN u t < 6 ∧ sLbl u t = nI (lbN u t)) : ∃ s', fX5_calls (nI t) m = some (sDue u t, mS' m s') ∧ Rel (handS u t (lbN u t) (sDue u t)) s' := by
  obtain ⟨s', h1, h2⟩ := M_comesTo (x := sDue u t) h ht hl.1
  refine ⟨s', ?_, h2⟩
  rw [fX5_calls_eq, M_due h ht]
  simp only [Option.bind_some, M_lbl h ht]
  rw [hl.2, h1]
  rfl
