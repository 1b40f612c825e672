theorem z32_0 : (0 : Int32).toInt = 0 := rfl
theorem z64_0 : (0 : Int64).toInt = 0 := rfl
theorem z32_1 : (1 : Int32).toInt = 1 := rfl
theorem z64_1 : (1 : Int64).toInt = 1 := rfl
theorem z32_2 : (2 : Int32).toInt = 2 := rfl
theorem z64_2 : (2 : Int64).toInt = 2 := rfl
theorem z32_3 : (3 : Int32).toInt = 3 := rfl
theorem z64_3 : (3 : Int64).toInt = 3 := rfl
theorem z32_4 : (4 : Int32).toInt = 4 := rfl
theorem z64_4 : (4 : Int64).toInt = 4 := rfl
theorem z32_5 : (5 : Int32).toInt = 5 := rfl
theorem z64_5 : (5 : Int64).toInt = 5 := rfl
theorem z32_6 : (6 : Int32).toInt = 6 := rfl
theorem z64_6 : (6 : Int64).toInt = 6 := rfl
theorem z32_7 : (7 : Int32).toInt = 7 := rfl
theorem z64_7 : (7 : Int64).toInt = 7 := rfl
theorem z32_60 : (60 : Int32).toInt = 60 := rfl
theorem z64_60 : (60 : Int64).toInt = 60 := rfl
theorem z32_100 : (100 : Int32).toInt = 100 := rfl
theorem z64_100 : (100 : Int64).toInt = 100 := rfl
theorem z32_999 : (999 : Int32).toInt = 999 := rfl
theorem z64_999 : (999 : Int64).toInt = 999 := rfl
theorem z32_9999 : (9999 : Int32).toInt = 9999 := rfl
theorem z64_9999 : (9999 : Int64).toInt = 9999 := rfl
theorem z32_999999 : (999999 : Int32).toInt = 999999 := rfl
theorem z64_999999 : (999999 : Int64).toInt = 999999 := rfl
theorem z32_m1 : (-1 : Int32).toInt = -1 := rfl
theorem z64_m1 : (-1 : Int64).toInt = -1 := rfl
theorem inB_ne {a : Int32} {N : Nat} (h : ∀ p, p ≤ N → a ≠ nI p) : inB a 0 (N : Int) = false := by
  cases c : inB a 0 (N : Int)
  · rfl
  · obtain ⟨p, _, hp, e⟩ := inB_nat (L := 0) c
    exact absurd e (h p hp)
theorem bool_cases (b : Bool) : b = false ∨ b = true := by cases b <;> simp
theorem inB_0m (a : Int32) : inB a 0 (-1) = false := decide_eq_false (fun z => by omega)
theorem S_person {x : XS} {m : MS} (h : Inv x m) (a0 a1 a2 : Int32) : Same (fX4_person a0 a1 a2 x) (fX5_person a0 a1 a2 m) := by
  obtain ⟨k, d, hw, hd⟩ := h.1
  have hR := h.2.1
  have hk := hw.k8
  have hB := sf h fcB
  by_cases c0 : a1 = 0
  · subst c0
    have e1 : inB 0 0 2 = true := by decide
    rw [fX4_person_eq, fX5_person_eq]
    simp +decide only [X_isPerson, M_isPerson, X_within, M_in, fX4_mostOfPerson_eq, e1, Option.bind_some, b2i_0, z32_0, z64_0, z32_1, z64_1, z32_2, z64_2, z32_3, z64_3, z32_4, z64_4, z32_5, z64_5, z32_6, z64_6, z32_7, z64_7, z32_60, z64_60, z32_100, z64_100, z32_999, z64_999, z32_9999, z64_9999, z32_999999, z64_999999, z32_m1, z64_m1, if_true, if_false, eq_self, Bool.true_eq_false, Bool.false_eq_true]
    cases cp : inB a0 0 5
    · rcases bool_cases (inB a2 0 999999) with cv | cv <;> simpa +decide only [cv, Option.bind_some, b2i_0, z32_0, z64_0, z32_1, z64_1, z32_2, z64_2, z32_3, z64_3, z32_4, z64_4, z32_5, z64_5, z32_6, z64_6, z32_7, z64_7, z32_60, z64_60, z32_100, z64_100, z32_999, z64_999, z32_9999, z64_9999, z32_999999, z64_999999, z32_m1, z64_m1, if_true, if_false, eq_self, Bool.true_eq_false, Bool.false_eq_true] using hB
    · rcases bool_cases (inB a2 0 999999) with cv | cv
      · simpa +decide only [cv, Option.bind_some, b2i_0, z32_0, z64_0, z32_1, z64_1, z32_2, z64_2, z32_3, z64_3, z32_4, z64_4, z32_5, z64_5, z32_6, z64_6, z32_7, z64_7, z32_60, z64_60, z32_100, z64_100, z32_999, z64_999, z32_9999, z64_9999, z32_999999, z64_999999, z32_m1, z64_m1, if_true, if_false, eq_self, Bool.true_eq_false, Bool.false_eq_true] using hB
      · obtain ⟨p, -, hp, rfl⟩ := inB_nat (L := 0) (N := 5) cp
        have hp6 : p < 6 := by omega
        simp +decide only [cv, Option.bind_some, b2i_0, z32_0, z64_0, z32_1, z64_1, z32_2, z64_2, z32_3, z64_3, z32_4, z64_4, z32_5, z64_5, z32_6, z64_6, z32_7, z64_7, z32_60, z64_60, z32_100, z64_100, z32_999, z64_999, z32_9999, z64_9999, z32_999999, z64_999999, z32_m1, z64_m1, if_true, if_false, eq_self, Bool.true_eq_false, Bool.false_eq_true]
        rw [if_neg (ix hp6), if_neg (ix hp6), cl (by omega), M_place0, Option.bind_some, M_becomes (by omega), Option.bind_some, (hR.2.2.2.1 p hp6).1]
        exact same_of (h.room ⟨k, d, hw.mns (inB_In (by decide) cv), hd⟩ (hR.mns hp6 a2))
  by_cases c1 : a1 = 1
  · subst c1
    have e1 : inB 1 0 2 = true := by decide
    rw [fX4_person_eq, fX5_person_eq]
    simp +decide only [X_isPerson, M_isPerson, X_within, M_in, fX4_mostOfPerson_eq, e1, Option.bind_some, b2i_0, z32_0, z64_0, z32_1, z64_1, z32_2, z64_2, z32_3, z64_3, z32_4, z64_4, z32_5, z64_5, z32_6, z64_6, z32_7, z64_7, z32_60, z64_60, z32_100, z64_100, z32_999, z64_999, z32_9999, z64_9999, z32_999999, z64_999999, z32_m1, z64_m1, if_true, if_false, eq_self, Bool.true_eq_false, Bool.false_eq_true]
    cases cp : inB a0 0 5
    · rcases bool_cases (inB a2 0 999) with cv | cv <;> simpa +decide only [cv, Option.bind_some, b2i_0, z32_0, z64_0, z32_1, z64_1, z32_2, z64_2, z32_3, z64_3, z32_4, z64_4, z32_5, z64_5, z32_6, z64_6, z32_7, z64_7, z32_60, z64_60, z32_100, z64_100, z32_999, z64_999, z32_9999, z64_9999, z32_999999, z64_999999, z32_m1, z64_m1, if_true, if_false, eq_self, Bool.true_eq_false, Bool.false_eq_true] using hB
    · rcases bool_cases (inB a2 0 999) with cv | cv
      · simpa +decide only [cv, Option.bind_some, b2i_0, z32_0, z64_0, z32_1, z64_1, z32_2, z64_2, z32_3, z64_3, z32_4, z64_4, z32_5, z64_5, z32_6, z64_6, z32_7, z64_7, z32_60, z64_60, z32_100, z64_100, z32_999, z64_999, z32_9999, z64_9999, z32_999999, z64_999999, z32_m1, z64_m1, if_true, if_false, eq_self, Bool.true_eq_false, Bool.false_eq_true] using hB
      · obtain ⟨p, -, hp, rfl⟩ := inB_nat (L := 0) (N := 5) cp
        have hp6 : p < 6 := by omega
        simp +decide only [cv, Option.bind_some, b2i_0, z32_0, z64_0, z32_1, z64_1, z32_2, z64_2, z32_3, z64_3, z32_4, z64_4, z32_5, z64_5, z32_6, z64_6, z32_7, z64_7, z32_60, z64_60, z32_100, z64_100, z32_999, z64_999, z32_9999, z64_9999, z32_999999, z64_999999, z32_m1, z64_m1, if_true, if_false, eq_self, Bool.true_eq_false, Bool.false_eq_true]
        rw [if_neg (ix hp6), if_neg (ix hp6), cl (by omega), M_place1, Option.bind_some, M_becomes (by omega), Option.bind_some, (hR.2.2.2.1 p hp6).2.1]
        exact same_of (h.room ⟨k, d, hw.ern (inB_In (by decide) cv), hd⟩ (hR.ern hp6 a2))
  by_cases c2 : a1 = 2
  · subst c2
    have e1 : inB 2 0 2 = true := by decide
    rw [fX4_person_eq, fX5_person_eq]
    simp +decide only [X_isPerson, M_isPerson, X_within, M_in, fX4_mostOfPerson_eq, e1, Option.bind_some, b2i_0, z32_0, z64_0, z32_1, z64_1, z32_2, z64_2, z32_3, z64_3, z32_4, z64_4, z32_5, z64_5, z32_6, z64_6, z32_7, z64_7, z32_60, z64_60, z32_100, z64_100, z32_999, z64_999, z32_9999, z64_9999, z32_999999, z64_999999, z32_m1, z64_m1, if_true, if_false, eq_self, Bool.true_eq_false, Bool.false_eq_true]
    cases cp : inB a0 0 5
    · rcases bool_cases (inB a2 0 999) with cv | cv <;> simpa +decide only [cv, Option.bind_some, b2i_0, z32_0, z64_0, z32_1, z64_1, z32_2, z64_2, z32_3, z64_3, z32_4, z64_4, z32_5, z64_5, z32_6, z64_6, z32_7, z64_7, z32_60, z64_60, z32_100, z64_100, z32_999, z64_999, z32_9999, z64_9999, z32_999999, z64_999999, z32_m1, z64_m1, if_true, if_false, eq_self, Bool.true_eq_false, Bool.false_eq_true] using hB
    · rcases bool_cases (inB a2 0 999) with cv | cv
      · simpa +decide only [cv, Option.bind_some, b2i_0, z32_0, z64_0, z32_1, z64_1, z32_2, z64_2, z32_3, z64_3, z32_4, z64_4, z32_5, z64_5, z32_6, z64_6, z32_7, z64_7, z32_60, z64_60, z32_100, z64_100, z32_999, z64_999, z32_9999, z64_9999, z32_999999, z64_999999, z32_m1, z64_m1, if_true, if_false, eq_self, Bool.true_eq_false, Bool.false_eq_true] using hB
      · obtain ⟨p, -, hp, rfl⟩ := inB_nat (L := 0) (N := 5) cp
        have hp6 : p < 6 := by omega
        simp +decide only [cv, Option.bind_some, b2i_0, z32_0, z64_0, z32_1, z64_1, z32_2, z64_2, z32_3, z64_3, z32_4, z64_4, z32_5, z64_5, z32_6, z64_6, z32_7, z64_7, z32_60, z64_60, z32_100, z64_100, z32_999, z64_999, z32_9999, z64_9999, z32_999999, z64_999999, z32_m1, z64_m1, if_true, if_false, eq_self, Bool.true_eq_false, Bool.false_eq_true]
        rw [if_neg (ix hp6), if_neg (ix hp6), cl (by omega), M_place2, Option.bind_some, M_becomes (by omega), Option.bind_some, (hR.2.2.2.1 p hp6).2.2]
        exact same_of (h.room ⟨k, d, hw.spd (inB_In (by decide) cv), hd⟩ (hR.spd hp6 a2))
  · have e1 : inB a1 0 2 = false := inB_ne (N := 2) (fun p hp => by
      have hp2 : p = 0 ∨ p = 1 ∨ p = 2 := by omega
      rcases hp2 with rfl | rfl | rfl
      · exact c0
      · exact c1
      · exact c2)
    rw [fX4_person_eq, fX5_person_eq]
    simp +decide only [X_isPerson, M_isPerson, X_within, M_in, fX4_mostOfPerson_eq, e1, c0, c1, c2, inB_0m, Option.bind_some, b2i_0, z32_0, z64_0, z32_1, z64_1, z32_2, z64_2, z32_3, z64_3, z32_4, z64_4, z32_5, z64_5, z32_6, z64_6, z32_7, z64_7, z32_60, z64_60, z32_100, z64_100, z32_999, z64_999, z32_9999, z64_9999, z32_999999, z64_999999, z32_m1, z64_m1, if_true, if_false, eq_self, Bool.true_eq_false, Bool.false_eq_true]
    cases cp : inB a0 0 5 <;> simpa +decide only [Option.bind_some, b2i_0, z32_0, z64_0, z32_1, z64_1, z32_2, z64_2, z32_3, z64_3, z32_4, z64_4, z32_5, z64_5, z32_6, z64_6, z32_7, z64_7, z32_60, z64_60, z32_100, z64_100, z32_999, z64_999, z32_9999, z64_9999, z32_999999, z64_999999, z32_m1, z64_m1, if_true, if_false, eq_self, Bool.true_eq_false, Bool.false_eq_true] using hB
theorem S_personOf {x : XS} {m : MS} (h : Inv x m) (a0 a1 : Int32) : Same (fX4_personOf a0 a1 x) (fX5_personOf a0 a1 m) := by
  obtain ⟨k, d, hw, hd⟩ := h.1
  have hR := h.2.1
  have hk := hw.k8
  have hB := sf h fcB
  rw [fX4_personOf_eq, fX5_personOf_eq]
  simp +decide only [X_isPerson, M_isPerson, M_in, Option.bind_some, b2i_0, z32_0, z64_0, z32_1, z64_1, z32_2, z64_2, z32_3, z64_3, z32_4, z64_4, z32_5, z64_5, z32_6, z64_6, z32_7, z64_7, z32_60, z64_60, z32_100, z64_100, z32_999, z64_999, z32_9999, z64_9999, z32_999999, z64_999999, z32_m1, z64_m1, if_true, if_false, eq_self, Bool.true_eq_false, Bool.false_eq_true]
  cases cp : inB a0 0 5
  · simpa +decide only [Option.bind_some, b2i_0, z32_0, z64_0, z32_1, z64_1, z32_2, z64_2, z32_3, z64_3, z32_4, z64_4, z32_5, z64_5, z32_6, z64_6, z32_7, z64_7, z32_60, z64_60, z32_100, z64_100, z32_999, z64_999, z32_9999, z64_9999, z32_999999, z64_999999, z32_m1, z64_m1, if_true, if_false, eq_self, Bool.true_eq_false, Bool.false_eq_true] using hB
  · obtain ⟨p, -, hp, rfl⟩ := inB_nat (L := 0) (N := 5) cp
    have hp6 : p < 6 := by omega
    simp +decide only [if_true, if_false, eq_self, Bool.true_eq_false, Bool.false_eq_true]
    by_cases c0 : a1 = 0
    · subst c0
      have e1 : inB 0 0 4 = true := by decide
      have e2 : ¬ (2 : Int32) < 0 := by decide
      simp +decide only [e1, e2, M_means hR hp6, Option.bind_some, b2i_0, z32_0, z64_0, z32_1, z64_1, z32_2, z64_2, z32_3, z64_3, z32_4, z64_4, z32_5, z64_5, z32_6, z64_6, z32_7, z64_7, z32_60, z64_60, z32_100, z64_100, z32_999, z64_999, z32_9999, z64_9999, z32_999999, z64_999999, z32_m1, z64_m1, if_true, if_false, eq_self, Bool.true_eq_false, Bool.false_eq_true]
      rw [if_neg (ix hp6), cl (by omega)]
      exact same_of h
    by_cases c1 : a1 = 1
    · subst c1
      have e1 : inB 1 0 4 = true := by decide
      have e2 : ¬ (2 : Int32) < 1 := by decide
      simp +decide only [e1, e2, M_earns hR hp6, Option.bind_some, b2i_0, z32_0, z64_0, z32_1, z64_1, z32_2, z64_2, z32_3, z64_3, z32_4, z64_4, z32_5, z64_5, z32_6, z64_6, z32_7, z64_7, z32_60, z64_60, z32_100, z64_100, z32_999, z64_999, z32_9999, z64_9999, z32_999999, z64_999999, z32_m1, z64_m1, if_true, if_false, eq_self, Bool.true_eq_false, Bool.false_eq_true]
      rw [if_neg (ix hp6), cl (by omega)]
      exact same_of h
    by_cases c2 : a1 = 2
    · subst c2
      have e1 : inB 2 0 4 = true := by decide
      have e2 : ¬ (2 : Int32) < 2 := by decide
      simp +decide only [e1, e2, M_spends hR hp6, Option.bind_some, b2i_0, z32_0, z64_0, z32_1, z64_1, z32_2, z64_2, z32_3, z64_3, z32_4, z64_4, z32_5, z64_5, z32_6, z64_6, z32_7, z64_7, z32_60, z64_60, z32_100, z64_100, z32_999, z64_999, z32_9999, z64_9999, z32_999999, z64_999999, z32_m1, z64_m1, if_true, if_false, eq_self, Bool.true_eq_false, Bool.false_eq_true]
      rw [if_neg (ix hp6), cl (by omega)]
      exact same_of h
    by_cases c3 : a1 = 3
    · subst c3
      have e1 : inB 3 0 4 = true := by decide
      have e2 : (2 : Int32) < 3 := by decide
      simp +decide only [e1, e2, X_set5 hw, M_those1 hw hR, xRoom_eta, Option.bind_some, b2i_0, z32_0, z64_0, z32_1, z64_1, z32_2, z64_2, z32_3, z64_3, z32_4, z64_4, z32_5, z64_5, z32_6, z64_6, z32_7, z64_7, z32_60, z64_60, z32_100, z64_100, z32_999, z64_999, z32_9999, z64_9999, z32_999999, z64_999999, z32_m1, z64_m1, if_true, if_false, eq_self, Bool.true_eq_false, Bool.false_eq_true]
      exact same_of h
    by_cases c4 : a1 = 4
    · subst c4
      have e1 : inB 4 0 4 = true := by decide
      have e2 : (2 : Int32) < 4 := by decide
      simp +decide only [e1, e2, X_set9 hw, M_those5 hw hR, xRoom_eta, Option.bind_some, b2i_0, z32_0, z64_0, z32_1, z64_1, z32_2, z64_2, z32_3, z64_3, z32_4, z64_4, z32_5, z64_5, z32_6, z64_6, z32_7, z64_7, z32_60, z64_60, z32_100, z64_100, z32_999, z64_999, z32_9999, z64_9999, z32_999999, z64_999999, z32_m1, z64_m1, if_true, if_false, eq_self, Bool.true_eq_false, Bool.false_eq_true]
      exact same_of h
    · have e1 : inB a1 0 4 = false := inB_ne (N := 4) (fun p hp => by
        have hp2 : p = 0 ∨ p = 1 ∨ p = 2 ∨ p = 3 ∨ p = 4 := by omega
        rcases hp2 with rfl | rfl | rfl | rfl | rfl
        · exact c0
        · exact c1
        · exact c2
        · exact c3
        · exact c4)
      simp +decide only [e1, c0, c1, c2, c3, c4, if_true, if_false, eq_self, Bool.true_eq_false, Bool.false_eq_true]
      exact hB
theorem S_of {x : XS} {m : MS} (h : Inv x m) (a0 a1 : Int32) : Same (fX4_of a0 a1 x) (fX5_of a0 a1 m) := by
  obtain ⟨k, d, hw, hd⟩ := h.1
  have hR := h.2.1
  have hk := hw.k8
  have hB := sf h fcB
  rw [fX4_of_eq, fX5_of_eq]
  simp +decide only [X_has hw, M_isThing hw hR, M_in, xRoom_eta, Option.bind_some, b2i_0, z32_0, z64_0, z32_1, z64_1, z32_2, z64_2, z32_3, z64_3, z32_4, z64_4, z32_5, z64_5, z32_6, z64_6, z32_7, z64_7, z32_60, z64_60, z32_100, z64_100, z32_999, z64_999, z32_9999, z64_9999, z32_999999, z64_999999, z32_m1, z64_m1, if_true, if_false, eq_self, Bool.true_eq_false, Bool.false_eq_true]
  cases cp : inB a0 0 ((k : Int) - 1)
  · simpa +decide only [if_true, if_false, eq_self, Bool.true_eq_false, Bool.false_eq_true] using hB
  · obtain ⟨t, ht, rfl⟩ := inB_k cp
    have ht8 : t < 8 := by omega
    simp +decide only [if_true, if_false, eq_self, Bool.true_eq_false, Bool.false_eq_true]
    by_cases c0 : a1 = 0
    · subst c0
      have e1 : inB 0 0 7 = true := by decide
      have e2 : ¬ (5 : Int32) < 0 := by decide
      simp +decide only [e1, e2, M_sort hR ht8, Option.bind_some, b2i_0, z32_0, z64_0, z32_1, z64_1, z32_2, z64_2, z32_3, z64_3, z32_4, z64_4, z32_5, z64_5, z32_6, z64_6, z32_7, z64_7, z32_60, z64_60, z32_100, z64_100, z32_999, z64_999, z32_9999, z64_9999, z32_999999, z64_999999, z32_m1, z64_m1, if_true, if_false, eq_self, Bool.true_eq_false, Bool.false_eq_true]
      rw [if_neg (ix ht8), cl (by omega)]
      exact same_of h
    by_cases c1 : a1 = 1
    · subst c1
      have e1 : inB 1 0 7 = true := by decide
      have e2 : ¬ (5 : Int32) < 1 := by decide
      simp +decide only [e1, e2, M_lbl hR ht8, Option.bind_some, b2i_0, z32_0, z64_0, z32_1, z64_1, z32_2, z64_2, z32_3, z64_3, z32_4, z64_4, z32_5, z64_5, z32_6, z64_6, z32_7, z64_7, z32_60, z64_60, z32_100, z64_100, z32_999, z64_999, z32_9999, z64_9999, z32_999999, z64_999999, z32_m1, z64_m1, if_true, if_false, eq_self, Bool.true_eq_false, Bool.false_eq_true]
      rw [if_neg (ix ht8), cl (by omega)]
      exact same_of h
    by_cases c2 : a1 = 2
    · subst c2
      have e1 : inB 2 0 7 = true := by decide
      have e2 : ¬ (5 : Int32) < 2 := by decide
      simp +decide only [e1, e2, M_left hR ht8, Option.bind_some, b2i_0, z32_0, z64_0, z32_1, z64_1, z32_2, z64_2, z32_3, z64_3, z32_4, z64_4, z32_5, z64_5, z32_6, z64_6, z32_7, z64_7, z32_60, z64_60, z32_100, z64_100, z32_999, z64_999, z32_9999, z64_9999, z32_999999, z64_999999, z32_m1, z64_m1, if_true, if_false, eq_self, Bool.true_eq_false, Bool.false_eq_true]
      rw [if_neg (ix ht8), cl (by omega)]
      exact same_of h
    by_cases c3 : a1 = 3
    · subst c3
      have e1 : inB 3 0 7 = true := by decide
      have e2 : ¬ (5 : Int32) < 3 := by decide
      simp +decide only [e1, e2, M_due hR ht8, Option.bind_some, b2i_0, z32_0, z64_0, z32_1, z64_1, z32_2, z64_2, z32_3, z64_3, z32_4, z64_4, z32_5, z64_5, z32_6, z64_6, z32_7, z64_7, z32_60, z64_60, z32_100, z64_100, z32_999, z64_999, z32_9999, z64_9999, z32_999999, z64_999999, z32_m1, z64_m1, if_true, if_false, eq_self, Bool.true_eq_false, Bool.false_eq_true]
      rw [if_neg (ix ht8), cl (by omega)]
      exact same_of h
    by_cases c4 : a1 = 4
    · subst c4
      have e1 : inB 4 0 7 = true := by decide
      have e2 : ¬ (5 : Int32) < 4 := by decide
      simp +decide only [e1, e2, M_worth hR ht8, Option.bind_some, b2i_0, z32_0, z64_0, z32_1, z64_1, z32_2, z64_2, z32_3, z64_3, z32_4, z64_4, z32_5, z64_5, z32_6, z64_6, z32_7, z64_7, z32_60, z64_60, z32_100, z64_100, z32_999, z64_999, z32_9999, z64_9999, z32_999999, z64_999999, z32_m1, z64_m1, if_true, if_false, eq_self, Bool.true_eq_false, Bool.false_eq_true]
      rw [if_neg (ix ht8), cl (by omega)]
      exact same_of h
    by_cases c5 : a1 = 5
    · subst c5
      have e1 : inB 5 0 7 = true := by decide
      have e2 : ¬ (5 : Int32) < 5 := by decide
      simp +decide only [e1, e2, M_wit hR ht8, Option.bind_some, b2i_0, z32_0, z64_0, z32_1, z64_1, z32_2, z64_2, z32_3, z64_3, z32_4, z64_4, z32_5, z64_5, z32_6, z64_6, z32_7, z64_7, z32_60, z64_60, z32_100, z64_100, z32_999, z64_999, z32_9999, z64_9999, z32_999999, z64_999999, z32_m1, z64_m1, if_true, if_false, eq_self, Bool.true_eq_false, Bool.false_eq_true]
      rw [if_neg (ix ht8), cl (by omega)]
      exact same_of h
    by_cases c6 : a1 = 6
    · subst c6
      have e1 : inB 6 0 7 = true := by decide
      have e2 : (5 : Int32) < 6 := by decide
      simp +decide only [e1, e2, X_mountOf ht8, M_mountsOf hR ht8, xRoom_eta, Option.bind_some, b2i_0, z32_0, z64_0, z32_1, z64_1, z32_2, z64_2, z32_3, z64_3, z32_4, z64_4, z32_5, z64_5, z32_6, z64_6, z32_7, z64_7, z32_60, z64_60, z32_100, z64_100, z32_999, z64_999, z32_9999, z64_9999, z32_999999, z64_999999, z32_m1, z64_m1, if_true, if_false, eq_self, Bool.true_eq_false, Bool.false_eq_true]
      exact same_of h
    by_cases c7 : a1 = 7
    · subst c7
      have e1 : inB 7 0 7 = true := by decide
      have e2 : (5 : Int32) < 7 := by decide
      simp +decide only [e1, e2, X_maySell ht8, M_maySell hR ht8, xRoom_eta, Option.bind_some, b2i_0, z32_0, z64_0, z32_1, z64_1, z32_2, z64_2, z32_3, z64_3, z32_4, z64_4, z32_5, z64_5, z32_6, z64_6, z32_7, z64_7, z32_60, z64_60, z32_100, z64_100, z32_999, z64_999, z32_9999, z64_9999, z32_999999, z64_999999, z32_m1, z64_m1, if_true, if_false, eq_self, Bool.true_eq_false, Bool.false_eq_true]
      cases sellS (xRoom x) t
      · simp +decide only [if_true, if_false, eq_self, Bool.true_eq_false, Bool.false_eq_true]; exact same_of h
      · simp +decide only [if_true, if_false, eq_self, Bool.true_eq_false, Bool.false_eq_true]; exact same_of h
    · have e1 : inB a1 0 7 = false := inB_ne (N := 7) (fun p hp => by
        have hp2 : p = 0 ∨ p = 1 ∨ p = 2 ∨ p = 3 ∨ p = 4 ∨ p = 5 ∨ p = 6 ∨ p = 7 := by omega
        rcases hp2 with rfl | rfl | rfl | rfl | rfl | rfl | rfl | rfl
        · exact c0
        · exact c1
        · exact c2
        · exact c3
        · exact c4
        · exact c5
        · exact c6
        · exact c7)
      simp +decide only [e1, c0, c1, c2, c3, c4, c5, c6, c7, if_true, if_false, eq_self, Bool.true_eq_false, Bool.false_eq_true]
      exact hB
theorem S_set {x : XS} {m : MS} (h : Inv x m) (a0 a1 a2 : Int32) : Same (fX4_set a0 a1 a2 x) (fX5_set a0 a1 a2 m) := by
  obtain ⟨k, d, hw, hd⟩ := h.1
  have hR := h.2.1
  have hk := hw.k8
  have hB := sf h fcB
  rw [fX4_set_eq, fX5_set_eq]
  simp +decide only [X_has hw, M_isThing hw hR, fX5_isPart_eq, M_isPerson, M_in, X_within, fX4_mostOfThing_eq, xRoom_eta, Option.bind_some, b2i_0, z32_0, z64_0, z32_1, z64_1, z32_2, z64_2, z32_3, z64_3, z32_4, z64_4, z32_5, z64_5, z32_6, z64_6, z32_7, z64_7, z32_60, z64_60, z32_100, z64_100, z32_999, z64_999, z32_9999, z64_9999, z32_999999, z64_999999, z32_m1, z64_m1, if_true, if_false, eq_self, Bool.true_eq_false, Bool.false_eq_true]
  cases cp : inB a0 0 ((k : Int) - 1)
  · simpa +decide only [if_true, if_false, eq_self, Bool.true_eq_false, Bool.false_eq_true] using hB
  · obtain ⟨t, ht, rfl⟩ := inB_k cp
    have ht8 : t < 8 := by omega
    simp +decide only [if_true, if_false, eq_self, Bool.true_eq_false, Bool.false_eq_true]
    by_cases c1 : a1 = 1
    · subst c1
      simp +decide only [if_pos (b2i_ok _), X_within, Option.bind_some, b2i_0, z32_0, z64_0, z32_1, z64_1, z32_2, z64_2, z32_3, z64_3, z32_4, z64_4, z32_5, z64_5, z32_6, z64_6, z32_7, z64_7, z32_60, z64_60, z32_100, z64_100, z32_999, z64_999, z32_9999, z64_9999, z32_999999, z64_999999, z32_m1, z64_m1, if_true, if_false, eq_self, Bool.true_eq_false, Bool.false_eq_true]
      rcases bool_cases (inB a2 0 5) with cv | cv
      · simp +decide only [cv, Option.bind_some, b2i_0, z32_0, z64_0, z32_1, z64_1, z32_2, z64_2, z32_3, z64_3, z32_4, z64_4, z32_5, z64_5, z32_6, z64_6, z32_7, z64_7, z32_60, z64_60, z32_100, z64_100, z32_999, z64_999, z32_9999, z64_9999, z32_999999, z64_999999, z32_m1, z64_m1, if_true, if_false, eq_self, Bool.true_eq_false, Bool.false_eq_true]; exact hB
      · simp +decide only [cv, Option.bind_some, b2i_0, z32_0, z64_0, z32_1, z64_1, z32_2, z64_2, z32_3, z64_3, z32_4, z64_4, z32_5, z64_5, z32_6, z64_6, z32_7, z64_7, z32_60, z64_60, z32_100, z64_100, z32_999, z64_999, z32_9999, z64_9999, z32_999999, z64_999999, z32_m1, z64_m1, if_true, if_false, eq_self, Bool.true_eq_false, Bool.false_eq_true]
        rw [if_neg (ix ht8), if_neg (ix ht8), cl (by omega), M_spot1, Option.bind_some, M_becomes (by omega), Option.bind_some, (hR.2.2.2.2 t ht8).2.1]
        exact same_of (h.room ⟨k, d, hw.lbl (inB_In (by decide) cv), hd⟩ (hR.lbl ht8 a2))
    by_cases c3 : a1 = 3
    · subst c3
      simp +decide only [if_pos (b2i_ok _), X_within, Option.bind_some, b2i_0, z32_0, z64_0, z32_1, z64_1, z32_2, z64_2, z32_3, z64_3, z32_4, z64_4, z32_5, z64_5, z32_6, z64_6, z32_7, z64_7, z32_60, z64_60, z32_100, z64_100, z32_999, z64_999, z32_9999, z64_9999, z32_999999, z64_999999, z32_m1, z64_m1, if_true, if_false, eq_self, Bool.true_eq_false, Bool.false_eq_true]
      rcases bool_cases (inB a2 0 999999) with cv | cv
      · simp +decide only [cv, Option.bind_some, b2i_0, z32_0, z64_0, z32_1, z64_1, z32_2, z64_2, z32_3, z64_3, z32_4, z64_4, z32_5, z64_5, z32_6, z64_6, z32_7, z64_7, z32_60, z64_60, z32_100, z64_100, z32_999, z64_999, z32_9999, z64_9999, z32_999999, z64_999999, z32_m1, z64_m1, if_true, if_false, eq_self, Bool.true_eq_false, Bool.false_eq_true]; exact hB
      · simp +decide only [cv, Option.bind_some, b2i_0, z32_0, z64_0, z32_1, z64_1, z32_2, z64_2, z32_3, z64_3, z32_4, z64_4, z32_5, z64_5, z32_6, z64_6, z32_7, z64_7, z32_60, z64_60, z32_100, z64_100, z32_999, z64_999, z32_9999, z64_9999, z32_999999, z64_999999, z32_m1, z64_m1, if_true, if_false, eq_self, Bool.true_eq_false, Bool.false_eq_true]
        rw [if_neg (ix ht8), if_neg (ix ht8), cl (by omega), M_spot3, Option.bind_some, M_becomes (by omega), Option.bind_some, (hR.2.2.2.2 t ht8).2.2.2.1]
        exact same_of (h.room ⟨k, d, hw.due (inB_In (by decide) cv), hd⟩ (hR.due ht8 a2))
    by_cases c4 : a1 = 4
    · subst c4
      simp +decide only [if_pos (b2i_ok _), X_within, Option.bind_some, b2i_0, z32_0, z64_0, z32_1, z64_1, z32_2, z64_2, z32_3, z64_3, z32_4, z64_4, z32_5, z64_5, z32_6, z64_6, z32_7, z64_7, z32_60, z64_60, z32_100, z64_100, z32_999, z64_999, z32_9999, z64_9999, z32_999999, z64_999999, z32_m1, z64_m1, if_true, if_false, eq_self, Bool.true_eq_false, Bool.false_eq_true]
      rcases bool_cases (inB a2 0 9999) with cv | cv
      · simp +decide only [cv, Option.bind_some, b2i_0, z32_0, z64_0, z32_1, z64_1, z32_2, z64_2, z32_3, z64_3, z32_4, z64_4, z32_5, z64_5, z32_6, z64_6, z32_7, z64_7, z32_60, z64_60, z32_100, z64_100, z32_999, z64_999, z32_9999, z64_9999, z32_999999, z64_999999, z32_m1, z64_m1, if_true, if_false, eq_self, Bool.true_eq_false, Bool.false_eq_true]; exact hB
      · simp +decide only [cv, Option.bind_some, b2i_0, z32_0, z64_0, z32_1, z64_1, z32_2, z64_2, z32_3, z64_3, z32_4, z64_4, z32_5, z64_5, z32_6, z64_6, z32_7, z64_7, z32_60, z64_60, z32_100, z64_100, z32_999, z64_999, z32_9999, z64_9999, z32_999999, z64_999999, z32_m1, z64_m1, if_true, if_false, eq_self, Bool.true_eq_false, Bool.false_eq_true]
        rw [if_neg (ix ht8), if_neg (ix ht8), cl (by omega), M_spot4, Option.bind_some, M_becomes (by omega), Option.bind_some, (hR.2.2.2.2 t ht8).2.2.2.2.1]
        exact same_of (h.room ⟨k, d, hw.wth (inB_In (by decide) cv), hd⟩ (hR.wth ht8 a2))
    · by_cases c2 : a1 = 2
      · subst c2
        simp +decide only [X_within, inB_0m, Option.bind_some, b2i_0, z32_0, z64_0, z32_1, z64_1, z32_2, z64_2, z32_3, z64_3, z32_4, z64_4, z32_5, z64_5, z32_6, z64_6, z32_7, z64_7, z32_60, z64_60, z32_100, z64_100, z32_999, z64_999, z32_9999, z64_9999, z32_999999, z64_999999, z32_m1, z64_m1, if_true, if_false, eq_self, Bool.true_eq_false, Bool.false_eq_true]
        exact hB
      · simp +decide only [c1, c2, c3, c4, X_within, inB_0m, Option.bind_some, b2i_0, z32_0, z64_0, z32_1, z64_1, z32_2, z64_2, z32_3, z64_3, z32_4, z64_4, z32_5, z64_5, z32_6, z64_6, z32_7, z64_7, z32_60, z64_60, z32_100, z64_100, z32_999, z64_999, z32_9999, z64_9999, z32_999999, z64_999999, z32_m1, z64_m1, if_true, if_false, eq_self, Bool.true_eq_false, Bool.false_eq_true]
        exact hB
theorem S_turn {x : XS} {m : MS} (h : Inv x m) (a0 a1 : Int32) : Same (fX4_turn a0 a1 x) (fX5_turn a0 a1 m) := by
  obtain ⟨k, d, hw, hd⟩ := h.1
  have hR := h.2.1
  have hk := hw.k8
  have hB := sf h fcB
  rw [fX4_turn_eq, fX5_turn_eq]
  simp +decide only [X_has hw, M_isThing hw hR, X_isKind, M_isKind, xRoom_eta, Option.bind_some, b2i_0, z32_0, z64_0, z32_1, z64_1, z32_2, z64_2, z32_3, z64_3, z32_4, z64_4, z32_5, z64_5, z32_6, z64_6, z32_7, z64_7, z32_60, z64_60, z32_100, z64_100, z32_999, z64_999, z32_9999, z64_9999, z32_999999, z64_999999, z32_m1, z64_m1, if_true, if_false, eq_self, Bool.true_eq_false, Bool.false_eq_true]
  cases cp : inB a0 0 ((k : Int) - 1)
  · simpa +decide only [if_true, if_false, eq_self, Bool.true_eq_false, Bool.false_eq_true] using hB
  · obtain ⟨t, ht, rfl⟩ := inB_k cp
    have ht8 : t < 8 := by omega
    simp +decide only [if_true, if_false, eq_self, Bool.true_eq_false, Bool.false_eq_true]
    cases cv : inB a1 0 5
    · simp +decide only [if_true, if_false, eq_self, Bool.true_eq_false, Bool.false_eq_true]; exact hB
    · simp +decide only [if_true, if_false, eq_self, Bool.true_eq_false, Bool.false_eq_true]
      rw [if_neg (ix ht8), if_neg (ix ht8), cl (by omega), M_spot0, Option.bind_some, M_becomes (by omega), Option.bind_some, (hR.2.2.2.2 t ht8).1]
      exact same_of (h.room ⟨k, d, hw.knd (inB_In (by decide) cv), hd⟩ (hR.knd ht8 a1))
def underF : Nat → Int32 → Int32 → Int32 → Option Int32
  | 0, _, _, _ => none
  | n + 1, b, x, c => if (6 : Int32) ≤ c then (some 0) else (if x < 0 then (some 0) else (if (6 : Int32) ≤ x then (some 0) else (if x = b then (some 1) else (if x < 0 ∨ 6 ≤ (x).toNatClampNeg then none else (underF n b (kaF (x).toNatClampNeg) (c + 1))))))
theorem under_run : ∀ (n : Nat) (b x c r : Int32), underF n b x c = some r → ∀ N, n ≤ N → lX4_isUnder_4 N b x c = some r
  | 0, _, _, _, _, h, _, _ => by cases h
  | n + 1, b, x, c, r, h, N, hN => by
    obtain ⟨N, rfl⟩ : ∃ q, N = q + 1 := ⟨N - 1, by omega⟩
    rw [lX4_isUnder_4_eq]
    unfold underF at h
    split at h
    · rename_i e; rw [if_pos e]; exact h
    · rename_i e; rw [if_neg e]
      split at h
      · rename_i e; rw [if_pos e]; exact h
      · rename_i e; rw [if_neg e]
        split at h
        · rename_i e; rw [if_pos e]; exact h
        · rename_i e; rw [if_neg e]
          split at h
          · rename_i e; rw [if_pos e]; exact h
          · rename_i e; rw [if_neg e]
            split at h
            · cases h
            · rename_i e; rw [if_neg e]
              exact under_run n _ _ _ r h N (by omega)
def underM (a0 a1 : Int32) : Option Int32 := (if a1 = 0 then (some 1) else (if a0 = a1 then (some 1) else (if a0 ≤ 3 then (some 0) else (if (a0 - 3) = a1 then (some 1) else (some 0)))))
theorem under_all : ∀ (a b : Fin 6), underF 8 (nI b.val) (nI a.val) 0 = underM (nI a.val) (nI b.val) ∧ (underM (nI a.val) (nI b.val)).isSome = true := by decide +kernel
theorem under_same (a b : Fin 6) : (fX4_isUnder (nI a.val) (nI b.val)) = fX5_isUnder (nI a.val) (nI b.val) := by
  have e : fX5_isUnder (nI a.val) (nI b.val) = underM (nI a.val) (nI b.val) := fX5_isUnder_eq _ _
  obtain ⟨h1, h2⟩ := under_all a b
  obtain ⟨r, hr⟩ := Option.isSome_iff_exists.mp h2
  rw [e, hr, fX4_isUnder_eq]
  exact under_run 8 _ _ _ r (h1.trans hr) FU (by rw [FU_eq]; omega)
theorem under_ok : ∀ (a b : Fin 6), ∃ q, fX5_isUnder (nI a.val) (nI b.val) = some q ∧ (q = 0 ∨ q = 1) := by
  rintro ⟨a, ha⟩ ⟨b, hb⟩
  rw [fX5_isUnder_eq]
  split
  · exact ⟨1, rfl, Or.inr rfl⟩
  split
  · exact ⟨1, rfl, Or.inr rfl⟩
  split
  · exact ⟨0, rfl, Or.inl rfl⟩
  split
  · exact ⟨1, rfl, Or.inr rfl⟩
  · exact ⟨0, rfl, Or.inl rfl⟩
theorem S_as {x : XS} {m : MS} (h : Inv x m) (a0 a1 : Int32) : Same (fX4_as a0 a1 x) (fX5_as a0 a1 m) := by
  obtain ⟨k, d, hw, hd⟩ := h.1
  have hR := h.2.1
  have hk := hw.k8
  have hB := sf h fcB
  have hK := sf h fcK
  rw [fX4_as_eq, fX5_as_eq]
  simp +decide only [X_has hw, M_isThing hw hR, X_isKind, M_isKind, xRoom_eta, Option.bind_some, b2i_0, z32_0, z64_0, z32_1, z64_1, z32_2, z64_2, z32_3, z64_3, z32_4, z64_4, z32_5, z64_5, z32_6, z64_6, z32_7, z64_7, z32_60, z64_60, z32_100, z64_100, z32_999, z64_999, z32_9999, z64_9999, z32_999999, z64_999999, z32_m1, z64_m1, if_true, if_false, eq_self, Bool.true_eq_false, Bool.false_eq_true]
  cases cp : inB a0 0 ((k : Int) - 1)
  · simpa +decide only [if_true, if_false, eq_self, Bool.true_eq_false, Bool.false_eq_true] using hB
  · obtain ⟨t, ht, rfl⟩ := inB_k cp
    have ht8 : t < 8 := by omega
    simp +decide only [if_true, if_false, eq_self, Bool.true_eq_false, Bool.false_eq_true]
    cases cv : inB a1 0 5
    · simp +decide only [if_true, if_false, eq_self, Bool.true_eq_false, Bool.false_eq_true]; exact hB
    · obtain ⟨b, -, hb, rfl⟩ := inB_nat (L := 0) (N := 5) cv
      obtain ⟨a, ha, ea⟩ := (hw.t ht).1
      simp +decide only [M_sort hR ht8, M_due hR ht8, Option.bind_some, b2i_0, z32_0, z64_0, z32_1, z64_1, z32_2, z64_2, z32_3, z64_3, z32_4, z64_4, z32_5, z64_5, z32_6, z64_6, z32_7, z64_7, z32_60, z64_60, z32_100, z64_100, z32_999, z64_999, z32_9999, z64_9999, z32_999999, z64_999999, z32_m1, z64_m1, if_true, if_false, eq_self, Bool.true_eq_false, Bool.false_eq_true]
      rw [if_neg (ix ht8), if_neg (ix ht8), cl (by omega), ea, under_same ⟨a, by omega⟩ ⟨b, by omega⟩]
      obtain ⟨q, e, -⟩ := under_ok ⟨a, by omega⟩ ⟨b, by omega⟩
      rw [e, Option.bind_some, Option.bind_some]
      by_cases c : q = 0
      · rw [if_pos c, if_pos c]; exact hK
      · rw [if_neg c, if_neg c]; exact same_of h
theorem S_bid {x : XS} {m : MS} (h : Inv x m) (a0 a1 : Int32) : Same (fX4_bid a0 a1 x) (fX5_bid a0 a1 m) := by
  obtain ⟨k, d, hw, hd⟩ := h.1
  have hR := h.2.1
  have hk := hw.k8
  have hB := sf h fcB
  rw [fX4_bid_eq, fX5_bid_eq]
  simp +decide only [X_has hw, M_isThing hw hR, X_isPerson, M_isPerson, xRoom_eta, Option.bind_some, b2i_0, z32_0, z64_0, z32_1, z64_1, z32_2, z64_2, z32_3, z64_3, z32_4, z64_4, z32_5, z64_5, z32_6, z64_6, z32_7, z64_7, z32_60, z64_60, z32_100, z64_100, z32_999, z64_999, z32_9999, z64_9999, z32_999999, z64_999999, z32_m1, z64_m1, if_true, if_false, eq_self, Bool.true_eq_false, Bool.false_eq_true]
  cases cp : inB a0 0 ((k : Int) - 1)
  · simpa +decide only [if_true, if_false, eq_self, Bool.true_eq_false, Bool.false_eq_true] using hB
  · obtain ⟨t, ht, rfl⟩ := inB_k cp
    have ht8 : t < 8 := by omega
    simp +decide only [if_true, if_false, eq_self, Bool.true_eq_false, Bool.false_eq_true]
    cases cv : inB a1 0 5
    · simp +decide only [if_true, if_false, eq_self, Bool.true_eq_false, Bool.false_eq_true]; exact hB
    · obtain ⟨p, -, hp, rfl⟩ := inB_nat (L := 0) (N := 5) cv
      have hp6 : p < 6 := by omega
      simp +decide only [X_offerOf ht8 hp6, M_bidOf hR ht8 hp6 (hw.p hp6).1, xRoom_eta, Option.bind_some, b2i_0, z32_0, z64_0, z32_1, z64_1, z32_2, z64_2, z32_3, z64_3, z32_4, z64_4, z32_5, z64_5, z32_6, z64_6, z32_7, z64_7, z32_60, z64_60, z32_100, z64_100, z32_999, z64_999, z32_9999, z64_9999, z32_999999, z64_999999, z32_m1, z64_m1, if_true, if_false, eq_self, Bool.true_eq_false, Bool.false_eq_true]
      exact same_of h
theorem S_call {x : XS} {m : MS} (h : Inv x m) (a0 : Int32) : Same (fX4_call a0 x) (fX5_call a0 m) := by
  obtain ⟨k, d, hw, hd⟩ := h.1
  have hR := h.2.1
  have hk := hw.k8
  have hB := sf h fcB
  have hS := sf h fcS
  rw [fX4_call_eq, fX5_call_eq]
  simp +decide only [X_has hw, M_isThing hw hR, xRoom_eta, Option.bind_some, b2i_0, z32_0, z64_0, z32_1, z64_1, z32_2, z64_2, z32_3, z64_3, z32_4, z64_4, z32_5, z64_5, z32_6, z64_6, z32_7, z64_7, z32_60, z64_60, z32_100, z64_100, z32_999, z64_999, z32_9999, z64_9999, z32_999999, z64_999999, z32_m1, z64_m1, if_true, if_false, eq_self, Bool.true_eq_false, Bool.false_eq_true]
  cases cp : inB a0 0 ((k : Int) - 1)
  · simpa +decide only [if_true, if_false, eq_self, Bool.true_eq_false, Bool.false_eq_true] using hB
  · obtain ⟨t, ht, rfl⟩ := inB_k cp
    have ht8 : t < 8 := by omega
    have hl := hw.lb ht
    obtain ⟨s', e1, e2⟩ := M_calls hR ht8 hl
    simp +decide only [X_canBeCalled ht8 hl, M_mayCall hR ht8 hl, xRoom_eta, Option.bind_some, b2i_0, z32_0, z64_0, z32_1, z64_1, z32_2, z64_2, z32_3, z64_3, z32_4, z64_4, z32_5, z64_5, z32_6, z64_6, z32_7, z64_7, z32_60, z64_60, z32_100, z64_100, z32_999, z64_999, z32_9999, z64_9999, z32_999999, z64_999999, z32_m1, z64_m1, if_true, if_false, eq_self, Bool.true_eq_false, Bool.false_eq_true]
    cases cv : canS (xRoom x) t
    · simp +decide only [if_true, if_false, eq_self, Bool.true_eq_false, Bool.false_eq_true]; exact hS
    · simp +decide only [e1, Option.bind_some, b2i_0, z32_0, z64_0, z32_1, z64_1, z32_2, z64_2, z32_3, z64_3, z32_4, z64_4, z32_5, z64_5, z32_6, z64_6, z32_7, z64_7, z32_60, z64_60, z32_100, z64_100, z32_999, z64_999, z32_9999, z64_9999, z32_999999, z64_999999, z32_m1, z64_m1, if_true, if_false, eq_self, Bool.true_eq_false, Bool.false_eq_true]
      rw [if_neg (ix ht8), if_neg (ix ht8), cl (by omega)]
      have e3 := X_handOver (u := xRoom x) (x := sDue (xRoom x) t) ht8 hl.1
      rw [← hl.2] at e3
      rw [e3]
      exact same_of (h.room ⟨k, d, call_wf hw ht cv, hd⟩ e2)
theorem Rel.back {u : St} {s : F32} (h : Rel u s) {t : Nat} (ht : t < 8) (w : Int32) : Rel (sWit' (sDue' (sLft' (sLbl' u (upd (sLbl u) t w)) (upd (sLft u) t (sDay u))) (upd (sDue u) t 0)) (upd (sWit u) t (-1))) (upd (upd (upd (upd s (22 + 6 * t) w) (23 + 6 * t) (sDay u)) (24 + 6 * t) 0) (26 + 6 * t) (-1)) :=
  (((h.lbl ht w).lft ht (sDay u)).due ht 0).wit ht (-1)
theorem S_leave {x : XS} {m : MS} (h : Inv x m) (a0 : Int32) : Same (fX4_leave a0 x) (fX5_leave a0 m) := by
  obtain ⟨k, d, hw, hd⟩ := h.1
  have hR := h.2.1
  have hk := hw.k8
  have hB := sf h fcB
  have hS := sf h fcS
  rw [fX4_leave_eq, fX5_leave_eq]
  simp +decide only [X_has hw, M_isThing hw hR, xRoom_eta, Option.bind_some, b2i_0, z32_0, z64_0, z32_1, z64_1, z32_2, z64_2, z32_3, z64_3, z32_4, z64_4, z32_5, z64_5, z32_6, z64_6, z32_7, z64_7, z32_60, z64_60, z32_100, z64_100, z32_999, z64_999, z32_9999, z64_9999, z32_999999, z64_999999, z32_m1, z64_m1, if_true, if_false, eq_self, Bool.true_eq_false, Bool.false_eq_true]
  cases cp : inB a0 0 ((k : Int) - 1)
  · simpa +decide only [if_true, if_false, eq_self, Bool.true_eq_false, Bool.false_eq_true] using hB
  · obtain ⟨t, ht, rfl⟩ := inB_k cp
    have ht8 : t < 8 := by omega
    simp +decide only [X_isThere ht8, M_isThere hR ht8, xRoom_eta, Option.bind_some, b2i_0, z32_0, z64_0, z32_1, z64_1, z32_2, z64_2, z32_3, z64_3, z32_4, z64_4, z32_5, z64_5, z32_6, z64_6, z32_7, z64_7, z32_60, z64_60, z32_100, z64_100, z32_999, z64_999, z32_9999, z64_9999, z32_999999, z64_999999, z32_m1, z64_m1, if_true, if_false, eq_self, Bool.true_eq_false, Bool.false_eq_true]
    cases cv : thereS (xRoom x) t
    · simp +decide only [M_wit hR ht8, M_spot1, M_spot2, M_spot3, M_spot5, fX1_takeBack_eq, Option.bind_some, b2i_0, z32_0, z64_0, z32_1, z64_1, z32_2, z64_2, z32_3, z64_3, z32_4, z64_4, z32_5, z64_5, z32_6, z64_6, z32_7, z64_7, z32_60, z64_60, z32_100, z64_100, z32_999, z64_999, z32_9999, z64_9999, z32_999999, z64_999999, z32_m1, z64_m1, if_true, if_false, eq_self, Bool.true_eq_false, Bool.false_eq_true]
      rw [if_neg (ix ht8), if_neg (ix ht8), if_neg (ix ht8), if_neg (ix ht8), if_neg (ix ht8), if_neg (ix (by omega)), if_neg (ix (by omega)), if_neg (ix (by omega)), if_neg (ix (by omega))]
      simp +decide only [cl (show t < 2 ^ 31 by omega), cl (show 22 + 6 * t < 2 ^ 31 by omega), cl (show 23 + 6 * t < 2 ^ 31 by omega), cl (show 24 + 6 * t < 2 ^ 31 by omega), cl (show 26 + 6 * t < 2 ^ 31 by omega), Option.bind_some]
      have e1 : upd (mS m) (22 + 6 * t) (sWit (xRoom x) t) 1 = sDay (xRoom x) := by
        rw [upd_at, if_neg (by omega)]; exact hR.2.1
      rw [e1]
      have hwt : In (sWit (xRoom x) t) 5 := by
        rcases (hw.t ht).2.2.2.2.2 with z | z
        · exfalso
          unfold thereS at cv
          rw [z] at cv
          exact absurd cv (by decide)
        · exact z
      refine same_of (h.room ⟨k, d, ?_, hd⟩ (hR.back ht8 _))
      have q1 := hw.lbl (t := t) hwt
      have q2 := q1.lft (t := t) (x := sDay (xRoom x)) (by rw [hw.2.2.2.1]; exact in_nI (Nat.le_refl d))
      have q3 := q2.due (t := t) (x := 0) ⟨0, by omega, rfl⟩
      exact q3.wit (t := t) (x := -1) (Or.inl rfl)
    · simp +decide only [if_true, if_false, eq_self, Bool.true_eq_false, Bool.false_eq_true]; exact hS
theorem take_wf {k d : Nat} {u : St} (h : WF k d u) (hk : k < 8) {a b c e : Int32} (ha : In a 5) (hb : In b 5) (hc : In c 999999) (he : In e 9999) : WF (k + 1) d ((sDay u), (sTkn u), (sMns u), (sErn u), (sSpd u), ((sNum u) + 1), (upd (sKnd u) k a), (upd (sLbl u) k b), (upd (sLft u) k (sDay u)), (upd (sDue u) k c), (upd (sWth u) k e), (upd (sWit u) k (-1))) := by
  obtain ⟨h1, h2, h3, h4, h5, h6, h7⟩ := h
  refine ⟨by omega, h2, by show sNum u + 1 = _; rw [h3, nI_1], h4, h5, h6, fun t ht => ?_⟩
  by_cases q : t = k
  · subst q
    refine ⟨?_, ?_, ?_, ?_, ?_, ?_⟩
    · show In (upd (sKnd u) t a t) _; rw [upd_at, if_pos rfl]; exact ha
    · show In (upd (sLbl u) t b t) _; rw [upd_at, if_pos rfl]; exact hb
    · show In (upd (sLft u) t (sDay u) t) _; rw [upd_at, if_pos rfl, h4]; exact in_nI (Nat.le_refl d)
    · show In (upd (sDue u) t c t) _; rw [upd_at, if_pos rfl]; exact hc
    · show In (upd (sWth u) t e t) _; rw [upd_at, if_pos rfl]; exact he
    · show upd (sWit u) t (-1) t = -1 ∨ _; rw [upd_at, if_pos rfl]; exact Or.inl rfl
  · obtain ⟨g1, g2, g3, g4, g5, g6⟩ := h7 t (by omega)
    refine ⟨?_, ?_, ?_, ?_, ?_, ?_⟩
    · show In (upd (sKnd u) k a t) _; rw [upd_at, if_neg q]; exact g1
    · show In (upd (sLbl u) k b t) _; rw [upd_at, if_neg q]; exact g2
    · show In (upd (sLft u) k (sDay u) t) _; rw [upd_at, if_neg q]; exact g3
    · show In (upd (sDue u) k c t) _; rw [upd_at, if_neg q]; exact g4
    · show In (upd (sWth u) k e t) _; rw [upd_at, if_neg q]; exact g5
    · show upd (sWit u) k (-1) t = -1 ∨ In (upd (sWit u) k (-1) t) _; rw [upd_at, if_neg q]; exact g6
theorem Rel.num {u : St} {s : F32} (h : Rel u s) (x : Int32) : Rel (sNum' u x) (upd s 0 x) := by
  obtain ⟨h0, h1, h2, h3, h4⟩ := h
  refine ⟨?_, ?_, ?_, fun q hq => ⟨?_, ?_, ?_⟩, fun t' ht' => ⟨?_, ?_, ?_, ?_, ?_, ?_⟩⟩
  · rw [upd_at, if_pos rfl]; rfl
  · rw [upd_at, if_neg (by omega)]; exact h1
  · rw [upd_at, if_neg (by omega)]; exact h2
  · rw [upd_at, if_neg (by omega)]; exact (h3 q hq).1
  · rw [upd_at, if_neg (by omega)]; exact (h3 q hq).2.1
  · rw [upd_at, if_neg (by omega)]; exact (h3 q hq).2.2
  · rw [upd_at, if_neg (by omega)]; exact (h4 t' ht').1
  · rw [upd_at, if_neg (by omega)]; exact (h4 t' ht').2.1
  · rw [upd_at, if_neg (by omega)]; exact (h4 t' ht').2.2.1
  · rw [upd_at, if_neg (by omega)]; exact (h4 t' ht').2.2.2.1
  · rw [upd_at, if_neg (by omega)]; exact (h4 t' ht').2.2.2.2.1
  · rw [upd_at, if_neg (by omega)]; exact (h4 t' ht').2.2.2.2.2
theorem Rel.take {u : St} {s : F32} (h : Rel u s) {k : Nat} (hk : k < 8) (a b c e y : Int32) : Rel ((sDay u), (sTkn u), (sMns u), (sErn u), (sSpd u), y, (upd (sKnd u) k a), (upd (sLbl u) k b), (upd (sLft u) k (sDay u)), (upd (sDue u) k c), (upd (sWth u) k e), (upd (sWit u) k (-1))) (upd (upd (upd (upd (upd (upd (upd s (21 + 6 * k) a) (22 + 6 * k) b) (23 + 6 * k) (sDay u)) (24 + 6 * k) c) (25 + 6 * k) e) (26 + 6 * k) (-1)) 0 y) :=
  ((((((h.knd hk a).lbl hk b).lft hk (sDay u)).due hk c).wth hk e).wit hk (-1)).num y
theorem M_adds {k d : Nat} {u : St} {m : MS} (h : WF k d u) (hk : k < 8) (hR : Rel u (mS m)) (a b : Int32) : fX5_adds a b m = some (nI k, mS' m (upd (upd (upd (upd (upd (upd (upd (mS m) (21 + 6 * k) a) (22 + 6 * k) b) (23 + 6 * k) (sDay u)) (24 + 6 * k) 0) (25 + 6 * k) 100) (26 + 6 * k) (-1)) 0 (nI (k + 1)))) := by
  have e0 : mS m 0 = nI k := by rw [hR.1, h.2.2.1]
  rw [fX5_adds_eq]
  simp +decide only [e0, M_spot0, M_spot1, M_spot2, M_spot3, M_spot4, M_spot5, Option.bind_some]
  rw [if_neg (ix (by omega)), if_neg (ix (by omega)), if_neg (ix (by omega)), if_neg (ix (by omega)), if_neg (ix (by omega)), if_neg (ix (by omega))]
  simp +decide only [cl (show 21 + 6 * k < 2 ^ 31 by omega), cl (show 22 + 6 * k < 2 ^ 31 by omega), cl (show 23 + 6 * k < 2 ^ 31 by omega), cl (show 24 + 6 * k < 2 ^ 31 by omega), cl (show 25 + 6 * k < 2 ^ 31 by omega), cl (show 26 + 6 * k < 2 ^ 31 by omega)]
  have e1 : (upd (upd (mS m) (21 + 6 * k) a) (22 + 6 * k) b) 1 = sDay u := by
    rw [upd_at, if_neg (by omega), upd_at, if_neg (by omega)]; exact hR.2.1
  rw [e1]
  have e2 : (upd (upd (upd (upd (upd (upd (mS m) (21 + 6 * k) a) (22 + 6 * k) b) (23 + 6 * k) (sDay u)) (24 + 6 * k) 0) (25 + 6 * k) 100) (26 + 6 * k) (-1)) 0 = nI k := by
    rw [upd_at, if_neg (by omega), upd_at, if_neg (by omega), upd_at, if_neg (by omega), upd_at, if_neg (by omega), upd_at, if_neg (by omega), upd_at, if_neg (by omega)]; exact e0
  rw [e2, nI_1]
theorem S_thing {x : XS} {m : MS} (h : Inv x m) (a0 a1 : Int32) : Same (fX4_thing a0 a1 x) (fX5_thing a0 a1 m) := by
  obtain ⟨k, d, hw, hd⟩ := h.1
  have hR := h.2.1
  have hk := hw.k8
  have hB := sf h fcB
  have hF := sf h fcF
  rw [fX4_thing_eq, fX5_thing_eq]
  simp +decide only [X_isKind, M_isKind, X_isPerson, M_isPerson, fX1_isFull_eq, Option.bind_some, b2i_0, z32_0, z64_0, z32_1, z64_1, z32_2, z64_2, z32_3, z64_3, z32_4, z64_4, z32_5, z64_5, z32_6, z64_6, z32_7, z64_7, z32_60, z64_60, z32_100, z64_100, z32_999, z64_999, z32_9999, z64_9999, z32_999999, z64_999999, z32_m1, z64_m1, if_true, if_false, eq_self, Bool.true_eq_false, Bool.false_eq_true]
  cases cp : inB a0 0 5
  · simp +decide only [Option.bind_some, b2i_0, z32_0, z64_0, z32_1, z64_1, z32_2, z64_2, z32_3, z64_3, z32_4, z64_4, z32_5, z64_5, z32_6, z64_6, z32_7, z64_7, z32_60, z64_60, z32_100, z64_100, z32_999, z64_999, z32_9999, z64_9999, z32_999999, z64_999999, z32_m1, z64_m1, if_true, if_false, eq_self, Bool.true_eq_false, Bool.false_eq_true]; exact hB
  · cases cv : inB a1 0 5
    · simp +decide only [Option.bind_some, b2i_0, z32_0, z64_0, z32_1, z64_1, z32_2, z64_2, z32_3, z64_3, z32_4, z64_4, z32_5, z64_5, z32_6, z64_6, z32_7, z64_7, z32_60, z64_60, z32_100, z64_100, z32_999, z64_999, z32_9999, z64_9999, z32_999999, z64_999999, z32_m1, z64_m1, if_true, if_false, eq_self, Bool.true_eq_false, Bool.false_eq_true]; exact hB
    · simp +decide only [Option.bind_some, b2i_0, z32_0, z64_0, z32_1, z64_1, z32_2, z64_2, z32_3, z64_3, z32_4, z64_4, z32_5, z64_5, z32_6, z64_6, z32_7, z64_7, z32_60, z64_60, z32_100, z64_100, z32_999, z64_999, z32_9999, z64_9999, z32_999999, z64_999999, z32_m1, z64_m1, if_true, if_false, eq_self, Bool.true_eq_false, Bool.false_eq_true]
      have e0 : mS m 0 = nI k := by rw [hR.1, hw.2.2.1]
      rw [e0, hw.2.2.1]
      by_cases c : k < 8
      · rw [if_pos (show nI k < (8 : Int32) from nI_lt c (by decide)), if_neg (fun z => by have := (nI_eq (show k < 2 ^ 31 by omega) (show 8 < 2 ^ 31 by decide)).mp z; omega), M_adds hw c hR]
        simp +decide only [fX1_take_eq, hw.2.2.1, Option.bind_some, b2i_0, z32_0, z64_0, z32_1, z64_1, z32_2, z64_2, z32_3, z64_3, z32_4, z64_4, z32_5, z64_5, z32_6, z64_6, z32_7, z64_7, z32_60, z64_60, z32_100, z64_100, z32_999, z64_999, z32_9999, z64_9999, z32_999999, z64_999999, z32_m1, z64_m1, if_true, if_false, eq_self, Bool.true_eq_false, Bool.false_eq_true]
        rw [if_neg (ix c), if_neg (ix c), if_neg (ix c), if_neg (ix c), if_neg (ix c), if_neg (ix c)]
        simp +decide only [cl (show k < 2 ^ 31 by omega), Option.bind_some]
        have q := take_wf hw c (inB_In (N := 5) (by decide) cp) (inB_In (N := 5) (by decide) cv) (c := 0) ⟨0, by omega, rfl⟩ (e := 100) ⟨100, by omega, rfl⟩
        rw [hw.2.2.1] at q
        have r := hR.take c a0 a1 0 100 (nI (k + 1))
        rw [nI_1] at q ⊢
        exact same_of (h.room ⟨k + 1, d, q, hd⟩ r)
      · obtain rfl : k = 8 := by omega
        rw [if_neg (show ¬ nI 8 < (8 : Int32) from nI_nlt (Nat.le_refl 8) (by decide)), if_pos (show nI 8 = (8 : Int32) from rfl)]
        simp +decide only [Option.bind_some, b2i_0, z32_0, z64_0, z32_1, z64_1, z32_2, z64_2, z32_3, z64_3, z32_4, z64_4, z32_5, z64_5, z32_6, z64_6, z32_7, z64_7, z32_60, z64_60, z32_100, z64_100, z32_999, z64_999, z32_9999, z64_9999, z32_999999, z64_999999, z32_m1, z64_m1, if_true, if_false, eq_self, Bool.true_eq_false, Bool.false_eq_true, xRoom_eta]
        exact hF
