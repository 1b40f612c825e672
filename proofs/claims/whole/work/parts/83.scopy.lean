-- COPY
theorem sEta0 (x : XS) : xS0' x (xS0 x) = x := rfl
theorem sEta1 (x : XS) : xS1' x (xS1 x) = x := rfl
theorem sEta2 (x : XS) : xS2' x (xS2 x) = x := rfl
theorem sEta3 (x : XS) : xS3' x (xS3 x) = x := rfl
theorem X_isMissing (u : Sh) : fX0_isMissing u = some (b2i (decide (hBit u = 0)), u) := by
  rw [fX0_isMissing_eq]
  by_cases c : hBit u = 0
  · rw [if_pos c, decide_eq_true c]; rfl
  · rw [if_neg c, decide_eq_false c]; rfl
def runB (u : Sh) (a n : Int32) : Bool := decide (¬ a < 0 ∧ ¬ n < 0 ∧ ¬ hLen u < n ∧ ¬ (hLen u - n) < a)
theorem X_hasRun (u : Sh) (a n : Int32) : fX0_hasRun a n u = some (b2i (runB u a n), u) := by
  rw [fX0_hasRun_eq]
  unfold runB
  by_cases c1 : a < 0
  · rw [if_pos c1, decide_eq_false (fun z => z.1 c1)]; rfl
  · by_cases c2 : n < 0
    · rw [if_neg c1, if_pos c2, decide_eq_false (fun z => z.2.1 c2)]; rfl
    · by_cases c3 : hLen u < n
      · rw [if_neg c1, if_neg c2, if_pos c3, decide_eq_false (fun z => z.2.2.1 c3)]; rfl
      · by_cases c4 : (hLen u - n) < a
        · rw [if_neg c1, if_neg c2, if_neg c3, if_pos c4, decide_eq_false (fun z => z.2.2.2 c4)]; rfl
        · rw [if_neg c1, if_neg c2, if_neg c3, if_neg c4, decide_eq_true ⟨c1, c2, c3, c4⟩]; rfl
noncomputable def cpS (u v : Sh) (put : Sh → XS) (x : XS) (a b n : Int32) : Option (Int32 × XS) :=
  if hBit u = 0 then ((fX4_found (-1000000006 : Int32) x).bind fun q0 => (some (q0.1, q0.2))) else if hBit v = 0 then ((fX4_found (-1000000006 : Int32) x).bind fun q0 => (some (q0.1, q0.2)))
  else if hBit u = hBit v then (if runB u a n = true then (if runB v b n = true then (if (a < 0 ∨ b < 0 ∨ n < 0) ∨ (40 < (a).toNatClampNeg + (n).toNatClampNeg ∨ 40 < (b).toNatClampNeg + (n).toNatClampNeg) then none else some (n, put (hNum' v (va_cpy (hNum u) (hNum v) (a).toNatClampNeg (b).toNatClampNeg (n).toNatClampNeg)))) else ((fX4_found (-1000000001 : Int32) x).bind fun q0 => (some (q0.1, q0.2)))) else ((fX4_found (-1000000001 : Int32) x).bind fun q0 => (some (q0.1, q0.2))))
  else ((fX4_found (-1000000003 : Int32) x).bind fun q0 => (some (q0.1, q0.2)))
theorem cp_0_0 (x : XS) (a b n : Int32) : lX4_copy_37_6_35_7_35 FU a b n x = cpS (xS0 x) (xS0 x) (xS0' x) x a b n := by
  rw [show FU = 1993 + 1 + 1 + 1 + 1 + 1 + 1 + 1 by rw [FU_eq]]
  unfold cpS
  by_cases c1 : hBit (xS0 x) = 0
  · rw [if_pos c1, lX4_copy_37_6_35_7_35_eq, X_isMissing, Option.bind_some, decide_eq_true c1, if_neg (show ¬ b2i true = 0 by decide), lX4_copy_53_eq]; rfl
  rw [if_neg c1, lX4_copy_37_6_35_7_35_eq, X_isMissing, Option.bind_some, decide_eq_false c1, if_pos (show b2i false = 0 from rfl)]
  show lX4_copy_45_6_35_7_35 _ a b n x = _
  by_cases c2 : hBit (xS0 x) = 0
  · rw [if_pos c2, lX4_copy_45_6_35_7_35_eq, X_isMissing, Option.bind_some, decide_eq_true c2, if_neg (show ¬ b2i true = 0 by decide), lX4_copy_53_eq]; rfl
  rw [if_neg c2, lX4_copy_45_6_35_7_35_eq, X_isMissing, Option.bind_some, decide_eq_false c2, if_pos (show b2i false = 0 from rfl)]
  show lX4_copy_60_6_35_7_35 _ a b n x = _
  by_cases c3 : hBit (xS0 x) = hBit (xS0 x)
  · rw [if_pos c3, lX4_copy_60_6_35_7_35_eq, if_pos c3, lX4_copy_80_6_35_7_35_eq, X_hasRun, Option.bind_some]
    rcases bool_cases (runB (xS0 x) a n) with r1 | r1
    · rw [r1, if_pos (show b2i false = 0 from rfl), if_neg (show ¬ false = true by decide), lX4_copy_103_eq]; rfl
    · rw [r1, if_neg (show ¬ b2i true = 0 by decide), if_pos rfl]
      show lX4_copy_91_6_35_7_35 _ a b n x = _
      rw [lX4_copy_91_6_35_7_35_eq, X_hasRun, Option.bind_some]
      rcases bool_cases (runB (xS0 x) b n) with r2 | r2
      · rw [r2, if_pos (show b2i false = 0 from rfl), if_neg (show ¬ false = true by decide), lX4_copy_103_eq]; rfl
      · rw [r2, if_neg (show ¬ b2i true = 0 by decide), if_pos rfl]
        show lX4_copy_110_6_35_7_35 _ a b n x = _
        rw [lX4_copy_110_6_35_7_35_eq]
  · rw [if_neg c3, lX4_copy_60_6_35_7_35_eq, if_neg c3]
theorem cp_0_1 (x : XS) (a b n : Int32) : lX4_copy_37_6_35_7_37 FU a b n x = cpS (xS0 x) (xS1 x) (xS1' x) x a b n := by
  rw [show FU = 1993 + 1 + 1 + 1 + 1 + 1 + 1 + 1 by rw [FU_eq]]
  unfold cpS
  by_cases c1 : hBit (xS0 x) = 0
  · rw [if_pos c1, lX4_copy_37_6_35_7_37_eq, X_isMissing, Option.bind_some, decide_eq_true c1, if_neg (show ¬ b2i true = 0 by decide), lX4_copy_53_eq]; rfl
  rw [if_neg c1, lX4_copy_37_6_35_7_37_eq, X_isMissing, Option.bind_some, decide_eq_false c1, if_pos (show b2i false = 0 from rfl)]
  show lX4_copy_45_6_35_7_37 _ a b n x = _
  by_cases c2 : hBit (xS1 x) = 0
  · rw [if_pos c2, lX4_copy_45_6_35_7_37_eq, X_isMissing, Option.bind_some, decide_eq_true c2, if_neg (show ¬ b2i true = 0 by decide), lX4_copy_53_eq]; rfl
  rw [if_neg c2, lX4_copy_45_6_35_7_37_eq, X_isMissing, Option.bind_some, decide_eq_false c2, if_pos (show b2i false = 0 from rfl)]
  show lX4_copy_60_6_35_7_37 _ a b n x = _
  by_cases c3 : hBit (xS0 x) = hBit (xS1 x)
  · rw [if_pos c3, lX4_copy_60_6_35_7_37_eq, if_pos c3, lX4_copy_80_6_35_7_37_eq, X_hasRun, Option.bind_some]
    rcases bool_cases (runB (xS0 x) a n) with r1 | r1
    · rw [r1, if_pos (show b2i false = 0 from rfl), if_neg (show ¬ false = true by decide), lX4_copy_103_eq]; rfl
    · rw [r1, if_neg (show ¬ b2i true = 0 by decide), if_pos rfl]
      show lX4_copy_91_6_35_7_37 _ a b n x = _
      rw [lX4_copy_91_6_35_7_37_eq, X_hasRun, Option.bind_some]
      rcases bool_cases (runB (xS1 x) b n) with r2 | r2
      · rw [r2, if_pos (show b2i false = 0 from rfl), if_neg (show ¬ false = true by decide), lX4_copy_103_eq]; rfl
      · rw [r2, if_neg (show ¬ b2i true = 0 by decide), if_pos rfl]
        show lX4_copy_110_6_35_7_37 _ a b n x = _
        rw [lX4_copy_110_6_35_7_37_eq]
  · rw [if_neg c3, lX4_copy_60_6_35_7_37_eq, if_neg c3]
theorem cp_0_2 (x : XS) (a b n : Int32) : lX4_copy_37_6_35_7_39 FU a b n x = cpS (xS0 x) (xS2 x) (xS2' x) x a b n := by
  rw [show FU = 1993 + 1 + 1 + 1 + 1 + 1 + 1 + 1 by rw [FU_eq]]
  unfold cpS
  by_cases c1 : hBit (xS0 x) = 0
  · rw [if_pos c1, lX4_copy_37_6_35_7_39_eq, X_isMissing, Option.bind_some, decide_eq_true c1, if_neg (show ¬ b2i true = 0 by decide), lX4_copy_53_eq]; rfl
  rw [if_neg c1, lX4_copy_37_6_35_7_39_eq, X_isMissing, Option.bind_some, decide_eq_false c1, if_pos (show b2i false = 0 from rfl)]
  show lX4_copy_45_6_35_7_39 _ a b n x = _
  by_cases c2 : hBit (xS2 x) = 0
  · rw [if_pos c2, lX4_copy_45_6_35_7_39_eq, X_isMissing, Option.bind_some, decide_eq_true c2, if_neg (show ¬ b2i true = 0 by decide), lX4_copy_53_eq]; rfl
  rw [if_neg c2, lX4_copy_45_6_35_7_39_eq, X_isMissing, Option.bind_some, decide_eq_false c2, if_pos (show b2i false = 0 from rfl)]
  show lX4_copy_60_6_35_7_39 _ a b n x = _
  by_cases c3 : hBit (xS0 x) = hBit (xS2 x)
  · rw [if_pos c3, lX4_copy_60_6_35_7_39_eq, if_pos c3, lX4_copy_80_6_35_7_39_eq, X_hasRun, Option.bind_some]
    rcases bool_cases (runB (xS0 x) a n) with r1 | r1
    · rw [r1, if_pos (show b2i false = 0 from rfl), if_neg (show ¬ false = true by decide), lX4_copy_103_eq]; rfl
    · rw [r1, if_neg (show ¬ b2i true = 0 by decide), if_pos rfl]
      show lX4_copy_91_6_35_7_39 _ a b n x = _
      rw [lX4_copy_91_6_35_7_39_eq, X_hasRun, Option.bind_some]
      rcases bool_cases (runB (xS2 x) b n) with r2 | r2
      · rw [r2, if_pos (show b2i false = 0 from rfl), if_neg (show ¬ false = true by decide), lX4_copy_103_eq]; rfl
      · rw [r2, if_neg (show ¬ b2i true = 0 by decide), if_pos rfl]
        show lX4_copy_110_6_35_7_39 _ a b n x = _
        rw [lX4_copy_110_6_35_7_39_eq]
  · rw [if_neg c3, lX4_copy_60_6_35_7_39_eq, if_neg c3]
theorem cp_0_3 (x : XS) (a b n : Int32) : lX4_copy_37_6_35_7_41 FU a b n x = cpS (xS0 x) (xS3 x) (xS3' x) x a b n := by
  rw [show FU = 1993 + 1 + 1 + 1 + 1 + 1 + 1 + 1 by rw [FU_eq]]
  unfold cpS
  by_cases c1 : hBit (xS0 x) = 0
  · rw [if_pos c1, lX4_copy_37_6_35_7_41_eq, X_isMissing, Option.bind_some, decide_eq_true c1, if_neg (show ¬ b2i true = 0 by decide), lX4_copy_53_eq]; rfl
  rw [if_neg c1, lX4_copy_37_6_35_7_41_eq, X_isMissing, Option.bind_some, decide_eq_false c1, if_pos (show b2i false = 0 from rfl)]
  show lX4_copy_45_6_35_7_41 _ a b n x = _
  by_cases c2 : hBit (xS3 x) = 0
  · rw [if_pos c2, lX4_copy_45_6_35_7_41_eq, X_isMissing, Option.bind_some, decide_eq_true c2, if_neg (show ¬ b2i true = 0 by decide), lX4_copy_53_eq]; rfl
  rw [if_neg c2, lX4_copy_45_6_35_7_41_eq, X_isMissing, Option.bind_some, decide_eq_false c2, if_pos (show b2i false = 0 from rfl)]
  show lX4_copy_60_6_35_7_41 _ a b n x = _
  by_cases c3 : hBit (xS0 x) = hBit (xS3 x)
  · rw [if_pos c3, lX4_copy_60_6_35_7_41_eq, if_pos c3, lX4_copy_80_6_35_7_41_eq, X_hasRun, Option.bind_some]
    rcases bool_cases (runB (xS0 x) a n) with r1 | r1
    · rw [r1, if_pos (show b2i false = 0 from rfl), if_neg (show ¬ false = true by decide), lX4_copy_103_eq]; rfl
    · rw [r1, if_neg (show ¬ b2i true = 0 by decide), if_pos rfl]
      show lX4_copy_91_6_35_7_41 _ a b n x = _
      rw [lX4_copy_91_6_35_7_41_eq, X_hasRun, Option.bind_some]
      rcases bool_cases (runB (xS3 x) b n) with r2 | r2
      · rw [r2, if_pos (show b2i false = 0 from rfl), if_neg (show ¬ false = true by decide), lX4_copy_103_eq]; rfl
      · rw [r2, if_neg (show ¬ b2i true = 0 by decide), if_pos rfl]
        show lX4_copy_110_6_35_7_41 _ a b n x = _
        rw [lX4_copy_110_6_35_7_41_eq]
  · rw [if_neg c3, lX4_copy_60_6_35_7_41_eq, if_neg c3]
theorem cp_1_0 (x : XS) (a b n : Int32) : lX4_copy_37_6_37_7_35 FU a b n x = cpS (xS1 x) (xS0 x) (xS0' x) x a b n := by
  rw [show FU = 1993 + 1 + 1 + 1 + 1 + 1 + 1 + 1 by rw [FU_eq]]
  unfold cpS
  by_cases c1 : hBit (xS1 x) = 0
  · rw [if_pos c1, lX4_copy_37_6_37_7_35_eq, X_isMissing, Option.bind_some, decide_eq_true c1, if_neg (show ¬ b2i true = 0 by decide), lX4_copy_53_eq]; rfl
  rw [if_neg c1, lX4_copy_37_6_37_7_35_eq, X_isMissing, Option.bind_some, decide_eq_false c1, if_pos (show b2i false = 0 from rfl)]
  show lX4_copy_45_6_37_7_35 _ a b n x = _
  by_cases c2 : hBit (xS0 x) = 0
  · rw [if_pos c2, lX4_copy_45_6_37_7_35_eq, X_isMissing, Option.bind_some, decide_eq_true c2, if_neg (show ¬ b2i true = 0 by decide), lX4_copy_53_eq]; rfl
  rw [if_neg c2, lX4_copy_45_6_37_7_35_eq, X_isMissing, Option.bind_some, decide_eq_false c2, if_pos (show b2i false = 0 from rfl)]
  show lX4_copy_60_6_37_7_35 _ a b n x = _
  by_cases c3 : hBit (xS1 x) = hBit (xS0 x)
  · rw [if_pos c3, lX4_copy_60_6_37_7_35_eq, if_pos c3, lX4_copy_80_6_37_7_35_eq, X_hasRun, Option.bind_some]
    rcases bool_cases (runB (xS1 x) a n) with r1 | r1
    · rw [r1, if_pos (show b2i false = 0 from rfl), if_neg (show ¬ false = true by decide), lX4_copy_103_eq]; rfl
    · rw [r1, if_neg (show ¬ b2i true = 0 by decide), if_pos rfl]
      show lX4_copy_91_6_37_7_35 _ a b n x = _
      rw [lX4_copy_91_6_37_7_35_eq, X_hasRun, Option.bind_some]
      rcases bool_cases (runB (xS0 x) b n) with r2 | r2
      · rw [r2, if_pos (show b2i false = 0 from rfl), if_neg (show ¬ false = true by decide), lX4_copy_103_eq]; rfl
      · rw [r2, if_neg (show ¬ b2i true = 0 by decide), if_pos rfl]
        show lX4_copy_110_6_37_7_35 _ a b n x = _
        rw [lX4_copy_110_6_37_7_35_eq]
  · rw [if_neg c3, lX4_copy_60_6_37_7_35_eq, if_neg c3]
theorem cp_1_1 (x : XS) (a b n : Int32) : lX4_copy_37_6_37_7_37 FU a b n x = cpS (xS1 x) (xS1 x) (xS1' x) x a b n := by
  rw [show FU = 1993 + 1 + 1 + 1 + 1 + 1 + 1 + 1 by rw [FU_eq]]
  unfold cpS
  by_cases c1 : hBit (xS1 x) = 0
  · rw [if_pos c1, lX4_copy_37_6_37_7_37_eq, X_isMissing, Option.bind_some, decide_eq_true c1, if_neg (show ¬ b2i true = 0 by decide), lX4_copy_53_eq]; rfl
  rw [if_neg c1, lX4_copy_37_6_37_7_37_eq, X_isMissing, Option.bind_some, decide_eq_false c1, if_pos (show b2i false = 0 from rfl)]
  show lX4_copy_45_6_37_7_37 _ a b n x = _
  by_cases c2 : hBit (xS1 x) = 0
  · rw [if_pos c2, lX4_copy_45_6_37_7_37_eq, X_isMissing, Option.bind_some, decide_eq_true c2, if_neg (show ¬ b2i true = 0 by decide), lX4_copy_53_eq]; rfl
  rw [if_neg c2, lX4_copy_45_6_37_7_37_eq, X_isMissing, Option.bind_some, decide_eq_false c2, if_pos (show b2i false = 0 from rfl)]
  show lX4_copy_60_6_37_7_37 _ a b n x = _
  by_cases c3 : hBit (xS1 x) = hBit (xS1 x)
  · rw [if_pos c3, lX4_copy_60_6_37_7_37_eq, if_pos c3, lX4_copy_80_6_37_7_37_eq, X_hasRun, Option.bind_some]
    rcases bool_cases (runB (xS1 x) a n) with r1 | r1
    · rw [r1, if_pos (show b2i false = 0 from rfl), if_neg (show ¬ false = true by decide), lX4_copy_103_eq]; rfl
    · rw [r1, if_neg (show ¬ b2i true = 0 by decide), if_pos rfl]
      show lX4_copy_91_6_37_7_37 _ a b n x = _
      rw [lX4_copy_91_6_37_7_37_eq, X_hasRun, Option.bind_some]
      rcases bool_cases (runB (xS1 x) b n) with r2 | r2
      · rw [r2, if_pos (show b2i false = 0 from rfl), if_neg (show ¬ false = true by decide), lX4_copy_103_eq]; rfl
      · rw [r2, if_neg (show ¬ b2i true = 0 by decide), if_pos rfl]
        show lX4_copy_110_6_37_7_37 _ a b n x = _
        rw [lX4_copy_110_6_37_7_37_eq]
  · rw [if_neg c3, lX4_copy_60_6_37_7_37_eq, if_neg c3]
theorem cp_1_2 (x : XS) (a b n : Int32) : lX4_copy_37_6_37_7_39 FU a b n x = cpS (xS1 x) (xS2 x) (xS2' x) x a b n := by
  rw [show FU = 1993 + 1 + 1 + 1 + 1 + 1 + 1 + 1 by rw [FU_eq]]
  unfold cpS
  by_cases c1 : hBit (xS1 x) = 0
  · rw [if_pos c1, lX4_copy_37_6_37_7_39_eq, X_isMissing, Option.bind_some, decide_eq_true c1, if_neg (show ¬ b2i true = 0 by decide), lX4_copy_53_eq]; rfl
  rw [if_neg c1, lX4_copy_37_6_37_7_39_eq, X_isMissing, Option.bind_some, decide_eq_false c1, if_pos (show b2i false = 0 from rfl)]
  show lX4_copy_45_6_37_7_39 _ a b n x = _
  by_cases c2 : hBit (xS2 x) = 0
  · rw [if_pos c2, lX4_copy_45_6_37_7_39_eq, X_isMissing, Option.bind_some, decide_eq_true c2, if_neg (show ¬ b2i true = 0 by decide), lX4_copy_53_eq]; rfl
  rw [if_neg c2, lX4_copy_45_6_37_7_39_eq, X_isMissing, Option.bind_some, decide_eq_false c2, if_pos (show b2i false = 0 from rfl)]
  show lX4_copy_60_6_37_7_39 _ a b n x = _
  by_cases c3 : hBit (xS1 x) = hBit (xS2 x)
  · rw [if_pos c3, lX4_copy_60_6_37_7_39_eq, if_pos c3, lX4_copy_80_6_37_7_39_eq, X_hasRun, Option.bind_some]
    rcases bool_cases (runB (xS1 x) a n) with r1 | r1
    · rw [r1, if_pos (show b2i false = 0 from rfl), if_neg (show ¬ false = true by decide), lX4_copy_103_eq]; rfl
    · rw [r1, if_neg (show ¬ b2i true = 0 by decide), if_pos rfl]
      show lX4_copy_91_6_37_7_39 _ a b n x = _
      rw [lX4_copy_91_6_37_7_39_eq, X_hasRun, Option.bind_some]
      rcases bool_cases (runB (xS2 x) b n) with r2 | r2
      · rw [r2, if_pos (show b2i false = 0 from rfl), if_neg (show ¬ false = true by decide), lX4_copy_103_eq]; rfl
      · rw [r2, if_neg (show ¬ b2i true = 0 by decide), if_pos rfl]
        show lX4_copy_110_6_37_7_39 _ a b n x = _
        rw [lX4_copy_110_6_37_7_39_eq]
  · rw [if_neg c3, lX4_copy_60_6_37_7_39_eq, if_neg c3]
theorem cp_1_3 (x : XS) (a b n : Int32) : lX4_copy_37_6_37_7_41 FU a b n x = cpS (xS1 x) (xS3 x) (xS3' x) x a b n := by
  rw [show FU = 1993 + 1 + 1 + 1 + 1 + 1 + 1 + 1 by rw [FU_eq]]
  unfold cpS
  by_cases c1 : hBit (xS1 x) = 0
  · rw [if_pos c1, lX4_copy_37_6_37_7_41_eq, X_isMissing, Option.bind_some, decide_eq_true c1, if_neg (show ¬ b2i true = 0 by decide), lX4_copy_53_eq]; rfl
  rw [if_neg c1, lX4_copy_37_6_37_7_41_eq, X_isMissing, Option.bind_some, decide_eq_false c1, if_pos (show b2i false = 0 from rfl)]
  show lX4_copy_45_6_37_7_41 _ a b n x = _
  by_cases c2 : hBit (xS3 x) = 0
  · rw [if_pos c2, lX4_copy_45_6_37_7_41_eq, X_isMissing, Option.bind_some, decide_eq_true c2, if_neg (show ¬ b2i true = 0 by decide), lX4_copy_53_eq]; rfl
  rw [if_neg c2, lX4_copy_45_6_37_7_41_eq, X_isMissing, Option.bind_some, decide_eq_false c2, if_pos (show b2i false = 0 from rfl)]
  show lX4_copy_60_6_37_7_41 _ a b n x = _
  by_cases c3 : hBit (xS1 x) = hBit (xS3 x)
  · rw [if_pos c3, lX4_copy_60_6_37_7_41_eq, if_pos c3, lX4_copy_80_6_37_7_41_eq, X_hasRun, Option.bind_some]
    rcases bool_cases (runB (xS1 x) a n) with r1 | r1
    · rw [r1, if_pos (show b2i false = 0 from rfl), if_neg (show ¬ false = true by decide), lX4_copy_103_eq]; rfl
    · rw [r1, if_neg (show ¬ b2i true = 0 by decide), if_pos rfl]
      show lX4_copy_91_6_37_7_41 _ a b n x = _
      rw [lX4_copy_91_6_37_7_41_eq, X_hasRun, Option.bind_some]
      rcases bool_cases (runB (xS3 x) b n) with r2 | r2
      · rw [r2, if_pos (show b2i false = 0 from rfl), if_neg (show ¬ false = true by decide), lX4_copy_103_eq]; rfl
      · rw [r2, if_neg (show ¬ b2i true = 0 by decide), if_pos rfl]
        show lX4_copy_110_6_37_7_41 _ a b n x = _
        rw [lX4_copy_110_6_37_7_41_eq]
  · rw [if_neg c3, lX4_copy_60_6_37_7_41_eq, if_neg c3]
theorem cp_2_0 (x : XS) (a b n : Int32) : lX4_copy_37_6_39_7_35 FU a b n x = cpS (xS2 x) (xS0 x) (xS0' x) x a b n := by
  rw [show FU = 1993 + 1 + 1 + 1 + 1 + 1 + 1 + 1 by rw [FU_eq]]
  unfold cpS
  by_cases c1 : hBit (xS2 x) = 0
  · rw [if_pos c1, lX4_copy_37_6_39_7_35_eq, X_isMissing, Option.bind_some, decide_eq_true c1, if_neg (show ¬ b2i true = 0 by decide), lX4_copy_53_eq]; rfl
  rw [if_neg c1, lX4_copy_37_6_39_7_35_eq, X_isMissing, Option.bind_some, decide_eq_false c1, if_pos (show b2i false = 0 from rfl)]
  show lX4_copy_45_6_39_7_35 _ a b n x = _
  by_cases c2 : hBit (xS0 x) = 0
  · rw [if_pos c2, lX4_copy_45_6_39_7_35_eq, X_isMissing, Option.bind_some, decide_eq_true c2, if_neg (show ¬ b2i true = 0 by decide), lX4_copy_53_eq]; rfl
  rw [if_neg c2, lX4_copy_45_6_39_7_35_eq, X_isMissing, Option.bind_some, decide_eq_false c2, if_pos (show b2i false = 0 from rfl)]
  show lX4_copy_60_6_39_7_35 _ a b n x = _
  by_cases c3 : hBit (xS2 x) = hBit (xS0 x)
  · rw [if_pos c3, lX4_copy_60_6_39_7_35_eq, if_pos c3, lX4_copy_80_6_39_7_35_eq, X_hasRun, Option.bind_some]
    rcases bool_cases (runB (xS2 x) a n) with r1 | r1
    · rw [r1, if_pos (show b2i false = 0 from rfl), if_neg (show ¬ false = true by decide), lX4_copy_103_eq]; rfl
    · rw [r1, if_neg (show ¬ b2i true = 0 by decide), if_pos rfl]
      show lX4_copy_91_6_39_7_35 _ a b n x = _
      rw [lX4_copy_91_6_39_7_35_eq, X_hasRun, Option.bind_some]
      rcases bool_cases (runB (xS0 x) b n) with r2 | r2
      · rw [r2, if_pos (show b2i false = 0 from rfl), if_neg (show ¬ false = true by decide), lX4_copy_103_eq]; rfl
      · rw [r2, if_neg (show ¬ b2i true = 0 by decide), if_pos rfl]
        show lX4_copy_110_6_39_7_35 _ a b n x = _
        rw [lX4_copy_110_6_39_7_35_eq]
  · rw [if_neg c3, lX4_copy_60_6_39_7_35_eq, if_neg c3]
theorem cp_2_1 (x : XS) (a b n : Int32) : lX4_copy_37_6_39_7_37 FU a b n x = cpS (xS2 x) (xS1 x) (xS1' x) x a b n := by
  rw [show FU = 1993 + 1 + 1 + 1 + 1 + 1 + 1 + 1 by rw [FU_eq]]
  unfold cpS
  by_cases c1 : hBit (xS2 x) = 0
  · rw [if_pos c1, lX4_copy_37_6_39_7_37_eq, X_isMissing, Option.bind_some, decide_eq_true c1, if_neg (show ¬ b2i true = 0 by decide), lX4_copy_53_eq]; rfl
  rw [if_neg c1, lX4_copy_37_6_39_7_37_eq, X_isMissing, Option.bind_some, decide_eq_false c1, if_pos (show b2i false = 0 from rfl)]
  show lX4_copy_45_6_39_7_37 _ a b n x = _
  by_cases c2 : hBit (xS1 x) = 0
  · rw [if_pos c2, lX4_copy_45_6_39_7_37_eq, X_isMissing, Option.bind_some, decide_eq_true c2, if_neg (show ¬ b2i true = 0 by decide), lX4_copy_53_eq]; rfl
  rw [if_neg c2, lX4_copy_45_6_39_7_37_eq, X_isMissing, Option.bind_some, decide_eq_false c2, if_pos (show b2i false = 0 from rfl)]
  show lX4_copy_60_6_39_7_37 _ a b n x = _
  by_cases c3 : hBit (xS2 x) = hBit (xS1 x)
  · rw [if_pos c3, lX4_copy_60_6_39_7_37_eq, if_pos c3, lX4_copy_80_6_39_7_37_eq, X_hasRun, Option.bind_some]
    rcases bool_cases (runB (xS2 x) a n) with r1 | r1
    · rw [r1, if_pos (show b2i false = 0 from rfl), if_neg (show ¬ false = true by decide), lX4_copy_103_eq]; rfl
    · rw [r1, if_neg (show ¬ b2i true = 0 by decide), if_pos rfl]
      show lX4_copy_91_6_39_7_37 _ a b n x = _
      rw [lX4_copy_91_6_39_7_37_eq, X_hasRun, Option.bind_some]
      rcases bool_cases (runB (xS1 x) b n) with r2 | r2
      · rw [r2, if_pos (show b2i false = 0 from rfl), if_neg (show ¬ false = true by decide), lX4_copy_103_eq]; rfl
      · rw [r2, if_neg (show ¬ b2i true = 0 by decide), if_pos rfl]
        show lX4_copy_110_6_39_7_37 _ a b n x = _
        rw [lX4_copy_110_6_39_7_37_eq]
  · rw [if_neg c3, lX4_copy_60_6_39_7_37_eq, if_neg c3]
theorem cp_2_2 (x : XS) (a b n : Int32) : lX4_copy_37_6_39_7_39 FU a b n x = cpS (xS2 x) (xS2 x) (xS2' x) x a b n := by
  rw [show FU = 1993 + 1 + 1 + 1 + 1 + 1 + 1 + 1 by rw [FU_eq]]
  unfold cpS
  by_cases c1 : hBit (xS2 x) = 0
  · rw [if_pos c1, lX4_copy_37_6_39_7_39_eq, X_isMissing, Option.bind_some, decide_eq_true c1, if_neg (show ¬ b2i true = 0 by decide), lX4_copy_53_eq]; rfl
  rw [if_neg c1, lX4_copy_37_6_39_7_39_eq, X_isMissing, Option.bind_some, decide_eq_false c1, if_pos (show b2i false = 0 from rfl)]
  show lX4_copy_45_6_39_7_39 _ a b n x = _
  by_cases c2 : hBit (xS2 x) = 0
  · rw [if_pos c2, lX4_copy_45_6_39_7_39_eq, X_isMissing, Option.bind_some, decide_eq_true c2, if_neg (show ¬ b2i true = 0 by decide), lX4_copy_53_eq]; rfl
  rw [if_neg c2, lX4_copy_45_6_39_7_39_eq, X_isMissing, Option.bind_some, decide_eq_false c2, if_pos (show b2i false = 0 from rfl)]
  show lX4_copy_60_6_39_7_39 _ a b n x = _
  by_cases c3 : hBit (xS2 x) = hBit (xS2 x)
  · rw [if_pos c3, lX4_copy_60_6_39_7_39_eq, if_pos c3, lX4_copy_80_6_39_7_39_eq, X_hasRun, Option.bind_some]
    rcases bool_cases (runB (xS2 x) a n) with r1 | r1
    · rw [r1, if_pos (show b2i false = 0 from rfl), if_neg (show ¬ false = true by decide), lX4_copy_103_eq]; rfl
    · rw [r1, if_neg (show ¬ b2i true = 0 by decide), if_pos rfl]
      show lX4_copy_91_6_39_7_39 _ a b n x = _
      rw [lX4_copy_91_6_39_7_39_eq, X_hasRun, Option.bind_some]
      rcases bool_cases (runB (xS2 x) b n) with r2 | r2
      · rw [r2, if_pos (show b2i false = 0 from rfl), if_neg (show ¬ false = true by decide), lX4_copy_103_eq]; rfl
      · rw [r2, if_neg (show ¬ b2i true = 0 by decide), if_pos rfl]
        show lX4_copy_110_6_39_7_39 _ a b n x = _
        rw [lX4_copy_110_6_39_7_39_eq]
  · rw [if_neg c3, lX4_copy_60_6_39_7_39_eq, if_neg c3]
theorem cp_2_3 (x : XS) (a b n : Int32) : lX4_copy_37_6_39_7_41 FU a b n x = cpS (xS2 x) (xS3 x) (xS3' x) x a b n := by
  rw [show FU = 1993 + 1 + 1 + 1 + 1 + 1 + 1 + 1 by rw [FU_eq]]
  unfold cpS
  by_cases c1 : hBit (xS2 x) = 0
  · rw [if_pos c1, lX4_copy_37_6_39_7_41_eq, X_isMissing, Option.bind_some, decide_eq_true c1, if_neg (show ¬ b2i true = 0 by decide), lX4_copy_53_eq]; rfl
  rw [if_neg c1, lX4_copy_37_6_39_7_41_eq, X_isMissing, Option.bind_some, decide_eq_false c1, if_pos (show b2i false = 0 from rfl)]
  show lX4_copy_45_6_39_7_41 _ a b n x = _
  by_cases c2 : hBit (xS3 x) = 0
  · rw [if_pos c2, lX4_copy_45_6_39_7_41_eq, X_isMissing, Option.bind_some, decide_eq_true c2, if_neg (show ¬ b2i true = 0 by decide), lX4_copy_53_eq]; rfl
  rw [if_neg c2, lX4_copy_45_6_39_7_41_eq, X_isMissing, Option.bind_some, decide_eq_false c2, if_pos (show b2i false = 0 from rfl)]
  show lX4_copy_60_6_39_7_41 _ a b n x = _
  by_cases c3 : hBit (xS2 x) = hBit (xS3 x)
  · rw [if_pos c3, lX4_copy_60_6_39_7_41_eq, if_pos c3, lX4_copy_80_6_39_7_41_eq, X_hasRun, Option.bind_some]
    rcases bool_cases (runB (xS2 x) a n) with r1 | r1
    · rw [r1, if_pos (show b2i false = 0 from rfl), if_neg (show ¬ false = true by decide), lX4_copy_103_eq]; rfl
    · rw [r1, if_neg (show ¬ b2i true = 0 by decide), if_pos rfl]
      show lX4_copy_91_6_39_7_41 _ a b n x = _
      rw [lX4_copy_91_6_39_7_41_eq, X_hasRun, Option.bind_some]
      rcases bool_cases (runB (xS3 x) b n) with r2 | r2
      · rw [r2, if_pos (show b2i false = 0 from rfl), if_neg (show ¬ false = true by decide), lX4_copy_103_eq]; rfl
      · rw [r2, if_neg (show ¬ b2i true = 0 by decide), if_pos rfl]
        show lX4_copy_110_6_39_7_41 _ a b n x = _
        rw [lX4_copy_110_6_39_7_41_eq]
  · rw [if_neg c3, lX4_copy_60_6_39_7_41_eq, if_neg c3]
theorem cp_3_0 (x : XS) (a b n : Int32) : lX4_copy_37_6_41_7_35 FU a b n x = cpS (xS3 x) (xS0 x) (xS0' x) x a b n := by
  rw [show FU = 1993 + 1 + 1 + 1 + 1 + 1 + 1 + 1 by rw [FU_eq]]
  unfold cpS
  by_cases c1 : hBit (xS3 x) = 0
  · rw [if_pos c1, lX4_copy_37_6_41_7_35_eq, X_isMissing, Option.bind_some, decide_eq_true c1, if_neg (show ¬ b2i true = 0 by decide), lX4_copy_53_eq]; rfl
  rw [if_neg c1, lX4_copy_37_6_41_7_35_eq, X_isMissing, Option.bind_some, decide_eq_false c1, if_pos (show b2i false = 0 from rfl)]
  show lX4_copy_45_6_41_7_35 _ a b n x = _
  by_cases c2 : hBit (xS0 x) = 0
  · rw [if_pos c2, lX4_copy_45_6_41_7_35_eq, X_isMissing, Option.bind_some, decide_eq_true c2, if_neg (show ¬ b2i true = 0 by decide), lX4_copy_53_eq]; rfl
  rw [if_neg c2, lX4_copy_45_6_41_7_35_eq, X_isMissing, Option.bind_some, decide_eq_false c2, if_pos (show b2i false = 0 from rfl)]
  show lX4_copy_60_6_41_7_35 _ a b n x = _
  by_cases c3 : hBit (xS3 x) = hBit (xS0 x)
  · rw [if_pos c3, lX4_copy_60_6_41_7_35_eq, if_pos c3, lX4_copy_80_6_41_7_35_eq, X_hasRun, Option.bind_some]
    rcases bool_cases (runB (xS3 x) a n) with r1 | r1
    · rw [r1, if_pos (show b2i false = 0 from rfl), if_neg (show ¬ false = true by decide), lX4_copy_103_eq]; rfl
    · rw [r1, if_neg (show ¬ b2i true = 0 by decide), if_pos rfl]
      show lX4_copy_91_6_41_7_35 _ a b n x = _
      rw [lX4_copy_91_6_41_7_35_eq, X_hasRun, Option.bind_some]
      rcases bool_cases (runB (xS0 x) b n) with r2 | r2
      · rw [r2, if_pos (show b2i false = 0 from rfl), if_neg (show ¬ false = true by decide), lX4_copy_103_eq]; rfl
      · rw [r2, if_neg (show ¬ b2i true = 0 by decide), if_pos rfl]
        show lX4_copy_110_6_41_7_35 _ a b n x = _
        rw [lX4_copy_110_6_41_7_35_eq]
  · rw [if_neg c3, lX4_copy_60_6_41_7_35_eq, if_neg c3]
theorem cp_3_1 (x : XS) (a b n : Int32) : lX4_copy_37_6_41_7_37 FU a b n x = cpS (xS3 x) (xS1 x) (xS1' x) x a b n := by
  rw [show FU = 1993 + 1 + 1 + 1 + 1 + 1 + 1 + 1 by rw [FU_eq]]
  unfold cpS
  by_cases c1 : hBit (xS3 x) = 0
  · rw [if_pos c1, lX4_copy_37_6_41_7_37_eq, X_isMissing, Option.bind_some, decide_eq_true c1, if_neg (show ¬ b2i true = 0 by decide), lX4_copy_53_eq]; rfl
  rw [if_neg c1, lX4_copy_37_6_41_7_37_eq, X_isMissing, Option.bind_some, decide_eq_false c1, if_pos (show b2i false = 0 from rfl)]
  show lX4_copy_45_6_41_7_37 _ a b n x = _
  by_cases c2 : hBit (xS1 x) = 0
  · rw [if_pos c2, lX4_copy_45_6_41_7_37_eq, X_isMissing, Option.bind_some, decide_eq_true c2, if_neg (show ¬ b2i true = 0 by decide), lX4_copy_53_eq]; rfl
  rw [if_neg c2, lX4_copy_45_6_41_7_37_eq, X_isMissing, Option.bind_some, decide_eq_false c2, if_pos (show b2i false = 0 from rfl)]
  show lX4_copy_60_6_41_7_37 _ a b n x = _
  by_cases c3 : hBit (xS3 x) = hBit (xS1 x)
  · rw [if_pos c3, lX4_copy_60_6_41_7_37_eq, if_pos c3, lX4_copy_80_6_41_7_37_eq, X_hasRun, Option.bind_some]
    rcases bool_cases (runB (xS3 x) a n) with r1 | r1
    · rw [r1, if_pos (show b2i false = 0 from rfl), if_neg (show ¬ false = true by decide), lX4_copy_103_eq]; rfl
    · rw [r1, if_neg (show ¬ b2i true = 0 by decide), if_pos rfl]
      show lX4_copy_91_6_41_7_37 _ a b n x = _
      rw [lX4_copy_91_6_41_7_37_eq, X_hasRun, Option.bind_some]
      rcases bool_cases (runB (xS1 x) b n) with r2 | r2
      · rw [r2, if_pos (show b2i false = 0 from rfl), if_neg (show ¬ false = true by decide), lX4_copy_103_eq]; rfl
      · rw [r2, if_neg (show ¬ b2i true = 0 by decide), if_pos rfl]
        show lX4_copy_110_6_41_7_37 _ a b n x = _
        rw [lX4_copy_110_6_41_7_37_eq]
  · rw [if_neg c3, lX4_copy_60_6_41_7_37_eq, if_neg c3]
theorem cp_3_2 (x : XS) (a b n : Int32) : lX4_copy_37_6_41_7_39 FU a b n x = cpS (xS3 x) (xS2 x) (xS2' x) x a b n := by
  rw [show FU = 1993 + 1 + 1 + 1 + 1 + 1 + 1 + 1 by rw [FU_eq]]
  unfold cpS
  by_cases c1 : hBit (xS3 x) = 0
  · rw [if_pos c1, lX4_copy_37_6_41_7_39_eq, X_isMissing, Option.bind_some, decide_eq_true c1, if_neg (show ¬ b2i true = 0 by decide), lX4_copy_53_eq]; rfl
  rw [if_neg c1, lX4_copy_37_6_41_7_39_eq, X_isMissing, Option.bind_some, decide_eq_false c1, if_pos (show b2i false = 0 from rfl)]
  show lX4_copy_45_6_41_7_39 _ a b n x = _
  by_cases c2 : hBit (xS2 x) = 0
  · rw [if_pos c2, lX4_copy_45_6_41_7_39_eq, X_isMissing, Option.bind_some, decide_eq_true c2, if_neg (show ¬ b2i true = 0 by decide), lX4_copy_53_eq]; rfl
  rw [if_neg c2, lX4_copy_45_6_41_7_39_eq, X_isMissing, Option.bind_some, decide_eq_false c2, if_pos (show b2i false = 0 from rfl)]
  show lX4_copy_60_6_41_7_39 _ a b n x = _
  by_cases c3 : hBit (xS3 x) = hBit (xS2 x)
  · rw [if_pos c3, lX4_copy_60_6_41_7_39_eq, if_pos c3, lX4_copy_80_6_41_7_39_eq, X_hasRun, Option.bind_some]
    rcases bool_cases (runB (xS3 x) a n) with r1 | r1
    · rw [r1, if_pos (show b2i false = 0 from rfl), if_neg (show ¬ false = true by decide), lX4_copy_103_eq]; rfl
    · rw [r1, if_neg (show ¬ b2i true = 0 by decide), if_pos rfl]
      show lX4_copy_91_6_41_7_39 _ a b n x = _
      rw [lX4_copy_91_6_41_7_39_eq, X_hasRun, Option.bind_some]
      rcases bool_cases (runB (xS2 x) b n) with r2 | r2
      · rw [r2, if_pos (show b2i false = 0 from rfl), if_neg (show ¬ false = true by decide), lX4_copy_103_eq]; rfl
      · rw [r2, if_neg (show ¬ b2i true = 0 by decide), if_pos rfl]
        show lX4_copy_110_6_41_7_39 _ a b n x = _
        rw [lX4_copy_110_6_41_7_39_eq]
  · rw [if_neg c3, lX4_copy_60_6_41_7_39_eq, if_neg c3]
theorem cp_3_3 (x : XS) (a b n : Int32) : lX4_copy_37_6_41_7_41 FU a b n x = cpS (xS3 x) (xS3 x) (xS3' x) x a b n := by
  rw [show FU = 1993 + 1 + 1 + 1 + 1 + 1 + 1 + 1 by rw [FU_eq]]
  unfold cpS
  by_cases c1 : hBit (xS3 x) = 0
  · rw [if_pos c1, lX4_copy_37_6_41_7_41_eq, X_isMissing, Option.bind_some, decide_eq_true c1, if_neg (show ¬ b2i true = 0 by decide), lX4_copy_53_eq]; rfl
  rw [if_neg c1, lX4_copy_37_6_41_7_41_eq, X_isMissing, Option.bind_some, decide_eq_false c1, if_pos (show b2i false = 0 from rfl)]
  show lX4_copy_45_6_41_7_41 _ a b n x = _
  by_cases c2 : hBit (xS3 x) = 0
  · rw [if_pos c2, lX4_copy_45_6_41_7_41_eq, X_isMissing, Option.bind_some, decide_eq_true c2, if_neg (show ¬ b2i true = 0 by decide), lX4_copy_53_eq]; rfl
  rw [if_neg c2, lX4_copy_45_6_41_7_41_eq, X_isMissing, Option.bind_some, decide_eq_false c2, if_pos (show b2i false = 0 from rfl)]
  show lX4_copy_60_6_41_7_41 _ a b n x = _
  by_cases c3 : hBit (xS3 x) = hBit (xS3 x)
  · rw [if_pos c3, lX4_copy_60_6_41_7_41_eq, if_pos c3, lX4_copy_80_6_41_7_41_eq, X_hasRun, Option.bind_some]
    rcases bool_cases (runB (xS3 x) a n) with r1 | r1
    · rw [r1, if_pos (show b2i false = 0 from rfl), if_neg (show ¬ false = true by decide), lX4_copy_103_eq]; rfl
    · rw [r1, if_neg (show ¬ b2i true = 0 by decide), if_pos rfl]
      show lX4_copy_91_6_41_7_41 _ a b n x = _
      rw [lX4_copy_91_6_41_7_41_eq, X_hasRun, Option.bind_some]
      rcases bool_cases (runB (xS3 x) b n) with r2 | r2
      · rw [r2, if_pos (show b2i false = 0 from rfl), if_neg (show ¬ false = true by decide), lX4_copy_103_eq]; rfl
      · rw [r2, if_neg (show ¬ b2i true = 0 by decide), if_pos rfl]
        show lX4_copy_110_6_41_7_41 _ a b n x = _
        rw [lX4_copy_110_6_41_7_41_eq]
  · rw [if_neg c3, lX4_copy_60_6_41_7_41_eq, if_neg c3]
theorem X_copy {x : XS} {s r : Nat} (hs : s < 4) (hr : r < 4) (a b n : Int32) : fX4_copy (nI s) a (nI r) b n x = cpS (xSh x s) (xSh x r) (xShS x r) x a b n := by
  rw [fX4_copy_eq, X_isSheet, X_isSheet, Option.bind_some, Option.bind_some, show inB (nI s) 0 3 = true from inB_nI (L := 0) (N := 3) (by omega) (by omega) (by decide), show inB (nI r) 0 3 = true from inB_nI (L := 0) (N := 3) (by omega) (by omega) (by decide), if_neg (show ¬ b2i true = 0 by decide), if_neg (show ¬ b2i true = 0 by decide)]
  rcases four hs with rfl | rfl | rfl | rfl <;> rcases four hr with rfl | rfl | rfl | rfl
  · rw [if_pos (rfl : nI 0 = nI 0), if_pos (rfl : nI 0 = nI 0)]; exact cp_0_0 x a b n
  · rw [if_pos (rfl : nI 0 = nI 0), if_neg (show ¬ nI 1 = nI 0 by decide), if_pos (rfl : nI 1 = nI 1)]; exact cp_0_1 x a b n
  · rw [if_pos (rfl : nI 0 = nI 0), if_neg (show ¬ nI 2 = nI 0 by decide), if_neg (show ¬ nI 2 = nI 1 by decide), if_pos (rfl : nI 2 = nI 2)]; exact cp_0_2 x a b n
  · rw [if_pos (rfl : nI 0 = nI 0), if_neg (show ¬ nI 3 = nI 0 by decide), if_neg (show ¬ nI 3 = nI 1 by decide), if_neg (show ¬ nI 3 = nI 2 by decide), if_pos (rfl : nI 3 = nI 3)]; exact cp_0_3 x a b n
  · rw [if_neg (show ¬ nI 1 = nI 0 by decide), if_pos (rfl : nI 1 = nI 1), if_pos (rfl : nI 0 = nI 0)]; exact cp_1_0 x a b n
  · rw [if_neg (show ¬ nI 1 = nI 0 by decide), if_pos (rfl : nI 1 = nI 1), if_neg (show ¬ nI 1 = nI 0 by decide), if_pos (rfl : nI 1 = nI 1)]; exact cp_1_1 x a b n
  · rw [if_neg (show ¬ nI 1 = nI 0 by decide), if_pos (rfl : nI 1 = nI 1), if_neg (show ¬ nI 2 = nI 0 by decide), if_neg (show ¬ nI 2 = nI 1 by decide), if_pos (rfl : nI 2 = nI 2)]; exact cp_1_2 x a b n
  · rw [if_neg (show ¬ nI 1 = nI 0 by decide), if_pos (rfl : nI 1 = nI 1), if_neg (show ¬ nI 3 = nI 0 by decide), if_neg (show ¬ nI 3 = nI 1 by decide), if_neg (show ¬ nI 3 = nI 2 by decide), if_pos (rfl : nI 3 = nI 3)]; exact cp_1_3 x a b n
  · rw [if_neg (show ¬ nI 2 = nI 0 by decide), if_neg (show ¬ nI 2 = nI 1 by decide), if_pos (rfl : nI 2 = nI 2), if_pos (rfl : nI 0 = nI 0)]; exact cp_2_0 x a b n
  · rw [if_neg (show ¬ nI 2 = nI 0 by decide), if_neg (show ¬ nI 2 = nI 1 by decide), if_pos (rfl : nI 2 = nI 2), if_neg (show ¬ nI 1 = nI 0 by decide), if_pos (rfl : nI 1 = nI 1)]; exact cp_2_1 x a b n
  · rw [if_neg (show ¬ nI 2 = nI 0 by decide), if_neg (show ¬ nI 2 = nI 1 by decide), if_pos (rfl : nI 2 = nI 2), if_neg (show ¬ nI 2 = nI 0 by decide), if_neg (show ¬ nI 2 = nI 1 by decide), if_pos (rfl : nI 2 = nI 2)]; exact cp_2_2 x a b n
  · rw [if_neg (show ¬ nI 2 = nI 0 by decide), if_neg (show ¬ nI 2 = nI 1 by decide), if_pos (rfl : nI 2 = nI 2), if_neg (show ¬ nI 3 = nI 0 by decide), if_neg (show ¬ nI 3 = nI 1 by decide), if_neg (show ¬ nI 3 = nI 2 by decide), if_pos (rfl : nI 3 = nI 3)]; exact cp_2_3 x a b n
  · rw [if_neg (show ¬ nI 3 = nI 0 by decide), if_neg (show ¬ nI 3 = nI 1 by decide), if_neg (show ¬ nI 3 = nI 2 by decide), if_pos (rfl : nI 3 = nI 3), if_pos (rfl : nI 0 = nI 0)]; exact cp_3_0 x a b n
  · rw [if_neg (show ¬ nI 3 = nI 0 by decide), if_neg (show ¬ nI 3 = nI 1 by decide), if_neg (show ¬ nI 3 = nI 2 by decide), if_pos (rfl : nI 3 = nI 3), if_neg (show ¬ nI 1 = nI 0 by decide), if_pos (rfl : nI 1 = nI 1)]; exact cp_3_1 x a b n
  · rw [if_neg (show ¬ nI 3 = nI 0 by decide), if_neg (show ¬ nI 3 = nI 1 by decide), if_neg (show ¬ nI 3 = nI 2 by decide), if_pos (rfl : nI 3 = nI 3), if_neg (show ¬ nI 2 = nI 0 by decide), if_neg (show ¬ nI 2 = nI 1 by decide), if_pos (rfl : nI 2 = nI 2)]; exact cp_3_2 x a b n
  · rw [if_neg (show ¬ nI 3 = nI 0 by decide), if_neg (show ¬ nI 3 = nI 1 by decide), if_neg (show ¬ nI 3 = nI 2 by decide), if_pos (rfl : nI 3 = nI 3), if_neg (show ¬ nI 3 = nI 0 by decide), if_neg (show ¬ nI 3 = nI 1 by decide), if_neg (show ¬ nI 3 = nI 2 by decide), if_pos (rfl : nI 3 = nI 3)]; exact cp_3_3 x a b n
theorem n40b (s f k : Nat) : (40 : Int32) * nI s + nI f + nI k = nI (40 * s + f + k) := by
  rw [n40, nI_add]
theorem M_copy1 {s f n : Nat} {x3 x4 : Int32} (hs : s < 4) (hf : f + n ≤ 40) : ∀ (i j F : Nat) (m : MS), i + j = n → (∀ k, k < j → mMvd m k = mNum m (40 * s + f + k)) → ∃ v, lX5_copy_120 (F + i + 1) (nI s) (nI f) x3 x4 (nI n) (nI j) m = lX5_copy_157 F x3 x4 (nI n) 0 (mMvd' m v) ∧ ∀ k, k < n → v k = mNum m (40 * s + f + k) := by
  intro i
  induction i with
  | zero =>
    intro j F m hi hv
    obtain rfl : j = n := by omega
    exact ⟨mMvd m, by rw [lX5_copy_120_eq, if_pos (nI_le (Nat.le_refl j) (by omega))]; rfl, hv⟩
  | succ i ih =>
    intro j F m hi hv
    rw [show F + (i + 1) + 1 = (F + i + 1) + 1 by omega, lX5_copy_120_eq, if_neg (nI_ge (show j < n by omega) (by omega)), n40b, if_neg (ix (show 40 * s + f + j < 160 by omega)), if_neg (ix (show j < 40 by omega)), cl (show 40 * s + f + j < 2 ^ 31 by omega), cl (show j < 2 ^ 31 by omega), nI_1]
    obtain ⟨v, e1, e2⟩ := ih (j + 1) F (mMvd' m (vp_updL (mMvd m) j (mNum m (40 * s + f + j)))) (by omega) (fun k hk => by
      show vp_updL (mMvd m) j (mNum m (40 * s + f + j)) k = mNum m (40 * s + f + k)
      rw [updL_at]
      by_cases c : k = j
      · rw [if_pos c, c]
      · rw [if_neg c]; exact hv k (by omega))
    exact ⟨v, e1, e2⟩
theorem M_copy2 {t g n : Nat} (ht : t < 4) (hg : g + n ≤ 40) {h0 : F64} : ∀ (i j F : Nat) (m : MS), i + j = n → i < F → (∀ q, mNum m q = if 40 * t + g ≤ q ∧ q < 40 * t + g + j then mMvd m (q - (40 * t + g)) else h0 q) → ∃ f', lX5_copy_157 F (nI t) (nI g) (nI n) (nI j) m = some (nI n, mNum' m f') ∧ ∀ q, f' q = if 40 * t + g ≤ q ∧ q < 40 * t + g + n then mMvd m (q - (40 * t + g)) else h0 q := by
  intro i
  induction i with
  | zero =>
    intro j F m hi hF hv
    obtain ⟨F, rfl⟩ : ∃ q, F = q + 1 := ⟨F - 1, by omega⟩
    obtain rfl : j = n := by omega
    exact ⟨mNum m, by rw [lX5_copy_157_eq, if_pos (nI_le (Nat.le_refl j) (by omega))]; rfl, hv⟩
  | succ i ih =>
    intro j F m hi hF hv
    obtain ⟨F, rfl⟩ : ∃ q, F = q + 1 := ⟨F - 1, by omega⟩
    rw [lX5_copy_157_eq, if_neg (nI_ge (show j < n by omega) (by omega)), if_neg (ix (show j < 40 by omega)), n40b, if_neg (ix (show 40 * t + g + j < 160 by omega)), cl (show 40 * t + g + j < 2 ^ 31 by omega), cl (show j < 2 ^ 31 by omega), nI_1]
    obtain ⟨f', e1, e2⟩ := ih (j + 1) F (mNum' m (vp_updL (mNum m) (40 * t + g + j) (mMvd m j))) (by omega) (by omega) (fun q => by
      show vp_updL (mNum m) (40 * t + g + j) (mMvd m j) q = if 40 * t + g ≤ q ∧ q < 40 * t + g + (j + 1) then mMvd m (q - (40 * t + g)) else h0 q
      rw [updL_at]
      by_cases c : q = 40 * t + g + j
      · rw [if_pos c, if_pos (by omega), show q - (40 * t + g) = j by omega]
      · rw [if_neg c, hv q]
        by_cases c2 : 40 * t + g ≤ q ∧ q < 40 * t + g + j
        · rw [if_pos c2, if_pos (by omega)]
        · rw [if_neg c2, if_neg (by omega)])
    exact ⟨f', e1, e2⟩
theorem run_nat {u : Sh} {l : Nat} {a n : Int32} (hl : l ≤ 40) (e : hLen u = nI l) : runB u a n = true ↔ 0 ≤ a.toInt ∧ 0 ≤ n.toInt ∧ a.toInt + n.toInt ≤ l := by
  have e0 : (0 : Int32).toInt = 0 := rfl
  have el : (nI l).toInt = (l : Int) := nI_toInt (by omega)
  unfold runB
  rw [decide_eq_true_iff, e, fa_lt, fa_lt, fa_lt, fa_lt, e0, el]
  constructor
  · rintro ⟨h1, h2, h3, h4⟩
    rw [sub_int (by omega) (by omega), el] at h4
    omega
  · rintro ⟨h1, h2, h3⟩
    refine ⟨by omega, by omega, by omega, ?_⟩
    rw [sub_int (by omega) (by omega), el]
    omega
theorem S_copy {x : XS} {m : MS} (h : Inv x m) (a0 a1 a2 a3 a4 : Int32) : Same (fX4_copy a0 a1 a2 a3 a4 x) (fX5_copy a0 a1 a2 a3 a4 m) := by
  have hB := sf h fcB
  have hM := sf h fcM
  have hK := sf h fcK
  rcases bool_cases (inB a0 0 3) with c0 | c0
  · rw [fX4_copy_eq, fX5_copy_eq, X_isSheet, M_isOne, c0, Option.bind_some, Option.bind_some, if_pos (by decide), if_pos (by decide)]; exact hB
  rcases bool_cases (inB a2 0 3) with c2 | c2
  · rw [fX4_copy_eq, fX5_copy_eq, X_isSheet, M_isOne, c0, Option.bind_some, Option.bind_some, if_neg (show ¬ b2i true = 0 by decide), if_neg (show ¬ b2i true = 0 by decide), X_isSheet, M_isOne, c2, Option.bind_some, Option.bind_some, if_pos (by decide), if_pos (by decide)]; exact hB
  obtain ⟨s, -, hs3, rfl⟩ := inB_nat (L := 0) (N := 3) c0
  obtain ⟨t, -, ht3, rfl⟩ := inB_nat (L := 0) (N := 3) c2
  have hs : s < 4 := by omega
  have ht : t < 4 := by omega
  obtain ⟨g1, g2, ⟨l, hl, g3⟩, g4⟩ := h.2.2.2.2.2 s hs
  obtain ⟨k1, k2, ⟨r, hr, k3⟩, k4⟩ := h.2.2.2.2.2 t ht
  rw [X_copy hs ht, fX5_copy_eq, M_isOne, M_isOne, c0, c2, Option.bind_some, Option.bind_some, if_neg (show ¬ b2i true = 0 by decide), if_neg (show ¬ b2i true = 0 by decide), if_neg (ix hs), cl (show s < 2 ^ 31 by omega), ← g1, if_neg (ix ht), cl (show t < 2 ^ 31 by omega), ← k1]
  unfold cpS
  by_cases b1 : hBit (xSh x s) = 0
  · rw [if_pos b1, if_pos b1]; exact hM
  rw [if_neg b1, if_neg b1]
  by_cases b2 : hBit (xSh x t) = 0
  · rw [if_pos b2, if_pos b2]; exact hM
  rw [if_neg b2, if_neg b2, if_neg (ix' hs), if_neg (ix' ht)]
  by_cases b3 : hBit (xSh x s) = hBit (xSh x t)
  · rw [if_pos b3, if_pos b3, ← g2, ← k2, g3, k3]
    have e0 : (0 : Int32).toInt = 0 := rfl
    have el : (nI l).toInt = (l : Int) := nI_toInt (by omega)
    have er : (nI r).toInt = (r : Int) := nI_toInt (by omega)
    have q1 := run_nat (a := a1) (n := a4) hl g3
    have q2 := run_nat (a := a3) (n := a4) hr k3
    by_cases d1 : a1 < 0
    · have := (fa_lt _ _).mp d1
      rw [if_neg (fun z => by have := q1.mp z; omega), if_pos d1]; exact hB
    have d1' : ¬ a1.toInt < (0 : Int32).toInt := fun z => d1 ((fa_lt _ _).mpr z)
    by_cases d3 : a3 < 0
    · have := (fa_lt _ _).mp d3
      rw [if_neg d1, if_pos d3]
      by_cases z1 : runB (xSh x s) a1 a4 = true
      · rw [if_pos z1, if_neg (fun z => by have := q2.mp z; omega)]; exact hB
      · rw [if_neg z1]; exact hB
    have d3' : ¬ a3.toInt < (0 : Int32).toInt := fun z => d3 ((fa_lt _ _).mpr z)
    by_cases d4 : a4 < 0
    · have := (fa_lt _ _).mp d4
      rw [if_neg (fun z => by have := q1.mp z; omega), if_neg d1, if_neg d3, if_pos d4]; exact hB
    have d4' : ¬ a4.toInt < (0 : Int32).toInt := fun z => d4 ((fa_lt _ _).mpr z)
    rw [if_neg d1, if_neg d3, if_neg d4, if_neg (ix' hs), if_neg (ix' ht)]
    have u1 := a1.toInt_lt
    have u3 := a3.toInt_lt
    have s1 : (nI l - a1).toInt = (l : Int) - a1.toInt := by rw [sub_int (by omega) (by omega), el]
    have s3 : (nI r - a3).toInt = (r : Int) - a3.toInt := by rw [sub_int (by omega) (by omega), er]
    by_cases d5 : (nI l - a1) < a4
    · have := (fa_lt _ _).mp d5
      rw [s1] at this
      rw [if_neg (fun z => by have := q1.mp z; omega), if_pos d5]; exact hB
    have d5' : ¬ (nI l - a1).toInt < a4.toInt := fun z => d5 ((fa_lt _ _).mpr z)
    rw [s1] at d5'
    rw [if_pos (q1.mpr (by omega)), if_neg d5]
    by_cases d6 : a4 ≤ (nI r - a3)
    · have d6' := (fa_le _ _).mp d6
      rw [s3] at d6'
      obtain ⟨f, hf, rfl, ef⟩ := nat_of (a := a1) (by omega)
      obtain ⟨g, hg, rfl, eg⟩ := nat_of (a := a3) (by omega)
      obtain ⟨n, hn, rfl, en⟩ := nat_of (a := a4) (by omega)
      rw [ef] at d5'
      rw [en] at d5' d6'
      rw [eg] at d6'
      rw [if_pos (q2.mpr (by omega)), if_pos d6, cl hf, cl hg, cl hn, if_neg (by
        rintro ((z | z | z) | (z | z))
        · exact d1 z
        · exact d3 z
        · exact d4 z
        · omega
        · omega)]
      obtain ⟨v, e1, e2⟩ := M_copy1 (x3 := nI t) (x4 := nI g) (f := f) (n := n) hs (by omega) n 0 (1999 - n) m (by omega) (fun k hk => absurd hk (Nat.not_lt_zero k))
      obtain ⟨w, e3, e4⟩ := M_copy2 (g := g) (n := n) (h0 := mNum m) ht (by omega) n 0 (1999 - n) (mMvd' m v) (by omega) (by omega) (fun q => by rw [if_neg (by omega)]; rfl)
      rw [show FU = 1999 - n + n + 1 by rw [FU_eq]; omega, show lX5_copy_120 (1999 - n + n + 1) (nI s) (nI f) (nI t) (nI g) (nI n) 0 m = _ from e1, show lX5_copy_157 (1999 - n) (nI t) (nI g) (nI n) 0 (mMvd' m v) = _ from e3]
      refine same_of (h.to (RestX.sh x ht _) ⟨rfl, rfl, rfl, rfl, rfl⟩ h.2.1 (shr_set ht ?_ ?_))
      · refine ⟨k1, k2, ⟨r, hr, k3⟩, fun q hq => ?_⟩
        show va_cpy (hNum (xSh x s)) (hNum (xSh x t)) f g n q = w (40 * t + q)
        rw [e4]
        by_cases cq : g ≤ q ∧ q < g + n
        · rw [pk_cpy_in cq.1 cq.2, if_pos (by omega), g4 _ (by omega)]
          show _ = v (40 * t + q - (40 * t + g))
          rw [e2 _ (by omega)]
          congr 1
          omega
        · rw [pk_cpy_out (by omega), if_neg (by omega)]
          exact k4 q hq
      · intro o ho hne
        obtain ⟨j1, j2, j3, j4⟩ := h.2.2.2.2.2 o ho
        refine ⟨j1, j2, j3, fun q hq => ?_⟩
        show _ = w (40 * o + q)
        rw [e4, if_neg (by omega)]
        exact j4 q hq
    · have d6' : ¬ a4.toInt ≤ (nI r - a3).toInt := fun z => d6 ((fa_le _ _).mpr z)
      rw [s3] at d6'
      rw [if_neg (fun z => by have := q2.mp z; omega), if_neg d6]; exact hB
  · rw [if_neg b3, if_neg b3]; exact hK
