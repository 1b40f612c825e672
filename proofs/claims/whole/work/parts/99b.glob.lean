-- THE CONSTANTS AT THE START
def tmS (i : Nat) : Term := .string "LeftTillCalled$Text" (strT.getD i (0, "", [])).1
def nar : Cond := Jvm.Cond.and given_1 narrow_1
theorem g_ex : ∀ i, i < 13 → Cond.exactly (tmS i) "java/lang/String" ∈ flatC nar := by decide +kernel
theorem g_co : ∀ i, i < 13 → Cond.eq (.field (tmS i) "java/lang/String" "coder" "B") (.int 0) ∈ flatC nar := by decide +kernel
theorem g_ar : ∀ i, i < 13 → Cond.arrayOf (.field (tmS i) "java/lang/String" "value" "[B") .byte ∈ flatC nar := by decide +kernel
theorem g_le : ∀ i, i < 13 → Cond.eq (.length (.field (tmS i) "java/lang/String" "value" "[B")) (.int (Int32.ofNat (strLens.getD i 0))) ∈ flatC nar := by decide +kernel
theorem g_el : ∀ i, i < 13 → ∀ j, j < strLens.getD i 0 → Cond.eq (.elem (.field (tmS i) "java/lang/String" "value" "[B") (.int (Int32.ofNat j))) (.int ((strBys.getD i []).getD j 0)) ∈ flatC nar := by decide +kernel
theorem g_ne : ∀ i, i < 13 → ∀ j, j < 13 → i ≠ j → Cond.not (Cond.eq (tmS i) (tmS j)) ∈ flatC nar ∨ Cond.not (Cond.eq (tmS j) (tmS i)) ∈ flatC nar := by decide +kernel
