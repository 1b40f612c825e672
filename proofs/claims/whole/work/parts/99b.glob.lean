-- THE CONSTANTS AT THE START
def tmS (i : Nat) : Term := .string "LeftTillCalled$Text" (strT.getD i (0, "", [])).1
def nar : Cond := Jvm.Cond.and given_1 narrow_1
def ixS (i : Nat) : Nat := ([18, 27, 37, 49, 62, 74, 88, 106, 121, 139, 152, 169, 187] : List Nat).getD i 0
theorem g_ex : ∀ i, i < 13 → (flatC nar)[ixS i]? = some (Cond.exactly (tmS i) "java/lang/String") := by decide +kernel
theorem g_co : ∀ i, i < 13 → (flatC nar)[ixS i + 1]? = some (Cond.eq (.field (tmS i) "java/lang/String" "coder" "B") (.int 0)) := by decide +kernel
theorem g_ar : ∀ i, i < 13 → (flatC nar)[ixS i + 2]? = some (Cond.arrayOf (.field (tmS i) "java/lang/String" "value" "[B") .byte) := by decide +kernel
theorem g_le : ∀ i, i < 13 → (flatC nar)[ixS i + 3]? = some (Cond.eq (.length (.field (tmS i) "java/lang/String" "value" "[B")) (.int (Int32.ofNat (strLens.getD i 0)))) := by decide +kernel
theorem g_el : ∀ i, i < 13 → ∀ j, j < strLens.getD i 0 → (flatC nar)[ixS i + 4 + j]? = some (Cond.eq (.elem (.field (tmS i) "java/lang/String" "value" "[B") (.int (Int32.ofNat j))) (.int ((strBys.getD i []).getD j 0))) := by decide +kernel
theorem g_ne : ∀ i, i < 13 → ∀ j, j < i → (flatC nar)[ixS i + 4 + strLens.getD i 0 + j]? = some (Cond.not (Cond.eq (tmS j) (tmS i))) := by decide +kernel
theorem g_lt : ∀ i, i < 13 → strLens.getD i 0 < 2 ^ 31 := by decide +kernel
def tmK : Term := .static "LeftTillCalled" "KIND_ABOVE" "[I"
theorem g_ka : (flatC nar)[5]? = some (Cond.arrayOf tmK .int) := by decide +kernel
theorem g_kl : (flatC nar)[6]? = some (Cond.eq (.length tmK) (.int (Int32.ofNat 6))) := by decide +kernel
theorem g_ke : ∀ j, j < 6 → (flatC nar)[7 + j]? = some (Cond.eq (.elem tmK (.int (Int32.ofNat j))) (.int (kaF j))) := by decide +kernel
theorem g_cs : (flatC nar)[13]? = some (Cond.eq (.static "java/lang/String" "COMPACT_STRINGS" "Z") (.int 1)) := by decide +kernel
theorem g_si : (flatC nar)[14]? = some (Cond.isRef (.static "jdk/internal/util/Preconditions" "SIOOBE_FORMATTER" "Ljava/util/function/BiFunction;")) := by decide +kernel
