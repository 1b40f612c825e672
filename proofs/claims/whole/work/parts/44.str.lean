/-- the texts: lengths and characters -/
def strL (q : Nat) : Nat := (strB (q - 1000)).length
def strLn (q : Nat) : Int32 := nI (strL q)
def strCh (q k : Nat) : Int32 := (strB (q - 1000)).getD k 0
noncomputable def fLen : Callee := fun _ as ws κ => match as with
  | [.ref q] => br (1000 ≤ q ∧ q < 1013) (κ (some (.int (strLn q))) ws) none
  | _ => none
noncomputable def fChr : Callee := fun _ as ws κ => match as with
  | [.ref q, .int i] => br ((1000 ≤ q ∧ q < 1013) ∧ ¬ (i < 0 ∨ strL q ≤ i.toNatClampNeg)) (κ (some (.int (strCh q i.toNatClampNeg))) ws) none
  | _ => none
theorem callOK_len {R : Room} {own : String} {cc : ByteArray} {ix : Nat} (h1 : Cond.methodLink own ix yJ0_length_8abf5 ∈ WU) (hR : 2 ≤ R.frames ∧ 50 ≤ R.locals) : CallOK R own cc ix 0 1 fLen := sorry
theorem callOK_chr {R : Room} {own : String} {cc : ByteArray} {ix : Nat} (h1 : Cond.methodLink own ix yJ0_charAt_5068e ∈ WU) (hR : 5 ≤ R.frames ∧ 141 ≤ R.locals) : CallOK R own cc ix 0 2 fChr := sorry
