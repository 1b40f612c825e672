def WU : List Cond := lw_tbl.filter goodWord
theorem wu_of {w : Cond} (h : w ∈ lw_tbl) (g : goodWord w = true) : w ∈ WU := List.mem_filter.mpr ⟨h, g⟩
theorem wu_good : GoodIn WU WU := fun w h => ⟨h, good_of_word (List.mem_filter.mp h).2⟩
-- abstract cells: a reference is the place of a cell in the world, or (1000 and on) a constant's number
abbrev ACell : Type := (Nat × vp_A) ⊕ (Nat × List Value)
abbrev AW : Type := List ACell
abbrev AL : Type := List (Option Value)
def cvV (ad : Nat → Nat) (v : Value) : Value := match v with
  | .ref k => .ref (ad k)
  | v => v
/-- an array of references is kept as the list of its places, class 99 -/
def rfOf (fs : List Value) : Nat → Option Nat := fun j => match fs[j]? with
  | some (.ref a) => some a
  | _ => none
def cvC (tc : Nat → ClassId) (ad : Nat → Nat) (q : ACell) : va_E := match q with
  | .inl (t, a) => .inl (tc t, a)
  | .inr (ci, fs) => if ci = 99 then .inl (tc 3, fs.length, .inr (.inr (.inr (.inr (rfOf (fs.map (cvV ad))))))) else .inr (ci, fs.map (cvV ad))
theorem cvC_obj (tc : Nat → ClassId) (ad : Nat → Nat) {ci : Nat} (fs : List Value) (h : ci ≠ 99) : cvC tc ad (.inr (ci, fs)) = .inr (ci, fs.map (cvV ad)) := if_neg h
theorem cl_ne {ci : Nat} {q : vw_C} (h : vwCl[ci]? = some q) : ci ≠ 99 := fun e => by
  subst e
  simp [vwCl] at h
def cvW (tc : Nat → ClassId) (ad : Nat → Nat) (ws : AW) : va_W := ws.mapIdx (fun k q => (ad k, cvC tc ad q))
def cvL (ad : Nat → Nat) (lo : AL) : List (Nat × Value) := (lo.mapIdx (fun i o => o.map (fun v => (i, cvV ad v)))).filterMap id
def tyL (tc : Nat → ClassId) : List (ClassId × FieldType) := [(tc 0, .int), (tc 1, .long), (tc 2, .byte), (tc 3, .object "LeftTillCalled$Sheet")]
theorem cvV_cat (ad : Nat → Nat) (v : Value) : (cvV ad v).category = v.category := by cases v <;> rfl
theorem cvW_at {tc : Nat → ClassId} {ad : Nat → Nat} {ws : AW} {k : Nat} {q : ACell} (h : ws[k]? = some q) : (cvW tc ad ws)[k]? = some (ad k, cvC tc ad q) := by
  unfold cvW
  rw [List.getElem?_mapIdx, h]
  rfl
theorem cvW_len (tc : Nat → ClassId) (ad : Nat → Nat) (ws : AW) : (cvW tc ad ws).length = ws.length := by
  unfold cvW
  exact List.length_mapIdx
theorem cvW_set (tc : Nat → ClassId) (ad : Nat → Nat) (ws : AW) (k : Nat) (q : ACell) : cvW tc ad (ws.set k q) = (cvW tc ad ws).set k (ad k, cvC tc ad q) := by
  unfold cvW
  apply List.ext_getElem?
  intro i
  simp only [List.getElem?_mapIdx, List.getElem?_set, List.length_mapIdx]
  by_cases h : k = i
  · subst h
    by_cases h2 : k < ws.length
    · simp [h2]
    · simp [h2]
  · simp [h]
theorem cvL_mem {ad : Nat → Nat} {lo : AL} {q : Nat × Value} : q ∈ cvL ad lo ↔ ∃ v, lo[q.1]? = some (some v) ∧ q.2 = cvV ad v := by
  unfold cvL
  rw [List.mem_filterMap]
  constructor
  · rintro ⟨o, h1, h2⟩
    obtain ⟨i, hi⟩ := List.mem_iff_getElem?.mp h1
    rw [List.getElem?_mapIdx] at hi
    cases h3 : lo[i]? with
    | none => rw [h3] at hi; cases hi
    | some w =>
      rw [h3] at hi
      cases w with
      | none => cases hi; cases h2
      | some v =>
        cases hi
        cases h2
        exact ⟨v, h3, rfl⟩
  · rintro ⟨v, h1, h2⟩
    refine ⟨some q, List.mem_iff_getElem?.mpr ⟨q.1, ?_⟩, rfl⟩
    rw [List.getElem?_mapIdx, h1]
    show some (some (q.1, cvV ad v)) = _
    rw [← h2]
-- distinct addresses: of the places alone
theorem cvD_same {A : Nat → Prop} {tc : Nat → ClassId} {ad : Nat → Nat} {ws ws' : AW} (h : ws'.length = ws.length) (hD : va_D A (cvW tc ad ws)) : va_D A (cvW tc ad ws') := by
  have key : ∀ (i : Nat) (q : Nat × va_E), (cvW tc ad ws')[i]? = some q → ∃ e, (cvW tc ad ws)[i]? = some (q.1, e) := by
    intro i q hq
    have hi : i < (cvW tc ad ws').length := (List.getElem?_eq_some_iff.mp hq).1
    rw [cvW_len, h] at hi
    have h1 : ws[i]? = some ws[i] := List.getElem?_eq_some_iff.mpr ⟨hi, rfl⟩
    have hi' : i < ws'.length := by rw [h]; exact hi
    have h2 : ws'[i]? = some ws'[i] := List.getElem?_eq_some_iff.mpr ⟨hi', rfl⟩
    have h3 := cvW_at (tc := tc) (ad := ad) h2
    rw [hq] at h3
    cases h3
    exact ⟨_, cvW_at h1⟩
  refine ⟨fun i j p q hp hq he => ?_, fun k q hq => ?_⟩
  · obtain ⟨e1, h1⟩ := key i p hp
    obtain ⟨e2, h2⟩ := key j q hq
    exact hD.1 i j _ _ h1 h2 he
  · obtain ⟨e1, h1⟩ := key k q hq
    exact hD.2 k (q.1, e1) h1
-- what stays outside the worlds: links of nest mates, KIND_ABOVE, the texts
def kaF : Nat → Int32 := fun j => match j with
  | 0 => -1
  | 1 => 0
  | 2 => 0
  | 3 => 0
  | 4 => 1
  | _ => 2
abbrev NestQ : Type := String × Nat × String × String × String
def nestC (q : NestQ) : Cond := .fieldLinkNest q.1 q.2.1 q.2.2.1 q.2.2.2.1 q.2.2.2.2 "LeftTillCalled"
def nestL : List NestQ := [("LeftTillCalled", 143, "LeftTillCalled$Station", "day", "I"), ("LeftTillCalled", 151, "LeftTillCalled$Station", "taken", "I"), ("LeftTillCalled", 65, "LeftTillCalled$Station", "means", "[I"), ("LeftTillCalled$Text", 84, "LeftTillCalled$Station", "means", "[I"), ("LeftTillCalled", 68, "LeftTillCalled$Station", "earns", "[I"), ("LeftTillCalled$Text", 77, "LeftTillCalled$Station", "earns", "[I"), ("LeftTillCalled", 71, "LeftTillCalled$Station", "spends", "[I"), ("LeftTillCalled$Text", 82, "LeftTillCalled$Station", "spends", "[I"), ("LeftTillCalled", 184, "LeftTillCalled$Station", "things", "I"), ("LeftTillCalled", 99, "LeftTillCalled$Station", "kinds", "[I"), ("LeftTillCalled", 74, "LeftTillCalled$Station", "labels", "[I"), ("LeftTillCalled", 102, "LeftTillCalled$Station", "lefts", "[I"), ("LeftTillCalled", 105, "LeftTillCalled$Station", "dues", "[I"), ("LeftTillCalled", 108, "LeftTillCalled$Station", "worths", "[I"), ("LeftTillCalled", 81, "LeftTillCalled$Station", "withs", "[I"), ("LeftTillCalled$Text", 89, "LeftTillCalled$Tape", "bytes", "[B"), ("LeftTillCalled$Text", 86, "LeftTillCalled$Tape", "length", "I"), ("LeftTillCalled", 187, "LeftTillCalled$Tape", "length", "I"), ("LeftTillCalled", 33, "LeftTillCalled$Text", "tape", "LLeftTillCalled$Tape;"), ("LeftTillCalled", 225, "LeftTillCalled$Sheet", "bits", "I"), ("LeftTillCalled", 212, "LeftTillCalled$Sheet", "length", "I"), ("LeftTillCalled", 217, "LeftTillCalled$Sheet", "numbers", "[J")]
-- the 13 texts of LeftTillCalled$Text: entry, text, bytes
def strT : List (Nat × String × List Int32) := [(34, "means", [109, 101, 97, 110, 115]), (75, "earns", [101, 97, 114, 110, 115]), (80, "spends", [115, 112, 101, 110, 100, 115]), (114, "parcel", [112, 97, 114, 99, 101, 108]), (116, "lady", [108, 97, 100, 121]), (118, "glove", [103, 108, 111, 118, 101]), (120, "regiment", [114, 101, 103, 105, 109, 101, 110, 116]), (122, "wife", [119, 105, 102, 101]), (124, "hatbox", [104, 97, 116, 98, 111, 120]), (126, "", []), (57, "for", [102, 111, 114]), (63, "due", [100, 117, 101]), (65, "worth", [119, 111, 114, 116, 104])]
def strB (i : Nat) : List Int32 := (strT.getD i (0, "", [])).2.2
def strLens : List Nat := strT.map (fun q => q.2.2.length)
def strBys : List (List Int32) := strT.map (fun q => q.2.2)
def Glob (ad : Nat → Nat) (A : Nat → Prop) (U : State) (H : Heap) : Prop :=
  (∀ q ∈ nestL, va_Nw (nestC q) U) ∧ va_Z "LeftTillCalled" "KIND_ABOVE" "[I" (.ref (ad 1100)) A U H ∧ va_T .int (ad 1100) 6 (fun j => .int (kaF j)) A U H ∧
  (∀ i, i < 13 → vk_R "LeftTillCalled$Text" (strT.getD i (0, "", [])).1 (strT.getD i (0, "", [])).2.1 (ad (1000 + i)) U) ∧
  (∃ adV : Nat → Nat, vk_S 13 strLens strBys (fun i => ad (1000 + i)) adV A U H) ∧ va_Z "java/lang/String" "COMPACT_STRINGS" "Z" (.int 1) A U H ∧
  (∃ v : Value, (v = .null ∨ ∃ a, v = .ref a) ∧ va_Z "jdk/internal/util/Preconditions" "SIOOBE_FORMATTER" "Ljava/util/function/BiFunction;" v A U H)
theorem Glob.go {ad ad' : Nat → Nat} {A A' : Nat → Prop} {s U : State} {H : Heap} (h : Glob ad A s s.heap) (hW : s.WarmedH U.vm) (hq : ∀ a : Nat, a < s.heap.size → ¬ A a → H[a]? = s.heap[a]?) (hA : ∀ q, A' q → A q) (he : ∀ k, 1000 ≤ k → ad' k = ad k) : Glob ad' A' U H := by
  obtain ⟨h1, h2, h3, h4, ⟨adV, h5⟩, h6, v, hv, h7⟩ := h
  refine ⟨fun q m => va_Nw.warmF hW (h1 q m), ?_, ?_, fun i hi => ?_, ⟨adV, ?_⟩, ((h6.kept hq).moved hW.alike).narrow hA, v, hv, ((h7.kept hq).moved hW.alike).narrow hA⟩
  · rw [he 1100 (by decide)]; exact ((h2.kept hq).moved hW.alike).narrow hA
  · rw [he 1100 (by decide)]; exact ((h3.kept hq).moved hW.alike).narrow hA
  · rw [he (1000 + i) (by omega)]; exact vk_R.warm hW (h4 i hi)
  · have e : (fun i => ad' (1000 + i)) = (fun i => ad (1000 + i)) := funext fun i => he _ (by omega)
    rw [e]
    exact ((h5.kept hq).moved hW.alike).narrow hA
theorem Glob.same {ad : Nat → Nat} {A : Nat → Prop} {u U : State} {H : Heap} (h : Glob ad A u H) (hv : U.vm = u.vm) : Glob ad A U H := by
  have ha : u.vm.Alike U.vm := by rw [hv]; exact Vm.Alike.refl _
  obtain ⟨h1, h2, h3, h4, ⟨adV, h5⟩, h6, v, hx, h7⟩ := h
  exact ⟨fun q m => va_Nw.same rfl hv.symm (h1 q m), h2.moved ha, h3.moved ha, fun i hi => vk_R.same hv (h4 i hi), ⟨adV, h5.moved ha⟩, h6.moved ha, v, hx, h7.moved ha⟩
-- THE ABSTRACT MACHINE
/-- a branch that nothing unfolds -/
noncomputable def br {ρ : Type} (c : Prop) [Decidable c] (x y : Option ρ) : Option ρ := Classical.choose (⟨fun x y => if c then x else y, rfl⟩ : ∃ f : Option ρ → Option ρ → Option ρ, f = fun x y => if c then x else y) x y
theorem br_eq {ρ : Type} (c : Prop) [Decidable c] (x y : Option ρ) : br c x y = if c then x else y := by
  unfold br
  rw [Classical.choose_spec (⟨fun x y => if c then x else y, rfl⟩ : ∃ f : Option ρ → Option ρ → Option ρ, f = fun x y => if c then x else y)]
theorem br_so {ρ : Type} {res : ρ} {c : Prop} [Decidable c] {a b : Option ρ} (h : br c a b = some res) : (c → a = some res) ∧ (¬ c → b = some res) := by
  rw [br_eq] at h
  by_cases q : c
  · rw [if_pos q] at h; exact ⟨fun _ => h, fun z => absurd q z⟩
  · rw [if_neg q] at h; exact ⟨fun z => absurd z q, fun _ => h⟩
abbrev Kont (ρ : Type) : Type := Nat → AL → List Value → AW → Option ρ
abbrev Callee : Type 1 := ∀ ρ : Type, List Value → AW → (Option Value → AW → Option ρ) → Option ρ
/-- an entry: the instruction, its length, the constant that it pushes, where it jumps, a switch's rows -/
abbrev Ent : Type := Instr × Nat × Value × Nat × List (Int32 × Nat)
/-- a class's pool: fields (class, place, 0 int 1 boolean 2 not written), constants -/
abbrev Fls : Type := List (Nat × Nat × Nat × Nat)
abbrev Cns : Type := List (Nat × Value)
abbrev Cal : Type 1 := List (Nat × Nat × Nat × Callee)
abbrev CAr : Type := Nat → Option (Nat × (Nat → Int32))
def okS1 (lo : AL) (i : Nat) : Bool := match i with
  | 0 => true
  | j + 1 => match lo[j]? with
    | some (some u) => u.category == 1
    | _ => true
def catSum (st : List Value) : Nat := (st.map (fun v => v.category)).sum
def aLdI {ρ : Type} (k : Kont ρ) (pc i : Nat) (lo : AL) (st : List Value) (ws : AW) : Option ρ := match lo[i]? with
  | some (some (.int x)) => k pc lo (.int x :: st) ws
  | _ => none
def aLdL {ρ : Type} (k : Kont ρ) (pc i : Nat) (lo : AL) (st : List Value) (ws : AW) : Option ρ := match lo[i]? with
  | some (some (.long x)) => k pc lo (.long x :: st) ws
  | _ => none
def aLdA {ρ : Type} (k : Kont ρ) (pc i : Nat) (lo : AL) (st : List Value) (ws : AW) : Option ρ := match lo[i]? with
  | some (some (.ref x)) => k pc lo (.ref x :: st) ws
  | _ => none
def aStI {ρ : Type} (k : Kont ρ) (pc i : Nat) (lo : AL) (st : List Value) (ws : AW) : Option ρ := match st with
  | .int x :: st => if i < lo.length ∧ okS1 lo i = true then k pc (lo.set i (some (.int x))) st ws else none
  | _ => none
def aStA {ρ : Type} (k : Kont ρ) (pc i : Nat) (lo : AL) (st : List Value) (ws : AW) : Option ρ := match st with
  | .ref x :: st => if i < lo.length ∧ okS1 lo i = true then k pc (lo.set i (some (.ref x))) st ws else none
  | _ => none
def aStL {ρ : Type} (k : Kont ρ) (pc i : Nat) (lo : AL) (st : List Value) (ws : AW) : Option ρ := match st with
  | .long x :: st => if i + 1 < lo.length ∧ okS1 lo i = true then k pc ((lo.set i (some (.long x))).set (i + 1) none) st ws else none
  | _ => none
def aInc {ρ : Type} (k : Kont ρ) (pc i : Nat) (d : Int32) (lo : AL) (st : List Value) (ws : AW) : Option ρ := match lo[i]? with
  | some (some (.int x)) => if okS1 lo i = true then k pc (lo.set i (some (.int (x + d)))) st ws else none
  | _ => none
def aBin {ρ : Type} (f : Int32 → Int32 → Int32) (k : Kont ρ) (pc : Nat) (lo : AL) (st : List Value) (ws : AW) : Option ρ := match st with
  | .int y :: .int x :: st => k pc lo (.int (f x y) :: st) ws
  | _ => none
def aBinL {ρ : Type} (f : Int64 → Int64 → Int64) (k : Kont ρ) (pc : Nat) (lo : AL) (st : List Value) (ws : AW) : Option ρ := match st with
  | .long y :: .long x :: st => k pc lo (.long (f x y) :: st) ws
  | _ => none
def aDiv {ρ : Type} (f : Int32 → Int32 → Int32) (k : Kont ρ) (pc : Nat) (lo : AL) (st : List Value) (ws : AW) : Option ρ := match st with
  | .int y :: .int x :: st => if y = 0 then none else k pc lo (.int (f x y) :: st) ws
  | _ => none
def aLsh {ρ : Type} (k : Kont ρ) (pc : Nat) (lo : AL) (st : List Value) (ws : AW) : Option ρ := match st with
  | .int y :: .long x :: st => k pc lo (.long (x <<< (y.toInt64 &&& 63)) :: st) ws
  | _ => none
def aCmpL {ρ : Type} (k : Kont ρ) (pc : Nat) (lo : AL) (st : List Value) (ws : AW) : Option ρ := match st with
  | .long y :: .long x :: st => k pc lo (.int (lg_cmp x y) :: st) ws
  | _ => none
def aUn {ρ : Type} (f : Int32 → Int32) (k : Kont ρ) (pc : Nat) (lo : AL) (st : List Value) (ws : AW) : Option ρ := match st with
  | .int x :: st => k pc lo (.int (f x) :: st) ws
  | _ => none
def aI2L {ρ : Type} (k : Kont ρ) (pc : Nat) (lo : AL) (st : List Value) (ws : AW) : Option ρ := match st with
  | .int x :: st => k pc lo (.long x.toInt64 :: st) ws
  | _ => none
def aL2I {ρ : Type} (k : Kont ρ) (pc : Nat) (lo : AL) (st : List Value) (ws : AW) : Option ρ := match st with
  | .long x :: st => k pc lo (.int x.toInt32 :: st) ws
  | _ => none
def aDup {ρ : Type} (k : Kont ρ) (pc : Nat) (lo : AL) (st : List Value) (ws : AW) : Option ρ := match st with
  | v :: st => if v.category = 1 then k pc lo (v :: v :: st) ws else none
  | _ => none
def aPop {ρ : Type} (k : Kont ρ) (pc : Nat) (lo : AL) (st : List Value) (ws : AW) : Option ρ := match st with
  | v :: st => if v.category = 1 then k pc lo st ws else none
  | _ => none
def aDup2 {ρ : Type} (k : Kont ρ) (pc : Nat) (lo : AL) (st : List Value) (ws : AW) : Option ρ := match st with
  | v :: w :: st => if v.category = 1 ∧ w.category = 1 then k pc lo (v :: w :: v :: w :: st) ws else none
  | _ => none
noncomputable def aIf {ρ : Type} (b : Jvm.ClassFile.Cond) (k : Kont ρ) (pc tgt : Nat) (lo : AL) (st : List Value) (ws : AW) : Option ρ := match st with
  | .int x :: st => match b with
    | .eq => br (x = 0) (k tgt lo st ws) (k (pc + 3) lo st ws)
    | .ne => br (x = 0) (k (pc + 3) lo st ws) (k tgt lo st ws)
    | .lt => br (x < 0) (k tgt lo st ws) (k (pc + 3) lo st ws)
    | .ge => br (0 ≤ x) (k tgt lo st ws) (k (pc + 3) lo st ws)
    | .gt => br (0 < x) (k tgt lo st ws) (k (pc + 3) lo st ws)
    | .le => br (x ≤ 0) (k tgt lo st ws) (k (pc + 3) lo st ws)
  | _ => none
noncomputable def aIcmp {ρ : Type} (b : Jvm.ClassFile.Cond) (k : Kont ρ) (pc tgt : Nat) (lo : AL) (st : List Value) (ws : AW) : Option ρ := match st with
  | .int y :: .int x :: st => match b with
    | .eq => br (x = y) (k tgt lo st ws) (k (pc + 3) lo st ws)
    | .ne => br (x = y) (k (pc + 3) lo st ws) (k tgt lo st ws)
    | .lt => br (x < y) (k tgt lo st ws) (k (pc + 3) lo st ws)
    | .ge => br (y ≤ x) (k tgt lo st ws) (k (pc + 3) lo st ws)
    | .gt => br (y < x) (k tgt lo st ws) (k (pc + 3) lo st ws)
    | .le => br (x ≤ y) (k tgt lo st ws) (k (pc + 3) lo st ws)
  | _ => none
noncomputable def aSwG {ρ : Type} (k : Nat → Option ρ) (x : Int32) (d : Nat) : List (Int32 × Nat) → Option ρ
  | [] => k d
  | q :: r => br (x = q.1) (k q.2) (aSwG k x d r)
noncomputable def aSw {ρ : Type} (k : Kont ρ) (tgt : Nat) (sw : List (Int32 × Nat)) (lo : AL) (st : List Value) (ws : AW) : Option ρ := match st with
  | .int x :: st => aSwG (fun t => k t lo st ws) x tgt sw
  | _ => none
noncomputable def aIald {ρ : Type} (ca : CAr) (k : Kont ρ) (pc : Nat) (lo : AL) (st : List Value) (ws : AW) : Option ρ := match st with
  | .int i :: .ref a :: st => match ws[a]? with
    | some (.inl (0, n, .inl f)) => br (i < 0 ∨ n ≤ i.toNatClampNeg) none (k pc lo (.int (f i.toNatClampNeg) :: st) ws)
    | none => match ca a with
      | some (n, f) => br (i < 0 ∨ n ≤ i.toNatClampNeg) none (k pc lo (.int (f i.toNatClampNeg) :: st) ws)
      | none => none
    | _ => none
  | _ => none
noncomputable def aLald {ρ : Type} (k : Kont ρ) (pc : Nat) (lo : AL) (st : List Value) (ws : AW) : Option ρ := match st with
  | .int i :: .ref a :: st => match ws[a]? with
    | some (.inl (1, n, .inr (.inl f))) => br (i < 0 ∨ n ≤ i.toNatClampNeg) none (k pc lo (.long (f i.toNatClampNeg) :: st) ws)
    | _ => none
  | _ => none
noncomputable def aBald {ρ : Type} (k : Kont ρ) (pc : Nat) (lo : AL) (st : List Value) (ws : AW) : Option ρ := match st with
  | .int i :: .ref a :: st => match ws[a]? with
    | some (.inl (2, n, .inl f)) => br (i < 0 ∨ n ≤ i.toNatClampNeg) none (k pc lo (.int (f i.toNatClampNeg) :: st) ws)
    | _ => none
  | _ => none
noncomputable def aPick {ρ : Type} (k : Nat → Option ρ) (i : Int32) : List Value → Nat → Option ρ
  | [], _ => none
  | v :: r, j => br (i = nI j) (match v with | .ref a => k a | _ => none) (aPick k i r (j + 1))
noncomputable def aAald {ρ : Type} (k : Kont ρ) (pc : Nat) (lo : AL) (st : List Value) (ws : AW) : Option ρ := match st with
  | .int i :: .ref a :: st => match ws[a]? with
    | some (.inr (99, fs)) => if fs.length < 1000 then aPick (fun q => k pc lo (.ref q :: st) ws) i fs 0 else none
    | _ => none
  | _ => none
noncomputable def aIast {ρ : Type} (k : Kont ρ) (pc : Nat) (lo : AL) (st : List Value) (ws : AW) : Option ρ := match st with
  | .int x :: .int i :: .ref a :: st => match ws[a]? with
    | some (.inl (0, n, .inl f)) => br (i < 0 ∨ n ≤ i.toNatClampNeg) none (k pc lo st (ws.set a (.inl (0, n, .inl (upd f i.toNatClampNeg x)))))
    | _ => none
  | _ => none
noncomputable def aLast {ρ : Type} (k : Kont ρ) (pc : Nat) (lo : AL) (st : List Value) (ws : AW) : Option ρ := match st with
  | .long x :: .int i :: .ref a :: st => match ws[a]? with
    | some (.inl (1, n, .inr (.inl f))) => br (i < 0 ∨ n ≤ i.toNatClampNeg) none (k pc lo st (ws.set a (.inl (1, n, .inr (.inl (vp_updL f i.toNatClampNeg x))))))
    | _ => none
  | _ => none
noncomputable def aBast {ρ : Type} (k : Kont ρ) (pc : Nat) (lo : AL) (st : List Value) (ws : AW) : Option ρ := match st with
  | .int x :: .int i :: .ref a :: st => match ws[a]? with
    | some (.inl (2, n, .inl f)) => br (i < 0 ∨ n ≤ i.toNatClampNeg) none (k pc lo st (ws.set a (.inl (2, n, .inl (upd f i.toNatClampNeg (vp_nar .byte x))))))
    | _ => none
  | _ => none
def aLen {ρ : Type} (ca : CAr) (k : Kont ρ) (pc : Nat) (lo : AL) (st : List Value) (ws : AW) : Option ρ := match st with
  | .ref a :: st => match ws[a]?, ca a with
    | none, some (n, _) => k pc lo (.int (Int32.ofNat n) :: st) ws
    | _, _ => none
  | _ => none
def aGet {ρ : Type} (fl : Fls) (ix : Nat) (k : Kont ρ) (pc : Nat) (lo : AL) (st : List Value) (ws : AW) : Option ρ := match st with
  | .ref a :: st => match fl.lookup ix, ws[a]? with
    | some (ci, fk, _), some (.inr (cj, fs)) => if ci = cj then (match fs[fk]? with
      | some v => k pc lo (v :: st) ws
      | none => none) else none
    | _, _ => none
  | _ => none
noncomputable def aPut {ρ : Type} (fl : Fls) (ix : Nat) (k : Kont ρ) (pc : Nat) (lo : AL) (st : List Value) (ws : AW) : Option ρ := match st with
  | .int x :: .ref a :: st => match fl.lookup ix, ws[a]? with
    | some (ci, fk, 0), some (.inr (cj, fs)) => if ci = cj ∧ fk < fs.length then k pc lo st (ws.set a (.inr (ci, fs.set fk (.int x)))) else none
    | some (ci, fk, 1), some (.inr (cj, fs)) => if ci = cj ∧ fk < fs.length then br (x = 0 ∨ x = 1) (k pc lo st (ws.set a (.inr (ci, fs.set fk (.int x))))) none else none
    | _, _ => none
  | _ => none
def aGets {ρ : Type} (ks : Nat) (ix : Nat) (k : Kont ρ) (pc : Nat) (lo : AL) (st : List Value) (ws : AW) : Option ρ := if ix = ks then k pc lo (.ref 1100 :: st) ws else none
def aCall {ρ : Type} (E : Cal) (kd ix : Nat) (k : Kont ρ) (pc : Nat) (lo : AL) (st : List Value) (ws : AW) : Option ρ := match E.lookup ix with
  | some (kd', n, F) => if (kd' = kd ∧ n ≤ st.length) ∧ catSum (st.drop n) ≤ 8 then F ρ (st.take n).reverse ws (fun r ws' => k pc lo (r.toList ++ st.drop n) ws') else none
  | none => none
noncomputable def aRetI {ρ : Type} (rt : Option FieldType) (κ : Option Value → AW → Option ρ) (st : List Value) (ws : AW) : Option ρ := match st, rt with
  | [.int x], some .int => κ (some (.int x)) ws
  | [.int x], some .boolean => br (x = 0 ∨ x = 1) (κ (some (.int x)) ws) none
  | _, _ => none
def aRetL {ρ : Type} (rt : Option FieldType) (κ : Option Value → AW → Option ρ) (st : List Value) (ws : AW) : Option ρ := match st, rt with
  | [.long x], some .long => κ (some (.long x)) ws
  | _, _ => none
def aRetA {ρ : Type} (rt : Option FieldType) (κ : Option Value → AW → Option ρ) (st : List Value) (ws : AW) : Option ρ := match st, rt with
  | [.ref x], some (.object _) => κ (some (.ref x)) ws
  | _, _ => none
def aRetV {ρ : Type} (rt : Option FieldType) (κ : Option Value → AW → Option ρ) (st : List Value) (ws : AW) : Option ρ := match st, rt with
  | [], none => κ none ws
  | _, _ => none
noncomputable def astep {ρ : Type} (fl : Fls) (ks : Nat) (ca : CAr) (E : Cal) (rt : Option FieldType) (k : Kont ρ) (κ : Option Value → AW → Option ρ) (pc : Nat) (q : Ent) (lo : AL) (st : List Value) (ws : AW) : Option ρ := match q.1 with
  | .iconst _ => k (pc + 1) lo (q.2.2.1 :: st) ws
  | .bipush _ => k (pc + 2) lo (q.2.2.1 :: st) ws
  | .sipush _ => k (pc + 3) lo (q.2.2.1 :: st) ws
  | .lconst _ => k (pc + 1) lo (q.2.2.1 :: st) ws
  | .ldc _ => k (pc + 2) lo (q.2.2.1 :: st) ws
  | .ldc_w _ => k (pc + 3) lo (q.2.2.1 :: st) ws
  | .ldc2_w _ => k (pc + 3) lo (q.2.2.1 :: st) ws
  | .iload_n j => aLdI k (pc + 1) j.val lo st ws
  | .iload j => aLdI k (pc + 2) j lo st ws
  | .lload_n j => aLdL k (pc + 1) j.val lo st ws
  | .lload j => aLdL k (pc + 2) j lo st ws
  | .aload_n j => aLdA k (pc + 1) j.val lo st ws
  | .aload j => aLdA k (pc + 2) j lo st ws
  | .istore_n j => aStI k (pc + 1) j.val lo st ws
  | .istore j => aStI k (pc + 2) j lo st ws
  | .lstore_n j => aStL k (pc + 1) j.val lo st ws
  | .lstore j => aStL k (pc + 2) j lo st ws
  | .astore_n j => aStA k (pc + 1) j.val lo st ws
  | .astore j => aStA k (pc + 2) j lo st ws
  | .iinc j _ => (match q.2.2.1 with
    | .int d => aInc k (pc + 3) j d lo st ws
    | _ => none)
  | .iadd => aBin (fun x y => x + y) k (pc + 1) lo st ws
  | .isub => aBin (fun x y => x - y) k (pc + 1) lo st ws
  | .imul => aBin (fun x y => x * y) k (pc + 1) lo st ws
  | .iand => aBin (fun x y => x &&& y) k (pc + 1) lo st ws
  | .ior => aBin (fun x y => x ||| y) k (pc + 1) lo st ws
  | .ishl => aBin (fun x y => x <<< (y &&& 31)) k (pc + 1) lo st ws
  | .ishr => aBin (fun x y => x >>> (y &&& 31)) k (pc + 1) lo st ws
  | .iushr => aBin (fun x y => (x.toUInt32 >>> (y.toUInt32 &&& Int32.toUInt32 31)).toInt32) k (pc + 1) lo st ws
  | .idiv => aDiv (fun x y => x / y) k (pc + 1) lo st ws
  | .irem => aDiv (fun x y => x - x / y * y) k (pc + 1) lo st ws
  | .ladd => aBinL (fun x y => x + y) k (pc + 1) lo st ws
  | .lmul => aBinL (fun x y => x * y) k (pc + 1) lo st ws
  | .lor => aBinL (fun x y => x ||| y) k (pc + 1) lo st ws
  | .land => aBinL (fun x y => x &&& y) k (pc + 1) lo st ws
  | .lshl => aLsh k (pc + 1) lo st ws
  | .lcmp => aCmpL k (pc + 1) lo st ws
  | .i2b => aUn (fun x => x.toInt8.toInt32) k (pc + 1) lo st ws
  | .i2s => aUn (fun x => x.toInt16.toInt32) k (pc + 1) lo st ws
  | .i2l => aI2L k (pc + 1) lo st ws
  | .l2i => aL2I k (pc + 1) lo st ws
  | .dup => aDup k (pc + 1) lo st ws
  | .pop => aPop k (pc + 1) lo st ws
  | .dup2 => aDup2 k (pc + 1) lo st ws
  | .ifCond b _ => aIf b k pc q.2.2.2.1 lo st ws
  | .if_icmp b _ => aIcmp b k pc q.2.2.2.1 lo st ws
  | .goto _ => k q.2.2.2.1 lo st ws
  | .tableswitch _ _ _ _ => aSw k q.2.2.2.1 q.2.2.2.2 lo st ws
  | .lookupswitch _ _ => aSw k q.2.2.2.1 q.2.2.2.2 lo st ws
  | .iaload => aIald ca k (pc + 1) lo st ws
  | .laload => aLald k (pc + 1) lo st ws
  | .baload => aBald k (pc + 1) lo st ws
  | .aaload => aAald k (pc + 1) lo st ws
  | .iastore => aIast k (pc + 1) lo st ws
  | .lastore => aLast k (pc + 1) lo st ws
  | .bastore => aBast k (pc + 1) lo st ws
  | .arraylength => aLen ca k (pc + 1) lo st ws
  | .getfield ix => aGet fl ix k (pc + 3) lo st ws
  | .putfield ix => aPut fl ix k (pc + 3) lo st ws
  | .getstatic ix => aGets ks ix k (pc + 3) lo st ws
  | .invokevirtual ix => aCall E 0 ix k (pc + 3) lo st ws
  | .invokestatic ix => aCall E 1 ix k (pc + 3) lo st ws
  | .invokespecial ix => aCall E 2 ix k (pc + 3) lo st ws
  | .ireturn => aRetI rt κ st ws
  | .lreturn => aRetL rt κ st ws
  | .areturn => aRetA rt κ st ws
  | .return_ => aRetV rt κ st ws
  | _ => none
def maskL : List Bool → AL → AL
  | b :: r, o :: lo => (if b then o else none) :: maskL r lo
  | _, lo => lo
noncomputable def runG {ρ : Type} (T : List (Nat × Ent)) (hd : List (Nat × List Bool)) (fl : Fls) (ks : Nat) (ca : CAr) (E : Cal) (rt : Option FieldType) (κ : Option Value → AW → Option ρ) (back : Kont ρ) : Nat → Kont ρ
  | 0, _, _, _, _ => none
  | g + 1, pc, lo, st, ws => match T.lookup pc with
    | none => none
    | some q => astep fl ks ca E rt (fun pc' lo' st' ws' => match hd.lookup pc' with
        | some msk => back pc' (maskL msk lo') st' ws'
        | none => runG T hd fl ks ca E rt κ back g pc' lo' st' ws') κ pc q lo st ws
noncomputable def run {ρ : Type} (T : List (Nat × Ent)) (hd : List (Nat × List Bool)) (fl : Fls) (ks : Nat) (ca : CAr) (E : Cal) (rt : Option FieldType) (κ : Option Value → AW → Option ρ) : Nat → Kont ρ
  | 0, _, _, _, _ => none
  | n + 1, pc, lo, st, ws => runG T hd fl ks ca E rt κ (run T hd fl ks ca E rt κ n) 2000 pc lo st ws
