-- CONTRACTS: a method, its arguments and its world before and behind
def caG : CAr := fun a => if a = 1100 then some (6, kaF) else none
def MPre (D : va_G) (tc : Nat → ClassId) (ad : Nat → Nat) (as : List Value) (ws : AW) (sz : Nat) : Array Value → State → Prop :=
  va_Pc (as.map (cvV ad)) (fun U => U.heap.size = sz ∧ va_P D vwCl (cvW tc ad ws) U.heap ∧ va_K D vwCl (tyL tc) U ∧ va_D (fun _ => True) (cvW tc ad ws) ∧ Glob ad (va_A (cvW tc ad ws) sz) U U.heap)
def MPost (D : va_G) (tc : Nat → ClassId) (ad : Nat → Nat) (ws : AW) (sz : Nat) (v : Option Value) (ws' : AW) : Array Value → State → Outcome → State → Prop :=
  fun _ st oc t => (oc = .returned (v.map (cvV ad)) ∧ va_P D vwCl (cvW tc ad ws') t.heap) ∧ va_F (va_A (cvW tc ad ws) sz) st t
def Doc (y : MethodName) (rm : Room) (cc : ByteArray) (maxL : Nat) (rt : Option FieldType) (as : List Value) (ws : AW) (v : Option Value) (ws' : AW) : Prop :=
  ws'.length = ws.length ∧ ∀ (l : Launch) (D : va_G) (tc : Nat → ClassId) (ad : Nat → Nat) (sz : Nat), Met l y (.code y cc maxL rt :: WU) rm (MPre D tc ad as ws sz) (MPost D tc ad ws sz v ws') 0 0 (va_A (cvW tc ad ws) sz)
def aLo : List Value → AL
  | [] => []
  | v :: r => if v.category = 2 then some v :: none :: aLo r else some v :: aLo r
def loIn (n : Nat) (as : List Value) : AL := aLo as ++ List.replicate (n - (aLo as).length) none
theorem aLo_at {ad : Nat → Nat} : ∀ (as : List Value) (i j : Nat) (v : Value), (aLo as)[j]? = some (some v) → (i + j, cvV ad v) ∈ lv_args i (as.map (cvV ad))
  | [], i, j, v, h => by simp [aLo] at h
  | a :: r, i, j, v, h => by
    show _ ∈ (i, cvV ad a) :: lv_args (if (cvV ad a).category = 2 then i + 2 else i + 1) (r.map (cvV ad))
    rw [cvV_cat]
    unfold aLo at h
    by_cases e : a.category = 2
    · rw [if_pos e] at h ⊢
      match j, h with
      | 0, h => cases h; exact List.mem_cons_self
      | 1, h => cases h
      | j + 2, h =>
        have := aLo_at (ad := ad) r (i + 2) j v h
        rw [show i + (j + 2) = i + 2 + j by omega]
        exact List.mem_cons_of_mem _ this
    · rw [if_neg e] at h ⊢
      match j, h with
      | 0, h => cases h; exact List.mem_cons_self
      | j + 1, h =>
        have := aLo_at (ad := ad) r (i + 1) j v h
        rw [show i + (j + 1) = i + 1 + j by omega]
        exact List.mem_cons_of_mem _ this
theorem aLo_len {ad : Nat → Nat} : ∀ (as : List Value), (lg_sl (as.map (cvV ad))).length = (aLo as).length
  | [] => rfl
  | a :: r => by
    have ih := aLo_len (ad := ad) r
    have e : lg_sl ((a :: r).map (cvV ad)) = (if (cvV ad a).category = 2 then [Slot.val (cvV ad a), Slot.second] else [Slot.val (cvV ad a)]) ++ lg_sl (r.map (cvV ad)) := rfl
    have e2 : aLo (a :: r) = if a.category = 2 then some a :: none :: aLo r else some a :: aLo r := rfl
    rw [e, List.length_append, ih, cvV_cat, e2]
    by_cases h : a.category = 2
    · rw [if_pos h, if_pos h]
      simp only [List.length_cons, List.length_nil]
      omega
    · rw [if_neg h, if_neg h]
      simp only [List.length_cons, List.length_nil]
      omega
theorem loIn_has {ad : Nat → Nat} {n : Nat} {as : List Value} (h : (aLo as).length ≤ n) : lv_has ((lg_sl (as.map (cvV ad)) ++ List.replicate (n - (lg_sl (as.map (cvV ad))).length) Slot.unset).toArray) n (cvL ad (loIn n as)) := by
  have hl := lv_entry (as.map (cvV ad)) (n := n) (by rw [aLo_len]; exact h)
  refine ⟨hl.1, hl.2.1, fun q hq => hl.2.2 q ?_⟩
  obtain ⟨v, h1, h2⟩ := cvL_mem.mp hq
  have h3 : (aLo as)[q.1]? = some (some v) := by
    unfold loIn at h1
    by_cases e : q.1 < (aLo as).length
    · rw [List.getElem?_append_left e] at h1; exact h1
    · rw [List.getElem?_append_right (Nat.not_lt.mp e), List.getElem?_replicate] at h1
      split at h1 <;> cases h1
  have h4 := aLo_at (ad := ad) as 0 q.1 v h3
  rw [Nat.zero_add, ← h2] at h4
  exact h4
theorem loIn_len {n : Nat} {as : List Value} (h : (aLo as).length ≤ n) : (loIn n as).length = n := by
  unfold loIn
  rw [List.length_append, List.length_replicate]
  omega
theorem doc_of_run {y : MethodName} {rm : Room} {cc : ByteArray} {maxL : Nat} {rt : Option FieldType} {T : List (Nat × Ent)} {hd : List (Nat × List Bool)} {fl : Fls} {cn : Cns} {ks : Nat} {E : Cal} {ρ : Type} {κ : Option Value → AW → Option ρ} {res : ρ} {n : Nat} {as : List Value} {ws : AW} {v0 : Option Value} {ws0 : AW}
    (hy : plainName y.cls = true) (hrm : rm.cells = 0 ∧ rm.slots = 0) (hfl : ∀ ix ci fk kd, fl.lookup ix = some (ci, fk, kd) → FlOK y.cls ix ci fk kd) (hcn : ∀ ix v, cn.lookup ix = some v → CnOK y.cls ix v) (hks : ks ≠ 0 → Cond.fieldLink y.cls ks "LeftTillCalled" "KIND_ABOVE" "[I" ∈ WU) (hE : ∀ ix kd n F, E.lookup ix = some (kd, n, F) → CallOK rm y.cls cc ix kd n F) (hT : tblOK cn cc T = true) (hlen : (aLo as).length ≤ maxL)
    (hκ : ∀ v ws', κ v ws' = some res → v = v0 ∧ ws' = ws0) (hws : ws0.length = ws.length) (h : run T hd fl ks caG E rt κ n 0 (loIn maxL as) [] ws = some res) : Doc y rm cc maxL rt as ws v0 ws0 := by
  refine ⟨hws, fun l D tc ad sz => ?_⟩
  refine Met.ofW (cc := cc) (maxL := maxL) (ret := rt) hy rfl ?_
  intro p e s m args below meth c s₁ B hml hv
  obtain ⟨rfl, hsz, hP, hK, hD0, hG⟩ := hv
  have hx := B.exec
  have hb := B.bytes
  have hr := B.returns
  have hts := atoms_spec (ws := .code y cc maxL rt :: WU) B.pre
  have hown : s.vm.findClass y.cls = some m.cls := findClass_of_methodNamed B.named
  have hlocks := B.notSynchronized
  subst hsz
  have hD := hD0.self (sz := s.heap.size)
  rw [lg_entry_eq]
  have X : Cx p rm s m (as.map (cvV ad)).toArray c 0 0 D tc ad (va_A (cvW tc ad ws) s.heap.size) maxL y.cls cc caG := ⟨⟨hx, hb, hml, hown, fun w hw => hts w (List.mem_cons_of_mem _ hw)⟩, hK, hG, fun q hq => Or.inr hq, ⟨Nat.zero_le _, Nat.zero_le _⟩, fun a n f ha => by
    unfold caG at ha
    split at ha
    · rename_i e1
      cases ha
      subst e1
      exact hG.2.2.1
    · cases ha⟩
  refine run_sound hfl hcn hks hE X hT (fun v ws' hv => ?_) n 0 (loIn maxL as) [] ws h s.heap [] _ ⟨hP, hD, va_S.rf, loIn_len hlen, loIn_has hlen⟩
  obtain ⟨rfl, rfl⟩ := hκ v ws' hv
  intro H locs ls pc q q1 q2 q3 q4 q5
  have fin : ∀ t : State, t.heap = H → s.WarmedH t.vm → MPost D tc ad ws s.heap.size v ws' (as.map (cvV ad)).toArray s (.returned (v.map (cvV ad))) t := fun t ht hW => ⟨⟨rfl, by rw [ht]; exact q1⟩, q3.F ht⟩
  rcases q4 with ⟨rfl, x, rfl, e⟩ | ⟨rfl, x, rfl, e⟩ | ⟨rfl, x, nm, rfl, e⟩ | ⟨rfl, rfl, e⟩
  · rcases e with rfl | ⟨rfl, e⟩
    · exact W.iret hx hb hr fin q3.2.2 q5
    · exact W.zret (ty := .boolean) hx hb hr (by rcases e with rfl | rfl <;> decide) fin q3.2.2 q5
  · subst e
    exact W.lret hx hb hr fin q3.2.2 q5
  · subst e
    exact W.aret hx hb hr (Or.inl ⟨nm, rfl⟩) (Or.inr ⟨_, rfl⟩) fin q3.2.2 q5
  · subst e
    exact W.vret hx hb hr fin q3.2.2 q5
-- renaming of places: the callee's cells among the caller's
def plIx : List Nat → Nat → Nat → Option Nat
  | [], _, _ => none
  | b :: r, a, j => if a = b then some j else plIx r a (j + 1)
def unV (pl : List Nat) (v : Value) : Option Value := match v with
  | .ref a => if 1000 ≤ a then some (.ref a) else (match plIx pl a 0 with
    | some j => some (.ref j)
    | none => none)
  | v => some v
def rnV (pl : List Nat) (v : Value) : Value := match v with
  | .ref k => if 1000 ≤ k then .ref k else .ref (pl.getD k 0)
  | v => v
def unL (pl : List Nat) : List Value → Option (List Value)
  | [] => some []
  | v :: r => match unV pl v, unL pl r with
    | some a, some b => some (a :: b)
    | _, _ => none
def unC (pl : List Nat) (q : ACell) : Option ACell := match q with
  | .inl a => some (.inl a)
  | .inr (ci, fs) => match unL pl fs with
    | some g => some (.inr (ci, g))
    | none => none
def rnC (pl : List Nat) (q : ACell) : ACell := match q with
  | .inl a => .inl a
  | .inr (ci, fs) => .inr (ci, fs.map (rnV pl))
def subW (pl : List Nat) (ws : AW) : List Nat → Option AW
  | [] => some []
  | a :: r => match ws[a]? with
    | some q => (match unC pl q, subW pl ws r with
      | some b, some w => some (b :: w)
      | _, _ => none)
    | none => none
def putW (pl : List Nat) : List Nat → AW → AW → AW
  | a :: r, q :: w, ws => putW pl r w (ws.set a (rnC pl q))
  | _, _, ws => ws
theorem plIx_spec : ∀ (pl : List Nat) (a j0 j : Nat), plIx pl a j0 = some j → j0 ≤ j ∧ j < j0 + pl.length ∧ pl[j - j0]? = some a
  | [], a, j0, j, h => by cases h
  | b :: r, a, j0, j, h => by
    unfold plIx at h
    split at h
    · rename_i e
      cases h
      exact ⟨Nat.le_refl _, by simp, by simp [e]⟩
    · obtain ⟨h1, h2, h3⟩ := plIx_spec r a (j0 + 1) j h
      refine ⟨by omega, by rw [List.length_cons]; omega, ?_⟩
      rw [show j - j0 = (j - (j0 + 1)) + 1 by omega, List.getElem?_cons_succ]
      exact h3
/-- the callee's addresses -/
def adOf (ad : Nat → Nat) (pl : List Nat) : Nat → Nat := fun k => if 1000 ≤ k then ad k else ad (pl.getD k 0)
theorem unV_spec {ad : Nat → Nat} {pl : List Nat} (hpl : pl.length ≤ 1000) {v v' : Value} (h : unV pl v = some v') : cvV (adOf ad pl) v' = cvV ad v := by
  unfold unV at h
  split at h
  · rename_i a
    split at h
    · rename_i e
      cases h
      show Value.ref (adOf ad pl a) = .ref (ad a)
      unfold adOf
      rw [if_pos e]
    · split at h
      · rename_i j hj
        cases h
        obtain ⟨h1, h2, h3⟩ := plIx_spec pl a 0 j hj
        show Value.ref (adOf ad pl j) = .ref (ad a)
        unfold adOf
        rw [if_neg (by omega), List.getD_eq_getElem?_getD]
        simp only [Nat.sub_zero] at h3
        rw [h3]
        rfl
      · cases h
  · cases h
    cases v <;> first | rfl | (rename_i hh; exact absurd rfl (hh _))
theorem rnV_cv (ad : Nat → Nat) (pl : List Nat) (v : Value) : cvV ad (rnV pl v) = cvV (adOf ad pl) v := by
  cases v with
  | ref k =>
    show cvV ad (if 1000 ≤ k then .ref k else .ref (pl.getD k 0)) = .ref (if 1000 ≤ k then ad k else ad (pl.getD k 0))
    split <;> rfl
  | _ => rfl
theorem unL_spec {ad : Nat → Nat} {pl : List Nat} (hpl : pl.length ≤ 1000) : ∀ {vs vs' : List Value}, unL pl vs = some vs' → vs'.map (cvV (adOf ad pl)) = vs.map (cvV ad)
  | [], vs', h => by cases h; rfl
  | v :: r, vs', h => by
    unfold unL at h
    split at h
    · rename_i a b h1 h2
      cases h
      rw [List.map_cons, List.map_cons, unV_spec hpl h1, unL_spec hpl h2]
    · cases h
theorem cvC_eq {tc : Nat → ClassId} {ad ad' : Nat → Nat} {ci : Nat} {fs gs : List Value} (h : gs.map (cvV ad') = fs.map (cvV ad)) : cvC tc ad' (.inr (ci, gs)) = cvC tc ad (.inr (ci, fs)) := by
  have hl : gs.length = fs.length := by
    have := congrArg List.length h
    simpa using this
  by_cases e : ci = 99
  · subst e
    show Sum.inl (tc 3, gs.length, _) = Sum.inl (tc 3, fs.length, _)
    rw [h, hl]
  · rw [cvC_obj tc ad' gs e, cvC_obj tc ad fs e, h]
theorem unC_spec {tc : Nat → ClassId} {ad : Nat → Nat} {pl : List Nat} (hpl : pl.length ≤ 1000) {q q' : ACell} (h : unC pl q = some q') : cvC tc (adOf ad pl) q' = cvC tc ad q := by
  unfold unC at h
  split at h
  · cases h
    rfl
  · rename_i ci fs
    split at h
    · rename_i g hg
      cases h
      exact cvC_eq (unL_spec hpl hg)
    · cases h
theorem subW_spec {tc : Nat → ClassId} {ad : Nat → Nat} {pl : List Nat} (hpl : pl.length ≤ 1000) {ws : AW} : ∀ (r : List Nat) (wc : AW), subW pl ws r = some wc → wc.length = r.length ∧ ∀ (i a : Nat), r[i]? = some a → ∃ q q', ws[a]? = some q ∧ wc[i]? = some q' ∧ cvC tc (adOf ad pl) q' = cvC tc ad q
  | [], wc, h => by cases h; exact ⟨rfl, fun i a h => by simp at h⟩
  | b :: r, wc, h => by
    unfold subW at h
    split at h
    · rename_i q hq
      split at h
      · rename_i b' w h1 h2
        cases h
        obtain ⟨g1, g2⟩ := subW_spec (tc := tc) (ad := ad) hpl r w h2
        refine ⟨by rw [List.length_cons, List.length_cons, g1], fun i a hi => ?_⟩
        cases i with
        | zero =>
          cases hi
          exact ⟨q, b', hq, rfl, unC_spec hpl h1⟩
        | succ i => exact g2 i a hi
      · cases h
    · cases h
