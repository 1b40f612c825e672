-- THE ABSTRACT MACHINE IS SOUND: what it does, the machine does
def Rl (D : va_G) (tc : Nat → ClassId) (ad : Nat → Nat) (A : Nat → Prop) (nL : Nat) (s : State) (lo : AL) (ws : AW) (H : Heap) (locs : List Loc) (ls : Array Slot) : Prop :=
  va_P D vwCl (cvW tc ad ws) H ∧ va_D A (cvW tc ad ws) ∧ va_S A s.heap H locs ∧ lo.length = nL ∧ lv_has ls nL (cvL ad lo)
def Go (p : Program) (l : Launch) (e : Env) (R : Room) (s : State) (m : MethodId) (args : Array Value) (below : List Frame) (meth : Method) (c : Code) (cells slots : Nat) (Q : State → Prop) (D : va_G) (tc : Nat → ClassId) (ad : Nat → Nat) (A : Nat → Prop) (nL : Nat) (pc : Nat) (lo : AL) (st : List Value) (ws : AW) : Prop :=
  ∀ (H : Heap) (locs : List Loc) (ls : Array Slot), Rl D tc ad A nL s lo ws H locs ls → W p l e R s m args below meth c H locs cells slots Q (F0 m pc ls (st.map (cvV ad)))
def Cx (p : Program) (R : Room) (s : State) (m : MethodId) (args : Array Value) (c : Code) (cells slots : Nat) (D : va_G) (tc : Nat → ClassId) (ad : Nat → Nat) (A : Nat → Prop) (nL : Nat) (own : String) (cc : ByteArray) (ca : CAr) : Prop :=
  CallFix p m c cc nL s args WU own ∧ va_K D vwCl (tyL tc) s ∧ Glob ad A s s.heap ∧ (∀ q, s.heap.size ≤ q → A q) ∧ (cells ≤ R.cells ∧ slots ≤ R.slots) ∧ ∀ a n f, ca a = some (n, f) → va_T .int (ad a) n (fun j => .int (f j)) A s s.heap
section
variable {p : Program} {l : Launch} {e : Env} {R : Room} {s : State} {m : MethodId} {args : Array Value} {below : List Frame} {meth : Method} {c : Code} {cells slots : Nat} {Q : State → Prop} {D : va_G} {tc : Nat → ClassId} {ad : Nat → Nat} {A : Nat → Prop} {nL : Nat} {own : String} {cc : ByteArray}
variable {ρ : Type} {k : Kont ρ} {res : ρ} {pc pc1 i : Nat} {lo : AL} {st : List Value} {ws : AW} {ca : CAr}
theorem lo_rd {v : Value} {ls : Array Slot} (h : lv_has ls nL (cvL ad lo)) (hv : lo[i]? = some (some v)) : ls[i]? = some (.val (cvV ad v)) := h.2.2 (i, cvV ad v) (cvL_mem.mpr ⟨v, hv, rfl⟩)
theorem lo_ok {w : Value} {q : Nat} (hok : okS1 lo i = true) (hw : lo[q]? = some (some w)) (he : q + 1 = i) : w.category = 1 := by
  subst he
  simp only [okS1, hw] at hok
  exact eq_of_beq hok
theorem lo_st1 {v : Value} {ls : Array Slot} (hi : i < lo.length) (hok : okS1 lo i = true) (h : lv_has ls nL ((i, cvV ad v) :: (cvL ad lo).filter (fun q => !(q.1 == i) && !(q.1 + 1 == i && q.2.category == 2)))) : lv_has ls nL (cvL ad (lo.set i (some v))) := by
  refine ⟨h.1, h.2.1, fun q hq => h.2.2 q ?_⟩
  obtain ⟨w, h1, h2⟩ := cvL_mem.mp hq
  rw [List.getElem?_set] at h1
  by_cases e : i = q.1
  · rw [if_pos e, if_pos hi] at h1
    cases h1
    have : q = (i, cvV ad v) := Prod.ext e.symm h2
    rw [this]
    exact List.mem_cons_self
  · rw [if_neg e] at h1
    refine List.mem_cons_of_mem _ (List.mem_filter.mpr ⟨cvL_mem.mpr ⟨w, h1, h2⟩, ?_⟩)
    have e1 : (q.1 == i) = false := beq_eq_false_iff_ne.mpr (fun z => e z.symm)
    rw [e1]
    by_cases e2 : q.1 + 1 = i
    · have := lo_ok hok h1 e2
      rw [h2, cvV_cat, this]
      simp
    · have e3 : (q.1 + 1 == i) = false := beq_eq_false_iff_ne.mpr e2
      rw [e3]
      rfl
theorem lo_st2 {v : Value} {ls : Array Slot} (hi : i + 1 < lo.length) (hok : okS1 lo i = true) (h : lv_has ls nL ((i, cvV ad v) :: (cvL ad lo).filter (fun q => !(q.1 == i) && (!(q.1 == i + 1) && !(q.1 + 1 == i && q.2.category == 2))))) : lv_has ls nL (cvL ad ((lo.set i (some v)).set (i + 1) none)) := by
  refine ⟨h.1, h.2.1, fun q hq => h.2.2 q ?_⟩
  obtain ⟨w, h1, h2⟩ := cvL_mem.mp hq
  rw [List.getElem?_set] at h1
  by_cases e0 : i + 1 = q.1
  · rw [if_pos e0, List.length_set, if_pos hi] at h1
    cases h1
  · rw [if_neg e0, List.getElem?_set] at h1
    by_cases e : i = q.1
    · rw [if_pos e, if_pos (Nat.lt_of_succ_lt hi)] at h1
      cases h1
      have : q = (i, cvV ad v) := Prod.ext e.symm h2
      rw [this]
      exact List.mem_cons_self
    · rw [if_neg e] at h1
      refine List.mem_cons_of_mem _ (List.mem_filter.mpr ⟨cvL_mem.mpr ⟨w, h1, h2⟩, ?_⟩)
      have e1 : (q.1 == i) = false := beq_eq_false_iff_ne.mpr (fun z => e z.symm)
      have e4 : (q.1 == i + 1) = false := beq_eq_false_iff_ne.mpr (fun z => e0 z.symm)
      rw [e1, e4]
      by_cases e2 : q.1 + 1 = i
      · have := lo_ok hok h1 e2
        rw [h2, cvV_cat, this]
        simp
      · have e3 : (q.1 + 1 == i) = false := beq_eq_false_iff_ne.mpr e2
        rw [e3]
        rfl
theorem lo_mask {ls : Array Slot} : ∀ (bs : List Bool) (lo : AL), (maskL bs lo).length = lo.length ∧ ∀ (j : Nat) (v : Value), (maskL bs lo)[j]? = some (some v) → lo[j]? = some (some v) := by
  intro bs
  induction bs with
  | nil => intro lo; cases lo <;> exact ⟨rfl, fun _ _ h => h⟩
  | cons b bs ih =>
    intro lo
    cases lo with
    | nil => exact ⟨rfl, fun _ _ h => h⟩
    | cons o lo =>
      obtain ⟨h1, h2⟩ := ih lo
      refine ⟨by simp [maskL, h1], fun j v h => ?_⟩
      cases j with
      | zero =>
        simp only [maskL, List.getElem?_cons_zero] at h ⊢
        cases b
        · simp at h
        · simpa using h
      | succ j =>
        simp only [maskL, List.getElem?_cons_succ] at h ⊢
        exact h2 j v h
theorem go_mask {bs : List Bool} (h : Go p l e R s m args below meth c cells slots Q D tc ad A nL pc (maskL bs lo) st ws) : Go p l e R s m args below meth c cells slots Q D tc ad A nL pc lo st ws := by
  intro H locs ls hR
  obtain ⟨h1, h2, h3, h4, h5⟩ := hR
  refine h H locs ls ⟨h1, h2, h3, by rw [(lo_mask (ls := ls) bs lo).1]; exact h4, h5.1, h5.2.1, fun q hq => ?_⟩
  obtain ⟨v, e1, e2⟩ := cvL_mem.mp hq
  exact h5.2.2 q (cvL_mem.mpr ⟨v, (lo_mask (ls := ls) bs lo).2 _ _ e1, e2⟩)
theorem go_push {v : Value} (row : ∀ (H : Heap) (locs : List Loc) (ls : Array Slot) (rest : List Value), va_S A s.heap H locs → W p l e R s m args below meth c H locs cells slots Q (F0 m pc1 ls (cvV ad v :: rest)) → W p l e R s m args below meth c H locs cells slots Q (F0 m pc ls rest)) (h : Go p l e R s m args below meth c cells slots Q D tc ad A nL pc1 lo (v :: st) ws) : Go p l e R s m args below meth c cells slots Q D tc ad A nL pc lo st ws :=
  fun H locs ls hR => row H locs ls _ hR.2.2.1 (h H locs ls hR)
theorem go_ldI (hk : ∀ pc' lo' st' ws', k pc' lo' st' ws' = some res → Go p l e R s m args below meth c cells slots Q D tc ad A nL pc' lo' st' ws') (row : ∀ (H : Heap) (locs : List Loc) (ls : Array Slot) (x : Int32) (rest : List Value), ls[i]? = some (.val (.int x)) → W p l e R s m args below meth c H locs cells slots Q (F0 m pc1 ls (.int x :: rest)) → W p l e R s m args below meth c H locs cells slots Q (F0 m pc ls rest)) (h : aLdI k pc1 i lo st ws = some res) : Go p l e R s m args below meth c cells slots Q D tc ad A nL pc lo st ws := by
  unfold aLdI at h
  split at h
  · rename_i x hx
    exact fun H locs ls hR => row H locs ls x _ (lo_rd hR.2.2.2.2 hx) (hk _ _ _ _ h H locs ls hR)
  · cases h
theorem go_ldL (hk : ∀ pc' lo' st' ws', k pc' lo' st' ws' = some res → Go p l e R s m args below meth c cells slots Q D tc ad A nL pc' lo' st' ws') (row : ∀ (H : Heap) (locs : List Loc) (ls : Array Slot) (x : Int64) (rest : List Value), ls[i]? = some (.val (.long x)) → W p l e R s m args below meth c H locs cells slots Q (F0 m pc1 ls (.long x :: rest)) → W p l e R s m args below meth c H locs cells slots Q (F0 m pc ls rest)) (h : aLdL k pc1 i lo st ws = some res) : Go p l e R s m args below meth c cells slots Q D tc ad A nL pc lo st ws := by
  unfold aLdL at h
  split at h
  · rename_i x hx
    exact fun H locs ls hR => row H locs ls x _ (lo_rd hR.2.2.2.2 hx) (hk _ _ _ _ h H locs ls hR)
  · cases h
theorem go_ldA (hk : ∀ pc' lo' st' ws', k pc' lo' st' ws' = some res → Go p l e R s m args below meth c cells slots Q D tc ad A nL pc' lo' st' ws') (row : ∀ (H : Heap) (locs : List Loc) (ls : Array Slot) (x : Nat) (rest : List Value), ls[i]? = some (.val (.ref x)) → W p l e R s m args below meth c H locs cells slots Q (F0 m pc1 ls (.ref x :: rest)) → W p l e R s m args below meth c H locs cells slots Q (F0 m pc ls rest)) (h : aLdA k pc1 i lo st ws = some res) : Go p l e R s m args below meth c cells slots Q D tc ad A nL pc lo st ws := by
  unfold aLdA at h
  split at h
  · rename_i x hx
    exact fun H locs ls hR => row H locs ls (ad x) _ (lo_rd hR.2.2.2.2 hx) (hk _ _ _ _ h H locs ls hR)
  · cases h
theorem go_stI (hk : ∀ pc' lo' st' ws', k pc' lo' st' ws' = some res → Go p l e R s m args below meth c cells slots Q D tc ad A nL pc' lo' st' ws') (row : ∀ (H : Heap) (locs : List Loc) (ls : Array Slot) (x : Int32) (rest : List Value) (lv lv' : List (Nat × Value)), lv_has ls nL lv → i < nL → (i, Value.int x) :: lv.filter (fun q => !(q.1 == i) && !(q.1 + 1 == i && q.2.category == 2)) = lv' → (∀ ls' : Array Slot, lv_has ls' nL lv' → W p l e R s m args below meth c H locs cells slots Q (F0 m pc1 ls' rest)) → W p l e R s m args below meth c H locs cells slots Q (F0 m pc ls (.int x :: rest))) (h : aStI k pc1 i lo st ws = some res) : Go p l e R s m args below meth c cells slots Q D tc ad A nL pc lo st ws := by
  unfold aStI at h
  split at h
  · rename_i x st
    split at h
    · rename_i hc
      intro H locs ls hR
      obtain ⟨h1, h2, h3, h4, h5⟩ := hR
      refine row H locs ls x _ _ _ h5 (by rw [← h4]; exact hc.1) rfl (fun ls' hl => hk _ _ _ _ h H locs ls' ⟨h1, h2, h3, by rw [List.length_set]; exact h4, lo_st1 (v := .int x) hc.1 hc.2 hl⟩)
    · cases h
  · cases h
theorem go_stA (hk : ∀ pc' lo' st' ws', k pc' lo' st' ws' = some res → Go p l e R s m args below meth c cells slots Q D tc ad A nL pc' lo' st' ws') (row : ∀ (H : Heap) (locs : List Loc) (ls : Array Slot) (x : Nat) (rest : List Value) (lv lv' : List (Nat × Value)), lv_has ls nL lv → i < nL → (i, Value.ref x) :: lv.filter (fun q => !(q.1 == i) && !(q.1 + 1 == i && q.2.category == 2)) = lv' → (∀ ls' : Array Slot, lv_has ls' nL lv' → W p l e R s m args below meth c H locs cells slots Q (F0 m pc1 ls' rest)) → W p l e R s m args below meth c H locs cells slots Q (F0 m pc ls (.ref x :: rest))) (h : aStA k pc1 i lo st ws = some res) : Go p l e R s m args below meth c cells slots Q D tc ad A nL pc lo st ws := by
  unfold aStA at h
  split at h
  · rename_i x st
    split at h
    · rename_i hc
      intro H locs ls hR
      obtain ⟨h1, h2, h3, h4, h5⟩ := hR
      refine row H locs ls (ad x) _ _ _ h5 (by rw [← h4]; exact hc.1) rfl (fun ls' hl => hk _ _ _ _ h H locs ls' ⟨h1, h2, h3, by rw [List.length_set]; exact h4, lo_st1 (v := .ref x) hc.1 hc.2 hl⟩)
    · cases h
  · cases h
theorem go_stL (hk : ∀ pc' lo' st' ws', k pc' lo' st' ws' = some res → Go p l e R s m args below meth c cells slots Q D tc ad A nL pc' lo' st' ws') (row : ∀ (H : Heap) (locs : List Loc) (ls : Array Slot) (x : Int64) (rest : List Value) (lv lv' : List (Nat × Value)), lv_has ls nL lv → i + 1 < nL → (i, Value.long x) :: lv.filter (fun q => !(q.1 == i) && (!(q.1 == i + 1) && !(q.1 + 1 == i && q.2.category == 2))) = lv' → (∀ ls' : Array Slot, lv_has ls' nL lv' → W p l e R s m args below meth c H locs cells slots Q (F0 m pc1 ls' rest)) → W p l e R s m args below meth c H locs cells slots Q (F0 m pc ls (.long x :: rest))) (h : aStL k pc1 i lo st ws = some res) : Go p l e R s m args below meth c cells slots Q D tc ad A nL pc lo st ws := by
  unfold aStL at h
  split at h
  · rename_i x st
    split at h
    · rename_i hc
      intro H locs ls hR
      obtain ⟨h1, h2, h3, h4, h5⟩ := hR
      refine row H locs ls x _ _ _ h5 (by rw [← h4]; exact hc.1) rfl (fun ls' hl => hk _ _ _ _ h H locs ls' ⟨h1, h2, h3, by rw [List.length_set, List.length_set]; exact h4, lo_st2 (v := .long x) hc.1 hc.2 hl⟩)
    · cases h
  · cases h
theorem go_inc {d : Int} {dv : Int32} (hx : p.tables.exec = Jvm.exec) (hb : c.code = cc) (hdv : dv = Int32.ofInt d) (hdg : decode cc pc = .ok (.iinc i d, 3)) (hk : ∀ pc' lo' st' ws', k pc' lo' st' ws' = some res → Go p l e R s m args below meth c cells slots Q D tc ad A nL pc' lo' st' ws') (h : aInc k (pc + 3) i dv lo st ws = some res) : Go p l e R s m args below meth c cells slots Q D tc ad A nL pc lo st ws := by
  unfold aInc at h
  split at h
  · rename_i x hv
    split at h
    · rename_i hc
      intro H locs ls hR
      obtain ⟨h1, h2, h3, h4, h5⟩ := hR
      have hi : i < lo.length := (List.getElem?_eq_some_iff.mp hv).1
      obtain ⟨j, hj⟩ := List.mem_iff_getElem?.mp (cvL_mem (ad := ad) (q := (i, .int x)).mpr ⟨.int x, hv, rfl⟩)
      refine lv_iinc (k := j) (v := x + dv) hx hb hdg h5 hj (by rw [hdv]) (by rw [← h4]; exact hi) rfl (fun ls' hl => hk _ _ _ _ h H locs ls' ⟨h1, h2, h3, by rw [List.length_set]; exact h4, lo_st1 (v := .int (x + dv)) hi hc hl⟩)
    · cases h
  · cases h
theorem go_bin {f : Int32 → Int32 → Int32} (hk : ∀ pc' lo' st' ws', k pc' lo' st' ws' = some res → Go p l e R s m args below meth c cells slots Q D tc ad A nL pc' lo' st' ws') (row : ∀ (H : Heap) (locs : List Loc) (ls : Array Slot) (x y : Int32) (rest : List Value), W p l e R s m args below meth c H locs cells slots Q (F0 m pc1 ls (.int (f x y) :: rest)) → W p l e R s m args below meth c H locs cells slots Q (F0 m pc ls (.int y :: .int x :: rest))) (h : aBin f k pc1 lo st ws = some res) : Go p l e R s m args below meth c cells slots Q D tc ad A nL pc lo st ws := by
  unfold aBin at h
  split at h
  · exact fun H locs ls hR => row H locs ls _ _ _ (hk _ _ _ _ h H locs ls hR)
  · cases h
theorem go_binL {f : Int64 → Int64 → Int64} (hk : ∀ pc' lo' st' ws', k pc' lo' st' ws' = some res → Go p l e R s m args below meth c cells slots Q D tc ad A nL pc' lo' st' ws') (row : ∀ (H : Heap) (locs : List Loc) (ls : Array Slot) (x y : Int64) (rest : List Value), W p l e R s m args below meth c H locs cells slots Q (F0 m pc1 ls (.long (f x y) :: rest)) → W p l e R s m args below meth c H locs cells slots Q (F0 m pc ls (.long y :: .long x :: rest))) (h : aBinL f k pc1 lo st ws = some res) : Go p l e R s m args below meth c cells slots Q D tc ad A nL pc lo st ws := by
  unfold aBinL at h
  split at h
  · exact fun H locs ls hR => row H locs ls _ _ _ (hk _ _ _ _ h H locs ls hR)
  · cases h
theorem go_div {f : Int32 → Int32 → Int32} (hk : ∀ pc' lo' st' ws', k pc' lo' st' ws' = some res → Go p l e R s m args below meth c cells slots Q D tc ad A nL pc' lo' st' ws') (row : ∀ (H : Heap) (locs : List Loc) (ls : Array Slot) (x y : Int32) (rest : List Value), ¬ y = 0 → W p l e R s m args below meth c H locs cells slots Q (F0 m pc1 ls (.int (f x y) :: rest)) → W p l e R s m args below meth c H locs cells slots Q (F0 m pc ls (.int y :: .int x :: rest))) (h : aDiv f k pc1 lo st ws = some res) : Go p l e R s m args below meth c cells slots Q D tc ad A nL pc lo st ws := by
  unfold aDiv at h
  split at h
  · split at h
    · cases h
    · rename_i hy
      exact fun H locs ls hR => row H locs ls _ _ _ hy (hk _ _ _ _ h H locs ls hR)
  · cases h
theorem go_lsh (hx : p.tables.exec = Jvm.exec) (hb : c.code = cc) (hdg : decode cc pc = .ok (.lshl, 1)) (hk : ∀ pc' lo' st' ws', k pc' lo' st' ws' = some res → Go p l e R s m args below meth c cells slots Q D tc ad A nL pc' lo' st' ws') (h : aLsh k (pc + 1) lo st ws = some res) : Go p l e R s m args below meth c cells slots Q D tc ad A nL pc lo st ws := by
  unfold aLsh at h
  split at h
  · exact fun H locs ls hR => lv_lshl hx hb hdg rfl (hk _ _ _ _ h H locs ls hR)
  · cases h
theorem go_cmpL (hx : p.tables.exec = Jvm.exec) (hb : c.code = cc) (hdg : decode cc pc = .ok (.lcmp, 1)) (hk : ∀ pc' lo' st' ws', k pc' lo' st' ws' = some res → Go p l e R s m args below meth c cells slots Q D tc ad A nL pc' lo' st' ws') (h : aCmpL k (pc + 1) lo st ws = some res) : Go p l e R s m args below meth c cells slots Q D tc ad A nL pc lo st ws := by
  unfold aCmpL at h
  split at h
  · exact fun H locs ls hR => W.lcmp hx hb hdg (hk _ _ _ _ h H locs ls hR)
  · cases h
theorem go_un {f : Int32 → Int32} (hk : ∀ pc' lo' st' ws', k pc' lo' st' ws' = some res → Go p l e R s m args below meth c cells slots Q D tc ad A nL pc' lo' st' ws') (row : ∀ (H : Heap) (locs : List Loc) (ls : Array Slot) (x : Int32) (rest : List Value), W p l e R s m args below meth c H locs cells slots Q (F0 m pc1 ls (.int (f x) :: rest)) → W p l e R s m args below meth c H locs cells slots Q (F0 m pc ls (.int x :: rest))) (h : aUn f k pc1 lo st ws = some res) : Go p l e R s m args below meth c cells slots Q D tc ad A nL pc lo st ws := by
  unfold aUn at h
  split at h
  · exact fun H locs ls hR => row H locs ls _ _ (hk _ _ _ _ h H locs ls hR)
  · cases h
theorem go_i2l (hx : p.tables.exec = Jvm.exec) (hb : c.code = cc) (hdg : decode cc pc = .ok (.i2l, 1)) (hk : ∀ pc' lo' st' ws', k pc' lo' st' ws' = some res → Go p l e R s m args below meth c cells slots Q D tc ad A nL pc' lo' st' ws') (h : aI2L k (pc + 1) lo st ws = some res) : Go p l e R s m args below meth c cells slots Q D tc ad A nL pc lo st ws := by
  unfold aI2L at h
  split at h
  · exact fun H locs ls hR => lv_i2l hx hb hdg rfl (hk _ _ _ _ h H locs ls hR)
  · cases h
theorem go_l2i (hx : p.tables.exec = Jvm.exec) (hb : c.code = cc) (hdg : decode cc pc = .ok (.l2i, 1)) (hk : ∀ pc' lo' st' ws', k pc' lo' st' ws' = some res → Go p l e R s m args below meth c cells slots Q D tc ad A nL pc' lo' st' ws') (h : aL2I k (pc + 1) lo st ws = some res) : Go p l e R s m args below meth c cells slots Q D tc ad A nL pc lo st ws := by
  unfold aL2I at h
  split at h
  · exact fun H locs ls hR => lv_l2i hx hb hdg rfl (hk _ _ _ _ h H locs ls hR)
  · cases h
theorem go_dup (hx : p.tables.exec = Jvm.exec) (hb : c.code = cc) (hdg : decode cc pc = .ok (.dup, 1)) (hk : ∀ pc' lo' st' ws', k pc' lo' st' ws' = some res → Go p l e R s m args below meth c cells slots Q D tc ad A nL pc' lo' st' ws') (h : aDup k (pc + 1) lo st ws = some res) : Go p l e R s m args below meth c cells slots Q D tc ad A nL pc lo st ws := by
  unfold aDup at h
  split at h
  · split at h
    · rename_i hc
      exact fun H locs ls hR => lv_dup hx hb hdg (by rw [cvV_cat]; exact hc) (hk _ _ _ _ h H locs ls hR)
    · cases h
  · cases h
theorem go_pop (hx : p.tables.exec = Jvm.exec) (hb : c.code = cc) (hdg : decode cc pc = .ok (.pop, 1)) (hk : ∀ pc' lo' st' ws', k pc' lo' st' ws' = some res → Go p l e R s m args below meth c cells slots Q D tc ad A nL pc' lo' st' ws') (h : aPop k (pc + 1) lo st ws = some res) : Go p l e R s m args below meth c cells slots Q D tc ad A nL pc lo st ws := by
  unfold aPop at h
  split at h
  · split at h
    · rename_i hc
      exact fun H locs ls hR => lv_pop hx hb hdg (by rw [cvV_cat]; exact hc) (hk _ _ _ _ h H locs ls hR)
    · cases h
  · cases h
theorem go_dup2 (hx : p.tables.exec = Jvm.exec) (hb : c.code = cc) (hdg : decode cc pc = .ok (.dup2, 1)) (hk : ∀ pc' lo' st' ws', k pc' lo' st' ws' = some res → Go p l e R s m args below meth c cells slots Q D tc ad A nL pc' lo' st' ws') (h : aDup2 k (pc + 1) lo st ws = some res) : Go p l e R s m args below meth c cells slots Q D tc ad A nL pc lo st ws := by
  unfold aDup2 at h
  split at h
  · split at h
    · rename_i hc
      exact fun H locs ls hR => lv_dup2_11 hx hb hdg (by rw [cvV_cat]; exact hc.1) (by rw [cvV_cat]; exact hc.2) (hk _ _ _ _ h H locs ls hR)
    · cases h
  · cases h
theorem if_so {cnd : Prop} [Decidable cnd] {a b : Option ρ} (h : (if cnd then a else b) = some res) : (cnd → a = some res) ∧ (¬ cnd → b = some res) := by
  by_cases q : cnd
  · rw [if_pos q] at h; exact ⟨fun _ => h, fun z => absurd q z⟩
  · rw [if_neg q] at h; exact ⟨fun z => absurd z q, fun _ => h⟩
theorem go_if {b : Jvm.ClassFile.Cond} {off : Int} {tgt : Nat} (hx : p.tables.exec = Jvm.exec) (hb : c.code = cc) (hdg : decode cc pc = .ok (.ifCond b off, 3)) (ht : (pc : Int) + off = (tgt : Int)) (hk : ∀ pc' lo' st' ws', k pc' lo' st' ws' = some res → Go p l e R s m args below meth c cells slots Q D tc ad A nL pc' lo' st' ws') (h : aIf b k pc tgt lo st ws = some res) : Go p l e R s m args below meth c cells slots Q D tc ad A nL pc lo st ws := by
  unfold aIf at h
  split at h
  · intro H locs ls hR
    cases b <;> simp only at h
    · exact lv_if_eq hx hb hdg ht (fun q => hk _ _ _ _ ((br_so h).1 q) H locs ls hR) (fun q => hk _ _ _ _ ((br_so h).2 q) H locs ls hR)
    · exact lv_if_ne hx hb hdg ht (fun q => hk _ _ _ _ ((br_so h).2 q) H locs ls hR) (fun q => hk _ _ _ _ ((br_so h).1 q) H locs ls hR)
    · exact lv_if_lt hx hb hdg ht (fun q => hk _ _ _ _ ((br_so h).1 q) H locs ls hR) (fun q => hk _ _ _ _ ((br_so h).2 q) H locs ls hR)
    · exact lv_if_ge hx hb hdg ht (fun q => hk _ _ _ _ ((br_so h).1 q) H locs ls hR) (fun q => hk _ _ _ _ ((br_so h).2 q) H locs ls hR)
    · exact lv_if_gt hx hb hdg ht (fun q => hk _ _ _ _ ((br_so h).1 q) H locs ls hR) (fun q => hk _ _ _ _ ((br_so h).2 q) H locs ls hR)
    · exact lv_if_le hx hb hdg ht (fun q => hk _ _ _ _ ((br_so h).1 q) H locs ls hR) (fun q => hk _ _ _ _ ((br_so h).2 q) H locs ls hR)
  · cases h
theorem go_icmp {b : Jvm.ClassFile.Cond} {off : Int} {tgt : Nat} (hx : p.tables.exec = Jvm.exec) (hb : c.code = cc) (hdg : decode cc pc = .ok (.if_icmp b off, 3)) (ht : (pc : Int) + off = (tgt : Int)) (hk : ∀ pc' lo' st' ws', k pc' lo' st' ws' = some res → Go p l e R s m args below meth c cells slots Q D tc ad A nL pc' lo' st' ws') (h : aIcmp b k pc tgt lo st ws = some res) : Go p l e R s m args below meth c cells slots Q D tc ad A nL pc lo st ws := by
  unfold aIcmp at h
  split at h
  · intro H locs ls hR
    cases b <;> simp only at h
    · exact lv_icmp_eq hx hb hdg ht (fun q => hk _ _ _ _ ((br_so h).1 q) H locs ls hR) (fun q => hk _ _ _ _ ((br_so h).2 q) H locs ls hR)
    · exact lv_icmp_ne hx hb hdg ht (fun q => hk _ _ _ _ ((br_so h).2 q) H locs ls hR) (fun q => hk _ _ _ _ ((br_so h).1 q) H locs ls hR)
    · exact lv_icmp_lt hx hb hdg ht (fun q => hk _ _ _ _ ((br_so h).1 q) H locs ls hR) (fun q => hk _ _ _ _ ((br_so h).2 q) H locs ls hR)
    · exact lv_icmp_ge hx hb hdg ht (fun q => hk _ _ _ _ ((br_so h).1 q) H locs ls hR) (fun q => hk _ _ _ _ ((br_so h).2 q) H locs ls hR)
    · exact lv_icmp_gt hx hb hdg ht (fun q => hk _ _ _ _ ((br_so h).1 q) H locs ls hR) (fun q => hk _ _ _ _ ((br_so h).2 q) H locs ls hR)
    · exact lv_icmp_le hx hb hdg ht (fun q => hk _ _ _ _ ((br_so h).1 q) H locs ls hR) (fun q => hk _ _ _ _ ((br_so h).2 q) H locs ls hR)
  · cases h
theorem go_goto {off : Int} {tgt : Nat} (hx : p.tables.exec = Jvm.exec) (hb : c.code = cc) (hdg : decode cc pc = .ok (.goto off, 3)) (ht : (pc : Int) + off = (tgt : Int)) (h : Go p l e R s m args below meth c cells slots Q D tc ad A nL tgt lo st ws) : Go p l e R s m args below meth c cells slots Q D tc ad A nL pc lo st ws :=
  fun H locs ls hR => lv_goto hx hb hdg ht (h H locs ls hR)
end
