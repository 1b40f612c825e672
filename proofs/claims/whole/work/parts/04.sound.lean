section
variable {p : Program} {l : Launch} {e : Env} {R : Room} {s : State} {m : MethodId} {args : Array Value} {below : List Frame} {meth : Method} {c : Code} {cells slots : Nat} {Q : State → Prop} {D : va_G} {tc : Nat → ClassId} {ad : Nat → Nat} {A : Nat → Prop} {nL : Nat} {own : String} {cc : ByteArray}
variable {ρ : Type} {k : Kont ρ} {res : ρ} {pc pc1 i : Nat} {lo : AL} {st : List Value} {ws : AW} {ca : CAr}
-- switches
def swT (pc : Nat) (lo hi : Int) (offs : Array Int) (sw : List (Int32 × Nat)) : Prop :=
  sw.length = offs.size ∧ lo + offs.size = hi + 1 ∧ ∀ j, j < sw.length → (sw.getD j (0, 0)).1.toInt = lo + j ∧ ∃ o, offs[j]? = some o ∧ (pc : Int) + o = ((sw.getD j (0, 0)).2 : Int)
theorem swG_spec {f : Nat → Option ρ} {x : Int32} {d : Nat} : ∀ (sw : List (Int32 × Nat)), aSwG f x d sw = some res → (∃ j, j < sw.length ∧ x = (sw.getD j (0, 0)).1 ∧ f (sw.getD j (0, 0)).2 = some res) ∨ ((∀ j, j < sw.length → x ≠ (sw.getD j (0, 0)).1) ∧ f d = some res)
  | [], h => Or.inr ⟨fun j hj => absurd hj (Nat.not_lt_zero j), h⟩
  | q :: r, h => by
    unfold aSwG at h
    obtain ⟨h1, h2⟩ := br_so h
    by_cases e : x = q.1
    · exact Or.inl ⟨0, Nat.succ_pos _, e, h1 e⟩
    · rcases swG_spec r (h2 e) with ⟨j, a, b, g⟩ | ⟨a, b⟩
      · exact Or.inl ⟨j + 1, Nat.succ_lt_succ a, by simpa using b, by simpa using g⟩
      · refine Or.inr ⟨fun j hj => ?_, b⟩
        cases j with
        | zero => exact e
        | succ j => simpa using a j (Nat.lt_of_succ_lt_succ hj)
theorem go_tsw {d lo9 hi9 : Int} {offs : Array Int} {len tgt : Nat} {sw : List (Int32 × Nat)} (hx : p.tables.exec = Jvm.exec) (hb : c.code = cc) (hdg : decode cc pc = .ok (.tableswitch d lo9 hi9 offs, len)) (ht : (pc : Int) + d = (tgt : Int)) (hs : swT pc lo9 hi9 offs sw) (hk : ∀ pc' lo' st' ws', k pc' lo' st' ws' = some res → Go p l e R s m args below meth c cells slots Q D tc ad A nL pc' lo' st' ws') (h : aSw k tgt sw lo st ws = some res) : Go p l e R s m args below meth c cells slots Q D tc ad A nL pc lo st ws := by
  unfold aSw at h
  split at h
  · rename_i x st
    intro H locs ls hR
    obtain ⟨e1, e2, e3⟩ := hs
    rcases swG_spec sw h with ⟨j, a, b, g⟩ | ⟨a, b⟩
    · obtain ⟨f1, o, f2, f3⟩ := e3 j a
      rw [← b] at f1
      refine lv_tableIn hx hb hdg (by omega) (by omega) (off := o) ?_ f3 (hk _ _ _ _ g H locs ls hR)
      rw [f1, show (lo9 + (j : Int) - lo9).toNat = j by omega]
      exact f2
    · refine lv_tableOut hx hb hdg ?_ ht (hk _ _ _ _ b H locs ls hR)
      apply Decidable.byContradiction
      intro z
      have z1 : ¬ x.toInt < lo9 := fun w => z (Or.inl w)
      have z2 : ¬ hi9 < x.toInt := fun w => z (Or.inr w)
      have hj : (x.toInt - lo9).toNat < sw.length := by omega
      refine a _ hj ?_
      obtain ⟨f1, -⟩ := e3 _ hj
      apply Int32.toInt_inj.mp
      rw [f1]
      omega
  · cases h
def swL (pc : Nat) (ps : List (Int × Int)) (sw : List (Int32 × Nat)) : Bool := match ps, sw with
  | [], [] => true
  | a :: ps, b :: sw => decide (b.1.toInt = a.1) && (decide ((pc : Int) + a.2 = (b.2 : Int)) && swL pc ps sw)
  | _, _ => false
theorem swL_spec {f : Nat → Option ρ} {x : Int32} {d : Int} {tgt : Nat} (ht : (pc : Int) + d = (tgt : Int)) : ∀ (ps : List (Int × Int)) (sw : List (Int32 × Nat)), swL pc ps sw = true → aSwG f x tgt sw = some res → ∃ t : Nat, (pc : Int) + Op.lookupswitch.offset ps d x.toInt = (t : Int) ∧ f t = some res
  | [], [], _, h => ⟨tgt, by rw [Op.lookupswitch.offset_nil]; exact ht, h⟩
  | [], _ :: _, h0, _ => by simp [swL] at h0
  | _ :: _, [], h0, _ => by simp [swL] at h0
  | a :: ps, b :: sw, h0, h => by
    simp only [swL, Bool.and_eq_true, decide_eq_true_eq] at h0
    obtain ⟨g1, g2, g3⟩ := h0
    unfold aSwG at h
    obtain ⟨h1, h2⟩ := br_so h
    obtain ⟨a1, a2⟩ := a
    by_cases e : x = b.1
    · refine ⟨b.2, ?_, h1 e⟩
      rw [Op.lookupswitch.offset_cons, if_pos (by first | (rw [e]; exact g1.symm) | (rw [e]; exact g1) | (simp [e, g1]))]
      exact g2
    · obtain ⟨t, i1, i2⟩ := swL_spec ht ps sw g3 (h2 e)
      refine ⟨t, ?_, i2⟩
      have hne : ¬ x.toInt = a1 := fun z => e (Int32.toInt_inj.mp (z.trans g1.symm))
      rw [Op.lookupswitch.offset_cons, if_neg (by first | exact hne | exact fun z => hne z.symm)]
      exact i1
theorem go_lsw {d : Int} {ps : Array (Int × Int)} {len tgt : Nat} {sw : List (Int32 × Nat)} (hx : p.tables.exec = Jvm.exec) (hb : c.code = cc) (hdg : decode cc pc = .ok (.lookupswitch d ps, len)) (hp : (ps.toList.zip (ps.toList.drop 1)).all (fun (a, next) => a.1 < next.1) = true) (ht : (pc : Int) + d = (tgt : Int)) (hs : swL pc ps.toList sw = true) (hk : ∀ pc' lo' st' ws', k pc' lo' st' ws' = some res → Go p l e R s m args below meth c cells slots Q D tc ad A nL pc' lo' st' ws') (h : aSw k tgt sw lo st ws = some res) : Go p l e R s m args below meth c cells slots Q D tc ad A nL pc lo st ws := by
  unfold aSw at h
  split at h
  · intro H locs ls hR
    obtain ⟨t, i1, i2⟩ := swL_spec ht ps.toList sw hs h
    exact lv_lookup hx hb hdg hp rfl i1 (hk _ _ _ _ i2 H locs ls hR)
  · cases h
-- arrays
theorem go_iald (X : Cx p R s m args c cells slots D tc ad A nL own cc ca) (hdg : decode cc pc = .ok (.iaload, 1)) (hk : ∀ pc' lo' st' ws', k pc' lo' st' ws' = some res → Go p l e R s m args below meth c cells slots Q D tc ad A nL pc' lo' st' ws') (h : aIald ca k (pc + 1) lo st ws = some res) : Go p l e R s m args below meth c cells slots Q D tc ad A nL pc lo st ws := by
  obtain ⟨⟨hx, hb, -⟩, hK, -, -, -, hca⟩ := X
  unfold aIald at h
  split at h
  · rename_i i a st
    split at h
    · rename_i n f ha
      intro H locs ls hR
      by_cases q : i < 0 ∨ n ≤ i.toNatClampNeg
      · exact absurd ((br_so h).1 q) (fun z => by cases z)
      · exact va_iald hx hb hK hR.1 a 0 (cvW_at ha) rfl q hdg (hk _ _ _ _ ((br_so h).2 q) H locs ls hR)
    · split at h
      · rename_i n f ha
        intro H locs ls hR
        by_cases q : i < 0 ∨ n ≤ i.toNatClampNeg
        · exact absurd ((br_so h).1 q) (fun z => by cases z)
        · replace h := (br_so h).2 q
          exact va_ti hx hb (hca a n f ha) hR.2.2.1 q rfl hdg (hk _ _ _ _ h H locs ls hR)
      · cases h
    · cases h
  · cases h
theorem go_lald (X : Cx p R s m args c cells slots D tc ad A nL own cc ca) (hdg : decode cc pc = .ok (.laload, 1)) (hk : ∀ pc' lo' st' ws', k pc' lo' st' ws' = some res → Go p l e R s m args below meth c cells slots Q D tc ad A nL pc' lo' st' ws') (h : aLald k (pc + 1) lo st ws = some res) : Go p l e R s m args below meth c cells slots Q D tc ad A nL pc lo st ws := by
  obtain ⟨⟨hx, hb, -⟩, hK, -, -, -, hca⟩ := X
  unfold aLald at h
  split at h
  · rename_i i a st
    split at h
    · rename_i n f ha
      intro H locs ls hR
      by_cases q : i < 0 ∨ n ≤ i.toNatClampNeg
      · exact absurd ((br_so h).1 q) (fun z => by cases z)
      · replace h := (br_so h).2 q
        exact va_lald hx hb hK hR.1 a 1 (cvW_at ha) rfl q hdg (hk _ _ _ _ h H locs ls hR)
    · cases h
  · cases h
theorem go_bald (X : Cx p R s m args c cells slots D tc ad A nL own cc ca) (hdg : decode cc pc = .ok (.baload, 1)) (hk : ∀ pc' lo' st' ws', k pc' lo' st' ws' = some res → Go p l e R s m args below meth c cells slots Q D tc ad A nL pc' lo' st' ws') (h : aBald k (pc + 1) lo st ws = some res) : Go p l e R s m args below meth c cells slots Q D tc ad A nL pc lo st ws := by
  obtain ⟨⟨hx, hb, -⟩, hK, -, -, -, hca⟩ := X
  unfold aBald at h
  split at h
  · rename_i i a st
    split at h
    · rename_i n f ha
      intro H locs ls hR
      by_cases q : i < 0 ∨ n ≤ i.toNatClampNeg
      · exact absurd ((br_so h).1 q) (fun z => by cases z)
      · replace h := (br_so h).2 q
        exact va_bald hx hb hK hR.1 a 2 (cvW_at ha) rfl q hdg (hk _ _ _ _ h H locs ls hR)
    · cases h
  · cases h
theorem aPick_spec {g : Nat → Option ρ} {x : Int32} : ∀ (fs : List Value) (j : Nat), aPick g x fs j = some res → ∃ q a, q < fs.length ∧ x = nI (j + q) ∧ fs[q]? = some (.ref a) ∧ g a = some res
  | [], _, h => by cases h
  | v :: r, j, h => by
    unfold aPick at h
    obtain ⟨h1, h2⟩ := br_so h
    by_cases e : x = nI j
    · have h3 := h1 e
      split at h3
      · rename_i a
        exact ⟨0, a, Nat.succ_pos _, e, rfl, h3⟩
      · cases h3
    · obtain ⟨q, a, i1, i2, i3⟩ := aPick_spec r (j + 1) (h2 e)
      exact ⟨q + 1, a, Nat.succ_lt_succ i1, by rw [i2]; congr 1; omega, i3⟩
theorem go_aald (X : Cx p R s m args c cells slots D tc ad A nL own cc ca) (hdg : decode cc pc = .ok (.aaload, 1)) (hk : ∀ pc' lo' st' ws', k pc' lo' st' ws' = some res → Go p l e R s m args below meth c cells slots Q D tc ad A nL pc' lo' st' ws') (h : aAald k (pc + 1) lo st ws = some res) : Go p l e R s m args below meth c cells slots Q D tc ad A nL pc lo st ws := by
  obtain ⟨⟨hx, hb, -⟩, hK, -, -, -, hca⟩ := X
  unfold aAald at h
  split at h
  · rename_i i a st
    split at h
    · rename_i fs ha
      split at h
      · rename_i hn
        obtain ⟨q, b, i2, i3, i4, i5⟩ := aPick_spec fs 0 h
        rw [Nat.zero_add] at i3
        subst i3
        intro H locs ls hR
        refine va_aldq (C := "LeftTillCalled$Sheet") hx hb hK hR.1 a 3 (cvW_at ha) rfl (vp_in_nI i2 (by omega)) hdg ?_
        rw [nI_clamp (by omega)]
        have e9 : rfOf (fs.map (cvV ad)) q = some (ad b) := by
          unfold rfOf
          rw [List.getElem?_map, i4]
          rfl
        rw [e9]
        exact hk _ _ _ _ i5 H locs ls hR
      · cases h
    · cases h
  · cases h
theorem go_iast (X : Cx p R s m args c cells slots D tc ad A nL own cc ca) (hdg : decode cc pc = .ok (.iastore, 1)) (hk : ∀ pc' lo' st' ws', k pc' lo' st' ws' = some res → Go p l e R s m args below meth c cells slots Q D tc ad A nL pc' lo' st' ws') (h : aIast k (pc + 1) lo st ws = some res) : Go p l e R s m args below meth c cells slots Q D tc ad A nL pc lo st ws := by
  obtain ⟨⟨hx, hb, -⟩, hK, -, -, -, hca⟩ := X
  unfold aIast at h
  split at h
  · rename_i x i a st
    split at h
    · rename_i n f ha
      intro H locs ls hR
      by_cases q : i < 0 ∨ n ≤ i.toNatClampNeg
      · exact absurd ((br_so h).1 q) (fun z => by cases z)
      · replace h := (br_so h).2 q
        obtain ⟨h1, h2, h3, h4⟩ := hR
        refine va_iast hx hb hK h1 h2 h3 a 0 (cvW_at ha) rfl q hdg (fun H1 locs1 g1 g2 g3 => hk _ _ _ _ h H1 locs1 ls ⟨?_, ?_, g3, h4⟩)
        · rw [cvW_set]; exact g1
        · rw [cvW_set]; exact g2
    · cases h
  · cases h
theorem go_last (X : Cx p R s m args c cells slots D tc ad A nL own cc ca) (hdg : decode cc pc = .ok (.lastore, 1)) (hk : ∀ pc' lo' st' ws', k pc' lo' st' ws' = some res → Go p l e R s m args below meth c cells slots Q D tc ad A nL pc' lo' st' ws') (h : aLast k (pc + 1) lo st ws = some res) : Go p l e R s m args below meth c cells slots Q D tc ad A nL pc lo st ws := by
  obtain ⟨⟨hx, hb, -⟩, hK, -, -, -, hca⟩ := X
  unfold aLast at h
  split at h
  · rename_i x i a st
    split at h
    · rename_i n f ha
      intro H locs ls hR
      by_cases q : i < 0 ∨ n ≤ i.toNatClampNeg
      · exact absurd ((br_so h).1 q) (fun z => by cases z)
      · replace h := (br_so h).2 q
        obtain ⟨h1, h2, h3, h4⟩ := hR
        refine va_last hx hb hK h1 h2 h3 a 1 (cvW_at ha) rfl q hdg (fun H1 locs1 g1 g2 g3 => hk _ _ _ _ h H1 locs1 ls ⟨?_, ?_, g3, h4⟩)
        · rw [cvW_set]; exact g1
        · rw [cvW_set]; exact g2
    · cases h
  · cases h
theorem go_bast (X : Cx p R s m args c cells slots D tc ad A nL own cc ca) (hdg : decode cc pc = .ok (.bastore, 1)) (hk : ∀ pc' lo' st' ws', k pc' lo' st' ws' = some res → Go p l e R s m args below meth c cells slots Q D tc ad A nL pc' lo' st' ws') (h : aBast k (pc + 1) lo st ws = some res) : Go p l e R s m args below meth c cells slots Q D tc ad A nL pc lo st ws := by
  obtain ⟨⟨hx, hb, -⟩, hK, -, -, -, hca⟩ := X
  unfold aBast at h
  split at h
  · rename_i x i a st
    split at h
    · rename_i n f ha
      intro H locs ls hR
      by_cases q : i < 0 ∨ n ≤ i.toNatClampNeg
      · exact absurd ((br_so h).1 q) (fun z => by cases z)
      · replace h := (br_so h).2 q
        obtain ⟨h1, h2, h3, h4⟩ := hR
        refine va_bast hx hb hK h1 h2 h3 a 2 (cvW_at ha) rfl q hdg (fun H1 locs1 g1 g2 g3 => hk _ _ _ _ h H1 locs1 ls ⟨?_, ?_, g3, h4⟩)
        · rw [cvW_set]; exact g1
        · rw [cvW_set]; exact g2
    · cases h
  · cases h
theorem go_len (X : Cx p R s m args c cells slots D tc ad A nL own cc ca) (hdg : decode cc pc = .ok (.arraylength, 1)) (hk : ∀ pc' lo' st' ws', k pc' lo' st' ws' = some res → Go p l e R s m args below meth c cells slots Q D tc ad A nL pc' lo' st' ws') (h : aLen ca k (pc + 1) lo st ws = some res) : Go p l e R s m args below meth c cells slots Q D tc ad A nL pc lo st ws := by
  obtain ⟨⟨hx, hb, -⟩, hK, -, -, -, hca⟩ := X
  unfold aLen at h
  split at h
  · split at h
    · rename_i n f ha hc
      intro H locs ls hR
      exact va_tlen hx hb (hca _ _ _ hc) hR.2.2.1 rfl hdg (hk _ _ _ _ h H locs ls hR)
    · cases h
  · cases h
-- fields
def FlOK (own : String) (ix ci fk kd : Nat) : Prop := ∃ (C : String) (T : u_T) (N : Nat) (ty0 : Nat → FieldType), vwCl[ci]? = some (C, T, N) ∧ fk < N ∧ (∀ w ∈ u_ws C T N, w ∈ WU) ∧ (∀ k, k < N → parseFieldDescriptor (T k).2.2.1 = some (ty0 k)) ∧ (∀ a, a < N → ∀ b, b < N → a ≠ b → (T a).2.1 ≠ (T b).2.1) ∧
  (Cond.fieldLink own ix (T fk).1 (T fk).2.1 (T fk).2.2.1 ∈ WU ∨ (own, ix, (T fk).1, (T fk).2.1, (T fk).2.2.1) ∈ nestL) ∧ (kd < 2 → (T fk).2.2.2 = false) ∧ (kd = 0 → ty0 fk = .int) ∧ (kd = 1 → ty0 fk = .boolean)
theorem go_get {fl : Fls} {ix : Nat} (hfl : ∀ ix ci fk kd, fl.lookup ix = some (ci, fk, kd) → FlOK own ix ci fk kd) (X : Cx p R s m args c cells slots D tc ad A nL own cc ca) (hdg : decode cc pc = .ok (.getfield ix, 3)) (hk : ∀ pc' lo' st' ws', k pc' lo' st' ws' = some res → Go p l e R s m args below meth c cells slots Q D tc ad A nL pc' lo' st' ws') (h : aGet fl ix k (pc + 3) lo st ws = some res) : Go p l e R s m args below meth c cells slots Q D tc ad A nL pc lo st ws := by
  obtain ⟨⟨hx, hb, hml, hown, hts⟩, hK, hG, -, -, hca⟩ := X
  unfold aGet at h
  split at h
  · rename_i a st
    split at h
    · rename_i ci fk kd cj fs e1 e2
      split at h
      · rename_i ec
        subst ec
        split at h
        · rename_i v hv
          obtain ⟨C, T, N, ty0, f1, f2, f3, f4, f5, f6, -⟩ := hfl _ _ _ _ e1
          intro H locs ls hR
          have he : (cvW tc ad ws)[a]? = some (ad a, .inr (ci, fs.map (cvV ad))) := by
            rw [cvW_at e2, cvC_obj tc ad fs (cl_ne f1)]
          have hv' : (fs.map (cvV ad))[fk]? = some (cvV ad v) := by rw [List.getElem?_map, hv]; rfl
          rcases f6 with f6 | f6
          · exact va_get hx hb hts f3 hown hK hR.1 a he f1 fk f2 (hts _ f6) (fun _ h9 => h9) hv' hdg (hk _ _ _ _ h H locs ls hR)
          · exact va_getN (host := "LeftTillCalled") hx hb hts f3 hown hK hR.1 a he f1 fk f2 (va_Nw.use rfl (hG.1 _ f6)) (fun _ h9 => h9) hv' hdg (hk _ _ _ _ h H locs ls hR)
        · cases h
      · cases h
    · cases h
  · cases h
theorem go_put1 {ix ci fk kd : Nat} {x : Int32} {fs : List Value} {a : Nat} (f : FlOK own ix ci fk kd) (hx1 : kd = 0 ∨ (kd = 1 ∧ (x = 0 ∨ x = 1))) (X : Cx p R s m args c cells slots D tc ad A nL own cc ca) (hdg : decode cc pc = .ok (.putfield ix, 3)) (e2 : ws[a]? = some (.inr (ci, fs))) (hl : fk < fs.length) (h : Go p l e R s m args below meth c cells slots Q D tc ad A nL (pc + 3) lo st (ws.set a (.inr (ci, fs.set fk (.int x))))) : Go p l e R s m args below meth c cells slots Q D tc ad A nL pc lo (.int x :: .ref a :: st) ws := by
  obtain ⟨⟨hx, hb, hml, hown, hts⟩, hK, hG, -, -, hca⟩ := X
  obtain ⟨C, T, N, ty0, f1, f2, f3, f4, f5, f6, f7, f8, f9⟩ := f
  intro H locs ls hR
  obtain ⟨h1, h2, h3, h4⟩ := hR
  have he : (cvW tc ad ws)[a]? = some (ad a, .inr (ci, fs.map (cvV ad))) := by
    rw [cvW_at e2, cvC_obj tc ad fs (cl_ne f1)]
  have hl' : fk < (fs.map (cvV ad)).length := by rw [List.length_map]; exact hl
  have hset : ∀ H1 : Heap, va_P D vwCl ((cvW tc ad ws).set a (ad a, .inr (ci, (fs.map (cvV ad)).set fk (.int x)))) H1 → va_P D vwCl (cvW tc ad (ws.set a (.inr (ci, fs.set fk (.int x))))) H1 := by
    intro H1 g
    rw [cvW_set]
    have : cvC tc ad (.inr (ci, fs.set fk (.int x))) = .inr (ci, (fs.map (cvV ad)).set fk (.int x)) := by
      rw [cvC_obj tc ad _ (cl_ne f1), List.map_set]
      rfl
    rw [this]
    exact g
  have hn : ∃ ty, ty0 fk = ty ∧ narrow ty (.int x) = .int x ∧ fits ty (.int x) = true := by
    rcases hx1 with e | ⟨e, e'⟩
    · exact ⟨.int, f8 e, rfl, rfl⟩
    · refine ⟨.boolean, f9 e, ?_⟩
      rcases e' with rfl | rfl <;> exact ⟨by decide, by decide⟩
  have hkd : kd < 2 := by rcases hx1 with e | ⟨e, -⟩ <;> omega
  obtain ⟨ty, n0, n1, n2⟩ := hn
  have hd := f4 fk f2
  rw [n0] at hd
  have hDs : ∀ {q : ACell}, va_D A (cvW tc ad (ws.set a q)) := fun {q} => cvD_same (by rw [List.length_set]) h2
  rcases f6 with f6 | f6
  · exact va_put hx hb hts f3 ty0 f4 f5 hown hK h1 h2 h3 a he f1 fk f2 (hts _ f6) (fun _ h9 => h9) (f7 hkd) hd n1 n2 hl' hdg (fun H1 locs1 g1 g2 g3 => h H1 locs1 ls ⟨hset _ g1, hDs, g3, h4⟩)
  · exact va_putN (host := "LeftTillCalled") hx hb hts f3 ty0 f4 f5 hown hK h1 h2 h3 a he f1 fk f2 (va_Nw.use rfl (hG.1 _ f6)) (fun _ h9 => h9) (f7 hkd) hd n1 n2 hl' hdg (fun H1 locs1 g1 g2 g3 => h H1 locs1 ls ⟨hset _ g1, hDs, g3, h4⟩)
theorem go_put {fl : Fls} {ix : Nat} (hfl : ∀ ix ci fk kd, fl.lookup ix = some (ci, fk, kd) → FlOK own ix ci fk kd) (X : Cx p R s m args c cells slots D tc ad A nL own cc ca) (hdg : decode cc pc = .ok (.putfield ix, 3)) (hk : ∀ pc' lo' st' ws', k pc' lo' st' ws' = some res → Go p l e R s m args below meth c cells slots Q D tc ad A nL pc' lo' st' ws') (h : aPut fl ix k (pc + 3) lo st ws = some res) : Go p l e R s m args below meth c cells slots Q D tc ad A nL pc lo st ws := by
  unfold aPut at h
  split at h
  · rename_i x a st
    split at h
    · rename_i ci fk cj fs e1 e2
      split at h
      · rename_i hc
        obtain ⟨rfl, hl⟩ := hc
        exact go_put1 (hfl _ _ _ _ e1) (Or.inl rfl) X hdg e2 hl (hk _ _ _ _ h)
      · cases h
    · rename_i ci fk cj fs e1 e2
      split at h
      · rename_i hc
        obtain ⟨rfl, hl⟩ := hc
        by_cases hv : x = 0 ∨ x = 1
        · exact go_put1 (hfl _ _ _ _ e1) (Or.inr ⟨rfl, hv⟩) X hdg e2 hl (hk _ _ _ _ ((br_so h).1 hv))
        · exact absurd ((br_so h).2 hv) (fun z => by cases z)
      · cases h
    · cases h
  · cases h
theorem go_gets {ks ix : Nat} (hks : ks ≠ 0 → Cond.fieldLink own ks "LeftTillCalled" "KIND_ABOVE" "[I" ∈ WU) (X : Cx p R s m args c cells slots D tc ad A nL own cc ca) (hix : ix ≠ 0) (hdg : decode cc pc = .ok (.getstatic ix, 3)) (hk : ∀ pc' lo' st' ws', k pc' lo' st' ws' = some res → Go p l e R s m args below meth c cells slots Q D tc ad A nL pc' lo' st' ws') (h : aGets ks ix k (pc + 3) lo st ws = some res) : Go p l e R s m args below meth c cells slots Q D tc ad A nL pc lo st ws := by
  obtain ⟨⟨hx, hb, hml, hown, hts⟩, hK, hG, -, -, hca⟩ := X
  unfold aGets at h
  split at h
  · rename_i e
    subst e
    intro H locs ls hR
    exact va_gets hx hb hG.2.1 hR.2.2.1 hown (hts _ (hks hix)) (fun _ h9 => h9) hdg (hk _ _ _ _ h H locs ls hR)
  · cases h
end
