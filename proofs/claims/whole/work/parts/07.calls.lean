section
variable {p : Program} {l : Launch} {e : Env} {R : Room} {s : State} {m : MethodId} {args : Array Value} {below : List Frame} {meth : Method} {c : Code} {cells slots : Nat} {Q : State → Prop} {D : va_G} {tc : Nat → ClassId} {ad : Nat → Nat} {A : Nat → Prop} {nL : Nat} {own : String} {cc : ByteArray}
/-- a call whose end is told by MPost -/
theorem va_callM {pc : Nat} {ls : Array Slot} {st0 rest : List Value} {H : Heap} {locs : List Loc} {Qa : State → Outcome → State → Prop} {free : Addr → Prop} {A1 : Nat → Prop} {v0 : Option Value} {B : State → Prop} (hr : va_Run p l e R s m args below meth c H locs cells slots 0 0 (F0 m pc ls st0) rest Qa free) (hQ : ∀ st o t, Qa st o t → (o = .returned v0 ∧ B t) ∧ va_F A1 st t) (hS : va_S A s.heap H locs) (hA : ∀ q, q < H.size → A1 q → A q) (hf : ∀ q, free q → A q)
    (kk : ∀ (t : State) (H1 : Heap) (locs1 : List Loc), t.heap = H1 → B t → (∀ q : Nat, q < H.size → ¬ A1 q → H1[q]? = H[q]?) → va_S A s.heap H1 locs1 → W p l e R s m args below meth c H1 locs1 cells slots Q (F0 m (pc + 3) ls (v0.toList ++ rest))) : W p l e R s m args below meth c H locs cells slots Q (F0 m pc ls st0) := by
  intro T hT X
  obtain ⟨v, st₀, t, T', L, h0, X', hL, e1, e2, hq, st⟩ := hr T hT X
  obtain ⟨⟨hv, hb⟩, hz, hk⟩ := hQ _ _ _ hq
  cases hv
  rw [h0] at hz hk
  obtain ⟨t2, a1, b1⟩ := kk t T'.heap (locs ++ L) e1.symm hb (fun q h1 h2 => by rw [e1]; exact hk q h1 h2)
    ⟨Nat.le_trans hS.1 (by rw [e1]; exact hz), fun q h1 h2 => by rw [e1, hk q (Nat.lt_of_lt_of_le h1 hS.1) (fun z => h2 (hA q (Nat.lt_of_lt_of_le h1 hS.1) z))]; exact hS.2.1 q h1 h2, fun q hq => by
      rcases List.mem_append.mp hq with h | h
      · exact hS.2.2 q h
      · exact hf _ (hL q h)⟩ T' rfl X'
  exact ⟨t2, st t2 a1, b1⟩
theorem mpre_blind {D : va_G} {tc : Nat → ClassId} {ad : Nat → Nat} {as : List Value} {ws : AW} {sz : Nat} : FrameBlind (MPre D tc ad as ws sz) := by
  intro a U g mk q
  obtain ⟨q0, q1, qP, qK, qD, qG⟩ := q
  exact ⟨q0, q1, qP, va_K.moved (u := U) (U := U.calling g mk a) (Vm.Alike.refl U.vm) qK, qD, qG.same (U := U.calling g mk a) rfl⟩
/-- what a call needs of the tables, by its kind -/
def CallWd (R : Room) (own : String) (ix kd n : Nat) (y : MethodName) (rm : Room) (cc' : ByteArray) (maxL : Nat) (rt : Option FieldType) (ci : Nat) : Prop :=
  (rm.cells = 0 ∧ rm.slots = 0 ∧ rm.frames + 1 ≤ R.frames ∧ 8 + (maxL + 11) + rm.locals ≤ R.locals) ∧ Cond.code y cc' maxL rt ∈ WU ∧ Cond.methodLink own ix y ∈ WU ∧ Cond.initialized y.cls ∈ WU ∧ (y.cls ≠ "java/lang/invoke/MethodHandle" ∧ y.cls ≠ "java/lang/invoke/VarHandle") ∧
  ((kd = 0 ∧ Cond.instanceMethod y ∈ WU ∧ Cond.selects y.cls y y ∈ WU ∧ (∃ q : vw_C, vwCl[ci]? = some q ∧ q.1 = y.cls) ∧ ∃ n', n = n' + 1 ∧ (parseMethodDescriptor y.desc).map (fun d => d.parameters.length) = some n') ∨ (kd = 1 ∧ Cond.static y ∈ WU ∧ (parseMethodDescriptor y.desc).map (fun d => d.parameters.length) = some n))
theorem good_cons {w : Cond} {ws : List Cond} (h : w ∈ WU) (hs : GoodIn WU ws) : GoodIn WU (w :: ws) := fun u hu => by
  rcases List.mem_cons.mp hu with e | e
  · rw [e]; exact wu_good w h
  · exact hs u e
/-- a call: the callee's cells wc lie at the places pl of the caller's ws -/
theorem call_core {y : MethodName} {rm : Room} {cc' : ByteArray} {maxL ix kd n ci : Nat} {rt : Option FieldType} {as as' : List Value} {ws wc wc' ws' : AW} {v : Option Value} {ca : CAr} {ad' : Nat → Nat} {pl : List Nat}
    (X : Cx p R s m args c cells slots D tc ad A nL own cc ca) (hw : CallWd R own ix kd n y rm cc' maxL rt ci) (hd : Doc y rm cc' maxL rt as' wc v wc') (hrv : kd = 0 → ∃ r fs as1, as' = .ref r :: as1 ∧ wc[r]? = some (.inr (ci, fs)))
    (hn : as.length = n) (has : as'.map (cvV ad') = as.map (cvV ad)) (hge : ∀ k, 1000 ≤ k → ad' k = ad k)
    (hpl : pl.map (fun i => (cvW tc ad ws)[i]?) = (cvW tc ad' wc).map some)
    (hbk : ∀ (H H1 : Heap), va_P D vwCl (cvW tc ad ws) H → va_D A (cvW tc ad ws) → va_P D vwCl (cvW tc ad' wc') H1 → (∀ q : Nat, q < H.size → ¬ va_A (cvW tc ad' wc) H.size q → H1[q]? = H[q]?) → va_P D vwCl (cvW tc ad ws') H1) (hlen : ws'.length = ws.length) (hdis : va_nd pl = true) :
    ∀ (pc : Nat) (rest : List Value) (H : Heap) (locs : List Loc) (ls : Array Slot), decode cc pc = .ok (insOf kd ix, 3) → catSum rest ≤ 8 → ls.size = nL → va_P D vwCl (cvW tc ad ws) H → va_D A (cvW tc ad ws) → va_S A s.heap H locs →
      (∀ (H1 : Heap) (locs1 : List Loc), va_P D vwCl (cvW tc ad ws') H1 → va_D A (cvW tc ad ws') → va_S A s.heap H1 locs1 → W p l e R s m args below meth c H1 locs1 cells slots Q (F0 m (pc + 3) ls ((v.map (cvV ad')).toList ++ rest))) → W p l e R s m args below meth c H locs cells slots Q (F0 m pc ls (as.reverse.map (cvV ad) ++ rest)) := by
  intro pc rest H locs ls hdg hcat hls hP hD hS kk
  obtain ⟨⟨hx, hb, hml, hown, hts⟩, hK, hG, hA, hcs, -⟩ := X
  obtain ⟨⟨r1, r2, r3, r4⟩, w1, w2, w3, w4, w5⟩ := hw
  have hFc := va_free (wc := cvW tc ad' wc) hD hS hA pl hpl
  have hfm : pl.filterMap (fun i => (cvW tc ad ws)[i]?) = cvW tc ad' wc := by
    have h9 := congrArg (List.filterMap id) hpl
    rw [List.filterMap_map, List.filterMap_map] at h9
    have e9 : (id ∘ some : Nat × va_E → Option (Nat × va_E)) = some := rfl
    rw [e9, List.filterMap_some] at h9
    exact h9
  have hPc : va_P D vwCl (cvW tc ad' wc) H := hP.sub pl hfm
  have hDc : va_D A (cvW tc ad' wc) := by first | exact hD.sub pl hdis hpl | exact hD.sub pl hdis hfm
  have hpre : ∀ U : State, U.heap = H → s.WarmedH U.vm → MPre D tc ad' as' wc H.size (as.map (cvV ad)).toArray U := by
    intro U hU hW
    refine ⟨by rw [has], by rw [hU], by rw [hU]; exact hPc, va_K.moved hW.alike hK, hDc.weaken (fun _ _ _ _ => trivial), ?_⟩
    rw [hU]
    exact hG.go hW (fun a h1 h2 => hS.2.1 a h1 h2) hFc hge
  have hws : GoodIn WU (.code y cc' maxL rt :: WU) := good_cons w1 wu_good
  have fin : ∀ (t : State) (H1 : Heap) (locs1 : List Loc), t.heap = H1 → va_P D vwCl (cvW tc ad' wc') t.heap → (∀ q : Nat, q < H.size → ¬ va_A (cvW tc ad' wc) H.size q → H1[q]? = H[q]?) → va_S A s.heap H1 locs1 → W p l e R s m args below meth c H1 locs1 cells slots Q (F0 m (pc + 3) ls ((v.map (cvV ad')).toList ++ rest)) := by
    intro t H1 locs1 e1 q1 q2 q3
    rw [e1] at q1
    exact kk H1 locs1 (hbk H H1 hP hD q1 q2) (cvD_same hlen hD) q3
  rcases w5 with ⟨rfl, i1, i2, ⟨qc, i3, i4⟩, n', i5, i6⟩ | ⟨rfl, i1, i2⟩
  · obtain ⟨r, fs, as1, e1, e2⟩ := hrv rfl
    subst e1
    cases as with
    | nil => simp at has
    | cons a0 as0 =>
      rw [List.map_cons, List.map_cons] at has
      rw [List.map_cons] at hpre
      injection has with g1 g2
      have g3 : cvV ad a0 = .ref (ad' r) := g1.symm
      rw [g3] at hpre
      have hrun := va_runV (g := F0 m pc ls ((as0.map (cvV ad)).reverse ++ .ref (ad' r) :: rest)) (b := ad' r) (As := as0.map (cvV ad)) (rest := rest) (C := y.cls) (index := ix) (cells := cells) (slots := slots) (locs := locs) (below := below) (meth := meth) (e := e) (R := R) ⟨hx, hb, hml, hown, hts⟩ (hd.2 l D tc ad' H.size) (cwV n' hts (good_cons w2 (good_cons i1 (good_cons i2 (good_cons w3 hws)))) rfl r1 r2 ⟨rfl, w4.1, w4.2, i6⟩ ⟨r3, r4⟩) ⟨mpre_blind, by
        have := va_recv hK hPc (ci := ci) i3 (q0 := r) (fs := fs.map (cvV ad')) (by rw [cvW_at e2, cvC_obj tc ad' fs (cl_ne i3)])
        rw [i4] at this
        exact this, hpre⟩ rfl (by rw [List.length_map]; rw [List.length_cons] at hn; omega) hls rfl (by show 2 * 0 + _ ≤ 8; rw [Nat.mul_zero, Nat.zero_add]; exact hcat) hdg hcs
      have := va_callM (A1 := va_A (cvW tc ad' wc) H.size) (v0 := v.map (cvV ad')) (B := fun t => va_P D vwCl (cvW tc ad' wc') t.heap) hrun (fun st o t h => h) hS (fun q _ h => hFc q h) hFc fin
      rw [List.reverse_cons, List.map_append, List.append_assoc, List.map_reverse]
      show W p l e R s m args below meth c H locs cells slots Q (F0 m pc ls ((as0.map (cvV ad)).reverse ++ ([cvV ad a0] ++ rest)))
      rw [g3]
      exact this
  · have hrun := va_runS (g := F0 m pc ls ((as.map (cvV ad)).reverse ++ rest)) (As := as.map (cvV ad)) (rest := rest) (index := ix) (cells := cells) (slots := slots) (locs := locs) (below := below) (meth := meth) (e := e) (R := R) ⟨hx, hb, hml, hown, hts⟩ (hd.2 l D tc ad' H.size) (va_cwS n hts (good_cons w2 (good_cons i1 (good_cons w3 hws))) rfl r1 r2 ⟨w4.1, w4.2, i2⟩ ⟨r3, r4⟩) ⟨mpre_blind, hpre⟩ rfl (by rw [List.length_map]; exact hn) hls rfl (by show 2 * 0 + _ ≤ 8; rw [Nat.mul_zero, Nat.zero_add]; exact hcat) hdg hcs
    have := va_callM (A1 := va_A (cvW tc ad' wc) H.size) (v0 := v.map (cvV ad')) (B := fun t => va_P D vwCl (cvW tc ad' wc') t.heap) hrun (fun st o t h => h) hS (fun q _ h => hFc q h) hFc fin
    rw [List.map_reverse]
    exact this
end
