-- WORLDS THAT GROW
def Agr (n : Nat) (ad ad' : Nat → Nat) : Prop := ∀ k, k < n ∨ 1000 ≤ k → ad' k = ad k
theorem Agr.rf (n : Nat) (ad : Nat → Nat) : Agr n ad ad := fun _ _ => rfl
theorem Agr.tr {n m : Nat} {a b c : Nat → Nat} (h : Agr n a b) (g : Agr m b c) (hm : n ≤ m) : Agr n a c := fun k hk => (g k (by omega)).trans (h k hk)
def okV (n : Nat) (v : Value) : Bool := match v with
  | .ref k => decide (k < n) || decide (1000 ≤ k)
  | _ => true
def okC (n : Nat) (q : ACell) : Bool := match q with
  | .inl _ => true
  | .inr (_, fs) => fs.all (okV n)
def okO (n : Nat) (o : Option Value) : Bool := match o with
  | none => true
  | some v => okV n v
def okS (ws : AW) (lo : AL) (st : List Value) : Bool := decide (ws.length < 1000) && (ws.all (okC ws.length) && (lo.all (okO ws.length) && st.all (okV ws.length)))
theorem cvV_agr {n : Nat} {ad ad' : Nat → Nat} (h : Agr n ad ad') {v : Value} (hv : okV n v = true) : cvV ad' v = cvV ad v := by
  cases v with
  | ref k =>
    have hk : k < n ∨ 1000 ≤ k := by simpa [okV] using hv
    show Value.ref (ad' k) = .ref (ad k)
    rw [h k hk]
  | _ => rfl
theorem cvVs_agr {n : Nat} {ad ad' : Nat → Nat} (h : Agr n ad ad') {vs : List Value} (hv : vs.all (okV n) = true) : vs.map (cvV ad') = vs.map (cvV ad) :=
  List.map_congr_left (fun v hm => cvV_agr h (List.all_eq_true.mp hv v hm))
theorem cvC_agr {tc : Nat → ClassId} {n : Nat} {ad ad' : Nat → Nat} (h : Agr n ad ad') {q : ACell} (hq : okC n q = true) : cvC tc ad' q = cvC tc ad q := by
  cases q with
  | inl a => rfl
  | inr o =>
    obtain ⟨ci, fs⟩ := o
    exact cvC_eq (cvVs_agr h hq)
theorem cvW_agr {tc : Nat → ClassId} {ad ad' : Nat → Nat} {ws : AW} (h : Agr ws.length ad ad') (hw : ws.all (okC ws.length) = true) : cvW tc ad' ws = cvW tc ad ws := by
  unfold cvW
  apply List.ext_getElem?
  intro i
  rw [List.getElem?_mapIdx, List.getElem?_mapIdx]
  cases hi : ws[i]? with
  | none => rfl
  | some q =>
    have hlt : i < ws.length := (List.getElem?_eq_some_iff.mp hi).1
    have hm : q ∈ ws := List.mem_of_getElem? hi
    show some (ad' i, cvC tc ad' q) = some (ad i, cvC tc ad q)
    rw [h i (Or.inl hlt), cvC_agr h (List.all_eq_true.mp hw q hm)]
theorem cvW_snoc (tc : Nat → ClassId) (ad : Nat → Nat) (ws : AW) (q : ACell) : cvW tc ad (ws ++ [q]) = cvW tc ad ws ++ [(ad ws.length, cvC tc ad q)] := by
  unfold cvW
  rw [List.mapIdx_append]
  simp
theorem cvL_agr {n : Nat} {ad ad' : Nat → Nat} (h : Agr n ad ad') {lo : AL} (hl : lo.all (okO n) = true) : cvL ad' lo = cvL ad lo := by
  unfold cvL
  congr 1
  apply List.ext_getElem?
  intro i
  rw [List.getElem?_mapIdx, List.getElem?_mapIdx]
  cases hi : lo[i]? with
  | none => rfl
  | some o =>
    have hm : o ∈ lo := List.mem_of_getElem? hi
    cases o with
    | none => rfl
    | some v =>
      show some (some (i, cvV ad' v)) = some (some (i, cvV ad v))
      rw [cvV_agr h (List.all_eq_true.mp hl _ hm)]
theorem okS_spec {ws : AW} {lo : AL} {st : List Value} (h : okS ws lo st = true) : ws.length < 1000 ∧ ws.all (okC ws.length) = true ∧ lo.all (okO ws.length) = true ∧ st.all (okV ws.length) = true := by
  simp only [okS, Bool.and_eq_true, decide_eq_true_eq] at h
  exact h
def adx (ad : Nat → Nat) (k a : Nat) : Nat → Nat := fun j => if j = k then a else ad j
theorem adx_agr {ad : Nat → Nat} {k a : Nat} (hk : k < 1000) : Agr k ad (adx ad k a) := fun j hj => if_neg (by omega)
theorem adx_at (ad : Nat → Nat) (k a : Nat) : adx ad k a k = a := if_pos rfl
theorem Glob.agr {ad ad' : Nat → Nat} {A : Nat → Prop} {U : State} {H : Heap} (h : Glob ad A U H) (he : ∀ k, 1000 ≤ k → ad' k = ad k) : Glob ad' A U H := by
  obtain ⟨h1, h2, h3, h4, ⟨adV, h5⟩, h6, v, hv, h7⟩ := h
  refine ⟨h1, ?_, ?_, fun i hi => ?_, ⟨adV, ?_⟩, h6, v, hv, h7⟩
  · rw [he 1100 (by decide)]; exact h2
  · rw [he 1100 (by decide)]; exact h3
  · rw [he (1000 + i) (by omega)]; exact h4 i hi
  · have e : (fun i => ad' (1000 + i)) = (fun i => ad (1000 + i)) := funext fun i => he _ (by omega)
    rw [e]
    exact h5
section
variable {p : Program} {l : Launch} {e : Env} {R : Room} {s : State} {m : MethodId} {args : Array Value} {below : List Frame} {meth : Method} {c : Code} {cells slots : Nat} {Q : State → Prop} {D : va_G} {tc : Nat → ClassId} {ad : Nat → Nat} {A : Nat → Prop} {nL : Nat} {own : String} {cc : ByteArray}
theorem Cx.agr {ca : CAr} {cells' slots' : Nat} {ad' : Nat → Nat} (X : Cx p R s m args c cells slots D tc ad A nL own cc ca) (hca : ∀ a, ca a ≠ none → 1000 ≤ a) (he : ∀ k, 1000 ≤ k → ad' k = ad k) (hc : cells' ≤ R.cells) (hs : slots' ≤ R.slots) : Cx p R s m args c cells' slots' D tc ad' A nL own cc ca := by
  obtain ⟨x1, x2, x3, x4, x5, x6⟩ := X
  refine ⟨x1, x2, x3.agr he, x4, ⟨hc, hs⟩, fun a n f ha => ?_⟩
  rw [he a (hca a (by rw [ha]; exact fun z => by cases z))]
  exact x6 a n f ha
variable {ca : CAr} {pc : Nat} {lo : AL} {st : List Value} {ws : AW}
theorem go_cast {lo' : AL} {st' : List Value} {ws' : AW} (h1 : lo = lo') (h2 : st = st') (h3 : ws = ws') (k : Go p l e R s m args below meth c cells slots Q D tc ad A nL pc lo' st' ws') : Go p l e R s m args below meth c cells slots Q D tc ad A nL pc lo st ws := by
  subst h1; subst h2; subst h3; exact k
/-- a run of instructions that make nothing -/
theorem go_seg {T : List (Nat × Ent)} {hd : List (Nat × List Bool)} {fl : Fls} {cn : Cns} {ks : Nat} {E : Cal} (hfl : ∀ ix ci fk kd, fl.lookup ix = some (ci, fk, kd) → FlOK own ix ci fk kd) (hcn : ∀ ix v, cn.lookup ix = some v → CnOK own ix v) (hks : ks ≠ 0 → Cond.fieldLink own ks "LeftTillCalled" "KIND_ABOVE" "[I" ∈ WU) (hE : ∀ ix kd n F, E.lookup ix = some (kd, n, F) → CallOK R own cc ix kd n F) (X : Cx p R s m args c cells slots D tc ad A nL own cc ca) (hT : tblOK cn cc T = true) {g : Nat} {rt : Option FieldType} {res : Nat × AL × List Value × AW}
    (h : runG T hd fl ks ca E rt (fun _ _ => none) (fun pc lo st ws => some (pc, lo, st, ws)) g pc lo st ws = some res) (kk : Go p l e R s m args below meth c cells slots Q D tc ad A nL res.1 res.2.1 res.2.2.1 res.2.2.2) : Go p l e R s m args below meth c cells slots Q D tc ad A nL pc lo st ws :=
  runG_sound (res := res) hfl hcn hks hE X hT (fun v ws' z => by cases z) (fun pc lo st ws z => by cases z; exact kk) g pc lo st ws h
/-- new: an object -/
theorem go_new {ix ci N : Nat} {C : String} {T : u_T} {ty : Nat → FieldType} {fs : List Value} (X : Cx p R s m args c cells slots D tc ad A nL own cc ca) (hin : ∀ w ∈ u_ws C T N, w ∈ WU) (hty : ∀ k, k < N → parseFieldDescriptor (T k).2.2.1 = some (ty k)) (h1 : Cond.classLink own ix C ∈ WU) (h2 : Cond.instantiable C N ∈ WU) (h3 : Cond.initialized C ∈ WU) (hc : vwCl[ci]? = some (C, T, N)) (hfs : ∀ j, j < N → defaultValue (ty j) = vp_V fs j) (hnr : fs.all (okV 0) = true) (hn2 : ∀ ad : Nat → Nat, fs.map (cvV ad) = fs) (ok : okS ws lo st = true) (hcs : cells + 1 ≤ R.cells ∧ slots + N ≤ R.slots) (hdg : decode cc pc = .ok (.new ix, 3))
    (kk : ∀ ad', Agr ws.length ad ad' → Go p l e R s m args below meth c (cells + 1) (slots + N) Q D tc ad' A nL (pc + 3) lo (.ref ws.length :: st) (ws ++ [.inr (ci, fs)])) : Go p l e R s m args below meth c cells slots Q D tc ad A nL pc lo st ws := by
  obtain ⟨o1, o2, o3, o4⟩ := okS_spec ok
  obtain ⟨⟨hx, hb, hml, hown, hts⟩, hK, hG, hA, -, -⟩ := X
  intro H locs ls hR
  obtain ⟨hP, hD, hS, hlen, hl⟩ := hR
  refine va_new hx hb hts hin ty hty hown (hts _ h1) (hts _ h2) (hts _ h3) hK hP hD hS hA hc hfs hcs.1 hcs.2 hdg (fun q H1 hP hD hS => ?_)
  have ag : Agr ws.length ad (adx ad ws.length q) := adx_agr o1
  have ew : cvW tc (adx ad ws.length q) (ws ++ [.inr (ci, fs)]) = cvW tc ad ws ++ [(q, .inr (ci, fs))] := by
    rw [cvW_snoc, cvW_agr ag o2, adx_at, cvC_obj tc _ fs (cl_ne hc), hn2]
  have := kk (adx ad ws.length q) ag H1 locs ls ⟨by rw [ew]; exact hP, by rw [ew]; exact hD, hS, hlen, by rw [cvL_agr ag o3]; exact hl⟩
  rw [List.map_cons, cvVs_agr ag o4] at this
  have e2 : cvV (adx ad ws.length q) (.ref ws.length) = .ref q := by show Value.ref (adx ad ws.length q ws.length) = _; rw [adx_at]
  rw [e2] at this
  exact this
/-- a new array: t its number among the array classes -/
theorem go_newa {t N : Nat} {at9 : ArrayType} {ty : FieldType} {x : Int32} {a0 : vp_A} (X : Cx p R s m args c cells slots D tc ad A nL own cc ca) (harr : Cond.arrayClass (newarray.typeOf at9) ∈ WU) (hty : newarray.typeOf at9 = ty) (htc : (tyL tc)[t]? = some (tc t, ty)) (hno : ∀ C, ty ≠ .object C) (ha : ∀ cA : ClassId, vp_cell cA a0 = arrV cA N (fun _ => defaultValue ty)) (hn : ¬ x < 0) (hN : x.toNatClampNeg = N) (hby : N * componentBytes ty ≤ 536870912) (ok : okS ws lo st = true) (hcs : cells + 1 ≤ R.cells ∧ slots + N ≤ R.slots) (hdg : decode cc pc = .ok (.newarray at9, 2))
    (kk : ∀ ad', Agr ws.length ad ad' → Go p l e R s m args below meth c (cells + 1) (slots + N) Q D tc ad' A nL (pc + 2) lo (.ref ws.length :: st) (ws ++ [.inl (t, a0)])) : Go p l e R s m args below meth c cells slots Q D tc ad A nL pc lo (.int x :: st) ws := by
  obtain ⟨o1, o2, o3, o4⟩ := okS_spec ok
  obtain ⟨⟨hx, hb, hml, hown, hts⟩, hK, hG, hA, -, -⟩ := X
  intro H locs ls hR
  obtain ⟨hP, hD, hS, hlen, hl⟩ := hR
  refine va_newa hx hb (hts _ harr) hty hK hP hD hS hA ha hn hN hby hcs.1 hcs.2 hdg (fun q cA H1 hK2 hP hD hS => ?_)
  have hcA : cA = tc t := by
    have k1 := (hK2.2 4 (cA, ty) rfl).2
    have k2 := (hK.2 t (tc t, ty) htc).2
    cases ty with
    | object C => exact absurd rfl (hno C)
    | _ =>
      have k1 : s.vm.findClass _ = some cA := k1
      have k2 : s.vm.findClass _ = some (tc t) := k2
      exact Option.some.inj (k1.symm.trans k2)
  subst hcA
  have ag : Agr ws.length ad (adx ad ws.length q) := adx_agr o1
  have ew : cvW tc (adx ad ws.length q) (ws ++ [.inl (t, a0)]) = cvW tc ad ws ++ [(q, .inl (tc t, a0))] := by
    rw [cvW_snoc, cvW_agr ag o2, adx_at]
    rfl
  have := kk (adx ad ws.length q) ag H1 locs ls ⟨by rw [ew]; exact hP, by rw [ew]; exact hD, hS, hlen, by rw [cvL_agr ag o3]; exact hl⟩
  rw [List.map_cons, cvVs_agr ag o4] at this
  have e2 : cvV (adx ad ws.length q) (.ref ws.length) = .ref q := by show Value.ref (adx ad ws.length q ws.length) = _; rw [adx_at]
  rw [e2] at this
  exact this
/-- a new array of sheets -/
theorem go_newq {ix N : Nat} {x : Int32} (X : Cx p R s m args c cells slots D tc ad A nL own cc ca) (h1 : Cond.classLink own ix "LeftTillCalled$Sheet" ∈ WU) (hover : va_AO "LeftTillCalled$Sheet" s) (hn : ¬ x < 0) (hN : x.toNatClampNeg = N) (hby : N * 4 ≤ 536870912) (ok : okS ws lo st = true) (hcs : cells + 1 ≤ R.cells ∧ slots + N ≤ R.slots) (hdg : decode cc pc = .ok (.anewarray ix, 3))
    (kk : ∀ ad', Agr ws.length ad ad' → Go p l e R s m args below meth c (cells + 1) (slots + N) Q D tc ad' A nL (pc + 3) lo (.ref ws.length :: st) (ws ++ [.inr (99, List.replicate N .null)])) : Go p l e R s m args below meth c cells slots Q D tc ad A nL pc lo (.int x :: st) ws := by
  obtain ⟨o1, o2, o3, o4⟩ := okS_spec ok
  obtain ⟨⟨hx, hb, hml, hown, hts⟩, hK, hG, hA, -, -⟩ := X
  intro H locs ls hR
  obtain ⟨hP, hD, hS, hlen, hl⟩ := hR
  refine va_newq hx hb hown (hts _ h1) hover hK hP hD hS hA hn hN hby hcs.1 hcs.2 hdg (fun q cA H1 hK2 hP hD hS => ?_)
  have hcA : cA = tc 3 := by
    obtain ⟨-, -, -, -, -, k1⟩ := (hK2.2 4 (cA, .object "LeftTillCalled$Sheet") rfl).2
    obtain ⟨-, -, -, -, -, k2⟩ := (hK.2 3 (tc 3, .object "LeftTillCalled$Sheet") rfl).2
    exact Option.some.inj (k1.symm.trans k2)
  subst hcA
  have ag : Agr ws.length ad (adx ad ws.length q) := adx_agr o1
  have ec : ∀ ad2 : Nat → Nat, cvC tc ad2 (.inr (99, List.replicate N .null)) = .inl (tc 3, N, .inr (.inr (.inr (.inr (fun _ => none))))) := by
    intro ad2
    show Sum.inl (tc 3, (List.replicate N Value.null).length, _) = _
    rw [List.length_replicate]
    congr 7
    funext j
    unfold rfOf
    rw [List.map_replicate, List.getElem?_replicate]
    split
    · rename_i z
      split at z <;> cases z
    · rfl
  have ew : cvW tc (adx ad ws.length q) (ws ++ [.inr (99, List.replicate N .null)]) = cvW tc ad ws ++ [(q, .inl (tc 3, N, .inr (.inr (.inr (.inr (fun _ => none))))))] := by
    rw [cvW_snoc, cvW_agr ag o2, adx_at, ec]
  have := kk (adx ad ws.length q) ag H1 locs ls ⟨by rw [ew]; exact hP, by rw [ew]; exact hD, hS, hlen, by rw [cvL_agr ag o3]; exact hl⟩
  rw [List.map_cons, cvVs_agr ag o4] at this
  have e2 : cvV (adx ad ws.length q) (.ref ws.length) = .ref q := by show Value.ref (adx ad ws.length q ws.length) = _; rw [adx_at]
  rw [e2] at this
  exact this
/-- a reference comes to a field, once, in a constructor -/
theorem go_putR {ix ci k N a v : Nat} {C : String} {T : u_T} {ty0 : Nat → FieldType} {ty : FieldType} {fs : List Value} (X : Cx p R s m args c cells slots D tc ad A nL own cc ca) (hin2 : meth.name = "<init>") (hin : ∀ w ∈ u_ws C T N, w ∈ WU) (hty : ∀ k, k < N → parseFieldDescriptor (T k).2.2.1 = some (ty0 k)) (hnm : ∀ a, a < N → ∀ b, b < N → a ≠ b → (T a).2.1 ≠ (T b).2.1) (hw : ws[a]? = some (.inr (ci, fs))) (hc : vwCl[ci]? = some (C, T, N)) (hk : k < N) (hlink : Cond.fieldLink own ix C (T k).2.1 (T k).2.2.1 ∈ WU) (hTC : (T k).1 = C) (hown2 : C = own) (hfin : (T k).2.2.2 = true) (hd : parseFieldDescriptor (T k).2.2.1 = some ty) (hnar : ∀ b, narrow ty (.ref b) = .ref b) (hfit : ∀ b, fits ty (.ref b) = true) (hl : k < fs.length) (hdg : decode cc pc = .ok (.putfield ix, 3))
    (kk : Go p l e R s m args below meth c cells slots Q D tc ad A nL (pc + 3) lo st (ws.set a (.inr (ci, fs.set k (.ref v))))) : Go p l e R s m args below meth c cells slots Q D tc ad A nL pc lo (.ref v :: .ref a :: st) ws := by
  subst hown2
  obtain ⟨⟨hx, hb, hml, hown, hts⟩, hK, hG, hA, -, -⟩ := X
  intro H locs ls hR
  obtain ⟨hP, hD, hS, hlen, hl2⟩ := hR
  have he : (cvW tc ad ws)[a]? = some (ad a, .inr (ci, fs.map (cvV ad))) := by rw [cvW_at hw, cvC_obj tc ad fs (cl_ne hc)]
  have ew : cvW tc ad (ws.set a (.inr (ci, fs.set k (.ref v)))) = (cvW tc ad ws).set a (ad a, .inr (ci, (fs.map (cvV ad)).set k (.ref (ad v)))) := by
    rw [cvW_set, cvC_obj tc ad _ (cl_ne hc), List.map_set]
    rfl
  exact va_putF (v := .ref (ad v)) hx hb hts hin ty0 hty hnm hown hK hP hD hS a he hc k hk (hts _ hlink) (fun x h => by rw [hTC] at h; exact h) hfin hin2 hTC hd (hnar _) (hfit _) (by rw [List.length_map]; exact hl) hdg (fun H1 locs1 q1 q2 q3 => kk H1 locs1 ls ⟨by rw [ew]; exact q1, by rw [ew]; exact q2, q3, hlen, hl2⟩)
/-- Object's constructor -/
theorem go_obj {ix a : Nat} (X : Cx p R s m args c cells slots D tc ad A nL own cc ca) (h1 : Cond.methodLink own ix Lib.objectInit ∈ WU) (h2 : Cond.instanceMethod Lib.objectInit ∈ WU) (h3 : Cond.code Lib.objectInit ⟨#[0xb1]⟩ 1 none ∈ WU) (hR : 1 ≤ R.frames ∧ 12 ≤ R.locals) (hdg : decode cc pc = .ok (.invokespecial ix, 3)) (kk : Go p l e R s m args below meth c cells slots Q D tc ad A nL (pc + 3) lo [] ws) : Go p l e R s m args below meth c cells slots Q D tc ad A nL pc lo [.ref a] ws := by
  obtain ⟨⟨hx, hb, hml, hown, hts⟩, hK, hG, hA, -, -⟩ := X
  intro H locs ls hRl
  have hRl2 := hRl
  obtain ⟨hP, hD, hS, hlen, hl2⟩ := hRl
  exact W.objInit (a := ad a) (rest := []) hx hb hown (hts _ h1) (hts _ h2) (hts _ h3) rfl (by rw [hml]; exact hl2.1) rfl hdg hR.1 hR.2 (kk H locs ls hRl2)
/-- a sheet comes to its place -/
theorem go_ast {q0 qk j : Nat} {fs vs : List Value} (X : Cx p R s m args c cells slots D tc ad A nL own cc ca) (hq : ws[q0]? = some (.inr (99, fs))) (hk : ws[qk]? = some (.inr (0, vs))) (hj : j < fs.length) (hf : fs.length < 1000) (hdg : decode cc pc = .ok (.aastore, 1)) (kk : Go p l e R s m args below meth c cells slots Q D tc ad A nL (pc + 1) lo st (ws.set q0 (.inr (99, fs.set j (.ref qk))))) : Go p l e R s m args below meth c cells slots Q D tc ad A nL pc lo (.ref qk :: .int (nI j) :: .ref q0 :: st) ws := by
  obtain ⟨⟨hx, hb, hml, hown, hts⟩, hK, hG, hA, -, -⟩ := X
  intro H locs ls hR
  obtain ⟨hP, hD, hS, hlen, hl2⟩ := hR
  have hcl : vwCl[0]? = some ("LeftTillCalled$Sheet", TX0, 3) := rfl
  have he : (cvW tc ad ws)[q0]? = some (ad q0, .inl (tc 3, fs.length, .inr (.inr (.inr (.inr (rfOf (fs.map (cvV ad)))))))) := cvW_at hq
  have hv : (cvW tc ad ws)[qk]? = some (ad qk, .inr (0, vs.map (cvV ad))) := by rw [cvW_at hk, cvC_obj tc ad vs (by decide)]
  have ec : cvC tc ad (.inr (99, fs.set j (.ref qk))) = .inl (tc 3, fs.length, .inr (.inr (.inr (.inr (va_up (rfOf (fs.map (cvV ad))) (nI j).toNatClampNeg (some (ad qk))))))) := by
    show Sum.inl (tc 3, (fs.set j (.ref qk)).length, _) = _
    rw [List.length_set, cl (by omega)]
    congr 7
    funext i
    unfold rfOf va_up
    rw [List.map_set, List.getElem?_set, List.length_map]
    by_cases e1 : j = i
    · subst e1
      rw [if_pos rfl, if_pos hj, if_pos rfl]
      rfl
    · rw [if_neg e1, if_neg (fun z => e1 z.symm)]
  have ew : cvW tc ad (ws.set q0 (.inr (99, fs.set j (.ref qk)))) = (cvW tc ad ws).set q0 (ad q0, .inl (tc 3, fs.length, .inr (.inr (.inr (.inr (va_up (rfOf (fs.map (cvV ad))) (nI j).toNatClampNeg (some (ad qk)))))))) := by
    rw [cvW_set, ec]
  exact va_astq (v := ad qk) hx hb hK hP hD hS q0 3 qk 0 he rfl hv hcl (i := nI j) (ix hj (by omega)) hdg (fun H1 locs1 q1 q2 q3 => kk H1 locs1 ls ⟨by rw [ew]; exact q1, by rw [ew]; exact q2, q3, hlen, hl2⟩)
end
