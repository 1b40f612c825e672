-- CONSTRUCTORS' CONTRACTS
def MPre2 (E : State → Prop) (D : va_G) (tc : Nat → ClassId) (ad : Nat → Nat) (as : List Value) (ws : AW) (sz : Nat) : Array Value → State → Prop := fun a U => MPre D tc ad as ws sz a U ∧ E U
def MPost2 (D : va_G) (tc : Nat → ClassId) (ad : Nat → Nat) (ws : AW) (sz : Nat) (ws' : AW) : Array Value → State → Outcome → State → Prop :=
  fun _ st oc t => (oc = .returned none ∧ ∃ ad', Agr ws.length ad ad' ∧ va_P D vwCl (cvW tc ad' ws') t.heap ∧ va_D (va_A (cvW tc ad ws) sz) (cvW tc ad' ws')) ∧ va_F (va_A (cvW tc ad ws) sz) st t
def Doc2 (E : State → Prop) (y : MethodName) (rm : Room) (cc : ByteArray) (maxL : Nat) (as : List Value) (ws ws' : AW) : Prop :=
  ∀ (l : Launch) (D : va_G) (tc : Nat → ClassId) (ad : Nat → Nat) (sz : Nat), Met l y (.code y cc maxL none :: WU) rm (MPre2 E D tc ad as ws sz) (MPost2 D tc ad ws sz ws') rm.cells rm.slots (va_A (cvW tc ad ws) sz)
def EOK (E : State → Prop) : Prop := ∀ u U : State, u.vm.Alike U.vm → E u → E U
theorem eok_true : EOK (fun _ => True) := fun _ _ _ _ => trivial
theorem caG_ge : ∀ a, caG a ≠ none → 1000 ≤ a := fun a h => by
  unfold caG at h
  by_cases e : a = 1100
  · omega
  · rw [if_neg e] at h; exact absurd rfl h
theorem doc2_of_go {E : State → Prop} {y : MethodName} {rm : Room} {cc : ByteArray} {maxL : Nat} {as : List Value} {ws ws' : AW} (hy : plainName y.cls = true) (hlen : (aLo as).length ≤ maxL)
    (body : ∀ {p : Program} {l : Launch} {e : Env} {s : State} {m : MethodId} {args : Array Value} {below : List Frame} {meth : Method} {c : Code} {Q : State → Prop} {D : va_G} {tc : Nat → ClassId} {ad : Nat → Nat} {A : Nat → Prop}, (meth.name = y.name) → E s → (∀ cells slots ad', cells ≤ rm.cells → slots ≤ rm.slots → (∀ k, 1000 ≤ k → ad' k = ad k) → Cx p rm s m args c cells slots D tc ad' A maxL y.cls cc caG) →
      (∀ ad' pc lo, Agr ws.length ad ad' → decode cc pc = .ok (.return_, 1) → Go p l e rm s m args below meth c rm.cells rm.slots Q D tc ad' A maxL pc lo [] ws') → Go p l e rm s m args below meth c 0 0 Q D tc ad A maxL 0 (loIn maxL as) [] ws) : Doc2 E y rm cc maxL as ws ws' := by
  intro l D tc ad sz
  refine Met.ofW (cc := cc) (maxL := maxL) (ret := none) hy rfl ?_
  intro p e s m args below meth c s₁ B hml hv
  obtain ⟨⟨rfl, hsz, hP, hK, hD0, hG⟩, hE⟩ := hv
  have hx := B.exec
  have hb := B.bytes
  have hr := B.returns
  have hts := atoms_spec (ws := .code y cc maxL none :: WU) B.pre
  have hown : s.vm.findClass y.cls = some m.cls := findClass_of_methodNamed B.named
  have hlocks := B.notSynchronized
  have hin : meth.name = y.name := (name_of_methodNamed B.named B.method).1
  subst hsz
  have hD := hD0.self (sz := s.heap.size)
  rw [lg_entry_eq]
  have X : Cx p rm s m (as.map (cvV ad)).toArray c 0 0 D tc ad (va_A (cvW tc ad ws) s.heap.size) maxL y.cls cc caG := ⟨⟨hx, hb, hml, hown, fun w hw => hts w (List.mem_cons_of_mem _ hw)⟩, hK, hG, fun q hq => Or.inr hq, ⟨Nat.zero_le _, Nat.zero_le _⟩, fun a n f ha => by
    unfold caG at ha
    split at ha
    · rename_i e1
      cases ha
      subst e1
      exact hG.2.2.1
    · cases ha⟩
  refine body (l := l) (e := e) (below := below) (meth := meth) (Q := _) hin hE (fun cells slots ad' h1 h2 h3 => X.agr caG_ge h3 h1 h2) (fun ad' pc lo hag hdg => ?_) s.heap [] _ ⟨hP, hD, va_S.rf, loIn_len hlen, loIn_has hlen⟩
  intro H locs ls hR
  obtain ⟨q1, q2, q3, q4, q5⟩ := hR
  exact W.vret hx hb hr (fun t ht hW => ⟨⟨rfl, ad', hag, by rw [ht]; exact q1, q2⟩, q3.F ht⟩) q3.2.2 hdg
-- a constructor's call
def rnG (pl : List Nat) (n j : Nat) : Nat := if 1000 ≤ j then j else if j < pl.length then pl.getD j 0 else n + (j - pl.length)
def rnVG (pl : List Nat) (n : Nat) (v : Value) : Value := match v with
  | .ref k => .ref (rnG pl n k)
  | v => v
def rnCG (pl : List Nat) (n : Nat) (q : ACell) : ACell := match q with
  | .inl a => .inl a
  | .inr (ci, fs) => .inr (ci, fs.map (rnVG pl n))
def putG (pl : List Nat) (n : Nat) : List Nat → AW → AW → AW
  | a :: r, q :: w, ws => putG pl n r w (ws.set a (rnCG pl n q))
  | _, _, ws => ws
def growW (pl : List Nat) (wc ws : AW) : AW := putG pl ws.length pl (wc.take pl.length) ws ++ (wc.drop pl.length).map (rnCG pl ws.length)
theorem putG_spec {pl : List Nat} {n : Nat} : ∀ (r : List Nat) (w ws : AW), va_nd r = true → r.length = w.length → (∀ a ∈ r, a < ws.length) → (putG pl n r w ws).length = ws.length ∧ (∀ (i a : Nat) (q : ACell), r[i]? = some a → w[i]? = some q → (putG pl n r w ws)[a]? = some (rnCG pl n q)) ∧ ∀ k, k ∉ r → (putG pl n r w ws)[k]? = ws[k]?
  | [], [], ws, _, _, _ => ⟨rfl, fun i a q h => by simp at h, fun k _ => rfl⟩
  | [], _ :: _, ws, _, h, _ => by cases h
  | _ :: _, [], ws, _, h, _ => by cases h
  | a :: r, q :: w, ws, hn, hl, hlt => by
    simp only [va_nd, Bool.and_eq_true, decide_eq_true_eq] at hn
    obtain ⟨h1, h2, h3⟩ := putG_spec (pl := pl) (n := n) r w (ws.set a (rnCG pl n q)) hn.2 (by simpa using hl) (fun b hb => by rw [List.length_set]; exact hlt b (List.mem_cons_of_mem _ hb))
    refine ⟨by show (putG pl n r w (ws.set a (rnCG pl n q))).length = _; rw [h1, List.length_set], fun i b u hi hu => ?_, fun k hk => ?_⟩
    · show (putG pl n r w (ws.set a (rnCG pl n q)))[b]? = _
      cases i with
      | zero =>
        cases hi
        cases hu
        rw [h3 a hn.1, List.getElem?_set, if_pos rfl, if_pos (hlt a List.mem_cons_self)]
      | succ i => exact h2 i b u hi hu
    · show (putG pl n r w (ws.set a (rnCG pl n q)))[k]? = _
      rw [h3 k (fun z => hk (List.mem_cons_of_mem _ z)), List.getElem?_set, if_neg (fun z => hk (by rw [← z]; exact List.mem_cons_self))]
/-- what a constructor's call needs of the tables -/
def CallWI (R : Room) (own : String) (ix n : Nat) (y : MethodName) (rm : Room) (cc' : ByteArray) (maxL : Nat) : Prop :=
  (rm.frames + 1 ≤ R.frames ∧ 8 + (maxL + 11) + rm.locals ≤ R.locals) ∧ Cond.code y cc' maxL none ∈ WU ∧ Cond.methodLink own ix y ∈ WU ∧ Cond.initialized y.cls ∈ WU ∧ Cond.instanceMethod y ∈ WU ∧ y.name = "<init>" ∧ (y.cls ≠ "java/lang/invoke/MethodHandle" ∧ y.cls ≠ "java/lang/invoke/VarHandle" ∧ (parseMethodDescriptor y.desc).map (fun d => d.parameters.length) = some n)
section
variable {p : Program} {l : Launch} {e : Env} {R : Room} {s : State} {m : MethodId} {args : Array Value} {below : List Frame} {meth : Method} {c : Code} {cells slots : Nat} {Q : State → Prop} {D : va_G} {tc : Nat → ClassId} {ad : Nat → Nat} {A : Nat → Prop} {nL : Nat} {own : String} {cc : ByteArray}
variable {ca : CAr} {pc : Nat} {lo : AL} {st : List Value} {ws : AW}
theorem va_callG {ls : Array Slot} {st0 rest : List Value} {H : Heap} {locs : List Loc} {mc ms : Nat} {Qa : State → Outcome → State → Prop} {free : Addr → Prop} {A1 : Nat → Prop} {B : State → Prop} (hr : va_Run p l e R s m args below meth c H locs cells slots mc ms (F0 m pc ls st0) rest Qa free) (hQ : ∀ st o t, Qa st o t → (o = .returned none ∧ B t) ∧ va_F A1 st t) (hS : va_S A s.heap H locs) (hA : ∀ q, q < H.size → A1 q → A q) (hf : ∀ q, free q → A q)
    (kk : ∀ (t : State) (H1 : Heap) (locs1 : List Loc), t.heap = H1 → B t → (∀ q : Nat, q < H.size → ¬ A1 q → H1[q]? = H[q]?) → va_S A s.heap H1 locs1 → W p l e R s m args below meth c H1 locs1 (cells + mc) (slots + ms) Q (F0 m (pc + 3) ls rest)) : W p l e R s m args below meth c H locs cells slots Q (F0 m pc ls st0) := by
  intro T hT X
  obtain ⟨v, st₀, t, T', L, h0, X', hL, e1, e2, hq, st⟩ := hr T hT X
  obtain ⟨⟨hv, hb⟩, hz, hk⟩ := hQ _ _ _ hq
  cases hv
  rw [h0] at hz hk
  obtain ⟨t2, a1, b1⟩ := kk t T'.heap (locs ++ L) e1.symm hb (fun q h1 h2 => by rw [e1]; exact hk q h1 h2)
    ⟨Nat.le_trans hS.1 (by rw [e1]; exact hz), fun q h1 h2 => by rw [e1, hk q (Nat.lt_of_lt_of_le h1 hS.1) (fun z => h2 (hA q (Nat.lt_of_lt_of_le h1 hS.1) z))]; exact hS.2.1 q h1 h2, fun q hq => by
      rcases List.mem_append.mp hq with h | h
      · exact hS.2.2 q h
      · exact hf _ (hL q h)⟩ T' rfl X'
  exact ⟨t2, st t2 a1, b1⟩
theorem mpre2_blind {E : State → Prop} (hE : EOK E) {D : va_G} {tc : Nat → ClassId} {ad : Nat → Nat} {as : List Value} {ws : AW} {sz : Nat} : FrameBlind (MPre2 E D tc ad as ws sz) := by
  intro a U g mk q
  exact ⟨mpre_blind a U g mk q.1, hE U (U.calling g mk a) (Vm.Alike.refl U.vm) q.2⟩
theorem go_callI {E : State → Prop} {y : MethodName} {rm : Room} {cc' : ByteArray} {maxL ix n r0 : Nat} {as1 as' : List Value} {wc wc' : AW} {pl : List Nat} (X : Cx p R s m args c cells slots D tc ad A nL own cc ca) (hEk : EOK E) (hE : E s) (hw : CallWI R own ix n y rm cc' maxL) (hd : Doc2 E y rm cc' maxL as' wc wc') (hn : as1.length = n) (ha : unL pl (.ref r0 :: as1) = some as') (hs : subW pl ws pl = some wc) (hnd : va_nd pl = true) (hgl : pl.length ≤ wc'.length) (hlt9 : ws.length + wc'.length ≤ 1000) (hok' : wc'.all (okC wc'.length) = true) (ok : okS ws lo st = true) (hcs : cells + rm.cells ≤ R.cells ∧ slots + rm.slots ≤ R.slots) (hcat : catSum st ≤ 8) (hdg : decode cc pc = .ok (.invokespecial ix, 3))
    (kk : ∀ ad', Agr ws.length ad ad' → Go p l e R s m args below meth c (cells + rm.cells) (slots + rm.slots) Q D tc ad' A nL (pc + 3) lo st (growW pl wc' ws)) : Go p l e R s m args below meth c cells slots Q D tc ad A nL pc lo (as1.reverse ++ .ref r0 :: st) ws := by
  obtain ⟨o1, o2, o3, o4⟩ := okS_spec ok
  obtain ⟨⟨hx, hb, hml, hown, hts⟩, hK, hG, hA, -, -⟩ := X
  obtain ⟨⟨r3, r4⟩, w1, w2, w3, w4, w5, w6⟩ := hw
  intro H locs ls hR
  obtain ⟨hP, hD, hS, hlen, hl⟩ := hR
  have hple : pl.length ≤ 1000 := by omega
  obtain ⟨s1, s2⟩ := subW_spec (tc := tc) (ad := ad) hple pl wc hs
  have hplt : ∀ a ∈ pl, a < ws.length := by
    intro a ha
    obtain ⟨i, hi⟩ := List.mem_iff_getElem?.mp ha
    obtain ⟨q, q', u1, -⟩ := s2 i a hi
    exact (List.getElem?_eq_some_iff.mp u1).1
  have hadr : ∀ (i a : Nat), pl[i]? = some a → adOf ad pl i = ad a := by
    intro i a hi
    have : i < pl.length := (List.getElem?_eq_some_iff.mp hi).1
    unfold adOf
    rw [if_neg (by omega), List.getD_eq_getElem?_getD, hi]
    rfl
  have hmap : pl.map (fun i => (cvW tc ad ws)[i]?) = (cvW tc (adOf ad pl) wc).map some := by
    apply List.ext_getElem?
    intro i
    rw [List.getElem?_map, List.getElem?_map]
    cases hi : pl[i]? with
    | none =>
      have : wc.length ≤ i := by rw [s1]; exact List.getElem?_eq_none_iff.mp hi
      rw [List.getElem?_eq_none (by rw [cvW_len]; exact this)]
      rfl
    | some a =>
      obtain ⟨q, q', u1, u2, u3⟩ := s2 i a hi
      rw [Option.map_some, cvW_at u1, cvW_at u2, u3, hadr i a hi]
      rfl
  have hFc := va_free (wc := cvW tc (adOf ad pl) wc) hD hS hA pl hmap
  have hfm : pl.filterMap (fun i => (cvW tc ad ws)[i]?) = cvW tc (adOf ad pl) wc := by
    have h9 := congrArg (List.filterMap id) hmap
    rw [List.filterMap_map, List.filterMap_map] at h9
    have e9 : (id ∘ some : Nat × va_E → Option (Nat × va_E)) = some := rfl
    rw [e9, List.filterMap_some] at h9
    exact h9
  have hPc : va_P D vwCl (cvW tc (adOf ad pl) wc) H := hP.sub pl hfm
  have hDc : va_D A (cvW tc (adOf ad pl) wc) := by first | exact hD.sub pl hnd hmap | exact hD.sub pl hnd hfm
  have has : as'.map (cvV (adOf ad pl)) = .ref (ad r0) :: as1.map (cvV ad) := unL_spec hple ha
  have hpre : ∀ U : State, U.heap = H → s.WarmedH U.vm → MPre2 E D tc (adOf ad pl) as' wc H.size (.ref (ad r0) :: as1.map (cvV ad)).toArray U := by
    intro U hU hW
    refine ⟨⟨by rw [has], by rw [hU], by rw [hU]; exact hPc, va_K.moved hW.alike hK, hDc.weaken (fun _ _ _ _ => trivial), ?_⟩, hEk s U hW.alike hE⟩
    rw [hU]
    exact hG.go hW (fun a h1 h2 => hS.2.1 a h1 h2) hFc (fun k hk => by unfold adOf; rw [if_pos hk])
  have hws : GoodIn WU (.code y cc' maxL none :: WU) := good_cons w1 wu_good
  have hrun := va_runI (g := F0 m pc ls ((as1.map (cvV ad)).reverse ++ .ref (ad r0) :: st.map (cvV ad))) (b := ad r0) (As := as1.map (cvV ad)) (rest := st.map (cvV ad)) (index := ix) (cells := cells) (slots := slots) (locs := locs) (below := below) (meth := meth) (e := e) (R := R) ⟨hx, hb, hml, hown, hts⟩ (hd l D tc (adOf ad pl) H.size) (cwI n hts hws rfl rfl rfl (hts _ w3) (hts _ w2) (hts _ w4) w5 w6 ⟨r3, r4⟩) ⟨mpre2_blind hEk, hpre⟩ rfl (by rw [List.length_map]; exact hn) hl.1 rfl (by
    show 2 * 0 + _ ≤ 8
    rw [Nat.mul_zero, Nat.zero_add, List.map_map]
    have e9 : ((fun v : Value => v.category) ∘ cvV ad) = fun v => v.category := funext fun v => cvV_cat ad v
    rw [e9]
    exact hcat) hdg hcs
  rw [List.map_append, List.map_cons, List.map_reverse]
  refine va_callG (Q := Q) (A1 := va_A (cvW tc (adOf ad pl) wc) H.size) (B := fun t => ∃ adc, Agr wc.length (adOf ad pl) adc ∧ va_P D vwCl (cvW tc adc wc') t.heap ∧ va_D (va_A (cvW tc (adOf ad pl) wc) H.size) (cvW tc adc wc')) hrun (fun st o t h => h) hS (fun q _ h => hFc q h) hFc (fun t H1 locs1 e1 hB hk1 hS1 => ?_)
  · obtain ⟨adc, hag, hP1, hD1⟩ := hB
    rw [e1] at hP1
    obtain ⟨ad2, had2⟩ : ∃ z : Nat → Nat, z = fun k => if 1000 ≤ k then ad k else if k < ws.length then ad k else adc (pl.length + (k - ws.length)) := ⟨_, rfl⟩
    have ag2 : Agr ws.length ad ad2 := fun k hk => by
      rw [had2]
      show (if 1000 ≤ k then ad k else if k < ws.length then ad k else adc (pl.length + (k - ws.length))) = ad k
      rcases hk with hk | hk
      · rw [if_neg (by omega), if_pos hk]
      · rw [if_pos hk]
    have adge : ∀ k, 1000 ≤ k → adc k = ad k := fun k hk => (hag k (Or.inr hk)).trans (by unfold adOf; rw [if_pos hk])
    have key : ∀ j, j < wc'.length ∨ 1000 ≤ j → ad2 (rnG pl ws.length j) = adc j := fun j hj => by
      unfold rnG
      by_cases c1 : 1000 ≤ j
      · rw [if_pos c1, adge j c1]
        exact ag2 j (Or.inr c1)
      · rw [if_neg c1]
        by_cases c2 : j < pl.length
        · rw [if_pos c2]
          have hi : pl[j]? = some pl[j] := List.getElem?_eq_getElem c2
          have e3 : pl.getD j 0 = pl[j] := by rw [List.getD_eq_getElem?_getD, hi]; rfl
          rw [e3, ag2 _ (Or.inl (hplt _ (List.mem_of_getElem? hi))), hag j (Or.inl (by omega)), hadr j _ hi]
        · rw [if_neg c2, had2]
          show (if 1000 ≤ ws.length + (j - pl.length) then _ else if ws.length + (j - pl.length) < ws.length then _ else adc (pl.length + (ws.length + (j - pl.length) - ws.length))) = _
          rw [if_neg (by omega), if_neg (by omega), show pl.length + (ws.length + (j - pl.length) - ws.length) = j by omega]
    have keyV : ∀ v, okV wc'.length v = true → cvV ad2 (rnVG pl ws.length v) = cvV adc v := fun v hv => by
      cases v with
      | ref k =>
        show Value.ref (ad2 (rnG pl ws.length k)) = .ref (adc k)
        rw [key k (by simpa [okV] using hv)]
      | _ => rfl
    have keyC : ∀ q, okC wc'.length q = true → cvC tc ad2 (rnCG pl ws.length q) = cvC tc adc q := fun q hq => by
      cases q with
      | inl a => rfl
      | inr o =>
        obtain ⟨ci, fs⟩ := o
        refine cvC_eq (gs := fs.map (rnVG pl ws.length)) (fs := fs) ?_
        rw [List.map_map]
        exact List.map_congr_left (fun v hm => keyV v (List.all_eq_true.mp hq v hm))
    obtain ⟨p1, p2, p3⟩ := putG_spec (pl := pl) (n := ws.length) pl (wc'.take pl.length) ws hnd (by rw [List.length_take]; omega) hplt
    have glen : (growW pl wc' ws).length = ws.length + (wc'.length - pl.length) := by
      unfold growW
      rw [List.length_append, p1, List.length_map, List.length_drop]
    -- each cell of the new world
    have cell : ∀ k u, (cvW tc ad2 (growW pl wc' ws))[k]? = some u → (∃ j, j < wc'.length ∧ (cvW tc adc wc')[j]? = some u ∧ k = rnG pl ws.length j) ∨ (k < ws.length ∧ k ∉ pl ∧ (cvW tc ad ws)[k]? = some u) := by
      intro k u hu
      have hk : k < (growW pl wc' ws).length := by
        have := (List.getElem?_eq_some_iff.mp hu).1
        rw [cvW_len] at this
        exact this
      rw [glen] at hk
      by_cases c1 : k < ws.length
      · have eg : (growW pl wc' ws)[k]? = (putG pl ws.length pl (wc'.take pl.length) ws)[k]? := by
          unfold growW
          rw [List.getElem?_append_left (by rw [p1]; exact c1)]
        by_cases c2 : k ∈ pl
        · left
          obtain ⟨i, hi⟩ := List.mem_iff_getElem?.mp c2
          have hi2 : i < pl.length := (List.getElem?_eq_some_iff.mp hi).1
          have hw' : wc'[i]? = some wc'[i] := List.getElem?_eq_getElem (by omega)
          have hw2 : (wc'.take pl.length)[i]? = some wc'[i] := by rw [List.getElem?_take, if_pos hi2]; exact hw'
          have h7 := p2 i k _ hi hw2
          rw [← eg] at h7
          have h8 := cvW_at (tc := tc) (ad := ad2) h7
          rw [hu] at h8
          have ek : k = rnG pl ws.length i := by
            unfold rnG
            rw [if_neg (by omega), if_pos hi2, List.getD_eq_getElem?_getD, hi]
            rfl
          refine ⟨i, by omega, ?_, ek⟩
          rw [cvW_at hw']
          cases h8
          rw [keyC _ (List.all_eq_true.mp hok' _ (List.mem_of_getElem? hw')), ek, key i (Or.inl (by omega))]
        · right
          refine ⟨c1, c2, ?_⟩
          have h7 := p3 k c2
          rw [← eg, List.getElem?_eq_getElem c1] at h7
          have h8 := cvW_at (tc := tc) (ad := ad2) h7
          rw [hu] at h8
          cases h8
          rw [cvW_at (List.getElem?_eq_getElem c1), ag2 k (Or.inl c1), cvC_agr ag2 (List.all_eq_true.mp o2 _ (List.getElem_mem c1))]
      · left
        have hj : pl.length + (k - ws.length) < wc'.length := by omega
        have hw' : wc'[pl.length + (k - ws.length)]? = some wc'[pl.length + (k - ws.length)] := List.getElem?_eq_getElem hj
        have eg : (growW pl wc' ws)[k]? = some (rnCG pl ws.length wc'[pl.length + (k - ws.length)]) := by
          unfold growW
          rw [List.getElem?_append_right (by rw [p1]; omega), p1, List.getElem?_map, List.getElem?_drop, hw']
          rfl
        have h8 := cvW_at (tc := tc) (ad := ad2) eg
        rw [hu] at h8
        have ek : k = rnG pl ws.length (pl.length + (k - ws.length)) := by
          unfold rnG
          rw [if_neg (by omega), if_neg (by omega)]
          omega
        refine ⟨_, hj, ?_, ek⟩
        rw [cvW_at hw']
        cases h8
        rw [keyC _ (List.all_eq_true.mp hok' _ (List.mem_of_getElem? hw'))]
        have := key (pl.length + (k - ws.length)) (Or.inl hj)
        rw [← ek] at this
        rw [this]
    -- the callee's own cells are its own, or new
    have old : ∀ j a u, (cvW tc adc wc')[j]? = some (a, u) → (j < pl.length ∧ ∃ k, pl[j]? = some k ∧ a = ad k) ∨ (pl.length ≤ j ∧ H.size ≤ a) := by
      intro j a u hj
      have hjl : j < wc'.length := by
        have := (List.getElem?_eq_some_iff.mp hj).1
        rw [cvW_len] at this
        exact this
      have ea : a = adc j := by
        have h8 := cvW_at (tc := tc) (ad := adc) (List.getElem?_eq_getElem hjl)
        rw [hj] at h8
        cases h8
        rfl
      by_cases c1 : j < pl.length
      · left
        have hi : pl[j]? = some pl[j] := List.getElem?_eq_getElem c1
        exact ⟨c1, pl[j], hi, by rw [ea, hag j (Or.inl (by omega)), hadr j _ hi]⟩
      · right
        refine ⟨by omega, ?_⟩
        rcases hD1.2 j (a, u) hj with ⟨k, e', z⟩ | z
        · exfalso
          have z : (cvW tc (adOf ad pl) wc)[k]? = some (a, e') := z
          have hkl : k < wc.length := by
            have := (List.getElem?_eq_some_iff.mp z).1
            rw [cvW_len] at this
            exact this
          have h8 := cvW_at (tc := tc) (ad := adOf ad pl) (List.getElem?_eq_getElem hkl)
          rw [z] at h8
          have e8 : a = adOf ad pl k := by cases h8; rfl
          have h9 := cvW_at (tc := tc) (ad := adc) (List.getElem?_eq_getElem (show k < wc'.length by omega))
          have := hD1.1 j k _ _ hj h9 (by show a = adc k; rw [e8, hag k (Or.inl hkl)])
          omega
        · exact z
    have hRl : Rl D tc ad2 A nL s lo (growW pl wc' ws) H1 locs1 ls := by
     refine ⟨?_, ⟨?_, ?_⟩, hS1, hlen, by rw [cvL_agr ag2 o3]; exact hl⟩
     · intro k u hu
       rcases cell k u hu with ⟨j, h1, h2, h3⟩ | ⟨h1, h2, h3⟩
       · exact hP1 j u h2
       · have h9 := hP k u h3
         refine h9.kept (hk1 _ h9.lt ?_)
         rintro (⟨j, e9, hj⟩ | hj)
         · have hj2 : j < wc.length := by
             have := (List.getElem?_eq_some_iff.mp hj).1
             rw [cvW_len] at this
             exact this
           have hj3 : j < pl.length := by omega
           have hj4 : pl[j]? = some pl[j] := List.getElem?_eq_getElem hj3
           obtain ⟨q, q', u1, u2, u3⟩ := s2 j _ hj4
           have u4 := cvW_at (tc := tc) (ad := adOf ad pl) u2
           rw [hj] at u4
           injection u4 with u5
           injection u5 with u6 u7
           have := hD.1 k pl[j] _ _ h3 (cvW_at u1) (u6.trans (hadr j _ hj4))
           exact h2 (by rw [this]; exact List.mem_of_getElem? hj4)
         · have := h9.lt
           omega
     · intro i j a b hi hj hab
       rcases cell i a hi with ⟨i1, h1, h2, h3⟩ | ⟨h1, h2, h3⟩ <;> rcases cell j b hj with ⟨j1, g1, g2, g3⟩ | ⟨g1, g2, g3⟩
       · have := hD1.1 i1 j1 _ _ h2 g2 hab
         rw [h3, g3, this]
       · exfalso
         rcases old i1 a.1 a.2 h2 with ⟨q1, k, q2, q3⟩ | ⟨q1, q2⟩
         · have hkl := hplt k (List.mem_of_getElem? q2)
           have := hD.1 k j _ _ (cvW_at (List.getElem?_eq_getElem hkl)) g3 (by show ad k = b.1; rw [← q3, hab])
           exact g2 (by rw [← this]; exact List.mem_of_getElem? q2)
         · have := (hP j b g3).lt
           omega
       · exfalso
         rcases old j1 b.1 b.2 g2 with ⟨q1, k, q2, q3⟩ | ⟨q1, q2⟩
         · have hkl := hplt k (List.mem_of_getElem? q2)
           have := hD.1 k i _ _ (cvW_at (List.getElem?_eq_getElem hkl)) h3 (by show ad k = a.1; rw [← q3, hab])
           exact h2 (by rw [← this]; exact List.mem_of_getElem? q2)
         · have := (hP i a h3).lt
           omega
       · exact hD.1 i j _ _ h3 g3 hab
     · intro k u hu
       rcases cell k u hu with ⟨j, h1, h2, h3⟩ | ⟨h1, h2, h3⟩
       · exact hFc _ (hD1.2 j u h2)
       · exact hD.2 k u h3
    have z := kk ad2 ag2 H1 locs1 ls hRl
    rw [cvVs_agr ag2 o4] at z
    exact z
end
