section
variable {p : Program} {l : Launch} {e : Env} {R : Room} {s : State} {m : MethodId} {args : Array Value} {below : List Frame} {meth : Method} {c : Code} {cells slots : Nat} {Q : State → Prop} {D : va_G} {tc : Nat → ClassId} {ad : Nat → Nat} {A : Nat → Prop} {nL : Nat} {own : String} {cc : ByteArray}
theorem lift_core {ca : CAr} {ix kd n ci maxL : Nat} {y : MethodName} {rm : Room} {cc' : ByteArray} {rt : Option FieldType} {as as' : List Value} {ws wc wc' : AW} {v : Option Value} {pl : List Nat} (X : Cx p R s m args c cells slots D tc ad A nL own cc ca) (hw : CallWd R own ix kd n y rm cc' maxL rt ci) (g2 : Doc y rm cc' maxL rt as' wc v wc') (g3 : kd = 0 → ∃ r fs as1, as' = .ref r :: as1 ∧ wc[r]? = some (.inr (ci, fs))) (hn : as.length = n) (ha : unL pl as = some as') (hs : subW pl ws pl = some wc) (hnd : va_nd pl = true) (hle : pl.length ≤ 1000) :
    ∀ (pc : Nat) (rest : List Value) (H : Heap) (locs : List Loc) (ls : Array Slot), decode cc pc = .ok (insOf kd ix, 3) → catSum rest ≤ 8 → ls.size = nL → va_P D vwCl (cvW tc ad ws) H → va_D A (cvW tc ad ws) → va_S A s.heap H locs →
      (∀ (H1 : Heap) (locs1 : List Loc), va_P D vwCl (cvW tc ad (putW pl pl wc' ws)) H1 → va_D A (cvW tc ad (putW pl pl wc' ws)) → va_S A s.heap H1 locs1 → W p l e R s m args below meth c H1 locs1 cells slots Q (F0 m (pc + 3) ls ((v.map (rnV pl)).toList.map (cvV ad) ++ rest))) → W p l e R s m args below meth c H locs cells slots Q (F0 m pc ls (as.reverse.map (cvV ad) ++ rest)) := by
  obtain ⟨s1, s2⟩ := subW_spec (tc := tc) (ad := ad) hle pl wc hs
  have hlt : ∀ a ∈ pl, a < ws.length := by
    intro a ha
    obtain ⟨i, hi⟩ := List.mem_iff_getElem?.mp ha
    obtain ⟨q, q', u1, -⟩ := s2 i a hi
    exact (List.getElem?_eq_some_iff.mp u1).1
  obtain ⟨p1, p2, p3⟩ := putW_spec (pl := pl) pl wc' ws hnd (by rw [g2.1, s1]) hlt
  intro pc rest H locs ls hdg hcat hls hP hD hS kk
  have hadr : ∀ (i a : Nat), pl[i]? = some a → adOf ad pl i = ad a := by
    intro i a hi
    have : i < pl.length := (List.getElem?_eq_some_iff.mp hi).1
    unfold adOf
    rw [if_neg (by omega), List.getD_eq_getElem?_getD, hi]
    rfl
  have hmap : pl.map (fun i => (cvW tc ad ws)[i]?) = (cvW tc (adOf ad pl) wc).map some := by
    apply List.ext_getElem?
    intro i
    rw [List.getElem?_map, List.getElem?_map]
    cases hi : pl[i]? with
    | none =>
      have : wc.length ≤ i := by rw [s1]; exact List.getElem?_eq_none_iff.mp hi
      rw [List.getElem?_eq_none (by rw [cvW_len]; exact this)]
      rfl
    | some a =>
      obtain ⟨q, q', u1, u2, u3⟩ := s2 i a hi
      rw [Option.map_some, cvW_at u1, cvW_at u2, u3, hadr i a hi]
      rfl
  refine call_core X hw g2 g3 hn (ad' := adOf ad pl) (unL_spec hle ha) (fun k hk => by unfold adOf; rw [if_pos hk]) (pl := pl) hmap (fun H H1 qP qD q1 q2 => ?_) p1 hnd pc rest H locs ls hdg hcat hls hP hD hS (fun H1 locs1 q1 q2 q3 => ?_)
  · intro k u hu
    by_cases hk : k ∈ pl
    · obtain ⟨i, hi⟩ := List.mem_iff_getElem?.mp hk
      have hi2 : i < wc'.length := by rw [g2.1, s1]; exact (List.getElem?_eq_some_iff.mp hi).1
      have hw' : wc'[i]? = some wc'[i] := List.getElem?_eq_getElem hi2
      have := cvW_at (tc := tc) (ad := ad) (p2 i k _ hi hw')
      rw [hu] at this
      cases this
      have h7 := q1 i _ (cvW_at hw')
      rw [hadr i k hi] at h7
      rw [rnC_cv]
      exact h7
    · have hk2 : k < ws.length := by
        have := (List.getElem?_eq_some_iff.mp hu).1
        rw [cvW_len, p1] at this
        exact this
      have hws : ws[k]? = some ws[k] := List.getElem?_eq_getElem hk2
      have h8 := p3 k hk
      rw [hws] at h8
      have := cvW_at (tc := tc) (ad := ad) h8
      rw [hu] at this
      cases this
      have h9 := qP k _ (cvW_at hws)
      refine h9.kept (q2 _ h9.lt ?_)
      rintro (⟨j, e9, hj⟩ | hj)
      · have hj2 : j < wc.length := by
          have := (List.getElem?_eq_some_iff.mp hj).1
          rw [cvW_len] at this
          exact this
        have hj3 : j < pl.length := by rw [← s1]; exact hj2
        have hj4 : pl[j]? = some pl[j] := List.getElem?_eq_getElem hj3
        obtain ⟨q, q', u1, u2, u3⟩ := s2 j _ hj4
        have u4 := cvW_at (tc := tc) (ad := adOf ad pl) u2
        rw [hj] at u4
        injection u4 with u5
        injection u5 with u6 u7
        have := qD.1 k pl[j] _ _ (cvW_at hws) (cvW_at u1) (u6.trans (hadr j _ hj4))
        exact hk (by rw [this]; exact List.mem_of_getElem? hj4)
      · have := h9.lt
        omega
  · have e9 : (v.map (cvV (adOf ad pl))).toList = (v.map (rnV pl)).toList.map (cvV ad) := by
      cases v with
      | none => rfl
      | some v => show [cvV (adOf ad pl) v] = [cvV ad (rnV pl v)]; rw [rnV_cv]
    rw [e9]
    exact kk H1 locs1 q1 q2 q3
end
/-- a callee of no cells -/
def statF (G : Callee) : Callee := fun ρ as ws κ => G ρ as [] (fun v _ => κ v ws)
theorem callOK_stat {R : Room} {own : String} {cc : ByteArray} {ix kd n ci maxL : Nat} {y : MethodName} {rm : Room} {cc' : ByteArray} {rt : Option FieldType} {G : Callee} (hw : CallWd R own ix kd n y rm cc' maxL rt ci) (hG : CoreOK y rm cc' maxL rt kd ci G) : CallOK R own cc ix kd n (statF G) := by
  intro p l e s m args below meth c cells slots Q D tc ad A nL ca X ρ as ws κ res h hn
  obtain ⟨v, wc', g1, g2, g3⟩ := hG ρ as [] _ res h
  refine ⟨v, ws, g1, fun pc rest H locs ls hdg hcat hls hP hD hS kk => ?_⟩
  have hw0 : wc' = [] := List.eq_nil_of_length_eq_zero (by rw [g2.1]; rfl)
  subst hw0
  refine call_core X hw g2 g3 hn (ad' := ad) rfl (fun _ _ => rfl) (pl := []) rfl (fun H H1 q0 q1 _ q2 => q0.kept (fun k q hk => q2 _ (q0 k q hk).lt (fun z => ?_))) rfl rfl pc rest H locs ls hdg hcat hls hP hD hS (fun H1 locs1 q1 q2 q3 => ?_)
  · rcases z with ⟨k', e', z⟩ | z
    · simp [cvW] at z
    · exact absurd z (Nat.not_le.mpr (q0 k q hk).lt)
  · have e : (v.map (cvV ad)).toList = v.toList.map (cvV ad) := by cases v <;> rfl
    rw [e]
    exact kk H1 locs1 q1 q2 q3
/-- a callee over a part of a typed world -/
def roleF {P C : Type} (unP : AW → Option P) (picP : P → AW) (unC : AW → Option C) (picC : C → AW) (get : P → C) (put : P → C → P) (pl : List Nat) (G : Callee) : Callee := fun ρ as ws κ => match unL pl as, unP ws with
  | some as', some U => G ρ as' (picC (get U)) (fun v wc' => match unC wc' with
    | some w => κ (v.map (rnV pl)) (picP (put U w))
    | none => none)
  | _, _ => none
theorem callOK_role {P C : Type} {unP : AW → Option P} {picP : P → AW} {unC : AW → Option C} {picC : C → AW} {get : P → C} {put : P → C → P} {pl : List Nat} (hunP : ∀ w u, unP w = some u → w = picP u) (hunC : ∀ w u, unC w = some u → w = picC u) (hsub : ∀ U, subW pl (picP U) pl = some (picC (get U))) (hput : ∀ U w, putW pl pl (picC w) (picP U) = picP (put U w)) (hnd : va_nd pl = true) (hle : pl.length ≤ 1000)
    {R : Room} {own : String} {cc : ByteArray} {ix kd n ci maxL : Nat} {y : MethodName} {rm : Room} {cc' : ByteArray} {rt : Option FieldType} {G : Callee} (hw : CallWd R own ix kd n y rm cc' maxL rt ci) (hG : CoreOK y rm cc' maxL rt kd ci G) : CallOK R own cc ix kd n (roleF unP picP unC picC get put pl G) := by
  intro p l e s m args below meth c cells slots Q D tc ad A nL ca X ρ as ws κ res h hn
  unfold roleF at h
  split at h
  · rename_i as' U ha hU
    have hws := hunP _ _ hU
    subst hws
    obtain ⟨v, wc', g1, g2, g3⟩ := hG ρ as' _ _ res h
    split at g1
    · rename_i w hw'
      have := hunC _ _ hw'
      subst this
      refine ⟨_, _, g1, ?_⟩
      have := lift_core (Q := Q) (l := l) (e := e) (below := below) (meth := meth) X hw g2 g3 hn ha (hsub U) hnd hle
      rw [hput] at this
      exact this
    · cases g1
  · cases h
def plTS_TT0 : List Nat := [0, 1, 2]
noncomputable def rTS_TT0 (G : Callee) : Callee := roleF unTS picTS unTT picTT (fun U => (tsX U, tsP U)) (fun U w => tsP' (tsX' U w.1) w.2) plTS_TT0 G
theorem callOK_TS_TT0 {R : Room} {own : String} {cc : ByteArray} {ix kd n ci maxL : Nat} {y : MethodName} {rm : Room} {cc' : ByteArray} {rt : Option FieldType} {G : Callee} (hw : CallWd R own ix kd n y rm cc' maxL rt ci) (hG : CoreOK y rm cc' maxL rt kd ci G) : CallOK R own cc ix kd n (rTS_TT0 G) := callOK_role unTS_ok unTT_ok (fun _ => rfl) (fun _ _ => rfl) (by decide) (by decide) hw hG
def plTS_St3 : List Nat := [3, 4, 5, 6, 7, 8, 9, 10, 11, 12]
noncomputable def rTS_St3 (G : Callee) : Callee := roleF unTS picTS unSt picSt (fun U => tsS U) (fun U w => tsS' U w) plTS_St3 G
theorem callOK_TS_St3 {R : Room} {own : String} {cc : ByteArray} {ix kd n ci maxL : Nat} {y : MethodName} {rm : Room} {cc' : ByteArray} {rt : Option FieldType} {G : Callee} (hw : CallWd R own ix kd n y rm cc' maxL rt ci) (hG : CoreOK y rm cc' maxL rt kd ci G) : CallOK R own cc ix kd n (rTS_St3 G) := callOK_role unTS_ok unSt_ok (fun _ => rfl) (fun _ _ => rfl) (by decide) (by decide) hw hG
