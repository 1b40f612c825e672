def CoreOK (y : MethodName) (rm : Room) (cc' : ByteArray) (maxL : Nat) (rt : Option FieldType) (kd ci : Nat) (G : Callee) : Prop :=
  ∀ (ρ : Type) (as : List Value) (wc : AW) (κ : Option Value → AW → Option ρ) (res : ρ), G ρ as wc κ = some res → ∃ (v : Option Value) (wc' : AW), κ v wc' = some res ∧ Doc y rm cc' maxL rt as wc v wc' ∧ (kd = 0 → ∃ r fs as1, as = .ref r :: as1 ∧ wc[r]? = some (.inr (ci, fs)))
theorem nd_range : ∀ n, va_nd (List.range' 0 n) = true := by
  have h : ∀ n a, va_nd (List.range' a n) = true := by
    intro n
    induction n with
    | zero => intro a; rfl
    | succ n ih =>
      intro a
      rw [List.range'_succ]
      simp only [va_nd, Bool.and_eq_true, decide_eq_true_eq]
      refine ⟨fun h => ?_, ih (a + 1)⟩
      have := List.mem_range'.mp h
      obtain ⟨i, h1, h2⟩ := this
      omega
  exact fun n => h n 0
theorem map_range (w : va_W) : (List.range' 0 w.length).map (fun i => w[i]?) = w.map some := by
  apply List.ext_getElem?
  intro i
  rw [List.getElem?_map, List.getElem?_map]
  by_cases h : i < w.length
  · rw [List.getElem?_range' (by exact h), List.getElem?_eq_getElem h]
    simp [h]
  · rw [List.getElem?_eq_none (Nat.not_lt.mp h), List.getElem?_eq_none (by rw [List.length_range']; exact Nat.not_lt.mp h)]
    rfl
theorem callOK_same {R : Room} {own : String} {cc : ByteArray} {ix kd n ci maxL : Nat} {y : MethodName} {rm : Room} {cc' : ByteArray} {rt : Option FieldType} {G : Callee} (hw : CallWd R own ix kd n y rm cc' maxL rt ci) (hG : CoreOK y rm cc' maxL rt kd ci G) : CallOK R own cc ix kd n G := by
  intro p l e s m args below meth c cells slots Q D tc ad A nL ca X ρ as ws κ res h hn
  obtain ⟨v, wc', g1, g2, g3⟩ := hG ρ as ws κ res h
  refine ⟨v, wc', g1, fun pc rest H locs ls hdg hcat hls hP hD hS kk => ?_⟩
  refine call_core X hw g2 g3 hn (ad' := ad) rfl (fun _ _ => rfl) (pl := List.range' 0 (cvW tc ad ws).length) (map_range _) (fun H H1 _ _ q _ => q) g2.1 (nd_range _) pc rest H locs ls hdg hcat hls hP hD hS (fun H1 locs1 q1 q2 q3 => ?_)
  have e : (v.map (cvV ad)).toList = v.toList.map (cvV ad) := by cases v <;> rfl
  rw [e]
  exact kk H1 locs1 q1 q2 q3
theorem rnC_cv {tc : Nat → ClassId} {ad : Nat → Nat} {pl : List Nat} {q : ACell} : cvC tc ad (rnC pl q) = cvC tc (adOf ad pl) q := by
  cases q with
  | inl a => rfl
  | inr o =>
    obtain ⟨ci, fs⟩ := o
    refine cvC_eq (gs := fs.map (rnV pl)) (fs := fs) ?_
    rw [List.map_map]
    have e : (cvV ad ∘ rnV pl) = cvV (adOf ad pl) := funext fun v => rnV_cv ad pl v
    rw [e]
theorem putW_spec {pl : List Nat} : ∀ (r : List Nat) (w ws : AW), va_nd r = true → r.length = w.length → (∀ a ∈ r, a < ws.length) → (putW pl r w ws).length = ws.length ∧ (∀ (i a : Nat) (q : ACell), r[i]? = some a → w[i]? = some q → (putW pl r w ws)[a]? = some (rnC pl q)) ∧ ∀ k, k ∉ r → (putW pl r w ws)[k]? = ws[k]?
  | [], [], ws, _, _, _ => ⟨rfl, fun i a q h => by simp at h, fun k _ => rfl⟩
  | [], _ :: _, ws, _, h, _ => by cases h
  | _ :: _, [], ws, _, h, _ => by cases h
  | a :: r, q :: w, ws, hn, hl, hlt => by
    simp only [va_nd, Bool.and_eq_true, decide_eq_true_eq] at hn
    obtain ⟨h1, h2, h3⟩ := putW_spec (pl := pl) r w (ws.set a (rnC pl q)) hn.2 (by simpa using hl) (fun b hb => by rw [List.length_set]; exact hlt b (List.mem_cons_of_mem _ hb))
    refine ⟨by show (putW pl r w (ws.set a (rnC pl q))).length = _; rw [h1, List.length_set], fun i b u hi hu => ?_, fun k hk => ?_⟩
    · show (putW pl r w (ws.set a (rnC pl q)))[b]? = _
      cases i with
      | zero =>
        cases hi
        cases hu
        rw [h3 a hn.1, List.getElem?_set, if_pos rfl, if_pos (hlt a List.mem_cons_self)]
      | succ i => exact h2 i b u hi hu
    · show (putW pl r w (ws.set a (rnC pl q)))[k]? = _
      rw [h3 k (fun z => hk (List.mem_cons_of_mem _ z)), List.getElem?_set, if_neg (fun z => hk (by rw [← z]; exact List.mem_cons_self))]
/-- the callee G over the cells at the places that 'fp' reads off the arguments -/
def liftF (fp : List Value → List Nat) (G : Callee) : Callee := fun ρ as ws κ => match unL (fp as) as, subW (fp as) ws (fp as) with
  | some as', some wc => if va_nd (fp as) = true ∧ (fp as).length ≤ 1000 then G ρ as' wc (fun v wc' => κ (v.map (rnV (fp as))) (putW (fp as) (fp as) wc' ws)) else none
  | _, _ => none
theorem callOK_lift {R : Room} {own : String} {cc : ByteArray} {ix kd n ci maxL : Nat} {y : MethodName} {rm : Room} {cc' : ByteArray} {rt : Option FieldType} {G : Callee} {fp : List Value → List Nat} (hw : CallWd R own ix kd n y rm cc' maxL rt ci) (hG : CoreOK y rm cc' maxL rt kd ci G) : CallOK R own cc ix kd n (liftF fp G) := by
  intro p l e s m args below meth c cells slots Q D tc ad A nL ca X ρ as ws κ res h hn
  unfold liftF at h
  split at h
  · rename_i as' wc ha hs
    split at h
    · rename_i hc
      obtain ⟨hnd, hle⟩ := hc
      obtain ⟨v, wc', g1, g2, g3⟩ := hG ρ as' wc _ res h
      generalize hpl : fp as = pl at ha hs hnd hle g1
      obtain ⟨s1, s2⟩ := subW_spec (tc := tc) (ad := ad) hle pl wc hs
      have hlt : ∀ a ∈ pl, a < ws.length := by
        intro a ha
        obtain ⟨i, hi⟩ := List.mem_iff_getElem?.mp ha
        obtain ⟨q, q', u1, -⟩ := s2 i a hi
        exact (List.getElem?_eq_some_iff.mp u1).1
      obtain ⟨p1, p2, p3⟩ := putW_spec (pl := pl) pl wc' ws hnd (by rw [g2.1, s1]) hlt
      refine ⟨v.map (rnV pl), putW pl pl wc' ws, g1, fun pc rest H locs ls hdg hcat hls hP hD hS kk => ?_⟩
      have hadr : ∀ (i a : Nat), pl[i]? = some a → adOf ad pl i = ad a := by
        intro i a hi
        have : i < pl.length := (List.getElem?_eq_some_iff.mp hi).1
        unfold adOf
        rw [if_neg (by omega), List.getD_eq_getElem?_getD, hi]
        rfl
      have hmap : pl.map (fun i => (cvW tc ad ws)[i]?) = (cvW tc (adOf ad pl) wc).map some := by
        apply List.ext_getElem?
        intro i
        rw [List.getElem?_map, List.getElem?_map]
        cases hi : pl[i]? with
        | none =>
          have : wc.length ≤ i := by rw [s1]; exact List.getElem?_eq_none_iff.mp hi
          rw [List.getElem?_eq_none (by rw [cvW_len]; exact this)]
          rfl
        | some a =>
          obtain ⟨q, q', u1, u2, u3⟩ := s2 i a hi
          rw [Option.map_some, cvW_at u1, cvW_at u2, u3, hadr i a hi]
          rfl
      refine call_core X hw g2 g3 hn (ad' := adOf ad pl) (unL_spec hle ha) (fun k hk => by unfold adOf; rw [if_pos hk]) (pl := pl) hmap (fun H H1 qP qD q1 q2 => ?_) p1 hnd pc rest H locs ls hdg hcat hls hP hD hS (fun H1 locs1 q1 q2 q3 => ?_)
      · intro k u hu
        by_cases hk : k ∈ pl
        · obtain ⟨i, hi⟩ := List.mem_iff_getElem?.mp hk
          have hi2 : i < wc'.length := by rw [g2.1, s1]; exact (List.getElem?_eq_some_iff.mp hi).1
          have hw' : wc'[i]? = some wc'[i] := List.getElem?_eq_getElem hi2
          have := cvW_at (tc := tc) (ad := ad) (p2 i k _ hi hw')
          rw [hu] at this
          cases this
          have h7 := q1 i _ (cvW_at hw')
          rw [hadr i k hi] at h7
          rw [rnC_cv]
          exact h7
        · have hk2 : k < ws.length := by
            have := (List.getElem?_eq_some_iff.mp hu).1
            rw [cvW_len, p1] at this
            exact this
          have hws : ws[k]? = some ws[k] := List.getElem?_eq_getElem hk2
          have h8 := p3 k hk
          rw [hws] at h8
          have := cvW_at (tc := tc) (ad := ad) h8
          rw [hu] at this
          cases this
          have h9 := qP k _ (cvW_at hws)
          refine h9.kept (q2 _ h9.lt ?_)
          rintro (⟨j, e9, hj⟩ | hj)
          · have hj2 : j < wc.length := by
              have := (List.getElem?_eq_some_iff.mp hj).1
              rw [cvW_len] at this
              exact this
            have hj3 : j < pl.length := by rw [← s1]; exact hj2
            have hj4 : pl[j]? = some pl[j] := List.getElem?_eq_getElem hj3
            obtain ⟨q, q', u1, u2, u3⟩ := s2 j _ hj4
            have u4 := cvW_at (tc := tc) (ad := adOf ad pl) u2
            rw [hj] at u4
            injection u4 with u5
            injection u5 with u6 u7
            have := qD.1 k pl[j] _ _ (cvW_at hws) (cvW_at u1) (u6.trans (hadr j _ hj4))
            exact hk (by rw [this]; exact List.mem_of_getElem? hj4)
          · have := h9.lt
            omega
      · have e9 : (v.map (cvV (adOf ad pl))).toList = (v.map (rnV pl)).toList.map (cvV ad) := by
          cases v with
          | none => rfl
          | some v => show [cvV (adOf ad pl) v] = [cvV ad (rnV pl v)]; rw [rnV_cv]
        rw [e9]
        exact kk H1 locs1 q1 q2 q3
    · cases h
  · cases h
