def fMin : Callee := fun _ as ws κ => match as with
  | [.int x, .int y] => κ (some (.int (if y < x then y else x))) ws
  | _ => none
def fMax : Callee := fun _ as ws κ => match as with
  | [.int x, .int y] => κ (some (.int (if x < y then y else x))) ws
  | _ => none
noncomputable def fCpy : Callee := fun _ as ws κ => match as with
  | [.ref a0, .int sp, .ref a1, .int dp, .int n] => (match ws[a0]?, ws[a1]? with
    | some (.inl (0, n0, .inl f)), some (.inl (0, n1, .inl g)) => br ((sp < 0 ∨ dp < 0 ∨ n < 0) ∨ (n0 < sp.toNatClampNeg + n.toNatClampNeg ∨ n1 < dp.toNatClampNeg + n.toNatClampNeg)) none (κ none (ws.set a1 (.inl (0, n1, .inl (va_cpy f g sp.toNatClampNeg dp.toNatClampNeg n.toNatClampNeg)))))
    | some (.inl (1, n0, .inr (.inl f))), some (.inl (1, n1, .inr (.inl g))) => br ((sp < 0 ∨ dp < 0 ∨ n < 0) ∨ (n0 < sp.toNatClampNeg + n.toNatClampNeg ∨ n1 < dp.toNatClampNeg + n.toNatClampNeg)) none (κ none (ws.set a1 (.inl (1, n1, .inr (.inl (va_cpy f g sp.toNatClampNeg dp.toNatClampNeg n.toNatClampNeg))))))
    | _, _ => none)
  | _ => none
theorem callOK_min {R : Room} {own : String} {cc : ByteArray} {ix : Nat} (h1 : Cond.methodLink own ix Lib.Math.min.name ∈ WU) (h2 : Cond.static Lib.Math.min.name ∈ WU) (h3 : Cond.initialized "java/lang/Math" ∈ WU) (h4 : Cond.code Lib.Math.min.name Lib.Math.min.code 2 (some .int) ∈ WU) (hR : 1 ≤ R.frames ∧ 21 ≤ R.locals) : CallOK R own cc ix 1 2 fMin := by
  intro p l e s m args below meth c cells slots Q D tc ad A nL ca X ρ as ws κ res h hn
  obtain ⟨⟨hx, hb, hml, hown, hts⟩, hK, hG, hA, hcs, -⟩ := X
  unfold fMin at h
  split at h
  · rename_i x y
    refine ⟨_, _, h, fun pc rest H locs ls hdg hcat hls hP hD hS kk => ?_⟩
    unfold catSum at hcat
    exact va_mmin (rest := rest) hx hb (hml.trans hls.symm) hown (hts _ h1) (hts _ h2) (hts _ h3) (hts _ h4) hR.1 (by omega) hcs.1 hcs.2 hdg (kk H locs hP hD hS)
  · cases h
theorem callOK_max {R : Room} {own : String} {cc : ByteArray} {ix : Nat} (h1 : Cond.methodLink own ix Lib.Math.max.name ∈ WU) (h2 : Cond.static Lib.Math.max.name ∈ WU) (h3 : Cond.initialized "java/lang/Math" ∈ WU) (h4 : Cond.code Lib.Math.max.name Lib.Math.max.code 2 (some .int) ∈ WU) (hR : 1 ≤ R.frames ∧ 21 ≤ R.locals) : CallOK R own cc ix 1 2 fMax := by
  intro p l e s m args below meth c cells slots Q D tc ad A nL ca X ρ as ws κ res h hn
  obtain ⟨⟨hx, hb, hml, hown, hts⟩, hK, hG, hA, hcs, -⟩ := X
  unfold fMax at h
  split at h
  · rename_i x y
    refine ⟨_, _, h, fun pc rest H locs ls hdg hcat hls hP hD hS kk => ?_⟩
    unfold catSum at hcat
    exact va_mmax (rest := rest) hx hb (hml.trans hls.symm) hown (hts _ h1) (hts _ h2) (hts _ h3) (hts _ h4) hR.1 (by omega) hcs.1 hcs.2 hdg (kk H locs hP hD hS)
  · cases h
theorem callOK_cpy {R : Room} {own : String} {cc : ByteArray} {ix : Nat} (h1 : Cond.methodLink own ix arraycopyName ∈ WU) (h2 : Cond.native arraycopyName ∈ WU) (h3 : Cond.static arraycopyName ∈ WU) (h4 : Cond.initialized "java/lang/System" ∈ WU) (hR : 1 ≤ R.frames ∧ 8 + (nativeFrameWords "java/lang/System" "arraycopy" 5 + 11) ≤ R.locals) : CallOK R own cc ix 1 5 fCpy := by
  intro p l e s m args below meth c cells slots Q D tc ad A nL ca X ρ as ws κ res h hn
  obtain ⟨⟨hx, hb, hml, hown, hts⟩, hK, hG, hA, hcs, -⟩ := X
  unfold fCpy at h
  split at h
  · rename_i a0 sp a1 dp n
    split at h
    · rename_i n0 f n1 g e0 e1
      by_cases hc : (sp < 0 ∨ dp < 0 ∨ n < 0) ∨ (n0 < sp.toNatClampNeg + n.toNatClampNeg ∨ n1 < dp.toNatClampNeg + n.toNatClampNeg)
      · exact absurd ((br_so h).1 hc) (fun z => by cases z)
      · replace h := (br_so h).2 hc
        have c1 : ¬ sp < 0 := fun z => hc (Or.inl (Or.inl z))
        have c2 : ¬ dp < 0 := fun z => hc (Or.inl (Or.inr (Or.inl z)))
        have c3 : ¬ n < 0 := fun z => hc (Or.inl (Or.inr (Or.inr z)))
        have c4 : sp.toNatClampNeg + n.toNatClampNeg ≤ n0 := Nat.not_lt.mp fun z => hc (Or.inr (Or.inl z))
        have c5 : dp.toNatClampNeg + n.toNatClampNeg ≤ n1 := Nat.not_lt.mp fun z => hc (Or.inr (Or.inr z))
        refine ⟨_, _, h, fun pc rest H locs ls hdg hcat hls hP hD hS kk => ?_⟩
        unfold catSum at hcat
        refine va_copyi (rest := rest) hx hb (hml.trans hls.symm) hown (hts _ h1) (hts _ h2) (hts _ h3) (hts _ h4) hK hP hD hS a0 a1 0 0 (cvW_at e0) (cvW_at e1) rfl rfl rfl c1 c2 c3 c4 c5 (fun _ _ => rfl) hR.1 (by omega) hdg (fun H1 locs1 q1 q2 q3 => kk H1 locs1 ?_ ?_ q3)
        · rw [cvW_set]; exact q1
        · rw [cvW_set]; exact q2
    · rename_i n0 f n1 g e0 e1
      by_cases hc : (sp < 0 ∨ dp < 0 ∨ n < 0) ∨ (n0 < sp.toNatClampNeg + n.toNatClampNeg ∨ n1 < dp.toNatClampNeg + n.toNatClampNeg)
      · exact absurd ((br_so h).1 hc) (fun z => by cases z)
      · replace h := (br_so h).2 hc
        have c1 : ¬ sp < 0 := fun z => hc (Or.inl (Or.inl z))
        have c2 : ¬ dp < 0 := fun z => hc (Or.inl (Or.inr (Or.inl z)))
        have c3 : ¬ n < 0 := fun z => hc (Or.inl (Or.inr (Or.inr z)))
        have c4 : sp.toNatClampNeg + n.toNatClampNeg ≤ n0 := Nat.not_lt.mp fun z => hc (Or.inr (Or.inl z))
        have c5 : dp.toNatClampNeg + n.toNatClampNeg ≤ n1 := Nat.not_lt.mp fun z => hc (Or.inr (Or.inr z))
        refine ⟨_, _, h, fun pc rest H locs ls hdg hcat hls hP hD hS kk => ?_⟩
        unfold catSum at hcat
        refine va_copyl (rest := rest) hx hb (hml.trans hls.symm) hown (hts _ h1) (hts _ h2) (hts _ h3) (hts _ h4) hK hP hD hS a0 a1 1 1 (cvW_at e0) (cvW_at e1) rfl rfl rfl c1 c2 c3 c4 c5 (fun _ _ => rfl) hR.1 (by omega) hdg (fun H1 locs1 q1 q2 q3 => kk H1 locs1 ?_ ?_ q3)
        · rw [cvW_set]; exact q1
        · rw [cvW_set]; exact q2
    · cases h
  · cases h
/-- a callee out of a typed function: un reads the callee's world, ua its arguments, pv and pw say what comes back -/
def mkG {α σ τ : Type} (un : AW → Option σ) (ua : List Value → Option α) (pv : τ → Option Value) (pw : σ → τ → AW) (f : α → σ → Option τ) : Callee := fun _ as wc κ => match ua as, un wc with
  | some a, some u => (f a u).bind (fun q => κ (pv q) (pw u q))
  | _, _ => none
theorem core_of {α σ τ : Type} {y : MethodName} {rm : Room} {cc' : ByteArray} {maxL : Nat} {rt : Option FieldType} {kd ci : Nat} (un : AW → Option σ) (pic : σ → AW) (hun : ∀ wc u, un wc = some u → wc = pic u) (ua : List Value → Option α) (ar : α → List Value) (hua : ∀ as a, ua as = some a → as = ar a) (pv : τ → Option Value) (pw : σ → τ → AW) (f : α → σ → Option τ)
    (hd : ∀ a u q, f a u = some q → Doc y rm cc' maxL rt (ar a) (pic u) (pv q) (pw u q)) (hr : kd = 0 → ∀ a u, ∃ r fs as1, ar a = .ref r :: as1 ∧ (pic u)[r]? = some (.inr (ci, fs))) :
    CoreOK y rm cc' maxL rt kd ci (mkG un ua pv pw f) := by
  intro ρ as wc κ res h
  unfold mkG at h
  split at h
  · rename_i a u ha hu
    rw [hua as a ha, hun wc u hu]
    cases hq : f a u with
    | none => rw [hq] at h; cases h
    | some q =>
      rw [hq] at h
      exact ⟨_, _, h, hd a u q hq, fun e => hr e a u⟩
  · cases h
