-- THE LAW'S CALLS
/-- a callee over the first k cells -/
def preF (k : Nat) (G : Callee) : Callee := fun ρ as ws κ => G ρ as (ws.take k) (fun v w => κ v (w ++ ws.drop k))
theorem cvW_app (tc : Nat → ClassId) (ad : Nat → Nat) (a b : AW) (i : Nat) (h : i < a.length) : (cvW tc ad (a ++ b))[i]? = (cvW tc ad a)[i]? := by
  have e1 : (a ++ b)[i]? = a[i]? := List.getElem?_append_left h
  have e2 : a[i]? = some a[i] := List.getElem?_eq_getElem h
  rw [cvW_at (e1.trans e2), cvW_at e2]
theorem callOK_pre {k : Nat} {R : Room} {own : String} {cc : ByteArray} {ix kd n ci maxL : Nat} {y : MethodName} {rm : Room} {cc' : ByteArray} {rt : Option FieldType} {G : Callee} (hw : CallWd R own ix kd n y rm cc' maxL rt ci) (hG : CoreOK y rm cc' maxL rt kd ci G) : CallOK R own cc ix kd n (preF k G) := by
  intro p l e s m args below meth c cells slots Q D tc ad A nL ca X ρ as ws κ res h hn
  obtain ⟨v, wc', g1, g2, g3⟩ := hG ρ as (ws.take k) _ res h
  have hl : wc'.length = (ws.take k).length := g2.1
  have hsp : ws.take k ++ ws.drop k = ws := List.take_append_drop k ws
  refine ⟨v, wc' ++ ws.drop k, g1, fun pc rest H locs ls hdg hcat hls hP hD hS kk => ?_⟩
  have hmap : (List.range' 0 (cvW tc ad (ws.take k)).length).map (fun i => (cvW tc ad ws)[i]?) = (cvW tc ad (ws.take k)).map some := by
    rw [← map_range (cvW tc ad (ws.take k))]
    apply List.map_congr_left
    intro i hi
    obtain ⟨j, h1, h2⟩ := List.mem_range'.mp hi
    have hi2 : i < (ws.take k).length := by rw [cvW_len] at h1; omega
    have := cvW_app tc ad (ws.take k) (ws.drop k) i hi2
    rw [hsp] at this
    exact this
  refine call_core X hw g2 g3 hn (ad' := ad) (ws' := wc' ++ ws.drop k) rfl (fun _ _ => rfl) (pl := List.range' 0 (cvW tc ad (ws.take k)).length) hmap (fun H H1 qP qD q1 q2 => ?_) (by rw [List.length_append, hl, ← List.length_append, hsp]) (nd_range _) pc rest H locs ls hdg hcat hls hP hD hS (fun H1 locs1 q1 q2 q3 => ?_)
  · intro i u hu
    by_cases hi : i < wc'.length
    · rw [cvW_app tc ad _ _ i hi] at hu
      exact q1 i u hu
    · have hi2 : i < (wc' ++ ws.drop k).length := by
        have := (List.getElem?_eq_some_iff.mp hu).1
        rw [cvW_len] at this
        exact this
      have e1 : (wc' ++ ws.drop k)[i]? = (ws.drop k)[i - wc'.length]? := List.getElem?_append_right (Nat.not_lt.mp hi)
      have e2 : ws[i]? = (ws.drop k)[i - wc'.length]? := by
        have := List.getElem?_append_right (l₁ := ws.take k) (l₂ := ws.drop k) (i := i) (by rw [← hl]; exact Nat.not_lt.mp hi)
        rw [hsp, ← hl] at this
        exact this
      have e3 : (wc' ++ ws.drop k)[i]? = some (wc' ++ ws.drop k)[i] := List.getElem?_eq_getElem hi2
      have e4 : ws[i]? = some (wc' ++ ws.drop k)[i] := by rw [e2, ← e1, e3]
      rw [cvW_at e3] at hu
      cases hu
      have h9 := qP i _ (cvW_at e4)
      refine h9.kept (q2 _ h9.lt ?_)
      rintro (⟨j, e9, hj⟩ | hj)
      · have hj2 : j < (ws.take k).length := by
          have := (List.getElem?_eq_some_iff.mp hj).1
          rw [cvW_len] at this
          exact this
        have hj3 := cvW_app tc ad (ws.take k) (ws.drop k) j hj2
        rw [hsp, hj] at hj3
        have := qD.1 i j _ _ (cvW_at e4) hj3 rfl
        rw [hl] at hi
        omega
      · have := h9.lt
        omega
  · have e : (v.map (cvV ad)).toList = v.toList.map (cvV ad) := by cases v <;> rfl
    rw [e]
    exact kk H1 locs1 q1 q2 q3
section
variable {p : Program} {l : Launch} {e : Env} {R : Room} {s : State} {m : MethodId} {args : Array Value} {below : List Frame} {meth : Method} {c : Code} {cells slots : Nat} {Q : State → Prop} {D : va_G} {tc : Nat → ClassId} {ad : Nat → Nat} {A : Nat → Prop} {nL : Nat} {own : String} {cc : ByteArray}
variable {ca : CAr} {pc : Nat} {lo : AL} {st : List Value} {ws : AW}
theorem go_callF {F : Callee} {ix kd n : Nat} {as : List Value} {r : Option Value} {ws' : AW} (X : Cx p R s m args c cells slots D tc ad A nL own cc ca) (hF : CallOK R own cc ix kd n F) (hg : F (Option Value × AW) as ws (fun v w => some (v, w)) = some (r, ws')) (hn : as.length = n) (hcat : catSum st ≤ 8) (hdg : decode cc pc = .ok (insOf kd ix, 3)) (kk : Go p l e R s m args below meth c cells slots Q D tc ad A nL (pc + 3) lo (r.toList ++ st) ws') : Go p l e R s m args below meth c cells slots Q D tc ad A nL pc lo (as.reverse ++ st) ws := by
  obtain ⟨r2, ws2, h1, h2⟩ := hF X (Option Value × AW) as ws _ _ hg hn
  injection h1 with h1
  injection h1 with e1 e2
  subst e1
  subst e2
  intro H locs ls hR
  obtain ⟨hP, hD, hS, hlen, hl⟩ := hR
  have hc2 : catSum (st.map (cvV ad)) ≤ 8 := by
    unfold catSum at hcat ⊢
    rw [List.map_map]
    have e9 : ((fun v : Value => v.category) ∘ cvV ad) = fun v => v.category := funext fun v => cvV_cat ad v
    rw [e9]
    exact hcat
  have := h2 pc (st.map (cvV ad)) H locs ls hdg hc2 hl.1 hP hD hS (fun H1 locs1 q1 q2 q3 => by
    have := kk H1 locs1 ls ⟨q1, q2, q3, hlen, hl⟩
    rw [List.map_append] at this
    exact this)
  rw [List.map_append]
  exact this
end
