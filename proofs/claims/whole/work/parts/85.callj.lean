-- A CALL OF A CONSTRUCTOR, its world told
section
variable {p : Program} {l : Launch} {e : Env} {R : Room} {s : State} {m : MethodId} {args : Array Value} {below : List Frame} {meth : Method} {c : Code} {cells slots : Nat} {Q : State → Prop} {D : va_G} {tc : Nat → ClassId} {ad : Nat → Nat} {A : Nat → Prop} {nL : Nat} {own : String} {cc : ByteArray}
variable {ca : CAr} {pc : Nat} {lo : AL} {st : List Value} {ws : AW}
theorem go_callJ {n0 c2 s2 : Nat} {ws2 : AW} {E : State → Prop} {y : MethodName} {rm : Room} {cc' : ByteArray} {maxL ix n r0 : Nat} {as1 as' : List Value} {wc wc' : AW} {pl : List Nat} (X : Cx p R s m args c cells slots D tc ad A nL own cc ca) (hEk : EOK E) (hE : E s) (hw : CallWI R own ix n y rm cc' maxL) (hd : Doc2 E y rm cc' maxL as' wc wc') (hn : as1.length = n) (ha : unL pl (.ref r0 :: as1) = some as') (hs : subW pl ws pl = some wc) (hnd : va_nd pl = true) (hgl : pl.length ≤ wc'.length) (hlt9 : ws.length + wc'.length ≤ 1000) (hok' : wc'.all (okC wc'.length) = true) (ok : okS ws lo st = true) (hcs : cells + rm.cells ≤ R.cells ∧ slots + rm.slots ≤ R.slots) (hcat : catSum st ≤ 8) (hdg : decode cc pc = .ok (.invokespecial ix, 3))
    (hc2 : cells + rm.cells = c2) (hs2 : slots + rm.slots = s2) (hn0 : ws.length = n0) (hw2 : putG pl n0 pl (wc'.take pl.length) ws ++ (wc'.drop pl.length).map (rnCG pl n0) = ws2) (kk : ∀ ad', Agr n0 ad ad' → Go p l e R s m args below meth c c2 s2 Q D tc ad' A nL (pc + 3) lo st ws2) : Go p l e R s m args below meth c cells slots Q D tc ad A nL pc lo (as1.reverse ++ .ref r0 :: st) ws := by
  subst hn0
  subst hc2
  subst hs2
  subst hw2
  exact go_callI X hEk hE hw hd hn ha hs hnd hgl hlt9 hok' ok hcs hcat hdg kk
end
