def insOf (kd ix : Nat) : Instr := match kd with
  | 0 => .invokevirtual ix
  | 1 => .invokestatic ix
  | _ => .invokespecial ix
/-- a callee's function is what the machine does at a call of it -/
def CallOK (R : Room) (own : String) (cc : ByteArray) (ix kd n : Nat) (F : Callee) : Prop :=
  ∀ {p : Program} {l : Launch} {e : Env} {s : State} {m : MethodId} {args : Array Value} {below : List Frame} {meth : Method} {c : Code} {cells slots : Nat} {Q : State → Prop} {D : va_G} {tc : Nat → ClassId} {ad : Nat → Nat} {A : Nat → Prop} {nL : Nat} {ca : CAr}, Cx p R s m args c cells slots D tc ad A nL own cc ca → ∀ (ρ : Type) (as : List Value) (ws : AW) (κ : Option Value → AW → Option ρ) (res : ρ), F ρ as ws κ = some res → as.length = n →
    ∃ (r : Option Value) (ws' : AW), κ r ws' = some res ∧ ∀ (pc : Nat) (rest : List Value) (H : Heap) (locs : List Loc) (ls : Array Slot), decode cc pc = .ok (insOf kd ix, 3) → catSum rest ≤ 8 → ls.size = nL → va_P D vwCl (cvW tc ad ws) H → va_D A (cvW tc ad ws) → va_S A s.heap H locs →
      (∀ (H1 : Heap) (locs1 : List Loc), va_P D vwCl (cvW tc ad ws') H1 → va_D A (cvW tc ad ws') → va_S A s.heap H1 locs1 → W p l e R s m args below meth c H1 locs1 cells slots Q (F0 m (pc + 3) ls (r.toList.map (cvV ad) ++ rest))) → W p l e R s m args below meth c H locs cells slots Q (F0 m pc ls (as.reverse.map (cvV ad) ++ rest))
def RetFit (rt : Option FieldType) (v : Option Value) (q : Instr) : Prop :=
  (q = .ireturn ∧ ∃ x, v = some (.int x) ∧ (rt = some .int ∨ (rt = some .boolean ∧ (x = 0 ∨ x = 1)))) ∨ (q = .lreturn ∧ ∃ x, v = some (.long x) ∧ rt = some .long) ∨ (q = .areturn ∧ ∃ x n, v = some (.ref x) ∧ rt = some (.object n)) ∨ (q = .return_ ∧ v = none ∧ rt = none)
def Rt (p : Program) (l : Launch) (e : Env) (R : Room) (s : State) (m : MethodId) (args : Array Value) (below : List Frame) (meth : Method) (c : Code) (cells slots : Nat) (Q : State → Prop) (D : va_G) (tc : Nat → ClassId) (ad : Nat → Nat) (A : Nat → Prop) (cc : ByteArray) (rt : Option FieldType) (v : Option Value) (ws : AW) : Prop :=
  ∀ (H : Heap) (locs : List Loc) (ls : Array Slot) (pc : Nat) (q : Instr), va_P D vwCl (cvW tc ad ws) H → va_D A (cvW tc ad ws) → va_S A s.heap H locs → RetFit rt v q → decode cc pc = .ok (q, 1) → W p l e R s m args below meth c H locs cells slots Q (F0 m pc ls (v.toList.map (cvV ad)))
/-- a constant of the pool -/
def CnOK (own : String) (ix : Nat) (v : Value) : Prop := match v with
  | .int x => Cond.constant own ix x ∈ WU
  | .long x => Cond.constantLong own ix x ∈ WU
  | .ref q => own = "LeftTillCalled$Text" ∧ ∃ i, i < 13 ∧ q = 1000 + i ∧ ix = (strT.getD i (0, "", [])).1
  | _ => False
def lenOf (q : Instr) : Nat := match q with
  | .bipush _ | .ldc _ | .iload _ | .lload _ | .aload _ | .istore _ | .lstore _ | .astore _ => 2
  | .sipush _ | .ldc_w _ | .ldc2_w _ | .iinc _ _ | .ifCond _ _ | .if_icmp _ _ | .goto _ | .getfield _ | .putfield _ | .getstatic _ | .invokevirtual _ | .invokestatic _ | .invokespecial _ => 3
  | .tableswitch _ _ _ _ | .lookupswitch _ _ => 0
  | _ => 1
def cstOK (cn : Cns) (q : Instr) (v : Value) : Bool := match q with
  | .iconst n => decide (v = .int (Int32.ofInt n))
  | .bipush n => decide (v = .int (Int8.ofInt n).toInt32)
  | .sipush n => decide (v = .int (Int16.ofInt n).toInt32)
  | .lconst n => decide (v = .long (Int64.ofNat (n : Nat)))
  | .iinc _ n => decide (v = .int (Int32.ofInt n))
  | .ldc ix => decide (cn.lookup ix = some v) && (match v with
    | .int _ => true
    | .ref _ => true
    | _ => false)
  | .ldc_w ix => decide (cn.lookup ix = some v) && (match v with
    | .int _ => true
    | _ => false)
  | .ldc2_w ix => decide (cn.lookup ix = some v) && (match v with
    | .long _ => true
    | _ => false)
  | .getstatic ix => decide (ix ≠ 0)
  | _ => true
def swTb (pc : Nat) (lo hi : Int) (offs : Array Int) (sw : List (Int32 × Nat)) : Bool :=
  decide (sw.length = offs.size) && (decide (lo + offs.size = hi + 1) && (List.range sw.length).all (fun j => decide ((sw.getD j (0, 0)).1.toInt = lo + j) && (match offs[j]? with
    | some o => decide ((pc : Int) + o = ((sw.getD j (0, 0)).2 : Int))
    | none => false)))
theorem swTb_spec {pc : Nat} {lo hi : Int} {offs : Array Int} {sw : List (Int32 × Nat)} (h : swTb pc lo hi offs sw = true) : swT pc lo hi offs sw := by
  simp only [swTb, Bool.and_eq_true, decide_eq_true_eq, List.all_eq_true, List.mem_range] at h
  obtain ⟨h1, h2, h3⟩ := h
  refine ⟨h1, h2, fun j hj => ?_⟩
  obtain ⟨a, b⟩ := h3 j hj
  refine ⟨a, ?_⟩
  cases e : offs[j]? with
  | none => rw [e] at b; cases b
  | some o => rw [e] at b; exact ⟨o, rfl, by simpa using b⟩
def tgtOK (pc : Nat) (q : Instr) (tgt : Nat) (sw : List (Int32 × Nat)) : Bool := match q with
  | .ifCond _ off | .if_icmp _ off | .goto off => decide ((pc : Int) + off = (tgt : Int))
  | .tableswitch d lo hi offs => decide ((pc : Int) + d = (tgt : Int)) && swTb pc lo hi offs sw
  | .lookupswitch d ps => decide ((pc : Int) + d = (tgt : Int)) && (swL pc ps.toList sw && (ps.toList.zip (ps.toList.drop 1)).all (fun (a, next) => a.1 < next.1))
  | _ => true
def entOK (cn : Cns) (cc : ByteArray) (pc : Nat) (q : Ent) : Bool :=
  decide (decode cc pc = .ok (q.1, q.2.1)) && (decide (lenOf q.1 = 0 ∨ lenOf q.1 = q.2.1) && (cstOK cn q.1 q.2.2.1 && tgtOK pc q.1 q.2.2.2.1 q.2.2.2.2))
def tblOK (cn : Cns) (cc : ByteArray) (T : List (Nat × Ent)) : Bool := T.all (fun q => entOK cn cc q.1 q.2)
theorem look_mem {α : Type} {T : List (Nat × α)} {pc : Nat} {q : α} (h : T.lookup pc = some q) : (pc, q) ∈ T := by
  induction T with
  | nil => cases h
  | cons a T ih =>
    obtain ⟨b, d⟩ := a
    simp only [List.lookup] at h
    split at h
    · rename_i e
      cases h
      rw [eq_of_beq e]
      exact List.mem_cons_self
    · exact List.mem_cons_of_mem _ (ih h)
theorem tblOK_at {cn : Cns} {cc : ByteArray} {T : List (Nat × Ent)} {pc : Nat} {q : Ent} (h : tblOK cn cc T = true) (hq : T.lookup pc = some q) : entOK cn cc pc q = true := by
  have h1 : ∀ a ∈ T, entOK cn cc a.1 a.2 = true := by
    unfold tblOK at h
    intro a ha
    have h2 := (List.all_eq_true.mp h) a ha
    exact h2
  have h3 : (pc, q) ∈ T := look_mem hq
  have h4 := h1 (pc, q) h3
  exact h4
section
variable {p : Program} {l : Launch} {e : Env} {R : Room} {s : State} {m : MethodId} {args : Array Value} {below : List Frame} {meth : Method} {c : Code} {cells slots : Nat} {Q : State → Prop} {D : va_G} {tc : Nat → ClassId} {ad : Nat → Nat} {A : Nat → Prop} {nL : Nat} {own : String} {cc : ByteArray}
variable {ρ : Type} {k : Kont ρ} {κ : Option Value → AW → Option ρ} {res : ρ} {pc pc1 i : Nat} {lo : AL} {st : List Value} {ws : AW} {ca : CAr} {fl : Fls} {cn : Cns} {E : Cal} {rt : Option FieldType} {ks : Nat}
theorem go_call {kd ix : Nat} (hE : ∀ ix kd n F, E.lookup ix = some (kd, n, F) → CallOK R own cc ix kd n F) (X : Cx p R s m args c cells slots D tc ad A nL own cc ca) (hdg : decode cc pc = .ok (insOf kd ix, 3)) (hk : ∀ pc' lo' st' ws', k pc' lo' st' ws' = some res → Go p l e R s m args below meth c cells slots Q D tc ad A nL pc' lo' st' ws') (h : aCall E kd ix k (pc + 3) lo st ws = some res) : Go p l e R s m args below meth c cells slots Q D tc ad A nL pc lo st ws := by
  unfold aCall at h
  split at h
  · rename_i kd' n F hl
    split at h
    · rename_i hc
      obtain ⟨⟨rfl, hn⟩, hcat⟩ := hc
      obtain ⟨r, ws', g1, g2⟩ := hE _ _ _ _ hl X ρ _ ws _ res h (by rw [List.length_reverse, List.length_take]; omega)
      intro H locs ls hR
      obtain ⟨h1, h2, h3, h4, h5⟩ := hR
      have := g2 pc ((st.drop n).map (cvV ad)) H locs ls hdg (by
        unfold catSum at hcat ⊢
        rw [List.map_map]
        have e : ((fun v : Value => v.category) ∘ cvV ad) = (fun v : Value => v.category) := funext fun v => cvV_cat ad v
        rw [e]
        exact hcat) h5.1 h1 h2 h3 (fun H1 locs1 q1 q2 q3 => by
        have := hk _ _ _ _ g1 H1 locs1 ls ⟨q1, q2, q3, h4, h5⟩
        rw [List.map_append] at this
        exact this)
      rw [List.reverse_reverse, ← List.map_append, List.take_append_drop] at this
      exact this
    · cases h
  · cases h
theorem go_ret {v : Option Value} {q : Instr} (X : Cx p R s m args c cells slots D tc ad A nL own cc ca) (hret : ∀ v ws', κ v ws' = some res → Rt p l e R s m args below meth c cells slots Q D tc ad A cc rt v ws') (hdg : decode cc pc = .ok (q, 1)) (hf : RetFit rt v q) (hs : st = v.toList) (h : κ v ws = some res) : Go p l e R s m args below meth c cells slots Q D tc ad A nL pc lo st ws := by
  subst hs
  intro H locs ls hR
  exact hret v ws h H locs ls pc q hR.1 hR.2.1 hR.2.2.1 hf hdg
theorem astep_sound {q : Ent} (hfl : ∀ ix ci fk kd, fl.lookup ix = some (ci, fk, kd) → FlOK own ix ci fk kd) (hcn : ∀ ix v, cn.lookup ix = some v → CnOK own ix v) (hks : ks ≠ 0 → Cond.fieldLink own ks "LeftTillCalled" "KIND_ABOVE" "[I" ∈ WU) (hE : ∀ ix kd n F, E.lookup ix = some (kd, n, F) → CallOK R own cc ix kd n F) (X : Cx p R s m args c cells slots D tc ad A nL own cc ca) (hq : entOK cn cc pc q = true)
    (hk : ∀ pc' lo' st' ws', k pc' lo' st' ws' = some res → Go p l e R s m args below meth c cells slots Q D tc ad A nL pc' lo' st' ws') (hret : ∀ v ws', κ v ws' = some res → Rt p l e R s m args below meth c cells slots Q D tc ad A cc rt v ws') (h : astep fl ks ca E rt k κ pc q lo st ws = some res) : Go p l e R s m args below meth c cells slots Q D tc ad A nL pc lo st ws := by
  obtain ⟨hx, hb, hml, hown, hts⟩ := id X.1
  obtain ⟨ins, len, cv, tgt, sw⟩ := q
  simp only [entOK, Bool.and_eq_true, decide_eq_true_eq] at hq
  obtain ⟨hdg, hlen, hc, ht⟩ := hq
  cases ins with
  | iconst n =>
    rcases hlen with hlen | hlen
    · cases hlen
    · cases hlen
      exact go_push (pc1 := pc + 1) (v := cv) (fun H locs ls rest _ w => by
        simp only [cstOK, decide_eq_true_eq] at hc
        subst hc
        exact lv_iconst hx hb hdg rfl w) (hk _ _ _ _ h)
  | bipush n =>
    rcases hlen with hlen | hlen
    · cases hlen
    · cases hlen
      exact go_push (pc1 := pc + 2) (v := cv) (fun H locs ls rest _ w => by
        simp only [cstOK, decide_eq_true_eq] at hc
        subst hc
        exact lv_bipush hx hb hdg rfl w) (hk _ _ _ _ h)
  | sipush n =>
    rcases hlen with hlen | hlen
    · cases hlen
    · cases hlen
      exact go_push (pc1 := pc + 3) (v := cv) (fun H locs ls rest _ w => by
        simp only [cstOK, decide_eq_true_eq] at hc
        subst hc
        exact lv_sipush hx hb hdg rfl w) (hk _ _ _ _ h)
  | lconst n =>
    rcases hlen with hlen | hlen
    · cases hlen
    · cases hlen
      exact go_push (pc1 := pc + 1) (v := cv) (fun H locs ls rest _ w => by
        simp only [cstOK, decide_eq_true_eq] at hc
        subst hc
        exact lv_lconst hx hb hdg rfl w) (hk _ _ _ _ h)
  | ldc ix =>
    rcases hlen with hlen | hlen
    · cases hlen
    · cases hlen
      exact go_push (pc1 := pc + 2) (v := cv) (fun H locs ls rest hS w => by
        simp only [cstOK, Bool.and_eq_true, decide_eq_true_eq] at hc
        have hv := hcn _ _ hc.1
        cases cv with
        | int x => exact lv_ldc hx hb hown (hts _ hv) hdg w
        | ref a =>
          obtain ⟨rfl, i, i1, rfl, rfl⟩ := hv
          exact va_ldcS hx hb hown (X.2.2.1.2.2.2.1 i i1) hdg w
        | _ => exact absurd hc.2 (by simp)) (hk _ _ _ _ h)
  | ldc_w ix =>
    rcases hlen with hlen | hlen
    · cases hlen
    · cases hlen
      exact go_push (pc1 := pc + 3) (v := cv) (fun H locs ls rest hS w => by
        simp only [cstOK, Bool.and_eq_true, decide_eq_true_eq] at hc
        have hv := hcn _ _ hc.1
        cases cv with
        | int x => exact lv_ldcw hx hb hown (hts _ hv) hdg w
        | _ => exact absurd hc.2 (by simp)) (hk _ _ _ _ h)
  | ldc2_w ix =>
    rcases hlen with hlen | hlen
    · cases hlen
    · cases hlen
      exact go_push (pc1 := pc + 3) (v := cv) (fun H locs ls rest hS w => by
        simp only [cstOK, Bool.and_eq_true, decide_eq_true_eq] at hc
        have hv := hcn _ _ hc.1
        cases cv with
        | long x => exact lv_ldc2 hx hb hown (hts _ hv) hdg w
        | _ => exact absurd hc.2 (by simp)) (hk _ _ _ _ h)
  | iload_n j => rcases hlen with hlen | hlen <;> cases hlen; exact go_ldI (i := j.val) hk (fun H locs ls x rest r w => lv_iload_n hx hb hdg rfl r w) h
  | iload j => rcases hlen with hlen | hlen <;> cases hlen; exact go_ldI (i := j) hk (fun H locs ls x rest r w => lv_iload hx hb hdg r w) h
  | lload_n j => rcases hlen with hlen | hlen <;> cases hlen; exact go_ldL (i := j.val) hk (fun H locs ls x rest r w => lv_lload_n hx hb hdg rfl r w) h
  | lload j => rcases hlen with hlen | hlen <;> cases hlen; exact go_ldL (i := j) hk (fun H locs ls x rest r w => lv_lload hx hb hdg r w) h
  | aload_n j => rcases hlen with hlen | hlen <;> cases hlen; exact go_ldA (i := j.val) hk (fun H locs ls x rest r w => lv_aload_n hx hb hdg rfl r w) h
  | aload j => rcases hlen with hlen | hlen <;> cases hlen; exact go_ldA (i := j) hk (fun H locs ls x rest r w => lv_aload hx hb hdg r w) h
  | istore_n j => rcases hlen with hlen | hlen <;> cases hlen; exact go_stI (i := j.val) hk (fun H locs ls x rest lv lv' a b d w => lv_istore_n hx hb hdg rfl a b d w) h
  | istore j => rcases hlen with hlen | hlen <;> cases hlen; exact go_stI (i := j) hk (fun H locs ls x rest lv lv' a b d w => lv_istore hx hb hdg a b d w) h
  | lstore_n j => rcases hlen with hlen | hlen <;> cases hlen; exact go_stL (i := j.val) hk (fun H locs ls x rest lv lv' a b d w => lv_lstore_n hx hb hdg rfl a b d w) h
  | lstore j => rcases hlen with hlen | hlen <;> cases hlen; exact go_stL (i := j) hk (fun H locs ls x rest lv lv' a b d w => lv_lstore hx hb hdg a b d w) h
  | astore_n j => rcases hlen with hlen | hlen <;> cases hlen; exact go_stA (i := j.val) hk (fun H locs ls x rest lv lv' a b d w => lv_astore_n hx hb hdg rfl a b d w) h
  | astore j => rcases hlen with hlen | hlen <;> cases hlen; exact go_stA (i := j) hk (fun H locs ls x rest lv lv' a b d w => lv_astore hx hb hdg a b d w) h
  | iinc j n =>
    rcases hlen with hlen | hlen <;> cases hlen
    simp only [cstOK, decide_eq_true_eq] at hc
    subst hc
    exact go_inc hx hb rfl hdg hk h
  | iadd => rcases hlen with hlen | hlen <;> cases hlen; exact go_bin hk (fun H locs ls x y rest w => lv_iadd hx hb hdg w) h
  | isub => rcases hlen with hlen | hlen <;> cases hlen; exact go_bin hk (fun H locs ls x y rest w => lv_isub hx hb hdg w) h
  | imul => rcases hlen with hlen | hlen <;> cases hlen; exact go_bin hk (fun H locs ls x y rest w => lv_imul hx hb hdg w) h
  | iand => rcases hlen with hlen | hlen <;> cases hlen; exact go_bin hk (fun H locs ls x y rest w => lv_iand hx hb hdg w) h
  | ior => rcases hlen with hlen | hlen <;> cases hlen; exact go_bin hk (fun H locs ls x y rest w => lv_ior hx hb hdg w) h
  | ishl => rcases hlen with hlen | hlen <;> cases hlen; exact go_bin hk (fun H locs ls x y rest w => lv_ishl hx hb hdg w) h
  | ishr => rcases hlen with hlen | hlen <;> cases hlen; exact go_bin hk (fun H locs ls x y rest w => lv_ishr hx hb hdg w) h
  | iushr => rcases hlen with hlen | hlen <;> cases hlen; exact go_bin hk (fun H locs ls x y rest w => lv_iushr hx hb hdg rfl w) h
  | idiv => rcases hlen with hlen | hlen <;> cases hlen; exact go_div hk (fun H locs ls x y rest z w => lv_idiv hx hb hdg z w) h
  | irem => rcases hlen with hlen | hlen <;> cases hlen; exact go_div hk (fun H locs ls x y rest z w => lv_irem hx hb hdg z w) h
  | ladd => rcases hlen with hlen | hlen <;> cases hlen; exact go_binL hk (fun H locs ls x y rest w => lv_ladd hx hb hdg w) h
  | lmul => rcases hlen with hlen | hlen <;> cases hlen; exact go_binL hk (fun H locs ls x y rest w => lv_lmul hx hb hdg w) h
  | lor => rcases hlen with hlen | hlen <;> cases hlen; exact go_binL hk (fun H locs ls x y rest w => lv_lor hx hb hdg w) h
  | land => rcases hlen with hlen | hlen <;> cases hlen; exact go_binL hk (fun H locs ls x y rest w => lv_land hx hb hdg w) h
  | lshl => rcases hlen with hlen | hlen <;> cases hlen; exact go_lsh hx hb hdg hk h
  | lcmp => rcases hlen with hlen | hlen <;> cases hlen; exact go_cmpL hx hb hdg hk h
  | i2b => rcases hlen with hlen | hlen <;> cases hlen; exact go_un hk (fun H locs ls x rest w => lv_i2b hx hb hdg rfl w) h
  | i2s => rcases hlen with hlen | hlen <;> cases hlen; exact go_un hk (fun H locs ls x rest w => lv_i2s hx hb hdg rfl w) h
  | i2l => rcases hlen with hlen | hlen <;> cases hlen; exact go_i2l hx hb hdg hk h
  | l2i => rcases hlen with hlen | hlen <;> cases hlen; exact go_l2i hx hb hdg hk h
  | dup => rcases hlen with hlen | hlen <;> cases hlen; exact go_dup hx hb hdg hk h
  | pop => rcases hlen with hlen | hlen <;> cases hlen; exact go_pop hx hb hdg hk h
  | dup2 => rcases hlen with hlen | hlen <;> cases hlen; exact go_dup2 hx hb hdg hk h
  | ifCond b off =>
    rcases hlen with hlen | hlen <;> cases hlen
    simp only [tgtOK, decide_eq_true_eq] at ht
    exact go_if hx hb hdg ht hk h
  | if_icmp b off =>
    rcases hlen with hlen | hlen <;> cases hlen
    simp only [tgtOK, decide_eq_true_eq] at ht
    exact go_icmp hx hb hdg ht hk h
  | goto off =>
    rcases hlen with hlen | hlen <;> cases hlen
    simp only [tgtOK, decide_eq_true_eq] at ht
    exact go_goto hx hb hdg ht (hk _ _ _ _ h)
  | tableswitch d lo9 hi9 offs =>
    simp only [tgtOK, Bool.and_eq_true, decide_eq_true_eq] at ht
    exact go_tsw hx hb hdg ht.1 (swTb_spec ht.2) hk h
  | lookupswitch d ps =>
    simp only [tgtOK, Bool.and_eq_true, decide_eq_true_eq] at ht
    exact go_lsw hx hb hdg ht.2.2 ht.1 ht.2.1 hk h
  | iaload => rcases hlen with hlen | hlen <;> cases hlen; exact go_iald X hdg hk h
  | laload => rcases hlen with hlen | hlen <;> cases hlen; exact go_lald X hdg hk h
  | baload => rcases hlen with hlen | hlen <;> cases hlen; exact go_bald X hdg hk h
  | aaload => rcases hlen with hlen | hlen <;> cases hlen; exact go_aald X hdg hk h
  | iastore => rcases hlen with hlen | hlen <;> cases hlen; exact go_iast X hdg hk h
  | lastore => rcases hlen with hlen | hlen <;> cases hlen; exact go_last X hdg hk h
  | bastore => rcases hlen with hlen | hlen <;> cases hlen; exact go_bast X hdg hk h
  | arraylength => rcases hlen with hlen | hlen <;> cases hlen; exact go_len X hdg hk h
  | getfield ix => rcases hlen with hlen | hlen <;> cases hlen; exact go_get hfl X hdg hk h
  | putfield ix => rcases hlen with hlen | hlen <;> cases hlen; exact go_put hfl X hdg hk h
  | getstatic ix =>
    rcases hlen with hlen | hlen <;> cases hlen
    simp only [cstOK, decide_eq_true_eq] at hc
    exact go_gets hks X hc hdg hk h
  | invokevirtual ix => rcases hlen with hlen | hlen <;> cases hlen; exact go_call (kd := 0) hE X hdg hk h
  | invokestatic ix => rcases hlen with hlen | hlen <;> cases hlen; exact go_call (kd := 1) hE X hdg hk h
  | invokespecial ix => rcases hlen with hlen | hlen <;> cases hlen; exact go_call (kd := 2) hE X hdg hk h
  | ireturn =>
    rcases hlen with hlen | hlen <;> cases hlen
    replace h : aRetI rt κ st ws = some res := h
    unfold aRetI at h
    split at h
    · rename_i x
      exact go_ret X hret hdg (v := some (.int x)) (Or.inl ⟨rfl, x, rfl, Or.inl rfl⟩) rfl h
    · rename_i x
      by_cases hv : x = 0 ∨ x = 1
      · exact go_ret X hret hdg (v := some (.int x)) (Or.inl ⟨rfl, x, rfl, Or.inr ⟨rfl, hv⟩⟩) rfl ((br_so h).1 hv)
      · exact absurd ((br_so h).2 hv) (fun z => by cases z)
    · cases h
  | lreturn =>
    rcases hlen with hlen | hlen <;> cases hlen
    replace h : aRetL rt κ st ws = some res := h
    unfold aRetL at h
    split at h
    · rename_i x
      exact go_ret X hret hdg (v := some (.long x)) (Or.inr (Or.inl ⟨rfl, x, rfl, rfl⟩)) rfl h
    · cases h
  | areturn =>
    rcases hlen with hlen | hlen <;> cases hlen
    replace h : aRetA rt κ st ws = some res := h
    unfold aRetA at h
    split at h
    · rename_i x n
      exact go_ret X hret hdg (v := some (.ref x)) (Or.inr (Or.inr (Or.inl ⟨rfl, x, n, rfl, rfl⟩))) rfl h
    · cases h
  | return_ =>
    rcases hlen with hlen | hlen <;> cases hlen
    replace h : aRetV rt κ st ws = some res := h
    unfold aRetV at h
    split at h
    · exact go_ret X hret hdg (v := none) (Or.inr (Or.inr (Or.inr ⟨rfl, rfl, rfl⟩))) rfl h
    · cases h
  | _ => exact absurd h (fun z => by cases z)
theorem runG_sound {T : List (Nat × Ent)} {hd : List (Nat × List Bool)} {back : Kont ρ} (hfl : ∀ ix ci fk kd, fl.lookup ix = some (ci, fk, kd) → FlOK own ix ci fk kd) (hcn : ∀ ix v, cn.lookup ix = some v → CnOK own ix v) (hks : ks ≠ 0 → Cond.fieldLink own ks "LeftTillCalled" "KIND_ABOVE" "[I" ∈ WU) (hE : ∀ ix kd n F, E.lookup ix = some (kd, n, F) → CallOK R own cc ix kd n F) (X : Cx p R s m args c cells slots D tc ad A nL own cc ca) (hT : tblOK cn cc T = true)
    (hret : ∀ v ws', κ v ws' = some res → Rt p l e R s m args below meth c cells slots Q D tc ad A cc rt v ws') (hback : ∀ pc lo st ws, back pc lo st ws = some res → Go p l e R s m args below meth c cells slots Q D tc ad A nL pc lo st ws) : ∀ (g pc : Nat) (lo : AL) (st : List Value) (ws : AW), runG T hd fl ks ca E rt κ back g pc lo st ws = some res → Go p l e R s m args below meth c cells slots Q D tc ad A nL pc lo st ws := by
  intro g
  induction g with
  | zero => intro pc lo st ws h; cases h
  | succ g ih =>
    intro pc lo st ws h
    unfold runG at h
    split at h
    · cases h
    · rename_i q hq
      refine astep_sound hfl hcn hks hE X (tblOK_at hT hq) (fun pc' lo' st' ws' h' => ?_) hret h
      split at h'
      · exact go_mask (hback _ _ _ _ h')
      · exact ih _ _ _ _ h'
theorem run_sound {T : List (Nat × Ent)} {hd : List (Nat × List Bool)} (hfl : ∀ ix ci fk kd, fl.lookup ix = some (ci, fk, kd) → FlOK own ix ci fk kd) (hcn : ∀ ix v, cn.lookup ix = some v → CnOK own ix v) (hks : ks ≠ 0 → Cond.fieldLink own ks "LeftTillCalled" "KIND_ABOVE" "[I" ∈ WU) (hE : ∀ ix kd n F, E.lookup ix = some (kd, n, F) → CallOK R own cc ix kd n F) (X : Cx p R s m args c cells slots D tc ad A nL own cc ca) (hT : tblOK cn cc T = true)
    (hret : ∀ v ws', κ v ws' = some res → Rt p l e R s m args below meth c cells slots Q D tc ad A cc rt v ws') : ∀ (n pc : Nat) (lo : AL) (st : List Value) (ws : AW), run T hd fl ks ca E rt κ n pc lo st ws = some res → Go p l e R s m args below meth c cells slots Q D tc ad A nL pc lo st ws := by
  intro n
  induction n with
  | zero => intro pc lo st ws h; cases h
  | succ n ih =>
    intro pc lo st ws h
    exact runG_sound hfl hcn hks hE X hT hret ih _ _ _ _ _ h
end
