-- THE LAW'S LOOP
def lawT : List Nat := [200, 243, 276, 309, 342, 385, 418, 451, 484, 507, 530, 553, 576, 619, 652, 675, 708, 721, 764, 807, 840, 863, 896, 929, 952, 985, 998, 1011, 1054, 1128, 1191, 1214, 1247, 1280, 1293, 1306, 1319, 1342, 1365]
def lawS : List (Int32 × Nat) := [(0, 200), (1, 243), (2, 276), (3, 309), (4, 342), (5, 385), (6, 418), (7, 451), (8, 484), (9, 507), (10, 530), (11, 553), (12, 576), (13, 619), (14, 652), (15, 675), (16, 708), (17, 721), (18, 764), (19, 807), (20, 840), (21, 863), (22, 896), (23, 929), (24, 952), (25, 985), (26, 998), (27, 1011), (28, 1054), (29, 1128), (30, 1191), (31, 1214), (32, 1247), (33, 1280), (34, 1293), (35, 1306), (36, 1319), (37, 1342)]
noncomputable def swTo (x : Int32) (d : Nat) : List (Int32 × Nat) → Nat
  | [] => d
  | q :: r => if x = q.1 then q.2 else swTo x d r
theorem sw_eq {ρ : Type} (k : Nat → Option ρ) (x : Int32) (d : Nat) : ∀ l, aSwG k x d l = k (swTo x d l)
  | [] => rfl
  | q :: r => by
    unfold aSwG swTo
    rw [br_eq]
    by_cases c : x = q.1
    · rw [if_pos c, if_pos c]
    · rw [if_neg c, if_neg c, sw_eq k x d r]
theorem sw_mem (x : Int32) (d : Nat) : ∀ l : List (Int32 × Nat), swTo x d l = d ∨ swTo x d l ∈ l.map Prod.snd
  | [] => Or.inl rfl
  | q :: r => by
    unfold swTo
    by_cases c : x = q.1
    · rw [if_pos c]
      exact Or.inr List.mem_cons_self
    · rw [if_neg c]
      rcases sw_mem x d r with h | h
      · exact Or.inl h
      · exact Or.inr (List.mem_cons_of_mem _ h)
theorem look_in : ∀ (l : List Nat) (t : Nat), t ∈ l → List.lookup t (l.map (fun t => (t, ([] : List Bool)))) = some []
  | a :: r, t, h => by
    show (match t == a with | true => some [] | false => List.lookup t (r.map (fun t => (t, ([] : List Bool))))) = _
    by_cases c : t = a
    · subst c
      rw [beq_self_eq_true]
    · rw [beq_eq_false_iff_ne.mpr c]
      rcases List.mem_cons.mp h with e | e
      · exact absurd e c
      · exact look_in r t e
theorem nI_plus (a b : Nat) : nI a + nI b = nI (a + b) := (Int32.ofNat_add a b).symm
theorem law_ix {j k L : Nat} (hj : j + 6 ≤ L) (hL : L ≤ 3072) (hk : k < 6) : ¬ (nI j + nI k < 0 ∨ L ≤ (nI j + nI k).toNatClampNeg) := by
  rw [nI_plus]
  exact nI_in (by omega) (by omega)
theorem law_hd {j L : Nat} (hL : L ≤ 3072) (hj : j ≤ 4000) : nI L - 6 < nI j ↔ L < j + 6 := by
  have e1 : (6 : Int32).toInt = 6 := by decide
  have e2 : (nI L - 6).toInt = (L : Int) - 6 := by
    rw [Int32.toInt_sub, nI_toInt (by omega), e1]
    first
    | exact bmod32 (by omega) (by omega)
    | exact Int.bmod_eq_of_le (by omega) (by omega)
    | (rw [Int.bmod_eq_of_le] <;> omega)
  rw [fa_lt, e2, nI_toInt (by omega)]
  omega
def tLh1 : List (Nat × Ent) := [(18, (.iload_n 3, 1, .null, 0, [])), (19, (.aload_n 0, 1, .null, 0, [])), (20, (.arraylength, 1, .null, 0, [])), (21, (.bipush 6, 2, .int (6), 0, [])), (23, (.isub, 1, .null, 0, [])), (24, (.if_icmp .gt 1347, 3, .null, 1371, []))]
theorem tLh1_ok : tblOK cnL cL_law tLh1 = true := by decide +kernel
def tLh2 : List (Nat × Ent) := [(27, (.aload_n 0, 1, .null, 0, [])), (28, (.iload_n 3, 1, .null, 0, [])), (29, (.iaload, 1, .null, 0, [])), (30, (.bipush 63, 2, .int (63), 0, [])), (32, (.iand, 1, .null, 0, [])), (33, (.tableswitch 1332 0 37 #[167, 210, 243, 276, 309, 352, 385, 418, 451, 474, 497, 520, 543, 586, 619, 642, 675, 688, 731, 774, 807, 830, 863, 896, 919, 952, 965, 978, 1021, 1095, 1158, 1181, 1214, 1247, 1260, 1273, 1286, 1309], 167, .null, 1365, [(0, 200), (1, 243), (2, 276), (3, 309), (4, 342), (5, 385), (6, 418), (7, 451), (8, 484), (9, 507), (10, 530), (11, 553), (12, 576), (13, 619), (14, 652), (15, 675), (16, 708), (17, 721), (18, 764), (19, 807), (20, 840), (21, 863), (22, 896), (23, 929), (24, 952), (25, 985), (26, 998), (27, 1011), (28, 1054), (29, 1128), (30, 1191), (31, 1214), (32, 1247), (33, 1280), (34, 1293), (35, 1306), (36, 1319), (37, 1342)]))]
theorem tLh2_ok : tblOK cnL cL_law tLh2 = true := by decide +kernel
def tLh3 : List (Nat × Ent) := [(1365, (.iinc 3 6, 3, .int (6), 0, [])), (1368, (.goto (-1350), 3, .null, 18, []))]
theorem tLh3_ok : tblOK cnL cL_law tLh3 = true := by decide +kernel
theorem lawAll {p : Program} {l : Launch} {e : Env} {s : State} {m : MethodId} {args : Array Value} {below : List Frame} {meth : Method} {c : Code} {cells slots : Nat} {Q : State → Prop} {D : va_G} {tc : Nat → ClassId} {ad : Nat → Nat} {A : Nat → Prop} {L : Nat} {xs : Nat → Int32} {i : Int32} {x : XS} {n : MS} (X : Cx p room_1 s m args c cells slots D tc ad A 4 "LeftTillCalledLaw" cL_law (caL L xs)) (h1 : ¬ (i + 1 < 0 ∨ L ≤ (i + 1).toNatClampNeg)) (h2 : ¬ (i + 2 < 0 ∨ L ≤ (i + 2).toNatClampNeg)) (h3 : ¬ (i + 3 < 0 ∨ L ≤ (i + 3).toNatClampNeg)) (h4 : ¬ (i + 4 < 0 ∨ L ≤ (i + 4).toNatClampNeg)) (h5 : ¬ (i + 5 < 0 ∨ L ≤ (i + 5).toNatClampNeg)) (hI : Inv x n) (kk : ∀ x' n', Inv x' n' → Go p l e room_1 s m args below meth c cells slots Q D tc ad A 4 1365 [some (.ref 1200), some (.ref 0), some (.ref 44), some (.int i)] [] (LW x' n')) : ∀ t ∈ lawT, Go p l e room_1 s m args below meth c cells slots Q D tc ad A 4 t [some (.ref 1200), some (.ref 0), some (.ref 44), some (.int i)] [] (LW x n) := by
  intro t ht
  simp only [lawT, List.mem_cons, List.not_mem_nil, or_false] at ht
  rcases ht with rfl | rfl | rfl | rfl | rfl | rfl | rfl | rfl | rfl | rfl | rfl | rfl | rfl | rfl | rfl | rfl | rfl | rfl | rfl | rfl | rfl | rfl | rfl | rfl | rfl | rfl | rfl | rfl | rfl | rfl | rfl | rfl | rfl | rfl | rfl | rfl | rfl | rfl | rfl
  · exact lawCase0 X h1 h2 h3 h4 h5 hI kk
  · exact lawCase1 X h1 h2 h3 h4 h5 hI kk
  · exact lawCase2 X h1 h2 h3 h4 h5 hI kk
  · exact lawCase3 X h1 h2 h3 h4 h5 hI kk
  · exact lawCase4 X h1 h2 h3 h4 h5 hI kk
  · exact lawCase5 X h1 h2 h3 h4 h5 hI kk
  · exact lawCase6 X h1 h2 h3 h4 h5 hI kk
  · exact lawCase7 X h1 h2 h3 h4 h5 hI kk
  · exact lawCase8 X h1 h2 h3 h4 h5 hI kk
  · exact lawCase9 X h1 h2 h3 h4 h5 hI kk
  · exact lawCase10 X h1 h2 h3 h4 h5 hI kk
  · exact lawCase11 X h1 h2 h3 h4 h5 hI kk
  · exact lawCase12 X h1 h2 h3 h4 h5 hI kk
  · exact lawCase13 X h1 h2 h3 h4 h5 hI kk
  · exact lawCase14 X h1 h2 h3 h4 h5 hI kk
  · exact lawCase15 X h1 h2 h3 h4 h5 hI kk
  · exact lawCase16 X h1 h2 h3 h4 h5 hI kk
  · exact lawCase17 X h1 h2 h3 h4 h5 hI kk
  · exact lawCase18 X h1 h2 h3 h4 h5 hI kk
  · exact lawCase19 X h1 h2 h3 h4 h5 hI kk
  · exact lawCase20 X h1 h2 h3 h4 h5 hI kk
  · exact lawCase21 X h1 h2 h3 h4 h5 hI kk
  · exact lawCase22 X h1 h2 h3 h4 h5 hI kk
  · exact lawCase23 X h1 h2 h3 h4 h5 hI kk
  · exact lawCase24 X h1 h2 h3 h4 h5 hI kk
  · exact lawCase25 X h1 h2 h3 h4 h5 hI kk
  · exact lawCase26 X h1 h2 h3 h4 h5 hI kk
  · exact lawCase27 X h1 h2 h3 h4 h5 hI kk
  · exact lawCase28 X h1 h2 h3 h4 h5 hI kk
  · exact lawCase29 X h1 h2 h3 h4 h5 hI kk
  · exact lawCase30 X h1 h2 h3 h4 h5 hI kk
  · exact lawCase31 X h1 h2 h3 h4 h5 hI kk
  · exact lawCase32 X h1 h2 h3 h4 h5 hI kk
  · exact lawCase33 X h1 h2 h3 h4 h5 hI kk
  · exact lawCase34 X h1 h2 h3 h4 h5 hI kk
  · exact lawCase35 X h1 h2 h3 h4 h5 hI kk
  · exact lawCase36 X h1 h2 h3 h4 h5 hI kk
  · exact lawCase37 X h1 h2 h3 h4 h5 hI kk
  · exact kk x n hI
set_option maxRecDepth 100000 in
theorem lawLoop {p : Program} {l : Launch} {e : Env} {s : State} {m : MethodId} {args : Array Value} {below : List Frame} {meth : Method} {c : Code} {cells slots : Nat} {Q : State → Prop} {D : va_G} {tc : Nat → ClassId} {ad : Nat → Nat} {A : Nat → Prop} {L : Nat} {xs : Nat → Int32} (X : Cx p room_1 s m args c cells slots D tc ad A 4 "LeftTillCalledLaw" cL_law (caL L xs)) (hL : L ≤ 3072) (done : ∀ (i : Int32) (x : XS) (n : MS), Inv x n → Go p l e room_1 s m args below meth c cells slots Q D tc ad A 4 1371 [some (.ref 1200), some (.ref 0), some (.ref 44), some (.int i)] [] (LW x n)) : ∀ (g j : Nat) (x : XS) (n : MS), L < j + 6 * g + 6 → j ≤ 4000 → Inv x n → Go p l e room_1 s m args below meth c cells slots Q D tc ad A 4 18 [some (.ref 1200), some (.ref 0), some (.ref 44), some (.int (nI j))] [] (LW x n) := by
  intro g
  induction g with
  | zero =>
    intro j x n hg hj hI
    refine go_seg (T := tLh1) (hd := [(1371, []), (27, [])]) (fl := []) (cn := cnL) (ks := 0) (E := []) (g := 8) (rt := none) (res := (1371, [some (.ref 1200), some (.ref 0), some (.ref 44), some (.int (nI j))], [], LW x n)) (fun ix ci fk kd h => by cases h) cnL_ok (fun h => absurd rfl h) (look_all look_nil) X tLh1_ok (by show br (nI L - 6 < nI j) _ _ = _; rw [br_eq, if_pos ((law_hd hL hj).mpr (by omega))]; rfl) ?_
    exact done _ x n hI
  | succ g ih =>
    intro j x n hg hj hI
    by_cases c9 : L < j + 6
    · refine (?_ : Go p l e room_1 s m args below meth c cells slots Q D tc ad A 4 18 [some (.ref 1200), some (.ref 0), some (.ref 44), some (.int (nI j))] [] (LW x n))
      refine go_seg (T := tLh1) (hd := [(1371, []), (27, [])]) (fl := []) (cn := cnL) (ks := 0) (E := []) (g := 8) (rt := none) (res := (1371, [some (.ref 1200), some (.ref 0), some (.ref 44), some (.int (nI j))], [], LW x n)) (fun ix ci fk kd h => by cases h) cnL_ok (fun h => absurd rfl h) (look_all look_nil) X tLh1_ok (by show br (nI L - 6 < nI j) _ _ = _; rw [br_eq, if_pos ((law_hd hL hj).mpr c9)]; rfl) ?_
      exact done _ x n hI
    · have hjL : j + 6 ≤ L := by omega
      have hmem : swTo (xs (nI j).toNatClampNeg &&& 63) 1365 lawS ∈ lawT := by
        rcases sw_mem (xs (nI j).toNatClampNeg &&& 63) 1365 lawS with h | h
        · rw [h]; decide
        · exact List.mem_append_left [1365] h
      have hnext : ∀ (x' : XS) (n' : MS), Inv x' n' → Go p l e room_1 s m args below meth c cells slots Q D tc ad A 4 1365 [some (.ref 1200), some (.ref 0), some (.ref 44), some (.int (nI j))] [] (LW x' n') := fun x' n' hI' => by
        refine go_seg (T := tLh3) (hd := [(18, [])]) (fl := []) (cn := cnL) (ks := 0) (E := []) (g := 4) (rt := none) (res := (18, [some (.ref 1200), some (.ref 0), some (.ref 44), some (.int (nI j + 6))], [], LW x' n')) (fun ix ci fk kd h => by cases h) cnL_ok (fun h => absurd rfl h) (look_all look_nil) X tLh3_ok (rfl) ?_
        show Go p l e room_1 s m args below meth c cells slots Q D tc ad A 4 18 [some (.ref 1200), some (.ref 0), some (.ref 44), some (.int (nI j + 6))] [] (LW x' n')
        rw [show nI j + 6 = nI (j + 6) from nI_plus j 6]
        exact ih (j + 6) x' n' (by omega) (by omega) hI'
      refine go_seg (T := tLh1) (hd := [(1371, []), (27, [])]) (fl := []) (cn := cnL) (ks := 0) (E := []) (g := 8) (rt := none) (res := (27, [some (.ref 1200), some (.ref 0), some (.ref 44), some (.int (nI j))], [], LW x n)) (fun ix ci fk kd h => by cases h) cnL_ok (fun h => absurd rfl h) (look_all look_nil) X tLh1_ok (by show br (nI L - 6 < nI j) _ _ = _; rw [br_eq, if_neg (fun z => c9 ((law_hd hL hj).mp z))]; rfl) ?_
      refine go_seg (T := tLh2) (hd := lawT.map (fun t => (t, ([] : List Bool)))) (fl := []) (cn := cnL) (ks := 0) (E := []) (g := 8) (rt := none) (res := (swTo (xs (nI j).toNatClampNeg &&& 63) 1365 lawS, [some (.ref 1200), some (.ref 0), some (.ref 44), some (.int (nI j))], [], LW x n)) (fun ix ci fk kd h => by cases h) cnL_ok (fun h => absurd rfl h) (look_all look_nil) X tLh2_ok (by
        show br (nI j < 0 ∨ L ≤ (nI j).toNatClampNeg) none (aSwG (fun t => match List.lookup t (lawT.map (fun t => (t, ([] : List Bool)))) with | some msk => some (t, maskL msk [some (.ref 1200), some (.ref 0), some (.ref 44), some (.int (nI j))], [], LW x n) | none => runG tLh2 (lawT.map (fun t => (t, ([] : List Bool)))) [] 0 (caL L xs) [] none (fun _ _ => none) (fun pc lo st ws => some (pc, lo, st, ws)) 2 t [some (.ref 1200), some (.ref 0), some (.ref 44), some (.int (nI j))] [] (LW x n)) (xs (nI j).toNatClampNeg &&& 63) 1365 lawS) = _
        rw [br_eq, if_neg (nI_in (by omega) (by omega)), sw_eq]
        show (match List.lookup (swTo (xs (nI j).toNatClampNeg &&& 63) 1365 lawS) (lawT.map (fun t => (t, ([] : List Bool)))) with
          | some msk => _
          | none => _) = _
        rw [look_in lawT _ hmem]
        rfl) ?_
      exact lawAll X (law_ix hjL hL (k := 1) (by omega)) (law_ix hjL hL (k := 2) (by omega)) (law_ix hjL hL (k := 3) (by omega)) (law_ix hjL hL (k := 4) (by omega)) (law_ix hjL hL (k := 5) (by omega)) hI hnext _ hmem
