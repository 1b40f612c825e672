-- X5_in
def tPX5_in : List (Nat × Ent) := [(0, (.lload_n 0, 1, .null, 0, [])), (1, (.lload_n 2, 1, .null, 0, [])), (2, (.lcmp, 1, .null, 0, [])), (3, (.ifCond .lt 14, 3, .null, 17, [])), (6, (.lload_n 0, 1, .null, 0, [])), (7, (.lload 4, 2, .null, 0, [])), (9, (.lcmp, 1, .null, 0, [])), (10, (.ifCond .gt 7, 3, .null, 17, [])), (13, (.iconst 1, 1, .int (1), 0, [])), (14, (.goto 4, 3, .null, 18, [])), (17, (.iconst 0, 1, .int (0), 0, [])), (18, (.ireturn, 1, .null, 0, []))]
def tX5_in : List (Nat × Ent) := tPX5_in
theorem okX5_in : tblOK cnX5 cX5_in tX5_in = true := by decide +kernel
def hX5_in : List (Nat × List Bool) := []
noncomputable def eX5_in : Cal := []
noncomputable def fPX5_in (a0 : Int64) (a1 : Int64) (a2 : Int64) : Option (Int32) := run (tPX5_in) hX5_in flX5 0 caG eX5_in (some .boolean) kIN (FU + 1) 0 (loIn 6 [.long (a0), .long (a1), .long (a2)]) [] []
noncomputable def fX5_in (a0 : Int64) (a1 : Int64) (a2 : Int64) : Option (Int32) := fPX5_in a0 a1 a2
set_option maxRecDepth 100000 in
theorem fPX5_in_eq (a0 : Int64) (a1 : Int64) (a2 : Int64) : fPX5_in a0 a1 a2 = (br ((lg_cmp a0 a1) < 0) (br ((0 : Int32) = 0 ∨ (0 : Int32) = 1) (some 0) none) (br ((0 : Int32) < (lg_cmp a0 a2)) (br ((0 : Int32) = 0 ∨ (0 : Int32) = 1) (some 0) none) (br ((1 : Int32) = 0 ∨ (1 : Int32) = 1) (some 1) none))) := rfl
theorem fX5_in_eq (a0 : Int64) (a1 : Int64) (a2 : Int64) : fX5_in a0 a1 a2 = (if (lg_cmp a0 a1) < 0 then (some 0) else (if (0 : Int32) < (lg_cmp a0 a2) then (some 0) else (some 1))) := (fPX5_in_eq a0 a1 a2).trans (by simp only [br_eq, if_true, if_false, tn0, tn1, tn2, tn3, tn4, tn5, tn6, tn8, bl0, bl1] <;> rfl)
abbrev rX5_in : Room := { frames := 0, cells := 0, slots := 0, locals := 0 }
set_option maxRecDepth 20000 in
theorem eX5_in_ok : ∀ ix kd n F, eX5_in.lookup ix = some (kd, n, F) → CallOK rX5_in yX5_in.cls cX5_in ix kd n F := look_all look_nil
noncomputable def gX5_in : Callee := mkG (α := Int64 × Int64 × Int64) (σ := Unit) (τ := Int32) unN uaJJJ (fun q => some (.int q)) (fun _ _ => []) (fun (a : Int64 × Int64 × Int64) (u : Unit) => fX5_in a.1 a.2.1 a.2.2)
theorem coreX5_in : CoreOK yX5_in rX5_in cX5_in 6 (some .boolean) 1 5 gX5_in :=
  core_of (kd := 1) (α := Int64 × Int64 × Int64) (σ := Unit) (τ := Int32) unN picN unN_ok uaJJJ arJJJ uaJJJ_ok (fun q => some (.int q)) (fun _ _ => []) (fun (a : Int64 × Int64 × Int64) (u : Unit) => fX5_in a.1 a.2.1 a.2.2)
    (fun a u q h => doc_of_run (by decide) ⟨rfl, rfl⟩ flX5_ok cnX5_ok (fun h => absurd rfl h) eX5_in_ok okX5_in (Nat.le_of_ble_eq_true rfl) (fun v ws' e => kIN_ok e) rfl h) (fun e => by cases e)
-- X5_finds
def tPX5_finds (c1 : Int32) : List (Nat × Ent) := [(0, (.aload_n 0, 1, .null, 0, [])), (1, (.getfield 22, 3, .null, 0, [])), (4, (.ldc 45, 2, .int c1, 0, [])), (6, (.iload_n 1, 1, .null, 0, [])), (7, (.isub, 1, .null, 0, [])), (8, (.dup2, 1, .null, 0, [])), (9, (.iaload, 1, .null, 0, [])), (10, (.iconst 1, 1, .int (1), 0, [])), (11, (.iadd, 1, .null, 0, [])), (12, (.iastore, 1, .null, 0, [])), (13, (.iload_n 1, 1, .null, 0, [])), (14, (.ireturn, 1, .null, 0, []))]
def tX5_finds : List (Nat × Ent) := tPX5_finds (-1000000001)
theorem okX5_finds : tblOK cnX5 cX5_finds tX5_finds = true := by decide +kernel
def hX5_finds : List (Nat × List Bool) := []
noncomputable def eX5_finds : Cal := []
noncomputable def fPX5_finds (c1 : Int32) (a0 : Int32) (u : MS) : Option (Int32 × MS) := run (tPX5_finds c1) hX5_finds flX5 0 caG eX5_finds (some .int) kIM (FU + 1) 0 (loIn 2 [.ref 0, .int (a0)]) [] (picM u)
noncomputable def fX5_finds (a0 : Int32) (u : MS) : Option (Int32 × MS) := fPX5_finds (-1000000001) a0 u
set_option maxRecDepth 100000 in
theorem fPX5_finds_eq (c1 : Int32) (a0 : Int32) (u : MS) : fPX5_finds c1 a0 u = (br ((c1 - a0) < 0 ∨ 7 ≤ ((c1 - a0)).toNatClampNeg) none (br ((c1 - a0) < 0 ∨ 7 ≤ ((c1 - a0)).toNatClampNeg) none (some (a0, (mSts' u (upd (mSts u) ((c1 - a0)).toNatClampNeg (((mSts u) ((c1 - a0)).toNatClampNeg) + 1))))))) := rfl
theorem fX5_finds_eq (a0 : Int32) (u : MS) : fX5_finds a0 u = (if ((-1000000001 : Int32) - a0) < 0 ∨ 7 ≤ (((-1000000001 : Int32) - a0)).toNatClampNeg then none else (if ((-1000000001 : Int32) - a0) < 0 ∨ 7 ≤ (((-1000000001 : Int32) - a0)).toNatClampNeg then none else (some (a0, (mSts' u (upd (mSts u) (((-1000000001 : Int32) - a0)).toNatClampNeg (((mSts u) (((-1000000001 : Int32) - a0)).toNatClampNeg) + 1))))))) := (fPX5_finds_eq (-1000000001) a0 u).trans (by simp only [br_eq, if_true, if_false, tn0, tn1, tn2, tn3, tn4, tn5, tn6, tn8] <;> rfl)
abbrev rX5_finds : Room := { frames := 0, cells := 0, slots := 0, locals := 0 }
set_option maxRecDepth 20000 in
theorem eX5_finds_ok : ∀ ix kd n F, eX5_finds.lookup ix = some (kd, n, F) → CallOK rX5_finds yX5_finds.cls cX5_finds ix kd n F := look_all look_nil
noncomputable def gX5_finds : Callee := mkG (α := Int32) (σ := MS) (τ := Int32 × MS) unM uaR0I (fun q => some (.int q.1)) (fun _ q => picM q.2) (fun (a : Int32) (u : MS) => fX5_finds a u)
theorem coreX5_finds : CoreOK yX5_finds rX5_finds cX5_finds 2 (some .int) 0 5 gX5_finds :=
  core_of (kd := 0) (α := Int32) (σ := MS) (τ := Int32 × MS) unM picM unM_ok uaR0I arR0I uaR0I_ok (fun q => some (.int q.1)) (fun _ q => picM q.2) (fun (a : Int32) (u : MS) => fX5_finds a u)
    (fun a u q h => doc_of_run (by decide) ⟨rfl, rfl⟩ flX5_ok cnX5_ok (fun h => absurd rfl h) eX5_finds_ok okX5_finds (Nat.le_of_ble_eq_true rfl) (fun v ws' e => kIM_ok e) rfl h) (fun _ a u => ⟨0, _, _, rfl, rfl⟩)
-- X5_saves
def tPX5_saves : List (Nat × Ent) := [(0, (.iconst 0, 1, .int (0), 0, [])), (1, (.istore_n 1, 1, .null, 0, [])), (2, (.iload_n 1, 1, .null, 0, [])), (3, (.bipush 69, 2, .int (69), 0, [])), (5, (.if_icmp .ge 21, 3, .null, 26, [])), (8, (.aload_n 0, 1, .null, 0, [])), (9, (.getfield 16, 3, .null, 0, [])), (12, (.iload_n 1, 1, .null, 0, [])), (13, (.aload_n 0, 1, .null, 0, [])), (14, (.getfield 7, 3, .null, 0, [])), (17, (.iload_n 1, 1, .null, 0, [])), (18, (.iaload, 1, .null, 0, [])), (19, (.iastore, 1, .null, 0, [])), (20, (.iinc 1 1, 3, .int (1), 0, [])), (23, (.goto (-21), 3, .null, 2, [])), (26, (.return_, 1, .null, 0, []))]
def tX5_saves : List (Nat × Ent) := tPX5_saves
theorem okX5_saves : tblOK cnX5 cX5_saves tX5_saves = true := by decide +kernel
def hX5_saves : List (Nat × List Bool) := [(2, [true, true])]
noncomputable def eX5_saves : Cal := []
noncomputable def fPX5_saves (u : MS) : Option (MS) := run (tPX5_saves) hX5_saves flX5 0 caG eX5_saves none kVM (FU + 1) 0 (loIn 2 [.ref 0]) [] (picM u)
noncomputable def lPX5_saves_2 (n : Nat) (x1 : Int32) (u : MS) : Option (MS) := run (tPX5_saves) hX5_saves flX5 0 caG eX5_saves none kVM n 2 [some (.ref 0), some (.int (x1))] [] (picM u)
noncomputable def fX5_saves (u : MS) : Option (MS) := fPX5_saves u
noncomputable def lX5_saves_2 (n : Nat) (x1 : Int32) (u : MS) : Option (MS) := lPX5_saves_2 n x1 u
set_option maxRecDepth 100000 in
theorem lPX5_saves_2_eq (n : Nat) (x1 : Int32) (u : MS) : lPX5_saves_2 (n + 1) x1 u = (br ((69 : Int32) ≤ x1) (some u) (br (x1 < 0 ∨ 69 ≤ (x1).toNatClampNeg) none (br (x1 < 0 ∨ 69 ≤ (x1).toNatClampNeg) none (lPX5_saves_2 n ((x1 + 1)) (mOth' u (upd (mOth u) (x1).toNatClampNeg ((mS u) (x1).toNatClampNeg))))))) := rfl
theorem lX5_saves_2_eq (n : Nat) (x1 : Int32) (u : MS) : lX5_saves_2 (n + 1) x1 u = (if (69 : Int32) ≤ x1 then (some u) else (if x1 < 0 ∨ 69 ≤ (x1).toNatClampNeg then none else (if x1 < 0 ∨ 69 ≤ (x1).toNatClampNeg then none else (lX5_saves_2 n ((x1 + 1)) (mOth' u (upd (mOth u) (x1).toNatClampNeg ((mS u) (x1).toNatClampNeg))))))) := (lPX5_saves_2_eq n x1 u).trans (by simp only [br_eq, if_true, if_false, tn0, tn1, tn2, tn3, tn4, tn5, tn6, tn8] <;> rfl)
set_option maxRecDepth 100000 in
theorem fPX5_saves_eq (u : MS) : fPX5_saves u = (lPX5_saves_2 FU 0 u) := rfl
theorem fX5_saves_eq (u : MS) : fX5_saves u = (lX5_saves_2 FU 0 u) := (fPX5_saves_eq u)
abbrev rX5_saves : Room := { frames := 0, cells := 0, slots := 0, locals := 0 }
set_option maxRecDepth 20000 in
theorem eX5_saves_ok : ∀ ix kd n F, eX5_saves.lookup ix = some (kd, n, F) → CallOK rX5_saves yX5_saves.cls cX5_saves ix kd n F := look_all look_nil
noncomputable def gX5_saves : Callee := mkG (α := Unit) (σ := MS) (τ := MS) unM uaR0 (fun _ => none) (fun _ q => picM q) (fun (a : Unit) (u : MS) => fX5_saves u)
theorem coreX5_saves : CoreOK yX5_saves rX5_saves cX5_saves 2 none 0 5 gX5_saves :=
  core_of (kd := 0) (α := Unit) (σ := MS) (τ := MS) unM picM unM_ok uaR0 arR0 uaR0_ok (fun _ => none) (fun _ q => picM q) (fun (a : Unit) (u : MS) => fX5_saves u)
    (fun a u q h => doc_of_run (by decide) ⟨rfl, rfl⟩ flX5_ok cnX5_ok (fun h => absurd rfl h) eX5_saves_ok okX5_saves (Nat.le_of_ble_eq_true rfl) (fun v ws' e => kVM_ok e) rfl h) (fun _ a u => ⟨0, _, _, rfl, rfl⟩)
-- X5_putsBack
def tPX5_putsBack : List (Nat × Ent) := [(0, (.iconst 0, 1, .int (0), 0, [])), (1, (.istore_n 1, 1, .null, 0, [])), (2, (.iload_n 1, 1, .null, 0, [])), (3, (.bipush 69, 2, .int (69), 0, [])), (5, (.if_icmp .ge 21, 3, .null, 26, [])), (8, (.aload_n 0, 1, .null, 0, [])), (9, (.getfield 7, 3, .null, 0, [])), (12, (.iload_n 1, 1, .null, 0, [])), (13, (.aload_n 0, 1, .null, 0, [])), (14, (.getfield 16, 3, .null, 0, [])), (17, (.iload_n 1, 1, .null, 0, [])), (18, (.iaload, 1, .null, 0, [])), (19, (.iastore, 1, .null, 0, [])), (20, (.iinc 1 1, 3, .int (1), 0, [])), (23, (.goto (-21), 3, .null, 2, [])), (26, (.return_, 1, .null, 0, []))]
def tX5_putsBack : List (Nat × Ent) := tPX5_putsBack
theorem okX5_putsBack : tblOK cnX5 cX5_putsBack tX5_putsBack = true := by decide +kernel
def hX5_putsBack : List (Nat × List Bool) := [(2, [true, true])]
noncomputable def eX5_putsBack : Cal := []
noncomputable def fPX5_putsBack (u : MS) : Option (MS) := run (tPX5_putsBack) hX5_putsBack flX5 0 caG eX5_putsBack none kVM (FU + 1) 0 (loIn 2 [.ref 0]) [] (picM u)
noncomputable def lPX5_putsBack_2 (n : Nat) (x1 : Int32) (u : MS) : Option (MS) := run (tPX5_putsBack) hX5_putsBack flX5 0 caG eX5_putsBack none kVM n 2 [some (.ref 0), some (.int (x1))] [] (picM u)
noncomputable def fX5_putsBack (u : MS) : Option (MS) := fPX5_putsBack u
noncomputable def lX5_putsBack_2 (n : Nat) (x1 : Int32) (u : MS) : Option (MS) := lPX5_putsBack_2 n x1 u
set_option maxRecDepth 100000 in
theorem lPX5_putsBack_2_eq (n : Nat) (x1 : Int32) (u : MS) : lPX5_putsBack_2 (n + 1) x1 u = (br ((69 : Int32) ≤ x1) (some u) (br (x1 < 0 ∨ 69 ≤ (x1).toNatClampNeg) none (br (x1 < 0 ∨ 69 ≤ (x1).toNatClampNeg) none (lPX5_putsBack_2 n ((x1 + 1)) (mS' u (upd (mS u) (x1).toNatClampNeg ((mOth u) (x1).toNatClampNeg))))))) := rfl
theorem lX5_putsBack_2_eq (n : Nat) (x1 : Int32) (u : MS) : lX5_putsBack_2 (n + 1) x1 u = (if (69 : Int32) ≤ x1 then (some u) else (if x1 < 0 ∨ 69 ≤ (x1).toNatClampNeg then none else (if x1 < 0 ∨ 69 ≤ (x1).toNatClampNeg then none else (lX5_putsBack_2 n ((x1 + 1)) (mS' u (upd (mS u) (x1).toNatClampNeg ((mOth u) (x1).toNatClampNeg))))))) := (lPX5_putsBack_2_eq n x1 u).trans (by simp only [br_eq, if_true, if_false, tn0, tn1, tn2, tn3, tn4, tn5, tn6, tn8] <;> rfl)
set_option maxRecDepth 100000 in
theorem fPX5_putsBack_eq (u : MS) : fPX5_putsBack u = (lPX5_putsBack_2 FU 0 u) := rfl
theorem fX5_putsBack_eq (u : MS) : fX5_putsBack u = (lX5_putsBack_2 FU 0 u) := (fPX5_putsBack_eq u)
abbrev rX5_putsBack : Room := { frames := 0, cells := 0, slots := 0, locals := 0 }
set_option maxRecDepth 20000 in
theorem eX5_putsBack_ok : ∀ ix kd n F, eX5_putsBack.lookup ix = some (kd, n, F) → CallOK rX5_putsBack yX5_putsBack.cls cX5_putsBack ix kd n F := look_all look_nil
noncomputable def gX5_putsBack : Callee := mkG (α := Unit) (σ := MS) (τ := MS) unM uaR0 (fun _ => none) (fun _ q => picM q) (fun (a : Unit) (u : MS) => fX5_putsBack u)
theorem coreX5_putsBack : CoreOK yX5_putsBack rX5_putsBack cX5_putsBack 2 none 0 5 gX5_putsBack :=
  core_of (kd := 0) (α := Unit) (σ := MS) (τ := MS) unM picM unM_ok uaR0 arR0 uaR0_ok (fun _ => none) (fun _ q => picM q) (fun (a : Unit) (u : MS) => fX5_putsBack u)
    (fun a u q h => doc_of_run (by decide) ⟨rfl, rfl⟩ flX5_ok cnX5_ok (fun h => absurd rfl h) eX5_putsBack_ok okX5_putsBack (Nat.le_of_ble_eq_true rfl) (fun v ws' e => kVM_ok e) rfl h) (fun _ a u => ⟨0, _, _, rfl, rfl⟩)
-- X5_laysAside
def tPX5_laysAside : List (Nat × Ent) := [(0, (.iconst 0, 1, .int (0), 0, [])), (1, (.istore_n 1, 1, .null, 0, [])), (2, (.iload_n 1, 1, .null, 0, [])), (3, (.bipush 69, 2, .int (69), 0, [])), (5, (.if_icmp .ge 21, 3, .null, 26, [])), (8, (.aload_n 0, 1, .null, 0, [])), (9, (.getfield 19, 3, .null, 0, [])), (12, (.iload_n 1, 1, .null, 0, [])), (13, (.aload_n 0, 1, .null, 0, [])), (14, (.getfield 7, 3, .null, 0, [])), (17, (.iload_n 1, 1, .null, 0, [])), (18, (.iaload, 1, .null, 0, [])), (19, (.iastore, 1, .null, 0, [])), (20, (.iinc 1 1, 3, .int (1), 0, [])), (23, (.goto (-21), 3, .null, 2, [])), (26, (.return_, 1, .null, 0, []))]
def tX5_laysAside : List (Nat × Ent) := tPX5_laysAside
theorem okX5_laysAside : tblOK cnX5 cX5_laysAside tX5_laysAside = true := by decide +kernel
def hX5_laysAside : List (Nat × List Bool) := [(2, [true, true])]
noncomputable def eX5_laysAside : Cal := []
noncomputable def fPX5_laysAside (u : MS) : Option (MS) := run (tPX5_laysAside) hX5_laysAside flX5 0 caG eX5_laysAside none kVM (FU + 1) 0 (loIn 2 [.ref 0]) [] (picM u)
noncomputable def lPX5_laysAside_2 (n : Nat) (x1 : Int32) (u : MS) : Option (MS) := run (tPX5_laysAside) hX5_laysAside flX5 0 caG eX5_laysAside none kVM n 2 [some (.ref 0), some (.int (x1))] [] (picM u)
noncomputable def fX5_laysAside (u : MS) : Option (MS) := fPX5_laysAside u
noncomputable def lX5_laysAside_2 (n : Nat) (x1 : Int32) (u : MS) : Option (MS) := lPX5_laysAside_2 n x1 u
set_option maxRecDepth 100000 in
theorem lPX5_laysAside_2_eq (n : Nat) (x1 : Int32) (u : MS) : lPX5_laysAside_2 (n + 1) x1 u = (br ((69 : Int32) ≤ x1) (some u) (br (x1 < 0 ∨ 69 ≤ (x1).toNatClampNeg) none (br (x1 < 0 ∨ 69 ≤ (x1).toNatClampNeg) none (lPX5_laysAside_2 n ((x1 + 1)) (mAsd' u (upd (mAsd u) (x1).toNatClampNeg ((mS u) (x1).toNatClampNeg))))))) := rfl
theorem lX5_laysAside_2_eq (n : Nat) (x1 : Int32) (u : MS) : lX5_laysAside_2 (n + 1) x1 u = (if (69 : Int32) ≤ x1 then (some u) else (if x1 < 0 ∨ 69 ≤ (x1).toNatClampNeg then none else (if x1 < 0 ∨ 69 ≤ (x1).toNatClampNeg then none else (lX5_laysAside_2 n ((x1 + 1)) (mAsd' u (upd (mAsd u) (x1).toNatClampNeg ((mS u) (x1).toNatClampNeg))))))) := (lPX5_laysAside_2_eq n x1 u).trans (by simp only [br_eq, if_true, if_false, tn0, tn1, tn2, tn3, tn4, tn5, tn6, tn8] <;> rfl)
set_option maxRecDepth 100000 in
theorem fPX5_laysAside_eq (u : MS) : fPX5_laysAside u = (lPX5_laysAside_2 FU 0 u) := rfl
theorem fX5_laysAside_eq (u : MS) : fX5_laysAside u = (lX5_laysAside_2 FU 0 u) := (fPX5_laysAside_eq u)
abbrev rX5_laysAside : Room := { frames := 0, cells := 0, slots := 0, locals := 0 }
set_option maxRecDepth 20000 in
theorem eX5_laysAside_ok : ∀ ix kd n F, eX5_laysAside.lookup ix = some (kd, n, F) → CallOK rX5_laysAside yX5_laysAside.cls cX5_laysAside ix kd n F := look_all look_nil
noncomputable def gX5_laysAside : Callee := mkG (α := Unit) (σ := MS) (τ := MS) unM uaR0 (fun _ => none) (fun _ q => picM q) (fun (a : Unit) (u : MS) => fX5_laysAside u)
theorem coreX5_laysAside : CoreOK yX5_laysAside rX5_laysAside cX5_laysAside 2 none 0 5 gX5_laysAside :=
  core_of (kd := 0) (α := Unit) (σ := MS) (τ := MS) unM picM unM_ok uaR0 arR0 uaR0_ok (fun _ => none) (fun _ q => picM q) (fun (a : Unit) (u : MS) => fX5_laysAside u)
    (fun a u q h => doc_of_run (by decide) ⟨rfl, rfl⟩ flX5_ok cnX5_ok (fun h => absurd rfl h) eX5_laysAside_ok okX5_laysAside (Nat.le_of_ble_eq_true rfl) (fun v ws' e => kVM_ok e) rfl h) (fun _ a u => ⟨0, _, _, rfl, rfl⟩)
-- X5_takesBack
def tPX5_takesBack : List (Nat × Ent) := [(0, (.iconst 0, 1, .int (0), 0, [])), (1, (.istore_n 2, 1, .null, 0, [])), (2, (.iload_n 2, 1, .null, 0, [])), (3, (.bipush 69, 2, .int (69), 0, [])), (5, (.if_icmp .ge 21, 3, .null, 26, [])), (8, (.aload_n 0, 1, .null, 0, [])), (9, (.getfield 7, 3, .null, 0, [])), (12, (.iload_n 2, 1, .null, 0, [])), (13, (.aload_n 0, 1, .null, 0, [])), (14, (.getfield 19, 3, .null, 0, [])), (17, (.iload_n 2, 1, .null, 0, [])), (18, (.iaload, 1, .null, 0, [])), (19, (.iastore, 1, .null, 0, [])), (20, (.iinc 2 1, 3, .int (1), 0, [])), (23, (.goto (-21), 3, .null, 2, [])), (26, (.iload_n 1, 1, .null, 0, [])), (27, (.ireturn, 1, .null, 0, []))]
def tX5_takesBack : List (Nat × Ent) := tPX5_takesBack
theorem okX5_takesBack : tblOK cnX5 cX5_takesBack tX5_takesBack = true := by decide +kernel
def hX5_takesBack : List (Nat × List Bool) := [(2, [true, true, true])]
noncomputable def eX5_takesBack : Cal := []
noncomputable def fPX5_takesBack (a0 : Int32) (u : MS) : Option (Int32 × MS) := run (tPX5_takesBack) hX5_takesBack flX5 0 caG eX5_takesBack (some .int) kIM (FU + 1) 0 (loIn 3 [.ref 0, .int (a0)]) [] (picM u)
noncomputable def lPX5_takesBack_2 (n : Nat) (x1 : Int32) (x2 : Int32) (u : MS) : Option (Int32 × MS) := run (tPX5_takesBack) hX5_takesBack flX5 0 caG eX5_takesBack (some .int) kIM n 2 [some (.ref 0), some (.int (x1)), some (.int (x2))] [] (picM u)
noncomputable def fX5_takesBack (a0 : Int32) (u : MS) : Option (Int32 × MS) := fPX5_takesBack a0 u
noncomputable def lX5_takesBack_2 (n : Nat) (x1 : Int32) (x2 : Int32) (u : MS) : Option (Int32 × MS) := lPX5_takesBack_2 n x1 x2 u
set_option maxRecDepth 100000 in
theorem lPX5_takesBack_2_eq (n : Nat) (x1 : Int32) (x2 : Int32) (u : MS) : lPX5_takesBack_2 (n + 1) x1 x2 u = (br ((69 : Int32) ≤ x2) (some (x1, u)) (br (x2 < 0 ∨ 69 ≤ (x2).toNatClampNeg) none (br (x2 < 0 ∨ 69 ≤ (x2).toNatClampNeg) none (lPX5_takesBack_2 n x1 ((x2 + 1)) (mS' u (upd (mS u) (x2).toNatClampNeg ((mAsd u) (x2).toNatClampNeg))))))) := rfl
theorem lX5_takesBack_2_eq (n : Nat) (x1 : Int32) (x2 : Int32) (u : MS) : lX5_takesBack_2 (n + 1) x1 x2 u = (if (69 : Int32) ≤ x2 then (some (x1, u)) else (if x2 < 0 ∨ 69 ≤ (x2).toNatClampNeg then none else (if x2 < 0 ∨ 69 ≤ (x2).toNatClampNeg then none else (lX5_takesBack_2 n x1 ((x2 + 1)) (mS' u (upd (mS u) (x2).toNatClampNeg ((mAsd u) (x2).toNatClampNeg))))))) := (lPX5_takesBack_2_eq n x1 x2 u).trans (by simp only [br_eq, if_true, if_false, tn0, tn1, tn2, tn3, tn4, tn5, tn6, tn8] <;> rfl)
set_option maxRecDepth 100000 in
theorem fPX5_takesBack_eq (a0 : Int32) (u : MS) : fPX5_takesBack a0 u = (lPX5_takesBack_2 FU a0 0 u) := rfl
theorem fX5_takesBack_eq (a0 : Int32) (u : MS) : fX5_takesBack a0 u = (lX5_takesBack_2 FU a0 0 u) := (fPX5_takesBack_eq a0 u)
abbrev rX5_takesBack : Room := { frames := 0, cells := 0, slots := 0, locals := 0 }
set_option maxRecDepth 20000 in
theorem eX5_takesBack_ok : ∀ ix kd n F, eX5_takesBack.lookup ix = some (kd, n, F) → CallOK rX5_takesBack yX5_takesBack.cls cX5_takesBack ix kd n F := look_all look_nil
noncomputable def gX5_takesBack : Callee := mkG (α := Int32) (σ := MS) (τ := Int32 × MS) unM uaR0I (fun q => some (.int q.1)) (fun _ q => picM q.2) (fun (a : Int32) (u : MS) => fX5_takesBack a u)
theorem coreX5_takesBack : CoreOK yX5_takesBack rX5_takesBack cX5_takesBack 3 (some .int) 0 5 gX5_takesBack :=
  core_of (kd := 0) (α := Int32) (σ := MS) (τ := Int32 × MS) unM picM unM_ok uaR0I arR0I uaR0I_ok (fun q => some (.int q.1)) (fun _ q => picM q.2) (fun (a : Int32) (u : MS) => fX5_takesBack a u)
    (fun a u q h => doc_of_run (by decide) ⟨rfl, rfl⟩ flX5_ok cnX5_ok (fun h => absurd rfl h) eX5_takesBack_ok okX5_takesBack (Nat.le_of_ble_eq_true rfl) (fun v ws' e => kIM_ok e) rfl h) (fun _ a u => ⟨0, _, _, rfl, rfl⟩)
