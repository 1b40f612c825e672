-- X5_in
def tX5_in : List (Nat × Ent) := [(0, (.lload_n 0, 1, .null, 0, [])), (1, (.lload_n 2, 1, .null, 0, [])), (2, (.lcmp, 1, .null, 0, [])), (3, (.ifCond .lt 14, 3, .null, 17, [])), (6, (.lload_n 0, 1, .null, 0, [])), (7, (.lload 4, 2, .null, 0, [])), (9, (.lcmp, 1, .null, 0, [])), (10, (.ifCond .gt 7, 3, .null, 17, [])), (13, (.iconst 1, 1, .int (1), 0, [])), (14, (.goto 4, 3, .null, 18, [])), (17, (.iconst 0, 1, .int (0), 0, [])), (18, (.ireturn, 1, .null, 0, []))]
theorem okX5_in : tblOK cnX5 cX5_in tX5_in = true := by decide +kernel
def hX5_in : List (Nat × List Bool) := []
noncomputable def eX5_in : Cal := []
noncomputable def fX5_in (a0 : Int64) (a1 : Int64) (a2 : Int64) : Option (Int32) := run tX5_in hX5_in flX5 0 caG eX5_in (some .boolean) kIN (FU + 1) 0 (loIn 6 [.long (a0), .long (a1), .long (a2)]) [] []
set_option maxRecDepth 100000 in
theorem fX5_in_eq (a0 : Int64) (a1 : Int64) (a2 : Int64) : fX5_in a0 a1 a2 = (if (lg_cmp a0 a1) < 0 then (some 0) else (if (0 : Int32) < (lg_cmp a0 a2) then (some 0) else (some 1))) := rfl
abbrev rX5_in : Room := { frames := 0, cells := 0, slots := 0, locals := 0 }
set_option maxRecDepth 20000 in
theorem eX5_in_ok : ∀ ix kd n F, eX5_in.lookup ix = some (kd, n, F) → CallOK rX5_in yX5_in.cls cX5_in ix kd n F := look_all look_nil
noncomputable def gX5_in : Callee := mkG (α := Int64 × Int64 × Int64) (σ := Unit) (τ := Int32) unN uaJJJ (fun q => some (.int q)) (fun _ _ => []) (fun (a : Int64 × Int64 × Int64) (u : Unit) => fX5_in a.1 a.2.1 a.2.2)
theorem coreX5_in : CoreOK yX5_in rX5_in cX5_in 6 (some .boolean) 1 5 gX5_in :=
  core_of (kd := 1) (α := Int64 × Int64 × Int64) (σ := Unit) (τ := Int32) unN picN unN_ok uaJJJ arJJJ uaJJJ_ok (fun q => some (.int q)) (fun _ _ => []) (fun (a : Int64 × Int64 × Int64) (u : Unit) => fX5_in a.1 a.2.1 a.2.2)
    (fun a u q h => doc_of_run (by decide) ⟨rfl, rfl⟩ flX5_ok cnX5_ok (fun h => absurd rfl h) eX5_in_ok okX5_in (Nat.le_of_ble_eq_true rfl) (fun v ws' e => kIN_ok e) rfl h) (fun e => by cases e)
-- X5_finds
def tX5_finds : List (Nat × Ent) := [(0, (.aload_n 0, 1, .null, 0, [])), (1, (.getfield 22, 3, .null, 0, [])), (4, (.ldc 45, 2, .int (-1000000001), 0, [])), (6, (.iload_n 1, 1, .null, 0, [])), (7, (.isub, 1, .null, 0, [])), (8, (.dup2, 1, .null, 0, [])), (9, (.iaload, 1, .null, 0, [])), (10, (.iconst 1, 1, .int (1), 0, [])), (11, (.iadd, 1, .null, 0, [])), (12, (.iastore, 1, .null, 0, [])), (13, (.iload_n 1, 1, .null, 0, [])), (14, (.ireturn, 1, .null, 0, []))]
theorem okX5_finds : tblOK cnX5 cX5_finds tX5_finds = true := by decide +kernel
def hX5_finds : List (Nat × List Bool) := []
noncomputable def eX5_finds : Cal := []
noncomputable def fX5_finds (a0 : Int32) (u : MS) : Option (Int32 × MS) := run tX5_finds hX5_finds flX5 0 caG eX5_finds (some .int) kIM (FU + 1) 0 (loIn 2 [.ref 0, .int (a0)]) [] (picM u)
set_option maxRecDepth 100000 in
theorem fX5_finds_eq (a0 : Int32) (u : MS) : fX5_finds a0 u = (if ((-1000000001 : Int32) - a0) < 0 ∨ 7 ≤ (((-1000000001 : Int32) - a0)).toNatClampNeg then none else (if ((-1000000001 : Int32) - a0) < 0 ∨ 7 ≤ (((-1000000001 : Int32) - a0)).toNatClampNeg then none else (some (a0, (mSts' u (upd (mSts u) (((-1000000001 : Int32) - a0)).toNatClampNeg (((mSts u) (((-1000000001 : Int32) - a0)).toNatClampNeg) + 1))))))) := rfl
abbrev rX5_finds : Room := { frames := 0, cells := 0, slots := 0, locals := 0 }
set_option maxRecDepth 20000 in
theorem eX5_finds_ok : ∀ ix kd n F, eX5_finds.lookup ix = some (kd, n, F) → CallOK rX5_finds yX5_finds.cls cX5_finds ix kd n F := look_all look_nil
noncomputable def gX5_finds : Callee := mkG (α := Int32) (σ := MS) (τ := Int32 × MS) unM uaR0I (fun q => some (.int q.1)) (fun _ q => picM q.2) (fun (a : Int32) (u : MS) => fX5_finds a u)
theorem coreX5_finds : CoreOK yX5_finds rX5_finds cX5_finds 2 (some .int) 0 5 gX5_finds :=
  core_of (kd := 0) (α := Int32) (σ := MS) (τ := Int32 × MS) unM picM unM_ok uaR0I arR0I uaR0I_ok (fun q => some (.int q.1)) (fun _ q => picM q.2) (fun (a : Int32) (u : MS) => fX5_finds a u)
    (fun a u q h => doc_of_run (by decide) ⟨rfl, rfl⟩ flX5_ok cnX5_ok (fun h => absurd rfl h) eX5_finds_ok okX5_finds (Nat.le_of_ble_eq_true rfl) (fun v ws' e => kIM_ok e) rfl h) (fun _ a u => ⟨0, _, _, rfl, rfl⟩)
-- X5_saves
def tX5_saves : List (Nat × Ent) := [(0, (.iconst 0, 1, .int (0), 0, [])), (1, (.istore_n 1, 1, .null, 0, [])), (2, (.iload_n 1, 1, .null, 0, [])), (3, (.bipush 69, 2, .int (69), 0, [])), (5, (.if_icmp .ge 21, 3, .null, 26, [])), (8, (.aload_n 0, 1, .null, 0, [])), (9, (.getfield 16, 3, .null, 0, [])), (12, (.iload_n 1, 1, .null, 0, [])), (13, (.aload_n 0, 1, .null, 0, [])), (14, (.getfield 7, 3, .null, 0, [])), (17, (.iload_n 1, 1, .null, 0, [])), (18, (.iaload, 1, .null, 0, [])), (19, (.iastore, 1, .null, 0, [])), (20, (.iinc 1 1, 3, .int (1), 0, [])), (23, (.goto (-21), 3, .null, 2, [])), (26, (.return_, 1, .null, 0, []))]
theorem okX5_saves : tblOK cnX5 cX5_saves tX5_saves = true := by decide +kernel
def hX5_saves : List (Nat × List Bool) := [(2, [true, true])]
noncomputable def eX5_saves : Cal := []
noncomputable def fX5_saves (u : MS) : Option (MS) := run tX5_saves hX5_saves flX5 0 caG eX5_saves none kVM (FU + 1) 0 (loIn 2 [.ref 0]) [] (picM u)
noncomputable def lX5_saves_2 (n : Nat) (x1 : Int32) (u : MS) : Option (MS) := run tX5_saves hX5_saves flX5 0 caG eX5_saves none kVM n 2 [some (.ref 0), some (.int (x1))] [] (picM u)
set_option maxRecDepth 100000 in
theorem lX5_saves_2_eq (n : Nat) (x1 : Int32) (u : MS) : lX5_saves_2 (n + 1) x1 u = (if (69 : Int32) ≤ x1 then (some u) else (if x1 < 0 ∨ 69 ≤ (x1).toNatClampNeg then none else (if x1 < 0 ∨ 69 ≤ (x1).toNatClampNeg then none else (lX5_saves_2 n ((x1 + 1)) (mOth' u (upd (mOth u) (x1).toNatClampNeg ((mS u) (x1).toNatClampNeg))))))) := rfl
set_option maxRecDepth 100000 in
theorem fX5_saves_eq (u : MS) : fX5_saves u = (lX5_saves_2 FU 0 u) := rfl
abbrev rX5_saves : Room := { frames := 0, cells := 0, slots := 0, locals := 0 }
set_option maxRecDepth 20000 in
theorem eX5_saves_ok : ∀ ix kd n F, eX5_saves.lookup ix = some (kd, n, F) → CallOK rX5_saves yX5_saves.cls cX5_saves ix kd n F := look_all look_nil
noncomputable def gX5_saves : Callee := mkG (α := Unit) (σ := MS) (τ := MS) unM uaR0 (fun _ => none) (fun _ q => picM q) (fun (a : Unit) (u : MS) => fX5_saves u)
theorem coreX5_saves : CoreOK yX5_saves rX5_saves cX5_saves 2 none 0 5 gX5_saves :=
  core_of (kd := 0) (α := Unit) (σ := MS) (τ := MS) unM picM unM_ok uaR0 arR0 uaR0_ok (fun _ => none) (fun _ q => picM q) (fun (a : Unit) (u : MS) => fX5_saves u)
    (fun a u q h => doc_of_run (by decide) ⟨rfl, rfl⟩ flX5_ok cnX5_ok (fun h => absurd rfl h) eX5_saves_ok okX5_saves (Nat.le_of_ble_eq_true rfl) (fun v ws' e => kVM_ok e) rfl h) (fun _ a u => ⟨0, _, _, rfl, rfl⟩)
-- X5_putsBack
def tX5_putsBack : List (Nat × Ent) := [(0, (.iconst 0, 1, .int (0), 0, [])), (1, (.istore_n 1, 1, .null, 0, [])), (2, (.iload_n 1, 1, .null, 0, [])), (3, (.bipush 69, 2, .int (69), 0, [])), (5, (.if_icmp .ge 21, 3, .null, 26, [])), (8, (.aload_n 0, 1, .null, 0, [])), (9, (.getfield 7, 3, .null, 0, [])), (12, (.iload_n 1, 1, .null, 0, [])), (13, (.aload_n 0, 1, .null, 0, [])), (14, (.getfield 16, 3, .null, 0, [])), (17, (.iload_n 1, 1, .null, 0, [])), (18, (.iaload, 1, .null, 0, [])), (19, (.iastore, 1, .null, 0, [])), (20, (.iinc 1 1, 3, .int (1), 0, [])), (23, (.goto (-21), 3, .null, 2, [])), (26, (.return_, 1, .null, 0, []))]
theorem okX5_putsBack : tblOK cnX5 cX5_putsBack tX5_putsBack = true := by decide +kernel
def hX5_putsBack : List (Nat × List Bool) := [(2, [true, true])]
noncomputable def eX5_putsBack : Cal := []
noncomputable def fX5_putsBack (u : MS) : Option (MS) := run tX5_putsBack hX5_putsBack flX5 0 caG eX5_putsBack none kVM (FU + 1) 0 (loIn 2 [.ref 0]) [] (picM u)
noncomputable def lX5_putsBack_2 (n : Nat) (x1 : Int32) (u : MS) : Option (MS) := run tX5_putsBack hX5_putsBack flX5 0 caG eX5_putsBack none kVM n 2 [some (.ref 0), some (.int (x1))] [] (picM u)
set_option maxRecDepth 100000 in
theorem lX5_putsBack_2_eq (n : Nat) (x1 : Int32) (u : MS) : lX5_putsBack_2 (n + 1) x1 u = (if (69 : Int32) ≤ x1 then (some u) else (if x1 < 0 ∨ 69 ≤ (x1).toNatClampNeg then none else (if x1 < 0 ∨ 69 ≤ (x1).toNatClampNeg then none else (lX5_putsBack_2 n ((x1 + 1)) (mS' u (upd (mS u) (x1).toNatClampNeg ((mOth u) (x1).toNatClampNeg))))))) := rfl
set_option maxRecDepth 100000 in
theorem fX5_putsBack_eq (u : MS) : fX5_putsBack u = (lX5_putsBack_2 FU 0 u) := rfl
abbrev rX5_putsBack : Room := { frames := 0, cells := 0, slots := 0, locals := 0 }
set_option maxRecDepth 20000 in
theorem eX5_putsBack_ok : ∀ ix kd n F, eX5_putsBack.lookup ix = some (kd, n, F) → CallOK rX5_putsBack yX5_putsBack.cls cX5_putsBack ix kd n F := look_all look_nil
noncomputable def gX5_putsBack : Callee := mkG (α := Unit) (σ := MS) (τ := MS) unM uaR0 (fun _ => none) (fun _ q => picM q) (fun (a : Unit) (u : MS) => fX5_putsBack u)
theorem coreX5_putsBack : CoreOK yX5_putsBack rX5_putsBack cX5_putsBack 2 none 0 5 gX5_putsBack :=
  core_of (kd := 0) (α := Unit) (σ := MS) (τ := MS) unM picM unM_ok uaR0 arR0 uaR0_ok (fun _ => none) (fun _ q => picM q) (fun (a : Unit) (u : MS) => fX5_putsBack u)
    (fun a u q h => doc_of_run (by decide) ⟨rfl, rfl⟩ flX5_ok cnX5_ok (fun h => absurd rfl h) eX5_putsBack_ok okX5_putsBack (Nat.le_of_ble_eq_true rfl) (fun v ws' e => kVM_ok e) rfl h) (fun _ a u => ⟨0, _, _, rfl, rfl⟩)
-- X5_laysAside
def tX5_laysAside : List (Nat × Ent) := [(0, (.iconst 0, 1, .int (0), 0, [])), (1, (.istore_n 1, 1, .null, 0, [])), (2, (.iload_n 1, 1, .null, 0, [])), (3, (.bipush 69, 2, .int (69), 0, [])), (5, (.if_icmp .ge 21, 3, .null, 26, [])), (8, (.aload_n 0, 1, .null, 0, [])), (9, (.getfield 19, 3, .null, 0, [])), (12, (.iload_n 1, 1, .null, 0, [])), (13, (.aload_n 0, 1, .null, 0, [])), (14, (.getfield 7, 3, .null, 0, [])), (17, (.iload_n 1, 1, .null, 0, [])), (18, (.iaload, 1, .null, 0, [])), (19, (.iastore, 1, .null, 0, [])), (20, (.iinc 1 1, 3, .int (1), 0, [])), (23, (.goto (-21), 3, .null, 2, [])), (26, (.return_, 1, .null, 0, []))]
theorem okX5_laysAside : tblOK cnX5 cX5_laysAside tX5_laysAside = true := by decide +kernel
def hX5_laysAside : List (Nat × List Bool) := [(2, [true, true])]
noncomputable def eX5_laysAside : Cal := []
noncomputable def fX5_laysAside (u : MS) : Option (MS) := run tX5_laysAside hX5_laysAside flX5 0 caG eX5_laysAside none kVM (FU + 1) 0 (loIn 2 [.ref 0]) [] (picM u)
noncomputable def lX5_laysAside_2 (n : Nat) (x1 : Int32) (u : MS) : Option (MS) := run tX5_laysAside hX5_laysAside flX5 0 caG eX5_laysAside none kVM n 2 [some (.ref 0), some (.int (x1))] [] (picM u)
set_option maxRecDepth 100000 in
theorem lX5_laysAside_2_eq (n : Nat) (x1 : Int32) (u : MS) : lX5_laysAside_2 (n + 1) x1 u = (if (69 : Int32) ≤ x1 then (some u) else (if x1 < 0 ∨ 69 ≤ (x1).toNatClampNeg then none else (if x1 < 0 ∨ 69 ≤ (x1).toNatClampNeg then none else (lX5_laysAside_2 n ((x1 + 1)) (mAsd' u (upd (mAsd u) (x1).toNatClampNeg ((mS u) (x1).toNatClampNeg))))))) := rfl
set_option maxRecDepth 100000 in
theorem fX5_laysAside_eq (u : MS) : fX5_laysAside u = (lX5_laysAside_2 FU 0 u) := rfl
abbrev rX5_laysAside : Room := { frames := 0, cells := 0, slots := 0, locals := 0 }
set_option maxRecDepth 20000 in
theorem eX5_laysAside_ok : ∀ ix kd n F, eX5_laysAside.lookup ix = some (kd, n, F) → CallOK rX5_laysAside yX5_laysAside.cls cX5_laysAside ix kd n F := look_all look_nil
noncomputable def gX5_laysAside : Callee := mkG (α := Unit) (σ := MS) (τ := MS) unM uaR0 (fun _ => none) (fun _ q => picM q) (fun (a : Unit) (u : MS) => fX5_laysAside u)
theorem coreX5_laysAside : CoreOK yX5_laysAside rX5_laysAside cX5_laysAside 2 none 0 5 gX5_laysAside :=
  core_of (kd := 0) (α := Unit) (σ := MS) (τ := MS) unM picM unM_ok uaR0 arR0 uaR0_ok (fun _ => none) (fun _ q => picM q) (fun (a : Unit) (u : MS) => fX5_laysAside u)
    (fun a u q h => doc_of_run (by decide) ⟨rfl, rfl⟩ flX5_ok cnX5_ok (fun h => absurd rfl h) eX5_laysAside_ok okX5_laysAside (Nat.le_of_ble_eq_true rfl) (fun v ws' e => kVM_ok e) rfl h) (fun _ a u => ⟨0, _, _, rfl, rfl⟩)
-- X5_takesBack
def tX5_takesBack : List (Nat × Ent) := [(0, (.iconst 0, 1, .int (0), 0, [])), (1, (.istore_n 2, 1, .null, 0, [])), (2, (.iload_n 2, 1, .null, 0, [])), (3, (.bipush 69, 2, .int (69), 0, [])), (5, (.if_icmp .ge 21, 3, .null, 26, [])), (8, (.aload_n 0, 1, .null, 0, [])), (9, (.getfield 7, 3, .null, 0, [])), (12, (.iload_n 2, 1, .null, 0, [])), (13, (.aload_n 0, 1, .null, 0, [])), (14, (.getfield 19, 3, .null, 0, [])), (17, (.iload_n 2, 1, .null, 0, [])), (18, (.iaload, 1, .null, 0, [])), (19, (.iastore, 1, .null, 0, [])), (20, (.iinc 2 1, 3, .int (1), 0, [])), (23, (.goto (-21), 3, .null, 2, [])), (26, (.iload_n 1, 1, .null, 0, [])), (27, (.ireturn, 1, .null, 0, []))]
theorem okX5_takesBack : tblOK cnX5 cX5_takesBack tX5_takesBack = true := by decide +kernel
def hX5_takesBack : List (Nat × List Bool) := [(2, [true, true, true])]
noncomputable def eX5_takesBack : Cal := []
noncomputable def fX5_takesBack (a0 : Int32) (u : MS) : Option (Int32 × MS) := run tX5_takesBack hX5_takesBack flX5 0 caG eX5_takesBack (some .int) kIM (FU + 1) 0 (loIn 3 [.ref 0, .int (a0)]) [] (picM u)
noncomputable def lX5_takesBack_2 (n : Nat) (x1 : Int32) (x2 : Int32) (u : MS) : Option (Int32 × MS) := run tX5_takesBack hX5_takesBack flX5 0 caG eX5_takesBack (some .int) kIM n 2 [some (.ref 0), some (.int (x1)), some (.int (x2))] [] (picM u)
set_option maxRecDepth 100000 in
theorem lX5_takesBack_2_eq (n : Nat) (x1 : Int32) (x2 : Int32) (u : MS) : lX5_takesBack_2 (n + 1) x1 x2 u = (if (69 : Int32) ≤ x2 then (some (x1, u)) else (if x2 < 0 ∨ 69 ≤ (x2).toNatClampNeg then none else (if x2 < 0 ∨ 69 ≤ (x2).toNatClampNeg then none else (lX5_takesBack_2 n x1 ((x2 + 1)) (mS' u (upd (mS u) (x2).toNatClampNeg ((mAsd u) (x2).toNatClampNeg))))))) := rfl
set_option maxRecDepth 100000 in
theorem fX5_takesBack_eq (a0 : Int32) (u : MS) : fX5_takesBack a0 u = (lX5_takesBack_2 FU a0 0 u) := rfl
abbrev rX5_takesBack : Room := { frames := 0, cells := 0, slots := 0, locals := 0 }
set_option maxRecDepth 20000 in
theorem eX5_takesBack_ok : ∀ ix kd n F, eX5_takesBack.lookup ix = some (kd, n, F) → CallOK rX5_takesBack yX5_takesBack.cls cX5_takesBack ix kd n F := look_all look_nil
noncomputable def gX5_takesBack : Callee := mkG (α := Int32) (σ := MS) (τ := Int32 × MS) unM uaR0I (fun q => some (.int q.1)) (fun _ q => picM q.2) (fun (a : Int32) (u : MS) => fX5_takesBack a u)
theorem coreX5_takesBack : CoreOK yX5_takesBack rX5_takesBack cX5_takesBack 3 (some .int) 0 5 gX5_takesBack :=
  core_of (kd := 0) (α := Int32) (σ := MS) (τ := Int32 × MS) unM picM unM_ok uaR0I arR0I uaR0I_ok (fun q => some (.int q.1)) (fun _ q => picM q.2) (fun (a : Int32) (u : MS) => fX5_takesBack a u)
    (fun a u q h => doc_of_run (by decide) ⟨rfl, rfl⟩ flX5_ok cnX5_ok (fun h => absurd rfl h) eX5_takesBack_ok okX5_takesBack (Nat.le_of_ble_eq_true rfl) (fun v ws' e => kIM_ok e) rfl h) (fun _ a u => ⟨0, _, _, rfl, rfl⟩)
-- X5_becomes
def tX5_becomes : List (Nat × Ent) := [(0, (.aload_n 0, 1, .null, 0, [])), (1, (.getfield 7, 3, .null, 0, [])), (4, (.iload_n 1, 1, .null, 0, [])), (5, (.iaload, 1, .null, 0, [])), (6, (.istore_n 3, 1, .null, 0, [])), (7, (.aload_n 0, 1, .null, 0, [])), (8, (.getfield 7, 3, .null, 0, [])), (11, (.iload_n 1, 1, .null, 0, [])), (12, (.iload_n 2, 1, .null, 0, [])), (13, (.iastore, 1, .null, 0, [])), (14, (.iload_n 3, 1, .null, 0, [])), (15, (.ireturn, 1, .null, 0, []))]
theorem okX5_becomes : tblOK cnX5 cX5_becomes tX5_becomes = true := by decide +kernel
def hX5_becomes : List (Nat × List Bool) := []
noncomputable def eX5_becomes : Cal := []
noncomputable def fX5_becomes (a0 : Int32) (a1 : Int32) (u : MS) : Option (Int32 × MS) := run tX5_becomes hX5_becomes flX5 0 caG eX5_becomes (some .int) kIM (FU + 1) 0 (loIn 4 [.ref 0, .int (a0), .int (a1)]) [] (picM u)
set_option maxRecDepth 100000 in
theorem fX5_becomes_eq (a0 : Int32) (a1 : Int32) (u : MS) : fX5_becomes a0 a1 u = (if a0 < 0 ∨ 69 ≤ (a0).toNatClampNeg then none else (if a0 < 0 ∨ 69 ≤ (a0).toNatClampNeg then none else (some (((mS u) (a0).toNatClampNeg), (mS' u (upd (mS u) (a0).toNatClampNeg a1)))))) := rfl
abbrev rX5_becomes : Room := { frames := 0, cells := 0, slots := 0, locals := 0 }
set_option maxRecDepth 20000 in
theorem eX5_becomes_ok : ∀ ix kd n F, eX5_becomes.lookup ix = some (kd, n, F) → CallOK rX5_becomes yX5_becomes.cls cX5_becomes ix kd n F := look_all look_nil
noncomputable def gX5_becomes : Callee := mkG (α := Int32 × Int32) (σ := MS) (τ := Int32 × MS) unM uaR0II (fun q => some (.int q.1)) (fun _ q => picM q.2) (fun (a : Int32 × Int32) (u : MS) => fX5_becomes a.1 a.2 u)
theorem coreX5_becomes : CoreOK yX5_becomes rX5_becomes cX5_becomes 4 (some .int) 0 5 gX5_becomes :=
  core_of (kd := 0) (α := Int32 × Int32) (σ := MS) (τ := Int32 × MS) unM picM unM_ok uaR0II arR0II uaR0II_ok (fun q => some (.int q.1)) (fun _ q => picM q.2) (fun (a : Int32 × Int32) (u : MS) => fX5_becomes a.1 a.2 u)
    (fun a u q h => doc_of_run (by decide) ⟨rfl, rfl⟩ flX5_ok cnX5_ok (fun h => absurd rfl h) eX5_becomes_ok okX5_becomes (Nat.le_of_ble_eq_true rfl) (fun v ws' e => kIM_ok e) rfl h) (fun _ a u => ⟨0, _, _, rfl, rfl⟩)
-- X5_isPerson
def tX5_isPerson : List (Nat × Ent) := [(0, (.iload_n 0, 1, .null, 0, [])), (1, (.i2l, 1, .null, 0, [])), (2, (.lconst 0, 1, .long (0), 0, [])), (3, (.ldc2_w 46, 3, .long (5), 0, [])), (6, (.invokestatic 48, 3, .null, 0, [])), (9, (.ireturn, 1, .null, 0, []))]
theorem okX5_isPerson : tblOK cnX5 cX5_isPerson tX5_isPerson = true := by decide +kernel
def hX5_isPerson : List (Nat × List Bool) := []
noncomputable def eX5_isPerson : Cal := [(48, 1, 3, (liftF fp0 gX5_in))]
noncomputable def fX5_isPerson (a0 : Int32) : Option (Int32) := run tX5_isPerson hX5_isPerson flX5 0 caG eX5_isPerson (some .boolean) kIN (FU + 1) 0 (loIn 1 [.int (a0)]) [] []
set_option maxRecDepth 100000 in
theorem fX5_isPerson_eq (a0 : Int32) : fX5_isPerson a0 = ((fX5_in (Int32.toInt64 a0) (0 : Int64) (5 : Int64)).bind fun q0 => (if q0 = 0 ∨ q0 = 1 then (some q0) else none)) := rfl
abbrev rX5_isPerson : Room := { frames := 1, cells := 0, slots := 0, locals := 25 }
set_option maxRecDepth 20000 in
theorem eX5_isPerson_ok : ∀ ix kd n F, eX5_isPerson.lookup ix = some (kd, n, F) → CallOK rX5_isPerson yX5_isPerson.cls cX5_isPerson ix kd n F := look_all (look_cons (callOK_lift (ci := 5) ⟨⟨rfl, rfl, by decide, by decide⟩, u_245, u_246, u_247, ⟨by decide, by decide⟩, Or.inr ⟨rfl, u_248, by decide +kernel⟩⟩ coreX5_in) look_nil)
noncomputable def gX5_isPerson : Callee := mkG (α := Int32) (σ := Unit) (τ := Int32) unN uaI (fun q => some (.int q)) (fun _ _ => []) (fun (a : Int32) (u : Unit) => fX5_isPerson a)
theorem coreX5_isPerson : CoreOK yX5_isPerson rX5_isPerson cX5_isPerson 1 (some .boolean) 1 5 gX5_isPerson :=
  core_of (kd := 1) (α := Int32) (σ := Unit) (τ := Int32) unN picN unN_ok uaI arI uaI_ok (fun q => some (.int q)) (fun _ _ => []) (fun (a : Int32) (u : Unit) => fX5_isPerson a)
    (fun a u q h => doc_of_run (by decide) ⟨rfl, rfl⟩ flX5_ok cnX5_ok (fun h => absurd rfl h) eX5_isPerson_ok okX5_isPerson (Nat.le_of_ble_eq_true rfl) (fun v ws' e => kIN_ok e) rfl h) (fun e => by cases e)
-- X5_isThing
def tX5_isThing : List (Nat × Ent) := [(0, (.iload_n 1, 1, .null, 0, [])), (1, (.i2l, 1, .null, 0, [])), (2, (.lconst 0, 1, .long (0), 0, [])), (3, (.aload_n 0, 1, .null, 0, [])), (4, (.getfield 7, 3, .null, 0, [])), (7, (.iconst 0, 1, .int (0), 0, [])), (8, (.iaload, 1, .null, 0, [])), (9, (.iconst 1, 1, .int (1), 0, [])), (10, (.isub, 1, .null, 0, [])), (11, (.i2l, 1, .null, 0, [])), (12, (.invokestatic 48, 3, .null, 0, [])), (15, (.ireturn, 1, .null, 0, []))]
theorem okX5_isThing : tblOK cnX5 cX5_isThing tX5_isThing = true := by decide +kernel
def hX5_isThing : List (Nat × List Bool) := []
noncomputable def eX5_isThing : Cal := [(48, 1, 3, (liftF fp0 gX5_in))]
noncomputable def fX5_isThing (a0 : Int32) (u : MS) : Option (Int32 × MS) := run tX5_isThing hX5_isThing flX5 0 caG eX5_isThing (some .boolean) kIM (FU + 1) 0 (loIn 2 [.ref 0, .int (a0)]) [] (picM u)
set_option maxRecDepth 100000 in
theorem fX5_isThing_eq (a0 : Int32) (u : MS) : fX5_isThing a0 u = ((fX5_in (Int32.toInt64 a0) (0 : Int64) (Int32.toInt64 (((mS u) 0) - 1))).bind fun q0 => (if q0 = 0 ∨ q0 = 1 then (some (q0, u)) else none)) := rfl
abbrev rX5_isThing : Room := { frames := 1, cells := 0, slots := 0, locals := 25 }
set_option maxRecDepth 20000 in
theorem eX5_isThing_ok : ∀ ix kd n F, eX5_isThing.lookup ix = some (kd, n, F) → CallOK rX5_isThing yX5_isThing.cls cX5_isThing ix kd n F := look_all (look_cons (callOK_lift (ci := 5) ⟨⟨rfl, rfl, by decide, by decide⟩, u_245, u_246, u_247, ⟨by decide, by decide⟩, Or.inr ⟨rfl, u_248, by decide +kernel⟩⟩ coreX5_in) look_nil)
noncomputable def gX5_isThing : Callee := mkG (α := Int32) (σ := MS) (τ := Int32 × MS) unM uaR0I (fun q => some (.int q.1)) (fun _ q => picM q.2) (fun (a : Int32) (u : MS) => fX5_isThing a u)
theorem coreX5_isThing : CoreOK yX5_isThing rX5_isThing cX5_isThing 2 (some .boolean) 0 5 gX5_isThing :=
  core_of (kd := 0) (α := Int32) (σ := MS) (τ := Int32 × MS) unM picM unM_ok uaR0I arR0I uaR0I_ok (fun q => some (.int q.1)) (fun _ q => picM q.2) (fun (a : Int32) (u : MS) => fX5_isThing a u)
    (fun a u q h => doc_of_run (by decide) ⟨rfl, rfl⟩ flX5_ok cnX5_ok (fun h => absurd rfl h) eX5_isThing_ok okX5_isThing (Nat.le_of_ble_eq_true rfl) (fun v ws' e => kIM_ok e) rfl h) (fun _ a u => ⟨0, _, _, rfl, rfl⟩)
-- X5_isKind
def tX5_isKind : List (Nat × Ent) := [(0, (.iload_n 0, 1, .null, 0, [])), (1, (.i2l, 1, .null, 0, [])), (2, (.lconst 0, 1, .long (0), 0, [])), (3, (.ldc2_w 46, 3, .long (5), 0, [])), (6, (.invokestatic 48, 3, .null, 0, [])), (9, (.ireturn, 1, .null, 0, []))]
theorem okX5_isKind : tblOK cnX5 cX5_isKind tX5_isKind = true := by decide +kernel
def hX5_isKind : List (Nat × List Bool) := []
noncomputable def eX5_isKind : Cal := [(48, 1, 3, (liftF fp0 gX5_in))]
noncomputable def fX5_isKind (a0 : Int32) : Option (Int32) := run tX5_isKind hX5_isKind flX5 0 caG eX5_isKind (some .boolean) kIN (FU + 1) 0 (loIn 1 [.int (a0)]) [] []
set_option maxRecDepth 100000 in
theorem fX5_isKind_eq (a0 : Int32) : fX5_isKind a0 = ((fX5_in (Int32.toInt64 a0) (0 : Int64) (5 : Int64)).bind fun q0 => (if q0 = 0 ∨ q0 = 1 then (some q0) else none)) := rfl
abbrev rX5_isKind : Room := { frames := 1, cells := 0, slots := 0, locals := 25 }
set_option maxRecDepth 20000 in
theorem eX5_isKind_ok : ∀ ix kd n F, eX5_isKind.lookup ix = some (kd, n, F) → CallOK rX5_isKind yX5_isKind.cls cX5_isKind ix kd n F := look_all (look_cons (callOK_lift (ci := 5) ⟨⟨rfl, rfl, by decide, by decide⟩, u_245, u_246, u_247, ⟨by decide, by decide⟩, Or.inr ⟨rfl, u_248, by decide +kernel⟩⟩ coreX5_in) look_nil)
noncomputable def gX5_isKind : Callee := mkG (α := Int32) (σ := Unit) (τ := Int32) unN uaI (fun q => some (.int q)) (fun _ _ => []) (fun (a : Int32) (u : Unit) => fX5_isKind a)
theorem coreX5_isKind : CoreOK yX5_isKind rX5_isKind cX5_isKind 1 (some .boolean) 1 5 gX5_isKind :=
  core_of (kd := 1) (α := Int32) (σ := Unit) (τ := Int32) unN picN unN_ok uaI arI uaI_ok (fun q => some (.int q)) (fun _ _ => []) (fun (a : Int32) (u : Unit) => fX5_isKind a)
    (fun a u q h => doc_of_run (by decide) ⟨rfl, rfl⟩ flX5_ok cnX5_ok (fun h => absurd rfl h) eX5_isKind_ok okX5_isKind (Nat.le_of_ble_eq_true rfl) (fun v ws' e => kIN_ok e) rfl h) (fun e => by cases e)
-- X5_placeOf
def tX5_placeOf : List (Nat × Ent) := [(0, (.iconst 3, 1, .int (3), 0, [])), (1, (.iconst 3, 1, .int (3), 0, [])), (2, (.iload_n 0, 1, .null, 0, [])), (3, (.imul, 1, .null, 0, [])), (4, (.iadd, 1, .null, 0, [])), (5, (.iload_n 1, 1, .null, 0, [])), (6, (.iadd, 1, .null, 0, [])), (7, (.ireturn, 1, .null, 0, []))]
theorem okX5_placeOf : tblOK cnX5 cX5_placeOf tX5_placeOf = true := by decide +kernel
def hX5_placeOf : List (Nat × List Bool) := []
noncomputable def eX5_placeOf : Cal := []
noncomputable def fX5_placeOf (a0 : Int32) (a1 : Int32) : Option (Int32) := run tX5_placeOf hX5_placeOf flX5 0 caG eX5_placeOf (some .int) kIN (FU + 1) 0 (loIn 2 [.int (a0), .int (a1)]) [] []
set_option maxRecDepth 100000 in
theorem fX5_placeOf_eq (a0 : Int32) (a1 : Int32) : fX5_placeOf a0 a1 = (some ((((3 : Int32) + ((3 : Int32) * a0)) + a1))) := rfl
abbrev rX5_placeOf : Room := { frames := 0, cells := 0, slots := 0, locals := 0 }
set_option maxRecDepth 20000 in
theorem eX5_placeOf_ok : ∀ ix kd n F, eX5_placeOf.lookup ix = some (kd, n, F) → CallOK rX5_placeOf yX5_placeOf.cls cX5_placeOf ix kd n F := look_all look_nil
noncomputable def gX5_placeOf : Callee := mkG (α := Int32 × Int32) (σ := Unit) (τ := Int32) unN uaII (fun q => some (.int q)) (fun _ _ => []) (fun (a : Int32 × Int32) (u : Unit) => fX5_placeOf a.1 a.2)
theorem coreX5_placeOf : CoreOK yX5_placeOf rX5_placeOf cX5_placeOf 2 (some .int) 1 5 gX5_placeOf :=
  core_of (kd := 1) (α := Int32 × Int32) (σ := Unit) (τ := Int32) unN picN unN_ok uaII arII uaII_ok (fun q => some (.int q)) (fun _ _ => []) (fun (a : Int32 × Int32) (u : Unit) => fX5_placeOf a.1 a.2)
    (fun a u q h => doc_of_run (by decide) ⟨rfl, rfl⟩ flX5_ok cnX5_ok (fun h => absurd rfl h) eX5_placeOf_ok okX5_placeOf (Nat.le_of_ble_eq_true rfl) (fun v ws' e => kIN_ok e) rfl h) (fun e => by cases e)
-- X5_spotOf
def tX5_spotOf : List (Nat × Ent) := [(0, (.bipush 21, 2, .int (21), 0, [])), (2, (.bipush 6, 2, .int (6), 0, [])), (4, (.iload_n 0, 1, .null, 0, [])), (5, (.imul, 1, .null, 0, [])), (6, (.iadd, 1, .null, 0, [])), (7, (.iload_n 1, 1, .null, 0, [])), (8, (.iadd, 1, .null, 0, [])), (9, (.ireturn, 1, .null, 0, []))]
theorem okX5_spotOf : tblOK cnX5 cX5_spotOf tX5_spotOf = true := by decide +kernel
def hX5_spotOf : List (Nat × List Bool) := []
noncomputable def eX5_spotOf : Cal := []
noncomputable def fX5_spotOf (a0 : Int32) (a1 : Int32) : Option (Int32) := run tX5_spotOf hX5_spotOf flX5 0 caG eX5_spotOf (some .int) kIN (FU + 1) 0 (loIn 2 [.int (a0), .int (a1)]) [] []
set_option maxRecDepth 100000 in
theorem fX5_spotOf_eq (a0 : Int32) (a1 : Int32) : fX5_spotOf a0 a1 = (some ((((21 : Int32) + ((6 : Int32) * a0)) + a1))) := rfl
abbrev rX5_spotOf : Room := { frames := 0, cells := 0, slots := 0, locals := 0 }
set_option maxRecDepth 20000 in
theorem eX5_spotOf_ok : ∀ ix kd n F, eX5_spotOf.lookup ix = some (kd, n, F) → CallOK rX5_spotOf yX5_spotOf.cls cX5_spotOf ix kd n F := look_all look_nil
noncomputable def gX5_spotOf : Callee := mkG (α := Int32 × Int32) (σ := Unit) (τ := Int32) unN uaII (fun q => some (.int q)) (fun _ _ => []) (fun (a : Int32 × Int32) (u : Unit) => fX5_spotOf a.1 a.2)
theorem coreX5_spotOf : CoreOK yX5_spotOf rX5_spotOf cX5_spotOf 2 (some .int) 1 5 gX5_spotOf :=
  core_of (kd := 1) (α := Int32 × Int32) (σ := Unit) (τ := Int32) unN picN unN_ok uaII arII uaII_ok (fun q => some (.int q)) (fun _ _ => []) (fun (a : Int32 × Int32) (u : Unit) => fX5_spotOf a.1 a.2)
    (fun a u q h => doc_of_run (by decide) ⟨rfl, rfl⟩ flX5_ok cnX5_ok (fun h => absurd rfl h) eX5_spotOf_ok okX5_spotOf (Nat.le_of_ble_eq_true rfl) (fun v ws' e => kIN_ok e) rfl h) (fun e => by cases e)
-- X5_his
def tX5_his : List (Nat × Ent) := [(0, (.aload_n 0, 1, .null, 0, [])), (1, (.getfield 7, 3, .null, 0, [])), (4, (.iload_n 1, 1, .null, 0, [])), (5, (.iload_n 2, 1, .null, 0, [])), (6, (.invokestatic 41, 3, .null, 0, [])), (9, (.iaload, 1, .null, 0, [])), (10, (.ireturn, 1, .null, 0, []))]
theorem okX5_his : tblOK cnX5 cX5_his tX5_his = true := by decide +kernel
def hX5_his : List (Nat × List Bool) := []
noncomputable def eX5_his : Cal := [(41, 1, 2, (liftF fp0 gX5_placeOf))]
noncomputable def fX5_his (a0 : Int32) (a1 : Int32) (u : MS) : Option (Int32 × MS) := run tX5_his hX5_his flX5 0 caG eX5_his (some .int) kIM (FU + 1) 0 (loIn 3 [.ref 0, .int (a0), .int (a1)]) [] (picM u)
set_option maxRecDepth 100000 in
theorem fX5_his_eq (a0 : Int32) (a1 : Int32) (u : MS) : fX5_his a0 a1 u = ((fX5_placeOf a0 a1).bind fun q0 => (if q0 < 0 ∨ 69 ≤ (q0).toNatClampNeg then none else (some (((mS u) (q0).toNatClampNeg), u)))) := rfl
abbrev rX5_his : Room := { frames := 1, cells := 0, slots := 0, locals := 21 }
set_option maxRecDepth 20000 in
theorem eX5_his_ok : ∀ ix kd n F, eX5_his.lookup ix = some (kd, n, F) → CallOK rX5_his yX5_his.cls cX5_his ix kd n F := look_all (look_cons (callOK_lift (ci := 5) ⟨⟨rfl, rfl, by decide, by decide⟩, u_249, u_250, u_247, ⟨by decide, by decide⟩, Or.inr ⟨rfl, u_251, by decide +kernel⟩⟩ coreX5_placeOf) look_nil)
noncomputable def gX5_his : Callee := mkG (α := Int32 × Int32) (σ := MS) (τ := Int32 × MS) unM uaR0II (fun q => some (.int q.1)) (fun _ q => picM q.2) (fun (a : Int32 × Int32) (u : MS) => fX5_his a.1 a.2 u)
theorem coreX5_his : CoreOK yX5_his rX5_his cX5_his 3 (some .int) 0 5 gX5_his :=
  core_of (kd := 0) (α := Int32 × Int32) (σ := MS) (τ := Int32 × MS) unM picM unM_ok uaR0II arR0II uaR0II_ok (fun q => some (.int q.1)) (fun _ q => picM q.2) (fun (a : Int32 × Int32) (u : MS) => fX5_his a.1 a.2 u)
    (fun a u q h => doc_of_run (by decide) ⟨rfl, rfl⟩ flX5_ok cnX5_ok (fun h => absurd rfl h) eX5_his_ok okX5_his (Nat.le_of_ble_eq_true rfl) (fun v ws' e => kIM_ok e) rfl h) (fun _ a u => ⟨0, _, _, rfl, rfl⟩)
-- X5_its
def tX5_its : List (Nat × Ent) := [(0, (.aload_n 0, 1, .null, 0, [])), (1, (.getfield 7, 3, .null, 0, [])), (4, (.iload_n 1, 1, .null, 0, [])), (5, (.iload_n 2, 1, .null, 0, [])), (6, (.invokestatic 52, 3, .null, 0, [])), (9, (.iaload, 1, .null, 0, [])), (10, (.ireturn, 1, .null, 0, []))]
theorem okX5_its : tblOK cnX5 cX5_its tX5_its = true := by decide +kernel
def hX5_its : List (Nat × List Bool) := []
noncomputable def eX5_its : Cal := [(52, 1, 2, (liftF fp0 gX5_spotOf))]
noncomputable def fX5_its (a0 : Int32) (a1 : Int32) (u : MS) : Option (Int32 × MS) := run tX5_its hX5_its flX5 0 caG eX5_its (some .int) kIM (FU + 1) 0 (loIn 3 [.ref 0, .int (a0), .int (a1)]) [] (picM u)
set_option maxRecDepth 100000 in
theorem fX5_its_eq (a0 : Int32) (a1 : Int32) (u : MS) : fX5_its a0 a1 u = ((fX5_spotOf a0 a1).bind fun q0 => (if q0 < 0 ∨ 69 ≤ (q0).toNatClampNeg then none else (some (((mS u) (q0).toNatClampNeg), u)))) := rfl
abbrev rX5_its : Room := { frames := 1, cells := 0, slots := 0, locals := 21 }
set_option maxRecDepth 20000 in
theorem eX5_its_ok : ∀ ix kd n F, eX5_its.lookup ix = some (kd, n, F) → CallOK rX5_its yX5_its.cls cX5_its ix kd n F := look_all (look_cons (callOK_lift (ci := 5) ⟨⟨rfl, rfl, by decide, by decide⟩, u_252, u_253, u_247, ⟨by decide, by decide⟩, Or.inr ⟨rfl, u_254, by decide +kernel⟩⟩ coreX5_spotOf) look_nil)
noncomputable def gX5_its : Callee := mkG (α := Int32 × Int32) (σ := MS) (τ := Int32 × MS) unM uaR0II (fun q => some (.int q.1)) (fun _ q => picM q.2) (fun (a : Int32 × Int32) (u : MS) => fX5_its a.1 a.2 u)
theorem coreX5_its : CoreOK yX5_its rX5_its cX5_its 3 (some .int) 0 5 gX5_its :=
  core_of (kd := 0) (α := Int32 × Int32) (σ := MS) (τ := Int32 × MS) unM picM unM_ok uaR0II arR0II uaR0II_ok (fun q => some (.int q.1)) (fun _ q => picM q.2) (fun (a : Int32 × Int32) (u : MS) => fX5_its a.1 a.2 u)
    (fun a u q h => doc_of_run (by decide) ⟨rfl, rfl⟩ flX5_ok cnX5_ok (fun h => absurd rfl h) eX5_its_ok okX5_its (Nat.le_of_ble_eq_true rfl) (fun v ws' e => kIM_ok e) rfl h) (fun _ a u => ⟨0, _, _, rfl, rfl⟩)
-- X5_heldTo
def tX5_heldTo : List (Nat × Ent) := [(0, (.iload_n 0, 1, .null, 0, [])), (1, (.iload_n 1, 1, .null, 0, [])), (2, (.if_icmp .le 7, 3, .null, 9, [])), (5, (.iload_n 1, 1, .null, 0, [])), (6, (.goto 4, 3, .null, 10, [])), (9, (.iload_n 0, 1, .null, 0, [])), (10, (.ireturn, 1, .null, 0, []))]
theorem okX5_heldTo : tblOK cnX5 cX5_heldTo tX5_heldTo = true := by decide +kernel
def hX5_heldTo : List (Nat × List Bool) := []
noncomputable def eX5_heldTo : Cal := []
noncomputable def fX5_heldTo (a0 : Int32) (a1 : Int32) : Option (Int32) := run tX5_heldTo hX5_heldTo flX5 0 caG eX5_heldTo (some .int) kIN (FU + 1) 0 (loIn 2 [.int (a0), .int (a1)]) [] []
set_option maxRecDepth 100000 in
theorem fX5_heldTo_eq (a0 : Int32) (a1 : Int32) : fX5_heldTo a0 a1 = (if a0 ≤ a1 then (some a0) else (some a1)) := rfl
abbrev rX5_heldTo : Room := { frames := 0, cells := 0, slots := 0, locals := 0 }
set_option maxRecDepth 20000 in
theorem eX5_heldTo_ok : ∀ ix kd n F, eX5_heldTo.lookup ix = some (kd, n, F) → CallOK rX5_heldTo yX5_heldTo.cls cX5_heldTo ix kd n F := look_all look_nil
noncomputable def gX5_heldTo : Callee := mkG (α := Int32 × Int32) (σ := Unit) (τ := Int32) unN uaII (fun q => some (.int q)) (fun _ _ => []) (fun (a : Int32 × Int32) (u : Unit) => fX5_heldTo a.1 a.2)
theorem coreX5_heldTo : CoreOK yX5_heldTo rX5_heldTo cX5_heldTo 2 (some .int) 1 5 gX5_heldTo :=
  core_of (kd := 1) (α := Int32 × Int32) (σ := Unit) (τ := Int32) unN picN unN_ok uaII arII uaII_ok (fun q => some (.int q)) (fun _ _ => []) (fun (a : Int32 × Int32) (u : Unit) => fX5_heldTo a.1 a.2)
    (fun a u q h => doc_of_run (by decide) ⟨rfl, rfl⟩ flX5_ok cnX5_ok (fun h => absurd rfl h) eX5_heldTo_ok okX5_heldTo (Nat.le_of_ble_eq_true rfl) (fun v ws' e => kIN_ok e) rfl h) (fun e => by cases e)
-- X5_ones
def tX5_ones : List (Nat × Ent) := [(0, (.iconst 0, 1, .int (0), 0, [])), (1, (.istore_n 1, 1, .null, 0, [])), (2, (.iload_n 0, 1, .null, 0, [])), (3, (.istore_n 2, 1, .null, 0, [])), (4, (.iload_n 2, 1, .null, 0, [])), (5, (.ifCond .eq 15, 3, .null, 20, [])), (8, (.iinc 1 1, 3, .int (1), 0, [])), (11, (.iload_n 2, 1, .null, 0, [])), (12, (.iload_n 2, 1, .null, 0, [])), (13, (.iconst 1, 1, .int (1), 0, [])), (14, (.isub, 1, .null, 0, [])), (15, (.iand, 1, .null, 0, [])), (16, (.istore_n 2, 1, .null, 0, [])), (17, (.goto (-13), 3, .null, 4, [])), (20, (.iload_n 1, 1, .null, 0, [])), (21, (.ireturn, 1, .null, 0, []))]
theorem okX5_ones : tblOK cnX5 cX5_ones tX5_ones = true := by decide +kernel
def hX5_ones : List (Nat × List Bool) := [(4, [false, true, true])]
noncomputable def eX5_ones : Cal := []
noncomputable def fX5_ones (a0 : Int32) : Option (Int32) := run tX5_ones hX5_ones flX5 0 caG eX5_ones (some .int) kIN (FU + 1) 0 (loIn 3 [.int (a0)]) [] []
noncomputable def lX5_ones_4 (n : Nat) (x1 : Int32) (x2 : Int32) : Option (Int32) := run tX5_ones hX5_ones flX5 0 caG eX5_ones (some .int) kIN n 4 [none, some (.int (x1)), some (.int (x2))] [] []
set_option maxRecDepth 100000 in
theorem lX5_ones_4_eq (n : Nat) (x1 : Int32) (x2 : Int32) : lX5_ones_4 (n + 1) x1 x2 = (if x2 = 0 then (some x1) else (lX5_ones_4 n ((x1 + 1)) ((x2 &&& (x2 - 1))))) := rfl
set_option maxRecDepth 100000 in
theorem fX5_ones_eq (a0 : Int32) : fX5_ones a0 = (lX5_ones_4 FU 0 a0) := rfl
abbrev rX5_ones : Room := { frames := 0, cells := 0, slots := 0, locals := 0 }
set_option maxRecDepth 20000 in
theorem eX5_ones_ok : ∀ ix kd n F, eX5_ones.lookup ix = some (kd, n, F) → CallOK rX5_ones yX5_ones.cls cX5_ones ix kd n F := look_all look_nil
noncomputable def gX5_ones : Callee := mkG (α := Int32) (σ := Unit) (τ := Int32) unN uaI (fun q => some (.int q)) (fun _ _ => []) (fun (a : Int32) (u : Unit) => fX5_ones a)
theorem coreX5_ones : CoreOK yX5_ones rX5_ones cX5_ones 3 (some .int) 1 5 gX5_ones :=
  core_of (kd := 1) (α := Int32) (σ := Unit) (τ := Int32) unN picN unN_ok uaI arI uaI_ok (fun q => some (.int q)) (fun _ _ => []) (fun (a : Int32) (u : Unit) => fX5_ones a)
    (fun a u q h => doc_of_run (by decide) ⟨rfl, rfl⟩ flX5_ok cnX5_ok (fun h => absurd rfl h) eX5_ones_ok okX5_ones (Nat.le_of_ble_eq_true rfl) (fun v ws' e => kIN_ok e) rfl h) (fun e => by cases e)
-- X5_person
def tX5_person : List (Nat × Ent) := [(0, (.iload_n 2, 1, .null, 0, [])), (1, (.i2l, 1, .null, 0, [])), (2, (.lconst 0, 1, .long (0), 0, [])), (3, (.ldc2_w 55, 3, .long (2), 0, [])), (6, (.invokestatic 48, 3, .null, 0, [])), (9, (.ifCond .eq 29, 3, .null, 38, [])), (12, (.iload_n 3, 1, .null, 0, [])), (13, (.i2l, 1, .null, 0, [])), (14, (.lconst 0, 1, .long (0), 0, [])), (15, (.iload_n 2, 1, .null, 0, [])), (16, (.ifCond .ne 9, 3, .null, 25, [])), (19, (.ldc2_w 57, 3, .long (999999), 0, [])), (22, (.goto 6, 3, .null, 28, [])), (25, (.ldc2_w 59, 3, .long (999), 0, [])), (28, (.invokestatic 48, 3, .null, 0, [])), (31, (.ifCond .eq 7, 3, .null, 38, [])), (34, (.iconst 1, 1, .int (1), 0, [])), (35, (.goto 4, 3, .null, 39, [])), (38, (.iconst 0, 1, .int (0), 0, [])), (39, (.istore 4, 2, .null, 0, [])), (41, (.iload_n 1, 1, .null, 0, [])), (42, (.invokestatic 61, 3, .null, 0, [])), (45, (.ifCond .eq 21, 3, .null, 66, [])), (48, (.iload 4, 2, .null, 0, [])), (50, (.ifCond .eq 16, 3, .null, 66, [])), (53, (.aload_n 0, 1, .null, 0, [])), (54, (.iload_n 1, 1, .null, 0, [])), (55, (.iload_n 2, 1, .null, 0, [])), (56, (.invokestatic 41, 3, .null, 0, [])), (59, (.iload_n 3, 1, .null, 0, [])), (60, (.invokevirtual 65, 3, .null, 0, [])), (63, (.goto 9, 3, .null, 72, [])), (66, (.aload_n 0, 1, .null, 0, [])), (67, (.ldc 45, 2, .int (-1000000001), 0, [])), (69, (.invokevirtual 68, 3, .null, 0, [])), (72, (.ireturn, 1, .null, 0, []))]
theorem okX5_person : tblOK cnX5 cX5_person tX5_person = true := by decide +kernel
def hX5_person : List (Nat × List Bool) := []
noncomputable def eX5_person : Cal := [(41, 1, 2, (liftF fp0 gX5_placeOf)), (48, 1, 3, (liftF fp0 gX5_in)), (61, 1, 1, (liftF fp0 gX5_isPerson)), (65, 0, 3, gX5_becomes), (68, 0, 2, gX5_finds)]
noncomputable def fX5_person (a0 : Int32) (a1 : Int32) (a2 : Int32) (u : MS) : Option (Int32 × MS) := run tX5_person hX5_person flX5 0 caG eX5_person (some .int) kIM (FU + 1) 0 (loIn 5 [.ref 0, .int (a0), .int (a1), .int (a2)]) [] (picM u)
set_option maxRecDepth 100000 in
theorem fX5_person_eq (a0 : Int32) (a1 : Int32) (a2 : Int32) (u : MS) : fX5_person a0 a1 a2 u = ((fX5_in (Int32.toInt64 a1) (0 : Int64) (2 : Int64)).bind fun q0 => (if q0 = 0 then ((fX5_isPerson a0).bind fun q1 => (if q1 = 0 then ((fX5_finds (-1000000001 : Int32) u).bind fun q2 => (some (q2.1, q2.2))) else ((fX5_finds (-1000000001 : Int32) u).bind fun q2 => (some (q2.1, q2.2))))) else (if a1 = 0 then ((fX5_in (Int32.toInt64 a2) (0 : Int64) (999999 : Int64)).bind fun q1 => (if q1 = 0 then ((fX5_isPerson a0).bind fun q2 => (if q2 = 0 then ((fX5_finds (-1000000001 : Int32) u).bind fun q3 => (some (q3.1, q3.2))) else ((fX5_finds (-1000000001 : Int32) u).bind fun q3 => (some (q3.1, q3.2))))) else ((fX5_isPerson a0).bind fun q2 => (if q2 = 0 then ((fX5_finds (-1000000001 : Int32) u).bind fun q3 => (some (q3.1, q3.2))) else ((fX5_placeOf a0 a1).bind fun q3 => ((fX5_becomes q3 a2 u).bind fun q4 => (some (q4.1, q4.2)))))))) else ((fX5_in (Int32.toInt64 a2) (0 : Int64) (999 : Int64)).bind fun q1 => (if q1 = 0 then ((fX5_isPerson a0).bind fun q2 => (if q2 = 0 then ((fX5_finds (-1000000001 : Int32) u).bind fun q3 => (some (q3.1, q3.2))) else ((fX5_finds (-1000000001 : Int32) u).bind fun q3 => (some (q3.1, q3.2))))) else ((fX5_isPerson a0).bind fun q2 => (if q2 = 0 then ((fX5_finds (-1000000001 : Int32) u).bind fun q3 => (some (q3.1, q3.2))) else ((fX5_placeOf a0 a1).bind fun q3 => ((fX5_becomes q3 a2 u).bind fun q4 => (some (q4.1, q4.2))))))))))) := rfl
abbrev rX5_person : Room := { frames := 2, cells := 0, slots := 0, locals := 45 }
set_option maxRecDepth 20000 in
theorem eX5_person_ok : ∀ ix kd n F, eX5_person.lookup ix = some (kd, n, F) → CallOK rX5_person yX5_person.cls cX5_person ix kd n F := look_all (look_cons (callOK_lift (ci := 5) ⟨⟨rfl, rfl, by decide, by decide⟩, u_249, u_250, u_247, ⟨by decide, by decide⟩, Or.inr ⟨rfl, u_251, by decide +kernel⟩⟩ coreX5_placeOf) (look_cons (callOK_lift (ci := 5) ⟨⟨rfl, rfl, by decide, by decide⟩, u_245, u_246, u_247, ⟨by decide, by decide⟩, Or.inr ⟨rfl, u_248, by decide +kernel⟩⟩ coreX5_in) (look_cons (callOK_lift (ci := 5) ⟨⟨rfl, rfl, by decide, by decide⟩, u_263, u_264, u_247, ⟨by decide, by decide⟩, Or.inr ⟨rfl, u_265, by decide +kernel⟩⟩ coreX5_isPerson) (look_cons (callOK_same (ci := 5) ⟨⟨rfl, rfl, by decide, by decide⟩, u_259, u_260, u_247, ⟨by decide, by decide⟩, Or.inl ⟨rfl, u_261, u_262, ⟨_, rfl, rfl⟩, 2, rfl, by decide +kernel⟩⟩ coreX5_becomes) (look_cons (callOK_same (ci := 5) ⟨⟨rfl, rfl, by decide, by decide⟩, u_255, u_256, u_247, ⟨by decide, by decide⟩, Or.inl ⟨rfl, u_257, u_258, ⟨_, rfl, rfl⟩, 1, rfl, by decide +kernel⟩⟩ coreX5_finds) look_nil)))))
noncomputable def gX5_person : Callee := mkG (α := Int32 × Int32 × Int32) (σ := MS) (τ := Int32 × MS) unM uaR0III (fun q => some (.int q.1)) (fun _ q => picM q.2) (fun (a : Int32 × Int32 × Int32) (u : MS) => fX5_person a.1 a.2.1 a.2.2 u)
theorem coreX5_person : CoreOK yX5_person rX5_person cX5_person 5 (some .int) 0 5 gX5_person :=
  core_of (kd := 0) (α := Int32 × Int32 × Int32) (σ := MS) (τ := Int32 × MS) unM picM unM_ok uaR0III arR0III uaR0III_ok (fun q => some (.int q.1)) (fun _ q => picM q.2) (fun (a : Int32 × Int32 × Int32) (u : MS) => fX5_person a.1 a.2.1 a.2.2 u)
    (fun a u q h => doc_of_run (by decide) ⟨rfl, rfl⟩ flX5_ok cnX5_ok (fun h => absurd rfl h) eX5_person_ok okX5_person (Nat.le_of_ble_eq_true rfl) (fun v ws' e => kIM_ok e) rfl h) (fun _ a u => ⟨0, _, _, rfl, rfl⟩)
-- X5_thoseAs
def tX5_thoseAs : List (Nat × Ent) := [(0, (.iconst 0, 1, .int (0), 0, [])), (1, (.istore_n 3, 1, .null, 0, [])), (2, (.iconst 0, 1, .int (0), 0, [])), (3, (.istore 4, 2, .null, 0, [])), (5, (.iload 4, 2, .null, 0, [])), (7, (.aload_n 0, 1, .null, 0, [])), (8, (.getfield 7, 3, .null, 0, [])), (11, (.iconst 0, 1, .int (0), 0, [])), (12, (.iaload, 1, .null, 0, [])), (13, (.if_icmp .ge 31, 3, .null, 44, [])), (16, (.iload_n 3, 1, .null, 0, [])), (17, (.aload_n 0, 1, .null, 0, [])), (18, (.iload 4, 2, .null, 0, [])), (20, (.iload_n 1, 1, .null, 0, [])), (21, (.invokevirtual 72, 3, .null, 0, [])), (24, (.iload_n 2, 1, .null, 0, [])), (25, (.if_icmp .ne 10, 3, .null, 35, [])), (28, (.iconst 1, 1, .int (1), 0, [])), (29, (.iload 4, 2, .null, 0, [])), (31, (.ishl, 1, .null, 0, [])), (32, (.goto 4, 3, .null, 36, [])), (35, (.iconst 0, 1, .int (0), 0, [])), (36, (.ior, 1, .null, 0, [])), (37, (.istore_n 3, 1, .null, 0, [])), (38, (.iinc 4 1, 3, .int (1), 0, [])), (41, (.goto (-36), 3, .null, 5, [])), (44, (.iload_n 3, 1, .null, 0, [])), (45, (.ireturn, 1, .null, 0, []))]
theorem okX5_thoseAs : tblOK cnX5 cX5_thoseAs tX5_thoseAs = true := by decide +kernel
def hX5_thoseAs : List (Nat × List Bool) := [(5, [true, true, true, true, true])]
noncomputable def eX5_thoseAs : Cal := [(72, 0, 3, gX5_its)]
noncomputable def fX5_thoseAs (a0 : Int32) (a1 : Int32) (u : MS) : Option (Int32 × MS) := run tX5_thoseAs hX5_thoseAs flX5 0 caG eX5_thoseAs (some .int) kIM (FU + 1) 0 (loIn 5 [.ref 0, .int (a0), .int (a1)]) [] (picM u)
noncomputable def lX5_thoseAs_5 (n : Nat) (x1 : Int32) (x2 : Int32) (x3 : Int32) (x4 : Int32) (u : MS) : Option (Int32 × MS) := run tX5_thoseAs hX5_thoseAs flX5 0 caG eX5_thoseAs (some .int) kIM n 5 [some (.ref 0), some (.int (x1)), some (.int (x2)), some (.int (x3)), some (.int (x4))] [] (picM u)
set_option maxRecDepth 100000 in
theorem lX5_thoseAs_5_eq (n : Nat) (x1 : Int32) (x2 : Int32) (x3 : Int32) (x4 : Int32) (u : MS) : lX5_thoseAs_5 (n + 1) x1 x2 x3 x4 u = (if ((mS u) 0) ≤ x4 then (some (x3, u)) else ((fX5_its x4 x1 u).bind fun q0 => (if q0.1 = x2 then (lX5_thoseAs_5 n x1 x2 ((x3 ||| ((1 : Int32) <<< (x4 &&& 31)))) ((x4 + 1)) q0.2) else (lX5_thoseAs_5 n x1 x2 ((x3 ||| 0)) ((x4 + 1)) q0.2)))) := rfl
set_option maxRecDepth 100000 in
theorem fX5_thoseAs_eq (a0 : Int32) (a1 : Int32) (u : MS) : fX5_thoseAs a0 a1 u = (lX5_thoseAs_5 FU a0 a1 0 0 u) := rfl
abbrev rX5_thoseAs : Room := { frames := 2, cells := 0, slots := 0, locals := 43 }
set_option maxRecDepth 20000 in
theorem eX5_thoseAs_ok : ∀ ix kd n F, eX5_thoseAs.lookup ix = some (kd, n, F) → CallOK rX5_thoseAs yX5_thoseAs.cls cX5_thoseAs ix kd n F := look_all (look_cons (callOK_same (ci := 5) ⟨⟨rfl, rfl, by decide, by decide⟩, u_266, u_267, u_247, ⟨by decide, by decide⟩, Or.inl ⟨rfl, u_268, u_269, ⟨_, rfl, rfl⟩, 2, rfl, by decide +kernel⟩⟩ coreX5_its) look_nil)
noncomputable def gX5_thoseAs : Callee := mkG (α := Int32 × Int32) (σ := MS) (τ := Int32 × MS) unM uaR0II (fun q => some (.int q.1)) (fun _ q => picM q.2) (fun (a : Int32 × Int32) (u : MS) => fX5_thoseAs a.1 a.2 u)
theorem coreX5_thoseAs : CoreOK yX5_thoseAs rX5_thoseAs cX5_thoseAs 5 (some .int) 0 5 gX5_thoseAs :=
  core_of (kd := 0) (α := Int32 × Int32) (σ := MS) (τ := Int32 × MS) unM picM unM_ok uaR0II arR0II uaR0II_ok (fun q => some (.int q.1)) (fun _ q => picM q.2) (fun (a : Int32 × Int32) (u : MS) => fX5_thoseAs a.1 a.2 u)
    (fun a u q h => doc_of_run (by decide) ⟨rfl, rfl⟩ flX5_ok cnX5_ok (fun h => absurd rfl h) eX5_thoseAs_ok okX5_thoseAs (Nat.le_of_ble_eq_true rfl) (fun v ws' e => kIM_ok e) rfl h) (fun _ a u => ⟨0, _, _, rfl, rfl⟩)
-- X5_personOf
def tX5_personOf : List (Nat × Ent) := [(0, (.iload_n 1, 1, .null, 0, [])), (1, (.invokestatic 61, 3, .null, 0, [])), (4, (.ifCond .eq 15, 3, .null, 19, [])), (7, (.iload_n 2, 1, .null, 0, [])), (8, (.i2l, 1, .null, 0, [])), (9, (.lconst 0, 1, .long (0), 0, [])), (10, (.ldc2_w 75, 3, .long (4), 0, [])), (13, (.invokestatic 48, 3, .null, 0, [])), (16, (.ifCond .ne 10, 3, .null, 26, [])), (19, (.aload_n 0, 1, .null, 0, [])), (20, (.ldc 45, 2, .int (-1000000001), 0, [])), (22, (.invokevirtual 68, 3, .null, 0, [])), (25, (.ireturn, 1, .null, 0, [])), (26, (.iload_n 2, 1, .null, 0, [])), (27, (.iconst 2, 1, .int (2), 0, [])), (28, (.if_icmp .gt 12, 3, .null, 40, [])), (31, (.aload_n 0, 1, .null, 0, [])), (32, (.iload_n 1, 1, .null, 0, [])), (33, (.iload_n 2, 1, .null, 0, [])), (34, (.invokevirtual 77, 3, .null, 0, [])), (37, (.goto 18, 3, .null, 55, [])), (40, (.aload_n 0, 1, .null, 0, [])), (41, (.iload_n 2, 1, .null, 0, [])), (42, (.iconst 3, 1, .int (3), 0, [])), (43, (.if_icmp .ne 7, 3, .null, 50, [])), (46, (.iconst 1, 1, .int (1), 0, [])), (47, (.goto 4, 3, .null, 51, [])), (50, (.iconst 5, 1, .int (5), 0, [])), (51, (.iload_n 1, 1, .null, 0, [])), (52, (.invokevirtual 80, 3, .null, 0, [])), (55, (.ireturn, 1, .null, 0, []))]
theorem okX5_personOf : tblOK cnX5 cX5_personOf tX5_personOf = true := by decide +kernel
def hX5_personOf : List (Nat × List Bool) := []
noncomputable def eX5_personOf : Cal := [(48, 1, 3, (liftF fp0 gX5_in)), (61, 1, 1, (liftF fp0 gX5_isPerson)), (68, 0, 2, gX5_finds), (77, 0, 3, gX5_his), (80, 0, 3, gX5_thoseAs)]
noncomputable def fX5_personOf (a0 : Int32) (a1 : Int32) (u : MS) : Option (Int32 × MS) := run tX5_personOf hX5_personOf flX5 0 caG eX5_personOf (some .int) kIM (FU + 1) 0 (loIn 3 [.ref 0, .int (a0), .int (a1)]) [] (picM u)
set_option maxRecDepth 100000 in
theorem fX5_personOf_eq (a0 : Int32) (a1 : Int32) (u : MS) : fX5_personOf a0 a1 u = ((fX5_isPerson a0).bind fun q0 => (if q0 = 0 then ((fX5_finds (-1000000001 : Int32) u).bind fun q1 => (some (q1.1, q1.2))) else ((fX5_in (Int32.toInt64 a1) (0 : Int64) (4 : Int64)).bind fun q1 => (if q1 = 0 then ((fX5_finds (-1000000001 : Int32) u).bind fun q2 => (some (q2.1, q2.2))) else (if (2 : Int32) < a1 then (if a1 = 3 then ((fX5_thoseAs 1 a0 u).bind fun q2 => (some (q2.1, q2.2))) else ((fX5_thoseAs 5 a0 u).bind fun q2 => (some (q2.1, q2.2)))) else ((fX5_his a0 a1 u).bind fun q2 => (some (q2.1, q2.2)))))))) := rfl
abbrev rX5_personOf : Room := { frames := 3, cells := 0, slots := 0, locals := 67 }
set_option maxRecDepth 20000 in
theorem eX5_personOf_ok : ∀ ix kd n F, eX5_personOf.lookup ix = some (kd, n, F) → CallOK rX5_personOf yX5_personOf.cls cX5_personOf ix kd n F := look_all (look_cons (callOK_lift (ci := 5) ⟨⟨rfl, rfl, by decide, by decide⟩, u_245, u_246, u_247, ⟨by decide, by decide⟩, Or.inr ⟨rfl, u_248, by decide +kernel⟩⟩ coreX5_in) (look_cons (callOK_lift (ci := 5) ⟨⟨rfl, rfl, by decide, by decide⟩, u_263, u_264, u_247, ⟨by decide, by decide⟩, Or.inr ⟨rfl, u_265, by decide +kernel⟩⟩ coreX5_isPerson) (look_cons (callOK_same (ci := 5) ⟨⟨rfl, rfl, by decide, by decide⟩, u_255, u_256, u_247, ⟨by decide, by decide⟩, Or.inl ⟨rfl, u_257, u_258, ⟨_, rfl, rfl⟩, 1, rfl, by decide +kernel⟩⟩ coreX5_finds) (look_cons (callOK_same (ci := 5) ⟨⟨rfl, rfl, by decide, by decide⟩, u_274, u_275, u_247, ⟨by decide, by decide⟩, Or.inl ⟨rfl, u_276, u_277, ⟨_, rfl, rfl⟩, 2, rfl, by decide +kernel⟩⟩ coreX5_his) (look_cons (callOK_same (ci := 5) ⟨⟨rfl, rfl, by decide, by decide⟩, u_270, u_271, u_247, ⟨by decide, by decide⟩, Or.inl ⟨rfl, u_272, u_273, ⟨_, rfl, rfl⟩, 2, rfl, by decide +kernel⟩⟩ coreX5_thoseAs) look_nil)))))
noncomputable def gX5_personOf : Callee := mkG (α := Int32 × Int32) (σ := MS) (τ := Int32 × MS) unM uaR0II (fun q => some (.int q.1)) (fun _ q => picM q.2) (fun (a : Int32 × Int32) (u : MS) => fX5_personOf a.1 a.2 u)
theorem coreX5_personOf : CoreOK yX5_personOf rX5_personOf cX5_personOf 3 (some .int) 0 5 gX5_personOf :=
  core_of (kd := 0) (α := Int32 × Int32) (σ := MS) (τ := Int32 × MS) unM picM unM_ok uaR0II arR0II uaR0II_ok (fun q => some (.int q.1)) (fun _ q => picM q.2) (fun (a : Int32 × Int32) (u : MS) => fX5_personOf a.1 a.2 u)
    (fun a u q h => doc_of_run (by decide) ⟨rfl, rfl⟩ flX5_ok cnX5_ok (fun h => absurd rfl h) eX5_personOf_ok okX5_personOf (Nat.le_of_ble_eq_true rfl) (fun v ws' e => kIM_ok e) rfl h) (fun _ a u => ⟨0, _, _, rfl, rfl⟩)
-- X5_adds
def tX5_adds : List (Nat × Ent) := [(0, (.aload_n 0, 1, .null, 0, [])), (1, (.getfield 7, 3, .null, 0, [])), (4, (.iconst 0, 1, .int (0), 0, [])), (5, (.iaload, 1, .null, 0, [])), (6, (.istore_n 3, 1, .null, 0, [])), (7, (.aload_n 0, 1, .null, 0, [])), (8, (.getfield 7, 3, .null, 0, [])), (11, (.iload_n 3, 1, .null, 0, [])), (12, (.iconst 0, 1, .int (0), 0, [])), (13, (.invokestatic 52, 3, .null, 0, [])), (16, (.iload_n 1, 1, .null, 0, [])), (17, (.iastore, 1, .null, 0, [])), (18, (.aload_n 0, 1, .null, 0, [])), (19, (.getfield 7, 3, .null, 0, [])), (22, (.iload_n 3, 1, .null, 0, [])), (23, (.iconst 1, 1, .int (1), 0, [])), (24, (.invokestatic 52, 3, .null, 0, [])), (27, (.iload_n 2, 1, .null, 0, [])), (28, (.iastore, 1, .null, 0, [])), (29, (.aload_n 0, 1, .null, 0, [])), (30, (.getfield 7, 3, .null, 0, [])), (33, (.iload_n 3, 1, .null, 0, [])), (34, (.iconst 2, 1, .int (2), 0, [])), (35, (.invokestatic 52, 3, .null, 0, [])), (38, (.aload_n 0, 1, .null, 0, [])), (39, (.getfield 7, 3, .null, 0, [])), (42, (.iconst 1, 1, .int (1), 0, [])), (43, (.iaload, 1, .null, 0, [])), (44, (.iastore, 1, .null, 0, [])), (45, (.aload_n 0, 1, .null, 0, [])), (46, (.getfield 7, 3, .null, 0, [])), (49, (.iload_n 3, 1, .null, 0, [])), (50, (.iconst 3, 1, .int (3), 0, [])), (51, (.invokestatic 52, 3, .null, 0, [])), (54, (.iconst 0, 1, .int (0), 0, [])), (55, (.iastore, 1, .null, 0, [])), (56, (.aload_n 0, 1, .null, 0, [])), (57, (.getfield 7, 3, .null, 0, [])), (60, (.iload_n 3, 1, .null, 0, [])), (61, (.iconst 4, 1, .int (4), 0, [])), (62, (.invokestatic 52, 3, .null, 0, [])), (65, (.bipush 100, 2, .int (100), 0, [])), (67, (.iastore, 1, .null, 0, [])), (68, (.aload_n 0, 1, .null, 0, [])), (69, (.getfield 7, 3, .null, 0, [])), (72, (.iload_n 3, 1, .null, 0, [])), (73, (.iconst 5, 1, .int (5), 0, [])), (74, (.invokestatic 52, 3, .null, 0, [])), (77, (.iconst (-1), 1, .int (-1), 0, [])), (78, (.iastore, 1, .null, 0, [])), (79, (.aload_n 0, 1, .null, 0, [])), (80, (.getfield 7, 3, .null, 0, [])), (83, (.iconst 0, 1, .int (0), 0, [])), (84, (.dup2, 1, .null, 0, [])), (85, (.iaload, 1, .null, 0, [])), (86, (.iconst 1, 1, .int (1), 0, [])), (87, (.iadd, 1, .null, 0, [])), (88, (.iastore, 1, .null, 0, [])), (89, (.iload_n 3, 1, .null, 0, [])), (90, (.ireturn, 1, .null, 0, []))]
theorem okX5_adds : tblOK cnX5 cX5_adds tX5_adds = true := by decide +kernel
def hX5_adds : List (Nat × List Bool) := []
noncomputable def eX5_adds : Cal := [(52, 1, 2, (liftF fp0 gX5_spotOf))]
noncomputable def fX5_adds (a0 : Int32) (a1 : Int32) (u : MS) : Option (Int32 × MS) := run tX5_adds hX5_adds flX5 0 caG eX5_adds (some .int) kIM (FU + 1) 0 (loIn 4 [.ref 0, .int (a0), .int (a1)]) [] (picM u)
set_option maxRecDepth 100000 in
theorem fX5_adds_eq (a0 : Int32) (a1 : Int32) (u : MS) : fX5_adds a0 a1 u = ((fX5_spotOf ((mS u) 0) 0).bind fun q0 => (if q0 < 0 ∨ 69 ≤ (q0).toNatClampNeg then none else ((fX5_spotOf ((mS u) 0) 1).bind fun q1 => (if q1 < 0 ∨ 69 ≤ (q1).toNatClampNeg then none else ((fX5_spotOf ((mS u) 0) 2).bind fun q2 => (if q2 < 0 ∨ 69 ≤ (q2).toNatClampNeg then none else ((fX5_spotOf ((mS u) 0) 3).bind fun q3 => (if q3 < 0 ∨ 69 ≤ (q3).toNatClampNeg then none else ((fX5_spotOf ((mS u) 0) 4).bind fun q4 => (if q4 < 0 ∨ 69 ≤ (q4).toNatClampNeg then none else ((fX5_spotOf ((mS u) 0) 5).bind fun q5 => (if q5 < 0 ∨ 69 ≤ (q5).toNatClampNeg then none else (some (((mS u) 0), (mS' u (upd (upd (upd (upd (upd (upd (upd (mS u) (q0).toNatClampNeg a0) (q1).toNatClampNeg a1) (q2).toNatClampNeg ((upd (upd (mS u) (q0).toNatClampNeg a0) (q1).toNatClampNeg a1) 1)) (q3).toNatClampNeg 0) (q4).toNatClampNeg 100) (q5).toNatClampNeg (-1 : Int32)) 0 (((upd (upd (upd (upd (upd (upd (mS u) (q0).toNatClampNeg a0) (q1).toNatClampNeg a1) (q2).toNatClampNeg ((upd (upd (mS u) (q0).toNatClampNeg a0) (q1).toNatClampNeg a1) 1)) (q3).toNatClampNeg 0) (q4).toNatClampNeg 100) (q5).toNatClampNeg (-1 : Int32)) 0) + 1))))))))))))))))) := rfl
abbrev rX5_adds : Room := { frames := 1, cells := 0, slots := 0, locals := 21 }
set_option maxRecDepth 20000 in
theorem eX5_adds_ok : ∀ ix kd n F, eX5_adds.lookup ix = some (kd, n, F) → CallOK rX5_adds yX5_adds.cls cX5_adds ix kd n F := look_all (look_cons (callOK_lift (ci := 5) ⟨⟨rfl, rfl, by decide, by decide⟩, u_252, u_253, u_247, ⟨by decide, by decide⟩, Or.inr ⟨rfl, u_254, by decide +kernel⟩⟩ coreX5_spotOf) look_nil)
noncomputable def gX5_adds : Callee := mkG (α := Int32 × Int32) (σ := MS) (τ := Int32 × MS) unM uaR0II (fun q => some (.int q.1)) (fun _ q => picM q.2) (fun (a : Int32 × Int32) (u : MS) => fX5_adds a.1 a.2 u)
theorem coreX5_adds : CoreOK yX5_adds rX5_adds cX5_adds 4 (some .int) 0 5 gX5_adds :=
  core_of (kd := 0) (α := Int32 × Int32) (σ := MS) (τ := Int32 × MS) unM picM unM_ok uaR0II arR0II uaR0II_ok (fun q => some (.int q.1)) (fun _ q => picM q.2) (fun (a : Int32 × Int32) (u : MS) => fX5_adds a.1 a.2 u)
    (fun a u q h => doc_of_run (by decide) ⟨rfl, rfl⟩ flX5_ok cnX5_ok (fun h => absurd rfl h) eX5_adds_ok okX5_adds (Nat.le_of_ble_eq_true rfl) (fun v ws' e => kIM_ok e) rfl h) (fun _ a u => ⟨0, _, _, rfl, rfl⟩)
-- X5_thing
def tX5_thing : List (Nat × Ent) := [(0, (.iload_n 1, 1, .null, 0, [])), (1, (.invokestatic 83, 3, .null, 0, [])), (4, (.ifCond .eq 10, 3, .null, 14, [])), (7, (.iload_n 2, 1, .null, 0, [])), (8, (.invokestatic 61, 3, .null, 0, [])), (11, (.ifCond .ne 10, 3, .null, 21, [])), (14, (.aload_n 0, 1, .null, 0, [])), (15, (.ldc 45, 2, .int (-1000000001), 0, [])), (17, (.invokevirtual 68, 3, .null, 0, [])), (20, (.ireturn, 1, .null, 0, [])), (21, (.aload_n 0, 1, .null, 0, [])), (22, (.getfield 7, 3, .null, 0, [])), (25, (.iconst 0, 1, .int (0), 0, [])), (26, (.iaload, 1, .null, 0, [])), (27, (.bipush 8, 2, .int (8), 0, [])), (29, (.if_icmp .ne 12, 3, .null, 41, [])), (32, (.aload_n 0, 1, .null, 0, [])), (33, (.ldc 86, 2, .int (-1000000002), 0, [])), (35, (.invokevirtual 68, 3, .null, 0, [])), (38, (.goto 9, 3, .null, 47, [])), (41, (.aload_n 0, 1, .null, 0, [])), (42, (.iload_n 1, 1, .null, 0, [])), (43, (.iload_n 2, 1, .null, 0, [])), (44, (.invokevirtual 87, 3, .null, 0, [])), (47, (.ireturn, 1, .null, 0, []))]
theorem okX5_thing : tblOK cnX5 cX5_thing tX5_thing = true := by decide +kernel
def hX5_thing : List (Nat × List Bool) := []
noncomputable def eX5_thing : Cal := [(61, 1, 1, (liftF fp0 gX5_isPerson)), (68, 0, 2, gX5_finds), (83, 1, 1, (liftF fp0 gX5_isKind)), (87, 0, 3, gX5_adds)]
noncomputable def fX5_thing (a0 : Int32) (a1 : Int32) (u : MS) : Option (Int32 × MS) := run tX5_thing hX5_thing flX5 0 caG eX5_thing (some .int) kIM (FU + 1) 0 (loIn 3 [.ref 0, .int (a0), .int (a1)]) [] (picM u)
set_option maxRecDepth 100000 in
theorem fX5_thing_eq (a0 : Int32) (a1 : Int32) (u : MS) : fX5_thing a0 a1 u = ((fX5_isKind a0).bind fun q0 => (if q0 = 0 then ((fX5_finds (-1000000001 : Int32) u).bind fun q1 => (some (q1.1, q1.2))) else ((fX5_isPerson a1).bind fun q1 => (if q1 = 0 then ((fX5_finds (-1000000001 : Int32) u).bind fun q2 => (some (q2.1, q2.2))) else (if ((mS u) 0) = 8 then ((fX5_finds (-1000000002 : Int32) u).bind fun q2 => (some (q2.1, q2.2))) else ((fX5_adds a0 a1 u).bind fun q2 => (some (q2.1, q2.2)))))))) := rfl
abbrev rX5_thing : Room := { frames := 2, cells := 0, slots := 0, locals := 45 }
set_option maxRecDepth 20000 in
theorem eX5_thing_ok : ∀ ix kd n F, eX5_thing.lookup ix = some (kd, n, F) → CallOK rX5_thing yX5_thing.cls cX5_thing ix kd n F := look_all (look_cons (callOK_lift (ci := 5) ⟨⟨rfl, rfl, by decide, by decide⟩, u_263, u_264, u_247, ⟨by decide, by decide⟩, Or.inr ⟨rfl, u_265, by decide +kernel⟩⟩ coreX5_isPerson) (look_cons (callOK_same (ci := 5) ⟨⟨rfl, rfl, by decide, by decide⟩, u_255, u_256, u_247, ⟨by decide, by decide⟩, Or.inl ⟨rfl, u_257, u_258, ⟨_, rfl, rfl⟩, 1, rfl, by decide +kernel⟩⟩ coreX5_finds) (look_cons (callOK_lift (ci := 5) ⟨⟨rfl, rfl, by decide, by decide⟩, u_282, u_283, u_247, ⟨by decide, by decide⟩, Or.inr ⟨rfl, u_284, by decide +kernel⟩⟩ coreX5_isKind) (look_cons (callOK_same (ci := 5) ⟨⟨rfl, rfl, by decide, by decide⟩, u_278, u_279, u_247, ⟨by decide, by decide⟩, Or.inl ⟨rfl, u_280, u_281, ⟨_, rfl, rfl⟩, 2, rfl, by decide +kernel⟩⟩ coreX5_adds) look_nil))))
noncomputable def gX5_thing : Callee := mkG (α := Int32 × Int32) (σ := MS) (τ := Int32 × MS) unM uaR0II (fun q => some (.int q.1)) (fun _ q => picM q.2) (fun (a : Int32 × Int32) (u : MS) => fX5_thing a.1 a.2 u)
theorem coreX5_thing : CoreOK yX5_thing rX5_thing cX5_thing 3 (some .int) 0 5 gX5_thing :=
  core_of (kd := 0) (α := Int32 × Int32) (σ := MS) (τ := Int32 × MS) unM picM unM_ok uaR0II arR0II uaR0II_ok (fun q => some (.int q.1)) (fun _ q => picM q.2) (fun (a : Int32 × Int32) (u : MS) => fX5_thing a.1 a.2 u)
    (fun a u q h => doc_of_run (by decide) ⟨rfl, rfl⟩ flX5_ok cnX5_ok (fun h => absurd rfl h) eX5_thing_ok okX5_thing (Nat.le_of_ble_eq_true rfl) (fun v ws' e => kIM_ok e) rfl h) (fun _ a u => ⟨0, _, _, rfl, rfl⟩)
-- X5_isThere
def tX5_isThere : List (Nat × Ent) := [(0, (.aload_n 0, 1, .null, 0, [])), (1, (.iload_n 1, 1, .null, 0, [])), (2, (.iconst 5, 1, .int (5), 0, [])), (3, (.invokevirtual 72, 3, .null, 0, [])), (6, (.iconst (-1), 1, .int (-1), 0, [])), (7, (.if_icmp .ne 7, 3, .null, 14, [])), (10, (.iconst 1, 1, .int (1), 0, [])), (11, (.goto 4, 3, .null, 15, [])), (14, (.iconst 0, 1, .int (0), 0, [])), (15, (.ireturn, 1, .null, 0, []))]
theorem okX5_isThere : tblOK cnX5 cX5_isThere tX5_isThere = true := by decide +kernel
def hX5_isThere : List (Nat × List Bool) := []
noncomputable def eX5_isThere : Cal := [(72, 0, 3, gX5_its)]
noncomputable def fX5_isThere (a0 : Int32) (u : MS) : Option (Int32 × MS) := run tX5_isThere hX5_isThere flX5 0 caG eX5_isThere (some .boolean) kIM (FU + 1) 0 (loIn 2 [.ref 0, .int (a0)]) [] (picM u)
set_option maxRecDepth 100000 in
theorem fX5_isThere_eq (a0 : Int32) (u : MS) : fX5_isThere a0 u = ((fX5_its a0 5 u).bind fun q0 => (if q0.1 = (-1 : Int32) then (some (1, q0.2)) else (some (0, q0.2)))) := rfl
abbrev rX5_isThere : Room := { frames := 2, cells := 0, slots := 0, locals := 43 }
set_option maxRecDepth 20000 in
theorem eX5_isThere_ok : ∀ ix kd n F, eX5_isThere.lookup ix = some (kd, n, F) → CallOK rX5_isThere yX5_isThere.cls cX5_isThere ix kd n F := look_all (look_cons (callOK_same (ci := 5) ⟨⟨rfl, rfl, by decide, by decide⟩, u_266, u_267, u_247, ⟨by decide, by decide⟩, Or.inl ⟨rfl, u_268, u_269, ⟨_, rfl, rfl⟩, 2, rfl, by decide +kernel⟩⟩ coreX5_its) look_nil)
noncomputable def gX5_isThere : Callee := mkG (α := Int32) (σ := MS) (τ := Int32 × MS) unM uaR0I (fun q => some (.int q.1)) (fun _ q => picM q.2) (fun (a : Int32) (u : MS) => fX5_isThere a u)
theorem coreX5_isThere : CoreOK yX5_isThere rX5_isThere cX5_isThere 2 (some .boolean) 0 5 gX5_isThere :=
  core_of (kd := 0) (α := Int32) (σ := MS) (τ := Int32 × MS) unM picM unM_ok uaR0I arR0I uaR0I_ok (fun q => some (.int q.1)) (fun _ q => picM q.2) (fun (a : Int32) (u : MS) => fX5_isThere a u)
    (fun a u q h => doc_of_run (by decide) ⟨rfl, rfl⟩ flX5_ok cnX5_ok (fun h => absurd rfl h) eX5_isThere_ok okX5_isThere (Nat.le_of_ble_eq_true rfl) (fun v ws' e => kIM_ok e) rfl h) (fun _ a u => ⟨0, _, _, rfl, rfl⟩)
