-- X5_becomes
def tPX5_becomes : List (Nat × Ent) := [(0, (.aload_n 0, 1, .null, 0, [])), (1, (.getfield 7, 3, .null, 0, [])), (4, (.iload_n 1, 1, .null, 0, [])), (5, (.iaload, 1, .null, 0, [])), (6, (.istore_n 3, 1, .null, 0, [])), (7, (.aload_n 0, 1, .null, 0, [])), (8, (.getfield 7, 3, .null, 0, [])), (11, (.iload_n 1, 1, .null, 0, [])), (12, (.iload_n 2, 1, .null, 0, [])), (13, (.iastore, 1, .null, 0, [])), (14, (.iload_n 3, 1, .null, 0, [])), (15, (.ireturn, 1, .null, 0, []))]
def tX5_becomes : List (Nat × Ent) := tPX5_becomes
theorem okX5_becomes : tblOK cnX5 cX5_becomes tX5_becomes = true := by decide +kernel
def hX5_becomes : List (Nat × List Bool) := []
noncomputable def eX5_becomes : Cal := []
noncomputable def fPX5_becomes (a0 : Int32) (a1 : Int32) (u : MS) : Option (Int32 × MS) := run (tPX5_becomes) hX5_becomes flX5 0 caG eX5_becomes (some .int) kIM (FU + 1) 0 (loIn 4 [.ref 0, .int (a0), .int (a1)]) [] (picM u)
noncomputable def fX5_becomes (a0 : Int32) (a1 : Int32) (u : MS) : Option (Int32 × MS) := fPX5_becomes a0 a1 u
set_option maxRecDepth 100000 in
theorem fPX5_becomes_eq (a0 : Int32) (a1 : Int32) (u : MS) : fPX5_becomes a0 a1 u = (br (a0 < 0 ∨ 69 ≤ (a0).toNatClampNeg) none (br (a0 < 0 ∨ 69 ≤ (a0).toNatClampNeg) none (some (((mS u) (a0).toNatClampNeg), (mS' u (upd (mS u) (a0).toNatClampNeg a1)))))) := rfl
theorem fX5_becomes_eq (a0 : Int32) (a1 : Int32) (u : MS) : fX5_becomes a0 a1 u = (if a0 < 0 ∨ 69 ≤ (a0).toNatClampNeg then none else (if a0 < 0 ∨ 69 ≤ (a0).toNatClampNeg then none else (some (((mS u) (a0).toNatClampNeg), (mS' u (upd (mS u) (a0).toNatClampNeg a1)))))) := (fPX5_becomes_eq a0 a1 u).trans (by simp only [br_eq, if_true, if_false, tn0, tn1, tn2, tn3, tn4, tn5, tn6, tn8] <;> rfl)
abbrev rX5_becomes : Room := { frames := 0, cells := 0, slots := 0, locals := 0 }
set_option maxRecDepth 20000 in
theorem eX5_becomes_ok : ∀ ix kd n F, eX5_becomes.lookup ix = some (kd, n, F) → CallOK rX5_becomes yX5_becomes.cls cX5_becomes ix kd n F := look_all look_nil
noncomputable def gX5_becomes : Callee := mkG (α := Int32 × Int32) (σ := MS) (τ := Int32 × MS) unM uaR0II (fun q => some (.int q.1)) (fun _ q => picM q.2) (fun (a : Int32 × Int32) (u : MS) => fX5_becomes a.1 a.2 u)
theorem coreX5_becomes : CoreOK yX5_becomes rX5_becomes cX5_becomes 4 (some .int) 0 5 gX5_becomes :=
  core_of (kd := 0) (α := Int32 × Int32) (σ := MS) (τ := Int32 × MS) unM picM unM_ok uaR0II arR0II uaR0II_ok (fun q => some (.int q.1)) (fun _ q => picM q.2) (fun (a : Int32 × Int32) (u : MS) => fX5_becomes a.1 a.2 u)
    (fun a u q h => doc_of_run (by decide) ⟨rfl, rfl⟩ flX5_ok cnX5_ok (fun h => absurd rfl h) eX5_becomes_ok okX5_becomes (Nat.le_of_ble_eq_true rfl) (fun v ws' e => kIM_ok e) rfl h) (fun _ a u => ⟨0, _, _, rfl, rfl⟩)
-- X5_isPerson
def tPX5_isPerson (c1 : Int64) : List (Nat × Ent) := [(0, (.iload_n 0, 1, .null, 0, [])), (1, (.i2l, 1, .null, 0, [])), (2, (.lconst 0, 1, .long (0), 0, [])), (3, (.ldc2_w 46, 3, .long c1, 0, [])), (6, (.invokestatic 48, 3, .null, 0, [])), (9, (.ireturn, 1, .null, 0, []))]
def tX5_isPerson : List (Nat × Ent) := tPX5_isPerson (5)
theorem okX5_isPerson : tblOK cnX5 cX5_isPerson tX5_isPerson = true := by decide +kernel
def hX5_isPerson : List (Nat × List Bool) := []
noncomputable def eX5_isPerson : Cal := [(48, 1, 3, (liftF fp0 gX5_in))]
noncomputable def fPX5_isPerson (c1 : Int64) (a0 : Int32) : Option (Int32) := run (tPX5_isPerson c1) hX5_isPerson flX5 0 caG eX5_isPerson (some .boolean) kIN (FU + 1) 0 (loIn 1 [.int (a0)]) [] []
noncomputable def fX5_isPerson (a0 : Int32) : Option (Int32) := fPX5_isPerson (5) a0
set_option maxRecDepth 100000 in
theorem fPX5_isPerson_eq (c1 : Int64) (a0 : Int32) : fPX5_isPerson c1 a0 = ((fX5_in (Int32.toInt64 a0) (0 : Int64) c1).bind fun q0 => (br (q0 = 0 ∨ q0 = 1) (some q0) none)) := rfl
theorem fX5_isPerson_eq (a0 : Int32) : fX5_isPerson a0 = ((fX5_in (Int32.toInt64 a0) (0 : Int64) (5 : Int64)).bind fun q0 => (if q0 = 0 ∨ q0 = 1 then (some q0) else none)) := (fPX5_isPerson_eq (5) a0).trans (by simp only [br_eq, if_true, if_false, tn0, tn1, tn2, tn3, tn4, tn5, tn6, tn8] <;> rfl)
abbrev rX5_isPerson : Room := { frames := 1, cells := 0, slots := 0, locals := 25 }
set_option maxRecDepth 20000 in
theorem eX5_isPerson_ok : ∀ ix kd n F, eX5_isPerson.lookup ix = some (kd, n, F) → CallOK rX5_isPerson yX5_isPerson.cls cX5_isPerson ix kd n F := look_all (look_cons (callOK_lift (ci := 5) ⟨⟨rfl, rfl, by decide, by decide⟩, u_245, u_246, u_247, ⟨by decide, by decide⟩, Or.inr ⟨rfl, u_248, by decide +kernel⟩⟩ coreX5_in) look_nil)
noncomputable def gX5_isPerson : Callee := mkG (α := Int32) (σ := Unit) (τ := Int32) unN uaI (fun q => some (.int q)) (fun _ _ => []) (fun (a : Int32) (u : Unit) => fX5_isPerson a)
theorem coreX5_isPerson : CoreOK yX5_isPerson rX5_isPerson cX5_isPerson 1 (some .boolean) 1 5 gX5_isPerson :=
  core_of (kd := 1) (α := Int32) (σ := Unit) (τ := Int32) unN picN unN_ok uaI arI uaI_ok (fun q => some (.int q)) (fun _ _ => []) (fun (a : Int32) (u : Unit) => fX5_isPerson a)
    (fun a u q h => doc_of_run (by decide) ⟨rfl, rfl⟩ flX5_ok cnX5_ok (fun h => absurd rfl h) eX5_isPerson_ok okX5_isPerson (Nat.le_of_ble_eq_true rfl) (fun v ws' e => kIN_ok e) rfl h) (fun e => by cases e)
-- X5_isThing
def tPX5_isThing : List (Nat × Ent) := [(0, (.iload_n 1, 1, .null, 0, [])), (1, (.i2l, 1, .null, 0, [])), (2, (.lconst 0, 1, .long (0), 0, [])), (3, (.aload_n 0, 1, .null, 0, [])), (4, (.getfield 7, 3, .null, 0, [])), (7, (.iconst 0, 1, .int (0), 0, [])), (8, (.iaload, 1, .null, 0, [])), (9, (.iconst 1, 1, .int (1), 0, [])), (10, (.isub, 1, .null, 0, [])), (11, (.i2l, 1, .null, 0, [])), (12, (.invokestatic 48, 3, .null, 0, [])), (15, (.ireturn, 1, .null, 0, []))]
def tX5_isThing : List (Nat × Ent) := tPX5_isThing
theorem okX5_isThing : tblOK cnX5 cX5_isThing tX5_isThing = true := by decide +kernel
def hX5_isThing : List (Nat × List Bool) := []
noncomputable def eX5_isThing : Cal := [(48, 1, 3, (liftF fp0 gX5_in))]
noncomputable def fPX5_isThing (a0 : Int32) (u : MS) : Option (Int32 × MS) := run (tPX5_isThing) hX5_isThing flX5 0 caG eX5_isThing (some .boolean) kIM (FU + 1) 0 (loIn 2 [.ref 0, .int (a0)]) [] (picM u)
noncomputable def fX5_isThing (a0 : Int32) (u : MS) : Option (Int32 × MS) := fPX5_isThing a0 u
set_option maxRecDepth 100000 in
theorem fPX5_isThing_eq (a0 : Int32) (u : MS) : fPX5_isThing a0 u = (br ((0 : Int32) < 0 ∨ 69 ≤ ((0 : Int32)).toNatClampNeg) none ((fX5_in (Int32.toInt64 a0) (0 : Int64) (Int32.toInt64 (((mS u) ((0 : Int32)).toNatClampNeg) - 1))).bind fun q0 => (br (q0 = 0 ∨ q0 = 1) (some (q0, u)) none))) := rfl
theorem fX5_isThing_eq (a0 : Int32) (u : MS) : fX5_isThing a0 u = ((fX5_in (Int32.toInt64 a0) (0 : Int64) (Int32.toInt64 (((mS u) 0) - 1))).bind fun q0 => (if q0 = 0 ∨ q0 = 1 then (some (q0, u)) else none)) := (fPX5_isThing_eq a0 u).trans (by simp only [br_eq, if_true, if_false, tn0, tn1, tn2, tn3, tn4, tn5, tn6, tn8, ixl_0_69] <;> rfl)
abbrev rX5_isThing : Room := { frames := 1, cells := 0, slots := 0, locals := 25 }
set_option maxRecDepth 20000 in
theorem eX5_isThing_ok : ∀ ix kd n F, eX5_isThing.lookup ix = some (kd, n, F) → CallOK rX5_isThing yX5_isThing.cls cX5_isThing ix kd n F := look_all (look_cons (callOK_lift (ci := 5) ⟨⟨rfl, rfl, by decide, by decide⟩, u_245, u_246, u_247, ⟨by decide, by decide⟩, Or.inr ⟨rfl, u_248, by decide +kernel⟩⟩ coreX5_in) look_nil)
noncomputable def gX5_isThing : Callee := mkG (α := Int32) (σ := MS) (τ := Int32 × MS) unM uaR0I (fun q => some (.int q.1)) (fun _ q => picM q.2) (fun (a : Int32) (u : MS) => fX5_isThing a u)
theorem coreX5_isThing : CoreOK yX5_isThing rX5_isThing cX5_isThing 2 (some .boolean) 0 5 gX5_isThing :=
  core_of (kd := 0) (α := Int32) (σ := MS) (τ := Int32 × MS) unM picM unM_ok uaR0I arR0I uaR0I_ok (fun q => some (.int q.1)) (fun _ q => picM q.2) (fun (a : Int32) (u : MS) => fX5_isThing a u)
    (fun a u q h => doc_of_run (by decide) ⟨rfl, rfl⟩ flX5_ok cnX5_ok (fun h => absurd rfl h) eX5_isThing_ok okX5_isThing (Nat.le_of_ble_eq_true rfl) (fun v ws' e => kIM_ok e) rfl h) (fun _ a u => ⟨0, _, _, rfl, rfl⟩)
-- X5_isKind
def tPX5_isKind (c1 : Int64) : List (Nat × Ent) := [(0, (.iload_n 0, 1, .null, 0, [])), (1, (.i2l, 1, .null, 0, [])), (2, (.lconst 0, 1, .long (0), 0, [])), (3, (.ldc2_w 46, 3, .long c1, 0, [])), (6, (.invokestatic 48, 3, .null, 0, [])), (9, (.ireturn, 1, .null, 0, []))]
def tX5_isKind : List (Nat × Ent) := tPX5_isKind (5)
theorem okX5_isKind : tblOK cnX5 cX5_isKind tX5_isKind = true := by decide +kernel
def hX5_isKind : List (Nat × List Bool) := []
noncomputable def eX5_isKind : Cal := [(48, 1, 3, (liftF fp0 gX5_in))]
noncomputable def fPX5_isKind (c1 : Int64) (a0 : Int32) : Option (Int32) := run (tPX5_isKind c1) hX5_isKind flX5 0 caG eX5_isKind (some .boolean) kIN (FU + 1) 0 (loIn 1 [.int (a0)]) [] []
noncomputable def fX5_isKind (a0 : Int32) : Option (Int32) := fPX5_isKind (5) a0
set_option maxRecDepth 100000 in
theorem fPX5_isKind_eq (c1 : Int64) (a0 : Int32) : fPX5_isKind c1 a0 = ((fX5_in (Int32.toInt64 a0) (0 : Int64) c1).bind fun q0 => (br (q0 = 0 ∨ q0 = 1) (some q0) none)) := rfl
theorem fX5_isKind_eq (a0 : Int32) : fX5_isKind a0 = ((fX5_in (Int32.toInt64 a0) (0 : Int64) (5 : Int64)).bind fun q0 => (if q0 = 0 ∨ q0 = 1 then (some q0) else none)) := (fPX5_isKind_eq (5) a0).trans (by simp only [br_eq, if_true, if_false, tn0, tn1, tn2, tn3, tn4, tn5, tn6, tn8] <;> rfl)
abbrev rX5_isKind : Room := { frames := 1, cells := 0, slots := 0, locals := 25 }
set_option maxRecDepth 20000 in
theorem eX5_isKind_ok : ∀ ix kd n F, eX5_isKind.lookup ix = some (kd, n, F) → CallOK rX5_isKind yX5_isKind.cls cX5_isKind ix kd n F := look_all (look_cons (callOK_lift (ci := 5) ⟨⟨rfl, rfl, by decide, by decide⟩, u_245, u_246, u_247, ⟨by decide, by decide⟩, Or.inr ⟨rfl, u_248, by decide +kernel⟩⟩ coreX5_in) look_nil)
noncomputable def gX5_isKind : Callee := mkG (α := Int32) (σ := Unit) (τ := Int32) unN uaI (fun q => some (.int q)) (fun _ _ => []) (fun (a : Int32) (u : Unit) => fX5_isKind a)
theorem coreX5_isKind : CoreOK yX5_isKind rX5_isKind cX5_isKind 1 (some .boolean) 1 5 gX5_isKind :=
  core_of (kd := 1) (α := Int32) (σ := Unit) (τ := Int32) unN picN unN_ok uaI arI uaI_ok (fun q => some (.int q)) (fun _ _ => []) (fun (a : Int32) (u : Unit) => fX5_isKind a)
    (fun a u q h => doc_of_run (by decide) ⟨rfl, rfl⟩ flX5_ok cnX5_ok (fun h => absurd rfl h) eX5_isKind_ok okX5_isKind (Nat.le_of_ble_eq_true rfl) (fun v ws' e => kIN_ok e) rfl h) (fun e => by cases e)
-- X5_placeOf
def tPX5_placeOf : List (Nat × Ent) := [(0, (.iconst 3, 1, .int (3), 0, [])), (1, (.iconst 3, 1, .int (3), 0, [])), (2, (.iload_n 0, 1, .null, 0, [])), (3, (.imul, 1, .null, 0, [])), (4, (.iadd, 1, .null, 0, [])), (5, (.iload_n 1, 1, .null, 0, [])), (6, (.iadd, 1, .null, 0, [])), (7, (.ireturn, 1, .null, 0, []))]
def tX5_placeOf : List (Nat × Ent) := tPX5_placeOf
theorem okX5_placeOf : tblOK cnX5 cX5_placeOf tX5_placeOf = true := by decide +kernel
def hX5_placeOf : List (Nat × List Bool) := []
noncomputable def eX5_placeOf : Cal := []
noncomputable def fPX5_placeOf (a0 : Int32) (a1 : Int32) : Option (Int32) := run (tPX5_placeOf) hX5_placeOf flX5 0 caG eX5_placeOf (some .int) kIN (FU + 1) 0 (loIn 2 [.int (a0), .int (a1)]) [] []
noncomputable def fX5_placeOf (a0 : Int32) (a1 : Int32) : Option (Int32) := fPX5_placeOf a0 a1
set_option maxRecDepth 100000 in
theorem fPX5_placeOf_eq (a0 : Int32) (a1 : Int32) : fPX5_placeOf a0 a1 = (some ((((3 : Int32) + ((3 : Int32) * a0)) + a1))) := rfl
theorem fX5_placeOf_eq (a0 : Int32) (a1 : Int32) : fX5_placeOf a0 a1 = (some ((((3 : Int32) + ((3 : Int32) * a0)) + a1))) := (fPX5_placeOf_eq a0 a1)
abbrev rX5_placeOf : Room := { frames := 0, cells := 0, slots := 0, locals := 0 }
set_option maxRecDepth 20000 in
theorem eX5_placeOf_ok : ∀ ix kd n F, eX5_placeOf.lookup ix = some (kd, n, F) → CallOK rX5_placeOf yX5_placeOf.cls cX5_placeOf ix kd n F := look_all look_nil
noncomputable def gX5_placeOf : Callee := mkG (α := Int32 × Int32) (σ := Unit) (τ := Int32) unN uaII (fun q => some (.int q)) (fun _ _ => []) (fun (a : Int32 × Int32) (u : Unit) => fX5_placeOf a.1 a.2)
theorem coreX5_placeOf : CoreOK yX5_placeOf rX5_placeOf cX5_placeOf 2 (some .int) 1 5 gX5_placeOf :=
  core_of (kd := 1) (α := Int32 × Int32) (σ := Unit) (τ := Int32) unN picN unN_ok uaII arII uaII_ok (fun q => some (.int q)) (fun _ _ => []) (fun (a : Int32 × Int32) (u : Unit) => fX5_placeOf a.1 a.2)
    (fun a u q h => doc_of_run (by decide) ⟨rfl, rfl⟩ flX5_ok cnX5_ok (fun h => absurd rfl h) eX5_placeOf_ok okX5_placeOf (Nat.le_of_ble_eq_true rfl) (fun v ws' e => kIN_ok e) rfl h) (fun e => by cases e)
-- X5_spotOf
def tPX5_spotOf : List (Nat × Ent) := [(0, (.bipush 21, 2, .int (21), 0, [])), (2, (.bipush 6, 2, .int (6), 0, [])), (4, (.iload_n 0, 1, .null, 0, [])), (5, (.imul, 1, .null, 0, [])), (6, (.iadd, 1, .null, 0, [])), (7, (.iload_n 1, 1, .null, 0, [])), (8, (.iadd, 1, .null, 0, [])), (9, (.ireturn, 1, .null, 0, []))]
def tX5_spotOf : List (Nat × Ent) := tPX5_spotOf
theorem okX5_spotOf : tblOK cnX5 cX5_spotOf tX5_spotOf = true := by decide +kernel
def hX5_spotOf : List (Nat × List Bool) := []
noncomputable def eX5_spotOf : Cal := []
noncomputable def fPX5_spotOf (a0 : Int32) (a1 : Int32) : Option (Int32) := run (tPX5_spotOf) hX5_spotOf flX5 0 caG eX5_spotOf (some .int) kIN (FU + 1) 0 (loIn 2 [.int (a0), .int (a1)]) [] []
noncomputable def fX5_spotOf (a0 : Int32) (a1 : Int32) : Option (Int32) := fPX5_spotOf a0 a1
set_option maxRecDepth 100000 in
theorem fPX5_spotOf_eq (a0 : Int32) (a1 : Int32) : fPX5_spotOf a0 a1 = (some ((((21 : Int32) + ((6 : Int32) * a0)) + a1))) := rfl
theorem fX5_spotOf_eq (a0 : Int32) (a1 : Int32) : fX5_spotOf a0 a1 = (some ((((21 : Int32) + ((6 : Int32) * a0)) + a1))) := (fPX5_spotOf_eq a0 a1)
abbrev rX5_spotOf : Room := { frames := 0, cells := 0, slots := 0, locals := 0 }
set_option maxRecDepth 20000 in
theorem eX5_spotOf_ok : ∀ ix kd n F, eX5_spotOf.lookup ix = some (kd, n, F) → CallOK rX5_spotOf yX5_spotOf.cls cX5_spotOf ix kd n F := look_all look_nil
noncomputable def gX5_spotOf : Callee := mkG (α := Int32 × Int32) (σ := Unit) (τ := Int32) unN uaII (fun q => some (.int q)) (fun _ _ => []) (fun (a : Int32 × Int32) (u : Unit) => fX5_spotOf a.1 a.2)
theorem coreX5_spotOf : CoreOK yX5_spotOf rX5_spotOf cX5_spotOf 2 (some .int) 1 5 gX5_spotOf :=
  core_of (kd := 1) (α := Int32 × Int32) (σ := Unit) (τ := Int32) unN picN unN_ok uaII arII uaII_ok (fun q => some (.int q)) (fun _ _ => []) (fun (a : Int32 × Int32) (u : Unit) => fX5_spotOf a.1 a.2)
    (fun a u q h => doc_of_run (by decide) ⟨rfl, rfl⟩ flX5_ok cnX5_ok (fun h => absurd rfl h) eX5_spotOf_ok okX5_spotOf (Nat.le_of_ble_eq_true rfl) (fun v ws' e => kIN_ok e) rfl h) (fun e => by cases e)
-- X5_his
def tPX5_his : List (Nat × Ent) := [(0, (.aload_n 0, 1, .null, 0, [])), (1, (.getfield 7, 3, .null, 0, [])), (4, (.iload_n 1, 1, .null, 0, [])), (5, (.iload_n 2, 1, .null, 0, [])), (6, (.invokestatic 41, 3, .null, 0, [])), (9, (.iaload, 1, .null, 0, [])), (10, (.ireturn, 1, .null, 0, []))]
def tX5_his : List (Nat × Ent) := tPX5_his
theorem okX5_his : tblOK cnX5 cX5_his tX5_his = true := by decide +kernel
def hX5_his : List (Nat × List Bool) := []
noncomputable def eX5_his : Cal := [(41, 1, 2, (liftF fp0 gX5_placeOf))]
noncomputable def fPX5_his (a0 : Int32) (a1 : Int32) (u : MS) : Option (Int32 × MS) := run (tPX5_his) hX5_his flX5 0 caG eX5_his (some .int) kIM (FU + 1) 0 (loIn 3 [.ref 0, .int (a0), .int (a1)]) [] (picM u)
noncomputable def fX5_his (a0 : Int32) (a1 : Int32) (u : MS) : Option (Int32 × MS) := fPX5_his a0 a1 u
set_option maxRecDepth 100000 in
theorem fPX5_his_eq (a0 : Int32) (a1 : Int32) (u : MS) : fPX5_his a0 a1 u = ((fX5_placeOf a0 a1).bind fun q0 => (br (q0 < 0 ∨ 69 ≤ (q0).toNatClampNeg) none (some (((mS u) (q0).toNatClampNeg), u)))) := rfl
theorem fX5_his_eq (a0 : Int32) (a1 : Int32) (u : MS) : fX5_his a0 a1 u = ((fX5_placeOf a0 a1).bind fun q0 => (if q0 < 0 ∨ 69 ≤ (q0).toNatClampNeg then none else (some (((mS u) (q0).toNatClampNeg), u)))) := (fPX5_his_eq a0 a1 u).trans (by simp only [br_eq, if_true, if_false, tn0, tn1, tn2, tn3, tn4, tn5, tn6, tn8] <;> rfl)
abbrev rX5_his : Room := { frames := 1, cells := 0, slots := 0, locals := 21 }
set_option maxRecDepth 20000 in
theorem eX5_his_ok : ∀ ix kd n F, eX5_his.lookup ix = some (kd, n, F) → CallOK rX5_his yX5_his.cls cX5_his ix kd n F := look_all (look_cons (callOK_lift (ci := 5) ⟨⟨rfl, rfl, by decide, by decide⟩, u_249, u_250, u_247, ⟨by decide, by decide⟩, Or.inr ⟨rfl, u_251, by decide +kernel⟩⟩ coreX5_placeOf) look_nil)
noncomputable def gX5_his : Callee := mkG (α := Int32 × Int32) (σ := MS) (τ := Int32 × MS) unM uaR0II (fun q => some (.int q.1)) (fun _ q => picM q.2) (fun (a : Int32 × Int32) (u : MS) => fX5_his a.1 a.2 u)
theorem coreX5_his : CoreOK yX5_his rX5_his cX5_his 3 (some .int) 0 5 gX5_his :=
  core_of (kd := 0) (α := Int32 × Int32) (σ := MS) (τ := Int32 × MS) unM picM unM_ok uaR0II arR0II uaR0II_ok (fun q => some (.int q.1)) (fun _ q => picM q.2) (fun (a : Int32 × Int32) (u : MS) => fX5_his a.1 a.2 u)
    (fun a u q h => doc_of_run (by decide) ⟨rfl, rfl⟩ flX5_ok cnX5_ok (fun h => absurd rfl h) eX5_his_ok okX5_his (Nat.le_of_ble_eq_true rfl) (fun v ws' e => kIM_ok e) rfl h) (fun _ a u => ⟨0, _, _, rfl, rfl⟩)
-- X5_its
def tPX5_its : List (Nat × Ent) := [(0, (.aload_n 0, 1, .null, 0, [])), (1, (.getfield 7, 3, .null, 0, [])), (4, (.iload_n 1, 1, .null, 0, [])), (5, (.iload_n 2, 1, .null, 0, [])), (6, (.invokestatic 52, 3, .null, 0, [])), (9, (.iaload, 1, .null, 0, [])), (10, (.ireturn, 1, .null, 0, []))]
def tX5_its : List (Nat × Ent) := tPX5_its
theorem okX5_its : tblOK cnX5 cX5_its tX5_its = true := by decide +kernel
def hX5_its : List (Nat × List Bool) := []
noncomputable def eX5_its : Cal := [(52, 1, 2, (liftF fp0 gX5_spotOf))]
noncomputable def fPX5_its (a0 : Int32) (a1 : Int32) (u : MS) : Option (Int32 × MS) := run (tPX5_its) hX5_its flX5 0 caG eX5_its (some .int) kIM (FU + 1) 0 (loIn 3 [.ref 0, .int (a0), .int (a1)]) [] (picM u)
noncomputable def fX5_its (a0 : Int32) (a1 : Int32) (u : MS) : Option (Int32 × MS) := fPX5_its a0 a1 u
set_option maxRecDepth 100000 in
theorem fPX5_its_eq (a0 : Int32) (a1 : Int32) (u : MS) : fPX5_its a0 a1 u = ((fX5_spotOf a0 a1).bind fun q0 => (br (q0 < 0 ∨ 69 ≤ (q0).toNatClampNeg) none (some (((mS u) (q0).toNatClampNeg), u)))) := rfl
theorem fX5_its_eq (a0 : Int32) (a1 : Int32) (u : MS) : fX5_its a0 a1 u = ((fX5_spotOf a0 a1).bind fun q0 => (if q0 < 0 ∨ 69 ≤ (q0).toNatClampNeg then none else (some (((mS u) (q0).toNatClampNeg), u)))) := (fPX5_its_eq a0 a1 u).trans (by simp only [br_eq, if_true, if_false, tn0, tn1, tn2, tn3, tn4, tn5, tn6, tn8] <;> rfl)
abbrev rX5_its : Room := { frames := 1, cells := 0, slots := 0, locals := 21 }
set_option maxRecDepth 20000 in
theorem eX5_its_ok : ∀ ix kd n F, eX5_its.lookup ix = some (kd, n, F) → CallOK rX5_its yX5_its.cls cX5_its ix kd n F := look_all (look_cons (callOK_lift (ci := 5) ⟨⟨rfl, rfl, by decide, by decide⟩, u_252, u_253, u_247, ⟨by decide, by decide⟩, Or.inr ⟨rfl, u_254, by decide +kernel⟩⟩ coreX5_spotOf) look_nil)
noncomputable def gX5_its : Callee := mkG (α := Int32 × Int32) (σ := MS) (τ := Int32 × MS) unM uaR0II (fun q => some (.int q.1)) (fun _ q => picM q.2) (fun (a : Int32 × Int32) (u : MS) => fX5_its a.1 a.2 u)
theorem coreX5_its : CoreOK yX5_its rX5_its cX5_its 3 (some .int) 0 5 gX5_its :=
  core_of (kd := 0) (α := Int32 × Int32) (σ := MS) (τ := Int32 × MS) unM picM unM_ok uaR0II arR0II uaR0II_ok (fun q => some (.int q.1)) (fun _ q => picM q.2) (fun (a : Int32 × Int32) (u : MS) => fX5_its a.1 a.2 u)
    (fun a u q h => doc_of_run (by decide) ⟨rfl, rfl⟩ flX5_ok cnX5_ok (fun h => absurd rfl h) eX5_its_ok okX5_its (Nat.le_of_ble_eq_true rfl) (fun v ws' e => kIM_ok e) rfl h) (fun _ a u => ⟨0, _, _, rfl, rfl⟩)
-- X5_heldTo
def tPX5_heldTo : List (Nat × Ent) := [(0, (.iload_n 0, 1, .null, 0, [])), (1, (.iload_n 1, 1, .null, 0, [])), (2, (.if_icmp .le 7, 3, .null, 9, [])), (5, (.iload_n 1, 1, .null, 0, [])), (6, (.goto 4, 3, .null, 10, [])), (9, (.iload_n 0, 1, .null, 0, [])), (10, (.ireturn, 1, .null, 0, []))]
def tX5_heldTo : List (Nat × Ent) := tPX5_heldTo
theorem okX5_heldTo : tblOK cnX5 cX5_heldTo tX5_heldTo = true := by decide +kernel
def hX5_heldTo : List (Nat × List Bool) := []
noncomputable def eX5_heldTo : Cal := []
noncomputable def fPX5_heldTo (a0 : Int32) (a1 : Int32) : Option (Int32) := run (tPX5_heldTo) hX5_heldTo flX5 0 caG eX5_heldTo (some .int) kIN (FU + 1) 0 (loIn 2 [.int (a0), .int (a1)]) [] []
noncomputable def fX5_heldTo (a0 : Int32) (a1 : Int32) : Option (Int32) := fPX5_heldTo a0 a1
set_option maxRecDepth 100000 in
theorem fPX5_heldTo_eq (a0 : Int32) (a1 : Int32) : fPX5_heldTo a0 a1 = (br (a0 ≤ a1) (some a0) (some a1)) := rfl
theorem fX5_heldTo_eq (a0 : Int32) (a1 : Int32) : fX5_heldTo a0 a1 = (if a0 ≤ a1 then (some a0) else (some a1)) := (fPX5_heldTo_eq a0 a1).trans (by simp only [br_eq, if_true, if_false, tn0, tn1, tn2, tn3, tn4, tn5, tn6, tn8] <;> rfl)
abbrev rX5_heldTo : Room := { frames := 0, cells := 0, slots := 0, locals := 0 }
set_option maxRecDepth 20000 in
theorem eX5_heldTo_ok : ∀ ix kd n F, eX5_heldTo.lookup ix = some (kd, n, F) → CallOK rX5_heldTo yX5_heldTo.cls cX5_heldTo ix kd n F := look_all look_nil
noncomputable def gX5_heldTo : Callee := mkG (α := Int32 × Int32) (σ := Unit) (τ := Int32) unN uaII (fun q => some (.int q)) (fun _ _ => []) (fun (a : Int32 × Int32) (u : Unit) => fX5_heldTo a.1 a.2)
theorem coreX5_heldTo : CoreOK yX5_heldTo rX5_heldTo cX5_heldTo 2 (some .int) 1 5 gX5_heldTo :=
  core_of (kd := 1) (α := Int32 × Int32) (σ := Unit) (τ := Int32) unN picN unN_ok uaII arII uaII_ok (fun q => some (.int q)) (fun _ _ => []) (fun (a : Int32 × Int32) (u : Unit) => fX5_heldTo a.1 a.2)
    (fun a u q h => doc_of_run (by decide) ⟨rfl, rfl⟩ flX5_ok cnX5_ok (fun h => absurd rfl h) eX5_heldTo_ok okX5_heldTo (Nat.le_of_ble_eq_true rfl) (fun v ws' e => kIN_ok e) rfl h) (fun e => by cases e)
