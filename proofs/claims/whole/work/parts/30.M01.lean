-- X5_isThing
def tPX5_isThing : List (Nat × Ent) := [(0, (.iload_n 1, 1, .null, 0, [])), (1, (.i2l, 1, .null, 0, [])), (2, (.lconst 0, 1, .long (0), 0, [])), (3, (.aload_n 0, 1, .null, 0, [])), (4, (.getfield 7, 3, .null, 0, [])), (7, (.iconst 0, 1, .int (0), 0, [])), (8, (.iaload, 1, .null, 0, [])), (9, (.iconst 1, 1, .int (1), 0, [])), (10, (.isub, 1, .null, 0, [])), (11, (.i2l, 1, .null, 0, [])), (12, (.invokestatic 48, 3, .null, 0, [])), (15, (.ireturn, 1, .null, 0, []))]
def tX5_isThing : List (Nat × Ent) := tPX5_isThing
theorem okX5_isThing : tblOK cnX5 cX5_isThing tX5_isThing = true := by decide +kernel
def hX5_isThing : List (Nat × List Bool) := []
noncomputable def eX5_isThing : Cal := [(48, 1, 3, (liftF fp0 gX5_in))]
noncomputable def fPX5_isThing (a0 : Int32) (u : MS) : Option (Int32 × MS) := run (tPX5_isThing) hX5_isThing flX5 0 caG eX5_isThing (some .boolean) kIM (FU + 1) 0 (loIn 2 [.ref 0, .int (a0)]) [] (picM u)
noncomputable def fX5_isThing (a0 : Int32) (u : MS) : Option (Int32 × MS) := fPX5_isThing a0 u
set_option maxRecDepth 100000 in
theorem fPX5_isThing_eq (a0 : Int32) (u : MS) : fPX5_isThing a0 u = ((fX5_in (Int32.toInt64 a0) (0 : Int64) (Int32.toInt64 (((mS u) ((0 : Int32).toNatClampNeg)) - 1))).bind fun q0 => (if q0 = 0 ∨ q0 = 1 then (some (q0, u)) else none)) := rfl
theorem fX5_isThing_eq (a0 : Int32) (u : MS) : fX5_isThing a0 u = ((fX5_in (Int32.toInt64 a0) (0 : Int64) (Int32.toInt64 (((mS u) 0) - 1))).bind fun q0 => (if q0 = 0 ∨ q0 = 1 then (some (q0, u)) else none)) := (fPX5_isThing_eq a0 u).trans (by simp only [tn0, tn1, tn2, tn3, tn4, tn5, tn6] <;> rfl)
abbrev rX5_isThing : Room := { frames := 1, cells := 0, slots := 0, locals := 25 }
set_option maxRecDepth 20000 in
theorem eX5_isThing_ok : ∀ ix kd n F, eX5_isThing.lookup ix = some (kd, n, F) → CallOK rX5_isThing yX5_isThing.cls cX5_isThing ix kd n F := look_all (look_cons (callOK_lift (ci := 5) ⟨⟨rfl, rfl, by decide, by decide⟩, u_245, u_246, u_247, ⟨by decide, by decide⟩, Or.inr ⟨rfl, u_248, by decide +kernel⟩⟩ coreX5_in) look_nil)
noncomputable def gX5_isThing : Callee := mkG (α := Int32) (σ := MS) (τ := Int32 × MS) unM uaR0I (fun q => some (.int q.1)) (fun _ q => picM q.2) (fun (a : Int32) (u : MS) => fX5_isThing a u)
theorem coreX5_isThing : CoreOK yX5_isThing rX5_isThing cX5_isThing 2 (some .boolean) 0 5 gX5_isThing :=
  core_of (kd := 0) (α := Int32) (σ := MS) (τ := Int32 × MS) unM picM unM_ok uaR0I arR0I uaR0I_ok (fun q => some (.int q.1)) (fun _ q => picM q.2) (fun (a : Int32) (u : MS) => fX5_isThing a u)
    (fun a u q h => doc_of_run (by decide) ⟨rfl, rfl⟩ flX5_ok cnX5_ok (fun h => absurd rfl h) eX5_isThing_ok okX5_isThing (Nat.le_of_ble_eq_true rfl) (fun v ws' e => kIM_ok e) rfl h) (fun _ a u => ⟨0, _, _, rfl, rfl⟩)
-- X5_isKind
def tPX5_isKind (c1 : Int64) : List (Nat × Ent) := [(0, (.iload_n 0, 1, .null, 0, [])), (1, (.i2l, 1, .null, 0, [])), (2, (.lconst 0, 1, .long (0), 0, [])), (3, (.ldc2_w 46, 3, .long c1, 0, [])), (6, (.invokestatic 48, 3, .null, 0, [])), (9, (.ireturn, 1, .null, 0, []))]
def tX5_isKind : List (Nat × Ent) := tPX5_isKind (5)
theorem okX5_isKind : tblOK cnX5 cX5_isKind tX5_isKind = true := by decide +kernel
def hX5_isKind : List (Nat × List Bool) := []
noncomputable def eX5_isKind : Cal := [(48, 1, 3, (liftF fp0 gX5_in))]
noncomputable def fPX5_isKind (c1 : Int64) (a0 : Int32) : Option (Int32) := run (tPX5_isKind c1) hX5_isKind flX5 0 caG eX5_isKind (some .boolean) kIN (FU + 1) 0 (loIn 1 [.int (a0)]) [] []
noncomputable def fX5_isKind (a0 : Int32) : Option (Int32) := fPX5_isKind (5) a0
set_option maxRecDepth 100000 in
theorem fPX5_isKind_eq (c1 : Int64) (a0 : Int32) : fPX5_isKind c1 a0 = ((fX5_in (Int32.toInt64 a0) (0 : Int64) c1).bind fun q0 => (if q0 = 0 ∨ q0 = 1 then (some q0) else none)) := rfl
theorem fX5_isKind_eq (a0 : Int32) : fX5_isKind a0 = ((fX5_in (Int32.toInt64 a0) (0 : Int64) (5 : Int64)).bind fun q0 => (if q0 = 0 ∨ q0 = 1 then (some q0) else none)) := (fPX5_isKind_eq (5) a0)
abbrev rX5_isKind : Room := { frames := 1, cells := 0, slots := 0, locals := 25 }
set_option maxRecDepth 20000 in
theorem eX5_isKind_ok : ∀ ix kd n F, eX5_isKind.lookup ix = some (kd, n, F) → CallOK rX5_isKind yX5_isKind.cls cX5_isKind ix kd n F := look_all (look_cons (callOK_lift (ci := 5) ⟨⟨rfl, rfl, by decide, by decide⟩, u_245, u_246, u_247, ⟨by decide, by decide⟩, Or.inr ⟨rfl, u_248, by decide +kernel⟩⟩ coreX5_in) look_nil)
noncomputable def gX5_isKind : Callee := mkG (α := Int32) (σ := Unit) (τ := Int32) unN uaI (fun q => some (.int q)) (fun _ _ => []) (fun (a : Int32) (u : Unit) => fX5_isKind a)
theorem coreX5_isKind : CoreOK yX5_isKind rX5_isKind cX5_isKind 1 (some .boolean) 1 5 gX5_isKind :=
  core_of (kd := 1) (α := Int32) (σ := Unit) (τ := Int32) unN picN unN_ok uaI arI uaI_ok (fun q => some (.int q)) (fun _ _ => []) (fun (a : Int32) (u : Unit) => fX5_isKind a)
    (fun a u q h => doc_of_run (by decide) ⟨rfl, rfl⟩ flX5_ok cnX5_ok (fun h => absurd rfl h) eX5_isKind_ok okX5_isKind (Nat.le_of_ble_eq_true rfl) (fun v ws' e => kIN_ok e) rfl h) (fun e => by cases e)
-- X5_placeOf
def tX5_placeOf : List (Nat × Ent) := [(0, (.iconst 3, 1, .int (3), 0, [])), (1, (.iconst 3, 1, .int (3), 0, [])), (2, (.iload_n 0, 1, .null, 0, [])), (3, (.imul, 1, .null, 0, [])), (4, (.iadd, 1, .null, 0, [])), (5, (.iload_n 1, 1, .null, 0, [])), (6, (.iadd, 1, .null, 0, [])), (7, (.ireturn, 1, .null, 0, []))]
theorem okX5_placeOf : tblOK cnX5 cX5_placeOf tX5_placeOf = true := by decide +kernel
def hX5_placeOf : List (Nat × List Bool) := []
noncomputable def eX5_placeOf : Cal := []
noncomputable def fX5_placeOf (a0 : Int32) (a1 : Int32) : Option (Int32) := run tX5_placeOf hX5_placeOf flX5 0 caG eX5_placeOf (some .int) kIN (FU + 1) 0 (loIn 2 [.int (a0), .int (a1)]) [] []
set_option maxRecDepth 100000 in
theorem fX5_placeOf_eq (a0 : Int32) (a1 : Int32) : fX5_placeOf a0 a1 = (some ((((3 : Int32) + ((3 : Int32) * a0)) + a1))) := rfl
abbrev rX5_placeOf : Room := { frames := 0, cells := 0, slots := 0, locals := 0 }
set_option maxRecDepth 20000 in
theorem eX5_placeOf_ok : ∀ ix kd n F, eX5_placeOf.lookup ix = some (kd, n, F) → CallOK rX5_placeOf yX5_placeOf.cls cX5_placeOf ix kd n F := look_all look_nil
noncomputable def gX5_placeOf : Callee := mkG (α := Int32 × Int32) (σ := Unit) (τ := Int32) unN uaII (fun q => some (.int q)) (fun _ _ => []) (fun (a : Int32 × Int32) (u : Unit) => fX5_placeOf a.1 a.2)
theorem coreX5_placeOf : CoreOK yX5_placeOf rX5_placeOf cX5_placeOf 2 (some .int) 1 5 gX5_placeOf :=
  core_of (kd := 1) (α := Int32 × Int32) (σ := Unit) (τ := Int32) unN picN unN_ok uaII arII uaII_ok (fun q => some (.int q)) (fun _ _ => []) (fun (a : Int32 × Int32) (u : Unit) => fX5_placeOf a.1 a.2)
    (fun a u q h => doc_of_run (by decide) ⟨rfl, rfl⟩ flX5_ok cnX5_ok (fun h => absurd rfl h) eX5_placeOf_ok okX5_placeOf (Nat.le_of_ble_eq_true rfl) (fun v ws' e => kIN_ok e) rfl h) (fun e => by cases e)
-- X5_spotOf
def tX5_spotOf : List (Nat × Ent) := [(0, (.bipush 21, 2, .int (21), 0, [])), (2, (.bipush 6, 2, .int (6), 0, [])), (4, (.iload_n 0, 1, .null, 0, [])), (5, (.imul, 1, .null, 0, [])), (6, (.iadd, 1, .null, 0, [])), (7, (.iload_n 1, 1, .null, 0, [])), (8, (.iadd, 1, .null, 0, [])), (9, (.ireturn, 1, .null, 0, []))]
theorem okX5_spotOf : tblOK cnX5 cX5_spotOf tX5_spotOf = true := by decide +kernel
def hX5_spotOf : List (Nat × List Bool) := []
noncomputable def eX5_spotOf : Cal := []
noncomputable def fX5_spotOf (a0 : Int32) (a1 : Int32) : Option (Int32) := run tX5_spotOf hX5_spotOf flX5 0 caG eX5_spotOf (some .int) kIN (FU + 1) 0 (loIn 2 [.int (a0), .int (a1)]) [] []
set_option maxRecDepth 100000 in
theorem fX5_spotOf_eq (a0 : Int32) (a1 : Int32) : fX5_spotOf a0 a1 = (some ((((21 : Int32) + ((6 : Int32) * a0)) + a1))) := rfl
abbrev rX5_spotOf : Room := { frames := 0, cells := 0, slots := 0, locals := 0 }
set_option maxRecDepth 20000 in
theorem eX5_spotOf_ok : ∀ ix kd n F, eX5_spotOf.lookup ix = some (kd, n, F) → CallOK rX5_spotOf yX5_spotOf.cls cX5_spotOf ix kd n F := look_all look_nil
noncomputable def gX5_spotOf : Callee := mkG (α := Int32 × Int32) (σ := Unit) (τ := Int32) unN uaII (fun q => some (.int q)) (fun _ _ => []) (fun (a : Int32 × Int32) (u : Unit) => fX5_spotOf a.1 a.2)
theorem coreX5_spotOf : CoreOK yX5_spotOf rX5_spotOf cX5_spotOf 2 (some .int) 1 5 gX5_spotOf :=
  core_of (kd := 1) (α := Int32 × Int32) (σ := Unit) (τ := Int32) unN picN unN_ok uaII arII uaII_ok (fun q => some (.int q)) (fun _ _ => []) (fun (a : Int32 × Int32) (u : Unit) => fX5_spotOf a.1 a.2)
    (fun a u q h => doc_of_run (by decide) ⟨rfl, rfl⟩ flX5_ok cnX5_ok (fun h => absurd rfl h) eX5_spotOf_ok okX5_spotOf (Nat.le_of_ble_eq_true rfl) (fun v ws' e => kIN_ok e) rfl h) (fun e => by cases e)
-- X5_his
def tX5_his : List (Nat × Ent) := [(0, (.aload_n 0, 1, .null, 0, [])), (1, (.getfield 7, 3, .null, 0, [])), (4, (.iload_n 1, 1, .null, 0, [])), (5, (.iload_n 2, 1, .null, 0, [])), (6, (.invokestatic 41, 3, .null, 0, [])), (9, (.iaload, 1, .null, 0, [])), (10, (.ireturn, 1, .null, 0, []))]
theorem okX5_his : tblOK cnX5 cX5_his tX5_his = true := by decide +kernel
def hX5_his : List (Nat × List Bool) := []
noncomputable def eX5_his : Cal := [(41, 1, 2, (liftF fp0 gX5_placeOf))]
noncomputable def fX5_his (a0 : Int32) (a1 : Int32) (u : MS) : Option (Int32 × MS) := run tX5_his hX5_his flX5 0 caG eX5_his (some .int) kIM (FU + 1) 0 (loIn 3 [.ref 0, .int (a0), .int (a1)]) [] (picM u)
set_option maxRecDepth 100000 in
theorem fX5_his_eq (a0 : Int32) (a1 : Int32) (u : MS) : fX5_his a0 a1 u = ((fX5_placeOf a0 a1).bind fun q0 => (if q0 < 0 ∨ 69 ≤ (q0).toNatClampNeg then none else (some (((mS u) (q0).toNatClampNeg), u)))) := rfl
abbrev rX5_his : Room := { frames := 1, cells := 0, slots := 0, locals := 21 }
set_option maxRecDepth 20000 in
theorem eX5_his_ok : ∀ ix kd n F, eX5_his.lookup ix = some (kd, n, F) → CallOK rX5_his yX5_his.cls cX5_his ix kd n F := look_all (look_cons (callOK_lift (ci := 5) ⟨⟨rfl, rfl, by decide, by decide⟩, u_249, u_250, u_247, ⟨by decide, by decide⟩, Or.inr ⟨rfl, u_251, by decide +kernel⟩⟩ coreX5_placeOf) look_nil)
noncomputable def gX5_his : Callee := mkG (α := Int32 × Int32) (σ := MS) (τ := Int32 × MS) unM uaR0II (fun q => some (.int q.1)) (fun _ q => picM q.2) (fun (a : Int32 × Int32) (u : MS) => fX5_his a.1 a.2 u)
theorem coreX5_his : CoreOK yX5_his rX5_his cX5_his 3 (some .int) 0 5 gX5_his :=
  core_of (kd := 0) (α := Int32 × Int32) (σ := MS) (τ := Int32 × MS) unM picM unM_ok uaR0II arR0II uaR0II_ok (fun q => some (.int q.1)) (fun _ q => picM q.2) (fun (a : Int32 × Int32) (u : MS) => fX5_his a.1 a.2 u)
    (fun a u q h => doc_of_run (by decide) ⟨rfl, rfl⟩ flX5_ok cnX5_ok (fun h => absurd rfl h) eX5_his_ok okX5_his (Nat.le_of_ble_eq_true rfl) (fun v ws' e => kIM_ok e) rfl h) (fun _ a u => ⟨0, _, _, rfl, rfl⟩)
-- X5_its
def tX5_its : List (Nat × Ent) := [(0, (.aload_n 0, 1, .null, 0, [])), (1, (.getfield 7, 3, .null, 0, [])), (4, (.iload_n 1, 1, .null, 0, [])), (5, (.iload_n 2, 1, .null, 0, [])), (6, (.invokestatic 52, 3, .null, 0, [])), (9, (.iaload, 1, .null, 0, [])), (10, (.ireturn, 1, .null, 0, []))]
theorem okX5_its : tblOK cnX5 cX5_its tX5_its = true := by decide +kernel
def hX5_its : List (Nat × List Bool) := []
noncomputable def eX5_its : Cal := [(52, 1, 2, (liftF fp0 gX5_spotOf))]
noncomputable def fX5_its (a0 : Int32) (a1 : Int32) (u : MS) : Option (Int32 × MS) := run tX5_its hX5_its flX5 0 caG eX5_its (some .int) kIM (FU + 1) 0 (loIn 3 [.ref 0, .int (a0), .int (a1)]) [] (picM u)
set_option maxRecDepth 100000 in
theorem fX5_its_eq (a0 : Int32) (a1 : Int32) (u : MS) : fX5_its a0 a1 u = ((fX5_spotOf a0 a1).bind fun q0 => (if q0 < 0 ∨ 69 ≤ (q0).toNatClampNeg then none else (some (((mS u) (q0).toNatClampNeg), u)))) := rfl
abbrev rX5_its : Room := { frames := 1, cells := 0, slots := 0, locals := 21 }
set_option maxRecDepth 20000 in
theorem eX5_its_ok : ∀ ix kd n F, eX5_its.lookup ix = some (kd, n, F) → CallOK rX5_its yX5_its.cls cX5_its ix kd n F := look_all (look_cons (callOK_lift (ci := 5) ⟨⟨rfl, rfl, by decide, by decide⟩, u_252, u_253, u_247, ⟨by decide, by decide⟩, Or.inr ⟨rfl, u_254, by decide +kernel⟩⟩ coreX5_spotOf) look_nil)
noncomputable def gX5_its : Callee := mkG (α := Int32 × Int32) (σ := MS) (τ := Int32 × MS) unM uaR0II (fun q => some (.int q.1)) (fun _ q => picM q.2) (fun (a : Int32 × Int32) (u : MS) => fX5_its a.1 a.2 u)
theorem coreX5_its : CoreOK yX5_its rX5_its cX5_its 3 (some .int) 0 5 gX5_its :=
  core_of (kd := 0) (α := Int32 × Int32) (σ := MS) (τ := Int32 × MS) unM picM unM_ok uaR0II arR0II uaR0II_ok (fun q => some (.int q.1)) (fun _ q => picM q.2) (fun (a : Int32 × Int32) (u : MS) => fX5_its a.1 a.2 u)
    (fun a u q h => doc_of_run (by decide) ⟨rfl, rfl⟩ flX5_ok cnX5_ok (fun h => absurd rfl h) eX5_its_ok okX5_its (Nat.le_of_ble_eq_true rfl) (fun v ws' e => kIM_ok e) rfl h) (fun _ a u => ⟨0, _, _, rfl, rfl⟩)
-- X5_heldTo
def tX5_heldTo : List (Nat × Ent) := [(0, (.iload_n 0, 1, .null, 0, [])), (1, (.iload_n 1, 1, .null, 0, [])), (2, (.if_icmp .le 7, 3, .null, 9, [])), (5, (.iload_n 1, 1, .null, 0, [])), (6, (.goto 4, 3, .null, 10, [])), (9, (.iload_n 0, 1, .null, 0, [])), (10, (.ireturn, 1, .null, 0, []))]
theorem okX5_heldTo : tblOK cnX5 cX5_heldTo tX5_heldTo = true := by decide +kernel
def hX5_heldTo : List (Nat × List Bool) := []
noncomputable def eX5_heldTo : Cal := []
noncomputable def fX5_heldTo (a0 : Int32) (a1 : Int32) : Option (Int32) := run tX5_heldTo hX5_heldTo flX5 0 caG eX5_heldTo (some .int) kIN (FU + 1) 0 (loIn 2 [.int (a0), .int (a1)]) [] []
set_option maxRecDepth 100000 in
theorem fX5_heldTo_eq (a0 : Int32) (a1 : Int32) : fX5_heldTo a0 a1 = (if a0 ≤ a1 then (some a0) else (some a1)) := rfl
abbrev rX5_heldTo : Room := { frames := 0, cells := 0, slots := 0, locals := 0 }
set_option maxRecDepth 20000 in
theorem eX5_heldTo_ok : ∀ ix kd n F, eX5_heldTo.lookup ix = some (kd, n, F) → CallOK rX5_heldTo yX5_heldTo.cls cX5_heldTo ix kd n F := look_all look_nil
noncomputable def gX5_heldTo : Callee := mkG (α := Int32 × Int32) (σ := Unit) (τ := Int32) unN uaII (fun q => some (.int q)) (fun _ _ => []) (fun (a : Int32 × Int32) (u : Unit) => fX5_heldTo a.1 a.2)
theorem coreX5_heldTo : CoreOK yX5_heldTo rX5_heldTo cX5_heldTo 2 (some .int) 1 5 gX5_heldTo :=
  core_of (kd := 1) (α := Int32 × Int32) (σ := Unit) (τ := Int32) unN picN unN_ok uaII arII uaII_ok (fun q => some (.int q)) (fun _ _ => []) (fun (a : Int32 × Int32) (u : Unit) => fX5_heldTo a.1 a.2)
    (fun a u q h => doc_of_run (by decide) ⟨rfl, rfl⟩ flX5_ok cnX5_ok (fun h => absurd rfl h) eX5_heldTo_ok okX5_heldTo (Nat.le_of_ble_eq_true rfl) (fun v ws' e => kIN_ok e) rfl h) (fun e => by cases e)
-- X5_ones
def tX5_ones : List (Nat × Ent) := [(0, (.iconst 0, 1, .int (0), 0, [])), (1, (.istore_n 1, 1, .null, 0, [])), (2, (.iload_n 0, 1, .null, 0, [])), (3, (.istore_n 2, 1, .null, 0, [])), (4, (.iload_n 2, 1, .null, 0, [])), (5, (.ifCond .eq 15, 3, .null, 20, [])), (8, (.iinc 1 1, 3, .int (1), 0, [])), (11, (.iload_n 2, 1, .null, 0, [])), (12, (.iload_n 2, 1, .null, 0, [])), (13, (.iconst 1, 1, .int (1), 0, [])), (14, (.isub, 1, .null, 0, [])), (15, (.iand, 1, .null, 0, [])), (16, (.istore_n 2, 1, .null, 0, [])), (17, (.goto (-13), 3, .null, 4, [])), (20, (.iload_n 1, 1, .null, 0, [])), (21, (.ireturn, 1, .null, 0, []))]
theorem okX5_ones : tblOK cnX5 cX5_ones tX5_ones = true := by decide +kernel
def hX5_ones : List (Nat × List Bool) := [(4, [false, true, true])]
noncomputable def eX5_ones : Cal := []
noncomputable def fX5_ones (a0 : Int32) : Option (Int32) := run tX5_ones hX5_ones flX5 0 caG eX5_ones (some .int) kIN (FU + 1) 0 (loIn 3 [.int (a0)]) [] []
noncomputable def lX5_ones_4 (n : Nat) (x1 : Int32) (x2 : Int32) : Option (Int32) := run tX5_ones hX5_ones flX5 0 caG eX5_ones (some .int) kIN n 4 [none, some (.int (x1)), some (.int (x2))] [] []
set_option maxRecDepth 100000 in
theorem lX5_ones_4_eq (n : Nat) (x1 : Int32) (x2 : Int32) : lX5_ones_4 (n + 1) x1 x2 = (if x2 = 0 then (some x1) else (lX5_ones_4 n ((x1 + 1)) ((x2 &&& (x2 - 1))))) := rfl
set_option maxRecDepth 100000 in
theorem fX5_ones_eq (a0 : Int32) : fX5_ones a0 = (lX5_ones_4 FU 0 a0) := rfl
abbrev rX5_ones : Room := { frames := 0, cells := 0, slots := 0, locals := 0 }
set_option maxRecDepth 20000 in
theorem eX5_ones_ok : ∀ ix kd n F, eX5_ones.lookup ix = some (kd, n, F) → CallOK rX5_ones yX5_ones.cls cX5_ones ix kd n F := look_all look_nil
noncomputable def gX5_ones : Callee := mkG (α := Int32) (σ := Unit) (τ := Int32) unN uaI (fun q => some (.int q)) (fun _ _ => []) (fun (a : Int32) (u : Unit) => fX5_ones a)
theorem coreX5_ones : CoreOK yX5_ones rX5_ones cX5_ones 3 (some .int) 1 5 gX5_ones :=
  core_of (kd := 1) (α := Int32) (σ := Unit) (τ := Int32) unN picN unN_ok uaI arI uaI_ok (fun q => some (.int q)) (fun _ _ => []) (fun (a : Int32) (u : Unit) => fX5_ones a)
    (fun a u q h => doc_of_run (by decide) ⟨rfl, rfl⟩ flX5_ok cnX5_ok (fun h => absurd rfl h) eX5_ones_ok okX5_ones (Nat.le_of_ble_eq_true rfl) (fun v ws' e => kIN_ok e) rfl h) (fun e => by cases e)
