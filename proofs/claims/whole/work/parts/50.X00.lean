-- X4_isPerson
def tPX4_isPerson : List (Nat × Ent) := [(0, (.iload_n 0, 1, .null, 0, [])), (1, (.ifCond .lt 13, 3, .null, 14, [])), (4, (.iload_n 0, 1, .null, 0, [])), (5, (.bipush 6, 2, .int (6), 0, [])), (7, (.if_icmp .ge 7, 3, .null, 14, [])), (10, (.iconst 1, 1, .int (1), 0, [])), (11, (.goto 4, 3, .null, 15, [])), (14, (.iconst 0, 1, .int (0), 0, [])), (15, (.ireturn, 1, .null, 0, []))]
def tX4_isPerson : List (Nat × Ent) := tPX4_isPerson
theorem okX4_isPerson : tblOK cnX4 cX4_isPerson tX4_isPerson = true := by decide +kernel
def hX4_isPerson : List (Nat × List Bool) := []
noncomputable def eX4_isPerson : Cal := []
noncomputable def fPX4_isPerson (a0 : Int32) : Option (Int32) := run (tPX4_isPerson) hX4_isPerson flX4 0 caG eX4_isPerson (some .boolean) kIN (FU + 1) 0 (loIn 1 [.int (a0)]) [] []
noncomputable def fX4_isPerson (a0 : Int32) : Option (Int32) := fPX4_isPerson a0
set_option maxRecDepth 100000 in
set_option maxHeartbeats 8000000 in
theorem fPX4_isPerson_eq (a0 : Int32) : fPX4_isPerson a0 = (br (a0 < 0) (br ((0 : Int32) = 0 ∨ (0 : Int32) = 1) (some 0) none) (br ((6 : Int32) ≤ a0) (br ((0 : Int32) = 0 ∨ (0 : Int32) = 1) (some 0) none) (br ((1 : Int32) = 0 ∨ (1 : Int32) = 1) (some 1) none))) := rfl
theorem fX4_isPerson_eq (a0 : Int32) : fX4_isPerson a0 = (if a0 < 0 then (some 0) else (if (6 : Int32) ≤ a0 then (some 0) else (some 1))) := (fPX4_isPerson_eq a0).trans (by simp only [br_eq, if_true, if_false, tn0, tn1, tn2, tn3, tn4, tn5, tn6, tn8, bl0, bl1] <;> rfl)
abbrev rX4_isPerson : Room := { frames := 0, cells := 0, slots := 0, locals := 0 }
set_option maxRecDepth 20000 in
theorem eX4_isPerson_ok : ∀ ix kd n F, eX4_isPerson.lookup ix = some (kd, n, F) → CallOK rX4_isPerson yX4_isPerson.cls cX4_isPerson ix kd n F := look_all look_nil
noncomputable def gX4_isPerson : Callee := mkG (α := Int32) (σ := Unit) (τ := Int32) unN uaI (fun q => some (.int q)) (fun _ _ => []) (fun (a : Int32) (u : Unit) => fX4_isPerson a)
theorem coreX4_isPerson : CoreOK yX4_isPerson rX4_isPerson cX4_isPerson 1 (some .boolean) 1 4 gX4_isPerson :=
  core_of (kd := 1) (α := Int32) (σ := Unit) (τ := Int32) unN picN unN_ok uaI arI uaI_ok (fun q => some (.int q)) (fun _ _ => []) (fun (a : Int32) (u : Unit) => fX4_isPerson a)
    (fun a u q h => doc_of_run (by decide) ⟨rfl, rfl⟩ flX4_ok cnX4_ok (fun h => absurd rfl h) eX4_isPerson_ok okX4_isPerson (Nat.le_of_ble_eq_true rfl) (fun v ws' e => kIN_ok e) rfl h) (fun e => by cases e)
-- X4_mostOfPerson
def tPX4_mostOfPerson (c1 : Int32) (c2 : Int32) : List (Nat × Ent) := [(0, (.iload_n 0, 1, .null, 0, [])), (1, (.tableswitch 38 0 2 #[27, 30, 34], 27, .null, 39, [(0, 28), (1, 31), (2, 35)])), (28, (.ldc 252, 2, .int c1, 0, [])), (30, (.ireturn, 1, .null, 0, [])), (31, (.sipush 999, 3, .int c2, 0, [])), (34, (.ireturn, 1, .null, 0, [])), (35, (.sipush 999, 3, .int c2, 0, [])), (38, (.ireturn, 1, .null, 0, [])), (39, (.iconst (-1), 1, .int (-1), 0, [])), (40, (.ireturn, 1, .null, 0, []))]
def tX4_mostOfPerson : List (Nat × Ent) := tPX4_mostOfPerson (999999) (999)
theorem okX4_mostOfPerson : tblOK cnX4 cX4_mostOfPerson tX4_mostOfPerson = true := by decide +kernel
def hX4_mostOfPerson : List (Nat × List Bool) := []
noncomputable def eX4_mostOfPerson : Cal := []
noncomputable def fPX4_mostOfPerson (c1 : Int32) (c2 : Int32) (a0 : Int32) : Option (Int32) := run (tPX4_mostOfPerson c1 c2) hX4_mostOfPerson flX4 0 caG eX4_mostOfPerson (some .int) kIN (FU + 1) 0 (loIn 1 [.int (a0)]) [] []
noncomputable def fX4_mostOfPerson (a0 : Int32) : Option (Int32) := fPX4_mostOfPerson (999999) (999) a0
set_option maxRecDepth 100000 in
set_option maxHeartbeats 8000000 in
theorem fPX4_mostOfPerson_eq (c1 : Int32) (c2 : Int32) (a0 : Int32) : fPX4_mostOfPerson c1 c2 a0 = (br (a0 = 0) (some (c1)) (br (a0 = 1) (some (c2)) (br (a0 = 2) (some (c2)) (some ((-1 : Int32)))))) := rfl
theorem fX4_mostOfPerson_eq (a0 : Int32) : fX4_mostOfPerson a0 = (if a0 = 0 then (some ((999999 : Int32))) else (if a0 = 1 then (some ((999 : Int32))) else (if a0 = 2 then (some ((999 : Int32))) else (some ((-1 : Int32)))))) := (fPX4_mostOfPerson_eq (999999) (999) a0).trans (by simp only [br_eq, if_true, if_false, tn0, tn1, tn2, tn3, tn4, tn5, tn6, tn8] <;> rfl)
abbrev rX4_mostOfPerson : Room := { frames := 0, cells := 0, slots := 0, locals := 0 }
set_option maxRecDepth 20000 in
theorem eX4_mostOfPerson_ok : ∀ ix kd n F, eX4_mostOfPerson.lookup ix = some (kd, n, F) → CallOK rX4_mostOfPerson yX4_mostOfPerson.cls cX4_mostOfPerson ix kd n F := look_all look_nil
noncomputable def gX4_mostOfPerson : Callee := mkG (α := Int32) (σ := Unit) (τ := Int32) unN uaI (fun q => some (.int q)) (fun _ _ => []) (fun (a : Int32) (u : Unit) => fX4_mostOfPerson a)
theorem coreX4_mostOfPerson : CoreOK yX4_mostOfPerson rX4_mostOfPerson cX4_mostOfPerson 1 (some .int) 1 4 gX4_mostOfPerson :=
  core_of (kd := 1) (α := Int32) (σ := Unit) (τ := Int32) unN picN unN_ok uaI arI uaI_ok (fun q => some (.int q)) (fun _ _ => []) (fun (a : Int32) (u : Unit) => fX4_mostOfPerson a)
    (fun a u q h => doc_of_run (by decide) ⟨rfl, rfl⟩ flX4_ok cnX4_ok (fun h => absurd rfl h) eX4_mostOfPerson_ok okX4_mostOfPerson (Nat.le_of_ble_eq_true rfl) (fun v ws' e => kIN_ok e) rfl h) (fun e => by cases e)
-- X4_isWithin
def tPX4_isWithin : List (Nat × Ent) := [(0, (.iload_n 0, 1, .null, 0, [])), (1, (.iload_n 1, 1, .null, 0, [])), (2, (.if_icmp .lt 12, 3, .null, 14, [])), (5, (.iload_n 0, 1, .null, 0, [])), (6, (.iload_n 2, 1, .null, 0, [])), (7, (.if_icmp .gt 7, 3, .null, 14, [])), (10, (.iconst 1, 1, .int (1), 0, [])), (11, (.goto 4, 3, .null, 15, [])), (14, (.iconst 0, 1, .int (0), 0, [])), (15, (.ireturn, 1, .null, 0, []))]
def tX4_isWithin : List (Nat × Ent) := tPX4_isWithin
theorem okX4_isWithin : tblOK cnX4 cX4_isWithin tX4_isWithin = true := by decide +kernel
def hX4_isWithin : List (Nat × List Bool) := []
noncomputable def eX4_isWithin : Cal := []
noncomputable def fPX4_isWithin (a0 : Int32) (a1 : Int32) (a2 : Int32) : Option (Int32) := run (tPX4_isWithin) hX4_isWithin flX4 0 caG eX4_isWithin (some .boolean) kIN (FU + 1) 0 (loIn 3 [.int (a0), .int (a1), .int (a2)]) [] []
noncomputable def fX4_isWithin (a0 : Int32) (a1 : Int32) (a2 : Int32) : Option (Int32) := fPX4_isWithin a0 a1 a2
set_option maxRecDepth 100000 in
set_option maxHeartbeats 8000000 in
theorem fPX4_isWithin_eq (a0 : Int32) (a1 : Int32) (a2 : Int32) : fPX4_isWithin a0 a1 a2 = (br (a0 < a1) (br ((0 : Int32) = 0 ∨ (0 : Int32) = 1) (some 0) none) (br (a2 < a0) (br ((0 : Int32) = 0 ∨ (0 : Int32) = 1) (some 0) none) (br ((1 : Int32) = 0 ∨ (1 : Int32) = 1) (some 1) none))) := rfl
theorem fX4_isWithin_eq (a0 : Int32) (a1 : Int32) (a2 : Int32) : fX4_isWithin a0 a1 a2 = (if a0 < a1 then (some 0) else (if a2 < a0 then (some 0) else (some 1))) := (fPX4_isWithin_eq a0 a1 a2).trans (by simp only [br_eq, if_true, if_false, tn0, tn1, tn2, tn3, tn4, tn5, tn6, tn8, bl0, bl1] <;> rfl)
abbrev rX4_isWithin : Room := { frames := 0, cells := 0, slots := 0, locals := 0 }
set_option maxRecDepth 20000 in
theorem eX4_isWithin_ok : ∀ ix kd n F, eX4_isWithin.lookup ix = some (kd, n, F) → CallOK rX4_isWithin yX4_isWithin.cls cX4_isWithin ix kd n F := look_all look_nil
noncomputable def gX4_isWithin : Callee := mkG (α := Int32 × Int32 × Int32) (σ := Unit) (τ := Int32) unN uaIII (fun q => some (.int q)) (fun _ _ => []) (fun (a : Int32 × Int32 × Int32) (u : Unit) => fX4_isWithin a.1 a.2.1 a.2.2)
theorem coreX4_isWithin : CoreOK yX4_isWithin rX4_isWithin cX4_isWithin 3 (some .boolean) 1 4 gX4_isWithin :=
  core_of (kd := 1) (α := Int32 × Int32 × Int32) (σ := Unit) (τ := Int32) unN picN unN_ok uaIII arIII uaIII_ok (fun q => some (.int q)) (fun _ _ => []) (fun (a : Int32 × Int32 × Int32) (u : Unit) => fX4_isWithin a.1 a.2.1 a.2.2)
    (fun a u q h => doc_of_run (by decide) ⟨rfl, rfl⟩ flX4_ok cnX4_ok (fun h => absurd rfl h) eX4_isWithin_ok okX4_isWithin (Nat.le_of_ble_eq_true rfl) (fun v ws' e => kIN_ok e) rfl h) (fun e => by cases e)
-- X4_found
def tPX4_found (c1 : Int32) : List (Nat × Ent) := [(0, (.ldc 61, 2, .int c1, 0, [])), (2, (.iload_n 1, 1, .null, 0, [])), (3, (.isub, 1, .null, 0, [])), (4, (.istore_n 2, 1, .null, 0, [])), (5, (.iload_n 2, 1, .null, 0, [])), (6, (.ifCond .lt 19, 3, .null, 25, [])), (9, (.iload_n 2, 1, .null, 0, [])), (10, (.bipush 7, 2, .int (7), 0, [])), (12, (.if_icmp .ge 13, 3, .null, 25, [])), (15, (.aload_n 0, 1, .null, 0, [])), (16, (.getfield 45, 3, .null, 0, [])), (19, (.iload_n 2, 1, .null, 0, [])), (20, (.dup2, 1, .null, 0, [])), (21, (.iaload, 1, .null, 0, [])), (22, (.iconst 1, 1, .int (1), 0, [])), (23, (.iadd, 1, .null, 0, [])), (24, (.iastore, 1, .null, 0, [])), (25, (.iload_n 1, 1, .null, 0, [])), (26, (.ireturn, 1, .null, 0, []))]
def tX4_found : List (Nat × Ent) := tPX4_found (-1000000001)
theorem okX4_found : tblOK cnX4 cX4_found tX4_found = true := by decide +kernel
def hX4_found : List (Nat × List Bool) := []
noncomputable def eX4_found : Cal := []
noncomputable def fPX4_found (c1 : Int32) (a0 : Int32) (u : XS) : Option (Int32 × XS) := run (tPX4_found c1) hX4_found flX4 0 caG eX4_found (some .int) kIX (FU + 1) 0 (loIn 3 [.ref 0, .int (a0)]) [] (picX u)
noncomputable def fX4_found (a0 : Int32) (u : XS) : Option (Int32 × XS) := fPX4_found (-1000000001) a0 u
set_option maxRecDepth 100000 in
set_option maxHeartbeats 8000000 in
theorem fPX4_found_eq (c1 : Int32) (a0 : Int32) (u : XS) : fPX4_found c1 a0 u = (br ((c1 - a0) < 0) (some (a0, u)) (br ((7 : Int32) ≤ (c1 - a0)) (some (a0, u)) (br ((c1 - a0) < 0 ∨ 7 ≤ ((c1 - a0)).toNatClampNeg) none (br ((c1 - a0) < 0 ∨ 7 ≤ ((c1 - a0)).toNatClampNeg) none (some (a0, (xFnd' u (upd (xFnd u) ((c1 - a0)).toNatClampNeg (((xFnd u) ((c1 - a0)).toNatClampNeg) + 1))))))))) := rfl
theorem fX4_found_eq (a0 : Int32) (u : XS) : fX4_found a0 u = (if ((-1000000001 : Int32) - a0) < 0 then (some (a0, u)) else (if (7 : Int32) ≤ ((-1000000001 : Int32) - a0) then (some (a0, u)) else (if ((-1000000001 : Int32) - a0) < 0 ∨ 7 ≤ (((-1000000001 : Int32) - a0)).toNatClampNeg then none else (if ((-1000000001 : Int32) - a0) < 0 ∨ 7 ≤ (((-1000000001 : Int32) - a0)).toNatClampNeg then none else (some (a0, (xFnd' u (upd (xFnd u) (((-1000000001 : Int32) - a0)).toNatClampNeg (((xFnd u) (((-1000000001 : Int32) - a0)).toNatClampNeg) + 1))))))))) := (fPX4_found_eq (-1000000001) a0 u).trans (by simp only [br_eq, if_true, if_false, tn0, tn1, tn2, tn3, tn4, tn5, tn6, tn8] <;> rfl)
abbrev rX4_found : Room := { frames := 0, cells := 0, slots := 0, locals := 0 }
set_option maxRecDepth 20000 in
theorem eX4_found_ok : ∀ ix kd n F, eX4_found.lookup ix = some (kd, n, F) → CallOK rX4_found yX4_found.cls cX4_found ix kd n F := look_all look_nil
noncomputable def gX4_found : Callee := mkG (α := Int32) (σ := XS) (τ := Int32 × XS) unX uaR0I (fun q => some (.int q.1)) (fun _ q => picX q.2) (fun (a : Int32) (u : XS) => fX4_found a u)
theorem coreX4_found : CoreOK yX4_found rX4_found cX4_found 3 (some .int) 0 4 gX4_found :=
  core_of (kd := 0) (α := Int32) (σ := XS) (τ := Int32 × XS) unX picX unX_ok uaR0I arR0I uaR0I_ok (fun q => some (.int q.1)) (fun _ q => picX q.2) (fun (a : Int32) (u : XS) => fX4_found a u)
    (fun a u q h => doc_of_run (by decide) ⟨rfl, rfl⟩ flX4_ok cnX4_ok (fun h => absurd rfl h) eX4_found_ok okX4_found (Nat.le_of_ble_eq_true rfl) (fun v ws' e => kIX_ok e) rfl h) (fun _ a u => ⟨0, _, _, rfl, rfl⟩)
-- X4_person
def tPX4_person (c1 : Int32) : List (Nat × Ent) := [(0, (.iload_n 1, 1, .null, 0, [])), (1, (.invokestatic 49, 3, .null, 0, [])), (4, (.ifCond .eq 15, 3, .null, 19, [])), (7, (.iload_n 3, 1, .null, 0, [])), (8, (.iconst 0, 1, .int (0), 0, [])), (9, (.iload_n 2, 1, .null, 0, [])), (10, (.invokestatic 53, 3, .null, 0, [])), (13, (.invokestatic 57, 3, .null, 0, [])), (16, (.ifCond .ne 10, 3, .null, 26, [])), (19, (.aload_n 0, 1, .null, 0, [])), (20, (.ldc 61, 2, .int c1, 0, [])), (22, (.invokevirtual 62, 3, .null, 0, [])), (25, (.ireturn, 1, .null, 0, [])), (26, (.iload_n 2, 1, .null, 0, [])), (27, (.ifCond .ne 13, 3, .null, 40, [])), (30, (.aload_n 0, 1, .null, 0, [])), (31, (.getfield 12, 3, .null, 0, [])), (34, (.getfield 65, 3, .null, 0, [])), (37, (.goto 25, 3, .null, 62, [])), (40, (.iload_n 2, 1, .null, 0, [])), (41, (.iconst 1, 1, .int (1), 0, [])), (42, (.if_icmp .ne 13, 3, .null, 55, [])), (45, (.aload_n 0, 1, .null, 0, [])), (46, (.getfield 12, 3, .null, 0, [])), (49, (.getfield 68, 3, .null, 0, [])), (52, (.goto 10, 3, .null, 62, [])), (55, (.aload_n 0, 1, .null, 0, [])), (56, (.getfield 12, 3, .null, 0, [])), (59, (.getfield 71, 3, .null, 0, [])), (62, (.astore 4, 2, .null, 0, [])), (64, (.aload 4, 2, .null, 0, [])), (66, (.iload_n 1, 1, .null, 0, [])), (67, (.iaload, 1, .null, 0, [])), (68, (.istore 5, 2, .null, 0, [])), (70, (.aload 4, 2, .null, 0, [])), (72, (.iload_n 1, 1, .null, 0, [])), (73, (.iload_n 3, 1, .null, 0, [])), (74, (.iastore, 1, .null, 0, [])), (75, (.iload 5, 2, .null, 0, [])), (77, (.ireturn, 1, .null, 0, []))]
def tX4_person : List (Nat × Ent) := tPX4_person (-1000000001)
theorem okX4_person : tblOK cnX4 cX4_person tX4_person = true := by decide +kernel
def hX4_person : List (Nat × List Bool) := []
noncomputable def eX4_person : Cal := [(49, 1, 1, (statF gX4_isPerson)), (53, 1, 1, (statF gX4_mostOfPerson)), (57, 1, 3, (statF gX4_isWithin)), (62, 0, 2, gX4_found)]
noncomputable def fPX4_person (c1 : Int32) (a0 : Int32) (a1 : Int32) (a2 : Int32) (u : XS) : Option (Int32 × XS) := run (tPX4_person c1) hX4_person flX4 0 caG eX4_person (some .int) kIX (FU + 1) 0 (loIn 6 [.ref 0, .int (a0), .int (a1), .int (a2)]) [] (picX u)
noncomputable def fX4_person (a0 : Int32) (a1 : Int32) (a2 : Int32) (u : XS) : Option (Int32 × XS) := fPX4_person (-1000000001) a0 a1 a2 u
set_option maxRecDepth 100000 in
set_option maxHeartbeats 8000000 in
theorem fPX4_person_eq (c1 : Int32) (a0 : Int32) (a1 : Int32) (a2 : Int32) (u : XS) : fPX4_person c1 a0 a1 a2 u = ((fX4_isPerson a0).bind fun q0 => (br (q0 = 0) ((fX4_found c1 u).bind fun q1 => (some (q1.1, q1.2))) ((fX4_mostOfPerson a1).bind fun q1 => ((fX4_isWithin a2 0 q1).bind fun q2 => (br (q2 = 0) ((fX4_found c1 u).bind fun q3 => (some (q3.1, q3.2))) (br (a1 = 0) (br (a0 < 0 ∨ 6 ≤ (a0).toNatClampNeg) none (br (a0 < 0 ∨ 6 ≤ (a0).toNatClampNeg) none (some (((sMns (xRoom u)) (a0).toNatClampNeg), (xRoom' u (sMns' (xRoom u) (upd (sMns (xRoom u)) (a0).toNatClampNeg a2))))))) (br (a1 = 1) (br (a0 < 0 ∨ 6 ≤ (a0).toNatClampNeg) none (br (a0 < 0 ∨ 6 ≤ (a0).toNatClampNeg) none (some (((sErn (xRoom u)) (a0).toNatClampNeg), (xRoom' u (sErn' (xRoom u) (upd (sErn (xRoom u)) (a0).toNatClampNeg a2))))))) (br (a0 < 0 ∨ 6 ≤ (a0).toNatClampNeg) none (br (a0 < 0 ∨ 6 ≤ (a0).toNatClampNeg) none (some (((sSpd (xRoom u)) (a0).toNatClampNeg), (xRoom' u (sSpd' (xRoom u) (upd (sSpd (xRoom u)) (a0).toNatClampNeg a2)))))))))))))) := rfl
theorem fX4_person_eq (a0 : Int32) (a1 : Int32) (a2 : Int32) (u : XS) : fX4_person a0 a1 a2 u = ((fX4_isPerson a0).bind fun q0 => (if q0 = 0 then ((fX4_found (-1000000001 : Int32) u).bind fun q1 => (some (q1.1, q1.2))) else ((fX4_mostOfPerson a1).bind fun q1 => ((fX4_isWithin a2 0 q1).bind fun q2 => (if q2 = 0 then ((fX4_found (-1000000001 : Int32) u).bind fun q3 => (some (q3.1, q3.2))) else (if a1 = 0 then (if a0 < 0 ∨ 6 ≤ (a0).toNatClampNeg then none else (if a0 < 0 ∨ 6 ≤ (a0).toNatClampNeg then none else (some (((sMns (xRoom u)) (a0).toNatClampNeg), (xRoom' u (sMns' (xRoom u) (upd (sMns (xRoom u)) (a0).toNatClampNeg a2))))))) else (if a1 = 1 then (if a0 < 0 ∨ 6 ≤ (a0).toNatClampNeg then none else (if a0 < 0 ∨ 6 ≤ (a0).toNatClampNeg then none else (some (((sErn (xRoom u)) (a0).toNatClampNeg), (xRoom' u (sErn' (xRoom u) (upd (sErn (xRoom u)) (a0).toNatClampNeg a2))))))) else (if a0 < 0 ∨ 6 ≤ (a0).toNatClampNeg then none else (if a0 < 0 ∨ 6 ≤ (a0).toNatClampNeg then none else (some (((sSpd (xRoom u)) (a0).toNatClampNeg), (xRoom' u (sSpd' (xRoom u) (upd (sSpd (xRoom u)) (a0).toNatClampNeg a2)))))))))))))) := (fPX4_person_eq (-1000000001) a0 a1 a2 u).trans (by simp only [br_eq, if_true, if_false, tn0, tn1, tn2, tn3, tn4, tn5, tn6, tn8] <;> rfl)
abbrev rX4_person : Room := { frames := 1, cells := 0, slots := 0, locals := 22 }
set_option maxRecDepth 20000 in
theorem eX4_person_ok : ∀ ix kd n F, eX4_person.lookup ix = some (kd, n, F) → CallOK rX4_person yX4_person.cls cX4_person ix kd n F := look_all (look_cons (callOK_stat (ci := 4) ⟨⟨rfl, rfl, by decide, by decide⟩, u_134, u_135, u_125, ⟨by decide, by decide⟩, Or.inr ⟨rfl, u_136, by decide +kernel⟩⟩ coreX4_isPerson) (look_cons (callOK_stat (ci := 4) ⟨⟨rfl, rfl, by decide, by decide⟩, u_131, u_132, u_125, ⟨by decide, by decide⟩, Or.inr ⟨rfl, u_133, by decide +kernel⟩⟩ coreX4_mostOfPerson) (look_cons (callOK_stat (ci := 4) ⟨⟨rfl, rfl, by decide, by decide⟩, u_128, u_129, u_125, ⟨by decide, by decide⟩, Or.inr ⟨rfl, u_130, by decide +kernel⟩⟩ coreX4_isWithin) (look_cons (callOK_same (ci := 4) ⟨⟨rfl, rfl, by decide, by decide⟩, u_123, u_124, u_125, ⟨by decide, by decide⟩, Or.inl ⟨rfl, u_126, u_127, ⟨_, rfl, rfl⟩, 1, rfl, by decide +kernel⟩⟩ coreX4_found) look_nil))))
noncomputable def gX4_person : Callee := mkG (α := Int32 × Int32 × Int32) (σ := XS) (τ := Int32 × XS) unX uaR0III (fun q => some (.int q.1)) (fun _ q => picX q.2) (fun (a : Int32 × Int32 × Int32) (u : XS) => fX4_person a.1 a.2.1 a.2.2 u)
theorem coreX4_person : CoreOK yX4_person rX4_person cX4_person 6 (some .int) 0 4 gX4_person :=
  core_of (kd := 0) (α := Int32 × Int32 × Int32) (σ := XS) (τ := Int32 × XS) unX picX unX_ok uaR0III arR0III uaR0III_ok (fun q => some (.int q.1)) (fun _ q => picX q.2) (fun (a : Int32 × Int32 × Int32) (u : XS) => fX4_person a.1 a.2.1 a.2.2 u)
    (fun a u q h => doc_of_run (by decide) ⟨rfl, rfl⟩ flX4_ok cnX4_ok (fun h => absurd rfl h) eX4_person_ok okX4_person (Nat.le_of_ble_eq_true rfl) (fun v ws' e => kIX_ok e) rfl h) (fun _ a u => ⟨0, _, _, rfl, rfl⟩)
