-- X1_hasThing
def tPX1_hasThing : List (Nat × Ent) := [(0, (.iload_n 1, 1, .null, 0, [])), (1, (.ifCond .lt 15, 3, .null, 16, [])), (4, (.iload_n 1, 1, .null, 0, [])), (5, (.aload_n 0, 1, .null, 0, [])), (6, (.getfield 28, 3, .null, 0, [])), (9, (.if_icmp .ge 7, 3, .null, 16, [])), (12, (.iconst 1, 1, .int (1), 0, [])), (13, (.goto 4, 3, .null, 17, [])), (16, (.iconst 0, 1, .int (0), 0, [])), (17, (.ireturn, 1, .null, 0, []))]
def tX1_hasThing : List (Nat × Ent) := tPX1_hasThing
theorem okX1_hasThing : tblOK cnX1 cX1_hasThing tX1_hasThing = true := by decide +kernel
def hX1_hasThing : List (Nat × List Bool) := []
noncomputable def eX1_hasThing : Cal := []
noncomputable def fPX1_hasThing (a0 : Int32) (u : St) : Option (Int32 × St) := run (tPX1_hasThing) hX1_hasThing flX1 0 caG eX1_hasThing (some .boolean) kISt (FU + 1) 0 (loIn 2 [.ref 0, .int (a0)]) [] (picSt u)
noncomputable def fX1_hasThing (a0 : Int32) (u : St) : Option (Int32 × St) := fPX1_hasThing a0 u
set_option maxRecDepth 100000 in
theorem fPX1_hasThing_eq (a0 : Int32) (u : St) : fPX1_hasThing a0 u = (br (a0 < 0) (br ((0 : Int32) = 0 ∨ (0 : Int32) = 1) (some (0, u)) none) (br ((sNum u) ≤ a0) (br ((0 : Int32) = 0 ∨ (0 : Int32) = 1) (some (0, u)) none) (br ((1 : Int32) = 0 ∨ (1 : Int32) = 1) (some (1, u)) none))) := rfl
theorem fX1_hasThing_eq (a0 : Int32) (u : St) : fX1_hasThing a0 u = (if a0 < 0 then (some (0, u)) else (if (sNum u) ≤ a0 then (some (0, u)) else (some (1, u)))) := (fPX1_hasThing_eq a0 u).trans (by simp only [br_eq, if_true, if_false, tn0, tn1, tn2, tn3, tn4, tn5, tn6, tn8, bl0, bl1] <;> rfl)
abbrev rX1_hasThing : Room := { frames := 0, cells := 0, slots := 0, locals := 0 }
set_option maxRecDepth 20000 in
theorem eX1_hasThing_ok : ∀ ix kd n F, eX1_hasThing.lookup ix = some (kd, n, F) → CallOK rX1_hasThing yX1_hasThing.cls cX1_hasThing ix kd n F := look_all look_nil
noncomputable def gX1_hasThing : Callee := mkG (α := Int32) (σ := St) (τ := Int32 × St) unSt uaR0I (fun q => some (.int q.1)) (fun _ q => picSt q.2) (fun (a : Int32) (u : St) => fX1_hasThing a u)
theorem coreX1_hasThing : CoreOK yX1_hasThing rX1_hasThing cX1_hasThing 2 (some .boolean) 0 1 gX1_hasThing :=
  core_of (kd := 0) (α := Int32) (σ := St) (τ := Int32 × St) unSt picSt unSt_ok uaR0I arR0I uaR0I_ok (fun q => some (.int q.1)) (fun _ q => picSt q.2) (fun (a : Int32) (u : St) => fX1_hasThing a u)
    (fun a u q h => doc_of_run (by decide) ⟨rfl, rfl⟩ flX1_ok cnX1_ok (fun h => absurd rfl h) eX1_hasThing_ok okX1_hasThing (Nat.le_of_ble_eq_true rfl) (fun v ws' e => kISt_ok e) rfl h) (fun _ a u => ⟨0, _, _, rfl, rfl⟩)
-- X1_isFull
def tPX1_isFull : List (Nat × Ent) := [(0, (.aload_n 0, 1, .null, 0, [])), (1, (.getfield 28, 3, .null, 0, [])), (4, (.bipush 8, 2, .int (8), 0, [])), (6, (.if_icmp .lt 7, 3, .null, 13, [])), (9, (.iconst 1, 1, .int (1), 0, [])), (10, (.goto 4, 3, .null, 14, [])), (13, (.iconst 0, 1, .int (0), 0, [])), (14, (.ireturn, 1, .null, 0, []))]
def tX1_isFull : List (Nat × Ent) := tPX1_isFull
theorem okX1_isFull : tblOK cnX1 cX1_isFull tX1_isFull = true := by decide +kernel
def hX1_isFull : List (Nat × List Bool) := []
noncomputable def eX1_isFull : Cal := []
noncomputable def fPX1_isFull (u : St) : Option (Int32 × St) := run (tPX1_isFull) hX1_isFull flX1 0 caG eX1_isFull (some .boolean) kISt (FU + 1) 0 (loIn 1 [.ref 0]) [] (picSt u)
noncomputable def fX1_isFull (u : St) : Option (Int32 × St) := fPX1_isFull u
set_option maxRecDepth 100000 in
theorem fPX1_isFull_eq (u : St) : fPX1_isFull u = (br ((sNum u) < 8) (br ((0 : Int32) = 0 ∨ (0 : Int32) = 1) (some (0, u)) none) (br ((1 : Int32) = 0 ∨ (1 : Int32) = 1) (some (1, u)) none)) := rfl
theorem fX1_isFull_eq (u : St) : fX1_isFull u = (if (sNum u) < 8 then (some (0, u)) else (some (1, u))) := (fPX1_isFull_eq u).trans (by simp only [br_eq, if_true, if_false, tn0, tn1, tn2, tn3, tn4, tn5, tn6, tn8, bl0, bl1] <;> rfl)
abbrev rX1_isFull : Room := { frames := 0, cells := 0, slots := 0, locals := 0 }
set_option maxRecDepth 20000 in
theorem eX1_isFull_ok : ∀ ix kd n F, eX1_isFull.lookup ix = some (kd, n, F) → CallOK rX1_isFull yX1_isFull.cls cX1_isFull ix kd n F := look_all look_nil
noncomputable def gX1_isFull : Callee := mkG (α := Unit) (σ := St) (τ := Int32 × St) unSt uaR0 (fun q => some (.int q.1)) (fun _ q => picSt q.2) (fun (a : Unit) (u : St) => fX1_isFull u)
theorem coreX1_isFull : CoreOK yX1_isFull rX1_isFull cX1_isFull 1 (some .boolean) 0 1 gX1_isFull :=
  core_of (kd := 0) (α := Unit) (σ := St) (τ := Int32 × St) unSt picSt unSt_ok uaR0 arR0 uaR0_ok (fun q => some (.int q.1)) (fun _ q => picSt q.2) (fun (a : Unit) (u : St) => fX1_isFull u)
    (fun a u q h => doc_of_run (by decide) ⟨rfl, rfl⟩ flX1_ok cnX1_ok (fun h => absurd rfl h) eX1_isFull_ok okX1_isFull (Nat.le_of_ble_eq_true rfl) (fun v ws' e => kISt_ok e) rfl h) (fun _ a u => ⟨0, _, _, rfl, rfl⟩)
-- X1_isThere
def tPX1_isThere : List (Nat × Ent) := [(0, (.aload_n 0, 1, .null, 0, [])), (1, (.getfield 46, 3, .null, 0, [])), (4, (.iload_n 1, 1, .null, 0, [])), (5, (.iaload, 1, .null, 0, [])), (6, (.iconst (-1), 1, .int (-1), 0, [])), (7, (.if_icmp .ne 7, 3, .null, 14, [])), (10, (.iconst 1, 1, .int (1), 0, [])), (11, (.goto 4, 3, .null, 15, [])), (14, (.iconst 0, 1, .int (0), 0, [])), (15, (.ireturn, 1, .null, 0, []))]
def tX1_isThere : List (Nat × Ent) := tPX1_isThere
theorem okX1_isThere : tblOK cnX1 cX1_isThere tX1_isThere = true := by decide +kernel
def hX1_isThere : List (Nat × List Bool) := []
noncomputable def eX1_isThere : Cal := []
noncomputable def fPX1_isThere (a0 : Int32) (u : St) : Option (Int32 × St) := run (tPX1_isThere) hX1_isThere flX1 0 caG eX1_isThere (some .boolean) kISt (FU + 1) 0 (loIn 2 [.ref 0, .int (a0)]) [] (picSt u)
noncomputable def fX1_isThere (a0 : Int32) (u : St) : Option (Int32 × St) := fPX1_isThere a0 u
set_option maxRecDepth 100000 in
theorem fPX1_isThere_eq (a0 : Int32) (u : St) : fPX1_isThere a0 u = (br (a0 < 0 ∨ 8 ≤ (a0).toNatClampNeg) none (br (((sWit u) (a0).toNatClampNeg) = (-1 : Int32)) (br ((1 : Int32) = 0 ∨ (1 : Int32) = 1) (some (1, u)) none) (br ((0 : Int32) = 0 ∨ (0 : Int32) = 1) (some (0, u)) none))) := rfl
theorem fX1_isThere_eq (a0 : Int32) (u : St) : fX1_isThere a0 u = (if a0 < 0 ∨ 8 ≤ (a0).toNatClampNeg then none else (if ((sWit u) (a0).toNatClampNeg) = (-1 : Int32) then (some (1, u)) else (some (0, u)))) := (fPX1_isThere_eq a0 u).trans (by simp only [br_eq, if_true, if_false, tn0, tn1, tn2, tn3, tn4, tn5, tn6, tn8, bl0, bl1] <;> rfl)
abbrev rX1_isThere : Room := { frames := 0, cells := 0, slots := 0, locals := 0 }
set_option maxRecDepth 20000 in
theorem eX1_isThere_ok : ∀ ix kd n F, eX1_isThere.lookup ix = some (kd, n, F) → CallOK rX1_isThere yX1_isThere.cls cX1_isThere ix kd n F := look_all look_nil
noncomputable def gX1_isThere : Callee := mkG (α := Int32) (σ := St) (τ := Int32 × St) unSt uaR0I (fun q => some (.int q.1)) (fun _ q => picSt q.2) (fun (a : Int32) (u : St) => fX1_isThere a u)
theorem coreX1_isThere : CoreOK yX1_isThere rX1_isThere cX1_isThere 2 (some .boolean) 0 1 gX1_isThere :=
  core_of (kd := 0) (α := Int32) (σ := St) (τ := Int32 × St) unSt picSt unSt_ok uaR0I arR0I uaR0I_ok (fun q => some (.int q.1)) (fun _ q => picSt q.2) (fun (a : Int32) (u : St) => fX1_isThere a u)
    (fun a u q h => doc_of_run (by decide) ⟨rfl, rfl⟩ flX1_ok cnX1_ok (fun h => absurd rfl h) eX1_isThere_ok okX1_isThere (Nat.le_of_ble_eq_true rfl) (fun v ws' e => kISt_ok e) rfl h) (fun _ a u => ⟨0, _, _, rfl, rfl⟩)
-- X1_take
def tPX1_take : List (Nat × Ent) := [(0, (.aload_n 0, 1, .null, 0, [])), (1, (.getfield 28, 3, .null, 0, [])), (4, (.istore 5, 2, .null, 0, [])), (6, (.aload_n 0, 1, .null, 0, [])), (7, (.getfield 31, 3, .null, 0, [])), (10, (.iload 5, 2, .null, 0, [])), (12, (.iload_n 1, 1, .null, 0, [])), (13, (.iastore, 1, .null, 0, [])), (14, (.aload_n 0, 1, .null, 0, [])), (15, (.getfield 34, 3, .null, 0, [])), (18, (.iload 5, 2, .null, 0, [])), (20, (.iload_n 2, 1, .null, 0, [])), (21, (.iastore, 1, .null, 0, [])), (22, (.aload_n 0, 1, .null, 0, [])), (23, (.getfield 37, 3, .null, 0, [])), (26, (.iload 5, 2, .null, 0, [])), (28, (.aload_n 0, 1, .null, 0, [])), (29, (.getfield 9, 3, .null, 0, [])), (32, (.iastore, 1, .null, 0, [])), (33, (.aload_n 0, 1, .null, 0, [])), (34, (.getfield 40, 3, .null, 0, [])), (37, (.iload 5, 2, .null, 0, [])), (39, (.iload_n 3, 1, .null, 0, [])), (40, (.iastore, 1, .null, 0, [])), (41, (.aload_n 0, 1, .null, 0, [])), (42, (.getfield 43, 3, .null, 0, [])), (45, (.iload 5, 2, .null, 0, [])), (47, (.iload 4, 2, .null, 0, [])), (49, (.iastore, 1, .null, 0, [])), (50, (.aload_n 0, 1, .null, 0, [])), (51, (.getfield 46, 3, .null, 0, [])), (54, (.iload 5, 2, .null, 0, [])), (56, (.iconst (-1), 1, .int (-1), 0, [])), (57, (.iastore, 1, .null, 0, [])), (58, (.aload_n 0, 1, .null, 0, [])), (59, (.dup, 1, .null, 0, [])), (60, (.getfield 28, 3, .null, 0, [])), (63, (.iconst 1, 1, .int (1), 0, [])), (64, (.iadd, 1, .null, 0, [])), (65, (.putfield 28, 3, .null, 0, [])), (68, (.iload 5, 2, .null, 0, [])), (70, (.ireturn, 1, .null, 0, []))]
def tX1_take : List (Nat × Ent) := tPX1_take
theorem okX1_take : tblOK cnX1 cX1_take tX1_take = true := by decide +kernel
def hX1_take : List (Nat × List Bool) := []
noncomputable def eX1_take : Cal := []
noncomputable def fPX1_take (a0 : Int32) (a1 : Int32) (a2 : Int32) (a3 : Int32) (u : St) : Option (Int32 × St) := run (tPX1_take) hX1_take flX1 0 caG eX1_take (some .int) kISt (FU + 1) 0 (loIn 6 [.ref 0, .int (a0), .int (a1), .int (a2), .int (a3)]) [] (picSt u)
noncomputable def fX1_take (a0 : Int32) (a1 : Int32) (a2 : Int32) (a3 : Int32) (u : St) : Option (Int32 × St) := fPX1_take a0 a1 a2 a3 u
set_option maxRecDepth 100000 in
theorem fPX1_take_eq (a0 : Int32) (a1 : Int32) (a2 : Int32) (a3 : Int32) (u : St) : fPX1_take a0 a1 a2 a3 u = (br ((sNum u) < 0 ∨ 8 ≤ ((sNum u)).toNatClampNeg) none (br ((sNum u) < 0 ∨ 8 ≤ ((sNum u)).toNatClampNeg) none (br ((sNum u) < 0 ∨ 8 ≤ ((sNum u)).toNatClampNeg) none (br ((sNum u) < 0 ∨ 8 ≤ ((sNum u)).toNatClampNeg) none (br ((sNum u) < 0 ∨ 8 ≤ ((sNum u)).toNatClampNeg) none (br ((sNum u) < 0 ∨ 8 ≤ ((sNum u)).toNatClampNeg) none (some ((sNum u), ((sDay u), (sTkn u), (sMns u), (sErn u), (sSpd u), ((sNum u) + 1), (upd (sKnd u) ((sNum u)).toNatClampNeg a0), (upd (sLbl u) ((sNum u)).toNatClampNeg a1), (upd (sLft u) ((sNum u)).toNatClampNeg (sDay u)), (upd (sDue u) ((sNum u)).toNatClampNeg a2), (upd (sWth u) ((sNum u)).toNatClampNeg a3), (upd (sWit u) ((sNum u)).toNatClampNeg (-1 : Int32))))))))))) := rfl
theorem fX1_take_eq (a0 : Int32) (a1 : Int32) (a2 : Int32) (a3 : Int32) (u : St) : fX1_take a0 a1 a2 a3 u = (if (sNum u) < 0 ∨ 8 ≤ ((sNum u)).toNatClampNeg then none else (if (sNum u) < 0 ∨ 8 ≤ ((sNum u)).toNatClampNeg then none else (if (sNum u) < 0 ∨ 8 ≤ ((sNum u)).toNatClampNeg then none else (if (sNum u) < 0 ∨ 8 ≤ ((sNum u)).toNatClampNeg then none else (if (sNum u) < 0 ∨ 8 ≤ ((sNum u)).toNatClampNeg then none else (if (sNum u) < 0 ∨ 8 ≤ ((sNum u)).toNatClampNeg then none else (some ((sNum u), ((sDay u), (sTkn u), (sMns u), (sErn u), (sSpd u), ((sNum u) + 1), (upd (sKnd u) ((sNum u)).toNatClampNeg a0), (upd (sLbl u) ((sNum u)).toNatClampNeg a1), (upd (sLft u) ((sNum u)).toNatClampNeg (sDay u)), (upd (sDue u) ((sNum u)).toNatClampNeg a2), (upd (sWth u) ((sNum u)).toNatClampNeg a3), (upd (sWit u) ((sNum u)).toNatClampNeg (-1 : Int32))))))))))) := (fPX1_take_eq a0 a1 a2 a3 u).trans (by simp only [br_eq, if_true, if_false, tn0, tn1, tn2, tn3, tn4, tn5, tn6, tn8] <;> rfl)
abbrev rX1_take : Room := { frames := 0, cells := 0, slots := 0, locals := 0 }
set_option maxRecDepth 20000 in
theorem eX1_take_ok : ∀ ix kd n F, eX1_take.lookup ix = some (kd, n, F) → CallOK rX1_take yX1_take.cls cX1_take ix kd n F := look_all look_nil
noncomputable def gX1_take : Callee := mkG (α := Int32 × Int32 × Int32 × Int32) (σ := St) (τ := Int32 × St) unSt uaR0IIII (fun q => some (.int q.1)) (fun _ q => picSt q.2) (fun (a : Int32 × Int32 × Int32 × Int32) (u : St) => fX1_take a.1 a.2.1 a.2.2.1 a.2.2.2 u)
theorem coreX1_take : CoreOK yX1_take rX1_take cX1_take 6 (some .int) 0 1 gX1_take :=
  core_of (kd := 0) (α := Int32 × Int32 × Int32 × Int32) (σ := St) (τ := Int32 × St) unSt picSt unSt_ok uaR0IIII arR0IIII uaR0IIII_ok (fun q => some (.int q.1)) (fun _ q => picSt q.2) (fun (a : Int32 × Int32 × Int32 × Int32) (u : St) => fX1_take a.1 a.2.1 a.2.2.1 a.2.2.2 u)
    (fun a u q h => doc_of_run (by decide) ⟨rfl, rfl⟩ flX1_ok cnX1_ok (fun h => absurd rfl h) eX1_take_ok okX1_take (Nat.le_of_ble_eq_true rfl) (fun v ws' e => kISt_ok e) rfl h) (fun _ a u => ⟨0, _, _, rfl, rfl⟩)
-- X1_takeBack
def tPX1_takeBack : List (Nat × Ent) := [(0, (.aload_n 0, 1, .null, 0, [])), (1, (.getfield 46, 3, .null, 0, [])), (4, (.iload_n 1, 1, .null, 0, [])), (5, (.iaload, 1, .null, 0, [])), (6, (.istore_n 2, 1, .null, 0, [])), (7, (.aload_n 0, 1, .null, 0, [])), (8, (.getfield 34, 3, .null, 0, [])), (11, (.iload_n 1, 1, .null, 0, [])), (12, (.iload_n 2, 1, .null, 0, [])), (13, (.iastore, 1, .null, 0, [])), (14, (.aload_n 0, 1, .null, 0, [])), (15, (.getfield 37, 3, .null, 0, [])), (18, (.iload_n 1, 1, .null, 0, [])), (19, (.aload_n 0, 1, .null, 0, [])), (20, (.getfield 9, 3, .null, 0, [])), (23, (.iastore, 1, .null, 0, [])), (24, (.aload_n 0, 1, .null, 0, [])), (25, (.getfield 40, 3, .null, 0, [])), (28, (.iload_n 1, 1, .null, 0, [])), (29, (.iconst 0, 1, .int (0), 0, [])), (30, (.iastore, 1, .null, 0, [])), (31, (.aload_n 0, 1, .null, 0, [])), (32, (.getfield 46, 3, .null, 0, [])), (35, (.iload_n 1, 1, .null, 0, [])), (36, (.iconst (-1), 1, .int (-1), 0, [])), (37, (.iastore, 1, .null, 0, [])), (38, (.iload_n 2, 1, .null, 0, [])), (39, (.ireturn, 1, .null, 0, []))]
def tX1_takeBack : List (Nat × Ent) := tPX1_takeBack
theorem okX1_takeBack : tblOK cnX1 cX1_takeBack tX1_takeBack = true := by decide +kernel
def hX1_takeBack : List (Nat × List Bool) := []
noncomputable def eX1_takeBack : Cal := []
noncomputable def fPX1_takeBack (a0 : Int32) (u : St) : Option (Int32 × St) := run (tPX1_takeBack) hX1_takeBack flX1 0 caG eX1_takeBack (some .int) kISt (FU + 1) 0 (loIn 3 [.ref 0, .int (a0)]) [] (picSt u)
noncomputable def fX1_takeBack (a0 : Int32) (u : St) : Option (Int32 × St) := fPX1_takeBack a0 u
set_option maxRecDepth 100000 in
theorem fPX1_takeBack_eq (a0 : Int32) (u : St) : fPX1_takeBack a0 u = (br (a0 < 0 ∨ 8 ≤ (a0).toNatClampNeg) none (br (a0 < 0 ∨ 8 ≤ (a0).toNatClampNeg) none (br (a0 < 0 ∨ 8 ≤ (a0).toNatClampNeg) none (br (a0 < 0 ∨ 8 ≤ (a0).toNatClampNeg) none (br (a0 < 0 ∨ 8 ≤ (a0).toNatClampNeg) none (some (((sWit u) (a0).toNatClampNeg), (sWit' (sDue' (sLft' (sLbl' u (upd (sLbl u) (a0).toNatClampNeg ((sWit u) (a0).toNatClampNeg))) (upd (sLft u) (a0).toNatClampNeg (sDay u))) (upd (sDue u) (a0).toNatClampNeg 0)) (upd (sWit u) (a0).toNatClampNeg (-1 : Int32)))))))))) := rfl
theorem fX1_takeBack_eq (a0 : Int32) (u : St) : fX1_takeBack a0 u = (if a0 < 0 ∨ 8 ≤ (a0).toNatClampNeg then none else (if a0 < 0 ∨ 8 ≤ (a0).toNatClampNeg then none else (if a0 < 0 ∨ 8 ≤ (a0).toNatClampNeg then none else (if a0 < 0 ∨ 8 ≤ (a0).toNatClampNeg then none else (if a0 < 0 ∨ 8 ≤ (a0).toNatClampNeg then none else (some (((sWit u) (a0).toNatClampNeg), (sWit' (sDue' (sLft' (sLbl' u (upd (sLbl u) (a0).toNatClampNeg ((sWit u) (a0).toNatClampNeg))) (upd (sLft u) (a0).toNatClampNeg (sDay u))) (upd (sDue u) (a0).toNatClampNeg 0)) (upd (sWit u) (a0).toNatClampNeg (-1 : Int32)))))))))) := (fPX1_takeBack_eq a0 u).trans (by simp only [br_eq, if_true, if_false, tn0, tn1, tn2, tn3, tn4, tn5, tn6, tn8] <;> rfl)
abbrev rX1_takeBack : Room := { frames := 0, cells := 0, slots := 0, locals := 0 }
set_option maxRecDepth 20000 in
theorem eX1_takeBack_ok : ∀ ix kd n F, eX1_takeBack.lookup ix = some (kd, n, F) → CallOK rX1_takeBack yX1_takeBack.cls cX1_takeBack ix kd n F := look_all look_nil
noncomputable def gX1_takeBack : Callee := mkG (α := Int32) (σ := St) (τ := Int32 × St) unSt uaR0I (fun q => some (.int q.1)) (fun _ q => picSt q.2) (fun (a : Int32) (u : St) => fX1_takeBack a u)
theorem coreX1_takeBack : CoreOK yX1_takeBack rX1_takeBack cX1_takeBack 3 (some .int) 0 1 gX1_takeBack :=
  core_of (kd := 0) (α := Int32) (σ := St) (τ := Int32 × St) unSt picSt unSt_ok uaR0I arR0I uaR0I_ok (fun q => some (.int q.1)) (fun _ q => picSt q.2) (fun (a : Int32) (u : St) => fX1_takeBack a u)
    (fun a u q h => doc_of_run (by decide) ⟨rfl, rfl⟩ flX1_ok cnX1_ok (fun h => absurd rfl h) eX1_takeBack_ok okX1_takeBack (Nat.le_of_ble_eq_true rfl) (fun v ws' e => kISt_ok e) rfl h) (fun _ a u => ⟨0, _, _, rfl, rfl⟩)
-- X1_handOver
def tPX1_handOver : List (Nat × Ent) := [(0, (.aload_n 0, 1, .null, 0, [])), (1, (.getfield 18, 3, .null, 0, [])), (4, (.iload_n 2, 1, .null, 0, [])), (5, (.dup2, 1, .null, 0, [])), (6, (.iaload, 1, .null, 0, [])), (7, (.iload_n 3, 1, .null, 0, [])), (8, (.isub, 1, .null, 0, [])), (9, (.iastore, 1, .null, 0, [])), (10, (.aload_n 0, 1, .null, 0, [])), (11, (.ldc 55, 2, .int (99999999), 0, [])), (13, (.aload_n 0, 1, .null, 0, [])), (14, (.getfield 15, 3, .null, 0, [])), (17, (.iload_n 3, 1, .null, 0, [])), (18, (.iadd, 1, .null, 0, [])), (19, (.invokestatic 56, 3, .null, 0, [])), (22, (.putfield 15, 3, .null, 0, [])), (25, (.aload_n 0, 1, .null, 0, [])), (26, (.getfield 40, 3, .null, 0, [])), (29, (.iload_n 1, 1, .null, 0, [])), (30, (.iconst 0, 1, .int (0), 0, [])), (31, (.iastore, 1, .null, 0, [])), (32, (.aload_n 0, 1, .null, 0, [])), (33, (.getfield 46, 3, .null, 0, [])), (36, (.iload_n 1, 1, .null, 0, [])), (37, (.iload_n 2, 1, .null, 0, [])), (38, (.iastore, 1, .null, 0, [])), (39, (.aload_n 0, 1, .null, 0, [])), (40, (.getfield 34, 3, .null, 0, [])), (43, (.iload_n 1, 1, .null, 0, [])), (44, (.iload_n 2, 1, .null, 0, [])), (45, (.iastore, 1, .null, 0, [])), (46, (.return_, 1, .null, 0, []))]
def tX1_handOver : List (Nat × Ent) := tPX1_handOver
theorem okX1_handOver : tblOK cnX1 cX1_handOver tX1_handOver = true := by decide +kernel
def hX1_handOver : List (Nat × List Bool) := []
noncomputable def eX1_handOver : Cal := [(56, 1, 2, fMin)]
noncomputable def fPX1_handOver (a0 : Int32) (a1 : Int32) (a2 : Int32) (u : St) : Option (St) := run (tPX1_handOver) hX1_handOver flX1 0 caG eX1_handOver none kVSt (FU + 1) 0 (loIn 4 [.ref 0, .int (a0), .int (a1), .int (a2)]) [] (picSt u)
noncomputable def fX1_handOver (a0 : Int32) (a1 : Int32) (a2 : Int32) (u : St) : Option (St) := fPX1_handOver a0 a1 a2 u
set_option maxRecDepth 100000 in
theorem fPX1_handOver_eq (a0 : Int32) (a1 : Int32) (a2 : Int32) (u : St) : fPX1_handOver a0 a1 a2 u = (br (a1 < 0 ∨ 6 ≤ (a1).toNatClampNeg) none (br (a1 < 0 ∨ 6 ≤ (a1).toNatClampNeg) none (br (a0 < 0 ∨ 8 ≤ (a0).toNatClampNeg) none (br (a0 < 0 ∨ 8 ≤ (a0).toNatClampNeg) none (br (a0 < 0 ∨ 8 ≤ (a0).toNatClampNeg) none (some (sWit' (sDue' (sLbl' (sMns' (sTkn' u (if ((sTkn u) + a2) < 99999999 then ((sTkn u) + a2) else 99999999)) (upd (sMns u) (a1).toNatClampNeg (((sMns u) (a1).toNatClampNeg) - a2))) (upd (sLbl u) (a0).toNatClampNeg a1)) (upd (sDue u) (a0).toNatClampNeg 0)) (upd (sWit u) (a0).toNatClampNeg a1)))))))) := rfl
theorem fX1_handOver_eq (a0 : Int32) (a1 : Int32) (a2 : Int32) (u : St) : fX1_handOver a0 a1 a2 u = (if a1 < 0 ∨ 6 ≤ (a1).toNatClampNeg then none else (if a1 < 0 ∨ 6 ≤ (a1).toNatClampNeg then none else (if a0 < 0 ∨ 8 ≤ (a0).toNatClampNeg then none else (if a0 < 0 ∨ 8 ≤ (a0).toNatClampNeg then none else (if a0 < 0 ∨ 8 ≤ (a0).toNatClampNeg then none else (some (sWit' (sDue' (sLbl' (sMns' (sTkn' u (if ((sTkn u) + a2) < 99999999 then ((sTkn u) + a2) else 99999999)) (upd (sMns u) (a1).toNatClampNeg (((sMns u) (a1).toNatClampNeg) - a2))) (upd (sLbl u) (a0).toNatClampNeg a1)) (upd (sDue u) (a0).toNatClampNeg 0)) (upd (sWit u) (a0).toNatClampNeg a1)))))))) := (fPX1_handOver_eq a0 a1 a2 u).trans (by simp only [br_eq, if_true, if_false, tn0, tn1, tn2, tn3, tn4, tn5, tn6, tn8] <;> rfl)
abbrev rX1_handOver : Room := { frames := 1, cells := 0, slots := 0, locals := 21 }
set_option maxRecDepth 20000 in
theorem eX1_handOver_ok : ∀ ix kd n F, eX1_handOver.lookup ix = some (kd, n, F) → CallOK rX1_handOver yX1_handOver.cls cX1_handOver ix kd n F := look_all (look_cons (callOK_min u_4 u_5 u_6 u_7 ⟨by decide, by decide⟩) look_nil)
noncomputable def gX1_handOver : Callee := mkG (α := Int32 × Int32 × Int32) (σ := St) (τ := St) unSt uaR0III (fun _ => none) (fun _ q => picSt q) (fun (a : Int32 × Int32 × Int32) (u : St) => fX1_handOver a.1 a.2.1 a.2.2 u)
theorem coreX1_handOver : CoreOK yX1_handOver rX1_handOver cX1_handOver 4 none 0 1 gX1_handOver :=
  core_of (kd := 0) (α := Int32 × Int32 × Int32) (σ := St) (τ := St) unSt picSt unSt_ok uaR0III arR0III uaR0III_ok (fun _ => none) (fun _ q => picSt q) (fun (a : Int32 × Int32 × Int32) (u : St) => fX1_handOver a.1 a.2.1 a.2.2 u)
    (fun a u q h => doc_of_run (by decide) ⟨rfl, rfl⟩ flX1_ok cnX1_ok (fun h => absurd rfl h) eX1_handOver_ok okX1_handOver (Nat.le_of_ble_eq_true rfl) (fun v ws' e => kVSt_ok e) rfl h) (fun _ a u => ⟨0, _, _, rfl, rfl⟩)
