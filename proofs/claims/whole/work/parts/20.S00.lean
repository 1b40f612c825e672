-- X0_isMissing
def tX0_isMissing : List (Nat × Ent) := [(0, (.aload_n 0, 1, .null, 0, [])), (1, (.getfield 9, 3, .null, 0, [])), (4, (.ifCond .ne 7, 3, .null, 11, [])), (7, (.iconst 1, 1, .int (1), 0, [])), (8, (.goto 4, 3, .null, 12, [])), (11, (.iconst 0, 1, .int (0), 0, [])), (12, (.ireturn, 1, .null, 0, []))]
theorem okX0_isMissing : tblOK cnX0 cX0_isMissing tX0_isMissing = true := by decide +kernel
def hX0_isMissing : List (Nat × List Bool) := []
noncomputable def eX0_isMissing : Cal := []
noncomputable def fX0_isMissing (u : Sh) : Option (Int32 × Sh) := run tX0_isMissing hX0_isMissing flX0 0 caG eX0_isMissing (some .boolean) kISh (FU + 1) 0 (loIn 1 [.ref 0]) [] (picSh u)
set_option maxRecDepth 100000 in
theorem fX0_isMissing_eq (u : Sh) : fX0_isMissing u = (if (hBit u) = 0 then (some (1, u)) else (some (0, u))) := rfl
abbrev rX0_isMissing : Room := { frames := 0, cells := 0, slots := 0, locals := 0 }
set_option maxRecDepth 20000 in
theorem eX0_isMissing_ok : ∀ ix kd n F, eX0_isMissing.lookup ix = some (kd, n, F) → CallOK rX0_isMissing yX0_isMissing.cls cX0_isMissing ix kd n F := look_all look_nil
noncomputable def gX0_isMissing : Callee := mkG (α := Unit) (σ := Sh) (τ := Int32 × Sh) unSh uaR0 (fun q => some (.int q.1)) (fun _ q => picSh q.2) (fun (a : Unit) (u : Sh) => fX0_isMissing u)
theorem coreX0_isMissing : CoreOK yX0_isMissing rX0_isMissing cX0_isMissing 1 (some .boolean) 0 0 gX0_isMissing :=
  core_of (kd := 0) (α := Unit) (σ := Sh) (τ := Int32 × Sh) unSh picSh unSh_ok uaR0 arR0 uaR0_ok (fun q => some (.int q.1)) (fun _ q => picSh q.2) (fun (a : Unit) (u : Sh) => fX0_isMissing u)
    (fun a u q h => doc_of_run (by decide) ⟨rfl, rfl⟩ flX0_ok cnX0_ok (fun h => absurd rfl h) eX0_isMissing_ok okX0_isMissing (Nat.le_of_ble_eq_true rfl) (fun v ws' e => kISh_ok e) rfl h) (fun _ a u => ⟨0, _, _, rfl, rfl⟩)
-- X0_begin
def tX0_begin : List (Nat × Ent) := [(0, (.aload_n 0, 1, .null, 0, [])), (1, (.iload_n 1, 1, .null, 0, [])), (2, (.putfield 9, 3, .null, 0, [])), (5, (.aload_n 0, 1, .null, 0, [])), (6, (.iload_n 2, 1, .null, 0, [])), (7, (.putfield 15, 3, .null, 0, [])), (10, (.iconst 0, 1, .int (0), 0, [])), (11, (.istore_n 3, 1, .null, 0, [])), (12, (.iload_n 3, 1, .null, 0, [])), (13, (.bipush 40, 2, .int (40), 0, [])), (15, (.if_icmp .ge 16, 3, .null, 31, [])), (18, (.aload_n 0, 1, .null, 0, [])), (19, (.getfield 18, 3, .null, 0, [])), (22, (.iload_n 3, 1, .null, 0, [])), (23, (.lconst 0, 1, .long (0), 0, [])), (24, (.lastore, 1, .null, 0, [])), (25, (.iinc 3 1, 3, .int (1), 0, [])), (28, (.goto (-16), 3, .null, 12, [])), (31, (.return_, 1, .null, 0, []))]
theorem okX0_begin : tblOK cnX0 cX0_begin tX0_begin = true := by decide +kernel
def hX0_begin : List (Nat × List Bool) := [(12, [true, false, false, true])]
noncomputable def eX0_begin : Cal := []
noncomputable def fX0_begin (a0 : Int32) (a1 : Int32) (u : Sh) : Option (Sh) := run tX0_begin hX0_begin flX0 0 caG eX0_begin none kVSh (FU + 1) 0 (loIn 4 [.ref 0, .int (a0), .int (a1)]) [] (picSh u)
noncomputable def lX0_begin_12 (n : Nat) (x3 : Int32) (u : Sh) : Option (Sh) := run tX0_begin hX0_begin flX0 0 caG eX0_begin none kVSh n 12 [some (.ref 0), none, none, some (.int (x3))] [] (picSh u)
set_option maxRecDepth 100000 in
theorem lX0_begin_12_eq (n : Nat) (x3 : Int32) (u : Sh) : lX0_begin_12 (n + 1) x3 u = (if (40 : Int32) ≤ x3 then (some u) else (if x3 < 0 ∨ 40 ≤ (x3).toNatClampNeg then none else (lX0_begin_12 n ((x3 + 1)) (hNum' u (vp_updL (hNum u) (x3).toNatClampNeg (0 : Int64)))))) := rfl
set_option maxRecDepth 100000 in
theorem fX0_begin_eq (a0 : Int32) (a1 : Int32) (u : Sh) : fX0_begin a0 a1 u = (lX0_begin_12 FU 0 (a0, a1, (hNum u))) := rfl
abbrev rX0_begin : Room := { frames := 0, cells := 0, slots := 0, locals := 0 }
set_option maxRecDepth 20000 in
theorem eX0_begin_ok : ∀ ix kd n F, eX0_begin.lookup ix = some (kd, n, F) → CallOK rX0_begin yX0_begin.cls cX0_begin ix kd n F := look_all look_nil
noncomputable def gX0_begin : Callee := mkG (α := Int32 × Int32) (σ := Sh) (τ := Sh) unSh uaR0II (fun _ => none) (fun _ q => picSh q) (fun (a : Int32 × Int32) (u : Sh) => fX0_begin a.1 a.2 u)
theorem coreX0_begin : CoreOK yX0_begin rX0_begin cX0_begin 4 none 0 0 gX0_begin :=
  core_of (kd := 0) (α := Int32 × Int32) (σ := Sh) (τ := Sh) unSh picSh unSh_ok uaR0II arR0II uaR0II_ok (fun _ => none) (fun _ q => picSh q) (fun (a : Int32 × Int32) (u : Sh) => fX0_begin a.1 a.2 u)
    (fun a u q h => doc_of_run (by decide) ⟨rfl, rfl⟩ flX0_ok cnX0_ok (fun h => absurd rfl h) eX0_begin_ok okX0_begin (Nat.le_of_ble_eq_true rfl) (fun v ws' e => kVSh_ok e) rfl h) (fun _ a u => ⟨0, _, _, rfl, rfl⟩)
-- X0_put
def tX0_put : List (Nat × Ent) := [(0, (.aload_n 0, 1, .null, 0, [])), (1, (.getfield 18, 3, .null, 0, [])), (4, (.iload_n 1, 1, .null, 0, [])), (5, (.aload_n 0, 1, .null, 0, [])), (6, (.getfield 9, 3, .null, 0, [])), (9, (.bipush 8, 2, .int (8), 0, [])), (11, (.if_icmp .ne 10, 3, .null, 21, [])), (14, (.lload_n 2, 1, .null, 0, [])), (15, (.l2i, 1, .null, 0, [])), (16, (.i2b, 1, .null, 0, [])), (17, (.i2l, 1, .null, 0, [])), (18, (.goto 20, 3, .null, 38, [])), (21, (.aload_n 0, 1, .null, 0, [])), (22, (.getfield 9, 3, .null, 0, [])), (25, (.bipush 16, 2, .int (16), 0, [])), (27, (.if_icmp .ne 10, 3, .null, 37, [])), (30, (.lload_n 2, 1, .null, 0, [])), (31, (.l2i, 1, .null, 0, [])), (32, (.i2s, 1, .null, 0, [])), (33, (.i2l, 1, .null, 0, [])), (34, (.goto 4, 3, .null, 38, [])), (37, (.lload_n 2, 1, .null, 0, [])), (38, (.lastore, 1, .null, 0, [])), (39, (.return_, 1, .null, 0, []))]
theorem okX0_put : tblOK cnX0 cX0_put tX0_put = true := by decide +kernel
def hX0_put : List (Nat × List Bool) := []
noncomputable def eX0_put : Cal := []
noncomputable def fX0_put (a0 : Int32) (a1 : Int64) (u : Sh) : Option (Sh) := run tX0_put hX0_put flX0 0 caG eX0_put none kVSh (FU + 1) 0 (loIn 4 [.ref 0, .int (a0), .long (a1)]) [] (picSh u)
set_option maxRecDepth 100000 in
theorem fX0_put_eq (a0 : Int32) (a1 : Int64) (u : Sh) : fX0_put a0 a1 u = (if (hBit u) = 8 then (if a0 < 0 ∨ 40 ≤ (a0).toNatClampNeg then none else (some (hNum' u (vp_updL (hNum u) (a0).toNatClampNeg (Int32.toInt64 (Int32.toInt8 (Int64.toInt32 a1)).toInt32))))) else (if (hBit u) = 16 then (if a0 < 0 ∨ 40 ≤ (a0).toNatClampNeg then none else (some (hNum' u (vp_updL (hNum u) (a0).toNatClampNeg (Int32.toInt64 (Int32.toInt16 (Int64.toInt32 a1)).toInt32))))) else (if a0 < 0 ∨ 40 ≤ (a0).toNatClampNeg then none else (some (hNum' u (vp_updL (hNum u) (a0).toNatClampNeg a1)))))) := rfl
abbrev rX0_put : Room := { frames := 0, cells := 0, slots := 0, locals := 0 }
set_option maxRecDepth 20000 in
theorem eX0_put_ok : ∀ ix kd n F, eX0_put.lookup ix = some (kd, n, F) → CallOK rX0_put yX0_put.cls cX0_put ix kd n F := look_all look_nil
noncomputable def gX0_put : Callee := mkG (α := Int32 × Int64) (σ := Sh) (τ := Sh) unSh uaR0IJ (fun _ => none) (fun _ q => picSh q) (fun (a : Int32 × Int64) (u : Sh) => fX0_put a.1 a.2 u)
theorem coreX0_put : CoreOK yX0_put rX0_put cX0_put 4 none 0 0 gX0_put :=
  core_of (kd := 0) (α := Int32 × Int64) (σ := Sh) (τ := Sh) unSh picSh unSh_ok uaR0IJ arR0IJ uaR0IJ_ok (fun _ => none) (fun _ q => picSh q) (fun (a : Int32 × Int64) (u : Sh) => fX0_put a.1 a.2 u)
    (fun a u q h => doc_of_run (by decide) ⟨rfl, rfl⟩ flX0_ok cnX0_ok (fun h => absurd rfl h) eX0_put_ok okX0_put (Nat.le_of_ble_eq_true rfl) (fun v ws' e => kVSh_ok e) rfl h) (fun _ a u => ⟨0, _, _, rfl, rfl⟩)
-- X0_hasRun
def tX0_hasRun : List (Nat × Ent) := [(0, (.iload_n 1, 1, .null, 0, [])), (1, (.ifCond .lt 29, 3, .null, 30, [])), (4, (.iload_n 2, 1, .null, 0, [])), (5, (.ifCond .lt 25, 3, .null, 30, [])), (8, (.iload_n 2, 1, .null, 0, [])), (9, (.aload_n 0, 1, .null, 0, [])), (10, (.getfield 15, 3, .null, 0, [])), (13, (.if_icmp .gt 17, 3, .null, 30, [])), (16, (.iload_n 1, 1, .null, 0, [])), (17, (.aload_n 0, 1, .null, 0, [])), (18, (.getfield 15, 3, .null, 0, [])), (21, (.iload_n 2, 1, .null, 0, [])), (22, (.isub, 1, .null, 0, [])), (23, (.if_icmp .gt 7, 3, .null, 30, [])), (26, (.iconst 1, 1, .int (1), 0, [])), (27, (.goto 4, 3, .null, 31, [])), (30, (.iconst 0, 1, .int (0), 0, [])), (31, (.ireturn, 1, .null, 0, []))]
theorem okX0_hasRun : tblOK cnX0 cX0_hasRun tX0_hasRun = true := by decide +kernel
def hX0_hasRun : List (Nat × List Bool) := []
noncomputable def eX0_hasRun : Cal := []
noncomputable def fX0_hasRun (a0 : Int32) (a1 : Int32) (u : Sh) : Option (Int32 × Sh) := run tX0_hasRun hX0_hasRun flX0 0 caG eX0_hasRun (some .boolean) kISh (FU + 1) 0 (loIn 3 [.ref 0, .int (a0), .int (a1)]) [] (picSh u)
set_option maxRecDepth 100000 in
theorem fX0_hasRun_eq (a0 : Int32) (a1 : Int32) (u : Sh) : fX0_hasRun a0 a1 u = (if a0 < 0 then (some (0, u)) else (if a1 < 0 then (some (0, u)) else (if (hLen u) < a1 then (some (0, u)) else (if ((hLen u) - a1) < a0 then (some (0, u)) else (some (1, u)))))) := rfl
abbrev rX0_hasRun : Room := { frames := 0, cells := 0, slots := 0, locals := 0 }
set_option maxRecDepth 20000 in
theorem eX0_hasRun_ok : ∀ ix kd n F, eX0_hasRun.lookup ix = some (kd, n, F) → CallOK rX0_hasRun yX0_hasRun.cls cX0_hasRun ix kd n F := look_all look_nil
noncomputable def gX0_hasRun : Callee := mkG (α := Int32 × Int32) (σ := Sh) (τ := Int32 × Sh) unSh uaR0II (fun q => some (.int q.1)) (fun _ q => picSh q.2) (fun (a : Int32 × Int32) (u : Sh) => fX0_hasRun a.1 a.2 u)
theorem coreX0_hasRun : CoreOK yX0_hasRun rX0_hasRun cX0_hasRun 3 (some .boolean) 0 0 gX0_hasRun :=
  core_of (kd := 0) (α := Int32 × Int32) (σ := Sh) (τ := Int32 × Sh) unSh picSh unSh_ok uaR0II arR0II uaR0II_ok (fun q => some (.int q.1)) (fun _ q => picSh q.2) (fun (a : Int32 × Int32) (u : Sh) => fX0_hasRun a.1 a.2 u)
    (fun a u q h => doc_of_run (by decide) ⟨rfl, rfl⟩ flX0_ok cnX0_ok (fun h => absurd rfl h) eX0_hasRun_ok okX0_hasRun (Nat.le_of_ble_eq_true rfl) (fun v ws' e => kISh_ok e) rfl h) (fun _ a u => ⟨0, _, _, rfl, rfl⟩)
-- X1_become
def tX1_become : List (Nat × Ent) := [(0, (.aload_n 0, 1, .null, 0, [])), (1, (.aload_n 1, 1, .null, 0, [])), (2, (.getfield 9, 3, .null, 0, [])), (5, (.putfield 9, 3, .null, 0, [])), (8, (.aload_n 0, 1, .null, 0, [])), (9, (.aload_n 1, 1, .null, 0, [])), (10, (.getfield 15, 3, .null, 0, [])), (13, (.putfield 15, 3, .null, 0, [])), (16, (.aload_n 1, 1, .null, 0, [])), (17, (.getfield 18, 3, .null, 0, [])), (20, (.iconst 0, 1, .int (0), 0, [])), (21, (.aload_n 0, 1, .null, 0, [])), (22, (.getfield 18, 3, .null, 0, [])), (25, (.iconst 0, 1, .int (0), 0, [])), (26, (.bipush 6, 2, .int (6), 0, [])), (28, (.invokestatic 49, 3, .null, 0, [])), (31, (.aload_n 1, 1, .null, 0, [])), (32, (.getfield 22, 3, .null, 0, [])), (35, (.iconst 0, 1, .int (0), 0, [])), (36, (.aload_n 0, 1, .null, 0, [])), (37, (.getfield 22, 3, .null, 0, [])), (40, (.iconst 0, 1, .int (0), 0, [])), (41, (.bipush 6, 2, .int (6), 0, [])), (43, (.invokestatic 49, 3, .null, 0, [])), (46, (.aload_n 1, 1, .null, 0, [])), (47, (.getfield 25, 3, .null, 0, [])), (50, (.iconst 0, 1, .int (0), 0, [])), (51, (.aload_n 0, 1, .null, 0, [])), (52, (.getfield 25, 3, .null, 0, [])), (55, (.iconst 0, 1, .int (0), 0, [])), (56, (.bipush 6, 2, .int (6), 0, [])), (58, (.invokestatic 49, 3, .null, 0, [])), (61, (.aload_n 0, 1, .null, 0, [])), (62, (.aload_n 1, 1, .null, 0, [])), (63, (.getfield 28, 3, .null, 0, [])), (66, (.putfield 28, 3, .null, 0, [])), (69, (.aload_n 1, 1, .null, 0, [])), (70, (.getfield 31, 3, .null, 0, [])), (73, (.iconst 0, 1, .int (0), 0, [])), (74, (.aload_n 0, 1, .null, 0, [])), (75, (.getfield 31, 3, .null, 0, [])), (78, (.iconst 0, 1, .int (0), 0, [])), (79, (.bipush 8, 2, .int (8), 0, [])), (81, (.invokestatic 49, 3, .null, 0, [])), (84, (.aload_n 1, 1, .null, 0, [])), (85, (.getfield 34, 3, .null, 0, [])), (88, (.iconst 0, 1, .int (0), 0, [])), (89, (.aload_n 0, 1, .null, 0, [])), (90, (.getfield 34, 3, .null, 0, [])), (93, (.iconst 0, 1, .int (0), 0, [])), (94, (.bipush 8, 2, .int (8), 0, [])), (96, (.invokestatic 49, 3, .null, 0, [])), (99, (.aload_n 1, 1, .null, 0, [])), (100, (.getfield 37, 3, .null, 0, [])), (103, (.iconst 0, 1, .int (0), 0, [])), (104, (.aload_n 0, 1, .null, 0, [])), (105, (.getfield 37, 3, .null, 0, [])), (108, (.iconst 0, 1, .int (0), 0, [])), (109, (.bipush 8, 2, .int (8), 0, [])), (111, (.invokestatic 49, 3, .null, 0, [])), (114, (.aload_n 1, 1, .null, 0, [])), (115, (.getfield 40, 3, .null, 0, [])), (118, (.iconst 0, 1, .int (0), 0, [])), (119, (.aload_n 0, 1, .null, 0, [])), (120, (.getfield 40, 3, .null, 0, [])), (123, (.iconst 0, 1, .int (0), 0, [])), (124, (.bipush 8, 2, .int (8), 0, [])), (126, (.invokestatic 49, 3, .null, 0, [])), (129, (.aload_n 1, 1, .null, 0, [])), (130, (.getfield 43, 3, .null, 0, [])), (133, (.iconst 0, 1, .int (0), 0, [])), (134, (.aload_n 0, 1, .null, 0, [])), (135, (.getfield 43, 3, .null, 0, [])), (138, (.iconst 0, 1, .int (0), 0, [])), (139, (.bipush 8, 2, .int (8), 0, [])), (141, (.invokestatic 49, 3, .null, 0, [])), (144, (.aload_n 1, 1, .null, 0, [])), (145, (.getfield 46, 3, .null, 0, [])), (148, (.iconst 0, 1, .int (0), 0, [])), (149, (.aload_n 0, 1, .null, 0, [])), (150, (.getfield 46, 3, .null, 0, [])), (153, (.iconst 0, 1, .int (0), 0, [])), (154, (.bipush 8, 2, .int (8), 0, [])), (156, (.invokestatic 49, 3, .null, 0, [])), (159, (.return_, 1, .null, 0, []))]
theorem okX1_become : tblOK cnX1 cX1_become tX1_become = true := by decide +kernel
def hX1_become : List (Nat × List Bool) := []
noncomputable def eX1_become : Cal := [(49, 1, 5, fCpy)]
noncomputable def fX1_become (u : SS) : Option (SS) := run tX1_become hX1_become flX1 0 caG eX1_become none kVSS (FU + 1) 0 (loIn 2 [.ref 0, .ref 10]) [] (picSS u)
set_option maxRecDepth 100000 in
theorem fX1_become_eq (u : SS) : fX1_become u = (some (ssA' u ((sDay (ssB u)), (sTkn (ssB u)), (va_cpy (sMns (ssB u)) (sMns (ssA u)) 0 0 6), (va_cpy (sErn (ssB u)) (sErn (ssA u)) 0 0 6), (va_cpy (sSpd (ssB u)) (sSpd (ssA u)) 0 0 6), (sNum (ssB u)), (va_cpy (sKnd (ssB u)) (sKnd (ssA u)) 0 0 8), (va_cpy (sLbl (ssB u)) (sLbl (ssA u)) 0 0 8), (va_cpy (sLft (ssB u)) (sLft (ssA u)) 0 0 8), (va_cpy (sDue (ssB u)) (sDue (ssA u)) 0 0 8), (va_cpy (sWth (ssB u)) (sWth (ssA u)) 0 0 8), (va_cpy (sWit (ssB u)) (sWit (ssA u)) 0 0 8)))) := rfl
abbrev rX1_become : Room := { frames := 1, cells := 0, slots := 0, locals := 26 }
set_option maxRecDepth 20000 in
theorem eX1_become_ok : ∀ ix kd n F, eX1_become.lookup ix = some (kd, n, F) → CallOK rX1_become yX1_become.cls cX1_become ix kd n F := look_all (look_cons (callOK_cpy u_0 u_1 u_2 u_3 ⟨by decide, by decide⟩) look_nil)
noncomputable def gX1_become : Callee := mkG (α := Unit) (σ := SS) (τ := SS) unSS uaR0R10 (fun _ => none) (fun _ q => picSS q) (fun (a : Unit) (u : SS) => fX1_become u)
theorem coreX1_become : CoreOK yX1_become rX1_become cX1_become 2 none 0 1 gX1_become :=
  core_of (kd := 0) (α := Unit) (σ := SS) (τ := SS) unSS picSS unSS_ok uaR0R10 arR0R10 uaR0R10_ok (fun _ => none) (fun _ q => picSS q) (fun (a : Unit) (u : SS) => fX1_become u)
    (fun a u q h => doc_of_run (by decide) ⟨rfl, rfl⟩ flX1_ok cnX1_ok (fun h => absurd rfl h) eX1_become_ok okX1_become (Nat.le_of_ble_eq_true rfl) (fun v ws' e => kVSS_ok e) rfl h) (fun _ a u => ⟨0, _, _, rfl, rfl⟩)
-- X1_hasThing
def tX1_hasThing : List (Nat × Ent) := [(0, (.iload_n 1, 1, .null, 0, [])), (1, (.ifCond .lt 15, 3, .null, 16, [])), (4, (.iload_n 1, 1, .null, 0, [])), (5, (.aload_n 0, 1, .null, 0, [])), (6, (.getfield 28, 3, .null, 0, [])), (9, (.if_icmp .ge 7, 3, .null, 16, [])), (12, (.iconst 1, 1, .int (1), 0, [])), (13, (.goto 4, 3, .null, 17, [])), (16, (.iconst 0, 1, .int (0), 0, [])), (17, (.ireturn, 1, .null, 0, []))]
theorem okX1_hasThing : tblOK cnX1 cX1_hasThing tX1_hasThing = true := by decide +kernel
def hX1_hasThing : List (Nat × List Bool) := []
noncomputable def eX1_hasThing : Cal := []
noncomputable def fX1_hasThing (a0 : Int32) (u : St) : Option (Int32 × St) := run tX1_hasThing hX1_hasThing flX1 0 caG eX1_hasThing (some .boolean) kISt (FU + 1) 0 (loIn 2 [.ref 0, .int (a0)]) [] (picSt u)
set_option maxRecDepth 100000 in
theorem fX1_hasThing_eq (a0 : Int32) (u : St) : fX1_hasThing a0 u = (if a0 < 0 then (some (0, u)) else (if (sNum u) ≤ a0 then (some (0, u)) else (some (1, u)))) := rfl
abbrev rX1_hasThing : Room := { frames := 0, cells := 0, slots := 0, locals := 0 }
set_option maxRecDepth 20000 in
theorem eX1_hasThing_ok : ∀ ix kd n F, eX1_hasThing.lookup ix = some (kd, n, F) → CallOK rX1_hasThing yX1_hasThing.cls cX1_hasThing ix kd n F := look_all look_nil
noncomputable def gX1_hasThing : Callee := mkG (α := Int32) (σ := St) (τ := Int32 × St) unSt uaR0I (fun q => some (.int q.1)) (fun _ q => picSt q.2) (fun (a : Int32) (u : St) => fX1_hasThing a u)
theorem coreX1_hasThing : CoreOK yX1_hasThing rX1_hasThing cX1_hasThing 2 (some .boolean) 0 1 gX1_hasThing :=
  core_of (kd := 0) (α := Int32) (σ := St) (τ := Int32 × St) unSt picSt unSt_ok uaR0I arR0I uaR0I_ok (fun q => some (.int q.1)) (fun _ q => picSt q.2) (fun (a : Int32) (u : St) => fX1_hasThing a u)
    (fun a u q h => doc_of_run (by decide) ⟨rfl, rfl⟩ flX1_ok cnX1_ok (fun h => absurd rfl h) eX1_hasThing_ok okX1_hasThing (Nat.le_of_ble_eq_true rfl) (fun v ws' e => kISt_ok e) rfl h) (fun _ a u => ⟨0, _, _, rfl, rfl⟩)
-- X1_isFull
def tX1_isFull : List (Nat × Ent) := [(0, (.aload_n 0, 1, .null, 0, [])), (1, (.getfield 28, 3, .null, 0, [])), (4, (.bipush 8, 2, .int (8), 0, [])), (6, (.if_icmp .lt 7, 3, .null, 13, [])), (9, (.iconst 1, 1, .int (1), 0, [])), (10, (.goto 4, 3, .null, 14, [])), (13, (.iconst 0, 1, .int (0), 0, [])), (14, (.ireturn, 1, .null, 0, []))]
theorem okX1_isFull : tblOK cnX1 cX1_isFull tX1_isFull = true := by decide +kernel
def hX1_isFull : List (Nat × List Bool) := []
noncomputable def eX1_isFull : Cal := []
noncomputable def fX1_isFull (u : St) : Option (Int32 × St) := run tX1_isFull hX1_isFull flX1 0 caG eX1_isFull (some .boolean) kISt (FU + 1) 0 (loIn 1 [.ref 0]) [] (picSt u)
set_option maxRecDepth 100000 in
theorem fX1_isFull_eq (u : St) : fX1_isFull u = (if (sNum u) < 8 then (some (0, u)) else (some (1, u))) := rfl
abbrev rX1_isFull : Room := { frames := 0, cells := 0, slots := 0, locals := 0 }
set_option maxRecDepth 20000 in
theorem eX1_isFull_ok : ∀ ix kd n F, eX1_isFull.lookup ix = some (kd, n, F) → CallOK rX1_isFull yX1_isFull.cls cX1_isFull ix kd n F := look_all look_nil
noncomputable def gX1_isFull : Callee := mkG (α := Unit) (σ := St) (τ := Int32 × St) unSt uaR0 (fun q => some (.int q.1)) (fun _ q => picSt q.2) (fun (a : Unit) (u : St) => fX1_isFull u)
theorem coreX1_isFull : CoreOK yX1_isFull rX1_isFull cX1_isFull 1 (some .boolean) 0 1 gX1_isFull :=
  core_of (kd := 0) (α := Unit) (σ := St) (τ := Int32 × St) unSt picSt unSt_ok uaR0 arR0 uaR0_ok (fun q => some (.int q.1)) (fun _ q => picSt q.2) (fun (a : Unit) (u : St) => fX1_isFull u)
    (fun a u q h => doc_of_run (by decide) ⟨rfl, rfl⟩ flX1_ok cnX1_ok (fun h => absurd rfl h) eX1_isFull_ok okX1_isFull (Nat.le_of_ble_eq_true rfl) (fun v ws' e => kISt_ok e) rfl h) (fun _ a u => ⟨0, _, _, rfl, rfl⟩)
-- X1_isThere
def tX1_isThere : List (Nat × Ent) := [(0, (.aload_n 0, 1, .null, 0, [])), (1, (.getfield 46, 3, .null, 0, [])), (4, (.iload_n 1, 1, .null, 0, [])), (5, (.iaload, 1, .null, 0, [])), (6, (.iconst (-1), 1, .int (-1), 0, [])), (7, (.if_icmp .ne 7, 3, .null, 14, [])), (10, (.iconst 1, 1, .int (1), 0, [])), (11, (.goto 4, 3, .null, 15, [])), (14, (.iconst 0, 1, .int (0), 0, [])), (15, (.ireturn, 1, .null, 0, []))]
theorem okX1_isThere : tblOK cnX1 cX1_isThere tX1_isThere = true := by decide +kernel
def hX1_isThere : List (Nat × List Bool) := []
noncomputable def eX1_isThere : Cal := []
noncomputable def fX1_isThere (a0 : Int32) (u : St) : Option (Int32 × St) := run tX1_isThere hX1_isThere flX1 0 caG eX1_isThere (some .boolean) kISt (FU + 1) 0 (loIn 2 [.ref 0, .int (a0)]) [] (picSt u)
set_option maxRecDepth 100000 in
theorem fX1_isThere_eq (a0 : Int32) (u : St) : fX1_isThere a0 u = (if a0 < 0 ∨ 8 ≤ (a0).toNatClampNeg then none else (if ((sWit u) (a0).toNatClampNeg) = (-1 : Int32) then (some (1, u)) else (some (0, u)))) := rfl
abbrev rX1_isThere : Room := { frames := 0, cells := 0, slots := 0, locals := 0 }
set_option maxRecDepth 20000 in
theorem eX1_isThere_ok : ∀ ix kd n F, eX1_isThere.lookup ix = some (kd, n, F) → CallOK rX1_isThere yX1_isThere.cls cX1_isThere ix kd n F := look_all look_nil
noncomputable def gX1_isThere : Callee := mkG (α := Int32) (σ := St) (τ := Int32 × St) unSt uaR0I (fun q => some (.int q.1)) (fun _ q => picSt q.2) (fun (a : Int32) (u : St) => fX1_isThere a u)
theorem coreX1_isThere : CoreOK yX1_isThere rX1_isThere cX1_isThere 2 (some .boolean) 0 1 gX1_isThere :=
  core_of (kd := 0) (α := Int32) (σ := St) (τ := Int32 × St) unSt picSt unSt_ok uaR0I arR0I uaR0I_ok (fun q => some (.int q.1)) (fun _ q => picSt q.2) (fun (a : Int32) (u : St) => fX1_isThere a u)
    (fun a u q h => doc_of_run (by decide) ⟨rfl, rfl⟩ flX1_ok cnX1_ok (fun h => absurd rfl h) eX1_isThere_ok okX1_isThere (Nat.le_of_ble_eq_true rfl) (fun v ws' e => kISt_ok e) rfl h) (fun _ a u => ⟨0, _, _, rfl, rfl⟩)
