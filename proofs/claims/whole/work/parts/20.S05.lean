-- X1_daysTillGone
def tPX1_daysTillGone : List (Nat × Ent) := [(0, (.iconst 0, 1, .int (0), 0, [])), (1, (.istore_n 3, 1, .null, 0, [])), (2, (.iload_n 3, 1, .null, 0, [])), (3, (.iload_n 2, 1, .null, 0, [])), (4, (.if_icmp .ge 21, 3, .null, 25, [])), (7, (.aload_n 0, 1, .null, 0, [])), (8, (.iload_n 1, 1, .null, 0, [])), (9, (.invokevirtual 62, 3, .null, 0, [])), (12, (.ifCond .eq 13, 3, .null, 25, [])), (15, (.aload_n 0, 1, .null, 0, [])), (16, (.invokevirtual 66, 3, .null, 0, [])), (19, (.iinc 3 1, 3, .int (1), 0, [])), (22, (.goto (-20), 3, .null, 2, [])), (25, (.iload_n 3, 1, .null, 0, [])), (26, (.iload_n 2, 1, .null, 0, [])), (27, (.if_icmp .gt 11, 3, .null, 38, [])), (30, (.aload_n 0, 1, .null, 0, [])), (31, (.iload_n 1, 1, .null, 0, [])), (32, (.invokevirtual 62, 3, .null, 0, [])), (35, (.ifCond .eq 7, 3, .null, 42, [])), (38, (.iconst (-1), 1, .int (-1), 0, [])), (39, (.goto 4, 3, .null, 43, [])), (42, (.iload_n 3, 1, .null, 0, [])), (43, (.ireturn, 1, .null, 0, []))]
def tX1_daysTillGone : List (Nat × Ent) := tPX1_daysTillGone
theorem okX1_daysTillGone : tblOK cnX1 cX1_daysTillGone tX1_daysTillGone = true := by decide +kernel
def hX1_daysTillGone : List (Nat × List Bool) := [(2, [true, true, true, true])]
noncomputable def eX1_daysTillGone : Cal := [(62, 0, 2, gX1_isThere), (66, 0, 1, gX1_goDay)]
noncomputable def fPX1_daysTillGone (a0 : Int32) (a1 : Int32) (u : St) : Option (Int32 × St) := run (tPX1_daysTillGone) hX1_daysTillGone flX1 0 caG eX1_daysTillGone (some .int) kISt (FU + 1) 0 (loIn 4 [.ref 0, .int (a0), .int (a1)]) [] (picSt u)
noncomputable def lPX1_daysTillGone_2 (n : Nat) (x1 : Int32) (x2 : Int32) (x3 : Int32) (u : St) : Option (Int32 × St) := run (tPX1_daysTillGone) hX1_daysTillGone flX1 0 caG eX1_daysTillGone (some .int) kISt n 2 [some (.ref 0), some (.int (x1)), some (.int (x2)), some (.int (x3))] [] (picSt u)
noncomputable def fX1_daysTillGone (a0 : Int32) (a1 : Int32) (u : St) : Option (Int32 × St) := fPX1_daysTillGone a0 a1 u
noncomputable def lX1_daysTillGone_2 (n : Nat) (x1 : Int32) (x2 : Int32) (x3 : Int32) (u : St) : Option (Int32 × St) := lPX1_daysTillGone_2 n x1 x2 x3 u
set_option maxRecDepth 100000 in
theorem lPX1_daysTillGone_2_eq (n : Nat) (x1 : Int32) (x2 : Int32) (x3 : Int32) (u : St) : lPX1_daysTillGone_2 (n + 1) x1 x2 x3 u = (br (x2 ≤ x3) (br (x2 < x3) (some ((-1 : Int32), u)) ((fX1_isThere x1 u).bind fun q0 => (br (q0.1 = 0) (some (x3, q0.2)) (some ((-1 : Int32), q0.2))))) ((fX1_isThere x1 u).bind fun q0 => (br (q0.1 = 0) (br (x2 < x3) (some ((-1 : Int32), q0.2)) ((fX1_isThere x1 q0.2).bind fun q1 => (br (q1.1 = 0) (some (x3, q1.2)) (some ((-1 : Int32), q1.2))))) ((fX1_goDay q0.2).bind fun q1 => (lPX1_daysTillGone_2 n x1 x2 ((x3 + 1)) q1))))) := rfl
theorem lX1_daysTillGone_2_eq (n : Nat) (x1 : Int32) (x2 : Int32) (x3 : Int32) (u : St) : lX1_daysTillGone_2 (n + 1) x1 x2 x3 u = (if x2 ≤ x3 then (if x2 < x3 then (some ((-1 : Int32), u)) else ((fX1_isThere x1 u).bind fun q0 => (if q0.1 = 0 then (some (x3, q0.2)) else (some ((-1 : Int32), q0.2))))) else ((fX1_isThere x1 u).bind fun q0 => (if q0.1 = 0 then (if x2 < x3 then (some ((-1 : Int32), q0.2)) else ((fX1_isThere x1 q0.2).bind fun q1 => (if q1.1 = 0 then (some (x3, q1.2)) else (some ((-1 : Int32), q1.2))))) else ((fX1_goDay q0.2).bind fun q1 => (lX1_daysTillGone_2 n x1 x2 ((x3 + 1)) q1))))) := (lPX1_daysTillGone_2_eq n x1 x2 x3 u).trans (by simp only [br_eq, if_true, if_false, tn0, tn1, tn2, tn3, tn4, tn5, tn6, tn8] <;> rfl)
set_option maxRecDepth 100000 in
theorem fPX1_daysTillGone_eq (a0 : Int32) (a1 : Int32) (u : St) : fPX1_daysTillGone a0 a1 u = (lPX1_daysTillGone_2 FU a0 a1 0 u) := rfl
theorem fX1_daysTillGone_eq (a0 : Int32) (a1 : Int32) (u : St) : fX1_daysTillGone a0 a1 u = (lX1_daysTillGone_2 FU a0 a1 0 u) := (fPX1_daysTillGone_eq a0 a1 u)
abbrev rX1_daysTillGone : Room := { frames := 5, cells := 0, slots := 0, locals := 112 }
set_option maxRecDepth 20000 in
theorem eX1_daysTillGone_ok : ∀ ix kd n F, eX1_daysTillGone.lookup ix = some (kd, n, F) → CallOK rX1_daysTillGone yX1_daysTillGone.cls cX1_daysTillGone ix kd n F := look_all (look_cons (callOK_same (ci := 1) ⟨⟨rfl, rfl, by decide, by decide⟩, u_8, u_9, u_10, ⟨by decide, by decide⟩, Or.inl ⟨rfl, u_11, u_12, ⟨_, rfl, rfl⟩, 1, rfl, by decide +kernel⟩⟩ coreX1_isThere) (look_cons (callOK_same (ci := 1) ⟨⟨rfl, rfl, by decide, by decide⟩, u_56, u_57, u_10, ⟨by decide, by decide⟩, Or.inl ⟨rfl, u_58, u_59, ⟨_, rfl, rfl⟩, 0, rfl, by decide +kernel⟩⟩ coreX1_goDay) look_nil))
noncomputable def gX1_daysTillGone : Callee := mkG (α := Int32 × Int32) (σ := St) (τ := Int32 × St) unSt uaR0II (fun q => some (.int q.1)) (fun _ q => picSt q.2) (fun (a : Int32 × Int32) (u : St) => fX1_daysTillGone a.1 a.2 u)
theorem coreX1_daysTillGone : CoreOK yX1_daysTillGone rX1_daysTillGone cX1_daysTillGone 4 (some .int) 0 1 gX1_daysTillGone :=
  core_of (kd := 0) (α := Int32 × Int32) (σ := St) (τ := Int32 × St) unSt picSt unSt_ok uaR0II arR0II uaR0II_ok (fun q => some (.int q.1)) (fun _ q => picSt q.2) (fun (a : Int32 × Int32) (u : St) => fX1_daysTillGone a.1 a.2 u)
    (fun a u q h => doc_of_run (by decide) ⟨rfl, rfl⟩ flX1_ok cnX1_ok (fun h => absurd rfl h) eX1_daysTillGone_ok okX1_daysTillGone (Nat.le_of_ble_eq_true rfl) (fun v ws' e => kISt_ok e) rfl h) (fun _ a u => ⟨0, _, _, rfl, rfl⟩)
-- X1_daysTillWith
def tPX1_daysTillWith : List (Nat × Ent) := [(0, (.aload_n 0, 1, .null, 0, [])), (1, (.iload_n 1, 1, .null, 0, [])), (2, (.iload_n 3, 1, .null, 0, [])), (3, (.invokevirtual 105, 3, .null, 0, [])), (6, (.istore 4, 2, .null, 0, [])), (8, (.iload 4, 2, .null, 0, [])), (10, (.ifCond .lt 18, 3, .null, 28, [])), (13, (.aload_n 0, 1, .null, 0, [])), (14, (.getfield 46, 3, .null, 0, [])), (17, (.iload_n 1, 1, .null, 0, [])), (18, (.iaload, 1, .null, 0, [])), (19, (.iload_n 2, 1, .null, 0, [])), (20, (.if_icmp .ne 8, 3, .null, 28, [])), (23, (.iload 4, 2, .null, 0, [])), (25, (.goto 4, 3, .null, 29, [])), (28, (.iconst (-1), 1, .int (-1), 0, [])), (29, (.ireturn, 1, .null, 0, []))]
def tX1_daysTillWith : List (Nat × Ent) := tPX1_daysTillWith
theorem okX1_daysTillWith : tblOK cnX1 cX1_daysTillWith tX1_daysTillWith = true := by decide +kernel
def hX1_daysTillWith : List (Nat × List Bool) := []
noncomputable def eX1_daysTillWith : Cal := [(105, 0, 3, gX1_daysTillGone)]
noncomputable def fPX1_daysTillWith (a0 : Int32) (a1 : Int32) (a2 : Int32) (u : St) : Option (Int32 × St) := run (tPX1_daysTillWith) hX1_daysTillWith flX1 0 caG eX1_daysTillWith (some .int) kISt (FU + 1) 0 (loIn 5 [.ref 0, .int (a0), .int (a1), .int (a2)]) [] (picSt u)
noncomputable def fX1_daysTillWith (a0 : Int32) (a1 : Int32) (a2 : Int32) (u : St) : Option (Int32 × St) := fPX1_daysTillWith a0 a1 a2 u
set_option maxRecDepth 100000 in
theorem fPX1_daysTillWith_eq (a0 : Int32) (a1 : Int32) (a2 : Int32) (u : St) : fPX1_daysTillWith a0 a1 a2 u = ((fX1_daysTillGone a0 a2 u).bind fun q0 => (br (q0.1 < 0) (some ((-1 : Int32), q0.2)) (br (a0 < 0 ∨ 8 ≤ (a0).toNatClampNeg) none (br (((sWit q0.2) (a0).toNatClampNeg) = a1) (some (q0.1, q0.2)) (some ((-1 : Int32), q0.2)))))) := rfl
theorem fX1_daysTillWith_eq (a0 : Int32) (a1 : Int32) (a2 : Int32) (u : St) : fX1_daysTillWith a0 a1 a2 u = ((fX1_daysTillGone a0 a2 u).bind fun q0 => (if q0.1 < 0 then (some ((-1 : Int32), q0.2)) else (if a0 < 0 ∨ 8 ≤ (a0).toNatClampNeg then none else (if ((sWit q0.2) (a0).toNatClampNeg) = a1 then (some (q0.1, q0.2)) else (some ((-1 : Int32), q0.2)))))) := (fPX1_daysTillWith_eq a0 a1 a2 u).trans (by simp only [br_eq, if_true, if_false, tn0, tn1, tn2, tn3, tn4, tn5, tn6, tn8] <;> rfl)
abbrev rX1_daysTillWith : Room := { frames := 6, cells := 0, slots := 0, locals := 135 }
set_option maxRecDepth 20000 in
theorem eX1_daysTillWith_ok : ∀ ix kd n F, eX1_daysTillWith.lookup ix = some (kd, n, F) → CallOK rX1_daysTillWith yX1_daysTillWith.cls cX1_daysTillWith ix kd n F := look_all (look_cons (callOK_same (ci := 1) ⟨⟨rfl, rfl, by decide, by decide⟩, u_60, u_61, u_10, ⟨by decide, by decide⟩, Or.inl ⟨rfl, u_62, u_63, ⟨_, rfl, rfl⟩, 2, rfl, by decide +kernel⟩⟩ coreX1_daysTillGone) look_nil)
noncomputable def gX1_daysTillWith : Callee := mkG (α := Int32 × Int32 × Int32) (σ := St) (τ := Int32 × St) unSt uaR0III (fun q => some (.int q.1)) (fun _ q => picSt q.2) (fun (a : Int32 × Int32 × Int32) (u : St) => fX1_daysTillWith a.1 a.2.1 a.2.2 u)
theorem coreX1_daysTillWith : CoreOK yX1_daysTillWith rX1_daysTillWith cX1_daysTillWith 5 (some .int) 0 1 gX1_daysTillWith :=
  core_of (kd := 0) (α := Int32 × Int32 × Int32) (σ := St) (τ := Int32 × St) unSt picSt unSt_ok uaR0III arR0III uaR0III_ok (fun q => some (.int q.1)) (fun _ q => picSt q.2) (fun (a : Int32 × Int32 × Int32) (u : St) => fX1_daysTillWith a.1 a.2.1 a.2.2 u)
    (fun a u q h => doc_of_run (by decide) ⟨rfl, rfl⟩ flX1_ok cnX1_ok (fun h => absurd rfl h) eX1_daysTillWith_ok okX1_daysTillWith (Nat.le_of_ble_eq_true rfl) (fun v ws' e => kISt_ok e) rfl h) (fun _ a u => ⟨0, _, _, rfl, rfl⟩)
-- X1_setOf
def tPX1_setOf_5 : List (Nat × Ent) := [(0, (.iconst 0, 1, .int (0), 0, [])), (1, (.istore_n 3, 1, .null, 0, [])), (2, (.iconst 0, 1, .int (0), 0, [])), (3, (.istore 4, 2, .null, 0, [])), (5, (.iload 4, 2, .null, 0, [])), (7, (.aload_n 0, 1, .null, 0, [])), (8, (.getfield 28, 3, .null, 0, [])), (11, (.if_icmp .ge 24, 3, .null, 35, [])), (14, (.aload_n 1, 1, .null, 0, [])), (15, (.iload 4, 2, .null, 0, [])), (17, (.iaload, 1, .null, 0, [])), (18, (.iload_n 2, 1, .null, 0, [])), (19, (.if_icmp .ne 10, 3, .null, 29, [])), (22, (.iload_n 3, 1, .null, 0, [])), (23, (.iconst 1, 1, .int (1), 0, [])), (24, (.iload 4, 2, .null, 0, [])), (26, (.ishl, 1, .null, 0, [])), (27, (.ior, 1, .null, 0, [])), (28, (.istore_n 3, 1, .null, 0, [])), (29, (.iinc 4 1, 3, .int (1), 0, [])), (32, (.goto (-27), 3, .null, 5, [])), (35, (.iload_n 3, 1, .null, 0, [])), (36, (.ireturn, 1, .null, 0, []))]
def tX1_setOf_5 : List (Nat × Ent) := tPX1_setOf_5
theorem okX1_setOf_5 : tblOK cnX1 cX1_setOf tX1_setOf_5 = true := by decide +kernel
def hX1_setOf_5 : List (Nat × List Bool) := [(5, [true, true, true, true, true])]
noncomputable def eX1_setOf_5 : Cal := []
noncomputable def fPX1_setOf_5 (a0 : Int32) (u : St) : Option (Int32 × St) := run (tPX1_setOf_5) hX1_setOf_5 flX1 0 caG eX1_setOf_5 (some .int) kISt (FU + 1) 0 (loIn 5 [.ref 0, .ref 5, .int (a0)]) [] (picSt u)
noncomputable def lPX1_setOf_5_5_1_5 (n : Nat) (x2 : Int32) (x3 : Int32) (x4 : Int32) (u : St) : Option (Int32 × St) := run (tPX1_setOf_5) hX1_setOf_5 flX1 0 caG eX1_setOf_5 (some .int) kISt n 5 [some (.ref 0), some (.ref 5), some (.int (x2)), some (.int (x3)), some (.int (x4))] [] (picSt u)
noncomputable def fX1_setOf_5 (a0 : Int32) (u : St) : Option (Int32 × St) := fPX1_setOf_5 a0 u
noncomputable def lX1_setOf_5_5_1_5 (n : Nat) (x2 : Int32) (x3 : Int32) (x4 : Int32) (u : St) : Option (Int32 × St) := lPX1_setOf_5_5_1_5 n x2 x3 x4 u
set_option maxRecDepth 100000 in
theorem lPX1_setOf_5_5_1_5_eq (n : Nat) (x2 : Int32) (x3 : Int32) (x4 : Int32) (u : St) : lPX1_setOf_5_5_1_5 (n + 1) x2 x3 x4 u = (br ((sNum u) ≤ x4) (some (x3, u)) (br (x4 < 0 ∨ 8 ≤ (x4).toNatClampNeg) none (br (((sLbl u) (x4).toNatClampNeg) = x2) (lPX1_setOf_5_5_1_5 n x2 ((x3 ||| ((1 : Int32) <<< (x4 &&& 31)))) ((x4 + 1)) u) (lPX1_setOf_5_5_1_5 n x2 x3 ((x4 + 1)) u)))) := rfl
theorem lX1_setOf_5_5_1_5_eq (n : Nat) (x2 : Int32) (x3 : Int32) (x4 : Int32) (u : St) : lX1_setOf_5_5_1_5 (n + 1) x2 x3 x4 u = (if (sNum u) ≤ x4 then (some (x3, u)) else (if x4 < 0 ∨ 8 ≤ (x4).toNatClampNeg then none else (if ((sLbl u) (x4).toNatClampNeg) = x2 then (lX1_setOf_5_5_1_5 n x2 ((x3 ||| ((1 : Int32) <<< (x4 &&& 31)))) ((x4 + 1)) u) else (lX1_setOf_5_5_1_5 n x2 x3 ((x4 + 1)) u)))) := (lPX1_setOf_5_5_1_5_eq n x2 x3 x4 u).trans (by simp only [br_eq, if_true, if_false, tn0, tn1, tn2, tn3, tn4, tn5, tn6, tn8] <;> rfl)
set_option maxRecDepth 100000 in
theorem fPX1_setOf_5_eq (a0 : Int32) (u : St) : fPX1_setOf_5 a0 u = (lPX1_setOf_5_5_1_5 FU a0 0 0 u) := rfl
theorem fX1_setOf_5_eq (a0 : Int32) (u : St) : fX1_setOf_5 a0 u = (lX1_setOf_5_5_1_5 FU a0 0 0 u) := (fPX1_setOf_5_eq a0 u)
abbrev rX1_setOf_5 : Room := { frames := 0, cells := 0, slots := 0, locals := 0 }
set_option maxRecDepth 20000 in
theorem eX1_setOf_5_ok : ∀ ix kd n F, eX1_setOf_5.lookup ix = some (kd, n, F) → CallOK rX1_setOf_5 yX1_setOf.cls cX1_setOf ix kd n F := look_all look_nil
noncomputable def gX1_setOf_5 : Callee := mkG (α := Int32) (σ := St) (τ := Int32 × St) unSt uaR0R5I (fun q => some (.int q.1)) (fun _ q => picSt q.2) (fun (a : Int32) (u : St) => fX1_setOf_5 a u)
theorem coreX1_setOf_5 : CoreOK yX1_setOf rX1_setOf_5 cX1_setOf 5 (some .int) 0 1 gX1_setOf_5 :=
  core_of (kd := 0) (α := Int32) (σ := St) (τ := Int32 × St) unSt picSt unSt_ok uaR0R5I arR0R5I uaR0R5I_ok (fun q => some (.int q.1)) (fun _ q => picSt q.2) (fun (a : Int32) (u : St) => fX1_setOf_5 a u)
    (fun a u q h => doc_of_run (by decide) ⟨rfl, rfl⟩ flX1_ok cnX1_ok (fun h => absurd rfl h) eX1_setOf_5_ok okX1_setOf_5 (Nat.le_of_ble_eq_true rfl) (fun v ws' e => kISt_ok e) rfl h) (fun _ a u => ⟨0, _, _, rfl, rfl⟩)
def tPX1_setOf_9 : List (Nat × Ent) := [(0, (.iconst 0, 1, .int (0), 0, [])), (1, (.istore_n 3, 1, .null, 0, [])), (2, (.iconst 0, 1, .int (0), 0, [])), (3, (.istore 4, 2, .null, 0, [])), (5, (.iload 4, 2, .null, 0, [])), (7, (.aload_n 0, 1, .null, 0, [])), (8, (.getfield 28, 3, .null, 0, [])), (11, (.if_icmp .ge 24, 3, .null, 35, [])), (14, (.aload_n 1, 1, .null, 0, [])), (15, (.iload 4, 2, .null, 0, [])), (17, (.iaload, 1, .null, 0, [])), (18, (.iload_n 2, 1, .null, 0, [])), (19, (.if_icmp .ne 10, 3, .null, 29, [])), (22, (.iload_n 3, 1, .null, 0, [])), (23, (.iconst 1, 1, .int (1), 0, [])), (24, (.iload 4, 2, .null, 0, [])), (26, (.ishl, 1, .null, 0, [])), (27, (.ior, 1, .null, 0, [])), (28, (.istore_n 3, 1, .null, 0, [])), (29, (.iinc 4 1, 3, .int (1), 0, [])), (32, (.goto (-27), 3, .null, 5, [])), (35, (.iload_n 3, 1, .null, 0, [])), (36, (.ireturn, 1, .null, 0, []))]
def tX1_setOf_9 : List (Nat × Ent) := tPX1_setOf_9
theorem okX1_setOf_9 : tblOK cnX1 cX1_setOf tX1_setOf_9 = true := by decide +kernel
def hX1_setOf_9 : List (Nat × List Bool) := [(5, [true, true, true, true, true])]
noncomputable def eX1_setOf_9 : Cal := []
noncomputable def fPX1_setOf_9 (a0 : Int32) (u : St) : Option (Int32 × St) := run (tPX1_setOf_9) hX1_setOf_9 flX1 0 caG eX1_setOf_9 (some .int) kISt (FU + 1) 0 (loIn 5 [.ref 0, .ref 9, .int (a0)]) [] (picSt u)
noncomputable def lPX1_setOf_9_5_1_9 (n : Nat) (x2 : Int32) (x3 : Int32) (x4 : Int32) (u : St) : Option (Int32 × St) := run (tPX1_setOf_9) hX1_setOf_9 flX1 0 caG eX1_setOf_9 (some .int) kISt n 5 [some (.ref 0), some (.ref 9), some (.int (x2)), some (.int (x3)), some (.int (x4))] [] (picSt u)
noncomputable def fX1_setOf_9 (a0 : Int32) (u : St) : Option (Int32 × St) := fPX1_setOf_9 a0 u
noncomputable def lX1_setOf_9_5_1_9 (n : Nat) (x2 : Int32) (x3 : Int32) (x4 : Int32) (u : St) : Option (Int32 × St) := lPX1_setOf_9_5_1_9 n x2 x3 x4 u
set_option maxRecDepth 100000 in
theorem lPX1_setOf_9_5_1_9_eq (n : Nat) (x2 : Int32) (x3 : Int32) (x4 : Int32) (u : St) : lPX1_setOf_9_5_1_9 (n + 1) x2 x3 x4 u = (br ((sNum u) ≤ x4) (some (x3, u)) (br (x4 < 0 ∨ 8 ≤ (x4).toNatClampNeg) none (br (((sWit u) (x4).toNatClampNeg) = x2) (lPX1_setOf_9_5_1_9 n x2 ((x3 ||| ((1 : Int32) <<< (x4 &&& 31)))) ((x4 + 1)) u) (lPX1_setOf_9_5_1_9 n x2 x3 ((x4 + 1)) u)))) := rfl
theorem lX1_setOf_9_5_1_9_eq (n : Nat) (x2 : Int32) (x3 : Int32) (x4 : Int32) (u : St) : lX1_setOf_9_5_1_9 (n + 1) x2 x3 x4 u = (if (sNum u) ≤ x4 then (some (x3, u)) else (if x4 < 0 ∨ 8 ≤ (x4).toNatClampNeg then none else (if ((sWit u) (x4).toNatClampNeg) = x2 then (lX1_setOf_9_5_1_9 n x2 ((x3 ||| ((1 : Int32) <<< (x4 &&& 31)))) ((x4 + 1)) u) else (lX1_setOf_9_5_1_9 n x2 x3 ((x4 + 1)) u)))) := (lPX1_setOf_9_5_1_9_eq n x2 x3 x4 u).trans (by simp only [br_eq, if_true, if_false, tn0, tn1, tn2, tn3, tn4, tn5, tn6, tn8] <;> rfl)
set_option maxRecDepth 100000 in
theorem fPX1_setOf_9_eq (a0 : Int32) (u : St) : fPX1_setOf_9 a0 u = (lPX1_setOf_9_5_1_9 FU a0 0 0 u) := rfl
theorem fX1_setOf_9_eq (a0 : Int32) (u : St) : fX1_setOf_9 a0 u = (lX1_setOf_9_5_1_9 FU a0 0 0 u) := (fPX1_setOf_9_eq a0 u)
abbrev rX1_setOf_9 : Room := { frames := 0, cells := 0, slots := 0, locals := 0 }
set_option maxRecDepth 20000 in
theorem eX1_setOf_9_ok : ∀ ix kd n F, eX1_setOf_9.lookup ix = some (kd, n, F) → CallOK rX1_setOf_9 yX1_setOf.cls cX1_setOf ix kd n F := look_all look_nil
noncomputable def gX1_setOf_9 : Callee := mkG (α := Int32) (σ := St) (τ := Int32 × St) unSt uaR0R9I (fun q => some (.int q.1)) (fun _ q => picSt q.2) (fun (a : Int32) (u : St) => fX1_setOf_9 a u)
theorem coreX1_setOf_9 : CoreOK yX1_setOf rX1_setOf_9 cX1_setOf 5 (some .int) 0 1 gX1_setOf_9 :=
  core_of (kd := 0) (α := Int32) (σ := St) (τ := Int32 × St) unSt picSt unSt_ok uaR0R9I arR0R9I uaR0R9I_ok (fun q => some (.int q.1)) (fun _ q => picSt q.2) (fun (a : Int32) (u : St) => fX1_setOf_9 a u)
    (fun a u q h => doc_of_run (by decide) ⟨rfl, rfl⟩ flX1_ok cnX1_ok (fun h => absurd rfl h) eX1_setOf_9_ok okX1_setOf_9 (Nat.le_of_ble_eq_true rfl) (fun v ws' e => kISt_ok e) rfl h) (fun _ a u => ⟨0, _, _, rfl, rfl⟩)
noncomputable def gX1_setOf : Callee := fun ρ as wc κ => match as with
  | .ref 0 :: .ref 5 :: _ => gX1_setOf_5 ρ as wc κ
  | .ref 0 :: .ref 9 :: _ => gX1_setOf_9 ρ as wc κ
  | _ => none
theorem coreX1_setOf : CoreOK yX1_setOf rX1_setOf_5 cX1_setOf 5 (some .int) 0 1 gX1_setOf := by
  intro ρ as wc κ res h
  unfold gX1_setOf at h
  split at h
  · exact coreX1_setOf_5 ρ _ wc κ res h
  · exact coreX1_setOf_9 ρ _ wc κ res h
  · cases h
