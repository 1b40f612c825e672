-- X1_dueOfAllThere
def tPX1_dueOfAllThere : List (Nat × Ent) := [(0, (.iconst 0, 1, .int (0), 0, [])), (1, (.istore_n 1, 1, .null, 0, [])), (2, (.iconst 0, 1, .int (0), 0, [])), (3, (.istore_n 2, 1, .null, 0, [])), (4, (.iload_n 2, 1, .null, 0, [])), (5, (.aload_n 0, 1, .null, 0, [])), (6, (.getfield 28, 3, .null, 0, [])), (9, (.if_icmp .ge 26, 3, .null, 35, [])), (12, (.aload_n 0, 1, .null, 0, [])), (13, (.iload_n 2, 1, .null, 0, [])), (14, (.invokevirtual 62, 3, .null, 0, [])), (17, (.ifCond .eq 12, 3, .null, 29, [])), (20, (.iload_n 1, 1, .null, 0, [])), (21, (.aload_n 0, 1, .null, 0, [])), (22, (.getfield 40, 3, .null, 0, [])), (25, (.iload_n 2, 1, .null, 0, [])), (26, (.iaload, 1, .null, 0, [])), (27, (.iadd, 1, .null, 0, [])), (28, (.istore_n 1, 1, .null, 0, [])), (29, (.iinc 2 1, 3, .int (1), 0, [])), (32, (.goto (-28), 3, .null, 4, [])), (35, (.iload_n 1, 1, .null, 0, [])), (36, (.ireturn, 1, .null, 0, []))]
def tX1_dueOfAllThere : List (Nat × Ent) := tPX1_dueOfAllThere
theorem okX1_dueOfAllThere : tblOK cnX1 cX1_dueOfAllThere tX1_dueOfAllThere = true := by decide +kernel
def hX1_dueOfAllThere : List (Nat × List Bool) := [(4, [true, true, true])]
noncomputable def eX1_dueOfAllThere : Cal := [(62, 0, 2, gX1_isThere)]
noncomputable def fPX1_dueOfAllThere (u : St) : Option (Int32 × St) := run (tPX1_dueOfAllThere) hX1_dueOfAllThere flX1 0 caG eX1_dueOfAllThere (some .int) kISt (FU + 1) 0 (loIn 3 [.ref 0]) [] (picSt u)
noncomputable def lPX1_dueOfAllThere_4 (n : Nat) (x1 : Int32) (x2 : Int32) (u : St) : Option (Int32 × St) := run (tPX1_dueOfAllThere) hX1_dueOfAllThere flX1 0 caG eX1_dueOfAllThere (some .int) kISt n 4 [some (.ref 0), some (.int (x1)), some (.int (x2))] [] (picSt u)
noncomputable def fX1_dueOfAllThere (u : St) : Option (Int32 × St) := fPX1_dueOfAllThere u
noncomputable def lX1_dueOfAllThere_4 (n : Nat) (x1 : Int32) (x2 : Int32) (u : St) : Option (Int32 × St) := lPX1_dueOfAllThere_4 n x1 x2 u
set_option maxRecDepth 100000 in
theorem lPX1_dueOfAllThere_4_eq (n : Nat) (x1 : Int32) (x2 : Int32) (u : St) : lPX1_dueOfAllThere_4 (n + 1) x1 x2 u = (br ((sNum u) ≤ x2) (some (x1, u)) ((fX1_isThere x2 u).bind fun q0 => (br (q0.1 = 0) (lPX1_dueOfAllThere_4 n x1 ((x2 + 1)) q0.2) (br (x2 < 0 ∨ 8 ≤ (x2).toNatClampNeg) none (lPX1_dueOfAllThere_4 n ((x1 + ((sDue q0.2) (x2).toNatClampNeg))) ((x2 + 1)) q0.2))))) := rfl
theorem lX1_dueOfAllThere_4_eq (n : Nat) (x1 : Int32) (x2 : Int32) (u : St) : lX1_dueOfAllThere_4 (n + 1) x1 x2 u = (if (sNum u) ≤ x2 then (some (x1, u)) else ((fX1_isThere x2 u).bind fun q0 => (if q0.1 = 0 then (lX1_dueOfAllThere_4 n x1 ((x2 + 1)) q0.2) else (if x2 < 0 ∨ 8 ≤ (x2).toNatClampNeg then none else (lX1_dueOfAllThere_4 n ((x1 + ((sDue q0.2) (x2).toNatClampNeg))) ((x2 + 1)) q0.2))))) := (lPX1_dueOfAllThere_4_eq n x1 x2 u).trans (by simp only [br_eq, if_true, if_false, tn0, tn1, tn2, tn3, tn4, tn5, tn6, tn8] <;> rfl)
set_option maxRecDepth 100000 in
theorem fPX1_dueOfAllThere_eq (u : St) : fPX1_dueOfAllThere u = (lPX1_dueOfAllThere_4 FU 0 0 u) := rfl
theorem fX1_dueOfAllThere_eq (u : St) : fX1_dueOfAllThere u = (lX1_dueOfAllThere_4 FU 0 0 u) := (fPX1_dueOfAllThere_eq u)
abbrev rX1_dueOfAllThere : Room := { frames := 1, cells := 0, slots := 0, locals := 21 }
set_option maxRecDepth 20000 in
theorem eX1_dueOfAllThere_ok : ∀ ix kd n F, eX1_dueOfAllThere.lookup ix = some (kd, n, F) → CallOK rX1_dueOfAllThere yX1_dueOfAllThere.cls cX1_dueOfAllThere ix kd n F := look_all (look_cons (callOK_same (ci := 1) ⟨⟨rfl, rfl, by decide, by decide⟩, u_8, u_9, u_10, ⟨by decide, by decide⟩, Or.inl ⟨rfl, u_11, u_12, ⟨_, rfl, rfl⟩, 1, rfl, by decide +kernel⟩⟩ coreX1_isThere) look_nil)
noncomputable def gX1_dueOfAllThere : Callee := mkG (α := Unit) (σ := St) (τ := Int32 × St) unSt uaR0 (fun q => some (.int q.1)) (fun _ q => picSt q.2) (fun (a : Unit) (u : St) => fX1_dueOfAllThere u)
theorem coreX1_dueOfAllThere : CoreOK yX1_dueOfAllThere rX1_dueOfAllThere cX1_dueOfAllThere 3 (some .int) 0 1 gX1_dueOfAllThere :=
  core_of (kd := 0) (α := Unit) (σ := St) (τ := Int32 × St) unSt picSt unSt_ok uaR0 arR0 uaR0_ok (fun q => some (.int q.1)) (fun _ q => picSt q.2) (fun (a : Unit) (u : St) => fX1_dueOfAllThere u)
    (fun a u q h => doc_of_run (by decide) ⟨rfl, rfl⟩ flX1_ok cnX1_ok (fun h => absurd rfl h) eX1_dueOfAllThere_ok okX1_dueOfAllThere (Nat.le_of_ble_eq_true rfl) (fun v ws' e => kISt_ok e) rfl h) (fun _ a u => ⟨0, _, _, rfl, rfl⟩)
-- X1_meansOfAll
def tPX1_meansOfAll : List (Nat × Ent) := [(0, (.iconst 0, 1, .int (0), 0, [])), (1, (.istore_n 1, 1, .null, 0, [])), (2, (.iconst 0, 1, .int (0), 0, [])), (3, (.istore_n 2, 1, .null, 0, [])), (4, (.iload_n 2, 1, .null, 0, [])), (5, (.bipush 6, 2, .int (6), 0, [])), (7, (.if_icmp .ge 18, 3, .null, 25, [])), (10, (.iload_n 1, 1, .null, 0, [])), (11, (.aload_n 0, 1, .null, 0, [])), (12, (.getfield 18, 3, .null, 0, [])), (15, (.iload_n 2, 1, .null, 0, [])), (16, (.iaload, 1, .null, 0, [])), (17, (.iadd, 1, .null, 0, [])), (18, (.istore_n 1, 1, .null, 0, [])), (19, (.iinc 2 1, 3, .int (1), 0, [])), (22, (.goto (-18), 3, .null, 4, [])), (25, (.iload_n 1, 1, .null, 0, [])), (26, (.ireturn, 1, .null, 0, []))]
def tX1_meansOfAll : List (Nat × Ent) := tPX1_meansOfAll
theorem okX1_meansOfAll : tblOK cnX1 cX1_meansOfAll tX1_meansOfAll = true := by decide +kernel
def hX1_meansOfAll : List (Nat × List Bool) := [(4, [true, true, true])]
noncomputable def eX1_meansOfAll : Cal := []
noncomputable def fPX1_meansOfAll (u : St) : Option (Int32 × St) := run (tPX1_meansOfAll) hX1_meansOfAll flX1 0 caG eX1_meansOfAll (some .int) kISt (FU + 1) 0 (loIn 3 [.ref 0]) [] (picSt u)
noncomputable def lPX1_meansOfAll_4 (n : Nat) (x1 : Int32) (x2 : Int32) (u : St) : Option (Int32 × St) := run (tPX1_meansOfAll) hX1_meansOfAll flX1 0 caG eX1_meansOfAll (some .int) kISt n 4 [some (.ref 0), some (.int (x1)), some (.int (x2))] [] (picSt u)
noncomputable def fX1_meansOfAll (u : St) : Option (Int32 × St) := fPX1_meansOfAll u
noncomputable def lX1_meansOfAll_4 (n : Nat) (x1 : Int32) (x2 : Int32) (u : St) : Option (Int32 × St) := lPX1_meansOfAll_4 n x1 x2 u
set_option maxRecDepth 100000 in
theorem lPX1_meansOfAll_4_eq (n : Nat) (x1 : Int32) (x2 : Int32) (u : St) : lPX1_meansOfAll_4 (n + 1) x1 x2 u = (br ((6 : Int32) ≤ x2) (some (x1, u)) (br (x2 < 0 ∨ 6 ≤ (x2).toNatClampNeg) none (lPX1_meansOfAll_4 n ((x1 + ((sMns u) (x2).toNatClampNeg))) ((x2 + 1)) u))) := rfl
theorem lX1_meansOfAll_4_eq (n : Nat) (x1 : Int32) (x2 : Int32) (u : St) : lX1_meansOfAll_4 (n + 1) x1 x2 u = (if (6 : Int32) ≤ x2 then (some (x1, u)) else (if x2 < 0 ∨ 6 ≤ (x2).toNatClampNeg then none else (lX1_meansOfAll_4 n ((x1 + ((sMns u) (x2).toNatClampNeg))) ((x2 + 1)) u))) := (lPX1_meansOfAll_4_eq n x1 x2 u).trans (by simp only [br_eq, if_true, if_false, tn0, tn1, tn2, tn3, tn4, tn5, tn6, tn8] <;> rfl)
set_option maxRecDepth 100000 in
theorem fPX1_meansOfAll_eq (u : St) : fPX1_meansOfAll u = (lPX1_meansOfAll_4 FU 0 0 u) := rfl
theorem fX1_meansOfAll_eq (u : St) : fX1_meansOfAll u = (lX1_meansOfAll_4 FU 0 0 u) := (fPX1_meansOfAll_eq u)
abbrev rX1_meansOfAll : Room := { frames := 0, cells := 0, slots := 0, locals := 0 }
set_option maxRecDepth 20000 in
theorem eX1_meansOfAll_ok : ∀ ix kd n F, eX1_meansOfAll.lookup ix = some (kd, n, F) → CallOK rX1_meansOfAll yX1_meansOfAll.cls cX1_meansOfAll ix kd n F := look_all look_nil
noncomputable def gX1_meansOfAll : Callee := mkG (α := Unit) (σ := St) (τ := Int32 × St) unSt uaR0 (fun q => some (.int q.1)) (fun _ q => picSt q.2) (fun (a : Unit) (u : St) => fX1_meansOfAll u)
theorem coreX1_meansOfAll : CoreOK yX1_meansOfAll rX1_meansOfAll cX1_meansOfAll 3 (some .int) 0 1 gX1_meansOfAll :=
  core_of (kd := 0) (α := Unit) (σ := St) (τ := Int32 × St) unSt picSt unSt_ok uaR0 arR0 uaR0_ok (fun q => some (.int q.1)) (fun _ q => picSt q.2) (fun (a : Unit) (u : St) => fX1_meansOfAll u)
    (fun a u q h => doc_of_run (by decide) ⟨rfl, rfl⟩ flX1_ok cnX1_ok (fun h => absurd rfl h) eX1_meansOfAll_ok okX1_meansOfAll (Nat.le_of_ble_eq_true rfl) (fun v ws' e => kISt_ok e) rfl h) (fun _ a u => ⟨0, _, _, rfl, rfl⟩)
-- X1_worthOfAll
def tPX1_worthOfAll : List (Nat × Ent) := [(0, (.iconst 0, 1, .int (0), 0, [])), (1, (.istore_n 1, 1, .null, 0, [])), (2, (.iconst 0, 1, .int (0), 0, [])), (3, (.istore_n 2, 1, .null, 0, [])), (4, (.iload_n 2, 1, .null, 0, [])), (5, (.aload_n 0, 1, .null, 0, [])), (6, (.getfield 28, 3, .null, 0, [])), (9, (.if_icmp .ge 18, 3, .null, 27, [])), (12, (.iload_n 1, 1, .null, 0, [])), (13, (.aload_n 0, 1, .null, 0, [])), (14, (.getfield 43, 3, .null, 0, [])), (17, (.iload_n 2, 1, .null, 0, [])), (18, (.iaload, 1, .null, 0, [])), (19, (.iadd, 1, .null, 0, [])), (20, (.istore_n 1, 1, .null, 0, [])), (21, (.iinc 2 1, 3, .int (1), 0, [])), (24, (.goto (-20), 3, .null, 4, [])), (27, (.iload_n 1, 1, .null, 0, [])), (28, (.ireturn, 1, .null, 0, []))]
def tX1_worthOfAll : List (Nat × Ent) := tPX1_worthOfAll
theorem okX1_worthOfAll : tblOK cnX1 cX1_worthOfAll tX1_worthOfAll = true := by decide +kernel
def hX1_worthOfAll : List (Nat × List Bool) := [(4, [true, true, true])]
noncomputable def eX1_worthOfAll : Cal := []
noncomputable def fPX1_worthOfAll (u : St) : Option (Int32 × St) := run (tPX1_worthOfAll) hX1_worthOfAll flX1 0 caG eX1_worthOfAll (some .int) kISt (FU + 1) 0 (loIn 3 [.ref 0]) [] (picSt u)
noncomputable def lPX1_worthOfAll_4 (n : Nat) (x1 : Int32) (x2 : Int32) (u : St) : Option (Int32 × St) := run (tPX1_worthOfAll) hX1_worthOfAll flX1 0 caG eX1_worthOfAll (some .int) kISt n 4 [some (.ref 0), some (.int (x1)), some (.int (x2))] [] (picSt u)
noncomputable def fX1_worthOfAll (u : St) : Option (Int32 × St) := fPX1_worthOfAll u
noncomputable def lX1_worthOfAll_4 (n : Nat) (x1 : Int32) (x2 : Int32) (u : St) : Option (Int32 × St) := lPX1_worthOfAll_4 n x1 x2 u
set_option maxRecDepth 100000 in
theorem lPX1_worthOfAll_4_eq (n : Nat) (x1 : Int32) (x2 : Int32) (u : St) : lPX1_worthOfAll_4 (n + 1) x1 x2 u = (br ((sNum u) ≤ x2) (some (x1, u)) (br (x2 < 0 ∨ 8 ≤ (x2).toNatClampNeg) none (lPX1_worthOfAll_4 n ((x1 + ((sWth u) (x2).toNatClampNeg))) ((x2 + 1)) u))) := rfl
theorem lX1_worthOfAll_4_eq (n : Nat) (x1 : Int32) (x2 : Int32) (u : St) : lX1_worthOfAll_4 (n + 1) x1 x2 u = (if (sNum u) ≤ x2 then (some (x1, u)) else (if x2 < 0 ∨ 8 ≤ (x2).toNatClampNeg then none else (lX1_worthOfAll_4 n ((x1 + ((sWth u) (x2).toNatClampNeg))) ((x2 + 1)) u))) := (lPX1_worthOfAll_4_eq n x1 x2 u).trans (by simp only [br_eq, if_true, if_false, tn0, tn1, tn2, tn3, tn4, tn5, tn6, tn8] <;> rfl)
set_option maxRecDepth 100000 in
theorem fPX1_worthOfAll_eq (u : St) : fPX1_worthOfAll u = (lPX1_worthOfAll_4 FU 0 0 u) := rfl
theorem fX1_worthOfAll_eq (u : St) : fX1_worthOfAll u = (lX1_worthOfAll_4 FU 0 0 u) := (fPX1_worthOfAll_eq u)
abbrev rX1_worthOfAll : Room := { frames := 0, cells := 0, slots := 0, locals := 0 }
set_option maxRecDepth 20000 in
theorem eX1_worthOfAll_ok : ∀ ix kd n F, eX1_worthOfAll.lookup ix = some (kd, n, F) → CallOK rX1_worthOfAll yX1_worthOfAll.cls cX1_worthOfAll ix kd n F := look_all look_nil
noncomputable def gX1_worthOfAll : Callee := mkG (α := Unit) (σ := St) (τ := Int32 × St) unSt uaR0 (fun q => some (.int q.1)) (fun _ q => picSt q.2) (fun (a : Unit) (u : St) => fX1_worthOfAll u)
theorem coreX1_worthOfAll : CoreOK yX1_worthOfAll rX1_worthOfAll cX1_worthOfAll 3 (some .int) 0 1 gX1_worthOfAll :=
  core_of (kd := 0) (α := Unit) (σ := St) (τ := Int32 × St) unSt picSt unSt_ok uaR0 arR0 uaR0_ok (fun q => some (.int q.1)) (fun _ q => picSt q.2) (fun (a : Unit) (u : St) => fX1_worthOfAll u)
    (fun a u q h => doc_of_run (by decide) ⟨rfl, rfl⟩ flX1_ok cnX1_ok (fun h => absurd rfl h) eX1_worthOfAll_ok okX1_worthOfAll (Nat.le_of_ble_eq_true rfl) (fun v ws' e => kISt_ok e) rfl h) (fun _ a u => ⟨0, _, _, rfl, rfl⟩)
-- X2_add
def tPX2_add : List (Nat × Ent) := [(0, (.aload_n 0, 1, .null, 0, [])), (1, (.getfield 9, 3, .null, 0, [])), (4, (.aload_n 0, 1, .null, 0, [])), (5, (.getfield 15, 3, .null, 0, [])), (8, (.iload_n 1, 1, .null, 0, [])), (9, (.bastore, 1, .null, 0, [])), (10, (.aload_n 0, 1, .null, 0, [])), (11, (.dup, 1, .null, 0, [])), (12, (.getfield 15, 3, .null, 0, [])), (15, (.iconst 1, 1, .int (1), 0, [])), (16, (.iadd, 1, .null, 0, [])), (17, (.putfield 15, 3, .null, 0, [])), (20, (.return_, 1, .null, 0, []))]
def tX2_add : List (Nat × Ent) := tPX2_add
theorem okX2_add : tblOK cnX2 cX2_add tX2_add = true := by decide +kernel
def hX2_add : List (Nat × List Bool) := []
noncomputable def eX2_add : Cal := []
noncomputable def fPX2_add (a0 : Int32) (u : Tp) : Option (Tp) := run (tPX2_add) hX2_add flX2 0 caG eX2_add none kVTp (FU + 1) 0 (loIn 2 [.ref 0, .int (a0)]) [] (picTp u)
noncomputable def fX2_add (a0 : Int32) (u : Tp) : Option (Tp) := fPX2_add a0 u
set_option maxRecDepth 100000 in
theorem fPX2_add_eq (a0 : Int32) (u : Tp) : fPX2_add a0 u = (br ((tLen u) < 0 ∨ 120 ≤ ((tLen u)).toNatClampNeg) none (some ((upd (tByt u) ((tLen u)).toNatClampNeg (vp_nar .byte a0)), ((tLen u) + 1)))) := rfl
theorem fX2_add_eq (a0 : Int32) (u : Tp) : fX2_add a0 u = (if (tLen u) < 0 ∨ 120 ≤ ((tLen u)).toNatClampNeg then none else (some ((upd (tByt u) ((tLen u)).toNatClampNeg (vp_nar .byte a0)), ((tLen u) + 1)))) := (fPX2_add_eq a0 u).trans (by simp only [br_eq, if_true, if_false, tn0, tn1, tn2, tn3, tn4, tn5, tn6, tn8] <;> rfl)
abbrev rX2_add : Room := { frames := 0, cells := 0, slots := 0, locals := 0 }
set_option maxRecDepth 20000 in
theorem eX2_add_ok : ∀ ix kd n F, eX2_add.lookup ix = some (kd, n, F) → CallOK rX2_add yX2_add.cls cX2_add ix kd n F := look_all look_nil
noncomputable def gX2_add : Callee := mkG (α := Int32) (σ := Tp) (τ := Tp) unTp uaR0I (fun _ => none) (fun _ q => picTp q) (fun (a : Int32) (u : Tp) => fX2_add a u)
theorem coreX2_add : CoreOK yX2_add rX2_add cX2_add 2 none 0 2 gX2_add :=
  core_of (kd := 0) (α := Int32) (σ := Tp) (τ := Tp) unTp picTp unTp_ok uaR0I arR0I uaR0I_ok (fun _ => none) (fun _ q => picTp q) (fun (a : Int32) (u : Tp) => fX2_add a u)
    (fun a u q h => doc_of_run (by decide) ⟨rfl, rfl⟩ flX2_ok cnX2_ok (fun h => absurd rfl h) eX2_add_ok okX2_add (Nat.le_of_ble_eq_true rfl) (fun v ws' e => kVTp_ok e) rfl h) (fun _ a u => ⟨0, _, _, rfl, rfl⟩)
