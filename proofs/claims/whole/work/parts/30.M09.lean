-- X5_daysGo
def tPX5_daysGo : List (Nat × Ent) := [(0, (.iconst 0, 1, .int (0), 0, [])), (1, (.istore_n 2, 1, .null, 0, [])), (2, (.iload_n 2, 1, .null, 0, [])), (3, (.iload_n 1, 1, .null, 0, [])), (4, (.if_icmp .ge 13, 3, .null, 17, [])), (7, (.aload_n 0, 1, .null, 0, [])), (8, (.invokevirtual 149, 3, .null, 0, [])), (11, (.iinc 2 1, 3, .int (1), 0, [])), (14, (.goto (-12), 3, .null, 2, [])), (17, (.return_, 1, .null, 0, []))]
def tX5_daysGo : List (Nat × Ent) := tPX5_daysGo
theorem okX5_daysGo : tblOK cnX5 cX5_daysGo tX5_daysGo = true := by decide +kernel
def hX5_daysGo : List (Nat × List Bool) := [(2, [true, true, true])]
noncomputable def eX5_daysGo : Cal := [(149, 0, 1, gX5_day)]
noncomputable def fPX5_daysGo (a0 : Int32) (u : MS) : Option (MS) := run (tPX5_daysGo) hX5_daysGo flX5 0 caG eX5_daysGo none kVM (FU + 1) 0 (loIn 3 [.ref 0, .int (a0)]) [] (picM u)
noncomputable def lPX5_daysGo_2 (n : Nat) (x1 : Int32) (x2 : Int32) (u : MS) : Option (MS) := run (tPX5_daysGo) hX5_daysGo flX5 0 caG eX5_daysGo none kVM n 2 [some (.ref 0), some (.int (x1)), some (.int (x2))] [] (picM u)
noncomputable def fX5_daysGo (a0 : Int32) (u : MS) : Option (MS) := fPX5_daysGo a0 u
noncomputable def lX5_daysGo_2 (n : Nat) (x1 : Int32) (x2 : Int32) (u : MS) : Option (MS) := lPX5_daysGo_2 n x1 x2 u
set_option maxRecDepth 100000 in
theorem lPX5_daysGo_2_eq (n : Nat) (x1 : Int32) (x2 : Int32) (u : MS) : lPX5_daysGo_2 (n + 1) x1 x2 u = (br (x1 ≤ x2) (some u) ((fX5_day u).bind fun q0 => (lPX5_daysGo_2 n x1 ((x2 + 1)) q0))) := rfl
theorem lX5_daysGo_2_eq (n : Nat) (x1 : Int32) (x2 : Int32) (u : MS) : lX5_daysGo_2 (n + 1) x1 x2 u = (if x1 ≤ x2 then (some u) else ((fX5_day u).bind fun q0 => (lX5_daysGo_2 n x1 ((x2 + 1)) q0))) := (lPX5_daysGo_2_eq n x1 x2 u).trans (by simp only [br_eq, if_true, if_false, tn0, tn1, tn2, tn3, tn4, tn5, tn6, tn8] <;> rfl)
set_option maxRecDepth 100000 in
theorem fPX5_daysGo_eq (a0 : Int32) (u : MS) : fPX5_daysGo a0 u = (lPX5_daysGo_2 FU a0 0 u) := rfl
theorem fX5_daysGo_eq (a0 : Int32) (u : MS) : fX5_daysGo a0 u = (lX5_daysGo_2 FU a0 0 u) := (fPX5_daysGo_eq a0 u)
abbrev rX5_daysGo : Room := { frames := 6, cells := 0, slots := 0, locals := 129 }
set_option maxRecDepth 20000 in
theorem eX5_daysGo_ok : ∀ ix kd n F, eX5_daysGo.lookup ix = some (kd, n, F) → CallOK rX5_daysGo yX5_daysGo.cls cX5_daysGo ix kd n F := look_all (look_cons (callOK_same (ci := 5) ⟨⟨rfl, rfl, by decide, by decide⟩, u_346, u_347, u_247, ⟨by decide, by decide⟩, Or.inl ⟨rfl, u_348, u_349, ⟨_, rfl, rfl⟩, 0, rfl, by decide +kernel⟩⟩ coreX5_day) look_nil)
noncomputable def gX5_daysGo : Callee := mkG (α := Int32) (σ := MS) (τ := MS) unM uaR0I (fun _ => none) (fun _ q => picM q) (fun (a : Int32) (u : MS) => fX5_daysGo a u)
theorem coreX5_daysGo : CoreOK yX5_daysGo rX5_daysGo cX5_daysGo 3 none 0 5 gX5_daysGo :=
  core_of (kd := 0) (α := Int32) (σ := MS) (τ := MS) unM picM unM_ok uaR0I arR0I uaR0I_ok (fun _ => none) (fun _ q => picM q) (fun (a : Int32) (u : MS) => fX5_daysGo a u)
    (fun a u q h => doc_of_run (by decide) ⟨rfl, rfl⟩ flX5_ok cnX5_ok (fun h => absurd rfl h) eX5_daysGo_ok okX5_daysGo (Nat.le_of_ble_eq_true rfl) (fun v ws' e => kVM_ok e) rfl h) (fun _ a u => ⟨0, _, _, rfl, rfl⟩)
-- X5_thoseThere
def tPX5_thoseThere : List (Nat × Ent) := [(0, (.aload_n 0, 1, .null, 0, [])), (1, (.iconst 5, 1, .int (5), 0, [])), (2, (.iconst (-1), 1, .int (-1), 0, [])), (3, (.invokevirtual 80, 3, .null, 0, [])), (6, (.ireturn, 1, .null, 0, []))]
def tX5_thoseThere : List (Nat × Ent) := tPX5_thoseThere
theorem okX5_thoseThere : tblOK cnX5 cX5_thoseThere tX5_thoseThere = true := by decide +kernel
def hX5_thoseThere : List (Nat × List Bool) := []
noncomputable def eX5_thoseThere : Cal := [(80, 0, 3, gX5_thoseAs)]
noncomputable def fPX5_thoseThere (u : MS) : Option (Int32 × MS) := run (tPX5_thoseThere) hX5_thoseThere flX5 0 caG eX5_thoseThere (some .int) kIM (FU + 1) 0 (loIn 1 [.ref 0]) [] (picM u)
noncomputable def fX5_thoseThere (u : MS) : Option (Int32 × MS) := fPX5_thoseThere u
set_option maxRecDepth 100000 in
theorem fPX5_thoseThere_eq (u : MS) : fPX5_thoseThere u = ((fX5_thoseAs 5 (-1 : Int32) u).bind fun q0 => (some (q0.1, q0.2))) := rfl
theorem fX5_thoseThere_eq (u : MS) : fX5_thoseThere u = ((fX5_thoseAs 5 (-1 : Int32) u).bind fun q0 => (some (q0.1, q0.2))) := (fPX5_thoseThere_eq u)
abbrev rX5_thoseThere : Room := { frames := 3, cells := 0, slots := 0, locals := 67 }
set_option maxRecDepth 20000 in
theorem eX5_thoseThere_ok : ∀ ix kd n F, eX5_thoseThere.lookup ix = some (kd, n, F) → CallOK rX5_thoseThere yX5_thoseThere.cls cX5_thoseThere ix kd n F := look_all (look_cons (callOK_same (ci := 5) ⟨⟨rfl, rfl, by decide, by decide⟩, u_270, u_271, u_247, ⟨by decide, by decide⟩, Or.inl ⟨rfl, u_272, u_273, ⟨_, rfl, rfl⟩, 2, rfl, by decide +kernel⟩⟩ coreX5_thoseAs) look_nil)
noncomputable def gX5_thoseThere : Callee := mkG (α := Unit) (σ := MS) (τ := Int32 × MS) unM uaR0 (fun q => some (.int q.1)) (fun _ q => picM q.2) (fun (a : Unit) (u : MS) => fX5_thoseThere u)
theorem coreX5_thoseThere : CoreOK yX5_thoseThere rX5_thoseThere cX5_thoseThere 1 (some .int) 0 5 gX5_thoseThere :=
  core_of (kd := 0) (α := Unit) (σ := MS) (τ := Int32 × MS) unM picM unM_ok uaR0 arR0 uaR0_ok (fun q => some (.int q.1)) (fun _ q => picM q.2) (fun (a : Unit) (u : MS) => fX5_thoseThere u)
    (fun a u q h => doc_of_run (by decide) ⟨rfl, rfl⟩ flX5_ok cnX5_ok (fun h => absurd rfl h) eX5_thoseThere_ok okX5_thoseThere (Nat.le_of_ble_eq_true rfl) (fun v ws' e => kIM_ok e) rfl h) (fun _ a u => ⟨0, _, _, rfl, rfl⟩)
-- X5_days
def tPX5_days (c1 : Int64) (c2 : Int32) (c3 : Int32) (c4 : Int32) : List (Nat × Ent) := [(0, (.iload_n 1, 1, .null, 0, [])), (1, (.i2l, 1, .null, 0, [])), (2, (.lconst 1, 1, .long (1), 0, [])), (3, (.ldc2_w 152, 3, .long c1, 0, [])), (6, (.invokestatic 48, 3, .null, 0, [])), (9, (.ifCond .ne 10, 3, .null, 19, [])), (12, (.aload_n 0, 1, .null, 0, [])), (13, (.ldc 45, 2, .int c2, 0, [])), (15, (.invokevirtual 68, 3, .null, 0, [])), (18, (.ireturn, 1, .null, 0, [])), (19, (.aload_n 0, 1, .null, 0, [])), (20, (.getfield 7, 3, .null, 0, [])), (23, (.iconst 1, 1, .int (1), 0, [])), (24, (.iaload, 1, .null, 0, [])), (25, (.iload_n 1, 1, .null, 0, [])), (26, (.iadd, 1, .null, 0, [])), (27, (.sipush 9999, 3, .int c3, 0, [])), (30, (.if_icmp .le 10, 3, .null, 40, [])), (33, (.aload_n 0, 1, .null, 0, [])), (34, (.ldc 134, 2, .int c4, 0, [])), (36, (.invokevirtual 68, 3, .null, 0, [])), (39, (.ireturn, 1, .null, 0, [])), (40, (.aload_n 0, 1, .null, 0, [])), (41, (.iload_n 1, 1, .null, 0, [])), (42, (.invokevirtual 154, 3, .null, 0, [])), (45, (.aload_n 0, 1, .null, 0, [])), (46, (.invokevirtual 157, 3, .null, 0, [])), (49, (.ireturn, 1, .null, 0, []))]
def tX5_days : List (Nat × Ent) := tPX5_days (100) (-1000000001) (9999) (-1000000005)
theorem okX5_days : tblOK cnX5 cX5_days tX5_days = true := by decide +kernel
def hX5_days : List (Nat × List Bool) := []
noncomputable def eX5_days : Cal := [(48, 1, 3, (liftF fp0 gX5_in)), (68, 0, 2, gX5_finds), (154, 0, 2, gX5_daysGo), (157, 0, 1, gX5_thoseThere)]
noncomputable def fPX5_days (c1 : Int64) (c2 : Int32) (c3 : Int32) (c4 : Int32) (a0 : Int32) (u : MS) : Option (Int32 × MS) := run (tPX5_days c1 c2 c3 c4) hX5_days flX5 0 caG eX5_days (some .int) kIM (FU + 1) 0 (loIn 2 [.ref 0, .int (a0)]) [] (picM u)
noncomputable def fX5_days (a0 : Int32) (u : MS) : Option (Int32 × MS) := fPX5_days (100) (-1000000001) (9999) (-1000000005) a0 u
set_option maxRecDepth 100000 in
theorem fPX5_days_eq (c1 : Int64) (c2 : Int32) (c3 : Int32) (c4 : Int32) (a0 : Int32) (u : MS) : fPX5_days c1 c2 c3 c4 a0 u = ((fX5_in (Int32.toInt64 a0) (1 : Int64) c1).bind fun q0 => (br (q0 = 0) ((fX5_finds c2 u).bind fun q1 => (some (q1.1, q1.2))) (br ((1 : Int32) < 0 ∨ 69 ≤ ((1 : Int32)).toNatClampNeg) none (br ((((mS u) ((1 : Int32)).toNatClampNeg) + a0) ≤ c3) ((fX5_daysGo a0 u).bind fun q1 => ((fX5_thoseThere q1).bind fun q2 => (some (q2.1, q2.2)))) ((fX5_finds c4 u).bind fun q1 => (some (q1.1, q1.2))))))) := rfl
theorem fX5_days_eq (a0 : Int32) (u : MS) : fX5_days a0 u = ((fX5_in (Int32.toInt64 a0) (1 : Int64) (100 : Int64)).bind fun q0 => (if q0 = 0 then ((fX5_finds (-1000000001 : Int32) u).bind fun q1 => (some (q1.1, q1.2))) else (if (((mS u) 1) + a0) ≤ (9999 : Int32) then ((fX5_daysGo a0 u).bind fun q1 => ((fX5_thoseThere q1).bind fun q2 => (some (q2.1, q2.2)))) else ((fX5_finds (-1000000005 : Int32) u).bind fun q1 => (some (q1.1, q1.2)))))) := (fPX5_days_eq (100) (-1000000001) (9999) (-1000000005) a0 u).trans (by simp only [br_eq, if_true, if_false, tn0, tn1, tn2, tn3, tn4, tn5, tn6, tn8, ixl_1_69] <;> rfl)
abbrev rX5_days : Room := { frames := 7, cells := 0, slots := 0, locals := 151 }
set_option maxRecDepth 20000 in
theorem eX5_days_ok : ∀ ix kd n F, eX5_days.lookup ix = some (kd, n, F) → CallOK rX5_days yX5_days.cls cX5_days ix kd n F := look_all (look_cons (callOK_lift (ci := 5) ⟨⟨rfl, rfl, by decide, by decide⟩, u_245, u_246, u_247, ⟨by decide, by decide⟩, Or.inr ⟨rfl, u_248, by decide +kernel⟩⟩ coreX5_in) (look_cons (callOK_same (ci := 5) ⟨⟨rfl, rfl, by decide, by decide⟩, u_255, u_256, u_247, ⟨by decide, by decide⟩, Or.inl ⟨rfl, u_257, u_258, ⟨_, rfl, rfl⟩, 1, rfl, by decide +kernel⟩⟩ coreX5_finds) (look_cons (callOK_same (ci := 5) ⟨⟨rfl, rfl, by decide, by decide⟩, u_354, u_355, u_247, ⟨by decide, by decide⟩, Or.inl ⟨rfl, u_356, u_357, ⟨_, rfl, rfl⟩, 1, rfl, by decide +kernel⟩⟩ coreX5_daysGo) (look_cons (callOK_same (ci := 5) ⟨⟨rfl, rfl, by decide, by decide⟩, u_350, u_351, u_247, ⟨by decide, by decide⟩, Or.inl ⟨rfl, u_352, u_353, ⟨_, rfl, rfl⟩, 0, rfl, by decide +kernel⟩⟩ coreX5_thoseThere) look_nil))))
noncomputable def gX5_days : Callee := mkG (α := Int32) (σ := MS) (τ := Int32 × MS) unM uaR0I (fun q => some (.int q.1)) (fun _ q => picM q.2) (fun (a : Int32) (u : MS) => fX5_days a u)
theorem coreX5_days : CoreOK yX5_days rX5_days cX5_days 2 (some .int) 0 5 gX5_days :=
  core_of (kd := 0) (α := Int32) (σ := MS) (τ := Int32 × MS) unM picM unM_ok uaR0I arR0I uaR0I_ok (fun q => some (.int q.1)) (fun _ q => picM q.2) (fun (a : Int32) (u : MS) => fX5_days a u)
    (fun a u q h => doc_of_run (by decide) ⟨rfl, rfl⟩ flX5_ok cnX5_ok (fun h => absurd rfl h) eX5_days_ok okX5_days (Nat.le_of_ble_eq_true rfl) (fun v ws' e => kIM_ok e) rfl h) (fun _ a u => ⟨0, _, _, rfl, rfl⟩)
-- X5_duesThere
def tPX5_duesThere : List (Nat × Ent) := [(0, (.iconst 0, 1, .int (0), 0, [])), (1, (.istore_n 1, 1, .null, 0, [])), (2, (.iconst 0, 1, .int (0), 0, [])), (3, (.istore_n 2, 1, .null, 0, [])), (4, (.iload_n 2, 1, .null, 0, [])), (5, (.aload_n 0, 1, .null, 0, [])), (6, (.getfield 7, 3, .null, 0, [])), (9, (.iconst 0, 1, .int (0), 0, [])), (10, (.iaload, 1, .null, 0, [])), (11, (.if_icmp .ge 30, 3, .null, 41, [])), (14, (.iload_n 1, 1, .null, 0, [])), (15, (.aload_n 0, 1, .null, 0, [])), (16, (.iload_n 2, 1, .null, 0, [])), (17, (.invokevirtual 121, 3, .null, 0, [])), (20, (.ifCond .eq 12, 3, .null, 32, [])), (23, (.aload_n 0, 1, .null, 0, [])), (24, (.iload_n 2, 1, .null, 0, [])), (25, (.iconst 3, 1, .int (3), 0, [])), (26, (.invokevirtual 72, 3, .null, 0, [])), (29, (.goto 4, 3, .null, 33, [])), (32, (.iconst 0, 1, .int (0), 0, [])), (33, (.iadd, 1, .null, 0, [])), (34, (.istore_n 1, 1, .null, 0, [])), (35, (.iinc 2 1, 3, .int (1), 0, [])), (38, (.goto (-34), 3, .null, 4, [])), (41, (.iload_n 1, 1, .null, 0, [])), (42, (.ireturn, 1, .null, 0, []))]
def tX5_duesThere : List (Nat × Ent) := tPX5_duesThere
theorem okX5_duesThere : tblOK cnX5 cX5_duesThere tX5_duesThere = true := by decide +kernel
def hX5_duesThere : List (Nat × List Bool) := [(4, [true, true, true])]
noncomputable def eX5_duesThere : Cal := [(72, 0, 3, gX5_its), (121, 0, 2, gX5_isThere)]
noncomputable def fPX5_duesThere (u : MS) : Option (Int32 × MS) := run (tPX5_duesThere) hX5_duesThere flX5 0 caG eX5_duesThere (some .int) kIM (FU + 1) 0 (loIn 3 [.ref 0]) [] (picM u)
noncomputable def lPX5_duesThere_4 (n : Nat) (x1 : Int32) (x2 : Int32) (u : MS) : Option (Int32 × MS) := run (tPX5_duesThere) hX5_duesThere flX5 0 caG eX5_duesThere (some .int) kIM n 4 [some (.ref 0), some (.int (x1)), some (.int (x2))] [] (picM u)
noncomputable def fX5_duesThere (u : MS) : Option (Int32 × MS) := fPX5_duesThere u
noncomputable def lX5_duesThere_4 (n : Nat) (x1 : Int32) (x2 : Int32) (u : MS) : Option (Int32 × MS) := lPX5_duesThere_4 n x1 x2 u
set_option maxRecDepth 100000 in
theorem lPX5_duesThere_4_eq (n : Nat) (x1 : Int32) (x2 : Int32) (u : MS) : lPX5_duesThere_4 (n + 1) x1 x2 u = (br ((0 : Int32) < 0 ∨ 69 ≤ ((0 : Int32)).toNatClampNeg) none (br (((mS u) ((0 : Int32)).toNatClampNeg) ≤ x2) (some (x1, u)) ((fX5_isThere x2 u).bind fun q0 => (br (q0.1 = 0) (lPX5_duesThere_4 n ((x1 + 0)) ((x2 + 1)) q0.2) ((fX5_its x2 3 q0.2).bind fun q1 => (lPX5_duesThere_4 n ((x1 + q1.1)) ((x2 + 1)) q1.2)))))) := rfl
theorem lX5_duesThere_4_eq (n : Nat) (x1 : Int32) (x2 : Int32) (u : MS) : lX5_duesThere_4 (n + 1) x1 x2 u = (if ((mS u) 0) ≤ x2 then (some (x1, u)) else ((fX5_isThere x2 u).bind fun q0 => (if q0.1 = 0 then (lX5_duesThere_4 n ((x1 + 0)) ((x2 + 1)) q0.2) else ((fX5_its x2 3 q0.2).bind fun q1 => (lX5_duesThere_4 n ((x1 + q1.1)) ((x2 + 1)) q1.2))))) := (lPX5_duesThere_4_eq n x1 x2 u).trans (by simp only [br_eq, if_true, if_false, tn0, tn1, tn2, tn3, tn4, tn5, tn6, tn8, ixl_0_69] <;> rfl)
set_option maxRecDepth 100000 in
theorem fPX5_duesThere_eq (u : MS) : fPX5_duesThere u = (lPX5_duesThere_4 FU 0 0 u) := rfl
theorem fX5_duesThere_eq (u : MS) : fX5_duesThere u = (lX5_duesThere_4 FU 0 0 u) := (fPX5_duesThere_eq u)
abbrev rX5_duesThere : Room := { frames := 3, cells := 0, slots := 0, locals := 64 }
set_option maxRecDepth 20000 in
theorem eX5_duesThere_ok : ∀ ix kd n F, eX5_duesThere.lookup ix = some (kd, n, F) → CallOK rX5_duesThere yX5_duesThere.cls cX5_duesThere ix kd n F := look_all (look_cons (callOK_same (ci := 5) ⟨⟨rfl, rfl, by decide, by decide⟩, u_266, u_267, u_247, ⟨by decide, by decide⟩, Or.inl ⟨rfl, u_268, u_269, ⟨_, rfl, rfl⟩, 2, rfl, by decide +kernel⟩⟩ coreX5_its) (look_cons (callOK_same (ci := 5) ⟨⟨rfl, rfl, by decide, by decide⟩, u_314, u_315, u_247, ⟨by decide, by decide⟩, Or.inl ⟨rfl, u_316, u_317, ⟨_, rfl, rfl⟩, 1, rfl, by decide +kernel⟩⟩ coreX5_isThere) look_nil))
noncomputable def gX5_duesThere : Callee := mkG (α := Unit) (σ := MS) (τ := Int32 × MS) unM uaR0 (fun q => some (.int q.1)) (fun _ q => picM q.2) (fun (a : Unit) (u : MS) => fX5_duesThere u)
theorem coreX5_duesThere : CoreOK yX5_duesThere rX5_duesThere cX5_duesThere 3 (some .int) 0 5 gX5_duesThere :=
  core_of (kd := 0) (α := Unit) (σ := MS) (τ := Int32 × MS) unM picM unM_ok uaR0 arR0 uaR0_ok (fun q => some (.int q.1)) (fun _ q => picM q.2) (fun (a : Unit) (u : MS) => fX5_duesThere u)
    (fun a u q h => doc_of_run (by decide) ⟨rfl, rfl⟩ flX5_ok cnX5_ok (fun h => absurd rfl h) eX5_duesThere_ok okX5_duesThere (Nat.le_of_ble_eq_true rfl) (fun v ws' e => kIM_ok e) rfl h) (fun _ a u => ⟨0, _, _, rfl, rfl⟩)
-- X5_meansAll
def tPX5_meansAll : List (Nat × Ent) := [(0, (.iconst 0, 1, .int (0), 0, [])), (1, (.istore_n 1, 1, .null, 0, [])), (2, (.iconst 0, 1, .int (0), 0, [])), (3, (.istore_n 2, 1, .null, 0, [])), (4, (.iload_n 2, 1, .null, 0, [])), (5, (.bipush 6, 2, .int (6), 0, [])), (7, (.if_icmp .ge 18, 3, .null, 25, [])), (10, (.iload_n 1, 1, .null, 0, [])), (11, (.aload_n 0, 1, .null, 0, [])), (12, (.iload_n 2, 1, .null, 0, [])), (13, (.iconst 0, 1, .int (0), 0, [])), (14, (.invokevirtual 77, 3, .null, 0, [])), (17, (.iadd, 1, .null, 0, [])), (18, (.istore_n 1, 1, .null, 0, [])), (19, (.iinc 2 1, 3, .int (1), 0, [])), (22, (.goto (-18), 3, .null, 4, [])), (25, (.iload_n 1, 1, .null, 0, [])), (26, (.ireturn, 1, .null, 0, []))]
def tX5_meansAll : List (Nat × Ent) := tPX5_meansAll
theorem okX5_meansAll : tblOK cnX5 cX5_meansAll tX5_meansAll = true := by decide +kernel
def hX5_meansAll : List (Nat × List Bool) := [(4, [true, true, true])]
noncomputable def eX5_meansAll : Cal := [(77, 0, 3, gX5_his)]
noncomputable def fPX5_meansAll (u : MS) : Option (Int32 × MS) := run (tPX5_meansAll) hX5_meansAll flX5 0 caG eX5_meansAll (some .int) kIM (FU + 1) 0 (loIn 3 [.ref 0]) [] (picM u)
noncomputable def lPX5_meansAll_4 (n : Nat) (x1 : Int32) (x2 : Int32) (u : MS) : Option (Int32 × MS) := run (tPX5_meansAll) hX5_meansAll flX5 0 caG eX5_meansAll (some .int) kIM n 4 [some (.ref 0), some (.int (x1)), some (.int (x2))] [] (picM u)
noncomputable def fX5_meansAll (u : MS) : Option (Int32 × MS) := fPX5_meansAll u
noncomputable def lX5_meansAll_4 (n : Nat) (x1 : Int32) (x2 : Int32) (u : MS) : Option (Int32 × MS) := lPX5_meansAll_4 n x1 x2 u
set_option maxRecDepth 100000 in
theorem lPX5_meansAll_4_eq (n : Nat) (x1 : Int32) (x2 : Int32) (u : MS) : lPX5_meansAll_4 (n + 1) x1 x2 u = (br ((6 : Int32) ≤ x2) (some (x1, u)) ((fX5_his x2 0 u).bind fun q0 => (lPX5_meansAll_4 n ((x1 + q0.1)) ((x2 + 1)) q0.2))) := rfl
theorem lX5_meansAll_4_eq (n : Nat) (x1 : Int32) (x2 : Int32) (u : MS) : lX5_meansAll_4 (n + 1) x1 x2 u = (if (6 : Int32) ≤ x2 then (some (x1, u)) else ((fX5_his x2 0 u).bind fun q0 => (lX5_meansAll_4 n ((x1 + q0.1)) ((x2 + 1)) q0.2))) := (lPX5_meansAll_4_eq n x1 x2 u).trans (by simp only [br_eq, if_true, if_false, tn0, tn1, tn2, tn3, tn4, tn5, tn6, tn8] <;> rfl)
set_option maxRecDepth 100000 in
theorem fPX5_meansAll_eq (u : MS) : fPX5_meansAll u = (lPX5_meansAll_4 FU 0 0 u) := rfl
theorem fX5_meansAll_eq (u : MS) : fX5_meansAll u = (lX5_meansAll_4 FU 0 0 u) := (fPX5_meansAll_eq u)
abbrev rX5_meansAll : Room := { frames := 2, cells := 0, slots := 0, locals := 43 }
set_option maxRecDepth 20000 in
theorem eX5_meansAll_ok : ∀ ix kd n F, eX5_meansAll.lookup ix = some (kd, n, F) → CallOK rX5_meansAll yX5_meansAll.cls cX5_meansAll ix kd n F := look_all (look_cons (callOK_same (ci := 5) ⟨⟨rfl, rfl, by decide, by decide⟩, u_274, u_275, u_247, ⟨by decide, by decide⟩, Or.inl ⟨rfl, u_276, u_277, ⟨_, rfl, rfl⟩, 2, rfl, by decide +kernel⟩⟩ coreX5_his) look_nil)
noncomputable def gX5_meansAll : Callee := mkG (α := Unit) (σ := MS) (τ := Int32 × MS) unM uaR0 (fun q => some (.int q.1)) (fun _ q => picM q.2) (fun (a : Unit) (u : MS) => fX5_meansAll u)
theorem coreX5_meansAll : CoreOK yX5_meansAll rX5_meansAll cX5_meansAll 3 (some .int) 0 5 gX5_meansAll :=
  core_of (kd := 0) (α := Unit) (σ := MS) (τ := Int32 × MS) unM picM unM_ok uaR0 arR0 uaR0_ok (fun q => some (.int q.1)) (fun _ q => picM q.2) (fun (a : Unit) (u : MS) => fX5_meansAll u)
    (fun a u q h => doc_of_run (by decide) ⟨rfl, rfl⟩ flX5_ok cnX5_ok (fun h => absurd rfl h) eX5_meansAll_ok okX5_meansAll (Nat.le_of_ble_eq_true rfl) (fun v ws' e => kIM_ok e) rfl h) (fun _ a u => ⟨0, _, _, rfl, rfl⟩)
