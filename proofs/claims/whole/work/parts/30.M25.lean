-- X5_tear
def tPX5_tear : List (Nat × Ent) := [(0, (.aload_n 0, 1, .null, 0, [])), (1, (.getfield 318, 3, .null, 0, [])), (4, (.ifCond .eq 7, 3, .null, 11, [])), (7, (.iconst 1, 1, .int (1), 0, [])), (8, (.goto 4, 3, .null, 12, [])), (11, (.iconst 0, 1, .int (0), 0, [])), (12, (.istore_n 1, 1, .null, 0, [])), (13, (.aload_n 0, 1, .null, 0, [])), (14, (.iconst 0, 1, .int (0), 0, [])), (15, (.putfield 318, 3, .null, 0, [])), (18, (.iload_n 1, 1, .null, 0, [])), (19, (.ireturn, 1, .null, 0, []))]
def tX5_tear : List (Nat × Ent) := tPX5_tear
theorem okX5_tear : tblOK cnX5 cX5_tear tX5_tear = true := by decide +kernel
def hX5_tear : List (Nat × List Bool) := []
noncomputable def eX5_tear : Cal := []
noncomputable def fPX5_tear (u : MS) : Option (Int32 × MS) := run (tPX5_tear) hX5_tear flX5 0 caG eX5_tear (some .int) kIM (FU + 1) 0 (loIn 2 [.ref 0]) [] (picM u)
noncomputable def fX5_tear (u : MS) : Option (Int32 × MS) := fPX5_tear u
set_option maxRecDepth 100000 in
theorem fPX5_tear_eq (u : MS) : fPX5_tear u = (br ((mIsK u) = 0) (br ((0 : Int32) = 0 ∨ (0 : Int32) = 1) (some (0, (mIsK' u 0))) none) (br ((0 : Int32) = 0 ∨ (0 : Int32) = 1) (some (1, (mIsK' u 0))) none)) := rfl
theorem fX5_tear_eq (u : MS) : fX5_tear u = (if (mIsK u) = 0 then (some (0, (mIsK' u 0))) else (some (1, (mIsK' u 0)))) := (fPX5_tear_eq u).trans (by simp only [br_eq, if_true, if_false, tn0, tn1, tn2, tn3, tn4, tn5, tn6, tn8, bl0] <;> rfl)
abbrev rX5_tear : Room := { frames := 0, cells := 0, slots := 0, locals := 0 }
set_option maxRecDepth 20000 in
theorem eX5_tear_ok : ∀ ix kd n F, eX5_tear.lookup ix = some (kd, n, F) → CallOK rX5_tear yX5_tear.cls cX5_tear ix kd n F := look_all look_nil
noncomputable def gX5_tear : Callee := mkG (α := Unit) (σ := MS) (τ := Int32 × MS) unM uaR0 (fun q => some (.int q.1)) (fun _ q => picM q.2) (fun (a : Unit) (u : MS) => fX5_tear u)
theorem coreX5_tear : CoreOK yX5_tear rX5_tear cX5_tear 2 (some .int) 0 5 gX5_tear :=
  core_of (kd := 0) (α := Unit) (σ := MS) (τ := Int32 × MS) unM picM unM_ok uaR0 arR0 uaR0_ok (fun q => some (.int q.1)) (fun _ q => picM q.2) (fun (a : Unit) (u : MS) => fX5_tear u)
    (fun a u q h => doc_of_run (by decide) ⟨rfl, rfl⟩ flX5_ok cnX5_ok (fun h => absurd rfl h) eX5_tear_ok okX5_tear (Nat.le_of_ble_eq_true rfl) (fun v ws' e => kIM_ok e) rfl h) (fun _ a u => ⟨0, _, _, rfl, rfl⟩)
-- X5_worths
def tPX5_worths : List (Nat × Ent) := [(0, (.iconst 0, 1, .int (0), 0, [])), (1, (.istore_n 1, 1, .null, 0, [])), (2, (.iconst 0, 1, .int (0), 0, [])), (3, (.istore_n 2, 1, .null, 0, [])), (4, (.iload_n 2, 1, .null, 0, [])), (5, (.aload_n 0, 1, .null, 0, [])), (6, (.getfield 7, 3, .null, 0, [])), (9, (.iconst 0, 1, .int (0), 0, [])), (10, (.iaload, 1, .null, 0, [])), (11, (.if_icmp .ge 18, 3, .null, 29, [])), (14, (.iload_n 1, 1, .null, 0, [])), (15, (.aload_n 0, 1, .null, 0, [])), (16, (.iload_n 2, 1, .null, 0, [])), (17, (.iconst 4, 1, .int (4), 0, [])), (18, (.invokevirtual 72, 3, .null, 0, [])), (21, (.iadd, 1, .null, 0, [])), (22, (.istore_n 1, 1, .null, 0, [])), (23, (.iinc 2 1, 3, .int (1), 0, [])), (26, (.goto (-22), 3, .null, 4, [])), (29, (.iload_n 1, 1, .null, 0, [])), (30, (.ireturn, 1, .null, 0, []))]
def tX5_worths : List (Nat × Ent) := tPX5_worths
theorem okX5_worths : tblOK cnX5 cX5_worths tX5_worths = true := by decide +kernel
def hX5_worths : List (Nat × List Bool) := [(4, [true, true, true])]
noncomputable def eX5_worths : Cal := [(72, 0, 3, gX5_its)]
noncomputable def fPX5_worths (u : MS) : Option (Int32 × MS) := run (tPX5_worths) hX5_worths flX5 0 caG eX5_worths (some .int) kIM (FU + 1) 0 (loIn 3 [.ref 0]) [] (picM u)
noncomputable def lPX5_worths_4 (n : Nat) (x1 : Int32) (x2 : Int32) (u : MS) : Option (Int32 × MS) := run (tPX5_worths) hX5_worths flX5 0 caG eX5_worths (some .int) kIM n 4 [some (.ref 0), some (.int (x1)), some (.int (x2))] [] (picM u)
noncomputable def fX5_worths (u : MS) : Option (Int32 × MS) := fPX5_worths u
noncomputable def lX5_worths_4 (n : Nat) (x1 : Int32) (x2 : Int32) (u : MS) : Option (Int32 × MS) := lPX5_worths_4 n x1 x2 u
set_option maxRecDepth 100000 in
theorem lPX5_worths_4_eq (n : Nat) (x1 : Int32) (x2 : Int32) (u : MS) : lPX5_worths_4 (n + 1) x1 x2 u = (br ((0 : Int32) < 0 ∨ 69 ≤ ((0 : Int32)).toNatClampNeg) none (br (((mS u) ((0 : Int32)).toNatClampNeg) ≤ x2) (some (x1, u)) ((fX5_its x2 4 u).bind fun q0 => (lPX5_worths_4 n ((x1 + q0.1)) ((x2 + 1)) q0.2)))) := rfl
theorem lX5_worths_4_eq (n : Nat) (x1 : Int32) (x2 : Int32) (u : MS) : lX5_worths_4 (n + 1) x1 x2 u = (if ((mS u) 0) ≤ x2 then (some (x1, u)) else ((fX5_its x2 4 u).bind fun q0 => (lX5_worths_4 n ((x1 + q0.1)) ((x2 + 1)) q0.2))) := (lPX5_worths_4_eq n x1 x2 u).trans (by simp only [br_eq, if_true, if_false, tn0, tn1, tn2, tn3, tn4, tn5, tn6, tn8, ixl_0_69] <;> rfl)
set_option maxRecDepth 100000 in
theorem fPX5_worths_eq (u : MS) : fPX5_worths u = (lPX5_worths_4 FU 0 0 u) := rfl
theorem fX5_worths_eq (u : MS) : fX5_worths u = (lX5_worths_4 FU 0 0 u) := (fPX5_worths_eq u)
abbrev rX5_worths : Room := { frames := 2, cells := 0, slots := 0, locals := 43 }
set_option maxRecDepth 20000 in
theorem eX5_worths_ok : ∀ ix kd n F, eX5_worths.lookup ix = some (kd, n, F) → CallOK rX5_worths yX5_worths.cls cX5_worths ix kd n F := look_all (look_cons (callOK_same (ci := 5) ⟨⟨rfl, rfl, by decide, by decide⟩, u_266, u_267, u_247, ⟨by decide, by decide⟩, Or.inl ⟨rfl, u_268, u_269, ⟨_, rfl, rfl⟩, 2, rfl, by decide +kernel⟩⟩ coreX5_its) look_nil)
noncomputable def gX5_worths : Callee := mkG (α := Unit) (σ := MS) (τ := Int32 × MS) unM uaR0 (fun q => some (.int q.1)) (fun _ q => picM q.2) (fun (a : Unit) (u : MS) => fX5_worths u)
theorem coreX5_worths : CoreOK yX5_worths rX5_worths cX5_worths 3 (some .int) 0 5 gX5_worths :=
  core_of (kd := 0) (α := Unit) (σ := MS) (τ := Int32 × MS) unM picM unM_ok uaR0 arR0 uaR0_ok (fun q => some (.int q.1)) (fun _ q => picM q.2) (fun (a : Unit) (u : MS) => fX5_worths u)
    (fun a u q h => doc_of_run (by decide) ⟨rfl, rfl⟩ flX5_ok cnX5_ok (fun h => absurd rfl h) eX5_worths_ok okX5_worths (Nat.le_of_ble_eq_true rfl) (fun v ws' e => kIM_ok e) rfl h) (fun _ a u => ⟨0, _, _, rfl, rfl⟩)
-- X5_count
def tPX5_count (c1 : Int32) : List (Nat × Ent) := [(0, (.iload_n 1, 1, .null, 0, [])), (1, (.tableswitch 56 0 3 #[31, 38, 43, 51], 31, .null, 57, [(0, 32), (1, 39), (2, 44), (3, 52)])), (32, (.aload_n 0, 1, .null, 0, [])), (33, (.getfield 7, 3, .null, 0, [])), (36, (.iconst 0, 1, .int (0), 0, [])), (37, (.iaload, 1, .null, 0, [])), (38, (.ireturn, 1, .null, 0, [])), (39, (.aload_n 0, 1, .null, 0, [])), (40, (.getfield 199, 3, .null, 0, [])), (43, (.ireturn, 1, .null, 0, [])), (44, (.aload_n 0, 1, .null, 0, [])), (45, (.invokevirtual 157, 3, .null, 0, [])), (48, (.invokestatic 196, 3, .null, 0, [])), (51, (.ireturn, 1, .null, 0, [])), (52, (.aload_n 0, 1, .null, 0, [])), (53, (.invokevirtual 321, 3, .null, 0, [])), (56, (.ireturn, 1, .null, 0, [])), (57, (.aload_n 0, 1, .null, 0, [])), (58, (.ldc 45, 2, .int c1, 0, [])), (60, (.invokevirtual 68, 3, .null, 0, [])), (63, (.ireturn, 1, .null, 0, []))]
def tX5_count : List (Nat × Ent) := tPX5_count (-1000000001)
theorem okX5_count : tblOK cnX5 cX5_count tX5_count = true := by decide +kernel
def hX5_count : List (Nat × List Bool) := []
noncomputable def eX5_count : Cal := [(68, 0, 2, gX5_finds), (157, 0, 1, gX5_thoseThere), (196, 1, 1, (liftF fp0 gX5_ones)), (321, 0, 1, gX5_worths)]
noncomputable def fPX5_count (c1 : Int32) (a0 : Int32) (u : MS) : Option (Int32 × MS) := run (tPX5_count c1) hX5_count flX5 0 caG eX5_count (some .int) kIM (FU + 1) 0 (loIn 2 [.ref 0, .int (a0)]) [] (picM u)
noncomputable def fX5_count (a0 : Int32) (u : MS) : Option (Int32 × MS) := fPX5_count (-1000000001) a0 u
set_option maxRecDepth 100000 in
theorem fPX5_count_eq (c1 : Int32) (a0 : Int32) (u : MS) : fPX5_count c1 a0 u = (br (a0 = 0) (br ((0 : Int32) < 0 ∨ 69 ≤ ((0 : Int32)).toNatClampNeg) none (some (((mS u) ((0 : Int32)).toNatClampNeg), u))) (br (a0 = 1) (some ((mTpd u), u)) (br (a0 = 2) ((fX5_thoseThere u).bind fun q0 => ((fX5_ones q0.1).bind fun q1 => (some (q1, q0.2)))) (br (a0 = 3) ((fX5_worths u).bind fun q0 => (some (q0.1, q0.2))) ((fX5_finds c1 u).bind fun q0 => (some (q0.1, q0.2))))))) := rfl
theorem fX5_count_eq (a0 : Int32) (u : MS) : fX5_count a0 u = (if a0 = 0 then (some (((mS u) 0), u)) else (if a0 = 1 then (some ((mTpd u), u)) else (if a0 = 2 then ((fX5_thoseThere u).bind fun q0 => ((fX5_ones q0.1).bind fun q1 => (some (q1, q0.2)))) else (if a0 = 3 then ((fX5_worths u).bind fun q0 => (some (q0.1, q0.2))) else ((fX5_finds (-1000000001 : Int32) u).bind fun q0 => (some (q0.1, q0.2))))))) := (fPX5_count_eq (-1000000001) a0 u).trans (by simp only [br_eq, if_true, if_false, tn0, tn1, tn2, tn3, tn4, tn5, tn6, tn8, ixl_0_69] <;> rfl)
abbrev rX5_count : Room := { frames := 4, cells := 0, slots := 0, locals := 87 }
set_option maxRecDepth 20000 in
theorem eX5_count_ok : ∀ ix kd n F, eX5_count.lookup ix = some (kd, n, F) → CallOK rX5_count yX5_count.cls cX5_count ix kd n F := look_all (look_cons (callOK_same (ci := 5) ⟨⟨rfl, rfl, by decide, by decide⟩, u_255, u_256, u_247, ⟨by decide, by decide⟩, Or.inl ⟨rfl, u_257, u_258, ⟨_, rfl, rfl⟩, 1, rfl, by decide +kernel⟩⟩ coreX5_finds) (look_cons (callOK_same (ci := 5) ⟨⟨rfl, rfl, by decide, by decide⟩, u_350, u_351, u_247, ⟨by decide, by decide⟩, Or.inl ⟨rfl, u_352, u_353, ⟨_, rfl, rfl⟩, 0, rfl, by decide +kernel⟩⟩ coreX5_thoseThere) (look_cons (callOK_lift (ci := 5) ⟨⟨rfl, rfl, by decide, by decide⟩, u_397, u_398, u_247, ⟨by decide, by decide⟩, Or.inr ⟨rfl, u_399, by decide +kernel⟩⟩ coreX5_ones) (look_cons (callOK_same (ci := 5) ⟨⟨rfl, rfl, by decide, by decide⟩, u_472, u_473, u_247, ⟨by decide, by decide⟩, Or.inl ⟨rfl, u_474, u_475, ⟨_, rfl, rfl⟩, 0, rfl, by decide +kernel⟩⟩ coreX5_worths) look_nil))))
noncomputable def gX5_count : Callee := mkG (α := Int32) (σ := MS) (τ := Int32 × MS) unM uaR0I (fun q => some (.int q.1)) (fun _ q => picM q.2) (fun (a : Int32) (u : MS) => fX5_count a u)
theorem coreX5_count : CoreOK yX5_count rX5_count cX5_count 2 (some .int) 0 5 gX5_count :=
  core_of (kd := 0) (α := Int32) (σ := MS) (τ := Int32 × MS) unM picM unM_ok uaR0I arR0I uaR0I_ok (fun q => some (.int q.1)) (fun _ q => picM q.2) (fun (a : Int32) (u : MS) => fX5_count a u)
    (fun a u q h => doc_of_run (by decide) ⟨rfl, rfl⟩ flX5_ok cnX5_ok (fun h => absurd rfl h) eX5_count_ok okX5_count (Nat.le_of_ble_eq_true rfl) (fun v ws' e => kIM_ok e) rfl h) (fun _ a u => ⟨0, _, _, rfl, rfl⟩)
-- X5_status
def tPX5_status (c1 : Int64) (c2 : Int64) (c3 : Int32) : List (Nat × Ent) := [(0, (.iload_n 1, 1, .null, 0, [])), (1, (.i2l, 1, .null, 0, [])), (2, (.ldc2_w 324, 3, .long c1, 0, [])), (5, (.ldc2_w 326, 3, .long c2, 0, [])), (8, (.invokestatic 48, 3, .null, 0, [])), (11, (.ifCond .ne 10, 3, .null, 21, [])), (14, (.aload_n 0, 1, .null, 0, [])), (15, (.ldc 45, 2, .int c3, 0, [])), (17, (.invokevirtual 68, 3, .null, 0, [])), (20, (.ireturn, 1, .null, 0, [])), (21, (.iconst 0, 1, .int (0), 0, [])), (22, (.istore_n 2, 1, .null, 0, [])), (23, (.iconst 0, 1, .int (0), 0, [])), (24, (.istore_n 3, 1, .null, 0, [])), (25, (.iload_n 3, 1, .null, 0, [])), (26, (.bipush 7, 2, .int (7), 0, [])), (28, (.if_icmp .ge 31, 3, .null, 59, [])), (31, (.iload_n 2, 1, .null, 0, [])), (32, (.iload_n 1, 1, .null, 0, [])), (33, (.ifCond .lt 8, 3, .null, 41, [])), (36, (.iload_n 3, 1, .null, 0, [])), (37, (.iload_n 1, 1, .null, 0, [])), (38, (.if_icmp .ne 12, 3, .null, 50, [])), (41, (.aload_n 0, 1, .null, 0, [])), (42, (.getfield 22, 3, .null, 0, [])), (45, (.iload_n 3, 1, .null, 0, [])), (46, (.iaload, 1, .null, 0, [])), (47, (.goto 4, 3, .null, 51, [])), (50, (.iconst 0, 1, .int (0), 0, [])), (51, (.iadd, 1, .null, 0, [])), (52, (.istore_n 2, 1, .null, 0, [])), (53, (.iinc 3 1, 3, .int (1), 0, [])), (56, (.goto (-31), 3, .null, 25, [])), (59, (.iload_n 2, 1, .null, 0, [])), (60, (.ireturn, 1, .null, 0, []))]
def tX5_status : List (Nat × Ent) := tPX5_status (-1) (6) (-1000000001)
theorem okX5_status : tblOK cnX5 cX5_status tX5_status = true := by decide +kernel
def hX5_status : List (Nat × List Bool) := [(25, [true, true, true, true])]
noncomputable def eX5_status : Cal := [(48, 1, 3, (liftF fp0 gX5_in)), (68, 0, 2, gX5_finds)]
noncomputable def fPX5_status (c1 : Int64) (c2 : Int64) (c3 : Int32) (a0 : Int32) (u : MS) : Option (Int32 × MS) := run (tPX5_status c1 c2 c3) hX5_status flX5 0 caG eX5_status (some .int) kIM (FU + 1) 0 (loIn 4 [.ref 0, .int (a0)]) [] (picM u)
noncomputable def lPX5_status_25 (c1 : Int64) (c2 : Int64) (c3 : Int32) (n : Nat) (x1 : Int32) (x2 : Int32) (x3 : Int32) (u : MS) : Option (Int32 × MS) := run (tPX5_status c1 c2 c3) hX5_status flX5 0 caG eX5_status (some .int) kIM n 25 [some (.ref 0), some (.int (x1)), some (.int (x2)), some (.int (x3))] [] (picM u)
noncomputable def fX5_status (a0 : Int32) (u : MS) : Option (Int32 × MS) := fPX5_status (-1) (6) (-1000000001) a0 u
noncomputable def lX5_status_25 (n : Nat) (x1 : Int32) (x2 : Int32) (x3 : Int32) (u : MS) : Option (Int32 × MS) := lPX5_status_25 (-1) (6) (-1000000001) n x1 x2 x3 u
set_option maxRecDepth 100000 in
theorem lPX5_status_25_eq (c1 : Int64) (c2 : Int64) (c3 : Int32) (n : Nat) (x1 : Int32) (x2 : Int32) (x3 : Int32) (u : MS) : lPX5_status_25 c1 c2 c3 (n + 1) x1 x2 x3 u = (br ((7 : Int32) ≤ x3) (some (x2, u)) (br (x1 < 0) (br (x3 < 0 ∨ 7 ≤ (x3).toNatClampNeg) none (lPX5_status_25 c1 c2 c3 n x1 ((x2 + ((mSts u) (x3).toNatClampNeg))) ((x3 + 1)) u)) (br (x3 = x1) (br (x3 < 0 ∨ 7 ≤ (x3).toNatClampNeg) none (lPX5_status_25 c1 c2 c3 n x1 ((x2 + ((mSts u) (x3).toNatClampNeg))) ((x3 + 1)) u)) (lPX5_status_25 c1 c2 c3 n x1 ((x2 + 0)) ((x3 + 1)) u)))) := rfl
theorem lX5_status_25_eq (n : Nat) (x1 : Int32) (x2 : Int32) (x3 : Int32) (u : MS) : lX5_status_25 (n + 1) x1 x2 x3 u = (if (7 : Int32) ≤ x3 then (some (x2, u)) else (if x1 < 0 then (if x3 < 0 ∨ 7 ≤ (x3).toNatClampNeg then none else (lX5_status_25 n x1 ((x2 + ((mSts u) (x3).toNatClampNeg))) ((x3 + 1)) u)) else (if x3 = x1 then (if x3 < 0 ∨ 7 ≤ (x3).toNatClampNeg then none else (lX5_status_25 n x1 ((x2 + ((mSts u) (x3).toNatClampNeg))) ((x3 + 1)) u)) else (lX5_status_25 n x1 ((x2 + 0)) ((x3 + 1)) u)))) := (lPX5_status_25_eq (-1) (6) (-1000000001) n x1 x2 x3 u).trans (by simp only [br_eq, if_true, if_false, tn0, tn1, tn2, tn3, tn4, tn5, tn6, tn8] <;> rfl)
set_option maxRecDepth 100000 in
theorem fPX5_status_eq (c1 : Int64) (c2 : Int64) (c3 : Int32) (a0 : Int32) (u : MS) : fPX5_status c1 c2 c3 a0 u = ((fX5_in (Int32.toInt64 a0) c1 c2).bind fun q0 => (br (q0 = 0) ((fX5_finds c3 u).bind fun q1 => (some (q1.1, q1.2))) (lPX5_status_25 c1 c2 c3 FU a0 0 0 u))) := rfl
theorem fX5_status_eq (a0 : Int32) (u : MS) : fX5_status a0 u = ((fX5_in (Int32.toInt64 a0) (-1 : Int64) (6 : Int64)).bind fun q0 => (if q0 = 0 then ((fX5_finds (-1000000001 : Int32) u).bind fun q1 => (some (q1.1, q1.2))) else (lX5_status_25 FU a0 0 0 u))) := (fPX5_status_eq (-1) (6) (-1000000001) a0 u).trans (by simp only [br_eq, if_true, if_false, tn0, tn1, tn2, tn3, tn4, tn5, tn6, tn8] <;> rfl)
abbrev rX5_status : Room := { frames := 1, cells := 0, slots := 0, locals := 25 }
set_option maxRecDepth 20000 in
theorem eX5_status_ok : ∀ ix kd n F, eX5_status.lookup ix = some (kd, n, F) → CallOK rX5_status yX5_status.cls cX5_status ix kd n F := look_all (look_cons (callOK_lift (ci := 5) ⟨⟨rfl, rfl, by decide, by decide⟩, u_245, u_246, u_247, ⟨by decide, by decide⟩, Or.inr ⟨rfl, u_248, by decide +kernel⟩⟩ coreX5_in) (look_cons (callOK_same (ci := 5) ⟨⟨rfl, rfl, by decide, by decide⟩, u_255, u_256, u_247, ⟨by decide, by decide⟩, Or.inl ⟨rfl, u_257, u_258, ⟨_, rfl, rfl⟩, 1, rfl, by decide +kernel⟩⟩ coreX5_finds) look_nil))
noncomputable def gX5_status : Callee := mkG (α := Int32) (σ := MS) (τ := Int32 × MS) unM uaR0I (fun q => some (.int q.1)) (fun _ q => picM q.2) (fun (a : Int32) (u : MS) => fX5_status a u)
theorem coreX5_status : CoreOK yX5_status rX5_status cX5_status 4 (some .int) 0 5 gX5_status :=
  core_of (kd := 0) (α := Int32) (σ := MS) (τ := Int32 × MS) unM picM unM_ok uaR0I arR0I uaR0I_ok (fun q => some (.int q.1)) (fun _ q => picM q.2) (fun (a : Int32) (u : MS) => fX5_status a u)
    (fun a u q h => doc_of_run (by decide) ⟨rfl, rfl⟩ flX5_ok cnX5_ok (fun h => absurd rfl h) eX5_status_ok okX5_status (Nat.le_of_ble_eq_true rfl) (fun v ws' e => kIM_ok e) rfl h) (fun _ a u => ⟨0, _, _, rfl, rfl⟩)
