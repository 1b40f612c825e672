-- X5_most
def tPX5_most (c1 : Int64) (c2 : Int32) : List (Nat × Ent) := [(0, (.iload_n 1, 1, .null, 0, [])), (1, (.i2l, 1, .null, 0, [])), (2, (.lconst 0, 1, .long (0), 0, [])), (3, (.ldc2_w 152, 3, .long c1, 0, [])), (6, (.invokestatic 48, 3, .null, 0, [])), (9, (.ifCond .ne 10, 3, .null, 19, [])), (12, (.aload_n 0, 1, .null, 0, [])), (13, (.ldc 45, 2, .int c2, 0, [])), (15, (.invokevirtual 68, 3, .null, 0, [])), (18, (.ireturn, 1, .null, 0, [])), (19, (.aload_n 0, 1, .null, 0, [])), (20, (.invokevirtual 170, 3, .null, 0, [])), (23, (.aload_n 0, 1, .null, 0, [])), (24, (.iload_n 1, 1, .null, 0, [])), (25, (.invokevirtual 154, 3, .null, 0, [])), (28, (.iconst 0, 1, .int (0), 0, [])), (29, (.istore_n 2, 1, .null, 0, [])), (30, (.iconst 1, 1, .int (1), 0, [])), (31, (.istore_n 3, 1, .null, 0, [])), (32, (.iload_n 3, 1, .null, 0, [])), (33, (.bipush 6, 2, .int (6), 0, [])), (35, (.if_icmp .ge 36, 3, .null, 71, [])), (38, (.aload_n 0, 1, .null, 0, [])), (39, (.iconst 5, 1, .int (5), 0, [])), (40, (.iload_n 3, 1, .null, 0, [])), (41, (.invokevirtual 80, 3, .null, 0, [])), (44, (.invokestatic 196, 3, .null, 0, [])), (47, (.aload_n 0, 1, .null, 0, [])), (48, (.iconst 5, 1, .int (5), 0, [])), (49, (.iload_n 2, 1, .null, 0, [])), (50, (.invokevirtual 80, 3, .null, 0, [])), (53, (.invokestatic 196, 3, .null, 0, [])), (56, (.if_icmp .le 7, 3, .null, 63, [])), (59, (.iload_n 3, 1, .null, 0, [])), (60, (.goto 4, 3, .null, 64, [])), (63, (.iload_n 2, 1, .null, 0, [])), (64, (.istore_n 2, 1, .null, 0, [])), (65, (.iinc 3 1, 3, .int (1), 0, [])), (68, (.goto (-36), 3, .null, 32, [])), (71, (.aload_n 0, 1, .null, 0, [])), (72, (.iload_n 2, 1, .null, 0, [])), (73, (.invokevirtual 173, 3, .null, 0, [])), (76, (.ireturn, 1, .null, 0, []))]
def tX5_most : List (Nat × Ent) := tPX5_most (100) (-1000000001)
theorem okX5_most : tblOK cnX5 cX5_most tX5_most = true := by decide +kernel
def hX5_most : List (Nat × List Bool) := [(32, [true, false, true, true])]
noncomputable def eX5_most : Cal := [(48, 1, 3, (liftF fp0 gX5_in)), (68, 0, 2, gX5_finds), (80, 0, 3, gX5_thoseAs), (154, 0, 2, gX5_daysGo), (170, 0, 1, gX5_laysAside), (173, 0, 2, gX5_takesBack), (196, 1, 1, (liftF fp0 gX5_ones))]
noncomputable def fPX5_most (c1 : Int64) (c2 : Int32) (a0 : Int32) (u : MS) : Option (Int32 × MS) := run (tPX5_most c1 c2) hX5_most flX5 0 caG eX5_most (some .int) kIM (FU + 1) 0 (loIn 4 [.ref 0, .int (a0)]) [] (picM u)
noncomputable def lPX5_most_32 (c1 : Int64) (c2 : Int32) (n : Nat) (x2 : Int32) (x3 : Int32) (u : MS) : Option (Int32 × MS) := run (tPX5_most c1 c2) hX5_most flX5 0 caG eX5_most (some .int) kIM n 32 [some (.ref 0), none, some (.int (x2)), some (.int (x3))] [] (picM u)
noncomputable def fX5_most (a0 : Int32) (u : MS) : Option (Int32 × MS) := fPX5_most (100) (-1000000001) a0 u
noncomputable def lX5_most_32 (n : Nat) (x2 : Int32) (x3 : Int32) (u : MS) : Option (Int32 × MS) := lPX5_most_32 (100) (-1000000001) n x2 x3 u
set_option maxRecDepth 100000 in
theorem lPX5_most_32_eq (c1 : Int64) (c2 : Int32) (n : Nat) (x2 : Int32) (x3 : Int32) (u : MS) : lPX5_most_32 c1 c2 (n + 1) x2 x3 u = (if (6 : Int32) ≤ x3 then ((fX5_takesBack x2 u).bind fun q0 => (some (q0.1, q0.2))) else ((fX5_thoseAs 5 x3 u).bind fun q0 => ((fX5_ones q0.1).bind fun q1 => ((fX5_thoseAs 5 x2 q0.2).bind fun q2 => ((fX5_ones q2.1).bind fun q3 => (if q1 ≤ q3 then (lPX5_most_32 c1 c2 n x2 ((x3 + 1)) q2.2) else (lPX5_most_32 c1 c2 n x3 ((x3 + 1)) q2.2))))))) := rfl
theorem lX5_most_32_eq (n : Nat) (x2 : Int32) (x3 : Int32) (u : MS) : lX5_most_32 (n + 1) x2 x3 u = (if (6 : Int32) ≤ x3 then ((fX5_takesBack x2 u).bind fun q0 => (some (q0.1, q0.2))) else ((fX5_thoseAs 5 x3 u).bind fun q0 => ((fX5_ones q0.1).bind fun q1 => ((fX5_thoseAs 5 x2 q0.2).bind fun q2 => ((fX5_ones q2.1).bind fun q3 => (if q1 ≤ q3 then (lX5_most_32 n x2 ((x3 + 1)) q2.2) else (lX5_most_32 n x3 ((x3 + 1)) q2.2))))))) := (lPX5_most_32_eq (100) (-1000000001) n x2 x3 u)
set_option maxRecDepth 100000 in
theorem fPX5_most_eq (c1 : Int64) (c2 : Int32) (a0 : Int32) (u : MS) : fPX5_most c1 c2 a0 u = ((fX5_in (Int32.toInt64 a0) (0 : Int64) c1).bind fun q0 => (if q0 = 0 then ((fX5_finds c2 u).bind fun q1 => (some (q1.1, q1.2))) else ((fX5_laysAside u).bind fun q1 => ((fX5_daysGo a0 q1).bind fun q2 => (lPX5_most_32 c1 c2 FU 0 1 q2))))) := rfl
theorem fX5_most_eq (a0 : Int32) (u : MS) : fX5_most a0 u = ((fX5_in (Int32.toInt64 a0) (0 : Int64) (100 : Int64)).bind fun q0 => (if q0 = 0 then ((fX5_finds (-1000000001 : Int32) u).bind fun q1 => (some (q1.1, q1.2))) else ((fX5_laysAside u).bind fun q1 => ((fX5_daysGo a0 q1).bind fun q2 => (lX5_most_32 FU 0 1 q2))))) := (fPX5_most_eq (100) (-1000000001) a0 u)
abbrev rX5_most : Room := { frames := 7, cells := 0, slots := 0, locals := 151 }
set_option maxRecDepth 20000 in
theorem eX5_most_ok : ∀ ix kd n F, eX5_most.lookup ix = some (kd, n, F) → CallOK rX5_most yX5_most.cls cX5_most ix kd n F := look_all (look_cons (callOK_lift (ci := 5) ⟨⟨rfl, rfl, by decide, by decide⟩, u_245, u_246, u_247, ⟨by decide, by decide⟩, Or.inr ⟨rfl, u_248, by decide +kernel⟩⟩ coreX5_in) (look_cons (callOK_same (ci := 5) ⟨⟨rfl, rfl, by decide, by decide⟩, u_255, u_256, u_247, ⟨by decide, by decide⟩, Or.inl ⟨rfl, u_257, u_258, ⟨_, rfl, rfl⟩, 1, rfl, by decide +kernel⟩⟩ coreX5_finds) (look_cons (callOK_same (ci := 5) ⟨⟨rfl, rfl, by decide, by decide⟩, u_270, u_271, u_247, ⟨by decide, by decide⟩, Or.inl ⟨rfl, u_272, u_273, ⟨_, rfl, rfl⟩, 2, rfl, by decide +kernel⟩⟩ coreX5_thoseAs) (look_cons (callOK_same (ci := 5) ⟨⟨rfl, rfl, by decide, by decide⟩, u_354, u_355, u_247, ⟨by decide, by decide⟩, Or.inl ⟨rfl, u_356, u_357, ⟨_, rfl, rfl⟩, 1, rfl, by decide +kernel⟩⟩ coreX5_daysGo) (look_cons (callOK_same (ci := 5) ⟨⟨rfl, rfl, by decide, by decide⟩, u_374, u_375, u_247, ⟨by decide, by decide⟩, Or.inl ⟨rfl, u_376, u_377, ⟨_, rfl, rfl⟩, 0, rfl, by decide +kernel⟩⟩ coreX5_laysAside) (look_cons (callOK_same (ci := 5) ⟨⟨rfl, rfl, by decide, by decide⟩, u_370, u_371, u_247, ⟨by decide, by decide⟩, Or.inl ⟨rfl, u_372, u_373, ⟨_, rfl, rfl⟩, 1, rfl, by decide +kernel⟩⟩ coreX5_takesBack) (look_cons (callOK_lift (ci := 5) ⟨⟨rfl, rfl, by decide, by decide⟩, u_397, u_398, u_247, ⟨by decide, by decide⟩, Or.inr ⟨rfl, u_399, by decide +kernel⟩⟩ coreX5_ones) look_nil)))))))
noncomputable def gX5_most : Callee := mkG (α := Int32) (σ := MS) (τ := Int32 × MS) unM uaR0I (fun q => some (.int q.1)) (fun _ q => picM q.2) (fun (a : Int32) (u : MS) => fX5_most a u)
theorem coreX5_most : CoreOK yX5_most rX5_most cX5_most 4 (some .int) 0 5 gX5_most :=
  core_of (kd := 0) (α := Int32) (σ := MS) (τ := Int32 × MS) unM picM unM_ok uaR0I arR0I uaR0I_ok (fun q => some (.int q.1)) (fun _ q => picM q.2) (fun (a : Int32) (u : MS) => fX5_most a u)
    (fun a u q h => doc_of_run (by decide) ⟨rfl, rfl⟩ flX5_ok cnX5_ok (fun h => absurd rfl h) eX5_most_ok okX5_most (Nat.le_of_ble_eq_true rfl) (fun v ws' e => kIM_ok e) rfl h) (fun _ a u => ⟨0, _, _, rfl, rfl⟩)
-- X5_feed
def tPX5_feed (c1 : Int64) (c2 : Int32) (c3 : Int32) (c4 : Int32) : List (Nat × Ent) := [(0, (.iload_n 2, 1, .null, 0, [])), (1, (.i2l, 1, .null, 0, [])), (2, (.lconst 1, 1, .long (1), 0, [])), (3, (.ldc2_w 75, 3, .long c1, 0, [])), (6, (.invokestatic 48, 3, .null, 0, [])), (9, (.ifCond .ne 10, 3, .null, 19, [])), (12, (.aload_n 0, 1, .null, 0, [])), (13, (.ldc 45, 2, .int c2, 0, [])), (15, (.invokevirtual 68, 3, .null, 0, [])), (18, (.ireturn, 1, .null, 0, [])), (19, (.aload_n 0, 1, .null, 0, [])), (20, (.getfield 199, 3, .null, 0, [])), (23, (.iload_n 2, 1, .null, 0, [])), (24, (.iadd, 1, .null, 0, [])), (25, (.bipush 120, 2, .int (120), 0, [])), (27, (.if_icmp .le 10, 3, .null, 37, [])), (30, (.aload_n 0, 1, .null, 0, [])), (31, (.ldc 86, 2, .int c3, 0, [])), (33, (.invokevirtual 68, 3, .null, 0, [])), (36, (.ireturn, 1, .null, 0, [])), (37, (.iload_n 2, 1, .null, 0, [])), (38, (.iconst 1, 1, .int (1), 0, [])), (39, (.isub, 1, .null, 0, [])), (40, (.istore_n 3, 1, .null, 0, [])), (41, (.iload_n 3, 1, .null, 0, [])), (42, (.ifCond .lt 38, 3, .null, 80, [])), (45, (.aload_n 0, 1, .null, 0, [])), (46, (.getfield 25, 3, .null, 0, [])), (49, (.aload_n 0, 1, .null, 0, [])), (50, (.getfield 199, 3, .null, 0, [])), (53, (.iload_n 1, 1, .null, 0, [])), (54, (.bipush 8, 2, .int (8), 0, [])), (56, (.iload_n 3, 1, .null, 0, [])), (57, (.imul, 1, .null, 0, [])), (58, (.ishr, 1, .null, 0, [])), (59, (.sipush 255, 3, .int c4, 0, [])), (62, (.iand, 1, .null, 0, [])), (63, (.iastore, 1, .null, 0, [])), (64, (.aload_n 0, 1, .null, 0, [])), (65, (.dup, 1, .null, 0, [])), (66, (.getfield 199, 3, .null, 0, [])), (69, (.iconst 1, 1, .int (1), 0, [])), (70, (.iadd, 1, .null, 0, [])), (71, (.putfield 199, 3, .null, 0, [])), (74, (.iinc 3 (-1), 3, .int (-1), 0, [])), (77, (.goto (-36), 3, .null, 41, [])), (80, (.aload_n 0, 1, .null, 0, [])), (81, (.getfield 199, 3, .null, 0, [])), (84, (.ireturn, 1, .null, 0, []))]
def tX5_feed : List (Nat × Ent) := tPX5_feed (4) (-1000000001) (-1000000002) (255)
theorem okX5_feed : tblOK cnX5 cX5_feed tX5_feed = true := by decide +kernel
def hX5_feed : List (Nat × List Bool) := [(41, [true, true, false, true])]
noncomputable def eX5_feed : Cal := [(48, 1, 3, (liftF fp0 gX5_in)), (68, 0, 2, gX5_finds)]
noncomputable def fPX5_feed (c1 : Int64) (c2 : Int32) (c3 : Int32) (c4 : Int32) (a0 : Int32) (a1 : Int32) (u : MS) : Option (Int32 × MS) := run (tPX5_feed c1 c2 c3 c4) hX5_feed flX5 0 caG eX5_feed (some .int) kIM (FU + 1) 0 (loIn 4 [.ref 0, .int (a0), .int (a1)]) [] (picM u)
noncomputable def lPX5_feed_41 (c1 : Int64) (c2 : Int32) (c3 : Int32) (c4 : Int32) (n : Nat) (x1 : Int32) (x3 : Int32) (u : MS) : Option (Int32 × MS) := run (tPX5_feed c1 c2 c3 c4) hX5_feed flX5 0 caG eX5_feed (some .int) kIM n 41 [some (.ref 0), some (.int (x1)), none, some (.int (x3))] [] (picM u)
noncomputable def fX5_feed (a0 : Int32) (a1 : Int32) (u : MS) : Option (Int32 × MS) := fPX5_feed (4) (-1000000001) (-1000000002) (255) a0 a1 u
noncomputable def lX5_feed_41 (n : Nat) (x1 : Int32) (x3 : Int32) (u : MS) : Option (Int32 × MS) := lPX5_feed_41 (4) (-1000000001) (-1000000002) (255) n x1 x3 u
set_option maxRecDepth 100000 in
theorem lPX5_feed_41_eq (c1 : Int64) (c2 : Int32) (c3 : Int32) (c4 : Int32) (n : Nat) (x1 : Int32) (x3 : Int32) (u : MS) : lPX5_feed_41 c1 c2 c3 c4 (n + 1) x1 x3 u = (if x3 < 0 then (some ((mTpd u), u)) else (if (mTpd u) < 0 ∨ 120 ≤ ((mTpd u)).toNatClampNeg then none else (lPX5_feed_41 c1 c2 c3 c4 n x1 ((x3 + (-1 : Int32))) (mTpd' (mTape' u (upd (mTape u) ((mTpd u)).toNatClampNeg ((x1 >>> (((8 : Int32) * x3) &&& 31)) &&& c4))) ((mTpd u) + 1))))) := rfl
theorem lX5_feed_41_eq (n : Nat) (x1 : Int32) (x3 : Int32) (u : MS) : lX5_feed_41 (n + 1) x1 x3 u = (if x3 < 0 then (some ((mTpd u), u)) else (if (mTpd u) < 0 ∨ 120 ≤ ((mTpd u)).toNatClampNeg then none else (lX5_feed_41 n x1 ((x3 + (-1 : Int32))) (mTpd' (mTape' u (upd (mTape u) ((mTpd u)).toNatClampNeg ((x1 >>> (((8 : Int32) * x3) &&& 31)) &&& (255 : Int32)))) ((mTpd u) + 1))))) := (lPX5_feed_41_eq (4) (-1000000001) (-1000000002) (255) n x1 x3 u)
set_option maxRecDepth 100000 in
theorem fPX5_feed_eq (c1 : Int64) (c2 : Int32) (c3 : Int32) (c4 : Int32) (a0 : Int32) (a1 : Int32) (u : MS) : fPX5_feed c1 c2 c3 c4 a0 a1 u = ((fX5_in (Int32.toInt64 a1) (1 : Int64) c1).bind fun q0 => (if q0 = 0 then ((fX5_finds c2 u).bind fun q1 => (some (q1.1, q1.2))) else (if ((mTpd u) + a1) ≤ 120 then (lPX5_feed_41 c1 c2 c3 c4 FU a0 ((a1 - 1)) u) else ((fX5_finds c3 u).bind fun q1 => (some (q1.1, q1.2)))))) := rfl
theorem fX5_feed_eq (a0 : Int32) (a1 : Int32) (u : MS) : fX5_feed a0 a1 u = ((fX5_in (Int32.toInt64 a1) (1 : Int64) (4 : Int64)).bind fun q0 => (if q0 = 0 then ((fX5_finds (-1000000001 : Int32) u).bind fun q1 => (some (q1.1, q1.2))) else (if ((mTpd u) + a1) ≤ 120 then (lX5_feed_41 FU a0 ((a1 - 1)) u) else ((fX5_finds (-1000000002 : Int32) u).bind fun q1 => (some (q1.1, q1.2)))))) := (fPX5_feed_eq (4) (-1000000001) (-1000000002) (255) a0 a1 u)
abbrev rX5_feed : Room := { frames := 1, cells := 0, slots := 0, locals := 25 }
set_option maxRecDepth 20000 in
theorem eX5_feed_ok : ∀ ix kd n F, eX5_feed.lookup ix = some (kd, n, F) → CallOK rX5_feed yX5_feed.cls cX5_feed ix kd n F := look_all (look_cons (callOK_lift (ci := 5) ⟨⟨rfl, rfl, by decide, by decide⟩, u_245, u_246, u_247, ⟨by decide, by decide⟩, Or.inr ⟨rfl, u_248, by decide +kernel⟩⟩ coreX5_in) (look_cons (callOK_same (ci := 5) ⟨⟨rfl, rfl, by decide, by decide⟩, u_255, u_256, u_247, ⟨by decide, by decide⟩, Or.inl ⟨rfl, u_257, u_258, ⟨_, rfl, rfl⟩, 1, rfl, by decide +kernel⟩⟩ coreX5_finds) look_nil))
noncomputable def gX5_feed : Callee := mkG (α := Int32 × Int32) (σ := MS) (τ := Int32 × MS) unM uaR0II (fun q => some (.int q.1)) (fun _ q => picM q.2) (fun (a : Int32 × Int32) (u : MS) => fX5_feed a.1 a.2 u)
theorem coreX5_feed : CoreOK yX5_feed rX5_feed cX5_feed 4 (some .int) 0 5 gX5_feed :=
  core_of (kd := 0) (α := Int32 × Int32) (σ := MS) (τ := Int32 × MS) unM picM unM_ok uaR0II arR0II uaR0II_ok (fun q => some (.int q.1)) (fun _ q => picM q.2) (fun (a : Int32 × Int32) (u : MS) => fX5_feed a.1 a.2 u)
    (fun a u q h => doc_of_run (by decide) ⟨rfl, rfl⟩ flX5_ok cnX5_ok (fun h => absurd rfl h) eX5_feed_ok okX5_feed (Nat.le_of_ble_eq_true rfl) (fun v ws' e => kIM_ok e) rfl h) (fun _ a u => ⟨0, _, _, rfl, rfl⟩)
-- X5_wipe
def tX5_wipe : List (Nat × Ent) := [(0, (.aload_n 0, 1, .null, 0, [])), (1, (.getfield 199, 3, .null, 0, [])), (4, (.istore_n 1, 1, .null, 0, [])), (5, (.aload_n 0, 1, .null, 0, [])), (6, (.iconst 0, 1, .int (0), 0, [])), (7, (.putfield 199, 3, .null, 0, [])), (10, (.iload_n 1, 1, .null, 0, [])), (11, (.ireturn, 1, .null, 0, []))]
theorem okX5_wipe : tblOK cnX5 cX5_wipe tX5_wipe = true := by decide +kernel
def hX5_wipe : List (Nat × List Bool) := []
noncomputable def eX5_wipe : Cal := []
noncomputable def fX5_wipe (u : MS) : Option (Int32 × MS) := run tX5_wipe hX5_wipe flX5 0 caG eX5_wipe (some .int) kIM (FU + 1) 0 (loIn 2 [.ref 0]) [] (picM u)
set_option maxRecDepth 100000 in
theorem fX5_wipe_eq (u : MS) : fX5_wipe u = (some ((mTpd u), (mTpd' u 0))) := rfl
abbrev rX5_wipe : Room := { frames := 0, cells := 0, slots := 0, locals := 0 }
set_option maxRecDepth 20000 in
theorem eX5_wipe_ok : ∀ ix kd n F, eX5_wipe.lookup ix = some (kd, n, F) → CallOK rX5_wipe yX5_wipe.cls cX5_wipe ix kd n F := look_all look_nil
noncomputable def gX5_wipe : Callee := mkG (α := Unit) (σ := MS) (τ := Int32 × MS) unM uaR0 (fun q => some (.int q.1)) (fun _ q => picM q.2) (fun (a : Unit) (u : MS) => fX5_wipe u)
theorem coreX5_wipe : CoreOK yX5_wipe rX5_wipe cX5_wipe 2 (some .int) 0 5 gX5_wipe :=
  core_of (kd := 0) (α := Unit) (σ := MS) (τ := Int32 × MS) unM picM unM_ok uaR0 arR0 uaR0_ok (fun q => some (.int q.1)) (fun _ q => picM q.2) (fun (a : Unit) (u : MS) => fX5_wipe u)
    (fun a u q h => doc_of_run (by decide) ⟨rfl, rfl⟩ flX5_ok cnX5_ok (fun h => absurd rfl h) eX5_wipe_ok okX5_wipe (Nat.le_of_ble_eq_true rfl) (fun v ws' e => kIM_ok e) rfl h) (fun _ a u => ⟨0, _, _, rfl, rfl⟩)
-- X5_byteAt
def tX5_byteAt : List (Nat × Ent) := [(0, (.iload_n 1, 1, .null, 0, [])), (1, (.aload_n 0, 1, .null, 0, [])), (2, (.getfield 199, 3, .null, 0, [])), (5, (.if_icmp .ge 12, 3, .null, 17, [])), (8, (.aload_n 0, 1, .null, 0, [])), (9, (.getfield 25, 3, .null, 0, [])), (12, (.iload_n 1, 1, .null, 0, [])), (13, (.iaload, 1, .null, 0, [])), (14, (.goto 4, 3, .null, 18, [])), (17, (.iconst (-1), 1, .int (-1), 0, [])), (18, (.ireturn, 1, .null, 0, []))]
theorem okX5_byteAt : tblOK cnX5 cX5_byteAt tX5_byteAt = true := by decide +kernel
def hX5_byteAt : List (Nat × List Bool) := []
noncomputable def eX5_byteAt : Cal := []
noncomputable def fX5_byteAt (a0 : Int32) (u : MS) : Option (Int32 × MS) := run tX5_byteAt hX5_byteAt flX5 0 caG eX5_byteAt (some .int) kIM (FU + 1) 0 (loIn 2 [.ref 0, .int (a0)]) [] (picM u)
set_option maxRecDepth 100000 in
theorem fX5_byteAt_eq (a0 : Int32) (u : MS) : fX5_byteAt a0 u = (if (mTpd u) ≤ a0 then (some ((-1 : Int32), u)) else (if a0 < 0 ∨ 120 ≤ (a0).toNatClampNeg then none else (some (((mTape u) (a0).toNatClampNeg), u)))) := rfl
abbrev rX5_byteAt : Room := { frames := 0, cells := 0, slots := 0, locals := 0 }
set_option maxRecDepth 20000 in
theorem eX5_byteAt_ok : ∀ ix kd n F, eX5_byteAt.lookup ix = some (kd, n, F) → CallOK rX5_byteAt yX5_byteAt.cls cX5_byteAt ix kd n F := look_all look_nil
noncomputable def gX5_byteAt : Callee := mkG (α := Int32) (σ := MS) (τ := Int32 × MS) unM uaR0I (fun q => some (.int q.1)) (fun _ q => picM q.2) (fun (a : Int32) (u : MS) => fX5_byteAt a u)
theorem coreX5_byteAt : CoreOK yX5_byteAt rX5_byteAt cX5_byteAt 2 (some .int) 0 5 gX5_byteAt :=
  core_of (kd := 0) (α := Int32) (σ := MS) (τ := Int32 × MS) unM picM unM_ok uaR0I arR0I uaR0I_ok (fun q => some (.int q.1)) (fun _ q => picM q.2) (fun (a : Int32) (u : MS) => fX5_byteAt a u)
    (fun a u q h => doc_of_run (by decide) ⟨rfl, rfl⟩ flX5_ok cnX5_ok (fun h => absurd rfl h) eX5_byteAt_ok okX5_byteAt (Nat.le_of_ble_eq_true rfl) (fun v ws' e => kIM_ok e) rfl h) (fun _ a u => ⟨0, _, _, rfl, rfl⟩)
-- X5_isLetter
def tPX5_isLetter (c1 : Int64) (c2 : Int64) : List (Nat × Ent) := [(0, (.iload_n 0, 1, .null, 0, [])), (1, (.i2l, 1, .null, 0, [])), (2, (.ldc2_w 203, 3, .long c1, 0, [])), (5, (.ldc2_w 205, 3, .long c2, 0, [])), (8, (.invokestatic 48, 3, .null, 0, [])), (11, (.ireturn, 1, .null, 0, []))]
def tX5_isLetter : List (Nat × Ent) := tPX5_isLetter (97) (122)
theorem okX5_isLetter : tblOK cnX5 cX5_isLetter tX5_isLetter = true := by decide +kernel
def hX5_isLetter : List (Nat × List Bool) := []
noncomputable def eX5_isLetter : Cal := [(48, 1, 3, (liftF fp0 gX5_in))]
noncomputable def fPX5_isLetter (c1 : Int64) (c2 : Int64) (a0 : Int32) : Option (Int32) := run (tPX5_isLetter c1 c2) hX5_isLetter flX5 0 caG eX5_isLetter (some .boolean) kIN (FU + 1) 0 (loIn 1 [.int (a0)]) [] []
noncomputable def fX5_isLetter (a0 : Int32) : Option (Int32) := fPX5_isLetter (97) (122) a0
set_option maxRecDepth 100000 in
theorem fPX5_isLetter_eq (c1 : Int64) (c2 : Int64) (a0 : Int32) : fPX5_isLetter c1 c2 a0 = ((fX5_in (Int32.toInt64 a0) c1 c2).bind fun q0 => (if q0 = 0 ∨ q0 = 1 then (some q0) else none)) := rfl
theorem fX5_isLetter_eq (a0 : Int32) : fX5_isLetter a0 = ((fX5_in (Int32.toInt64 a0) (97 : Int64) (122 : Int64)).bind fun q0 => (if q0 = 0 ∨ q0 = 1 then (some q0) else none)) := (fPX5_isLetter_eq (97) (122) a0)
abbrev rX5_isLetter : Room := { frames := 1, cells := 0, slots := 0, locals := 25 }
set_option maxRecDepth 20000 in
theorem eX5_isLetter_ok : ∀ ix kd n F, eX5_isLetter.lookup ix = some (kd, n, F) → CallOK rX5_isLetter yX5_isLetter.cls cX5_isLetter ix kd n F := look_all (look_cons (callOK_lift (ci := 5) ⟨⟨rfl, rfl, by decide, by decide⟩, u_245, u_246, u_247, ⟨by decide, by decide⟩, Or.inr ⟨rfl, u_248, by decide +kernel⟩⟩ coreX5_in) look_nil)
noncomputable def gX5_isLetter : Callee := mkG (α := Int32) (σ := Unit) (τ := Int32) unN uaI (fun q => some (.int q)) (fun _ _ => []) (fun (a : Int32) (u : Unit) => fX5_isLetter a)
theorem coreX5_isLetter : CoreOK yX5_isLetter rX5_isLetter cX5_isLetter 1 (some .boolean) 1 5 gX5_isLetter :=
  core_of (kd := 1) (α := Int32) (σ := Unit) (τ := Int32) unN picN unN_ok uaI arI uaI_ok (fun q => some (.int q)) (fun _ _ => []) (fun (a : Int32) (u : Unit) => fX5_isLetter a)
    (fun a u q h => doc_of_run (by decide) ⟨rfl, rfl⟩ flX5_ok cnX5_ok (fun h => absurd rfl h) eX5_isLetter_ok okX5_isLetter (Nat.le_of_ble_eq_true rfl) (fun v ws' e => kIN_ok e) rfl h) (fun e => by cases e)
-- X5_isDigit
def tPX5_isDigit (c1 : Int64) (c2 : Int64) : List (Nat × Ent) := [(0, (.iload_n 0, 1, .null, 0, [])), (1, (.i2l, 1, .null, 0, [])), (2, (.ldc2_w 207, 3, .long c1, 0, [])), (5, (.ldc2_w 209, 3, .long c2, 0, [])), (8, (.invokestatic 48, 3, .null, 0, [])), (11, (.ireturn, 1, .null, 0, []))]
def tX5_isDigit : List (Nat × Ent) := tPX5_isDigit (48) (57)
theorem okX5_isDigit : tblOK cnX5 cX5_isDigit tX5_isDigit = true := by decide +kernel
def hX5_isDigit : List (Nat × List Bool) := []
noncomputable def eX5_isDigit : Cal := [(48, 1, 3, (liftF fp0 gX5_in))]
noncomputable def fPX5_isDigit (c1 : Int64) (c2 : Int64) (a0 : Int32) : Option (Int32) := run (tPX5_isDigit c1 c2) hX5_isDigit flX5 0 caG eX5_isDigit (some .boolean) kIN (FU + 1) 0 (loIn 1 [.int (a0)]) [] []
noncomputable def fX5_isDigit (a0 : Int32) : Option (Int32) := fPX5_isDigit (48) (57) a0
set_option maxRecDepth 100000 in
theorem fPX5_isDigit_eq (c1 : Int64) (c2 : Int64) (a0 : Int32) : fPX5_isDigit c1 c2 a0 = ((fX5_in (Int32.toInt64 a0) c1 c2).bind fun q0 => (if q0 = 0 ∨ q0 = 1 then (some q0) else none)) := rfl
theorem fX5_isDigit_eq (a0 : Int32) : fX5_isDigit a0 = ((fX5_in (Int32.toInt64 a0) (48 : Int64) (57 : Int64)).bind fun q0 => (if q0 = 0 ∨ q0 = 1 then (some q0) else none)) := (fPX5_isDigit_eq (48) (57) a0)
abbrev rX5_isDigit : Room := { frames := 1, cells := 0, slots := 0, locals := 25 }
set_option maxRecDepth 20000 in
theorem eX5_isDigit_ok : ∀ ix kd n F, eX5_isDigit.lookup ix = some (kd, n, F) → CallOK rX5_isDigit yX5_isDigit.cls cX5_isDigit ix kd n F := look_all (look_cons (callOK_lift (ci := 5) ⟨⟨rfl, rfl, by decide, by decide⟩, u_245, u_246, u_247, ⟨by decide, by decide⟩, Or.inr ⟨rfl, u_248, by decide +kernel⟩⟩ coreX5_in) look_nil)
noncomputable def gX5_isDigit : Callee := mkG (α := Int32) (σ := Unit) (τ := Int32) unN uaI (fun q => some (.int q)) (fun _ _ => []) (fun (a : Int32) (u : Unit) => fX5_isDigit a)
theorem coreX5_isDigit : CoreOK yX5_isDigit rX5_isDigit cX5_isDigit 1 (some .boolean) 1 5 gX5_isDigit :=
  core_of (kd := 1) (α := Int32) (σ := Unit) (τ := Int32) unN picN unN_ok uaI arI uaI_ok (fun q => some (.int q)) (fun _ _ => []) (fun (a : Int32) (u : Unit) => fX5_isDigit a)
    (fun a u q h => doc_of_run (by decide) ⟨rfl, rfl⟩ flX5_ok cnX5_ok (fun h => absurd rfl h) eX5_isDigit_ok okX5_isDigit (Nat.le_of_ble_eq_true rfl) (fun v ws' e => kIN_ok e) rfl h) (fun e => by cases e)
