-- X4_most
def tPX4_most (c1 : Int32) : List (Nat × Ent) := [(0, (.iload_n 1, 1, .null, 0, [])), (1, (.iconst 0, 1, .int (0), 0, [])), (2, (.bipush 100, 2, .int (100), 0, [])), (4, (.invokestatic 57, 3, .null, 0, [])), (7, (.ifCond .ne 10, 3, .null, 17, [])), (10, (.aload_n 0, 1, .null, 0, [])), (11, (.ldc 61, 2, .int c1, 0, [])), (13, (.invokevirtual 62, 3, .null, 0, [])), (16, (.ireturn, 1, .null, 0, [])), (17, (.aload_n 0, 1, .null, 0, [])), (18, (.invokevirtual 164, 3, .null, 0, [])), (21, (.aload_n 0, 1, .null, 0, [])), (22, (.getfield 16, 3, .null, 0, [])), (25, (.iload_n 1, 1, .null, 0, [])), (26, (.invokevirtual 147, 3, .null, 0, [])), (29, (.iconst 0, 1, .int (0), 0, [])), (30, (.istore_n 2, 1, .null, 0, [])), (31, (.iconst 1, 1, .int (1), 0, [])), (32, (.istore_n 3, 1, .null, 0, [])), (33, (.iload_n 3, 1, .null, 0, [])), (34, (.bipush 6, 2, .int (6), 0, [])), (36, (.if_icmp .ge 30, 3, .null, 66, [])), (39, (.aload_n 0, 1, .null, 0, [])), (40, (.getfield 16, 3, .null, 0, [])), (43, (.iload_n 3, 1, .null, 0, [])), (44, (.invokevirtual 181, 3, .null, 0, [])), (47, (.aload_n 0, 1, .null, 0, [])), (48, (.getfield 16, 3, .null, 0, [])), (51, (.iload_n 2, 1, .null, 0, [])), (52, (.invokevirtual 181, 3, .null, 0, [])), (55, (.if_icmp .le 5, 3, .null, 60, [])), (58, (.iload_n 3, 1, .null, 0, [])), (59, (.istore_n 2, 1, .null, 0, [])), (60, (.iinc 3 1, 3, .int (1), 0, [])), (63, (.goto (-30), 3, .null, 33, [])), (66, (.iload_n 2, 1, .null, 0, [])), (67, (.ireturn, 1, .null, 0, []))]
def tX4_most : List (Nat × Ent) := tPX4_most (-1000000001)
theorem okX4_most : tblOK cnX4 cX4_most tX4_most = true := by decide +kernel
def hX4_most : List (Nat × List Bool) := [(33, [true, false, true, true])]
noncomputable def eX4_most : Cal := [(57, 1, 3, (statF gX4_isWithin)), (62, 0, 2, gX4_found), (147, 0, 2, (rX_St11 gX1_goDays)), (164, 0, 1, gX4_startAhead), (181, 0, 2, (rX_St11 gX1_countWith))]
noncomputable def fPX4_most (c1 : Int32) (a0 : Int32) (u : XS) : Option (Int32 × XS) := run (tPX4_most c1) hX4_most flX4 0 caG eX4_most (some .int) kIX (FU + 1) 0 (loIn 4 [.ref 0, .int (a0)]) [] (picX u)
noncomputable def lPX4_most_33 (c1 : Int32) (n : Nat) (x2 : Int32) (x3 : Int32) (u : XS) : Option (Int32 × XS) := run (tPX4_most c1) hX4_most flX4 0 caG eX4_most (some .int) kIX n 33 [some (.ref 0), none, some (.int (x2)), some (.int (x3))] [] (picX u)
noncomputable def fX4_most (a0 : Int32) (u : XS) : Option (Int32 × XS) := fPX4_most (-1000000001) a0 u
noncomputable def lX4_most_33 (n : Nat) (x2 : Int32) (x3 : Int32) (u : XS) : Option (Int32 × XS) := lPX4_most_33 (-1000000001) n x2 x3 u
set_option maxRecDepth 100000 in
set_option maxHeartbeats 8000000 in
theorem lPX4_most_33_eq (c1 : Int32) (n : Nat) (x2 : Int32) (x3 : Int32) (u : XS) : lPX4_most_33 c1 (n + 1) x2 x3 u = (br ((6 : Int32) ≤ x3) (some (x2, u)) ((fX1_countWith x3 (xAhd u)).bind fun q0 => ((fX1_countWith x2 q0.2).bind fun q1 => (br (q0.1 ≤ q1.1) (lPX4_most_33 c1 n x2 ((x3 + 1)) (xAhd' u q1.2)) (lPX4_most_33 c1 n x3 ((x3 + 1)) (xAhd' u q1.2)))))) := rfl
theorem lX4_most_33_eq (n : Nat) (x2 : Int32) (x3 : Int32) (u : XS) : lX4_most_33 (n + 1) x2 x3 u = (if (6 : Int32) ≤ x3 then (some (x2, u)) else ((fX1_countWith x3 (xAhd u)).bind fun q0 => ((fX1_countWith x2 q0.2).bind fun q1 => (if q0.1 ≤ q1.1 then (lX4_most_33 n x2 ((x3 + 1)) (xAhd' u q1.2)) else (lX4_most_33 n x3 ((x3 + 1)) (xAhd' u q1.2)))))) := (lPX4_most_33_eq (-1000000001) n x2 x3 u).trans (by simp only [br_eq, if_true, if_false, tn0, tn1, tn2, tn3, tn4, tn5, tn6, tn8] <;> rfl)
set_option maxRecDepth 100000 in
set_option maxHeartbeats 8000000 in
theorem fPX4_most_eq (c1 : Int32) (a0 : Int32) (u : XS) : fPX4_most c1 a0 u = ((fX4_isWithin a0 0 100).bind fun q0 => (br (q0 = 0) ((fX4_found c1 u).bind fun q1 => (some (q1.1, q1.2))) ((fX4_startAhead u).bind fun q1 => ((fX1_goDays a0 (xAhd q1)).bind fun q2 => (lPX4_most_33 c1 FU 0 1 (xAhd' q1 q2)))))) := rfl
theorem fX4_most_eq (a0 : Int32) (u : XS) : fX4_most a0 u = ((fX4_isWithin a0 0 100).bind fun q0 => (if q0 = 0 then ((fX4_found (-1000000001 : Int32) u).bind fun q1 => (some (q1.1, q1.2))) else ((fX4_startAhead u).bind fun q1 => ((fX1_goDays a0 (xAhd q1)).bind fun q2 => (lX4_most_33 FU 0 1 (xAhd' q1 q2)))))) := (fPX4_most_eq (-1000000001) a0 u).trans (by simp only [br_eq, if_true, if_false, tn0, tn1, tn2, tn3, tn4, tn5, tn6, tn8] <;> rfl)
abbrev rX4_most : Room := { frames := 6, cells := 0, slots := 0, locals := 134 }
set_option maxRecDepth 20000 in
theorem eX4_most_ok : ∀ ix kd n F, eX4_most.lookup ix = some (kd, n, F) → CallOK rX4_most yX4_most.cls cX4_most ix kd n F := look_all (look_cons (callOK_stat (ci := 4) ⟨⟨rfl, rfl, by decide, by decide⟩, u_128, u_129, u_125, ⟨by decide, by decide⟩, Or.inr ⟨rfl, u_130, by decide +kernel⟩⟩ coreX4_isWithin) (look_cons (callOK_same (ci := 4) ⟨⟨rfl, rfl, by decide, by decide⟩, u_123, u_124, u_125, ⟨by decide, by decide⟩, Or.inl ⟨rfl, u_126, u_127, ⟨_, rfl, rfl⟩, 1, rfl, by decide +kernel⟩⟩ coreX4_found) (look_cons (callOK_X_St11 (ci := 1) ⟨⟨rfl, rfl, by decide, by decide⟩, u_164, u_165, u_10, ⟨by decide, by decide⟩, Or.inl ⟨rfl, u_166, u_167, ⟨_, rfl, rfl⟩, 1, rfl, by decide +kernel⟩⟩ coreX1_goDays) (look_cons (callOK_same (ci := 4) ⟨⟨rfl, rfl, by decide, by decide⟩, u_184, u_185, u_125, ⟨by decide, by decide⟩, Or.inl ⟨rfl, u_186, u_187, ⟨_, rfl, rfl⟩, 0, rfl, by decide +kernel⟩⟩ coreX4_startAhead) (look_cons (callOK_X_St11 (ci := 1) ⟨⟨rfl, rfl, by decide, by decide⟩, u_72, u_201, u_10, ⟨by decide, by decide⟩, Or.inl ⟨rfl, u_74, u_75, ⟨_, rfl, rfl⟩, 1, rfl, by decide +kernel⟩⟩ coreX1_countWith) look_nil)))))
noncomputable def gX4_most : Callee := mkG (α := Int32) (σ := XS) (τ := Int32 × XS) unX uaR0I (fun q => some (.int q.1)) (fun _ q => picX q.2) (fun (a : Int32) (u : XS) => fX4_most a u)
theorem coreX4_most : CoreOK yX4_most rX4_most cX4_most 4 (some .int) 0 4 gX4_most :=
  core_of (kd := 0) (α := Int32) (σ := XS) (τ := Int32 × XS) unX picX unX_ok uaR0I arR0I uaR0I_ok (fun q => some (.int q.1)) (fun _ q => picX q.2) (fun (a : Int32) (u : XS) => fX4_most a u)
    (fun a u q h => doc_of_run (by decide) ⟨rfl, rfl⟩ flX4_ok cnX4_ok (fun h => absurd rfl h) eX4_most_ok okX4_most (Nat.le_of_ble_eq_true rfl) (fun v ws' e => kIX_ok e) rfl h) (fun _ a u => ⟨0, _, _, rfl, rfl⟩)
-- X4_feed
def tPX4_feed (c1 : Int32) (c2 : Int32) : List (Nat × Ent) := [(0, (.iload_n 2, 1, .null, 0, [])), (1, (.iconst 1, 1, .int (1), 0, [])), (2, (.iconst 4, 1, .int (4), 0, [])), (3, (.invokestatic 57, 3, .null, 0, [])), (6, (.ifCond .ne 10, 3, .null, 16, [])), (9, (.aload_n 0, 1, .null, 0, [])), (10, (.ldc 61, 2, .int c1, 0, [])), (12, (.invokevirtual 62, 3, .null, 0, [])), (15, (.ireturn, 1, .null, 0, [])), (16, (.aload_n 0, 1, .null, 0, [])), (17, (.getfield 37, 3, .null, 0, [])), (20, (.getfield 187, 3, .null, 0, [])), (23, (.iload_n 2, 1, .null, 0, [])), (24, (.iadd, 1, .null, 0, [])), (25, (.bipush 120, 2, .int (120), 0, [])), (27, (.if_icmp .le 10, 3, .null, 37, [])), (30, (.aload_n 0, 1, .null, 0, [])), (31, (.ldc 91, 2, .int c2, 0, [])), (33, (.invokevirtual 62, 3, .null, 0, [])), (36, (.ireturn, 1, .null, 0, [])), (37, (.iload_n 2, 1, .null, 0, [])), (38, (.iconst 1, 1, .int (1), 0, [])), (39, (.isub, 1, .null, 0, [])), (40, (.istore_n 3, 1, .null, 0, [])), (41, (.iload_n 3, 1, .null, 0, [])), (42, (.ifCond .lt 23, 3, .null, 65, [])), (45, (.aload_n 0, 1, .null, 0, [])), (46, (.getfield 37, 3, .null, 0, [])), (49, (.iload_n 1, 1, .null, 0, [])), (50, (.bipush 8, 2, .int (8), 0, [])), (52, (.iload_n 3, 1, .null, 0, [])), (53, (.imul, 1, .null, 0, [])), (54, (.ishr, 1, .null, 0, [])), (55, (.i2b, 1, .null, 0, [])), (56, (.invokevirtual 192, 3, .null, 0, [])), (59, (.iinc 3 (-1), 3, .int (-1), 0, [])), (62, (.goto (-21), 3, .null, 41, [])), (65, (.aload_n 0, 1, .null, 0, [])), (66, (.getfield 37, 3, .null, 0, [])), (69, (.getfield 187, 3, .null, 0, [])), (72, (.ireturn, 1, .null, 0, []))]
def tX4_feed : List (Nat × Ent) := tPX4_feed (-1000000001) (-1000000002)
theorem okX4_feed : tblOK cnX4 cX4_feed tX4_feed = true := by decide +kernel
def hX4_feed : List (Nat × List Bool) := [(41, [true, true, false, true])]
noncomputable def eX4_feed : Cal := [(57, 1, 3, (statF gX4_isWithin)), (62, 0, 2, gX4_found), (192, 0, 2, (rX_Tp32 gX2_add))]
noncomputable def fPX4_feed (c1 : Int32) (c2 : Int32) (a0 : Int32) (a1 : Int32) (u : XS) : Option (Int32 × XS) := run (tPX4_feed c1 c2) hX4_feed flX4 0 caG eX4_feed (some .int) kIX (FU + 1) 0 (loIn 4 [.ref 0, .int (a0), .int (a1)]) [] (picX u)
noncomputable def lPX4_feed_41 (c1 : Int32) (c2 : Int32) (n : Nat) (x1 : Int32) (x3 : Int32) (u : XS) : Option (Int32 × XS) := run (tPX4_feed c1 c2) hX4_feed flX4 0 caG eX4_feed (some .int) kIX n 41 [some (.ref 0), some (.int (x1)), none, some (.int (x3))] [] (picX u)
noncomputable def fX4_feed (a0 : Int32) (a1 : Int32) (u : XS) : Option (Int32 × XS) := fPX4_feed (-1000000001) (-1000000002) a0 a1 u
noncomputable def lX4_feed_41 (n : Nat) (x1 : Int32) (x3 : Int32) (u : XS) : Option (Int32 × XS) := lPX4_feed_41 (-1000000001) (-1000000002) n x1 x3 u
set_option maxRecDepth 100000 in
set_option maxHeartbeats 8000000 in
theorem lPX4_feed_41_eq (c1 : Int32) (c2 : Int32) (n : Nat) (x1 : Int32) (x3 : Int32) (u : XS) : lPX4_feed_41 c1 c2 (n + 1) x1 x3 u = (br (x3 < 0) (some ((tLen (xTape u)), u)) ((fX2_add (Int32.toInt8 (x1 >>> (((8 : Int32) * x3) &&& 31))).toInt32 (xTape u)).bind fun q0 => (lPX4_feed_41 c1 c2 n x1 ((x3 + (-1 : Int32))) (xTape' u q0)))) := rfl
theorem lX4_feed_41_eq (n : Nat) (x1 : Int32) (x3 : Int32) (u : XS) : lX4_feed_41 (n + 1) x1 x3 u = (if x3 < 0 then (some ((tLen (xTape u)), u)) else ((fX2_add (Int32.toInt8 (x1 >>> (((8 : Int32) * x3) &&& 31))).toInt32 (xTape u)).bind fun q0 => (lX4_feed_41 n x1 ((x3 + (-1 : Int32))) (xTape' u q0)))) := (lPX4_feed_41_eq (-1000000001) (-1000000002) n x1 x3 u).trans (by simp only [br_eq, if_true, if_false, tn0, tn1, tn2, tn3, tn4, tn5, tn6, tn8] <;> rfl)
set_option maxRecDepth 100000 in
set_option maxHeartbeats 8000000 in
theorem fPX4_feed_eq (c1 : Int32) (c2 : Int32) (a0 : Int32) (a1 : Int32) (u : XS) : fPX4_feed c1 c2 a0 a1 u = ((fX4_isWithin a1 1 4).bind fun q0 => (br (q0 = 0) ((fX4_found c1 u).bind fun q1 => (some (q1.1, q1.2))) (br (((tLen (xTape u)) + a1) ≤ 120) (lPX4_feed_41 c1 c2 FU a0 ((a1 - 1)) u) ((fX4_found c2 u).bind fun q1 => (some (q1.1, q1.2)))))) := rfl
theorem fX4_feed_eq (a0 : Int32) (a1 : Int32) (u : XS) : fX4_feed a0 a1 u = ((fX4_isWithin a1 1 4).bind fun q0 => (if q0 = 0 then ((fX4_found (-1000000001 : Int32) u).bind fun q1 => (some (q1.1, q1.2))) else (if ((tLen (xTape u)) + a1) ≤ 120 then (lX4_feed_41 FU a0 ((a1 - 1)) u) else ((fX4_found (-1000000002 : Int32) u).bind fun q1 => (some (q1.1, q1.2)))))) := (fPX4_feed_eq (-1000000001) (-1000000002) a0 a1 u).trans (by simp only [br_eq, if_true, if_false, tn0, tn1, tn2, tn3, tn4, tn5, tn6, tn8] <;> rfl)
abbrev rX4_feed : Room := { frames := 1, cells := 0, slots := 0, locals := 22 }
set_option maxRecDepth 20000 in
theorem eX4_feed_ok : ∀ ix kd n F, eX4_feed.lookup ix = some (kd, n, F) → CallOK rX4_feed yX4_feed.cls cX4_feed ix kd n F := look_all (look_cons (callOK_stat (ci := 4) ⟨⟨rfl, rfl, by decide, by decide⟩, u_128, u_129, u_125, ⟨by decide, by decide⟩, Or.inr ⟨rfl, u_130, by decide +kernel⟩⟩ coreX4_isWithin) (look_cons (callOK_same (ci := 4) ⟨⟨rfl, rfl, by decide, by decide⟩, u_123, u_124, u_125, ⟨by decide, by decide⟩, Or.inl ⟨rfl, u_126, u_127, ⟨_, rfl, rfl⟩, 1, rfl, by decide +kernel⟩⟩ coreX4_found) (look_cons (callOK_X_Tp32 (ci := 2) ⟨⟨rfl, rfl, by decide, by decide⟩, u_202, u_203, u_204, ⟨by decide, by decide⟩, Or.inl ⟨rfl, u_205, u_206, ⟨_, rfl, rfl⟩, 1, rfl, by decide +kernel⟩⟩ coreX2_add) look_nil)))
noncomputable def gX4_feed : Callee := mkG (α := Int32 × Int32) (σ := XS) (τ := Int32 × XS) unX uaR0II (fun q => some (.int q.1)) (fun _ q => picX q.2) (fun (a : Int32 × Int32) (u : XS) => fX4_feed a.1 a.2 u)
theorem coreX4_feed : CoreOK yX4_feed rX4_feed cX4_feed 4 (some .int) 0 4 gX4_feed :=
  core_of (kd := 0) (α := Int32 × Int32) (σ := XS) (τ := Int32 × XS) unX picX unX_ok uaR0II arR0II uaR0II_ok (fun q => some (.int q.1)) (fun _ q => picX q.2) (fun (a : Int32 × Int32) (u : XS) => fX4_feed a.1 a.2 u)
    (fun a u q h => doc_of_run (by decide) ⟨rfl, rfl⟩ flX4_ok cnX4_ok (fun h => absurd rfl h) eX4_feed_ok okX4_feed (Nat.le_of_ble_eq_true rfl) (fun v ws' e => kIX_ok e) rfl h) (fun _ a u => ⟨0, _, _, rfl, rfl⟩)
-- X4_wipe
def tPX4_wipe : List (Nat × Ent) := [(0, (.aload_n 0, 1, .null, 0, [])), (1, (.getfield 37, 3, .null, 0, [])), (4, (.getfield 187, 3, .null, 0, [])), (7, (.istore_n 1, 1, .null, 0, [])), (8, (.aload_n 0, 1, .null, 0, [])), (9, (.getfield 37, 3, .null, 0, [])), (12, (.iconst 0, 1, .int (0), 0, [])), (13, (.putfield 187, 3, .null, 0, [])), (16, (.iload_n 1, 1, .null, 0, [])), (17, (.ireturn, 1, .null, 0, []))]
def tX4_wipe : List (Nat × Ent) := tPX4_wipe
theorem okX4_wipe : tblOK cnX4 cX4_wipe tX4_wipe = true := by decide +kernel
def hX4_wipe : List (Nat × List Bool) := []
noncomputable def eX4_wipe : Cal := []
noncomputable def fPX4_wipe (u : XS) : Option (Int32 × XS) := run (tPX4_wipe) hX4_wipe flX4 0 caG eX4_wipe (some .int) kIX (FU + 1) 0 (loIn 2 [.ref 0]) [] (picX u)
noncomputable def fX4_wipe (u : XS) : Option (Int32 × XS) := fPX4_wipe u
set_option maxRecDepth 100000 in
set_option maxHeartbeats 8000000 in
theorem fPX4_wipe_eq (u : XS) : fPX4_wipe u = (some ((tLen (xTape u)), (xTape' u (tLen' (xTape u) 0)))) := rfl
theorem fX4_wipe_eq (u : XS) : fX4_wipe u = (some ((tLen (xTape u)), (xTape' u (tLen' (xTape u) 0)))) := (fPX4_wipe_eq u)
abbrev rX4_wipe : Room := { frames := 0, cells := 0, slots := 0, locals := 0 }
set_option maxRecDepth 20000 in
theorem eX4_wipe_ok : ∀ ix kd n F, eX4_wipe.lookup ix = some (kd, n, F) → CallOK rX4_wipe yX4_wipe.cls cX4_wipe ix kd n F := look_all look_nil
noncomputable def gX4_wipe : Callee := mkG (α := Unit) (σ := XS) (τ := Int32 × XS) unX uaR0 (fun q => some (.int q.1)) (fun _ q => picX q.2) (fun (a : Unit) (u : XS) => fX4_wipe u)
theorem coreX4_wipe : CoreOK yX4_wipe rX4_wipe cX4_wipe 2 (some .int) 0 4 gX4_wipe :=
  core_of (kd := 0) (α := Unit) (σ := XS) (τ := Int32 × XS) unX picX unX_ok uaR0 arR0 uaR0_ok (fun q => some (.int q.1)) (fun _ q => picX q.2) (fun (a : Unit) (u : XS) => fX4_wipe u)
    (fun a u q h => doc_of_run (by decide) ⟨rfl, rfl⟩ flX4_ok cnX4_ok (fun h => absurd rfl h) eX4_wipe_ok okX4_wipe (Nat.le_of_ble_eq_true rfl) (fun v ws' e => kIX_ok e) rfl h) (fun _ a u => ⟨0, _, _, rfl, rfl⟩)
-- X4_station
def tPX4_station : List (Nat × Ent) := [(0, (.aload_n 0, 1, .null, 0, [])), (1, (.invokevirtual 164, 3, .null, 0, [])), (4, (.aload_n 0, 1, .null, 0, [])), (5, (.getfield 29, 3, .null, 0, [])), (8, (.aload_n 0, 1, .null, 0, [])), (9, (.getfield 16, 3, .null, 0, [])), (12, (.invokevirtual 196, 3, .null, 0, [])), (15, (.istore_n 1, 1, .null, 0, [])), (16, (.aload_n 0, 1, .null, 0, [])), (17, (.getfield 37, 3, .null, 0, [])), (20, (.iconst 0, 1, .int (0), 0, [])), (21, (.putfield 187, 3, .null, 0, [])), (24, (.iload_n 1, 1, .null, 0, [])), (25, (.ifCond .lt 14, 3, .null, 39, [])), (28, (.aload_n 0, 1, .null, 0, [])), (29, (.getfield 12, 3, .null, 0, [])), (32, (.aload_n 0, 1, .null, 0, [])), (33, (.getfield 16, 3, .null, 0, [])), (36, (.invokevirtual 200, 3, .null, 0, [])), (39, (.iload_n 1, 1, .null, 0, [])), (40, (.ireturn, 1, .null, 0, []))]
def tX4_station : List (Nat × Ent) := tPX4_station
theorem okX4_station : tblOK cnX4 cX4_station tX4_station = true := by decide +kernel
def hX4_station : List (Nat × List Bool) := []
noncomputable def eX4_station : Cal := [(164, 0, 1, gX4_startAhead), (196, 0, 2, (rX_TS31_11 gX3_tellTo)), (200, 0, 2, (rX_SS1_11 gX1_become))]
noncomputable def fPX4_station (u : XS) : Option (Int32 × XS) := run (tPX4_station) hX4_station flX4 0 caG eX4_station (some .int) kIX (FU + 1) 0 (loIn 2 [.ref 0]) [] (picX u)
noncomputable def fX4_station (u : XS) : Option (Int32 × XS) := fPX4_station u
set_option maxRecDepth 100000 in
set_option maxHeartbeats 8000000 in
theorem fPX4_station_eq (u : XS) : fPX4_station u = ((fX4_startAhead u).bind fun q0 => ((fX3_tellTo ((xText q0), (xTape q0), (xAhd q0))).bind fun q1 => (br (q1.1 < 0) (some (q1.1, (xText' (xTape' (xAhd' q0 (tsS q1.2)) (tLen' (tsP q1.2) 0)) (tsX q1.2)))) ((fX1_become ((xRoom q0), (tsS q1.2))).bind fun q2 => (some (q1.1, (xText' (xTape' (xAhd' (xRoom' q0 (ssA q2)) (ssB q2)) (tLen' (tsP q1.2) 0)) (tsX q1.2)))))))) := rfl
theorem fX4_station_eq (u : XS) : fX4_station u = ((fX4_startAhead u).bind fun q0 => ((fX3_tellTo ((xText q0), (xTape q0), (xAhd q0))).bind fun q1 => (if q1.1 < 0 then (some (q1.1, (xText' (xTape' (xAhd' q0 (tsS q1.2)) (tLen' (tsP q1.2) 0)) (tsX q1.2)))) else ((fX1_become ((xRoom q0), (tsS q1.2))).bind fun q2 => (some (q1.1, (xText' (xTape' (xAhd' (xRoom' q0 (ssA q2)) (ssB q2)) (tLen' (tsP q1.2) 0)) (tsX q1.2)))))))) := (fPX4_station_eq u).trans (by simp only [br_eq, if_true, if_false, tn0, tn1, tn2, tn3, tn4, tn5, tn6, tn8] <;> rfl)
abbrev rX4_station : Room := { frames := 9, cells := 0, slots := 0, locals := 234 }
set_option maxRecDepth 20000 in
theorem eX4_station_ok : ∀ ix kd n F, eX4_station.lookup ix = some (kd, n, F) → CallOK rX4_station yX4_station.cls cX4_station ix kd n F := look_all (look_cons (callOK_same (ci := 4) ⟨⟨rfl, rfl, by decide, by decide⟩, u_184, u_185, u_125, ⟨by decide, by decide⟩, Or.inl ⟨rfl, u_186, u_187, ⟨_, rfl, rfl⟩, 0, rfl, by decide +kernel⟩⟩ coreX4_startAhead) (look_cons (callOK_X_TS31_11 (ci := 3) ⟨⟨rfl, rfl, by decide, by decide⟩, u_207, u_208, u_79, ⟨by decide, by decide⟩, Or.inl ⟨rfl, u_209, u_210, ⟨_, rfl, rfl⟩, 1, rfl, by decide +kernel⟩⟩ coreX3_tellTo) (look_cons (callOK_X_SS1_11 (ci := 1) ⟨⟨rfl, rfl, by decide, by decide⟩, u_180, u_181, u_10, ⟨by decide, by decide⟩, Or.inl ⟨rfl, u_182, u_183, ⟨_, rfl, rfl⟩, 1, rfl, by decide +kernel⟩⟩ coreX1_become) look_nil)))
noncomputable def gX4_station : Callee := mkG (α := Unit) (σ := XS) (τ := Int32 × XS) unX uaR0 (fun q => some (.int q.1)) (fun _ q => picX q.2) (fun (a : Unit) (u : XS) => fX4_station u)
theorem coreX4_station : CoreOK yX4_station rX4_station cX4_station 2 (some .int) 0 4 gX4_station :=
  core_of (kd := 0) (α := Unit) (σ := XS) (τ := Int32 × XS) unX picX unX_ok uaR0 arR0 uaR0_ok (fun q => some (.int q.1)) (fun _ q => picX q.2) (fun (a : Unit) (u : XS) => fX4_station u)
    (fun a u q h => doc_of_run (by decide) ⟨rfl, rfl⟩ flX4_ok cnX4_ok (fun h => absurd rfl h) eX4_station_ok okX4_station (Nat.le_of_ble_eq_true rfl) (fun v ws' e => kIX_ok e) rfl h) (fun _ a u => ⟨0, _, _, rfl, rfl⟩)
-- X4_isSheet
def tPX4_isSheet : List (Nat × Ent) := [(0, (.iload_n 0, 1, .null, 0, [])), (1, (.ifCond .lt 12, 3, .null, 13, [])), (4, (.iload_n 0, 1, .null, 0, [])), (5, (.iconst 4, 1, .int (4), 0, [])), (6, (.if_icmp .ge 7, 3, .null, 13, [])), (9, (.iconst 1, 1, .int (1), 0, [])), (10, (.goto 4, 3, .null, 14, [])), (13, (.iconst 0, 1, .int (0), 0, [])), (14, (.ireturn, 1, .null, 0, []))]
def tX4_isSheet : List (Nat × Ent) := tPX4_isSheet
theorem okX4_isSheet : tblOK cnX4 cX4_isSheet tX4_isSheet = true := by decide +kernel
def hX4_isSheet : List (Nat × List Bool) := []
noncomputable def eX4_isSheet : Cal := []
noncomputable def fPX4_isSheet (a0 : Int32) : Option (Int32) := run (tPX4_isSheet) hX4_isSheet flX4 0 caG eX4_isSheet (some .boolean) kIN (FU + 1) 0 (loIn 1 [.int (a0)]) [] []
noncomputable def fX4_isSheet (a0 : Int32) : Option (Int32) := fPX4_isSheet a0
set_option maxRecDepth 100000 in
set_option maxHeartbeats 8000000 in
theorem fPX4_isSheet_eq (a0 : Int32) : fPX4_isSheet a0 = (br (a0 < 0) (br ((0 : Int32) = 0 ∨ (0 : Int32) = 1) (some 0) none) (br ((4 : Int32) ≤ a0) (br ((0 : Int32) = 0 ∨ (0 : Int32) = 1) (some 0) none) (br ((1 : Int32) = 0 ∨ (1 : Int32) = 1) (some 1) none))) := rfl
theorem fX4_isSheet_eq (a0 : Int32) : fX4_isSheet a0 = (if a0 < 0 then (some 0) else (if (4 : Int32) ≤ a0 then (some 0) else (some 1))) := (fPX4_isSheet_eq a0).trans (by simp only [br_eq, if_true, if_false, tn0, tn1, tn2, tn3, tn4, tn5, tn6, tn8, bl0, bl1] <;> rfl)
abbrev rX4_isSheet : Room := { frames := 0, cells := 0, slots := 0, locals := 0 }
set_option maxRecDepth 20000 in
theorem eX4_isSheet_ok : ∀ ix kd n F, eX4_isSheet.lookup ix = some (kd, n, F) → CallOK rX4_isSheet yX4_isSheet.cls cX4_isSheet ix kd n F := look_all look_nil
noncomputable def gX4_isSheet : Callee := mkG (α := Int32) (σ := Unit) (τ := Int32) unN uaI (fun q => some (.int q)) (fun _ _ => []) (fun (a : Int32) (u : Unit) => fX4_isSheet a)
theorem coreX4_isSheet : CoreOK yX4_isSheet rX4_isSheet cX4_isSheet 1 (some .boolean) 1 4 gX4_isSheet :=
  core_of (kd := 1) (α := Int32) (σ := Unit) (τ := Int32) unN picN unN_ok uaI arI uaI_ok (fun q => some (.int q)) (fun _ _ => []) (fun (a : Int32) (u : Unit) => fX4_isSheet a)
    (fun a u q h => doc_of_run (by decide) ⟨rfl, rfl⟩ flX4_ok cnX4_ok (fun h => absurd rfl h) eX4_isSheet_ok okX4_isSheet (Nat.le_of_ble_eq_true rfl) (fun v ws' e => kIN_ok e) rfl h) (fun e => by cases e)
