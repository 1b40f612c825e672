-- X4_isBookedAhead
def tPX4_isBookedAhead_35 : List (Nat × Ent) := [(0, (.iconst 0, 1, .int (0), 0, [])), (1, (.istore_n 3, 1, .null, 0, [])), (2, (.iload_n 3, 1, .null, 0, [])), (3, (.aload_n 1, 1, .null, 0, [])), (4, (.getfield 212, 3, .null, 0, [])), (7, (.if_icmp .ge 38, 3, .null, 45, [])), (10, (.aload_n 1, 1, .null, 0, [])), (11, (.getfield 217, 3, .null, 0, [])), (14, (.iload_n 3, 1, .null, 0, [])), (15, (.laload, 1, .null, 0, [])), (16, (.aload_n 0, 1, .null, 0, [])), (17, (.getfield 16, 3, .null, 0, [])), (20, (.getfield 105, 3, .null, 0, [])), (23, (.iload_n 2, 1, .null, 0, [])), (24, (.iaload, 1, .null, 0, [])), (25, (.i2l, 1, .null, 0, [])), (26, (.lcmp, 1, .null, 0, [])), (27, (.ifCond .eq 5, 3, .null, 32, [])), (30, (.iconst 0, 1, .int (0), 0, [])), (31, (.ireturn, 1, .null, 0, [])), (32, (.aload_n 0, 1, .null, 0, [])), (33, (.getfield 16, 3, .null, 0, [])), (36, (.invokevirtual 242, 3, .null, 0, [])), (39, (.iinc 3 1, 3, .int (1), 0, [])), (42, (.goto (-40), 3, .null, 2, [])), (45, (.iconst 1, 1, .int (1), 0, [])), (46, (.ireturn, 1, .null, 0, []))]
def tX4_isBookedAhead_35 : List (Nat × Ent) := tPX4_isBookedAhead_35
theorem okX4_isBookedAhead_35 : tblOK cnX4 cX4_isBookedAhead tX4_isBookedAhead_35 = true := by decide +kernel
def hX4_isBookedAhead_35 : List (Nat × List Bool) := [(2, [true, true, true, true])]
noncomputable def eX4_isBookedAhead_35 : Cal := [(242, 0, 1, (rX_St11 gX1_goDay))]
noncomputable def fPX4_isBookedAhead_35 (a0 : Int32) (u : XS) : Option (Int32 × XS) := run (tPX4_isBookedAhead_35) hX4_isBookedAhead_35 flX4 0 caG eX4_isBookedAhead_35 (some .boolean) kIX (FU + 1) 0 (loIn 4 [.ref 0, .ref 35, .int (a0)]) [] (picX u)
noncomputable def lPX4_isBookedAhead_35_2_1_35 (n : Nat) (x2 : Int32) (x3 : Int32) (u : XS) : Option (Int32 × XS) := run (tPX4_isBookedAhead_35) hX4_isBookedAhead_35 flX4 0 caG eX4_isBookedAhead_35 (some .boolean) kIX n 2 [some (.ref 0), some (.ref 35), some (.int (x2)), some (.int (x3))] [] (picX u)
noncomputable def fX4_isBookedAhead_35 (a0 : Int32) (u : XS) : Option (Int32 × XS) := fPX4_isBookedAhead_35 a0 u
noncomputable def lX4_isBookedAhead_35_2_1_35 (n : Nat) (x2 : Int32) (x3 : Int32) (u : XS) : Option (Int32 × XS) := lPX4_isBookedAhead_35_2_1_35 n x2 x3 u
set_option maxRecDepth 100000 in
set_option maxHeartbeats 8000000 in
theorem lPX4_isBookedAhead_35_2_1_35_eq (n : Nat) (x2 : Int32) (x3 : Int32) (u : XS) : lPX4_isBookedAhead_35_2_1_35 (n + 1) x2 x3 u = (br ((hLen (xS0 u)) ≤ x3) (br ((1 : Int32) = 0 ∨ (1 : Int32) = 1) (some (1, u)) none) (br (x3 < 0 ∨ 40 ≤ (x3).toNatClampNeg) none (br (x2 < 0 ∨ 8 ≤ (x2).toNatClampNeg) none (br ((lg_cmp ((hNum (xS0 u)) (x3).toNatClampNeg) (Int32.toInt64 ((sDue (xAhd u)) (x2).toNatClampNeg))) = 0) ((fX1_goDay (xAhd u)).bind fun q0 => (lPX4_isBookedAhead_35_2_1_35 n x2 ((x3 + 1)) (xAhd' u q0))) (br ((0 : Int32) = 0 ∨ (0 : Int32) = 1) (some (0, u)) none))))) := rfl
theorem lX4_isBookedAhead_35_2_1_35_eq (n : Nat) (x2 : Int32) (x3 : Int32) (u : XS) : lX4_isBookedAhead_35_2_1_35 (n + 1) x2 x3 u = (if (hLen (xS0 u)) ≤ x3 then (some (1, u)) else (if x3 < 0 ∨ 40 ≤ (x3).toNatClampNeg then none else (if x2 < 0 ∨ 8 ≤ (x2).toNatClampNeg then none else (if (lg_cmp ((hNum (xS0 u)) (x3).toNatClampNeg) (Int32.toInt64 ((sDue (xAhd u)) (x2).toNatClampNeg))) = 0 then ((fX1_goDay (xAhd u)).bind fun q0 => (lX4_isBookedAhead_35_2_1_35 n x2 ((x3 + 1)) (xAhd' u q0))) else (some (0, u)))))) := (lPX4_isBookedAhead_35_2_1_35_eq n x2 x3 u).trans (by simp only [br_eq, if_true, if_false, tn0, tn1, tn2, tn3, tn4, tn5, tn6, tn8, bl0, bl1] <;> rfl)
set_option maxRecDepth 100000 in
set_option maxHeartbeats 8000000 in
theorem fPX4_isBookedAhead_35_eq (a0 : Int32) (u : XS) : fPX4_isBookedAhead_35 a0 u = (lPX4_isBookedAhead_35_2_1_35 FU a0 0 u) := rfl
theorem fX4_isBookedAhead_35_eq (a0 : Int32) (u : XS) : fX4_isBookedAhead_35 a0 u = (lX4_isBookedAhead_35_2_1_35 FU a0 0 u) := (fPX4_isBookedAhead_35_eq a0 u)
abbrev rX4_isBookedAhead_35 : Room := { frames := 5, cells := 0, slots := 0, locals := 112 }
set_option maxRecDepth 20000 in
theorem eX4_isBookedAhead_35_ok : ∀ ix kd n F, eX4_isBookedAhead_35.lookup ix = some (kd, n, F) → CallOK rX4_isBookedAhead_35 yX4_isBookedAhead.cls cX4_isBookedAhead ix kd n F := look_all (look_cons (callOK_X_St11 (ci := 1) ⟨⟨rfl, rfl, by decide, by decide⟩, u_56, u_232, u_10, ⟨by decide, by decide⟩, Or.inl ⟨rfl, u_58, u_59, ⟨_, rfl, rfl⟩, 0, rfl, by decide +kernel⟩⟩ coreX1_goDay) look_nil)
noncomputable def gX4_isBookedAhead_35 : Callee := mkG (α := Int32) (σ := XS) (τ := Int32 × XS) unX uaR0R35I (fun q => some (.int q.1)) (fun _ q => picX q.2) (fun (a : Int32) (u : XS) => fX4_isBookedAhead_35 a u)
theorem coreX4_isBookedAhead_35 : CoreOK yX4_isBookedAhead rX4_isBookedAhead_35 cX4_isBookedAhead 4 (some .boolean) 0 4 gX4_isBookedAhead_35 :=
  core_of (kd := 0) (α := Int32) (σ := XS) (τ := Int32 × XS) unX picX unX_ok uaR0R35I arR0R35I uaR0R35I_ok (fun q => some (.int q.1)) (fun _ q => picX q.2) (fun (a : Int32) (u : XS) => fX4_isBookedAhead_35 a u)
    (fun a u q h => doc_of_run (by decide) ⟨rfl, rfl⟩ flX4_ok cnX4_ok (fun h => absurd rfl h) eX4_isBookedAhead_35_ok okX4_isBookedAhead_35 (Nat.le_of_ble_eq_true rfl) (fun v ws' e => kIX_ok e) rfl h) (fun _ a u => ⟨0, _, _, rfl, rfl⟩)
def tPX4_isBookedAhead_37 : List (Nat × Ent) := [(0, (.iconst 0, 1, .int (0), 0, [])), (1, (.istore_n 3, 1, .null, 0, [])), (2, (.iload_n 3, 1, .null, 0, [])), (3, (.aload_n 1, 1, .null, 0, [])), (4, (.getfield 212, 3, .null, 0, [])), (7, (.if_icmp .ge 38, 3, .null, 45, [])), (10, (.aload_n 1, 1, .null, 0, [])), (11, (.getfield 217, 3, .null, 0, [])), (14, (.iload_n 3, 1, .null, 0, [])), (15, (.laload, 1, .null, 0, [])), (16, (.aload_n 0, 1, .null, 0, [])), (17, (.getfield 16, 3, .null, 0, [])), (20, (.getfield 105, 3, .null, 0, [])), (23, (.iload_n 2, 1, .null, 0, [])), (24, (.iaload, 1, .null, 0, [])), (25, (.i2l, 1, .null, 0, [])), (26, (.lcmp, 1, .null, 0, [])), (27, (.ifCond .eq 5, 3, .null, 32, [])), (30, (.iconst 0, 1, .int (0), 0, [])), (31, (.ireturn, 1, .null, 0, [])), (32, (.aload_n 0, 1, .null, 0, [])), (33, (.getfield 16, 3, .null, 0, [])), (36, (.invokevirtual 242, 3, .null, 0, [])), (39, (.iinc 3 1, 3, .int (1), 0, [])), (42, (.goto (-40), 3, .null, 2, [])), (45, (.iconst 1, 1, .int (1), 0, [])), (46, (.ireturn, 1, .null, 0, []))]
def tX4_isBookedAhead_37 : List (Nat × Ent) := tPX4_isBookedAhead_37
theorem okX4_isBookedAhead_37 : tblOK cnX4 cX4_isBookedAhead tX4_isBookedAhead_37 = true := by decide +kernel
def hX4_isBookedAhead_37 : List (Nat × List Bool) := [(2, [true, true, true, true])]
noncomputable def eX4_isBookedAhead_37 : Cal := [(242, 0, 1, (rX_St11 gX1_goDay))]
noncomputable def fPX4_isBookedAhead_37 (a0 : Int32) (u : XS) : Option (Int32 × XS) := run (tPX4_isBookedAhead_37) hX4_isBookedAhead_37 flX4 0 caG eX4_isBookedAhead_37 (some .boolean) kIX (FU + 1) 0 (loIn 4 [.ref 0, .ref 37, .int (a0)]) [] (picX u)
noncomputable def lPX4_isBookedAhead_37_2_1_37 (n : Nat) (x2 : Int32) (x3 : Int32) (u : XS) : Option (Int32 × XS) := run (tPX4_isBookedAhead_37) hX4_isBookedAhead_37 flX4 0 caG eX4_isBookedAhead_37 (some .boolean) kIX n 2 [some (.ref 0), some (.ref 37), some (.int (x2)), some (.int (x3))] [] (picX u)
noncomputable def fX4_isBookedAhead_37 (a0 : Int32) (u : XS) : Option (Int32 × XS) := fPX4_isBookedAhead_37 a0 u
noncomputable def lX4_isBookedAhead_37_2_1_37 (n : Nat) (x2 : Int32) (x3 : Int32) (u : XS) : Option (Int32 × XS) := lPX4_isBookedAhead_37_2_1_37 n x2 x3 u
set_option maxRecDepth 100000 in
set_option maxHeartbeats 8000000 in
theorem lPX4_isBookedAhead_37_2_1_37_eq (n : Nat) (x2 : Int32) (x3 : Int32) (u : XS) : lPX4_isBookedAhead_37_2_1_37 (n + 1) x2 x3 u = (br ((hLen (xS1 u)) ≤ x3) (br ((1 : Int32) = 0 ∨ (1 : Int32) = 1) (some (1, u)) none) (br (x3 < 0 ∨ 40 ≤ (x3).toNatClampNeg) none (br (x2 < 0 ∨ 8 ≤ (x2).toNatClampNeg) none (br ((lg_cmp ((hNum (xS1 u)) (x3).toNatClampNeg) (Int32.toInt64 ((sDue (xAhd u)) (x2).toNatClampNeg))) = 0) ((fX1_goDay (xAhd u)).bind fun q0 => (lPX4_isBookedAhead_37_2_1_37 n x2 ((x3 + 1)) (xAhd' u q0))) (br ((0 : Int32) = 0 ∨ (0 : Int32) = 1) (some (0, u)) none))))) := rfl
theorem lX4_isBookedAhead_37_2_1_37_eq (n : Nat) (x2 : Int32) (x3 : Int32) (u : XS) : lX4_isBookedAhead_37_2_1_37 (n + 1) x2 x3 u = (if (hLen (xS1 u)) ≤ x3 then (some (1, u)) else (if x3 < 0 ∨ 40 ≤ (x3).toNatClampNeg then none else (if x2 < 0 ∨ 8 ≤ (x2).toNatClampNeg then none else (if (lg_cmp ((hNum (xS1 u)) (x3).toNatClampNeg) (Int32.toInt64 ((sDue (xAhd u)) (x2).toNatClampNeg))) = 0 then ((fX1_goDay (xAhd u)).bind fun q0 => (lX4_isBookedAhead_37_2_1_37 n x2 ((x3 + 1)) (xAhd' u q0))) else (some (0, u)))))) := (lPX4_isBookedAhead_37_2_1_37_eq n x2 x3 u).trans (by simp only [br_eq, if_true, if_false, tn0, tn1, tn2, tn3, tn4, tn5, tn6, tn8, bl0, bl1] <;> rfl)
set_option maxRecDepth 100000 in
set_option maxHeartbeats 8000000 in
theorem fPX4_isBookedAhead_37_eq (a0 : Int32) (u : XS) : fPX4_isBookedAhead_37 a0 u = (lPX4_isBookedAhead_37_2_1_37 FU a0 0 u) := rfl
theorem fX4_isBookedAhead_37_eq (a0 : Int32) (u : XS) : fX4_isBookedAhead_37 a0 u = (lX4_isBookedAhead_37_2_1_37 FU a0 0 u) := (fPX4_isBookedAhead_37_eq a0 u)
abbrev rX4_isBookedAhead_37 : Room := { frames := 5, cells := 0, slots := 0, locals := 112 }
set_option maxRecDepth 20000 in
theorem eX4_isBookedAhead_37_ok : ∀ ix kd n F, eX4_isBookedAhead_37.lookup ix = some (kd, n, F) → CallOK rX4_isBookedAhead_37 yX4_isBookedAhead.cls cX4_isBookedAhead ix kd n F := look_all (look_cons (callOK_X_St11 (ci := 1) ⟨⟨rfl, rfl, by decide, by decide⟩, u_56, u_232, u_10, ⟨by decide, by decide⟩, Or.inl ⟨rfl, u_58, u_59, ⟨_, rfl, rfl⟩, 0, rfl, by decide +kernel⟩⟩ coreX1_goDay) look_nil)
noncomputable def gX4_isBookedAhead_37 : Callee := mkG (α := Int32) (σ := XS) (τ := Int32 × XS) unX uaR0R37I (fun q => some (.int q.1)) (fun _ q => picX q.2) (fun (a : Int32) (u : XS) => fX4_isBookedAhead_37 a u)
theorem coreX4_isBookedAhead_37 : CoreOK yX4_isBookedAhead rX4_isBookedAhead_37 cX4_isBookedAhead 4 (some .boolean) 0 4 gX4_isBookedAhead_37 :=
  core_of (kd := 0) (α := Int32) (σ := XS) (τ := Int32 × XS) unX picX unX_ok uaR0R37I arR0R37I uaR0R37I_ok (fun q => some (.int q.1)) (fun _ q => picX q.2) (fun (a : Int32) (u : XS) => fX4_isBookedAhead_37 a u)
    (fun a u q h => doc_of_run (by decide) ⟨rfl, rfl⟩ flX4_ok cnX4_ok (fun h => absurd rfl h) eX4_isBookedAhead_37_ok okX4_isBookedAhead_37 (Nat.le_of_ble_eq_true rfl) (fun v ws' e => kIX_ok e) rfl h) (fun _ a u => ⟨0, _, _, rfl, rfl⟩)
def tPX4_isBookedAhead_39 : List (Nat × Ent) := [(0, (.iconst 0, 1, .int (0), 0, [])), (1, (.istore_n 3, 1, .null, 0, [])), (2, (.iload_n 3, 1, .null, 0, [])), (3, (.aload_n 1, 1, .null, 0, [])), (4, (.getfield 212, 3, .null, 0, [])), (7, (.if_icmp .ge 38, 3, .null, 45, [])), (10, (.aload_n 1, 1, .null, 0, [])), (11, (.getfield 217, 3, .null, 0, [])), (14, (.iload_n 3, 1, .null, 0, [])), (15, (.laload, 1, .null, 0, [])), (16, (.aload_n 0, 1, .null, 0, [])), (17, (.getfield 16, 3, .null, 0, [])), (20, (.getfield 105, 3, .null, 0, [])), (23, (.iload_n 2, 1, .null, 0, [])), (24, (.iaload, 1, .null, 0, [])), (25, (.i2l, 1, .null, 0, [])), (26, (.lcmp, 1, .null, 0, [])), (27, (.ifCond .eq 5, 3, .null, 32, [])), (30, (.iconst 0, 1, .int (0), 0, [])), (31, (.ireturn, 1, .null, 0, [])), (32, (.aload_n 0, 1, .null, 0, [])), (33, (.getfield 16, 3, .null, 0, [])), (36, (.invokevirtual 242, 3, .null, 0, [])), (39, (.iinc 3 1, 3, .int (1), 0, [])), (42, (.goto (-40), 3, .null, 2, [])), (45, (.iconst 1, 1, .int (1), 0, [])), (46, (.ireturn, 1, .null, 0, []))]
def tX4_isBookedAhead_39 : List (Nat × Ent) := tPX4_isBookedAhead_39
theorem okX4_isBookedAhead_39 : tblOK cnX4 cX4_isBookedAhead tX4_isBookedAhead_39 = true := by decide +kernel
def hX4_isBookedAhead_39 : List (Nat × List Bool) := [(2, [true, true, true, true])]
noncomputable def eX4_isBookedAhead_39 : Cal := [(242, 0, 1, (rX_St11 gX1_goDay))]
noncomputable def fPX4_isBookedAhead_39 (a0 : Int32) (u : XS) : Option (Int32 × XS) := run (tPX4_isBookedAhead_39) hX4_isBookedAhead_39 flX4 0 caG eX4_isBookedAhead_39 (some .boolean) kIX (FU + 1) 0 (loIn 4 [.ref 0, .ref 39, .int (a0)]) [] (picX u)
noncomputable def lPX4_isBookedAhead_39_2_1_39 (n : Nat) (x2 : Int32) (x3 : Int32) (u : XS) : Option (Int32 × XS) := run (tPX4_isBookedAhead_39) hX4_isBookedAhead_39 flX4 0 caG eX4_isBookedAhead_39 (some .boolean) kIX n 2 [some (.ref 0), some (.ref 39), some (.int (x2)), some (.int (x3))] [] (picX u)
noncomputable def fX4_isBookedAhead_39 (a0 : Int32) (u : XS) : Option (Int32 × XS) := fPX4_isBookedAhead_39 a0 u
noncomputable def lX4_isBookedAhead_39_2_1_39 (n : Nat) (x2 : Int32) (x3 : Int32) (u : XS) : Option (Int32 × XS) := lPX4_isBookedAhead_39_2_1_39 n x2 x3 u
set_option maxRecDepth 100000 in
set_option maxHeartbeats 8000000 in
theorem lPX4_isBookedAhead_39_2_1_39_eq (n : Nat) (x2 : Int32) (x3 : Int32) (u : XS) : lPX4_isBookedAhead_39_2_1_39 (n + 1) x2 x3 u = (br ((hLen (xS2 u)) ≤ x3) (br ((1 : Int32) = 0 ∨ (1 : Int32) = 1) (some (1, u)) none) (br (x3 < 0 ∨ 40 ≤ (x3).toNatClampNeg) none (br (x2 < 0 ∨ 8 ≤ (x2).toNatClampNeg) none (br ((lg_cmp ((hNum (xS2 u)) (x3).toNatClampNeg) (Int32.toInt64 ((sDue (xAhd u)) (x2).toNatClampNeg))) = 0) ((fX1_goDay (xAhd u)).bind fun q0 => (lPX4_isBookedAhead_39_2_1_39 n x2 ((x3 + 1)) (xAhd' u q0))) (br ((0 : Int32) = 0 ∨ (0 : Int32) = 1) (some (0, u)) none))))) := rfl
theorem lX4_isBookedAhead_39_2_1_39_eq (n : Nat) (x2 : Int32) (x3 : Int32) (u : XS) : lX4_isBookedAhead_39_2_1_39 (n + 1) x2 x3 u = (if (hLen (xS2 u)) ≤ x3 then (some (1, u)) else (if x3 < 0 ∨ 40 ≤ (x3).toNatClampNeg then none else (if x2 < 0 ∨ 8 ≤ (x2).toNatClampNeg then none else (if (lg_cmp ((hNum (xS2 u)) (x3).toNatClampNeg) (Int32.toInt64 ((sDue (xAhd u)) (x2).toNatClampNeg))) = 0 then ((fX1_goDay (xAhd u)).bind fun q0 => (lX4_isBookedAhead_39_2_1_39 n x2 ((x3 + 1)) (xAhd' u q0))) else (some (0, u)))))) := (lPX4_isBookedAhead_39_2_1_39_eq n x2 x3 u).trans (by simp only [br_eq, if_true, if_false, tn0, tn1, tn2, tn3, tn4, tn5, tn6, tn8, bl0, bl1] <;> rfl)
set_option maxRecDepth 100000 in
set_option maxHeartbeats 8000000 in
theorem fPX4_isBookedAhead_39_eq (a0 : Int32) (u : XS) : fPX4_isBookedAhead_39 a0 u = (lPX4_isBookedAhead_39_2_1_39 FU a0 0 u) := rfl
theorem fX4_isBookedAhead_39_eq (a0 : Int32) (u : XS) : fX4_isBookedAhead_39 a0 u = (lX4_isBookedAhead_39_2_1_39 FU a0 0 u) := (fPX4_isBookedAhead_39_eq a0 u)
abbrev rX4_isBookedAhead_39 : Room := { frames := 5, cells := 0, slots := 0, locals := 112 }
set_option maxRecDepth 20000 in
theorem eX4_isBookedAhead_39_ok : ∀ ix kd n F, eX4_isBookedAhead_39.lookup ix = some (kd, n, F) → CallOK rX4_isBookedAhead_39 yX4_isBookedAhead.cls cX4_isBookedAhead ix kd n F := look_all (look_cons (callOK_X_St11 (ci := 1) ⟨⟨rfl, rfl, by decide, by decide⟩, u_56, u_232, u_10, ⟨by decide, by decide⟩, Or.inl ⟨rfl, u_58, u_59, ⟨_, rfl, rfl⟩, 0, rfl, by decide +kernel⟩⟩ coreX1_goDay) look_nil)
noncomputable def gX4_isBookedAhead_39 : Callee := mkG (α := Int32) (σ := XS) (τ := Int32 × XS) unX uaR0R39I (fun q => some (.int q.1)) (fun _ q => picX q.2) (fun (a : Int32) (u : XS) => fX4_isBookedAhead_39 a u)
theorem coreX4_isBookedAhead_39 : CoreOK yX4_isBookedAhead rX4_isBookedAhead_39 cX4_isBookedAhead 4 (some .boolean) 0 4 gX4_isBookedAhead_39 :=
  core_of (kd := 0) (α := Int32) (σ := XS) (τ := Int32 × XS) unX picX unX_ok uaR0R39I arR0R39I uaR0R39I_ok (fun q => some (.int q.1)) (fun _ q => picX q.2) (fun (a : Int32) (u : XS) => fX4_isBookedAhead_39 a u)
    (fun a u q h => doc_of_run (by decide) ⟨rfl, rfl⟩ flX4_ok cnX4_ok (fun h => absurd rfl h) eX4_isBookedAhead_39_ok okX4_isBookedAhead_39 (Nat.le_of_ble_eq_true rfl) (fun v ws' e => kIX_ok e) rfl h) (fun _ a u => ⟨0, _, _, rfl, rfl⟩)
def tPX4_isBookedAhead_41 : List (Nat × Ent) := [(0, (.iconst 0, 1, .int (0), 0, [])), (1, (.istore_n 3, 1, .null, 0, [])), (2, (.iload_n 3, 1, .null, 0, [])), (3, (.aload_n 1, 1, .null, 0, [])), (4, (.getfield 212, 3, .null, 0, [])), (7, (.if_icmp .ge 38, 3, .null, 45, [])), (10, (.aload_n 1, 1, .null, 0, [])), (11, (.getfield 217, 3, .null, 0, [])), (14, (.iload_n 3, 1, .null, 0, [])), (15, (.laload, 1, .null, 0, [])), (16, (.aload_n 0, 1, .null, 0, [])), (17, (.getfield 16, 3, .null, 0, [])), (20, (.getfield 105, 3, .null, 0, [])), (23, (.iload_n 2, 1, .null, 0, [])), (24, (.iaload, 1, .null, 0, [])), (25, (.i2l, 1, .null, 0, [])), (26, (.lcmp, 1, .null, 0, [])), (27, (.ifCond .eq 5, 3, .null, 32, [])), (30, (.iconst 0, 1, .int (0), 0, [])), (31, (.ireturn, 1, .null, 0, [])), (32, (.aload_n 0, 1, .null, 0, [])), (33, (.getfield 16, 3, .null, 0, [])), (36, (.invokevirtual 242, 3, .null, 0, [])), (39, (.iinc 3 1, 3, .int (1), 0, [])), (42, (.goto (-40), 3, .null, 2, [])), (45, (.iconst 1, 1, .int (1), 0, [])), (46, (.ireturn, 1, .null, 0, []))]
def tX4_isBookedAhead_41 : List (Nat × Ent) := tPX4_isBookedAhead_41
theorem okX4_isBookedAhead_41 : tblOK cnX4 cX4_isBookedAhead tX4_isBookedAhead_41 = true := by decide +kernel
def hX4_isBookedAhead_41 : List (Nat × List Bool) := [(2, [true, true, true, true])]
noncomputable def eX4_isBookedAhead_41 : Cal := [(242, 0, 1, (rX_St11 gX1_goDay))]
noncomputable def fPX4_isBookedAhead_41 (a0 : Int32) (u : XS) : Option (Int32 × XS) := run (tPX4_isBookedAhead_41) hX4_isBookedAhead_41 flX4 0 caG eX4_isBookedAhead_41 (some .boolean) kIX (FU + 1) 0 (loIn 4 [.ref 0, .ref 41, .int (a0)]) [] (picX u)
noncomputable def lPX4_isBookedAhead_41_2_1_41 (n : Nat) (x2 : Int32) (x3 : Int32) (u : XS) : Option (Int32 × XS) := run (tPX4_isBookedAhead_41) hX4_isBookedAhead_41 flX4 0 caG eX4_isBookedAhead_41 (some .boolean) kIX n 2 [some (.ref 0), some (.ref 41), some (.int (x2)), some (.int (x3))] [] (picX u)
noncomputable def fX4_isBookedAhead_41 (a0 : Int32) (u : XS) : Option (Int32 × XS) := fPX4_isBookedAhead_41 a0 u
noncomputable def lX4_isBookedAhead_41_2_1_41 (n : Nat) (x2 : Int32) (x3 : Int32) (u : XS) : Option (Int32 × XS) := lPX4_isBookedAhead_41_2_1_41 n x2 x3 u
set_option maxRecDepth 100000 in
set_option maxHeartbeats 8000000 in
theorem lPX4_isBookedAhead_41_2_1_41_eq (n : Nat) (x2 : Int32) (x3 : Int32) (u : XS) : lPX4_isBookedAhead_41_2_1_41 (n + 1) x2 x3 u = (br ((hLen (xS3 u)) ≤ x3) (br ((1 : Int32) = 0 ∨ (1 : Int32) = 1) (some (1, u)) none) (br (x3 < 0 ∨ 40 ≤ (x3).toNatClampNeg) none (br (x2 < 0 ∨ 8 ≤ (x2).toNatClampNeg) none (br ((lg_cmp ((hNum (xS3 u)) (x3).toNatClampNeg) (Int32.toInt64 ((sDue (xAhd u)) (x2).toNatClampNeg))) = 0) ((fX1_goDay (xAhd u)).bind fun q0 => (lPX4_isBookedAhead_41_2_1_41 n x2 ((x3 + 1)) (xAhd' u q0))) (br ((0 : Int32) = 0 ∨ (0 : Int32) = 1) (some (0, u)) none))))) := rfl
theorem lX4_isBookedAhead_41_2_1_41_eq (n : Nat) (x2 : Int32) (x3 : Int32) (u : XS) : lX4_isBookedAhead_41_2_1_41 (n + 1) x2 x3 u = (if (hLen (xS3 u)) ≤ x3 then (some (1, u)) else (if x3 < 0 ∨ 40 ≤ (x3).toNatClampNeg then none else (if x2 < 0 ∨ 8 ≤ (x2).toNatClampNeg then none else (if (lg_cmp ((hNum (xS3 u)) (x3).toNatClampNeg) (Int32.toInt64 ((sDue (xAhd u)) (x2).toNatClampNeg))) = 0 then ((fX1_goDay (xAhd u)).bind fun q0 => (lX4_isBookedAhead_41_2_1_41 n x2 ((x3 + 1)) (xAhd' u q0))) else (some (0, u)))))) := (lPX4_isBookedAhead_41_2_1_41_eq n x2 x3 u).trans (by simp only [br_eq, if_true, if_false, tn0, tn1, tn2, tn3, tn4, tn5, tn6, tn8, bl0, bl1] <;> rfl)
set_option maxRecDepth 100000 in
set_option maxHeartbeats 8000000 in
theorem fPX4_isBookedAhead_41_eq (a0 : Int32) (u : XS) : fPX4_isBookedAhead_41 a0 u = (lPX4_isBookedAhead_41_2_1_41 FU a0 0 u) := rfl
theorem fX4_isBookedAhead_41_eq (a0 : Int32) (u : XS) : fX4_isBookedAhead_41 a0 u = (lX4_isBookedAhead_41_2_1_41 FU a0 0 u) := (fPX4_isBookedAhead_41_eq a0 u)
abbrev rX4_isBookedAhead_41 : Room := { frames := 5, cells := 0, slots := 0, locals := 112 }
set_option maxRecDepth 20000 in
theorem eX4_isBookedAhead_41_ok : ∀ ix kd n F, eX4_isBookedAhead_41.lookup ix = some (kd, n, F) → CallOK rX4_isBookedAhead_41 yX4_isBookedAhead.cls cX4_isBookedAhead ix kd n F := look_all (look_cons (callOK_X_St11 (ci := 1) ⟨⟨rfl, rfl, by decide, by decide⟩, u_56, u_232, u_10, ⟨by decide, by decide⟩, Or.inl ⟨rfl, u_58, u_59, ⟨_, rfl, rfl⟩, 0, rfl, by decide +kernel⟩⟩ coreX1_goDay) look_nil)
noncomputable def gX4_isBookedAhead_41 : Callee := mkG (α := Int32) (σ := XS) (τ := Int32 × XS) unX uaR0R41I (fun q => some (.int q.1)) (fun _ q => picX q.2) (fun (a : Int32) (u : XS) => fX4_isBookedAhead_41 a u)
theorem coreX4_isBookedAhead_41 : CoreOK yX4_isBookedAhead rX4_isBookedAhead_41 cX4_isBookedAhead 4 (some .boolean) 0 4 gX4_isBookedAhead_41 :=
  core_of (kd := 0) (α := Int32) (σ := XS) (τ := Int32 × XS) unX picX unX_ok uaR0R41I arR0R41I uaR0R41I_ok (fun q => some (.int q.1)) (fun _ q => picX q.2) (fun (a : Int32) (u : XS) => fX4_isBookedAhead_41 a u)
    (fun a u q h => doc_of_run (by decide) ⟨rfl, rfl⟩ flX4_ok cnX4_ok (fun h => absurd rfl h) eX4_isBookedAhead_41_ok okX4_isBookedAhead_41 (Nat.le_of_ble_eq_true rfl) (fun v ws' e => kIX_ok e) rfl h) (fun _ a u => ⟨0, _, _, rfl, rfl⟩)
noncomputable def gX4_isBookedAhead : Callee := fun ρ as wc κ => match as with
  | .ref 0 :: .ref 35 :: _ => gX4_isBookedAhead_35 ρ as wc κ
  | .ref 0 :: .ref 37 :: _ => gX4_isBookedAhead_37 ρ as wc κ
  | .ref 0 :: .ref 39 :: _ => gX4_isBookedAhead_39 ρ as wc κ
  | .ref 0 :: .ref 41 :: _ => gX4_isBookedAhead_41 ρ as wc κ
  | _ => none
theorem coreX4_isBookedAhead : CoreOK yX4_isBookedAhead rX4_isBookedAhead_35 cX4_isBookedAhead 4 (some .boolean) 0 4 gX4_isBookedAhead := by
  intro ρ as wc κ res h
  unfold gX4_isBookedAhead at h
  split at h
  · exact coreX4_isBookedAhead_35 ρ _ wc κ res h
  · exact coreX4_isBookedAhead_37 ρ _ wc κ res h
  · exact coreX4_isBookedAhead_39 ρ _ wc κ res h
  · exact coreX4_isBookedAhead_41 ρ _ wc κ res h
  · cases h
