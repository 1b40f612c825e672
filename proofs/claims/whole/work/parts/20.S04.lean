-- X1_setOf
def tX1_setOf_5 : List (Nat × Ent) := [(0, (.iconst 0, 1, .int (0), 0, [])), (1, (.istore_n 3, 1, .null, 0, [])), (2, (.iconst 0, 1, .int (0), 0, [])), (3, (.istore 4, 2, .null, 0, [])), (5, (.iload 4, 2, .null, 0, [])), (7, (.aload_n 0, 1, .null, 0, [])), (8, (.getfield 28, 3, .null, 0, [])), (11, (.if_icmp .ge 24, 3, .null, 35, [])), (14, (.aload_n 1, 1, .null, 0, [])), (15, (.iload 4, 2, .null, 0, [])), (17, (.iaload, 1, .null, 0, [])), (18, (.iload_n 2, 1, .null, 0, [])), (19, (.if_icmp .ne 10, 3, .null, 29, [])), (22, (.iload_n 3, 1, .null, 0, [])), (23, (.iconst 1, 1, .int (1), 0, [])), (24, (.iload 4, 2, .null, 0, [])), (26, (.ishl, 1, .null, 0, [])), (27, (.ior, 1, .null, 0, [])), (28, (.istore_n 3, 1, .null, 0, [])), (29, (.iinc 4 1, 3, .int (1), 0, [])), (32, (.goto (-27), 3, .null, 5, [])), (35, (.iload_n 3, 1, .null, 0, [])), (36, (.ireturn, 1, .null, 0, []))]
theorem okX1_setOf_5 : tblOK cnX1 cX1_setOf tX1_setOf_5 = true := by decide +kernel
def hX1_setOf_5 : List (Nat × List Bool) := [(5, [true, true, true, true, true])]
noncomputable def eX1_setOf_5 : Cal := []
noncomputable def fX1_setOf_5 (a0 : Int32) (u : St) : Option (Int32 × St) := run tX1_setOf_5 hX1_setOf_5 flX1 0 caG eX1_setOf_5 (some .int) kISt (FU + 1) 0 (loIn 5 [.ref 0, .ref 5, .int (a0)]) [] (picSt u)
noncomputable def lX1_setOf_5_5_1_5 (n : Nat) (x2 : Int32) (x3 : Int32) (x4 : Int32) (u : St) : Option (Int32 × St) := run tX1_setOf_5 hX1_setOf_5 flX1 0 caG eX1_setOf_5 (some .int) kISt n 5 [some (.ref 0), some (.ref 5), some (.int (x2)), some (.int (x3)), some (.int (x4))] [] (picSt u)
set_option maxRecDepth 100000 in
theorem lX1_setOf_5_5_1_5_eq (n : Nat) (x2 : Int32) (x3 : Int32) (x4 : Int32) (u : St) : lX1_setOf_5_5_1_5 (n + 1) x2 x3 x4 u = (if (sNum u) ≤ x4 then (some (x3, u)) else (if x4 < 0 ∨ 8 ≤ (x4).toNatClampNeg then none else (if ((sLbl u) (x4).toNatClampNeg) = x2 then (lX1_setOf_5_5_1_5 n x2 ((x3 ||| ((1 : Int32) <<< (x4 &&& 31)))) ((x4 + 1)) u) else (lX1_setOf_5_5_1_5 n x2 x3 ((x4 + 1)) u)))) := rfl
set_option maxRecDepth 100000 in
theorem fX1_setOf_5_eq (a0 : Int32) (u : St) : fX1_setOf_5 a0 u = (lX1_setOf_5_5_1_5 FU a0 0 0 u) := rfl
abbrev rX1_setOf_5 : Room := { frames := 0, cells := 0, slots := 0, locals := 0 }
set_option maxRecDepth 20000 in
theorem eX1_setOf_5_ok : ∀ ix kd n F, eX1_setOf_5.lookup ix = some (kd, n, F) → CallOK rX1_setOf_5 yX1_setOf.cls cX1_setOf ix kd n F := look_all look_nil
noncomputable def gX1_setOf_5 : Callee := mkG (α := Int32) (σ := St) (τ := Int32 × St) unSt uaR0R5I (fun q => some (.int q.1)) (fun _ q => picSt q.2) (fun (a : Int32) (u : St) => fX1_setOf_5 a u)
theorem coreX1_setOf_5 : CoreOK yX1_setOf rX1_setOf_5 cX1_setOf 5 (some .int) 0 1 gX1_setOf_5 :=
  core_of (kd := 0) (α := Int32) (σ := St) (τ := Int32 × St) unSt picSt unSt_ok uaR0R5I arR0R5I uaR0R5I_ok (fun q => some (.int q.1)) (fun _ q => picSt q.2) (fun (a : Int32) (u : St) => fX1_setOf_5 a u)
    (fun a u q h => doc_of_run (by decide) ⟨rfl, rfl⟩ flX1_ok cnX1_ok (fun h => absurd rfl h) eX1_setOf_5_ok okX1_setOf_5 (Nat.le_of_ble_eq_true rfl) (fun v ws' e => kISt_ok e) rfl h) (fun _ a u => ⟨0, _, _, rfl, rfl⟩)
def tX1_setOf_9 : List (Nat × Ent) := [(0, (.iconst 0, 1, .int (0), 0, [])), (1, (.istore_n 3, 1, .null, 0, [])), (2, (.iconst 0, 1, .int (0), 0, [])), (3, (.istore 4, 2, .null, 0, [])), (5, (.iload 4, 2, .null, 0, [])), (7, (.aload_n 0, 1, .null, 0, [])), (8, (.getfield 28, 3, .null, 0, [])), (11, (.if_icmp .ge 24, 3, .null, 35, [])), (14, (.aload_n 1, 1, .null, 0, [])), (15, (.iload 4, 2, .null, 0, [])), (17, (.iaload, 1, .null, 0, [])), (18, (.iload_n 2, 1, .null, 0, [])), (19, (.if_icmp .ne 10, 3, .null, 29, [])), (22, (.iload_n 3, 1, .null, 0, [])), (23, (.iconst 1, 1, .int (1), 0, [])), (24, (.iload 4, 2, .null, 0, [])), (26, (.ishl, 1, .null, 0, [])), (27, (.ior, 1, .null, 0, [])), (28, (.istore_n 3, 1, .null, 0, [])), (29, (.iinc 4 1, 3, .int (1), 0, [])), (32, (.goto (-27), 3, .null, 5, [])), (35, (.iload_n 3, 1, .null, 0, [])), (36, (.ireturn, 1, .null, 0, []))]
theorem okX1_setOf_9 : tblOK cnX1 cX1_setOf tX1_setOf_9 = true := by decide +kernel
def hX1_setOf_9 : List (Nat × List Bool) := [(5, [true, true, true, true, true])]
noncomputable def eX1_setOf_9 : Cal := []
noncomputable def fX1_setOf_9 (a0 : Int32) (u : St) : Option (Int32 × St) := run tX1_setOf_9 hX1_setOf_9 flX1 0 caG eX1_setOf_9 (some .int) kISt (FU + 1) 0 (loIn 5 [.ref 0, .ref 9, .int (a0)]) [] (picSt u)
noncomputable def lX1_setOf_9_5_1_9 (n : Nat) (x2 : Int32) (x3 : Int32) (x4 : Int32) (u : St) : Option (Int32 × St) := run tX1_setOf_9 hX1_setOf_9 flX1 0 caG eX1_setOf_9 (some .int) kISt n 5 [some (.ref 0), some (.ref 9), some (.int (x2)), some (.int (x3)), some (.int (x4))] [] (picSt u)
set_option maxRecDepth 100000 in
theorem lX1_setOf_9_5_1_9_eq (n : Nat) (x2 : Int32) (x3 : Int32) (x4 : Int32) (u : St) : lX1_setOf_9_5_1_9 (n + 1) x2 x3 x4 u = (if (sNum u) ≤ x4 then (some (x3, u)) else (if x4 < 0 ∨ 8 ≤ (x4).toNatClampNeg then none else (if ((sWit u) (x4).toNatClampNeg) = x2 then (lX1_setOf_9_5_1_9 n x2 ((x3 ||| ((1 : Int32) <<< (x4 &&& 31)))) ((x4 + 1)) u) else (lX1_setOf_9_5_1_9 n x2 x3 ((x4 + 1)) u)))) := rfl
set_option maxRecDepth 100000 in
theorem fX1_setOf_9_eq (a0 : Int32) (u : St) : fX1_setOf_9 a0 u = (lX1_setOf_9_5_1_9 FU a0 0 0 u) := rfl
abbrev rX1_setOf_9 : Room := { frames := 0, cells := 0, slots := 0, locals := 0 }
set_option maxRecDepth 20000 in
theorem eX1_setOf_9_ok : ∀ ix kd n F, eX1_setOf_9.lookup ix = some (kd, n, F) → CallOK rX1_setOf_9 yX1_setOf.cls cX1_setOf ix kd n F := look_all look_nil
noncomputable def gX1_setOf_9 : Callee := mkG (α := Int32) (σ := St) (τ := Int32 × St) unSt uaR0R9I (fun q => some (.int q.1)) (fun _ q => picSt q.2) (fun (a : Int32) (u : St) => fX1_setOf_9 a u)
theorem coreX1_setOf_9 : CoreOK yX1_setOf rX1_setOf_9 cX1_setOf 5 (some .int) 0 1 gX1_setOf_9 :=
  core_of (kd := 0) (α := Int32) (σ := St) (τ := Int32 × St) unSt picSt unSt_ok uaR0R9I arR0R9I uaR0R9I_ok (fun q => some (.int q.1)) (fun _ q => picSt q.2) (fun (a : Int32) (u : St) => fX1_setOf_9 a u)
    (fun a u q h => doc_of_run (by decide) ⟨rfl, rfl⟩ flX1_ok cnX1_ok (fun h => absurd rfl h) eX1_setOf_9_ok okX1_setOf_9 (Nat.le_of_ble_eq_true rfl) (fun v ws' e => kISt_ok e) rfl h) (fun _ a u => ⟨0, _, _, rfl, rfl⟩)
noncomputable def gX1_setOf : Callee := fun ρ as wc κ => match as with
  | .ref 0 :: .ref 5 :: _ => gX1_setOf_5 ρ as wc κ
  | .ref 0 :: .ref 9 :: _ => gX1_setOf_9 ρ as wc κ
  | _ => none
theorem coreX1_setOf : CoreOK yX1_setOf rX1_setOf_5 cX1_setOf 5 (some .int) 0 1 gX1_setOf := by
  intro ρ as wc κ res h
  unfold gX1_setOf at h
  split at h
  · exact coreX1_setOf_5 ρ _ wc κ res h
  · exact coreX1_setOf_9 ρ _ wc κ res h
  · cases h
-- J6_bitCount_0f7a4
def tJ6_bitCount_0f7a4 : List (Nat × Ent) := [(0, (.iload_n 0, 1, .null, 0, [])), (1, (.iload_n 0, 1, .null, 0, [])), (2, (.iconst 1, 1, .int (1), 0, [])), (3, (.iushr, 1, .null, 0, [])), (4, (.ldc_w 265, 3, .int (1431655765), 0, [])), (7, (.iand, 1, .null, 0, [])), (8, (.isub, 1, .null, 0, [])), (9, (.istore_n 0, 1, .null, 0, [])), (10, (.iload_n 0, 1, .null, 0, [])), (11, (.ldc_w 266, 3, .int (858993459), 0, [])), (14, (.iand, 1, .null, 0, [])), (15, (.iload_n 0, 1, .null, 0, [])), (16, (.iconst 2, 1, .int (2), 0, [])), (17, (.iushr, 1, .null, 0, [])), (18, (.ldc_w 266, 3, .int (858993459), 0, [])), (21, (.iand, 1, .null, 0, [])), (22, (.iadd, 1, .null, 0, [])), (23, (.istore_n 0, 1, .null, 0, [])), (24, (.iload_n 0, 1, .null, 0, [])), (25, (.iload_n 0, 1, .null, 0, [])), (26, (.iconst 4, 1, .int (4), 0, [])), (27, (.iushr, 1, .null, 0, [])), (28, (.iadd, 1, .null, 0, [])), (29, (.ldc_w 267, 3, .int (252645135), 0, [])), (32, (.iand, 1, .null, 0, [])), (33, (.istore_n 0, 1, .null, 0, [])), (34, (.iload_n 0, 1, .null, 0, [])), (35, (.iload_n 0, 1, .null, 0, [])), (36, (.bipush 8, 2, .int (8), 0, [])), (38, (.iushr, 1, .null, 0, [])), (39, (.iadd, 1, .null, 0, [])), (40, (.istore_n 0, 1, .null, 0, [])), (41, (.iload_n 0, 1, .null, 0, [])), (42, (.iload_n 0, 1, .null, 0, [])), (43, (.bipush 16, 2, .int (16), 0, [])), (45, (.iushr, 1, .null, 0, [])), (46, (.iadd, 1, .null, 0, [])), (47, (.istore_n 0, 1, .null, 0, [])), (48, (.iload_n 0, 1, .null, 0, [])), (49, (.bipush 63, 2, .int (63), 0, [])), (51, (.iand, 1, .null, 0, [])), (52, (.ireturn, 1, .null, 0, []))]
theorem okJ6_bitCount_0f7a4 : tblOK cnJ6 cJ6_bitCount_0f7a4 tJ6_bitCount_0f7a4 = true := by decide +kernel
def hJ6_bitCount_0f7a4 : List (Nat × List Bool) := []
noncomputable def eJ6_bitCount_0f7a4 : Cal := []
noncomputable def fJ6_bitCount_0f7a4 (a0 : Int32) : Option (Int32) := run tJ6_bitCount_0f7a4 hJ6_bitCount_0f7a4 flJ6 0 caG eJ6_bitCount_0f7a4 (some .int) kIN (FU + 1) 0 (loIn 1 [.int (a0)]) [] []
set_option maxRecDepth 100000 in
theorem fJ6_bitCount_0f7a4_eq (a0 : Int32) : fJ6_bitCount_0f7a4 a0 = (some (((((((((a0 - ((Int32.toUInt32 a0 >>> (Int32.toUInt32 1 &&& Int32.toUInt32 31)).toInt32 &&& 1431655765)) &&& 858993459) + ((Int32.toUInt32 (a0 - ((Int32.toUInt32 a0 >>> (Int32.toUInt32 1 &&& Int32.toUInt32 31)).toInt32 &&& 1431655765)) >>> (Int32.toUInt32 2 &&& Int32.toUInt32 31)).toInt32 &&& 858993459)) + (Int32.toUInt32 (((a0 - ((Int32.toUInt32 a0 >>> (Int32.toUInt32 1 &&& Int32.toUInt32 31)).toInt32 &&& 1431655765)) &&& 858993459) + ((Int32.toUInt32 (a0 - ((Int32.toUInt32 a0 >>> (Int32.toUInt32 1 &&& Int32.toUInt32 31)).toInt32 &&& 1431655765)) >>> (Int32.toUInt32 2 &&& Int32.toUInt32 31)).toInt32 &&& 858993459)) >>> (Int32.toUInt32 4 &&& Int32.toUInt32 31)).toInt32) &&& 252645135) + (Int32.toUInt32 (((((a0 - ((Int32.toUInt32 a0 >>> (Int32.toUInt32 1 &&& Int32.toUInt32 31)).toInt32 &&& 1431655765)) &&& 858993459) + ((Int32.toUInt32 (a0 - ((Int32.toUInt32 a0 >>> (Int32.toUInt32 1 &&& Int32.toUInt32 31)).toInt32 &&& 1431655765)) >>> (Int32.toUInt32 2 &&& Int32.toUInt32 31)).toInt32 &&& 858993459)) + (Int32.toUInt32 (((a0 - ((Int32.toUInt32 a0 >>> (Int32.toUInt32 1 &&& Int32.toUInt32 31)).toInt32 &&& 1431655765)) &&& 858993459) + ((Int32.toUInt32 (a0 - ((Int32.toUInt32 a0 >>> (Int32.toUInt32 1 &&& Int32.toUInt32 31)).toInt32 &&& 1431655765)) >>> (Int32.toUInt32 2 &&& Int32.toUInt32 31)).toInt32 &&& 858993459)) >>> (Int32.toUInt32 4 &&& Int32.toUInt32 31)).toInt32) &&& 252645135) >>> (Int32.toUInt32 8 &&& Int32.toUInt32 31)).toInt32) + (Int32.toUInt32 ((((((a0 - ((Int32.toUInt32 a0 >>> (Int32.toUInt32 1 &&& Int32.toUInt32 31)).toInt32 &&& 1431655765)) &&& 858993459) + ((Int32.toUInt32 (a0 - ((Int32.toUInt32 a0 >>> (Int32.toUInt32 1 &&& Int32.toUInt32 31)).toInt32 &&& 1431655765)) >>> (Int32.toUInt32 2 &&& Int32.toUInt32 31)).toInt32 &&& 858993459)) + (Int32.toUInt32 (((a0 - ((Int32.toUInt32 a0 >>> (Int32.toUInt32 1 &&& Int32.toUInt32 31)).toInt32 &&& 1431655765)) &&& 858993459) + ((Int32.toUInt32 (a0 - ((Int32.toUInt32 a0 >>> (Int32.toUInt32 1 &&& Int32.toUInt32 31)).toInt32 &&& 1431655765)) >>> (Int32.toUInt32 2 &&& Int32.toUInt32 31)).toInt32 &&& 858993459)) >>> (Int32.toUInt32 4 &&& Int32.toUInt32 31)).toInt32) &&& 252645135) + (Int32.toUInt32 (((((a0 - ((Int32.toUInt32 a0 >>> (Int32.toUInt32 1 &&& Int32.toUInt32 31)).toInt32 &&& 1431655765)) &&& 858993459) + ((Int32.toUInt32 (a0 - ((Int32.toUInt32 a0 >>> (Int32.toUInt32 1 &&& Int32.toUInt32 31)).toInt32 &&& 1431655765)) >>> (Int32.toUInt32 2 &&& Int32.toUInt32 31)).toInt32 &&& 858993459)) + (Int32.toUInt32 (((a0 - ((Int32.toUInt32 a0 >>> (Int32.toUInt32 1 &&& Int32.toUInt32 31)).toInt32 &&& 1431655765)) &&& 858993459) + ((Int32.toUInt32 (a0 - ((Int32.toUInt32 a0 >>> (Int32.toUInt32 1 &&& Int32.toUInt32 31)).toInt32 &&& 1431655765)) >>> (Int32.toUInt32 2 &&& Int32.toUInt32 31)).toInt32 &&& 858993459)) >>> (Int32.toUInt32 4 &&& Int32.toUInt32 31)).toInt32) &&& 252645135) >>> (Int32.toUInt32 8 &&& Int32.toUInt32 31)).toInt32) >>> (Int32.toUInt32 16 &&& Int32.toUInt32 31)).toInt32) &&& 63))) := rfl
abbrev rJ6_bitCount_0f7a4 : Room := { frames := 0, cells := 0, slots := 0, locals := 0 }
set_option maxRecDepth 20000 in
theorem eJ6_bitCount_0f7a4_ok : ∀ ix kd n F, eJ6_bitCount_0f7a4.lookup ix = some (kd, n, F) → CallOK rJ6_bitCount_0f7a4 yJ6_bitCount_0f7a4.cls cJ6_bitCount_0f7a4 ix kd n F := look_all look_nil
noncomputable def gJ6_bitCount_0f7a4 : Callee := mkG (α := Int32) (σ := Unit) (τ := Int32) unN uaI (fun q => some (.int q)) (fun _ _ => []) (fun (a : Int32) (u : Unit) => fJ6_bitCount_0f7a4 a)
theorem coreJ6_bitCount_0f7a4 : CoreOK yJ6_bitCount_0f7a4 rJ6_bitCount_0f7a4 cJ6_bitCount_0f7a4 1 (some .int) 1 0 gJ6_bitCount_0f7a4 :=
  core_of (kd := 1) (α := Int32) (σ := Unit) (τ := Int32) unN picN unN_ok uaI arI uaI_ok (fun q => some (.int q)) (fun _ _ => []) (fun (a : Int32) (u : Unit) => fJ6_bitCount_0f7a4 a)
    (fun a u q h => doc_of_run (by decide) ⟨rfl, rfl⟩ flJ6_ok cnJ6_ok (fun h => absurd rfl h) eJ6_bitCount_0f7a4_ok okJ6_bitCount_0f7a4 (Nat.le_of_ble_eq_true rfl) (fun v ws' e => kIN_ok e) rfl h) (fun e => by cases e)
-- X1_countWith
def tX1_countWith : List (Nat × Ent) := [(0, (.aload_n 0, 1, .null, 0, [])), (1, (.aload_n 0, 1, .null, 0, [])), (2, (.getfield 46, 3, .null, 0, [])), (5, (.iload_n 1, 1, .null, 0, [])), (6, (.invokevirtual 111, 3, .null, 0, [])), (9, (.invokestatic 115, 3, .null, 0, [])), (12, (.ireturn, 1, .null, 0, []))]
theorem okX1_countWith : tblOK cnX1 cX1_countWith tX1_countWith = true := by decide +kernel
def hX1_countWith : List (Nat × List Bool) := []
noncomputable def eX1_countWith : Cal := [(111, 0, 3, gX1_setOf_9), (115, 1, 1, (liftF fp0 gJ6_bitCount_0f7a4))]
noncomputable def fX1_countWith (a0 : Int32) (u : St) : Option (Int32 × St) := run tX1_countWith hX1_countWith flX1 0 caG eX1_countWith (some .int) kISt (FU + 1) 0 (loIn 2 [.ref 0, .int (a0)]) [] (picSt u)
set_option maxRecDepth 100000 in
theorem fX1_countWith_eq (a0 : Int32) (u : St) : fX1_countWith a0 u = ((fX1_setOf_9 a0 u).bind fun q0 => ((fJ6_bitCount_0f7a4 q0.1).bind fun q1 => (some (q1, q0.2)))) := rfl
abbrev rX1_countWith : Room := { frames := 1, cells := 0, slots := 0, locals := 24 }
set_option maxRecDepth 20000 in
theorem eX1_countWith_ok : ∀ ix kd n F, eX1_countWith.lookup ix = some (kd, n, F) → CallOK rX1_countWith yX1_countWith.cls cX1_countWith ix kd n F := look_all (look_cons (callOK_same (ci := 1) ⟨⟨rfl, rfl, by decide, by decide⟩, u_68, u_69, u_10, ⟨by decide, by decide⟩, Or.inl ⟨rfl, u_70, u_71, ⟨_, rfl, rfl⟩, 2, rfl, by decide +kernel⟩⟩ coreX1_setOf_9) (look_cons (callOK_lift (ci := 0) ⟨⟨rfl, rfl, by decide, by decide⟩, u_64, u_65, u_66, ⟨by decide, by decide⟩, Or.inr ⟨rfl, u_67, by decide +kernel⟩⟩ coreJ6_bitCount_0f7a4) look_nil))
noncomputable def gX1_countWith : Callee := mkG (α := Int32) (σ := St) (τ := Int32 × St) unSt uaR0I (fun q => some (.int q.1)) (fun _ q => picSt q.2) (fun (a : Int32) (u : St) => fX1_countWith a u)
theorem coreX1_countWith : CoreOK yX1_countWith rX1_countWith cX1_countWith 2 (some .int) 0 1 gX1_countWith :=
  core_of (kd := 0) (α := Int32) (σ := St) (τ := Int32 × St) unSt picSt unSt_ok uaR0I arR0I uaR0I_ok (fun q => some (.int q.1)) (fun _ q => picSt q.2) (fun (a : Int32) (u : St) => fX1_countWith a u)
    (fun a u q h => doc_of_run (by decide) ⟨rfl, rfl⟩ flX1_ok cnX1_ok (fun h => absurd rfl h) eX1_countWith_ok okX1_countWith (Nat.le_of_ble_eq_true rfl) (fun v ws' e => kISt_ok e) rfl h) (fun _ a u => ⟨0, _, _, rfl, rfl⟩)
-- X1_daysTillEmpty
def tX1_daysTillEmpty : List (Nat × Ent) := [(0, (.iconst 0, 1, .int (0), 0, [])), (1, (.istore_n 2, 1, .null, 0, [])), (2, (.iload_n 2, 1, .null, 0, [])), (3, (.iload_n 1, 1, .null, 0, [])), (4, (.if_icmp .gt 23, 3, .null, 27, [])), (7, (.aload_n 0, 1, .null, 0, [])), (8, (.iconst (-1), 1, .int (-1), 0, [])), (9, (.invokevirtual 108, 3, .null, 0, [])), (12, (.ifCond .ne 5, 3, .null, 17, [])), (15, (.iload_n 2, 1, .null, 0, [])), (16, (.ireturn, 1, .null, 0, [])), (17, (.aload_n 0, 1, .null, 0, [])), (18, (.invokevirtual 66, 3, .null, 0, [])), (21, (.iinc 2 1, 3, .int (1), 0, [])), (24, (.goto (-22), 3, .null, 2, [])), (27, (.iconst (-1), 1, .int (-1), 0, [])), (28, (.ireturn, 1, .null, 0, []))]
theorem okX1_daysTillEmpty : tblOK cnX1 cX1_daysTillEmpty tX1_daysTillEmpty = true := by decide +kernel
def hX1_daysTillEmpty : List (Nat × List Bool) := [(2, [true, true, true])]
noncomputable def eX1_daysTillEmpty : Cal := [(66, 0, 1, gX1_goDay), (108, 0, 2, gX1_countWith)]
noncomputable def fX1_daysTillEmpty (a0 : Int32) (u : St) : Option (Int32 × St) := run tX1_daysTillEmpty hX1_daysTillEmpty flX1 0 caG eX1_daysTillEmpty (some .int) kISt (FU + 1) 0 (loIn 3 [.ref 0, .int (a0)]) [] (picSt u)
noncomputable def lX1_daysTillEmpty_2 (n : Nat) (x1 : Int32) (x2 : Int32) (u : St) : Option (Int32 × St) := run tX1_daysTillEmpty hX1_daysTillEmpty flX1 0 caG eX1_daysTillEmpty (some .int) kISt n 2 [some (.ref 0), some (.int (x1)), some (.int (x2))] [] (picSt u)
set_option maxRecDepth 100000 in
theorem lX1_daysTillEmpty_2_eq (n : Nat) (x1 : Int32) (x2 : Int32) (u : St) : lX1_daysTillEmpty_2 (n + 1) x1 x2 u = (if x1 < x2 then (some ((-1 : Int32), u)) else ((fX1_countWith (-1 : Int32) u).bind fun q0 => (if q0.1 = 0 then (some (x2, q0.2)) else ((fX1_goDay q0.2).bind fun q1 => (lX1_daysTillEmpty_2 n x1 ((x2 + 1)) q1))))) := rfl
set_option maxRecDepth 100000 in
theorem fX1_daysTillEmpty_eq (a0 : Int32) (u : St) : fX1_daysTillEmpty a0 u = (lX1_daysTillEmpty_2 FU a0 0 u) := rfl
abbrev rX1_daysTillEmpty : Room := { frames := 5, cells := 0, slots := 0, locals := 112 }
set_option maxRecDepth 20000 in
theorem eX1_daysTillEmpty_ok : ∀ ix kd n F, eX1_daysTillEmpty.lookup ix = some (kd, n, F) → CallOK rX1_daysTillEmpty yX1_daysTillEmpty.cls cX1_daysTillEmpty ix kd n F := look_all (look_cons (callOK_same (ci := 1) ⟨⟨rfl, rfl, by decide, by decide⟩, u_56, u_57, u_10, ⟨by decide, by decide⟩, Or.inl ⟨rfl, u_58, u_59, ⟨_, rfl, rfl⟩, 0, rfl, by decide +kernel⟩⟩ coreX1_goDay) (look_cons (callOK_same (ci := 1) ⟨⟨rfl, rfl, by decide, by decide⟩, u_72, u_73, u_10, ⟨by decide, by decide⟩, Or.inl ⟨rfl, u_74, u_75, ⟨_, rfl, rfl⟩, 1, rfl, by decide +kernel⟩⟩ coreX1_countWith) look_nil))
noncomputable def gX1_daysTillEmpty : Callee := mkG (α := Int32) (σ := St) (τ := Int32 × St) unSt uaR0I (fun q => some (.int q.1)) (fun _ q => picSt q.2) (fun (a : Int32) (u : St) => fX1_daysTillEmpty a u)
theorem coreX1_daysTillEmpty : CoreOK yX1_daysTillEmpty rX1_daysTillEmpty cX1_daysTillEmpty 3 (some .int) 0 1 gX1_daysTillEmpty :=
  core_of (kd := 0) (α := Int32) (σ := St) (τ := Int32 × St) unSt picSt unSt_ok uaR0I arR0I uaR0I_ok (fun q => some (.int q.1)) (fun _ q => picSt q.2) (fun (a : Int32) (u : St) => fX1_daysTillEmpty a u)
    (fun a u q h => doc_of_run (by decide) ⟨rfl, rfl⟩ flX1_ok cnX1_ok (fun h => absurd rfl h) eX1_daysTillEmpty_ok okX1_daysTillEmpty (Nat.le_of_ble_eq_true rfl) (fun v ws' e => kISt_ok e) rfl h) (fun _ a u => ⟨0, _, _, rfl, rfl⟩)
