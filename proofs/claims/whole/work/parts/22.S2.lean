-- X2_add
def tX2_add : List (Nat × Ent) := [(0, (.aload_n 0, 1, .null, 0, [])), (1, (.getfield 9, 3, .null, 0, [])), (4, (.aload_n 0, 1, .null, 0, [])), (5, (.getfield 15, 3, .null, 0, [])), (8, (.iload_n 1, 1, .null, 0, [])), (9, (.bastore, 1, .null, 0, [])), (10, (.aload_n 0, 1, .null, 0, [])), (11, (.dup, 1, .null, 0, [])), (12, (.getfield 15, 3, .null, 0, [])), (15, (.iconst 1, 1, .int (1), 0, [])), (16, (.iadd, 1, .null, 0, [])), (17, (.putfield 15, 3, .null, 0, [])), (20, (.return_, 1, .null, 0, []))]
theorem okX2_add : tblOK cnX2 cX2_add tX2_add = true := by decide +kernel
def hX2_add : List (Nat × List Bool) := []
noncomputable def eX2_add : Cal := []
noncomputable def fX2_add (a0 : Int32) (u : Tp) : Option (Tp) := run tX2_add hX2_add flX2 0 caG eX2_add none kVTp (FU + 1) 0 (loIn 2 [.ref 0, .int (a0)]) [] (picTp u)
set_option maxRecDepth 100000 in
theorem fX2_add_eq (a0 : Int32) (u : Tp) : fX2_add a0 u = (if (tLen u) < 0 ∨ 120 ≤ ((tLen u)).toNatClampNeg then none else (some ((upd (tByt u) ((tLen u)).toNatClampNeg (vp_nar .byte a0)), ((tLen u) + 1)))) := rfl
abbrev rX2_add : Room := { frames := 0, cells := 0, slots := 0, locals := 0 }
set_option maxRecDepth 20000 in
theorem eX2_add_ok : ∀ ix kd n F, eX2_add.lookup ix = some (kd, n, F) → CallOK rX2_add yX2_add.cls cX2_add ix kd n F := look_all look_nil
noncomputable def gX2_add : Callee := mkG (α := Int32) (σ := Tp) (τ := Tp) unTp uaR0I (fun _ => none) (fun _ q => picTp q) (fun (a : Int32) (u : Tp) => fX2_add a u)
theorem coreX2_add : CoreOK yX2_add rX2_add cX2_add 2 none 0 2 gX2_add :=
  core_of (kd := 0) (α := Int32) (σ := Tp) (τ := Tp) unTp picTp unTp_ok uaR0I arR0I uaR0I_ok (fun _ => none) (fun _ q => picTp q) (fun (a : Int32) (u : Tp) => fX2_add a u)
    (fun a u q h => doc_of_run (by decide) ⟨rfl, rfl⟩ flX2_ok cnX2_ok (fun h => absurd rfl h) eX2_add_ok okX2_add (Nat.le_of_ble_eq_true rfl) (fun v ws' e => kVTp_ok e) rfl h) (fun _ a u => ⟨0, _, _, rfl, rfl⟩)
