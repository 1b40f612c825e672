theorem putW_app {pl : List Nat} : ∀ (r1 : List Nat) (w1 : AW) (r2 : List Nat) (w2 ws : AW), r1.length = w1.length → putW pl (r1 ++ r2) (w1 ++ w2) ws = putW pl r2 w2 (putW pl r1 w1 ws)
  | [], [], _, _, _, _ => rfl
  | [], _ :: _, _, _, _, h => by cases h
  | _ :: _, [], _, _, _, h => by cases h
  | a :: r1, q :: w1, r2, w2, ws, h => putW_app r1 w1 r2 w2 (ws.set a (rnC pl q)) (by simpa using h)
theorem put2 {pl p1 p2 : List Nat} {w : AW} {n : Nat} {W0 W1 W2 : AW} (hp : pl = p1 ++ p2) (hn : p1.length = (w.take n).length) (h1 : putW pl p1 (w.take n) W0 = W1) (h2 : putW pl p2 (w.drop n) W1 = W2) : putW pl pl w W0 = W2 := by
  have e : putW pl pl w W0 = putW pl (p1 ++ p2) (w.take n ++ w.drop n) W0 := by rw [← hp, List.take_append_drop]
  rw [e, putW_app _ _ _ _ _ hn, h1, h2]
def plX_St1 : List Nat := [1, 2, 3, 4, 5, 6, 7, 8, 9, 10]
noncomputable def rX_St1 (G : Callee) : Callee := roleF unX picX unSt picSt (fun U => xRoom U) (fun U w => xRoom' U w) plX_St1 G
theorem callOK_X_St1 {R : Room} {own : String} {cc : ByteArray} {ix kd n ci maxL : Nat} {y : MethodName} {rm : Room} {cc' : ByteArray} {rt : Option FieldType} {G : Callee} (hw : CallWd R own ix kd n y rm cc' maxL rt ci) (hG : CoreOK y rm cc' maxL rt kd ci G) : CallOK R own cc ix kd n (rX_St1 G) := callOK_role unX_ok unSt_ok (fun _ => rfl) (fun _ _ => rfl) (by decide) (by decide) hw hG
def plX_St11 : List Nat := [11, 12, 13, 14, 15, 16, 17, 18, 19, 20]
noncomputable def rX_St11 (G : Callee) : Callee := roleF unX picX unSt picSt (fun U => xAhd U) (fun U w => xAhd' U w) plX_St11 G
theorem callOK_X_St11 {R : Room} {own : String} {cc : ByteArray} {ix kd n ci maxL : Nat} {y : MethodName} {rm : Room} {cc' : ByteArray} {rt : Option FieldType} {G : Callee} (hw : CallWd R own ix kd n y rm cc' maxL rt ci) (hG : CoreOK y rm cc' maxL rt kd ci G) : CallOK R own cc ix kd n (rX_St11 G) := callOK_role unX_ok unSt_ok (fun _ => rfl) (fun _ _ => rfl) (by decide) (by decide) hw hG
def plX_St21 : List Nat := [21, 22, 23, 24, 25, 26, 27, 28, 29, 30]
noncomputable def rX_St21 (G : Callee) : Callee := roleF unX picX unSt picSt (fun U => xKpt U) (fun U w => xKpt' U w) plX_St21 G
theorem callOK_X_St21 {R : Room} {own : String} {cc : ByteArray} {ix kd n ci maxL : Nat} {y : MethodName} {rm : Room} {cc' : ByteArray} {rt : Option FieldType} {G : Callee} (hw : CallWd R own ix kd n y rm cc' maxL rt ci) (hG : CoreOK y rm cc' maxL rt kd ci G) : CallOK R own cc ix kd n (rX_St21 G) := callOK_role unX_ok unSt_ok (fun _ => rfl) (fun _ _ => rfl) (by decide) (by decide) hw hG
def plX_SS11_1 : List Nat := [11, 12, 13, 14, 15, 16, 17, 18, 19, 20, 1, 2, 3, 4, 5, 6, 7, 8, 9, 10]
noncomputable def rX_SS11_1 (G : Callee) : Callee := roleF unX picX unSS picSS (fun U => (xAhd U, xRoom U)) (fun U w => xRoom' (xAhd' U w.1) w.2) plX_SS11_1 G
theorem callOK_X_SS11_1 {R : Room} {own : String} {cc : ByteArray} {ix kd n ci maxL : Nat} {y : MethodName} {rm : Room} {cc' : ByteArray} {rt : Option FieldType} {G : Callee} (hw : CallWd R own ix kd n y rm cc' maxL rt ci) (hG : CoreOK y rm cc' maxL rt kd ci G) : CallOK R own cc ix kd n (rX_SS11_1 G) := callOK_role unX_ok unSS_ok (fun _ => rfl) (fun U w => put2 (p1 := [11, 12, 13, 14, 15, 16, 17, 18, 19, 20]) (p2 := [1, 2, 3, 4, 5, 6, 7, 8, 9, 10]) (n := 10) (W1 := picX (xAhd' U w.1)) rfl rfl rfl rfl) (by decide) (by decide) hw hG
def plX_SS1_11 : List Nat := [1, 2, 3, 4, 5, 6, 7, 8, 9, 10, 11, 12, 13, 14, 15, 16, 17, 18, 19, 20]
noncomputable def rX_SS1_11 (G : Callee) : Callee := roleF unX picX unSS picSS (fun U => (xRoom U, xAhd U)) (fun U w => xAhd' (xRoom' U w.1) w.2) plX_SS1_11 G
theorem callOK_X_SS1_11 {R : Room} {own : String} {cc : ByteArray} {ix kd n ci maxL : Nat} {y : MethodName} {rm : Room} {cc' : ByteArray} {rt : Option FieldType} {G : Callee} (hw : CallWd R own ix kd n y rm cc' maxL rt ci) (hG : CoreOK y rm cc' maxL rt kd ci G) : CallOK R own cc ix kd n (rX_SS1_11 G) := callOK_role unX_ok unSS_ok (fun _ => rfl) (fun U w => put2 (p1 := [1, 2, 3, 4, 5, 6, 7, 8, 9, 10]) (p2 := [11, 12, 13, 14, 15, 16, 17, 18, 19, 20]) (n := 10) (W1 := picX (xRoom' U w.1)) rfl rfl rfl rfl) (by decide) (by decide) hw hG
def plX_SS21_1 : List Nat := [21, 22, 23, 24, 25, 26, 27, 28, 29, 30, 1, 2, 3, 4, 5, 6, 7, 8, 9, 10]
noncomputable def rX_SS21_1 (G : Callee) : Callee := roleF unX picX unSS picSS (fun U => (xKpt U, xRoom U)) (fun U w => xRoom' (xKpt' U w.1) w.2) plX_SS21_1 G
theorem callOK_X_SS21_1 {R : Room} {own : String} {cc : ByteArray} {ix kd n ci maxL : Nat} {y : MethodName} {rm : Room} {cc' : ByteArray} {rt : Option FieldType} {G : Callee} (hw : CallWd R own ix kd n y rm cc' maxL rt ci) (hG : CoreOK y rm cc' maxL rt kd ci G) : CallOK R own cc ix kd n (rX_SS21_1 G) := callOK_role unX_ok unSS_ok (fun _ => rfl) (fun U w => put2 (p1 := [21, 22, 23, 24, 25, 26, 27, 28, 29, 30]) (p2 := [1, 2, 3, 4, 5, 6, 7, 8, 9, 10]) (n := 10) (W1 := picX (xKpt' U w.1)) rfl rfl rfl rfl) (by decide) (by decide) hw hG
def plX_SS1_21 : List Nat := [1, 2, 3, 4, 5, 6, 7, 8, 9, 10, 21, 22, 23, 24, 25, 26, 27, 28, 29, 30]
noncomputable def rX_SS1_21 (G : Callee) : Callee := roleF unX picX unSS picSS (fun U => (xRoom U, xKpt U)) (fun U w => xKpt' (xRoom' U w.1) w.2) plX_SS1_21 G
theorem callOK_X_SS1_21 {R : Room} {own : String} {cc : ByteArray} {ix kd n ci maxL : Nat} {y : MethodName} {rm : Room} {cc' : ByteArray} {rt : Option FieldType} {G : Callee} (hw : CallWd R own ix kd n y rm cc' maxL rt ci) (hG : CoreOK y rm cc' maxL rt kd ci G) : CallOK R own cc ix kd n (rX_SS1_21 G) := callOK_role unX_ok unSS_ok (fun _ => rfl) (fun U w => put2 (p1 := [1, 2, 3, 4, 5, 6, 7, 8, 9, 10]) (p2 := [21, 22, 23, 24, 25, 26, 27, 28, 29, 30]) (n := 10) (W1 := picX (xRoom' U w.1)) rfl rfl rfl rfl) (by decide) (by decide) hw hG
def plX_Tp32 : List Nat := [32, 33]
noncomputable def rX_Tp32 (G : Callee) : Callee := roleF unX picX unTp picTp (fun U => xTape U) (fun U w => xTape' U w) plX_Tp32 G
theorem callOK_X_Tp32 {R : Room} {own : String} {cc : ByteArray} {ix kd n ci maxL : Nat} {y : MethodName} {rm : Room} {cc' : ByteArray} {rt : Option FieldType} {G : Callee} (hw : CallWd R own ix kd n y rm cc' maxL rt ci) (hG : CoreOK y rm cc' maxL rt kd ci G) : CallOK R own cc ix kd n (rX_Tp32 G) := callOK_role unX_ok unTp_ok (fun _ => rfl) (fun _ _ => rfl) (by decide) (by decide) hw hG
def plX_Sh35 : List Nat := [35, 36]
noncomputable def rX_Sh35 (G : Callee) : Callee := roleF unX picX unSh picSh (fun U => xS0 U) (fun U w => xS0' U w) plX_Sh35 G
theorem callOK_X_Sh35 {R : Room} {own : String} {cc : ByteArray} {ix kd n ci maxL : Nat} {y : MethodName} {rm : Room} {cc' : ByteArray} {rt : Option FieldType} {G : Callee} (hw : CallWd R own ix kd n y rm cc' maxL rt ci) (hG : CoreOK y rm cc' maxL rt kd ci G) : CallOK R own cc ix kd n (rX_Sh35 G) := callOK_role unX_ok unSh_ok (fun _ => rfl) (fun _ _ => rfl) (by decide) (by decide) hw hG
def plX_Sh37 : List Nat := [37, 38]
noncomputable def rX_Sh37 (G : Callee) : Callee := roleF unX picX unSh picSh (fun U => xS1 U) (fun U w => xS1' U w) plX_Sh37 G
theorem callOK_X_Sh37 {R : Room} {own : String} {cc : ByteArray} {ix kd n ci maxL : Nat} {y : MethodName} {rm : Room} {cc' : ByteArray} {rt : Option FieldType} {G : Callee} (hw : CallWd R own ix kd n y rm cc' maxL rt ci) (hG : CoreOK y rm cc' maxL rt kd ci G) : CallOK R own cc ix kd n (rX_Sh37 G) := callOK_role unX_ok unSh_ok (fun _ => rfl) (fun _ _ => rfl) (by decide) (by decide) hw hG
def plX_Sh39 : List Nat := [39, 40]
noncomputable def rX_Sh39 (G : Callee) : Callee := roleF unX picX unSh picSh (fun U => xS2 U) (fun U w => xS2' U w) plX_Sh39 G
theorem callOK_X_Sh39 {R : Room} {own : String} {cc : ByteArray} {ix kd n ci maxL : Nat} {y : MethodName} {rm : Room} {cc' : ByteArray} {rt : Option FieldType} {G : Callee} (hw : CallWd R own ix kd n y rm cc' maxL rt ci) (hG : CoreOK y rm cc' maxL rt kd ci G) : CallOK R own cc ix kd n (rX_Sh39 G) := callOK_role unX_ok unSh_ok (fun _ => rfl) (fun _ _ => rfl) (by decide) (by decide) hw hG
def plX_Sh41 : List Nat := [41, 42]
noncomputable def rX_Sh41 (G : Callee) : Callee := roleF unX picX unSh picSh (fun U => xS3 U) (fun U w => xS3' U w) plX_Sh41 G
theorem callOK_X_Sh41 {R : Room} {own : String} {cc : ByteArray} {ix kd n ci maxL : Nat} {y : MethodName} {rm : Room} {cc' : ByteArray} {rt : Option FieldType} {G : Callee} (hw : CallWd R own ix kd n y rm cc' maxL rt ci) (hG : CoreOK y rm cc' maxL rt kd ci G) : CallOK R own cc ix kd n (rX_Sh41 G) := callOK_role unX_ok unSh_ok (fun _ => rfl) (fun _ _ => rfl) (by decide) (by decide) hw hG
def plX_TS31_11 : List Nat := [31, 32, 33, 11, 12, 13, 14, 15, 16, 17, 18, 19, 20]
noncomputable def rX_TS31_11 (G : Callee) : Callee := roleF unX picX unTS picTS (fun U => (xText U, xTape U, xAhd U)) (fun U w => xAhd' (xTape' (xText' U w.1) w.2.1) w.2.2) plX_TS31_11 G
theorem callOK_X_TS31_11 {R : Room} {own : String} {cc : ByteArray} {ix kd n ci maxL : Nat} {y : MethodName} {rm : Room} {cc' : ByteArray} {rt : Option FieldType} {G : Callee} (hw : CallWd R own ix kd n y rm cc' maxL rt ci) (hG : CoreOK y rm cc' maxL rt kd ci G) : CallOK R own cc ix kd n (rX_TS31_11 G) := callOK_role unX_ok unTS_ok (fun _ => rfl) (fun U w => put2 (p1 := [31, 32, 33]) (p2 := [11, 12, 13, 14, 15, 16, 17, 18, 19, 20]) (n := 3) (W1 := picX (xTape' (xText' U w.1) w.2.1)) rfl rfl rfl rfl) (by decide) (by decide) hw hG
noncomputable def rX_ShD (G : Callee) : Callee := fun ρ as ws κ => match as with
  | .ref 35 :: _ => rX_Sh35 G ρ as ws κ
  | .ref 37 :: _ => rX_Sh37 G ρ as ws κ
  | .ref 39 :: _ => rX_Sh39 G ρ as ws κ
  | .ref 41 :: _ => rX_Sh41 G ρ as ws κ
  | _ => none
theorem callOK_X_ShD {R : Room} {own : String} {cc : ByteArray} {ix kd n ci maxL : Nat} {y : MethodName} {rm : Room} {cc' : ByteArray} {rt : Option FieldType} {G : Callee} (hw : CallWd R own ix kd n y rm cc' maxL rt ci) (hG : CoreOK y rm cc' maxL rt kd ci G) : CallOK R own cc ix kd n (rX_ShD G) := by
  intro p l e s m args below meth c cells slots Q D tc ad A nL ca X ρ as ws κ res h hn
  unfold rX_ShD at h
  split at h
  · exact callOK_X_Sh35 hw hG X ρ _ ws κ res h hn
  · exact callOK_X_Sh37 hw hG X ρ _ ws κ res h hn
  · exact callOK_X_Sh39 hw hG X ρ _ ws κ res h hn
  · exact callOK_X_Sh41 hw hG X ρ _ ws κ res h hn
  · cases h
