/-- the texts: lengths and characters -/
def strL (q : Nat) : Nat := (strB (q - 1000)).length
def strLn (q : Nat) : Int32 := nI (strL q)
def strCh (q k : Nat) : Int32 := (strB (q - 1000)).getD k 0
noncomputable def fLen : Callee := fun _ as ws κ => match as with
  | [.ref q] => br (1000 ≤ q ∧ q < 1013) (κ (some (.int (strLn q))) ws) none
  | _ => none
noncomputable def fChr : Callee := fun _ as ws κ => match as with
  | [.ref q, .int i] => br ((1000 ≤ q ∧ q < 1013) ∧ ¬ (i < 0 ∨ strL q ≤ i.toNatClampNeg)) (κ (some (.int (strCh q i.toNatClampNeg))) ws) none
  | _ => none
theorem sw_fieldLink_String_38 : Jvm.Cond.fieldLink "java/lang/String" (38 : Nat) "java/lang/String" "COMPACT_STRINGS" "Z" ∈ WU := wt_2 (i := 233) rfl rfl
theorem sw_fieldLink_String_15 : Jvm.Cond.fieldLink "java/lang/String" (15 : Nat) "java/lang/String" "coder" "B" ∈ WU := wt_5 (i := 148) rfl rfl
theorem sw_fieldLink_String_9 : Jvm.Cond.fieldLink "java/lang/String" (9 : Nat) "java/lang/String" "value" "[B" ∈ WU := wt_5 (i := 147) rfl rfl
theorem sw_fieldLink_String_1053 : Jvm.Cond.fieldLink "java/lang/String" (1053 : Nat) "jdk/internal/util/Preconditions" "SIOOBE_FORMATTER" "Ljava/util/function/BiFunction;" ∈ WU := wt_3 (i := 9) rfl rfl
theorem sw_methodLink_String_335 : Jvm.Cond.methodLink "java/lang/String" (335 : Nat) ({ cls := "java/lang/String", name := "coder", desc := "()B" } : Jvm.MethodName) ∈ WU := wt_2 (i := 229) rfl rfl
theorem sw_methodLink_String_492 : Jvm.Cond.methodLink "java/lang/String" (492 : Nat) ({ cls := "java/lang/String", name := "isLatin1", desc := "()Z" } : Jvm.MethodName) ∈ WU := wt_2 (i := 239) rfl rfl
theorem sw_methodLink_String_495 : Jvm.Cond.methodLink "java/lang/String" (495 : Nat) ({ cls := "java/lang/StringLatin1", name := "charAt", desc := "([BI)C" } : Jvm.MethodName) ∈ WU := wt_3 (i := 3) rfl rfl
theorem sw_methodLink_String_1059 : Jvm.Cond.methodLink "java/lang/String" (1059 : Nat) ({ cls := "jdk/internal/util/Preconditions", name := "checkIndex", desc := "(IILjava/util/function/BiFunction;)I" } : Jvm.MethodName) ∈ WU := wt_3 (i := 11) rfl rfl
theorem sw_methodLink_StringLatin1_9 : Jvm.Cond.methodLink "java/lang/StringLatin1" (9 : Nat) ({ cls := "java/lang/String", name := "checkIndex", desc := "(II)V" } : Jvm.MethodName) ∈ WU := wt_3 (i := 6) rfl rfl
theorem sw_initialized_String : Jvm.Cond.initialized "java/lang/String" ∈ WU := wt_1 (i := 10) rfl rfl
theorem sw_initialized_StringLatin1 : Jvm.Cond.initialized "java/lang/StringLatin1" ∈ WU := wt_1 (i := 11) rfl rfl
theorem sw_initialized_Preconditions : Jvm.Cond.initialized "jdk/internal/util/Preconditions" ∈ WU := wt_1 (i := 12) rfl rfl
theorem sc_code_coder : Jvm.Cond.code ({ cls := "java/lang/String", name := "coder", desc := "()B" } : Jvm.MethodName) prog_10_method_152_code (1 : Nat) (Option.some Jvm.ClassFile.FieldType.byte) ∈ WU := wt_2 (i := 232) rfl rfl
theorem sc_inst_coder : Jvm.Cond.instanceMethod ({ cls := "java/lang/String", name := "coder", desc := "()B" } : Jvm.MethodName) ∈ WU := wt_2 (i := 230) rfl rfl
theorem sc_sel_coder : Jvm.Cond.selects "java/lang/String" ({ cls := "java/lang/String", name := "coder", desc := "()B" } : Jvm.MethodName) ({ cls := "java/lang/String", name := "coder", desc := "()B" } : Jvm.MethodName) ∈ WU := wt_2 (i := 231) rfl rfl
theorem sc_code_length : Jvm.Cond.code ({ cls := "java/lang/String", name := "length", desc := "()I" } : Jvm.MethodName) prog_10_method_54_code (1 : Nat) (Option.some Jvm.ClassFile.FieldType.int) ∈ WU := wt_2 (i := 228) rfl rfl
theorem sc_inst_length : Jvm.Cond.instanceMethod ({ cls := "java/lang/String", name := "length", desc := "()I" } : Jvm.MethodName) ∈ WU := wt_2 (i := 226) rfl rfl
theorem sc_sel_length : Jvm.Cond.selects "java/lang/String" ({ cls := "java/lang/String", name := "length", desc := "()I" } : Jvm.MethodName) ({ cls := "java/lang/String", name := "length", desc := "()I" } : Jvm.MethodName) ∈ WU := wt_2 (i := 227) rfl rfl
theorem sc_code_isLatin1 : Jvm.Cond.code ({ cls := "java/lang/String", name := "isLatin1", desc := "()Z" } : Jvm.MethodName) prog_10_method_154_code (1 : Nat) (Option.some Jvm.ClassFile.FieldType.boolean) ∈ WU := wt_3 (i := 2) rfl rfl
theorem sc_inst_isLatin1 : Jvm.Cond.instanceMethod ({ cls := "java/lang/String", name := "isLatin1", desc := "()Z" } : Jvm.MethodName) ∈ WU := wt_3 (i := 0) rfl rfl
theorem sc_sel_isLatin1 : Jvm.Cond.selects "java/lang/String" ({ cls := "java/lang/String", name := "isLatin1", desc := "()Z" } : Jvm.MethodName) ({ cls := "java/lang/String", name := "isLatin1", desc := "()Z" } : Jvm.MethodName) ∈ WU := wt_3 (i := 1) rfl rfl
theorem sc_code_charAt : Jvm.Cond.code ({ cls := "java/lang/String", name := "charAt", desc := "(I)C" } : Jvm.MethodName) prog_10_method_56_code (2 : Nat) (Option.some Jvm.ClassFile.FieldType.char) ∈ WU := wt_2 (i := 238) rfl rfl
theorem sc_inst_charAt : Jvm.Cond.instanceMethod ({ cls := "java/lang/String", name := "charAt", desc := "(I)C" } : Jvm.MethodName) ∈ WU := wt_2 (i := 236) rfl rfl
theorem sc_sel_charAt : Jvm.Cond.selects "java/lang/String" ({ cls := "java/lang/String", name := "charAt", desc := "(I)C" } : Jvm.MethodName) ({ cls := "java/lang/String", name := "charAt", desc := "(I)C" } : Jvm.MethodName) ∈ WU := wt_2 (i := 237) rfl rfl
theorem sc_code_checkS : Jvm.Cond.code ({ cls := "java/lang/String", name := "checkIndex", desc := "(II)V" } : Jvm.MethodName) prog_10_method_155_code (2 : Nat) (Option.none : Option Jvm.ClassFile.FieldType) ∈ WU := wt_3 (i := 8) rfl rfl
theorem sc_stat_checkS : Jvm.Cond.static ({ cls := "java/lang/String", name := "checkIndex", desc := "(II)V" } : Jvm.MethodName) ∈ WU := wt_3 (i := 7) rfl rfl
theorem sc_code_charL : Jvm.Cond.code ({ cls := "java/lang/StringLatin1", name := "charAt", desc := "([BI)C" } : Jvm.MethodName) prog_11_method_2_code (2 : Nat) (Option.some Jvm.ClassFile.FieldType.char) ∈ WU := wt_3 (i := 5) rfl rfl
theorem sc_stat_charL : Jvm.Cond.static ({ cls := "java/lang/StringLatin1", name := "charAt", desc := "([BI)C" } : Jvm.MethodName) ∈ WU := wt_3 (i := 4) rfl rfl
theorem sc_code_checkP : Jvm.Cond.code ({ cls := "jdk/internal/util/Preconditions", name := "checkIndex", desc := "(IILjava/util/function/BiFunction;)I" } : Jvm.MethodName) prog_14_method_11_code (3 : Nat) (Option.some Jvm.ClassFile.FieldType.int) ∈ WU := wt_3 (i := 13) rfl rfl
theorem sc_stat_checkP : Jvm.Cond.static ({ cls := "jdk/internal/util/Preconditions", name := "checkIndex", desc := "(IILjava/util/function/BiFunction;)I" } : Jvm.MethodName) ∈ WU := wt_3 (i := 12) rfl rfl
theorem dJ0_length_8abf5_0 : decode cJ0_length_8abf5 0 = .ok (.aload_n 0, 1) := by decide +kernel
theorem dJ0_length_8abf5_1 : decode cJ0_length_8abf5 1 = .ok (.getfield 9, 3) := by decide +kernel
theorem dJ0_length_8abf5_4 : decode cJ0_length_8abf5 4 = .ok (.arraylength, 1) := by decide +kernel
theorem dJ0_length_8abf5_5 : decode cJ0_length_8abf5 5 = .ok (.aload_n 0, 1) := by decide +kernel
theorem dJ0_length_8abf5_6 : decode cJ0_length_8abf5 6 = .ok (.invokevirtual 335, 3) := by decide +kernel
theorem dJ0_length_8abf5_9 : decode cJ0_length_8abf5 9 = .ok (.ishr, 1) := by decide +kernel
theorem dJ0_length_8abf5_10 : decode cJ0_length_8abf5 10 = .ok (.ireturn, 1) := by decide +kernel
theorem dJ0_charAt_5068e_0 : decode cJ0_charAt_5068e 0 = .ok (.aload_n 0, 1) := by decide +kernel
theorem dJ0_charAt_5068e_1 : decode cJ0_charAt_5068e 1 = .ok (.invokevirtual 492, 3) := by decide +kernel
theorem dJ0_charAt_5068e_4 : decode cJ0_charAt_5068e 4 = .ok (.ifCond .eq 12, 3) := by decide +kernel
theorem dJ0_charAt_5068e_7 : decode cJ0_charAt_5068e 7 = .ok (.aload_n 0, 1) := by decide +kernel
theorem dJ0_charAt_5068e_8 : decode cJ0_charAt_5068e 8 = .ok (.getfield 9, 3) := by decide +kernel
theorem dJ0_charAt_5068e_11 : decode cJ0_charAt_5068e 11 = .ok (.iload_n 1, 1) := by decide +kernel
theorem dJ0_charAt_5068e_12 : decode cJ0_charAt_5068e 12 = .ok (.invokestatic 495, 3) := by decide +kernel
theorem dJ0_charAt_5068e_15 : decode cJ0_charAt_5068e 15 = .ok (.ireturn, 1) := by decide +kernel
theorem dJ0_charAt_5068e_16 : decode cJ0_charAt_5068e 16 = .ok (.aload_n 0, 1) := by decide +kernel
theorem dJ0_charAt_5068e_17 : decode cJ0_charAt_5068e 17 = .ok (.getfield 9, 3) := by decide +kernel
theorem dJ0_charAt_5068e_20 : decode cJ0_charAt_5068e 20 = .ok (.iload_n 1, 1) := by decide +kernel
theorem dJ0_charAt_5068e_21 : decode cJ0_charAt_5068e 21 = .ok (.invokestatic 498, 3) := by decide +kernel
theorem dJ0_charAt_5068e_24 : decode cJ0_charAt_5068e 24 = .ok (.ireturn, 1) := by decide +kernel
theorem dJ0_coder_7d493_0 : decode cJ0_coder_7d493 0 = .ok (.getstatic 38, 3) := by decide +kernel
theorem dJ0_coder_7d493_3 : decode cJ0_coder_7d493 3 = .ok (.ifCond .eq 10, 3) := by decide +kernel
theorem dJ0_coder_7d493_6 : decode cJ0_coder_7d493 6 = .ok (.aload_n 0, 1) := by decide +kernel
theorem dJ0_coder_7d493_7 : decode cJ0_coder_7d493 7 = .ok (.getfield 15, 3) := by decide +kernel
theorem dJ0_coder_7d493_10 : decode cJ0_coder_7d493 10 = .ok (.goto 4, 3) := by decide +kernel
theorem dJ0_coder_7d493_13 : decode cJ0_coder_7d493 13 = .ok (.iconst 1, 1) := by decide +kernel
theorem dJ0_coder_7d493_14 : decode cJ0_coder_7d493 14 = .ok (.ireturn, 1) := by decide +kernel
theorem dJ0_isLatin1_aae02_0 : decode cJ0_isLatin1_aae02 0 = .ok (.getstatic 38, 3) := by decide +kernel
theorem dJ0_isLatin1_aae02_3 : decode cJ0_isLatin1_aae02 3 = .ok (.ifCond .eq 14, 3) := by decide +kernel
theorem dJ0_isLatin1_aae02_6 : decode cJ0_isLatin1_aae02 6 = .ok (.aload_n 0, 1) := by decide +kernel
theorem dJ0_isLatin1_aae02_7 : decode cJ0_isLatin1_aae02 7 = .ok (.getfield 15, 3) := by decide +kernel
theorem dJ0_isLatin1_aae02_10 : decode cJ0_isLatin1_aae02 10 = .ok (.ifCond .ne 7, 3) := by decide +kernel
theorem dJ0_isLatin1_aae02_13 : decode cJ0_isLatin1_aae02 13 = .ok (.iconst 1, 1) := by decide +kernel
theorem dJ0_isLatin1_aae02_14 : decode cJ0_isLatin1_aae02 14 = .ok (.goto 4, 3) := by decide +kernel
theorem dJ0_isLatin1_aae02_17 : decode cJ0_isLatin1_aae02 17 = .ok (.iconst 0, 1) := by decide +kernel
theorem dJ0_isLatin1_aae02_18 : decode cJ0_isLatin1_aae02 18 = .ok (.ireturn, 1) := by decide +kernel
theorem dJ0_checkIndex_df160_0 : decode cJ0_checkIndex_df160 0 = .ok (.iload_n 0, 1) := by decide +kernel
theorem dJ0_checkIndex_df160_1 : decode cJ0_checkIndex_df160 1 = .ok (.iload_n 1, 1) := by decide +kernel
theorem dJ0_checkIndex_df160_2 : decode cJ0_checkIndex_df160 2 = .ok (.getstatic 1053, 3) := by decide +kernel
theorem dJ0_checkIndex_df160_5 : decode cJ0_checkIndex_df160 5 = .ok (.invokestatic 1059, 3) := by decide +kernel
theorem dJ0_checkIndex_df160_8 : decode cJ0_checkIndex_df160 8 = .ok (.pop, 1) := by decide +kernel
theorem dJ0_checkIndex_df160_9 : decode cJ0_checkIndex_df160 9 = .ok (.return_, 1) := by decide +kernel
theorem dJ1_charAt_3b067_0 : decode cJ1_charAt_3b067 0 = .ok (.iload_n 1, 1) := by decide +kernel
theorem dJ1_charAt_3b067_1 : decode cJ1_charAt_3b067 1 = .ok (.aload_n 0, 1) := by decide +kernel
theorem dJ1_charAt_3b067_2 : decode cJ1_charAt_3b067 2 = .ok (.arraylength, 1) := by decide +kernel
theorem dJ1_charAt_3b067_3 : decode cJ1_charAt_3b067 3 = .ok (.invokestatic 9, 3) := by decide +kernel
theorem dJ1_charAt_3b067_6 : decode cJ1_charAt_3b067 6 = .ok (.aload_n 0, 1) := by decide +kernel
theorem dJ1_charAt_3b067_7 : decode cJ1_charAt_3b067 7 = .ok (.iload_n 1, 1) := by decide +kernel
theorem dJ1_charAt_3b067_8 : decode cJ1_charAt_3b067 8 = .ok (.baload, 1) := by decide +kernel
theorem dJ1_charAt_3b067_9 : decode cJ1_charAt_3b067 9 = .ok (.sipush 255, 3) := by decide +kernel
theorem dJ1_charAt_3b067_12 : decode cJ1_charAt_3b067 12 = .ok (.iand, 1) := by decide +kernel
theorem dJ1_charAt_3b067_13 : decode cJ1_charAt_3b067 13 = .ok (.i2c, 1) := by decide +kernel
theorem dJ1_charAt_3b067_14 : decode cJ1_charAt_3b067 14 = .ok (.ireturn, 1) := by decide +kernel
theorem dJ3_checkIndex_8e157_0 : decode cJ3_checkIndex_8e157 0 = .ok (.iload_n 0, 1) := by decide +kernel
theorem dJ3_checkIndex_8e157_1 : decode cJ3_checkIndex_8e157 1 = .ok (.ifCond .lt 8, 3) := by decide +kernel
theorem dJ3_checkIndex_8e157_4 : decode cJ3_checkIndex_8e157 4 = .ok (.iload_n 0, 1) := by decide +kernel
theorem dJ3_checkIndex_8e157_5 : decode cJ3_checkIndex_8e157 5 = .ok (.iload_n 1, 1) := by decide +kernel
theorem dJ3_checkIndex_8e157_6 : decode cJ3_checkIndex_8e157 6 = .ok (.if_icmp .lt 10, 3) := by decide +kernel
theorem dJ3_checkIndex_8e157_9 : decode cJ3_checkIndex_8e157 9 = .ok (.aload_n 2, 1) := by decide +kernel
theorem dJ3_checkIndex_8e157_10 : decode cJ3_checkIndex_8e157 10 = .ok (.iload_n 0, 1) := by decide +kernel
theorem dJ3_checkIndex_8e157_11 : decode cJ3_checkIndex_8e157 11 = .ok (.iload_n 1, 1) := by decide +kernel
theorem dJ3_checkIndex_8e157_12 : decode cJ3_checkIndex_8e157 12 = .ok (.invokestatic 95, 3) := by decide +kernel
theorem dJ3_checkIndex_8e157_15 : decode cJ3_checkIndex_8e157 15 = .ok (.athrow, 1) := by decide +kernel
theorem dJ3_checkIndex_8e157_16 : decode cJ3_checkIndex_8e157 16 = .ok (.iload_n 0, 1) := by decide +kernel
theorem dJ3_checkIndex_8e157_17 : decode cJ3_checkIndex_8e157 17 = .ok (.ireturn, 1) := by decide +kernel
-- THE TEXTS: String's own methods over the 13 constants
def SPre (ad : Nat → Nat) (as : List Value) (sz : Nat) (P : State → Prop) : Array Value → State → Prop := va_Pc as (fun U => U.heap.size = sz ∧ Glob ad (fun q => sz ≤ q) U U.heap ∧ P U)
def SPost (v : Option Value) (sz : Nat) : Array Value → State → Outcome → State → Prop := fun _ st oc t => (oc = .returned v ∧ True) ∧ va_F (fun q => sz ≤ q) st t
theorem s_met {l : Launch} {y : MethodName} {rm : Room} {cc : ByteArray} {maxL : Nat} {rt : Option FieldType} {as : List Value} {v : Option Value} {ad : Nat → Nat} {sz : Nat} {P : State → Prop} (hy : plainName y.cls = true) (hl : (lg_sl as).length ≤ maxL)
    (body : ∀ (p : Program) (e : Env) (s : State) (m : MethodId) (below : List Frame) (meth : Method) (c : Code) (ls : Array Slot), p.tables.exec = Jvm.exec → c.code = cc → meth.sig.returnType = rt → c.maxLocals = maxL → s.vm.findClass y.cls = some m.cls → (∀ w ∈ WU, w.before as.toArray s = true) → meth.locks = false → Glob ad (fun q => s.heap.size ≤ q) s s.heap → P s → lv_has ls maxL (lv_args 0 as) → W p l e rm s m as.toArray below meth c s.heap [] 0 0 (MQ below (SPost v s.heap.size) as.toArray s 0 0 (fun q => s.heap.size ≤ q)) (F0 m 0 ls [])) :
    Met l y (.code y cc maxL rt :: WU) rm (SPre ad as sz P) (SPost v sz) 0 0 (fun q => sz ≤ q) := by
  refine Met.ofW (cc := cc) (maxL := maxL) (ret := rt) hy rfl ?_
  intro p e s m args below meth c s₁ B hml hv
  obtain ⟨rfl, hsz, hG, hP⟩ := hv
  subst hsz
  have hts := atoms_spec (ws := .code y cc maxL rt :: WU) B.pre
  have hown : s.vm.findClass y.cls = some m.cls := findClass_of_methodNamed B.named
  have hl2 := lv_entry as (n := maxL) hl
  rw [lg_entry_eq]
  exact body p e s m below meth c _ B.exec B.bytes B.returns hml hown (fun w hw => hts w (List.mem_cons_of_mem _ hw)) B.notSynchronized hG hP hl2
theorem spre_blind {ad : Nat → Nat} {as : List Value} {sz : Nat} {P : State → Prop} (hP : ∀ U U' : State, U'.vm = U.vm → U'.heap = U.heap → P U → P U') : FrameBlind (SPre ad as sz P) := by
  intro a U g mk q
  obtain ⟨q0, q1, qG, qP⟩ := q
  exact ⟨q0, q1, qG.same (U := U.calling g mk a) rfl, hP U (U.calling g mk a) rfl rfl qP⟩
abbrev rmS (f n : Nat) : Room := { frames := f, cells := 0, slots := 0, locals := n }
set_option maxRecDepth 100000 in
/-- coder(): 0 -/
theorem s_coder (l : Launch) (ad : Nat → Nat) (sz i : Nat) (hi : i < 13) : Met l yJ0_coder_7d493 (.code yJ0_coder_7d493 cJ0_coder_7d493 1 (some .byte) :: WU) (rmS 0 0) (SPre ad [.ref (ad (1000 + i))] sz (fun _ => True)) (SPost (some (.int 0)) sz) 0 0 (fun q => sz ≤ q) := by
  refine s_met (by decide) (Nat.le_of_ble_eq_true rfl) ?_
  intro p e s m below meth c ls hx hb hr hml hown hts hlocks hG _ hl
  have hl : lv_has ls 1 [(0, .ref (ad (1000 + i)))] := hl
  obtain ⟨adV, hv⟩ := hG.2.2.2.2.1
  refine va_gets hx hb hG.2.2.2.2.2.1 va_S.rf hown (hts _ sw_fieldLink_String_38) (fun _ h9 => h9) dJ0_coder_7d493_0 ?_
  refine lv_if_eq (tgt := 13) hx hb dJ0_coder_7d493_3 (by decide) (fun z => absurd z (by decide)) (fun _ => ?_)
  refine lv_aload_n hx hb dJ0_coder_7d493_6 rfl (lv_at hl 0 rfl) ?_
  refine vk_getf hx hb ((hv.1 i hi).2.1) va_S.rf hown (hts _ sw_fieldLink_String_15) (fun _ h9 => h9) dJ0_coder_7d493_7 ?_
  refine lv_goto (tgt := 14) hx hb dJ0_coder_7d493_10 (by decide) ?_
  exact W.zret (ty := .byte) hx hb hr (by decide) (fun t ht hW => ⟨⟨rfl, trivial⟩, va_S.rf.F ht⟩) (fun _ h => absurd h List.not_mem_nil) dJ0_coder_7d493_14 hlocks
set_option maxRecDepth 100000 in
/-- isLatin1(): true -/
theorem s_isLatin1 (l : Launch) (ad : Nat → Nat) (sz i : Nat) (hi : i < 13) : Met l yJ0_isLatin1_aae02 (.code yJ0_isLatin1_aae02 cJ0_isLatin1_aae02 1 (some .boolean) :: WU) (rmS 0 0) (SPre ad [.ref (ad (1000 + i))] sz (fun _ => True)) (SPost (some (.int 1)) sz) 0 0 (fun q => sz ≤ q) := by
  refine s_met (by decide) (Nat.le_of_ble_eq_true rfl) ?_
  intro p e s m below meth c ls hx hb hr hml hown hts hlocks hG _ hl
  have hl : lv_has ls 1 [(0, .ref (ad (1000 + i)))] := hl
  obtain ⟨adV, hv⟩ := hG.2.2.2.2.1
  refine va_gets hx hb hG.2.2.2.2.2.1 va_S.rf hown (hts _ sw_fieldLink_String_38) (fun _ h9 => h9) dJ0_isLatin1_aae02_0 ?_
  refine lv_if_eq (tgt := 17) hx hb dJ0_isLatin1_aae02_3 (by decide) (fun z => absurd z (by decide)) (fun _ => ?_)
  refine lv_aload_n hx hb dJ0_isLatin1_aae02_6 rfl (lv_at hl 0 rfl) ?_
  refine vk_getf hx hb ((hv.1 i hi).2.1) va_S.rf hown (hts _ sw_fieldLink_String_15) (fun _ h9 => h9) dJ0_isLatin1_aae02_7 ?_
  refine lv_if_ne (tgt := 17) hx hb dJ0_isLatin1_aae02_10 (by decide) (fun z => absurd rfl z) (fun _ => ?_)
  refine lv_iconst (v := 1) hx hb dJ0_isLatin1_aae02_13 (by decide) ?_
  refine lv_goto (tgt := 18) hx hb dJ0_isLatin1_aae02_14 (by decide) ?_
  exact W.zret (ty := .boolean) hx hb hr (by decide) (fun t ht hW => ⟨⟨rfl, trivial⟩, va_S.rf.F ht⟩) (fun _ h => absurd h List.not_mem_nil) dJ0_isLatin1_aae02_18 hlocks
set_option maxRecDepth 100000 in
/-- Preconditions.checkIndex(k, n, _): k -/
theorem s_checkP (l : Launch) (ad : Nat → Nat) (sz : Nat) (k n : Int32) (v : Value) (hv : v = .null ∨ ∃ a, v = .ref a) (h1 : ¬ k < 0) (h2 : k < n) : Met l yJ3_checkIndex_8e157 (.code yJ3_checkIndex_8e157 cJ3_checkIndex_8e157 3 (some .int) :: WU) (rmS 0 0) (SPre ad [.int k, .int n, v] sz (fun _ => True)) (SPost (some (.int k)) sz) 0 0 (fun q => sz ≤ q) := by
  refine s_met (by decide) (by rcases hv with rfl | ⟨a, rfl⟩ <;> exact Nat.le_of_ble_eq_true rfl) ?_
  intro p e s m below meth c ls hx hb hr hml hown hts hlocks hG _ hl
  have hl : lv_has ls 3 [(0, .int k), (1, .int n), (2, v)] := hl
  refine lv_iload_n hx hb dJ3_checkIndex_8e157_0 rfl (lv_at hl 0 rfl) ?_
  refine lv_if_lt (tgt := 9) hx hb dJ3_checkIndex_8e157_1 (by decide) (fun z => absurd z h1) (fun _ => ?_)
  refine lv_iload_n hx hb dJ3_checkIndex_8e157_4 rfl (lv_at hl 0 rfl) ?_
  refine lv_iload_n hx hb dJ3_checkIndex_8e157_5 rfl (lv_at hl 1 rfl) ?_
  refine lv_icmp_lt (tgt := 16) hx hb dJ3_checkIndex_8e157_6 (by decide) (fun _ => ?_) (fun z => absurd h2 z)
  refine lv_iload_n hx hb dJ3_checkIndex_8e157_16 rfl (lv_at hl 0 rfl) ?_
  exact W.iret hx hb hr (fun t ht hW => ⟨⟨rfl, trivial⟩, va_S.rf.F ht⟩) (fun _ h => absurd h List.not_mem_nil) dJ3_checkIndex_8e157_17 hlocks
set_option maxRecDepth 100000 in
/-- String.checkIndex(k, n): nothing -/
theorem s_checkS (l : Launch) (ad : Nat → Nat) (sz : Nat) (k n : Int32) (h1 : ¬ k < 0) (h2 : k < n) : Met l yJ0_checkIndex_df160 (.code yJ0_checkIndex_df160 cJ0_checkIndex_df160 2 none :: WU) (rmS 1 22) (SPre ad [.int k, .int n] sz (fun _ => True)) (SPost none sz) 0 0 (fun q => sz ≤ q) := by
  refine s_met (by decide) (Nat.le_of_ble_eq_true rfl) ?_
  intro p e s m below meth c ls hx hb hr hml hown hts hlocks hG _ hl
  have hl : lv_has ls 2 [(0, .int k), (1, .int n)] := hl
  obtain ⟨v, hvv, hz⟩ := hG.2.2.2.2.2.2
  refine lv_iload_n hx hb dJ0_checkIndex_df160_0 rfl (lv_at hl 0 rfl) ?_
  refine lv_iload_n hx hb dJ0_checkIndex_df160_1 rfl (lv_at hl 1 rfl) ?_
  refine va_gets hx hb hz va_S.rf hown (hts _ sw_fieldLink_String_1053) (fun _ h9 => h9) dJ0_checkIndex_df160_2 ?_
  have hrun := va_runS (g := F0 m 5 ls [v, .int n, .int k]) (As := [.int k, .int n, v]) (rest := []) (index := 1059) (cells := 0) (slots := 0) (H := s.heap) (locs := []) (below := below) (meth := meth) (e := e) (R := rmS 1 22) ⟨hx, hb, hml, hown, hts⟩ (s_checkP l ad s.heap.size k n v hvv h1 h2) (va_cwS 3 hts (good_cons sw_methodLink_String_1059 (good_cons sc_stat_checkP (good_cons sw_initialized_Preconditions (good_cons sc_code_checkP wu_good)))) rfl rfl rfl ⟨by decide, by decide, by decide +kernel⟩ ⟨by decide, by decide⟩) ⟨spre_blind (fun _ _ _ _ h => h), fun U hU hW => ⟨rfl, by rw [hU], by rw [hU]; exact hG.go hW (fun _ _ _ => rfl) (fun _ h => h) (fun _ _ => rfl), trivial⟩⟩ rfl rfl hl.1 rfl (Nat.zero_le _) dJ0_checkIndex_df160_5 ⟨by decide, by decide⟩
  refine va_callM (A := fun q => s.heap.size ≤ q) (A1 := fun q => s.heap.size ≤ q) (v0 := some (.int k)) (B := fun _ => True) hrun (fun st o t h => h) va_S.rf (fun q _ h => h) (fun q h => h) (fun t H1 locs1 e1 _ q2 q3 => ?_)
  refine lv_pop hx hb dJ0_checkIndex_df160_8 rfl ?_
  exact W.vret hx hb hr (fun t ht hW => ⟨⟨rfl, trivial⟩, q3.F ht⟩) q3.2.2 dJ0_checkIndex_df160_9 hlocks
set_option maxRecDepth 100000 in
/-- StringLatin1.charAt(bytes, k) -/
theorem s_charL (l : Launch) (ad : Nat → Nat) (sz t N : Nat) (f : Nat → Int32) (k : Int32) (hk : vp_in k N) (hN : N < 2 ^ 31) : Met l yJ1_charAt_3b067 (.code yJ1_charAt_3b067 cJ1_charAt_3b067 2 (some .char) :: WU) (rmS 2 43) (SPre ad [.ref t, .int k] sz (fun U => va_T .byte t N (fun j => .int (f j)) (fun q => U.heap.size ≤ q) U U.heap)) (SPost (some (.int (f k.toNatClampNeg &&& 255))) sz) 0 0 (fun q => sz ≤ q) := by
  refine s_met (by decide) (Nat.le_of_ble_eq_true rfl) ?_
  intro p e s m below meth c ls hx hb hr hml hown hts hlocks hG hT hl
  have hl : lv_has ls 2 [(0, .ref t), (1, .int k)] := hl
  obtain ⟨j, hj, rfl⟩ := vp_in_of hk hN
  have h1 : ¬ nI j < 0 := nI_pos (by omega)
  have h2 : nI j < nI N := nI_lt hj hN
  refine lv_iload_n hx hb dJ1_charAt_3b067_0 rfl (lv_at hl 1 rfl) ?_
  refine lv_aload_n hx hb dJ1_charAt_3b067_1 rfl (lv_at hl 0 rfl) ?_
  refine va_tlen hx hb hT va_S.rf (v := nI N) rfl dJ1_charAt_3b067_2 ?_
  have hrun := va_runS (g := F0 m 3 ls [.int (nI N), .int (nI j)]) (As := [.int (nI j), .int (nI N)]) (rest := []) (index := 9) (cells := 0) (slots := 0) (H := s.heap) (locs := []) (below := below) (meth := meth) (e := e) (R := rmS 2 43) ⟨hx, hb, hml, hown, hts⟩ (s_checkS l ad s.heap.size (nI j) (nI N) h1 h2) (va_cwS 2 hts (good_cons sw_methodLink_StringLatin1_9 (good_cons sc_stat_checkS (good_cons sw_initialized_String (good_cons sc_code_checkS wu_good)))) rfl rfl rfl ⟨by decide, by decide, by decide +kernel⟩ ⟨by decide, by decide⟩) ⟨spre_blind (fun _ _ _ _ h => h), fun U hU hW => ⟨rfl, by rw [hU], by rw [hU]; exact hG.go hW (fun _ _ _ => rfl) (fun _ h => h) (fun _ _ => rfl), trivial⟩⟩ rfl rfl hl.1 rfl (Nat.zero_le _) dJ1_charAt_3b067_3 ⟨by decide, by decide⟩
  refine va_callM (A := fun q => s.heap.size ≤ q) (A1 := fun q => s.heap.size ≤ q) (v0 := none) (B := fun _ => True) hrun (fun st o t h => h) va_S.rf (fun q _ h => h) (fun q h => h) (fun t2 H1 locs1 e1 _ q2 q3 => ?_)
  refine lv_aload_n hx hb dJ1_charAt_3b067_6 rfl (lv_at hl 0 rfl) ?_
  refine lv_iload_n hx hb dJ1_charAt_3b067_7 rfl (lv_at hl 1 rfl) ?_
  refine va_tb hx hb hT q3 hk rfl dJ1_charAt_3b067_8 ?_
  refine lv_sipush (v := 255) hx hb dJ1_charAt_3b067_9 (by decide) ?_
  refine lv_iand hx hb dJ1_charAt_3b067_12 ?_
  refine lv_i2c (v := f (nI j).toNatClampNeg &&& 255) hx hb dJ1_charAt_3b067_13 (sc_c2 _) ?_
  exact W.zret (ty := .char) hx hb hr (sc_nar _) (fun t ht hW => ⟨⟨rfl, trivial⟩, q3.F ht⟩) q3.2.2 dJ1_charAt_3b067_14 hlocks
theorem strLens_at : ∀ i, i < 13 → strLens.getD i 0 = (strB i).length ∧ strBys.getD i [] = strB i ∧ (strB i).length < 100 := by decide
set_option maxRecDepth 100000 in
/-- String.length() -/
theorem s_length (l : Launch) (ad : Nat → Nat) (sz i : Nat) (hi : i < 13) : Met l yJ0_length_8abf5 (.code yJ0_length_8abf5 cJ0_length_8abf5 1 (some .int) :: WU) (rmS 1 20) (SPre ad [.ref (ad (1000 + i))] sz (fun _ => True)) (SPost (some (.int (nI (strB i).length))) sz) 0 0 (fun q => sz ≤ q) := by
  refine s_met (by decide) (Nat.le_of_ble_eq_true rfl) ?_
  intro p e s m below meth c ls hx hb hr hml hown hts hlocks hG _ hl
  have hl : lv_has ls 1 [(0, .ref (ad (1000 + i)))] := hl
  obtain ⟨adV, hv⟩ := hG.2.2.2.2.1
  obtain ⟨n1, n2, n3⟩ := strLens_at i hi
  refine lv_aload_n hx hb dJ0_length_8abf5_0 rfl (lv_at hl 0 rfl) ?_
  refine vk_getf hx hb ((hv.1 i hi).2.2.1) va_S.rf hown (hts _ sw_fieldLink_String_9) (fun _ h9 => h9) dJ0_length_8abf5_1 ?_
  refine va_tlen hx hb ((hv.1 i hi).2.2.2) va_S.rf (v := nI (strB i).length) (by rw [n1]; rfl) dJ0_length_8abf5_4 ?_
  refine lv_aload_n hx hb dJ0_length_8abf5_5 rfl (lv_at hl 0 rfl) ?_
  have hrun := va_runV (g := F0 m 6 ls [.ref (ad (1000 + i)), .int (nI (strB i).length)]) (b := ad (1000 + i)) (As := []) (rest := [.int (nI (strB i).length)]) (C := "java/lang/String") (index := 335) (cells := 0) (slots := 0) (H := s.heap) (locs := []) (below := below) (meth := meth) (e := e) (R := rmS 1 20) ⟨hx, hb, hml, hown, hts⟩ (s_coder l ad s.heap.size i hi) (cwV 0 hts (good_cons sw_methodLink_String_335 (good_cons sc_inst_coder (good_cons sc_sel_coder (good_cons sw_initialized_String (good_cons sc_code_coder wu_good))))) rfl rfl rfl ⟨rfl, by decide, by decide, by decide +kernel⟩ ⟨by decide, by decide⟩) ⟨spre_blind (fun _ _ _ _ h => h), vk_recv (i := i) (adK := fun i => ad (1000 + i)) hv hi va_S.rf, fun U hU hW => ⟨rfl, by rw [hU], by rw [hU]; exact hG.go hW (fun _ _ _ => rfl) (fun _ h => h) (fun _ _ => rfl), trivial⟩⟩ rfl rfl hl.1 rfl (lv_room (Nat.le_of_ble_eq_true rfl)) dJ0_length_8abf5_6 ⟨by decide, by decide⟩
  refine va_callM (A := fun q => s.heap.size ≤ q) (A1 := fun q => s.heap.size ≤ q) (v0 := some (.int 0)) (B := fun _ => True) hrun (fun st o t h => h) va_S.rf (fun q _ h => h) (fun q h => h) (fun t2 H1 locs1 e1 _ q2 q3 => ?_)
  refine lv_ishr hx hb dJ0_length_8abf5_9 ?_
  rw [sc_shr0 (by omega)]
  exact W.iret hx hb hr (fun t ht hW => ⟨⟨rfl, trivial⟩, q3.F ht⟩) q3.2.2 dJ0_length_8abf5_10 hlocks
theorem strB_255 : ∀ i, i < 13 → ∀ j, j < (strB i).length → (strB i).getD j 0 &&& 255 = (strB i).getD j 0 := by decide
set_option maxRecDepth 100000 in
/-- String.charAt(k) -/
theorem s_charAt (l : Launch) (ad : Nat → Nat) (sz i : Nat) (k : Int32) (hi : i < 13) (hk : vp_in k (strB i).length) : Met l yJ0_charAt_5068e (.code yJ0_charAt_5068e cJ0_charAt_5068e 2 (some .char) :: WU) (rmS 3 66) (SPre ad [.ref (ad (1000 + i)), .int k] sz (fun _ => True)) (SPost (some (.int ((strB i).getD k.toNatClampNeg 0))) sz) 0 0 (fun q => sz ≤ q) := by
  refine s_met (by decide) (Nat.le_of_ble_eq_true rfl) ?_
  intro p e s m below meth c ls hx hb hr hml hown hts hlocks hG _ hl
  have hl : lv_has ls 2 [(0, .ref (ad (1000 + i))), (1, .int k)] := hl
  obtain ⟨adV, hv⟩ := id hG.2.2.2.2.1
  obtain ⟨n1, n2, n3⟩ := strLens_at i hi
  have hv4 := (hv.1 i hi).2.2.2
  rw [n1, n2] at hv4
  obtain ⟨j, hj, rfl⟩ := vp_in_of hk (by omega)
  have hch := strB_255 i hi j hj
  refine lv_aload_n hx hb dJ0_charAt_5068e_0 rfl (lv_at hl 0 rfl) ?_
  have hrun := va_runV (g := F0 m 1 ls [.ref (ad (1000 + i))]) (b := ad (1000 + i)) (As := []) (rest := []) (C := "java/lang/String") (index := 492) (cells := 0) (slots := 0) (H := s.heap) (locs := []) (below := below) (meth := meth) (e := e) (R := rmS 3 66) ⟨hx, hb, hml, hown, hts⟩ (s_isLatin1 l ad s.heap.size i hi) (cwV 0 hts (good_cons sw_methodLink_String_492 (good_cons sc_inst_isLatin1 (good_cons sc_sel_isLatin1 (good_cons sw_initialized_String (good_cons sc_code_isLatin1 wu_good))))) rfl rfl rfl ⟨rfl, by decide, by decide, by decide +kernel⟩ ⟨by decide, by decide⟩) ⟨spre_blind (fun _ _ _ _ h => h), vk_recv (i := i) (adK := fun i => ad (1000 + i)) hv hi va_S.rf, fun U hU hW => ⟨rfl, by rw [hU], by rw [hU]; exact hG.go hW (fun _ _ _ => rfl) (fun _ h => h) (fun _ _ => rfl), trivial⟩⟩ rfl rfl hl.1 rfl (lv_room (Nat.le_of_ble_eq_true rfl)) dJ0_charAt_5068e_1 ⟨by decide, by decide⟩
  refine va_callM (A := fun q => s.heap.size ≤ q) (A1 := fun q => s.heap.size ≤ q) (v0 := some (.int 1)) (B := fun _ => True) hrun (fun st o t h => h) va_S.rf (fun q _ h => h) (fun q h => h) (fun t2 H locs e1 _ q2 q3 => ?_)
  refine lv_if_eq (tgt := 16) hx hb dJ0_charAt_5068e_4 (by decide) (fun z => absurd z (by decide)) (fun _ => ?_)
  refine lv_aload_n hx hb dJ0_charAt_5068e_7 rfl (lv_at hl 0 rfl) ?_
  refine vk_getf hx hb ((hv.1 i hi).2.2.1) q3 hown (hts _ sw_fieldLink_String_9) (fun _ h9 => h9) dJ0_charAt_5068e_8 ?_
  refine lv_iload_n hx hb dJ0_charAt_5068e_11 rfl (lv_at hl 1 rfl) ?_
  have hrun2 := va_runS (g := F0 m 12 ls [.int (nI j), .ref (adV i)]) (As := [.ref (adV i), .int (nI j)]) (rest := []) (index := 495) (cells := 0) (slots := 0) (H := H) (locs := locs) (below := below) (meth := meth) (e := e) (R := rmS 3 66) ⟨hx, hb, hml, hown, hts⟩ (s_charL l ad H.size (adV i) (strB i).length (fun j => (strB i).getD j 0) (nI j) hk (by omega)) (va_cwS 2 hts (good_cons sw_methodLink_String_495 (good_cons sc_stat_charL (good_cons sw_initialized_StringLatin1 (good_cons sc_code_charL wu_good)))) rfl rfl rfl ⟨by decide, by decide, by decide +kernel⟩ ⟨by decide, by decide⟩) ⟨spre_blind (fun U U' h1 h2 hT => by rw [h2]; exact hT.moved (by rw [h1]; exact Vm.Alike.refl _)), fun U hU hW => ⟨rfl, by rw [hU], by rw [hU]; exact hG.go hW (fun a h1 h2 => q3.2.1 a h1 h2) (fun q hq => Nat.le_trans q3.1 hq) (fun _ _ => rfl), by show va_T .byte (adV i) (strB i).length (fun j => .int ((strB i).getD j 0)) (fun q => U.heap.size ≤ q) U U.heap; rw [hU]; exact ((hv4.kept (fun a h1 h2 => q3.2.1 a h1 h2)).moved hW.alike).narrow (fun q hq => Nat.le_trans q3.1 hq)⟩⟩ rfl rfl hl.1 rfl (lv_room (Nat.le_of_ble_eq_true rfl)) dJ0_charAt_5068e_12 ⟨by decide, by decide⟩
  refine va_callM (A := fun q => s.heap.size ≤ q) (A1 := fun q => H.size ≤ q) (v0 := some (.int ((strB i).getD (nI j).toNatClampNeg 0 &&& 255))) (B := fun _ => True) hrun2 (fun st o t h => h) q3 (fun q _ h => Nat.le_trans q3.1 h) (fun q h => Nat.le_trans q3.1 h) (fun t3 H1 locs1 e2 _ r2 r3 => ?_)
  have e9 : (strB i).getD (nI j).toNatClampNeg 0 &&& 255 = (strB i).getD (nI j).toNatClampNeg 0 := by rw [nI_clamp (by omega)]; exact hch
  have e8 : narrow .char (.int ((strB i).getD (nI j).toNatClampNeg 0 &&& 255)) = .int ((strB i).getD (nI j).toNatClampNeg 0 &&& 255) := sc_nar _
  rw [e9] at e8
  rw [e9]
  exact W.zret (ty := .char) hx hb hr e8 (fun t ht hW => ⟨⟨rfl, trivial⟩, r3.F ht⟩) r3.2.2 dJ0_charAt_5068e_15 hlocks
theorem s_kept {D : va_G} {tc : Nat → ClassId} {ad : Nat → Nat} {ws : AW} {H H1 : Heap} (hP : va_P D vwCl (cvW tc ad ws) H) (q2 : ∀ q : Nat, q < H.size → ¬ (fun q => H.size ≤ q) q → H1[q]? = H[q]?) : va_P D vwCl (cvW tc ad ws) H1 :=
  hP.kept (fun k q hk => q2 _ (hP k q hk).lt (fun z => absurd z (Nat.not_le.mpr (hP k q hk).lt)))
theorem callOK_len {R : Room} {own : String} {cc : ByteArray} {ix : Nat} (h1 : Cond.methodLink own ix yJ0_length_8abf5 ∈ WU) (hR : 2 ≤ R.frames ∧ 50 ≤ R.locals) : CallOK R own cc ix 0 1 fLen := by
  intro p l e s m args below meth c cells slots Q D tc ad A nL ca X ρ as ws κ res h hn
  unfold fLen at h
  split at h
  · rename_i q
    by_cases hq : 1000 ≤ q ∧ q < 1013
    · obtain ⟨i, rfl⟩ := Nat.le.dest hq.1
      have hi : i < 13 := Nat.lt_of_add_lt_add_left (n := 1000) hq.2
      refine ⟨_, ws, (br_so h).1 hq, fun pc rest H locs ls hdg hcat hls hP hD hS kk => ?_⟩
      obtain ⟨⟨hx, hb, hml, hown, hts⟩, hK, hG, hA, hcs, -⟩ := X
      obtain ⟨adV, hv⟩ := id hG.2.2.2.2.1
      have hrun := va_runV (g := F0 m pc ls (.ref (ad (1000 + i)) :: rest)) (b := ad (1000 + i)) (As := []) (rest := rest) (C := "java/lang/String") (index := ix) (cells := cells) (slots := slots) (H := H) (locs := locs) (below := below) (meth := meth) (e := e) (R := R) ⟨hx, hb, hml, hown, hts⟩ (s_length l ad H.size i hi) (cwV 0 hts (good_cons h1 (good_cons sc_inst_length (good_cons sc_sel_length (good_cons sw_initialized_String (good_cons sc_code_length wu_good))))) rfl rfl rfl ⟨rfl, by decide, by decide, by decide +kernel⟩ ⟨hR.1, Nat.le_trans (by decide) hR.2⟩) ⟨spre_blind (fun _ _ _ _ h => h), vk_recv (i := i) (adK := fun i => ad (1000 + i)) hv hi hS, fun U hU hW => ⟨rfl, by rw [hU], by rw [hU]; exact hG.go hW (fun a h1 h2 => hS.2.1 a h1 h2) (fun q hq => hA q (Nat.le_trans hS.1 hq)) (fun _ _ => rfl), trivial⟩⟩ rfl rfl hls rfl (by show 2 * 0 + _ ≤ 8; rw [Nat.mul_zero, Nat.zero_add]; exact hcat) hdg hcs
      refine va_callM (A1 := fun q => H.size ≤ q) (v0 := some (.int (nI (strB i).length))) (B := fun _ => True) hrun (fun st o t h => h) hS (fun q h1 h2 => absurd h2 (Nat.not_le.mpr h1)) (fun q h => hA q (Nat.le_trans hS.1 h)) (fun t H1 locs1 e1 _ q2 q3 => ?_)
      have := kk H1 locs1 (s_kept hP q2) hD q3
      rw [show strLn (1000 + i) = nI (strB i).length by unfold strLn strL; rw [Nat.add_sub_cancel_left]] at this
      exact this
    · exact absurd ((br_so h).2 hq) (fun z => by cases z)
  · cases h
theorem callOK_chr {R : Room} {own : String} {cc : ByteArray} {ix : Nat} (h1 : Cond.methodLink own ix yJ0_charAt_5068e ∈ WU) (hR : 5 ≤ R.frames ∧ 141 ≤ R.locals) : CallOK R own cc ix 0 2 fChr := by
  intro p l e s m args below meth c cells slots Q D tc ad A nL ca X ρ as ws κ res h hn
  unfold fChr at h
  split at h
  · rename_i q k
    by_cases hq : (1000 ≤ q ∧ q < 1013) ∧ ¬ (k < 0 ∨ strL q ≤ k.toNatClampNeg)
    · obtain ⟨i, rfl⟩ := Nat.le.dest hq.1.1
      have hi : i < 13 := Nat.lt_of_add_lt_add_left (n := 1000) hq.1.2
      have hk : vp_in k (strB i).length := by
        have h9 := hq.2
        unfold strL at h9
        rw [Nat.add_sub_cancel_left] at h9
        exact h9
      refine ⟨_, ws, (br_so h).1 hq, fun pc rest H locs ls hdg hcat hls hP hD hS kk => ?_⟩
      obtain ⟨⟨hx, hb, hml, hown, hts⟩, hK, hG, hA, hcs, -⟩ := X
      obtain ⟨adV, hv⟩ := id hG.2.2.2.2.1
      have hrun := va_runV (g := F0 m pc ls (.int k :: .ref (ad (1000 + i)) :: rest)) (b := ad (1000 + i)) (As := [.int k]) (rest := rest) (C := "java/lang/String") (index := ix) (cells := cells) (slots := slots) (H := H) (locs := locs) (below := below) (meth := meth) (e := e) (R := R) ⟨hx, hb, hml, hown, hts⟩ (s_charAt l ad H.size i k hi hk) (cwV 1 hts (good_cons h1 (good_cons sc_inst_charAt (good_cons sc_sel_charAt (good_cons sw_initialized_String (good_cons sc_code_charAt wu_good))))) rfl rfl rfl ⟨rfl, by decide, by decide, by decide +kernel⟩ ⟨Nat.le_trans (by decide) hR.1, Nat.le_trans (by decide) hR.2⟩) ⟨spre_blind (fun _ _ _ _ h => h), vk_recv (i := i) (adK := fun i => ad (1000 + i)) hv hi hS, fun U hU hW => ⟨rfl, by rw [hU], by rw [hU]; exact hG.go hW (fun a h1 h2 => hS.2.1 a h1 h2) (fun q hq => hA q (Nat.le_trans hS.1 hq)) (fun _ _ => rfl), trivial⟩⟩ rfl rfl hls rfl (by show 2 * 0 + _ ≤ 8; rw [Nat.mul_zero, Nat.zero_add]; exact hcat) hdg hcs
      refine va_callM (A1 := fun q => H.size ≤ q) (v0 := some (.int ((strB i).getD k.toNatClampNeg 0))) (B := fun _ => True) hrun (fun st o t h => h) hS (fun q h1 h2 => absurd h2 (Nat.not_le.mpr h1)) (fun q h => hA q (Nat.le_trans hS.1 h)) (fun t H1 locs1 e1 _ q2 q3 => ?_)
      have := kk H1 locs1 (s_kept hP q2) hD q3
      rw [show strCh (1000 + i) k.toNatClampNeg = (strB i).getD k.toNatClampNeg 0 by unfold strCh; rw [Nat.add_sub_cancel_left]] at this
      exact this
    · exact absurd ((br_so h).2 hq) (fun z => by cases z)
  · cases h
