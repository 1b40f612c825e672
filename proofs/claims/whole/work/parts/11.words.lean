theorem wt_0 {i : Nat} {w : Cond} (h : (k2_sels lw_privs)[i]? = some w) (g : goodWord w = true) : w ∈ WU := wu_of (List.mem_append_left _ (List.mem_of_getElem? h)) g
theorem wt_1 {i : Nat} {w : Cond} (h : tables_1_1[i]? = some w) (g : goodWord w = true) : w ∈ WU := wu_of (List.mem_append_right _ (List.mem_append_left _ (List.mem_of_getElem? h))) g
theorem wt_2 {i : Nat} {w : Cond} (h : tables_1_2[i]? = some w) (g : goodWord w = true) : w ∈ WU := wu_of (List.mem_append_right _ (List.mem_append_right _ (List.mem_append_left _ (List.mem_of_getElem? h)))) g
theorem wt_3 {i : Nat} {w : Cond} (h : tables_1_3[i]? = some w) (g : goodWord w = true) : w ∈ WU := wu_of (List.mem_append_right _ (List.mem_append_right _ (List.mem_append_right _ (List.mem_append_left _ (List.mem_of_getElem? h))))) g
theorem wt_4 {i : Nat} {w : Cond} (h : tables_1_4[i]? = some w) (g : goodWord w = true) : w ∈ WU := wu_of (List.mem_append_right _ (List.mem_append_right _ (List.mem_append_right _ (List.mem_append_right _ (List.mem_append_left _ (List.mem_of_getElem? h)))))) g
theorem wt_5 {i : Nat} {w : Cond} (h : tables_1_5[i]? = some w) (g : goodWord w = true) : w ∈ WU := wu_of (List.mem_append_right _ (List.mem_append_right _ (List.mem_append_right _ (List.mem_append_right _ (List.mem_append_right _ (List.mem_of_getElem? h)))))) g
theorem u_0 : Jvm.Cond.methodLink "LeftTillCalled$Station" (49 : Nat) ({ cls := "java/lang/System", name := "arraycopy", desc := "(Ljava/lang/Object;ILjava/lang/Object;II)V" } : Jvm.MethodName) ∈ WU := wt_2 (i := 114) rfl rfl
theorem u_1 : Jvm.Cond.native ({ cls := "java/lang/System", name := "arraycopy", desc := "(Ljava/lang/Object;ILjava/lang/Object;II)V" } : Jvm.MethodName) ∈ WU := wt_2 (i := 116) rfl rfl
theorem u_2 : Jvm.Cond.static ({ cls := "java/lang/System", name := "arraycopy", desc := "(Ljava/lang/Object;ILjava/lang/Object;II)V" } : Jvm.MethodName) ∈ WU := wt_2 (i := 115) rfl rfl
theorem u_3 : Jvm.Cond.initialized "java/lang/System" ∈ WU := wt_1 (i := 8) rfl rfl
theorem u_4 : Jvm.Cond.methodLink "LeftTillCalled$Station" (56 : Nat) ({ cls := "java/lang/Math", name := "min", desc := "(II)I" } : Jvm.MethodName) ∈ WU := wt_2 (i := 15) rfl rfl
theorem u_5 : Jvm.Cond.static ({ cls := "java/lang/Math", name := "min", desc := "(II)I" } : Jvm.MethodName) ∈ WU := wt_2 (i := 16) rfl rfl
theorem u_6 : Jvm.Cond.initialized "java/lang/Math" ∈ WU := wt_1 (i := 7) rfl rfl
theorem u_7 : Jvm.Cond.code ({ cls := "java/lang/Math", name := "min", desc := "(II)I" } : Jvm.MethodName) prog_9_method_69_code (2 : Nat) (Option.some Jvm.ClassFile.FieldType.int) ∈ WU := wt_2 (i := 17) rfl rfl
theorem u_8 : Jvm.Cond.code ({ cls := "LeftTillCalled$Station", name := "isThere", desc := "(I)Z" } : Jvm.MethodName) prog_3_method_5_code (2 : Nat) (Option.some Jvm.ClassFile.FieldType.boolean) ∈ WU := wt_2 (i := 29) rfl rfl
theorem u_9 : Jvm.Cond.methodLink "LeftTillCalled$Station" (62 : Nat) ({ cls := "LeftTillCalled$Station", name := "isThere", desc := "(I)Z" } : Jvm.MethodName) ∈ WU := wt_2 (i := 26) rfl rfl
theorem u_10 : Jvm.Cond.initialized "LeftTillCalled$Station" ∈ WU := wt_1 (i := 2) rfl rfl
theorem u_11 : Jvm.Cond.instanceMethod ({ cls := "LeftTillCalled$Station", name := "isThere", desc := "(I)Z" } : Jvm.MethodName) ∈ WU := wt_2 (i := 27) rfl rfl
theorem u_12 : Jvm.Cond.selects "LeftTillCalled$Station" ({ cls := "LeftTillCalled$Station", name := "isThere", desc := "(I)Z" } : Jvm.MethodName) ({ cls := "LeftTillCalled$Station", name := "isThere", desc := "(I)Z" } : Jvm.MethodName) ∈ WU := wt_2 (i := 28) rfl rfl
theorem u_13 : Jvm.Cond.code ({ cls := "LeftTillCalled$Station", name := "mountOf", desc := "(I)I" } : Jvm.MethodName) prog_3_method_9_code (4 : Nat) (Option.some Jvm.ClassFile.FieldType.int) ∈ WU := wt_1 (i := 221) rfl rfl
theorem u_14 : Jvm.Cond.methodLink "LeftTillCalled$Station" (82 : Nat) ({ cls := "LeftTillCalled$Station", name := "mountOf", desc := "(I)I" } : Jvm.MethodName) ∈ WU := wt_2 (i := 62) rfl rfl
theorem u_15 : Jvm.Cond.instanceMethod ({ cls := "LeftTillCalled$Station", name := "mountOf", desc := "(I)I" } : Jvm.MethodName) ∈ WU := wt_1 (i := 219) rfl rfl
theorem u_16 : Jvm.Cond.selects "LeftTillCalled$Station" ({ cls := "LeftTillCalled$Station", name := "mountOf", desc := "(I)I" } : Jvm.MethodName) ({ cls := "LeftTillCalled$Station", name := "mountOf", desc := "(I)I" } : Jvm.MethodName) ∈ WU := wt_1 (i := 220) rfl rfl
theorem u_17 : Jvm.Cond.methodLink "LeftTillCalled$Station" (86 : Nat) ({ cls := "java/lang/Math", name := "max", desc := "(II)I" } : Jvm.MethodName) ∈ WU := wt_2 (i := 67) rfl rfl
theorem u_18 : Jvm.Cond.static ({ cls := "java/lang/Math", name := "max", desc := "(II)I" } : Jvm.MethodName) ∈ WU := wt_2 (i := 68) rfl rfl
theorem u_19 : Jvm.Cond.code ({ cls := "java/lang/Math", name := "max", desc := "(II)I" } : Jvm.MethodName) prog_9_method_65_code (2 : Nat) (Option.some Jvm.ClassFile.FieldType.int) ∈ WU := wt_2 (i := 69) rfl rfl
theorem u_20 : Jvm.Cond.code ({ cls := "LeftTillCalled$Station", name := "handOver", desc := "(III)V" } : Jvm.MethodName) prog_3_method_8_code (4 : Nat) (Option.none : Option Jvm.ClassFile.FieldType) ∈ WU := wt_2 (i := 34) rfl rfl
theorem u_21 : Jvm.Cond.methodLink "LeftTillCalled$Station" (92 : Nat) ({ cls := "LeftTillCalled$Station", name := "handOver", desc := "(III)V" } : Jvm.MethodName) ∈ WU := wt_2 (i := 75) rfl rfl
theorem u_22 : Jvm.Cond.instanceMethod ({ cls := "LeftTillCalled$Station", name := "handOver", desc := "(III)V" } : Jvm.MethodName) ∈ WU := wt_2 (i := 32) rfl rfl
theorem u_23 : Jvm.Cond.selects "LeftTillCalled$Station" ({ cls := "LeftTillCalled$Station", name := "handOver", desc := "(III)V" } : Jvm.MethodName) ({ cls := "LeftTillCalled$Station", name := "handOver", desc := "(III)V" } : Jvm.MethodName) ∈ WU := wt_2 (i := 33) rfl rfl
theorem u_24 : Jvm.Cond.code ({ cls := "LeftTillCalled$Station", name := "canBeCalled", desc := "(I)Z" } : Jvm.MethodName) prog_3_method_12_code (2 : Nat) (Option.some Jvm.ClassFile.FieldType.boolean) ∈ WU := wt_2 (i := 25) rfl rfl
theorem u_25 : Jvm.Cond.methodLink "LeftTillCalled$Station" (89 : Nat) ({ cls := "LeftTillCalled$Station", name := "canBeCalled", desc := "(I)Z" } : Jvm.MethodName) ∈ WU := wt_2 (i := 74) rfl rfl
theorem u_26 : Jvm.Cond.instanceMethod ({ cls := "LeftTillCalled$Station", name := "canBeCalled", desc := "(I)Z" } : Jvm.MethodName) ∈ WU := wt_2 (i := 23) rfl rfl
theorem u_27 : Jvm.Cond.selects "LeftTillCalled$Station" ({ cls := "LeftTillCalled$Station", name := "canBeCalled", desc := "(I)Z" } : Jvm.MethodName) ({ cls := "LeftTillCalled$Station", name := "canBeCalled", desc := "(I)Z" } : Jvm.MethodName) ∈ WU := wt_2 (i := 24) rfl rfl
theorem u_28 : Jvm.Cond.code ({ cls := "LeftTillCalled$Station", name := "offerOf", desc := "(II)I" } : Jvm.MethodName) prog_3_method_11_code (5 : Nat) (Option.some Jvm.ClassFile.FieldType.int) ∈ WU := wt_2 (i := 14) rfl rfl
theorem u_29 : Jvm.Cond.methodLink "LeftTillCalled$Station" (102 : Nat) ({ cls := "LeftTillCalled$Station", name := "offerOf", desc := "(II)I" } : Jvm.MethodName) ∈ WU := wt_2 (i := 85) rfl rfl
theorem u_30 : Jvm.Cond.instanceMethod ({ cls := "LeftTillCalled$Station", name := "offerOf", desc := "(II)I" } : Jvm.MethodName) ∈ WU := wt_2 (i := 12) rfl rfl
theorem u_31 : Jvm.Cond.selects "LeftTillCalled$Station" ({ cls := "LeftTillCalled$Station", name := "offerOf", desc := "(II)I" } : Jvm.MethodName) ({ cls := "LeftTillCalled$Station", name := "offerOf", desc := "(II)I" } : Jvm.MethodName) ∈ WU := wt_2 (i := 13) rfl rfl
theorem u_32 : Jvm.Cond.code ({ cls := "LeftTillCalled$Station", name := "highestBidder", desc := "(I)I" } : Jvm.MethodName) prog_3_method_19_code (6 : Nat) (Option.some Jvm.ClassFile.FieldType.int) ∈ WU := wt_2 (i := 84) rfl rfl
theorem u_33 : Jvm.Cond.methodLink "LeftTillCalled$Station" (99 : Nat) ({ cls := "LeftTillCalled$Station", name := "highestBidder", desc := "(I)I" } : Jvm.MethodName) ∈ WU := wt_2 (i := 81) rfl rfl
theorem u_34 : Jvm.Cond.instanceMethod ({ cls := "LeftTillCalled$Station", name := "highestBidder", desc := "(I)I" } : Jvm.MethodName) ∈ WU := wt_2 (i := 83) rfl rfl
theorem u_35 : Jvm.Cond.selects "LeftTillCalled$Station" ({ cls := "LeftTillCalled$Station", name := "highestBidder", desc := "(I)I" } : Jvm.MethodName) ({ cls := "LeftTillCalled$Station", name := "highestBidder", desc := "(I)I" } : Jvm.MethodName) ∈ WU := wt_0 (i := 5) rfl rfl
theorem u_36 : Jvm.Cond.code ({ cls := "LeftTillCalled$Station", name := "maySell", desc := "(I)Z" } : Jvm.MethodName) prog_3_method_10_code (2 : Nat) (Option.some Jvm.ClassFile.FieldType.boolean) ∈ WU := wt_1 (i := 225) rfl rfl
theorem u_37 : Jvm.Cond.methodLink "LeftTillCalled$Station" (96 : Nat) ({ cls := "LeftTillCalled$Station", name := "maySell", desc := "(I)Z" } : Jvm.MethodName) ∈ WU := wt_2 (i := 80) rfl rfl
theorem u_38 : Jvm.Cond.instanceMethod ({ cls := "LeftTillCalled$Station", name := "maySell", desc := "(I)Z" } : Jvm.MethodName) ∈ WU := wt_1 (i := 223) rfl rfl
theorem u_39 : Jvm.Cond.selects "LeftTillCalled$Station" ({ cls := "LeftTillCalled$Station", name := "maySell", desc := "(I)Z" } : Jvm.MethodName) ({ cls := "LeftTillCalled$Station", name := "maySell", desc := "(I)Z" } : Jvm.MethodName) ∈ WU := wt_1 (i := 224) rfl rfl
theorem u_40 : Jvm.Cond.code ({ cls := "LeftTillCalled$Station", name := "holdSale", desc := "()V" } : Jvm.MethodName) prog_3_method_18_code (3 : Nat) (Option.none : Option Jvm.ClassFile.FieldType) ∈ WU := wt_2 (i := 79) rfl rfl
theorem u_41 : Jvm.Cond.methodLink "LeftTillCalled$Station" (78 : Nat) ({ cls := "LeftTillCalled$Station", name := "holdSale", desc := "()V" } : Jvm.MethodName) ∈ WU := wt_2 (i := 76) rfl rfl
theorem u_42 : Jvm.Cond.instanceMethod ({ cls := "LeftTillCalled$Station", name := "holdSale", desc := "()V" } : Jvm.MethodName) ∈ WU := wt_2 (i := 78) rfl rfl
theorem u_43 : Jvm.Cond.selects "LeftTillCalled$Station" ({ cls := "LeftTillCalled$Station", name := "holdSale", desc := "()V" } : Jvm.MethodName) ({ cls := "LeftTillCalled$Station", name := "holdSale", desc := "()V" } : Jvm.MethodName) ∈ WU := wt_0 (i := 4) rfl rfl
theorem u_44 : Jvm.Cond.code ({ cls := "LeftTillCalled$Station", name := "callForOneEach", desc := "()V" } : Jvm.MethodName) prog_3_method_17_code (4 : Nat) (Option.none : Option Jvm.ClassFile.FieldType) ∈ WU := wt_2 (i := 73) rfl rfl
theorem u_45 : Jvm.Cond.methodLink "LeftTillCalled$Station" (75 : Nat) ({ cls := "LeftTillCalled$Station", name := "callForOneEach", desc := "()V" } : Jvm.MethodName) ∈ WU := wt_2 (i := 70) rfl rfl
theorem u_46 : Jvm.Cond.instanceMethod ({ cls := "LeftTillCalled$Station", name := "callForOneEach", desc := "()V" } : Jvm.MethodName) ∈ WU := wt_2 (i := 72) rfl rfl
theorem u_47 : Jvm.Cond.selects "LeftTillCalled$Station" ({ cls := "LeftTillCalled$Station", name := "callForOneEach", desc := "()V" } : Jvm.MethodName) ({ cls := "LeftTillCalled$Station", name := "callForOneEach", desc := "()V" } : Jvm.MethodName) ∈ WU := wt_0 (i := 3) rfl rfl
theorem u_48 : Jvm.Cond.code ({ cls := "LeftTillCalled$Station", name := "earnAndSpend", desc := "()V" } : Jvm.MethodName) prog_3_method_16_code (3 : Nat) (Option.none : Option Jvm.ClassFile.FieldType) ∈ WU := wt_2 (i := 66) rfl rfl
theorem u_49 : Jvm.Cond.methodLink "LeftTillCalled$Station" (72 : Nat) ({ cls := "LeftTillCalled$Station", name := "earnAndSpend", desc := "()V" } : Jvm.MethodName) ∈ WU := wt_2 (i := 63) rfl rfl
theorem u_50 : Jvm.Cond.instanceMethod ({ cls := "LeftTillCalled$Station", name := "earnAndSpend", desc := "()V" } : Jvm.MethodName) ∈ WU := wt_2 (i := 65) rfl rfl
theorem u_51 : Jvm.Cond.selects "LeftTillCalled$Station" ({ cls := "LeftTillCalled$Station", name := "earnAndSpend", desc := "()V" } : Jvm.MethodName) ({ cls := "LeftTillCalled$Station", name := "earnAndSpend", desc := "()V" } : Jvm.MethodName) ∈ WU := wt_0 (i := 2) rfl rfl
theorem u_52 : Jvm.Cond.code ({ cls := "LeftTillCalled$Station", name := "mountAll", desc := "()V" } : Jvm.MethodName) prog_3_method_15_code (2 : Nat) (Option.none : Option Jvm.ClassFile.FieldType) ∈ WU := wt_2 (i := 60) rfl rfl
theorem u_53 : Jvm.Cond.methodLink "LeftTillCalled$Station" (69 : Nat) ({ cls := "LeftTillCalled$Station", name := "mountAll", desc := "()V" } : Jvm.MethodName) ∈ WU := wt_2 (i := 57) rfl rfl
theorem u_54 : Jvm.Cond.instanceMethod ({ cls := "LeftTillCalled$Station", name := "mountAll", desc := "()V" } : Jvm.MethodName) ∈ WU := wt_2 (i := 59) rfl rfl
theorem u_55 : Jvm.Cond.selects "LeftTillCalled$Station" ({ cls := "LeftTillCalled$Station", name := "mountAll", desc := "()V" } : Jvm.MethodName) ({ cls := "LeftTillCalled$Station", name := "mountAll", desc := "()V" } : Jvm.MethodName) ∈ WU := wt_0 (i := 1) rfl rfl
theorem u_56 : Jvm.Cond.code ({ cls := "LeftTillCalled$Station", name := "goDay", desc := "()V" } : Jvm.MethodName) prog_3_method_14_code (1 : Nat) (Option.none : Option Jvm.ClassFile.FieldType) ∈ WU := wt_2 (i := 56) rfl rfl
theorem u_57 : Jvm.Cond.methodLink "LeftTillCalled$Station" (66 : Nat) ({ cls := "LeftTillCalled$Station", name := "goDay", desc := "()V" } : Jvm.MethodName) ∈ WU := wt_2 (i := 53) rfl rfl
theorem u_58 : Jvm.Cond.instanceMethod ({ cls := "LeftTillCalled$Station", name := "goDay", desc := "()V" } : Jvm.MethodName) ∈ WU := wt_2 (i := 54) rfl rfl
theorem u_59 : Jvm.Cond.selects "LeftTillCalled$Station" ({ cls := "LeftTillCalled$Station", name := "goDay", desc := "()V" } : Jvm.MethodName) ({ cls := "LeftTillCalled$Station", name := "goDay", desc := "()V" } : Jvm.MethodName) ∈ WU := wt_2 (i := 55) rfl rfl
theorem u_60 : Jvm.Cond.code ({ cls := "LeftTillCalled$Station", name := "daysTillGone", desc := "(II)I" } : Jvm.MethodName) prog_3_method_20_code (4 : Nat) (Option.some Jvm.ClassFile.FieldType.int) ∈ WU := wt_2 (i := 128) rfl rfl
theorem u_61 : Jvm.Cond.methodLink "LeftTillCalled$Station" (105 : Nat) ({ cls := "LeftTillCalled$Station", name := "daysTillGone", desc := "(II)I" } : Jvm.MethodName) ∈ WU := wt_2 (i := 142) rfl rfl
theorem u_62 : Jvm.Cond.instanceMethod ({ cls := "LeftTillCalled$Station", name := "daysTillGone", desc := "(II)I" } : Jvm.MethodName) ∈ WU := wt_2 (i := 126) rfl rfl
theorem u_63 : Jvm.Cond.selects "LeftTillCalled$Station" ({ cls := "LeftTillCalled$Station", name := "daysTillGone", desc := "(II)I" } : Jvm.MethodName) ({ cls := "LeftTillCalled$Station", name := "daysTillGone", desc := "(II)I" } : Jvm.MethodName) ∈ WU := wt_2 (i := 127) rfl rfl
theorem u_64 : Jvm.Cond.code ({ cls := "java/lang/Integer", name := "bitCount", desc := "(I)I" } : Jvm.MethodName) prog_8_method_49_code (1 : Nat) (Option.some Jvm.ClassFile.FieldType.int) ∈ WU := wt_2 (i := 158) rfl rfl
theorem u_65 : Jvm.Cond.methodLink "LeftTillCalled$Station" (115 : Nat) ({ cls := "java/lang/Integer", name := "bitCount", desc := "(I)I" } : Jvm.MethodName) ∈ WU := wt_2 (i := 156) rfl rfl
theorem u_66 : Jvm.Cond.initialized "java/lang/Integer" ∈ WU := wt_1 (i := 9) rfl rfl
theorem u_67 : Jvm.Cond.static ({ cls := "java/lang/Integer", name := "bitCount", desc := "(I)I" } : Jvm.MethodName) ∈ WU := wt_2 (i := 157) rfl rfl
theorem u_68 : Jvm.Cond.code ({ cls := "LeftTillCalled$Station", name := "setOf", desc := "([II)I" } : Jvm.MethodName) prog_3_method_24_code (5 : Nat) (Option.some Jvm.ClassFile.FieldType.int) ∈ WU := wt_1 (i := 193) rfl rfl
theorem u_69 : Jvm.Cond.methodLink "LeftTillCalled$Station" (111 : Nat) ({ cls := "LeftTillCalled$Station", name := "setOf", desc := "([II)I" } : Jvm.MethodName) ∈ WU := wt_2 (i := 155) rfl rfl
theorem u_70 : Jvm.Cond.instanceMethod ({ cls := "LeftTillCalled$Station", name := "setOf", desc := "([II)I" } : Jvm.MethodName) ∈ WU := wt_1 (i := 191) rfl rfl
theorem u_71 : Jvm.Cond.selects "LeftTillCalled$Station" ({ cls := "LeftTillCalled$Station", name := "setOf", desc := "([II)I" } : Jvm.MethodName) ({ cls := "LeftTillCalled$Station", name := "setOf", desc := "([II)I" } : Jvm.MethodName) ∈ WU := wt_1 (i := 192) rfl rfl
theorem u_72 : Jvm.Cond.code ({ cls := "LeftTillCalled$Station", name := "countWith", desc := "(I)I" } : Jvm.MethodName) prog_3_method_23_code (2 : Nat) (Option.some Jvm.ClassFile.FieldType.int) ∈ WU := wt_2 (i := 154) rfl rfl
theorem u_73 : Jvm.Cond.methodLink "LeftTillCalled$Station" (108 : Nat) ({ cls := "LeftTillCalled$Station", name := "countWith", desc := "(I)I" } : Jvm.MethodName) ∈ WU := wt_2 (i := 151) rfl rfl
theorem u_74 : Jvm.Cond.instanceMethod ({ cls := "LeftTillCalled$Station", name := "countWith", desc := "(I)I" } : Jvm.MethodName) ∈ WU := wt_2 (i := 152) rfl rfl
theorem u_75 : Jvm.Cond.selects "LeftTillCalled$Station" ({ cls := "LeftTillCalled$Station", name := "countWith", desc := "(I)I" } : Jvm.MethodName) ({ cls := "LeftTillCalled$Station", name := "countWith", desc := "(I)I" } : Jvm.MethodName) ∈ WU := wt_2 (i := 153) rfl rfl
theorem u_76 : Jvm.Cond.methodLink "LeftTillCalled$Text" (96 : Nat) ({ cls := "java/lang/Math", name := "min", desc := "(II)I" } : Jvm.MethodName) ∈ WU := wt_2 (i := 219) rfl rfl
theorem u_77 : Jvm.Cond.code ({ cls := "LeftTillCalled$Text", name := "tokenAt", desc := "(I)I" } : Jvm.MethodName) prog_5_method_8_code (3 : Nat) (Option.some Jvm.ClassFile.FieldType.int) ∈ WU := wt_2 (i := 218) rfl rfl
theorem u_78 : Jvm.Cond.methodLink "LeftTillCalled$Text" (93 : Nat) ({ cls := "LeftTillCalled$Text", name := "tokenAt", desc := "(I)I" } : Jvm.MethodName) ∈ WU := wt_2 (i := 215) rfl rfl
theorem u_79 : Jvm.Cond.initialized "LeftTillCalled$Text" ∈ WU := wt_1 (i := 3) rfl rfl
theorem u_80 : Jvm.Cond.instanceMethod ({ cls := "LeftTillCalled$Text", name := "tokenAt", desc := "(I)I" } : Jvm.MethodName) ∈ WU := wt_2 (i := 217) rfl rfl
theorem u_81 : Jvm.Cond.selects "LeftTillCalled$Text" ({ cls := "LeftTillCalled$Text", name := "tokenAt", desc := "(I)I" } : Jvm.MethodName) ({ cls := "LeftTillCalled$Text", name := "tokenAt", desc := "(I)I" } : Jvm.MethodName) ∈ WU := wt_0 (i := 9) rfl rfl
theorem u_82 : Jvm.Cond.methodLink "LeftTillCalled$Text" (106 : Nat) ({ cls := "java/lang/String", name := "charAt", desc := "(I)C" } : Jvm.MethodName) ∈ WU := wt_2 (i := 235) rfl rfl
theorem u_83 : Jvm.Cond.methodLink "LeftTillCalled$Text" (102 : Nat) ({ cls := "java/lang/String", name := "length", desc := "()I" } : Jvm.MethodName) ∈ WU := wt_2 (i := 225) rfl rfl
theorem u_84 : Jvm.Cond.code ({ cls := "LeftTillCalled$Text", name := "advance", desc := "()V" } : Jvm.MethodName) prog_5_method_7_code (2 : Nat) (Option.none : Option Jvm.ClassFile.FieldType) ∈ WU := wt_2 (i := 214) rfl rfl
theorem u_85 : Jvm.Cond.methodLink "LeftTillCalled$Text" (31 : Nat) ({ cls := "LeftTillCalled$Text", name := "advance", desc := "()V" } : Jvm.MethodName) ∈ WU := wt_2 (i := 211) rfl rfl
theorem u_86 : Jvm.Cond.instanceMethod ({ cls := "LeftTillCalled$Text", name := "advance", desc := "()V" } : Jvm.MethodName) ∈ WU := wt_2 (i := 213) rfl rfl
theorem u_87 : Jvm.Cond.selects "LeftTillCalled$Text" ({ cls := "LeftTillCalled$Text", name := "advance", desc := "()V" } : Jvm.MethodName) ({ cls := "LeftTillCalled$Text", name := "advance", desc := "()V" } : Jvm.MethodName) ∈ WU := wt_0 (i := 8) rfl rfl
theorem u_88 : Jvm.Cond.code ({ cls := "LeftTillCalled$Text", name := "numberUpTo", desc := "(I)I" } : Jvm.MethodName) prog_5_method_6_code (3 : Nat) (Option.some Jvm.ClassFile.FieldType.int) ∈ WU := wt_3 (i := 40) rfl rfl
theorem u_89 : Jvm.Cond.methodLink "LeftTillCalled$Text" (71 : Nat) ({ cls := "LeftTillCalled$Text", name := "numberUpTo", desc := "(I)I" } : Jvm.MethodName) ∈ WU := wt_3 (i := 37) rfl rfl
theorem u_90 : Jvm.Cond.instanceMethod ({ cls := "LeftTillCalled$Text", name := "numberUpTo", desc := "(I)I" } : Jvm.MethodName) ∈ WU := wt_3 (i := 39) rfl rfl
theorem u_91 : Jvm.Cond.selects "LeftTillCalled$Text" ({ cls := "LeftTillCalled$Text", name := "numberUpTo", desc := "(I)I" } : Jvm.MethodName) ({ cls := "LeftTillCalled$Text", name := "numberUpTo", desc := "(I)I" } : Jvm.MethodName) ∈ WU := wt_0 (i := 12) rfl rfl
theorem u_92 : Jvm.Cond.code ({ cls := "LeftTillCalled$Text", name := "isWord", desc := "(Ljava/lang/String;)Z" } : Jvm.MethodName) prog_5_method_9_code (3 : Nat) (Option.some Jvm.ClassFile.FieldType.boolean) ∈ WU := wt_2 (i := 224) rfl rfl
theorem u_93 : Jvm.Cond.methodLink "LeftTillCalled$Text" (36 : Nat) ({ cls := "LeftTillCalled$Text", name := "isWord", desc := "(Ljava/lang/String;)Z" } : Jvm.MethodName) ∈ WU := wt_2 (i := 221) rfl rfl
theorem u_94 : Jvm.Cond.instanceMethod ({ cls := "LeftTillCalled$Text", name := "isWord", desc := "(Ljava/lang/String;)Z" } : Jvm.MethodName) ∈ WU := wt_2 (i := 223) rfl rfl
theorem u_95 : Jvm.Cond.selects "LeftTillCalled$Text" ({ cls := "LeftTillCalled$Text", name := "isWord", desc := "(Ljava/lang/String;)Z" } : Jvm.MethodName) ({ cls := "LeftTillCalled$Text", name := "isWord", desc := "(Ljava/lang/String;)Z" } : Jvm.MethodName) ∈ WU := wt_0 (i := 10) rfl rfl
theorem u_96 : Jvm.Cond.code ({ cls := "LeftTillCalled$Text", name := "clause", desc := "(Ljava/lang/String;II)I" } : Jvm.MethodName) prog_5_method_5_code (4 : Nat) (Option.some Jvm.ClassFile.FieldType.int) ∈ WU := wt_3 (i := 45) rfl rfl
theorem u_97 : Jvm.Cond.methodLink "LeftTillCalled$Text" (59 : Nat) ({ cls := "LeftTillCalled$Text", name := "clause", desc := "(Ljava/lang/String;II)I" } : Jvm.MethodName) ∈ WU := wt_3 (i := 42) rfl rfl
theorem u_98 : Jvm.Cond.instanceMethod ({ cls := "LeftTillCalled$Text", name := "clause", desc := "(Ljava/lang/String;II)I" } : Jvm.MethodName) ∈ WU := wt_3 (i := 44) rfl rfl
theorem u_99 : Jvm.Cond.selects "LeftTillCalled$Text" ({ cls := "LeftTillCalled$Text", name := "clause", desc := "(Ljava/lang/String;II)I" } : Jvm.MethodName) ({ cls := "LeftTillCalled$Text", name := "clause", desc := "(Ljava/lang/String;II)I" } : Jvm.MethodName) ∈ WU := wt_0 (i := 13) rfl rfl
theorem u_100 : Jvm.Cond.code ({ cls := "LeftTillCalled$Text", name := "nameOf", desc := "(I)Ljava/lang/String;" } : Jvm.MethodName) prog_5_method_11_code (1 : Nat) (Option.some (Jvm.ClassFile.FieldType.object "java/lang/String")) ∈ WU := wt_3 (i := 57) rfl rfl
theorem u_101 : Jvm.Cond.methodLink "LeftTillCalled$Text" (110 : Nat) ({ cls := "LeftTillCalled$Text", name := "nameOf", desc := "(I)Ljava/lang/String;" } : Jvm.MethodName) ∈ WU := wt_3 (i := 55) rfl rfl
theorem u_102 : Jvm.Cond.static ({ cls := "LeftTillCalled$Text", name := "nameOf", desc := "(I)Ljava/lang/String;" } : Jvm.MethodName) ∈ WU := wt_3 (i := 56) rfl rfl
theorem u_103 : Jvm.Cond.code ({ cls := "LeftTillCalled$Station", name := "take", desc := "(IIII)I" } : Jvm.MethodName) prog_3_method_6_code (6 : Nat) (Option.some Jvm.ClassFile.FieldType.int) ∈ WU := wt_1 (i := 209) rfl rfl
theorem u_104 : Jvm.Cond.methodLink "LeftTillCalled$Text" (67 : Nat) ({ cls := "LeftTillCalled$Station", name := "take", desc := "(IIII)I" } : Jvm.MethodName) ∈ WU := wt_3 (i := 69) rfl rfl
theorem u_105 : Jvm.Cond.instanceMethod ({ cls := "LeftTillCalled$Station", name := "take", desc := "(IIII)I" } : Jvm.MethodName) ∈ WU := wt_1 (i := 207) rfl rfl
theorem u_106 : Jvm.Cond.selects "LeftTillCalled$Station" ({ cls := "LeftTillCalled$Station", name := "take", desc := "(IIII)I" } : Jvm.MethodName) ({ cls := "LeftTillCalled$Station", name := "take", desc := "(IIII)I" } : Jvm.MethodName) ∈ WU := wt_1 (i := 208) rfl rfl
theorem u_107 : Jvm.Cond.code ({ cls := "LeftTillCalled$Station", name := "isFull", desc := "()Z" } : Jvm.MethodName) prog_3_method_4_code (1 : Nat) (Option.some Jvm.ClassFile.FieldType.boolean) ∈ WU := wt_1 (i := 204) rfl rfl
theorem u_108 : Jvm.Cond.methodLink "LeftTillCalled$Text" (51 : Nat) ({ cls := "LeftTillCalled$Station", name := "isFull", desc := "()Z" } : Jvm.MethodName) ∈ WU := wt_3 (i := 65) rfl rfl
theorem u_109 : Jvm.Cond.instanceMethod ({ cls := "LeftTillCalled$Station", name := "isFull", desc := "()Z" } : Jvm.MethodName) ∈ WU := wt_1 (i := 202) rfl rfl
theorem u_110 : Jvm.Cond.selects "LeftTillCalled$Station" ({ cls := "LeftTillCalled$Station", name := "isFull", desc := "()Z" } : Jvm.MethodName) ({ cls := "LeftTillCalled$Station", name := "isFull", desc := "()Z" } : Jvm.MethodName) ∈ WU := wt_1 (i := 203) rfl rfl
theorem u_111 : Jvm.Cond.code ({ cls := "LeftTillCalled$Text", name := "kindNamed", desc := "()I" } : Jvm.MethodName) prog_5_method_10_code (2 : Nat) (Option.some Jvm.ClassFile.FieldType.int) ∈ WU := wt_3 (i := 54) rfl rfl
theorem u_112 : Jvm.Cond.methodLink "LeftTillCalled$Text" (47 : Nat) ({ cls := "LeftTillCalled$Text", name := "kindNamed", desc := "()I" } : Jvm.MethodName) ∈ WU := wt_3 (i := 51) rfl rfl
theorem u_113 : Jvm.Cond.instanceMethod ({ cls := "LeftTillCalled$Text", name := "kindNamed", desc := "()I" } : Jvm.MethodName) ∈ WU := wt_3 (i := 53) rfl rfl
theorem u_114 : Jvm.Cond.selects "LeftTillCalled$Text" ({ cls := "LeftTillCalled$Text", name := "kindNamed", desc := "()I" } : Jvm.MethodName) ({ cls := "LeftTillCalled$Text", name := "kindNamed", desc := "()I" } : Jvm.MethodName) ∈ WU := wt_0 (i := 15) rfl rfl
theorem u_115 : Jvm.Cond.code ({ cls := "LeftTillCalled$Text", name := "tellThing", desc := "(LLeftTillCalled$Station;)Z" } : Jvm.MethodName) prog_5_method_3_code (6 : Nat) (Option.some Jvm.ClassFile.FieldType.boolean) ∈ WU := wt_3 (i := 50) rfl rfl
theorem u_116 : Jvm.Cond.methodLink "LeftTillCalled$Text" (44 : Nat) ({ cls := "LeftTillCalled$Text", name := "tellThing", desc := "(LLeftTillCalled$Station;)Z" } : Jvm.MethodName) ∈ WU := wt_3 (i := 47) rfl rfl
theorem u_117 : Jvm.Cond.instanceMethod ({ cls := "LeftTillCalled$Text", name := "tellThing", desc := "(LLeftTillCalled$Station;)Z" } : Jvm.MethodName) ∈ WU := wt_3 (i := 49) rfl rfl
theorem u_118 : Jvm.Cond.selects "LeftTillCalled$Text" ({ cls := "LeftTillCalled$Text", name := "tellThing", desc := "(LLeftTillCalled$Station;)Z" } : Jvm.MethodName) ({ cls := "LeftTillCalled$Text", name := "tellThing", desc := "(LLeftTillCalled$Station;)Z" } : Jvm.MethodName) ∈ WU := wt_0 (i := 14) rfl rfl
theorem u_119 : Jvm.Cond.code ({ cls := "LeftTillCalled$Text", name := "tellPerson", desc := "(LLeftTillCalled$Station;)Z" } : Jvm.MethodName) prog_5_method_4_code (6 : Nat) (Option.some Jvm.ClassFile.FieldType.boolean) ∈ WU := wt_3 (i := 36) rfl rfl
theorem u_120 : Jvm.Cond.methodLink "LeftTillCalled$Text" (40 : Nat) ({ cls := "LeftTillCalled$Text", name := "tellPerson", desc := "(LLeftTillCalled$Station;)Z" } : Jvm.MethodName) ∈ WU := wt_3 (i := 33) rfl rfl
theorem u_121 : Jvm.Cond.instanceMethod ({ cls := "LeftTillCalled$Text", name := "tellPerson", desc := "(LLeftTillCalled$Station;)Z" } : Jvm.MethodName) ∈ WU := wt_3 (i := 35) rfl rfl
theorem u_122 : Jvm.Cond.selects "LeftTillCalled$Text" ({ cls := "LeftTillCalled$Text", name := "tellPerson", desc := "(LLeftTillCalled$Station;)Z" } : Jvm.MethodName) ({ cls := "LeftTillCalled$Text", name := "tellPerson", desc := "(LLeftTillCalled$Station;)Z" } : Jvm.MethodName) ∈ WU := wt_0 (i := 11) rfl rfl
theorem u_123 : Jvm.Cond.code ({ cls := "LeftTillCalled", name := "found", desc := "(I)I" } : Jvm.MethodName) prog_1_method_40_code (3 : Nat) (Option.some Jvm.ClassFile.FieldType.int) ∈ WU := wt_1 (i := 185) rfl rfl
theorem u_124 : Jvm.Cond.methodLink "LeftTillCalled" (62 : Nat) ({ cls := "LeftTillCalled", name := "found", desc := "(I)I" } : Jvm.MethodName) ∈ WU := wt_1 (i := 182) rfl rfl
theorem u_125 : Jvm.Cond.initialized "LeftTillCalled" ∈ WU := wt_1 (i := 1) rfl rfl
theorem u_126 : Jvm.Cond.instanceMethod ({ cls := "LeftTillCalled", name := "found", desc := "(I)I" } : Jvm.MethodName) ∈ WU := wt_1 (i := 184) rfl rfl
theorem u_127 : Jvm.Cond.selects "LeftTillCalled" ({ cls := "LeftTillCalled", name := "found", desc := "(I)I" } : Jvm.MethodName) ({ cls := "LeftTillCalled", name := "found", desc := "(I)I" } : Jvm.MethodName) ∈ WU := wt_0 (i := 0) rfl rfl
theorem u_128 : Jvm.Cond.code ({ cls := "LeftTillCalled", name := "isWithin", desc := "(III)Z" } : Jvm.MethodName) prog_1_method_45_code (3 : Nat) (Option.some Jvm.ClassFile.FieldType.boolean) ∈ WU := wt_1 (i := 180) rfl rfl
theorem u_129 : Jvm.Cond.methodLink "LeftTillCalled" (57 : Nat) ({ cls := "LeftTillCalled", name := "isWithin", desc := "(III)Z" } : Jvm.MethodName) ∈ WU := wt_1 (i := 178) rfl rfl
theorem u_130 : Jvm.Cond.static ({ cls := "LeftTillCalled", name := "isWithin", desc := "(III)Z" } : Jvm.MethodName) ∈ WU := wt_1 (i := 179) rfl rfl
theorem u_131 : Jvm.Cond.code ({ cls := "LeftTillCalled", name := "mostOfPerson", desc := "(I)I" } : Jvm.MethodName) prog_1_method_49_code (1 : Nat) (Option.some Jvm.ClassFile.FieldType.int) ∈ WU := wt_1 (i := 176) rfl rfl
theorem u_132 : Jvm.Cond.methodLink "LeftTillCalled" (53 : Nat) ({ cls := "LeftTillCalled", name := "mostOfPerson", desc := "(I)I" } : Jvm.MethodName) ∈ WU := wt_1 (i := 174) rfl rfl
theorem u_133 : Jvm.Cond.static ({ cls := "LeftTillCalled", name := "mostOfPerson", desc := "(I)I" } : Jvm.MethodName) ∈ WU := wt_1 (i := 175) rfl rfl
theorem u_134 : Jvm.Cond.code ({ cls := "LeftTillCalled", name := "isPerson", desc := "(I)Z" } : Jvm.MethodName) prog_1_method_46_code (1 : Nat) (Option.some Jvm.ClassFile.FieldType.boolean) ∈ WU := wt_1 (i := 173) rfl rfl
theorem u_135 : Jvm.Cond.methodLink "LeftTillCalled" (49 : Nat) ({ cls := "LeftTillCalled", name := "isPerson", desc := "(I)Z" } : Jvm.MethodName) ∈ WU := wt_1 (i := 171) rfl rfl
theorem u_136 : Jvm.Cond.static ({ cls := "LeftTillCalled", name := "isPerson", desc := "(I)Z" } : Jvm.MethodName) ∈ WU := wt_1 (i := 172) rfl rfl
theorem u_137 : Jvm.Cond.methodLink "LeftTillCalled" (77 : Nat) ({ cls := "LeftTillCalled$Station", name := "setOf", desc := "([II)I" } : Jvm.MethodName) ∈ WU := wt_1 (i := 190) rfl rfl
theorem u_138 : Jvm.Cond.methodLink "LeftTillCalled" (92 : Nat) ({ cls := "LeftTillCalled$Station", name := "take", desc := "(IIII)I" } : Jvm.MethodName) ∈ WU := wt_1 (i := 206) rfl rfl
theorem u_139 : Jvm.Cond.methodLink "LeftTillCalled" (87 : Nat) ({ cls := "LeftTillCalled$Station", name := "isFull", desc := "()Z" } : Jvm.MethodName) ∈ WU := wt_1 (i := 201) rfl rfl
theorem u_140 : Jvm.Cond.code ({ cls := "LeftTillCalled", name := "isKind", desc := "(I)Z" } : Jvm.MethodName) prog_1_method_47_code (1 : Nat) (Option.some Jvm.ClassFile.FieldType.boolean) ∈ WU := wt_1 (i := 200) rfl rfl
theorem u_141 : Jvm.Cond.methodLink "LeftTillCalled" (84 : Nat) ({ cls := "LeftTillCalled", name := "isKind", desc := "(I)Z" } : Jvm.MethodName) ∈ WU := wt_1 (i := 198) rfl rfl
theorem u_142 : Jvm.Cond.static ({ cls := "LeftTillCalled", name := "isKind", desc := "(I)Z" } : Jvm.MethodName) ∈ WU := wt_1 (i := 199) rfl rfl
theorem u_143 : Jvm.Cond.methodLink "LeftTillCalled" (114 : Nat) ({ cls := "LeftTillCalled$Station", name := "maySell", desc := "(I)Z" } : Jvm.MethodName) ∈ WU := wt_1 (i := 222) rfl rfl
theorem u_144 : Jvm.Cond.methodLink "LeftTillCalled" (111 : Nat) ({ cls := "LeftTillCalled$Station", name := "mountOf", desc := "(I)I" } : Jvm.MethodName) ∈ WU := wt_1 (i := 218) rfl rfl
theorem u_145 : Jvm.Cond.code ({ cls := "LeftTillCalled$Station", name := "hasThing", desc := "(I)Z" } : Jvm.MethodName) prog_3_method_3_code (2 : Nat) (Option.some Jvm.ClassFile.FieldType.boolean) ∈ WU := wt_1 (i := 217) rfl rfl
theorem u_146 : Jvm.Cond.methodLink "LeftTillCalled" (96 : Nat) ({ cls := "LeftTillCalled$Station", name := "hasThing", desc := "(I)Z" } : Jvm.MethodName) ∈ WU := wt_1 (i := 214) rfl rfl
theorem u_147 : Jvm.Cond.instanceMethod ({ cls := "LeftTillCalled$Station", name := "hasThing", desc := "(I)Z" } : Jvm.MethodName) ∈ WU := wt_1 (i := 215) rfl rfl
theorem u_148 : Jvm.Cond.selects "LeftTillCalled$Station" ({ cls := "LeftTillCalled$Station", name := "hasThing", desc := "(I)Z" } : Jvm.MethodName) ({ cls := "LeftTillCalled$Station", name := "hasThing", desc := "(I)Z" } : Jvm.MethodName) ∈ WU := wt_1 (i := 216) rfl rfl
theorem u_149 : Jvm.Cond.code ({ cls := "LeftTillCalled", name := "mostOfThing", desc := "(I)I" } : Jvm.MethodName) prog_1_method_50_code (1 : Nat) (Option.some Jvm.ClassFile.FieldType.int) ∈ WU := wt_1 (i := 232) rfl rfl
theorem u_150 : Jvm.Cond.methodLink "LeftTillCalled" (117 : Nat) ({ cls := "LeftTillCalled", name := "mostOfThing", desc := "(I)I" } : Jvm.MethodName) ∈ WU := wt_1 (i := 230) rfl rfl
theorem u_151 : Jvm.Cond.static ({ cls := "LeftTillCalled", name := "mostOfThing", desc := "(I)I" } : Jvm.MethodName) ∈ WU := wt_1 (i := 231) rfl rfl
theorem u_152 : Jvm.Cond.fieldLink "LeftTillCalled" (253 : Nat) "LeftTillCalled" "KIND_ABOVE" "[I" ∈ WU := wt_2 (i := 4) rfl rfl
theorem u_153 : Jvm.Cond.code ({ cls := "LeftTillCalled", name := "isUnder", desc := "(II)Z" } : Jvm.MethodName) prog_1_method_51_code (4 : Nat) (Option.some Jvm.ClassFile.FieldType.boolean) ∈ WU := wt_2 (i := 3) rfl rfl
theorem u_154 : Jvm.Cond.methodLink "LeftTillCalled" (120 : Nat) ({ cls := "LeftTillCalled", name := "isUnder", desc := "(II)Z" } : Jvm.MethodName) ∈ WU := wt_2 (i := 1) rfl rfl
theorem u_155 : Jvm.Cond.static ({ cls := "LeftTillCalled", name := "isUnder", desc := "(II)Z" } : Jvm.MethodName) ∈ WU := wt_2 (i := 2) rfl rfl
theorem u_156 : Jvm.Cond.methodLink "LeftTillCalled" (125 : Nat) ({ cls := "LeftTillCalled$Station", name := "offerOf", desc := "(II)I" } : Jvm.MethodName) ∈ WU := wt_2 (i := 11) rfl rfl
theorem u_157 : Jvm.Cond.methodLink "LeftTillCalled" (133 : Nat) ({ cls := "LeftTillCalled$Station", name := "handOver", desc := "(III)V" } : Jvm.MethodName) ∈ WU := wt_2 (i := 31) rfl rfl
theorem u_158 : Jvm.Cond.methodLink "LeftTillCalled" (129 : Nat) ({ cls := "LeftTillCalled$Station", name := "canBeCalled", desc := "(I)Z" } : Jvm.MethodName) ∈ WU := wt_2 (i := 22) rfl rfl
theorem u_159 : Jvm.Cond.code ({ cls := "LeftTillCalled$Station", name := "takeBack", desc := "(I)I" } : Jvm.MethodName) prog_3_method_7_code (3 : Nat) (Option.some Jvm.ClassFile.FieldType.int) ∈ WU := wt_2 (i := 44) rfl rfl
theorem u_160 : Jvm.Cond.methodLink "LeftTillCalled" (140 : Nat) ({ cls := "LeftTillCalled$Station", name := "takeBack", desc := "(I)I" } : Jvm.MethodName) ∈ WU := wt_2 (i := 41) rfl rfl
theorem u_161 : Jvm.Cond.instanceMethod ({ cls := "LeftTillCalled$Station", name := "takeBack", desc := "(I)I" } : Jvm.MethodName) ∈ WU := wt_2 (i := 42) rfl rfl
theorem u_162 : Jvm.Cond.selects "LeftTillCalled$Station" ({ cls := "LeftTillCalled$Station", name := "takeBack", desc := "(I)I" } : Jvm.MethodName) ({ cls := "LeftTillCalled$Station", name := "takeBack", desc := "(I)I" } : Jvm.MethodName) ∈ WU := wt_2 (i := 43) rfl rfl
theorem u_163 : Jvm.Cond.methodLink "LeftTillCalled" (137 : Nat) ({ cls := "LeftTillCalled$Station", name := "isThere", desc := "(I)Z" } : Jvm.MethodName) ∈ WU := wt_2 (i := 40) rfl rfl
theorem u_164 : Jvm.Cond.code ({ cls := "LeftTillCalled$Station", name := "goDays", desc := "(I)V" } : Jvm.MethodName) prog_3_method_13_code (3 : Nat) (Option.none : Option Jvm.ClassFile.FieldType) ∈ WU := wt_2 (i := 52) rfl rfl
theorem u_165 : Jvm.Cond.methodLink "LeftTillCalled" (147 : Nat) ({ cls := "LeftTillCalled$Station", name := "goDays", desc := "(I)V" } : Jvm.MethodName) ∈ WU := wt_2 (i := 49) rfl rfl
theorem u_166 : Jvm.Cond.instanceMethod ({ cls := "LeftTillCalled$Station", name := "goDays", desc := "(I)V" } : Jvm.MethodName) ∈ WU := wt_2 (i := 50) rfl rfl
theorem u_167 : Jvm.Cond.selects "LeftTillCalled$Station" ({ cls := "LeftTillCalled$Station", name := "goDays", desc := "(I)V" } : Jvm.MethodName) ({ cls := "LeftTillCalled$Station", name := "goDays", desc := "(I)V" } : Jvm.MethodName) ∈ WU := wt_2 (i := 51) rfl rfl
theorem u_168 : Jvm.Cond.code ({ cls := "LeftTillCalled$Station", name := "setForSale", desc := "()I" } : Jvm.MethodName) prog_3_method_25_code (3 : Nat) (Option.some Jvm.ClassFile.FieldType.int) ∈ WU := wt_2 (i := 101) rfl rfl
theorem u_169 : Jvm.Cond.methodLink "LeftTillCalled" (161 : Nat) ({ cls := "LeftTillCalled$Station", name := "setForSale", desc := "()I" } : Jvm.MethodName) ∈ WU := wt_2 (i := 98) rfl rfl
theorem u_170 : Jvm.Cond.instanceMethod ({ cls := "LeftTillCalled$Station", name := "setForSale", desc := "()I" } : Jvm.MethodName) ∈ WU := wt_2 (i := 99) rfl rfl
theorem u_171 : Jvm.Cond.selects "LeftTillCalled$Station" ({ cls := "LeftTillCalled$Station", name := "setForSale", desc := "()I" } : Jvm.MethodName) ({ cls := "LeftTillCalled$Station", name := "setForSale", desc := "()I" } : Jvm.MethodName) ∈ WU := wt_2 (i := 100) rfl rfl
theorem u_172 : Jvm.Cond.code ({ cls := "LeftTillCalled$Station", name := "meansOfAll", desc := "()I" } : Jvm.MethodName) prog_3_method_27_code (3 : Nat) (Option.some Jvm.ClassFile.FieldType.int) ∈ WU := wt_2 (i := 97) rfl rfl
theorem u_173 : Jvm.Cond.methodLink "LeftTillCalled" (158 : Nat) ({ cls := "LeftTillCalled$Station", name := "meansOfAll", desc := "()I" } : Jvm.MethodName) ∈ WU := wt_2 (i := 94) rfl rfl
theorem u_174 : Jvm.Cond.instanceMethod ({ cls := "LeftTillCalled$Station", name := "meansOfAll", desc := "()I" } : Jvm.MethodName) ∈ WU := wt_2 (i := 95) rfl rfl
theorem u_175 : Jvm.Cond.selects "LeftTillCalled$Station" ({ cls := "LeftTillCalled$Station", name := "meansOfAll", desc := "()I" } : Jvm.MethodName) ({ cls := "LeftTillCalled$Station", name := "meansOfAll", desc := "()I" } : Jvm.MethodName) ∈ WU := wt_2 (i := 96) rfl rfl
theorem u_176 : Jvm.Cond.code ({ cls := "LeftTillCalled$Station", name := "dueOfAllThere", desc := "()I" } : Jvm.MethodName) prog_3_method_26_code (3 : Nat) (Option.some Jvm.ClassFile.FieldType.int) ∈ WU := wt_2 (i := 93) rfl rfl
theorem u_177 : Jvm.Cond.methodLink "LeftTillCalled" (154 : Nat) ({ cls := "LeftTillCalled$Station", name := "dueOfAllThere", desc := "()I" } : Jvm.MethodName) ∈ WU := wt_2 (i := 90) rfl rfl
theorem u_178 : Jvm.Cond.instanceMethod ({ cls := "LeftTillCalled$Station", name := "dueOfAllThere", desc := "()I" } : Jvm.MethodName) ∈ WU := wt_2 (i := 91) rfl rfl
theorem u_179 : Jvm.Cond.selects "LeftTillCalled$Station" ({ cls := "LeftTillCalled$Station", name := "dueOfAllThere", desc := "()I" } : Jvm.MethodName) ({ cls := "LeftTillCalled$Station", name := "dueOfAllThere", desc := "()I" } : Jvm.MethodName) ∈ WU := wt_2 (i := 92) rfl rfl
theorem u_180 : Jvm.Cond.code ({ cls := "LeftTillCalled$Station", name := "become", desc := "(LLeftTillCalled$Station;)V" } : Jvm.MethodName) prog_3_method_2_code (2 : Nat) (Option.none : Option Jvm.ClassFile.FieldType) ∈ WU := wt_2 (i := 113) rfl rfl
theorem u_181 : Jvm.Cond.methodLink "LeftTillCalled" (200 : Nat) ({ cls := "LeftTillCalled$Station", name := "become", desc := "(LLeftTillCalled$Station;)V" } : Jvm.MethodName) ∈ WU := wt_2 (i := 110) rfl rfl
theorem u_182 : Jvm.Cond.instanceMethod ({ cls := "LeftTillCalled$Station", name := "become", desc := "(LLeftTillCalled$Station;)V" } : Jvm.MethodName) ∈ WU := wt_2 (i := 111) rfl rfl
theorem u_183 : Jvm.Cond.selects "LeftTillCalled$Station" ({ cls := "LeftTillCalled$Station", name := "become", desc := "(LLeftTillCalled$Station;)V" } : Jvm.MethodName) ({ cls := "LeftTillCalled$Station", name := "become", desc := "(LLeftTillCalled$Station;)V" } : Jvm.MethodName) ∈ WU := wt_2 (i := 112) rfl rfl
theorem u_184 : Jvm.Cond.code ({ cls := "LeftTillCalled", name := "startAhead", desc := "()V" } : Jvm.MethodName) prog_1_method_42_code (1 : Nat) (Option.none : Option Jvm.ClassFile.FieldType) ∈ WU := wt_2 (i := 109) rfl rfl
theorem u_185 : Jvm.Cond.methodLink "LeftTillCalled" (164 : Nat) ({ cls := "LeftTillCalled", name := "startAhead", desc := "()V" } : Jvm.MethodName) ∈ WU := wt_2 (i := 106) rfl rfl
theorem u_186 : Jvm.Cond.instanceMethod ({ cls := "LeftTillCalled", name := "startAhead", desc := "()V" } : Jvm.MethodName) ∈ WU := wt_2 (i := 108) rfl rfl
theorem u_187 : Jvm.Cond.selects "LeftTillCalled" ({ cls := "LeftTillCalled", name := "startAhead", desc := "()V" } : Jvm.MethodName) ({ cls := "LeftTillCalled", name := "startAhead", desc := "()V" } : Jvm.MethodName) ∈ WU := wt_0 (i := 6) rfl rfl
theorem u_188 : Jvm.Cond.code ({ cls := "LeftTillCalled", name := "orNone", desc := "(I)I" } : Jvm.MethodName) prog_1_method_41_code (2 : Nat) (Option.some Jvm.ClassFile.FieldType.int) ∈ WU := wt_2 (i := 132) rfl rfl
theorem u_189 : Jvm.Cond.methodLink "LeftTillCalled" (170 : Nat) ({ cls := "LeftTillCalled", name := "orNone", desc := "(I)I" } : Jvm.MethodName) ∈ WU := wt_2 (i := 129) rfl rfl
theorem u_190 : Jvm.Cond.instanceMethod ({ cls := "LeftTillCalled", name := "orNone", desc := "(I)I" } : Jvm.MethodName) ∈ WU := wt_2 (i := 131) rfl rfl
theorem u_191 : Jvm.Cond.selects "LeftTillCalled" ({ cls := "LeftTillCalled", name := "orNone", desc := "(I)I" } : Jvm.MethodName) ({ cls := "LeftTillCalled", name := "orNone", desc := "(I)I" } : Jvm.MethodName) ∈ WU := wt_0 (i := 7) rfl rfl
theorem u_192 : Jvm.Cond.methodLink "LeftTillCalled" (167 : Nat) ({ cls := "LeftTillCalled$Station", name := "daysTillGone", desc := "(II)I" } : Jvm.MethodName) ∈ WU := wt_2 (i := 125) rfl rfl
theorem u_193 : Jvm.Cond.code ({ cls := "LeftTillCalled$Station", name := "daysTillWith", desc := "(III)I" } : Jvm.MethodName) prog_3_method_21_code (5 : Nat) (Option.some Jvm.ClassFile.FieldType.int) ∈ WU := wt_2 (i := 141) rfl rfl
theorem u_194 : Jvm.Cond.methodLink "LeftTillCalled" (173 : Nat) ({ cls := "LeftTillCalled$Station", name := "daysTillWith", desc := "(III)I" } : Jvm.MethodName) ∈ WU := wt_2 (i := 138) rfl rfl
theorem u_195 : Jvm.Cond.instanceMethod ({ cls := "LeftTillCalled$Station", name := "daysTillWith", desc := "(III)I" } : Jvm.MethodName) ∈ WU := wt_2 (i := 139) rfl rfl
theorem u_196 : Jvm.Cond.selects "LeftTillCalled$Station" ({ cls := "LeftTillCalled$Station", name := "daysTillWith", desc := "(III)I" } : Jvm.MethodName) ({ cls := "LeftTillCalled$Station", name := "daysTillWith", desc := "(III)I" } : Jvm.MethodName) ∈ WU := wt_2 (i := 140) rfl rfl
theorem u_197 : Jvm.Cond.code ({ cls := "LeftTillCalled$Station", name := "daysTillEmpty", desc := "(I)I" } : Jvm.MethodName) prog_3_method_22_code (3 : Nat) (Option.some Jvm.ClassFile.FieldType.int) ∈ WU := wt_2 (i := 150) rfl rfl
theorem u_198 : Jvm.Cond.methodLink "LeftTillCalled" (177 : Nat) ({ cls := "LeftTillCalled$Station", name := "daysTillEmpty", desc := "(I)I" } : Jvm.MethodName) ∈ WU := wt_2 (i := 147) rfl rfl
theorem u_199 : Jvm.Cond.instanceMethod ({ cls := "LeftTillCalled$Station", name := "daysTillEmpty", desc := "(I)I" } : Jvm.MethodName) ∈ WU := wt_2 (i := 148) rfl rfl
theorem u_200 : Jvm.Cond.selects "LeftTillCalled$Station" ({ cls := "LeftTillCalled$Station", name := "daysTillEmpty", desc := "(I)I" } : Jvm.MethodName) ({ cls := "LeftTillCalled$Station", name := "daysTillEmpty", desc := "(I)I" } : Jvm.MethodName) ∈ WU := wt_2 (i := 149) rfl rfl
theorem u_201 : Jvm.Cond.methodLink "LeftTillCalled" (181 : Nat) ({ cls := "LeftTillCalled$Station", name := "countWith", desc := "(I)I" } : Jvm.MethodName) ∈ WU := wt_2 (i := 182) rfl rfl
theorem u_202 : Jvm.Cond.code ({ cls := "LeftTillCalled$Tape", name := "add", desc := "(B)V" } : Jvm.MethodName) prog_4_method_2_code (2 : Nat) (Option.none : Option Jvm.ClassFile.FieldType) ∈ WU := wt_2 (i := 198) rfl rfl
theorem u_203 : Jvm.Cond.methodLink "LeftTillCalled" (192 : Nat) ({ cls := "LeftTillCalled$Tape", name := "add", desc := "(B)V" } : Jvm.MethodName) ∈ WU := wt_2 (i := 195) rfl rfl
theorem u_204 : Jvm.Cond.initialized "LeftTillCalled$Tape" ∈ WU := wt_1 (i := 4) rfl rfl
theorem u_205 : Jvm.Cond.instanceMethod ({ cls := "LeftTillCalled$Tape", name := "add", desc := "(B)V" } : Jvm.MethodName) ∈ WU := wt_2 (i := 196) rfl rfl
theorem u_206 : Jvm.Cond.selects "LeftTillCalled$Tape" ({ cls := "LeftTillCalled$Tape", name := "add", desc := "(B)V" } : Jvm.MethodName) ({ cls := "LeftTillCalled$Tape", name := "add", desc := "(B)V" } : Jvm.MethodName) ∈ WU := wt_2 (i := 197) rfl rfl
theorem u_207 : Jvm.Cond.code ({ cls := "LeftTillCalled$Text", name := "tellTo", desc := "(LLeftTillCalled$Station;)I" } : Jvm.MethodName) prog_5_method_2_code (4 : Nat) (Option.some Jvm.ClassFile.FieldType.int) ∈ WU := wt_2 (i := 210) rfl rfl
theorem u_208 : Jvm.Cond.methodLink "LeftTillCalled" (196 : Nat) ({ cls := "LeftTillCalled$Text", name := "tellTo", desc := "(LLeftTillCalled$Station;)I" } : Jvm.MethodName) ∈ WU := wt_2 (i := 207) rfl rfl
theorem u_209 : Jvm.Cond.instanceMethod ({ cls := "LeftTillCalled$Text", name := "tellTo", desc := "(LLeftTillCalled$Station;)I" } : Jvm.MethodName) ∈ WU := wt_2 (i := 208) rfl rfl
theorem u_210 : Jvm.Cond.selects "LeftTillCalled$Text" ({ cls := "LeftTillCalled$Text", name := "tellTo", desc := "(LLeftTillCalled$Station;)I" } : Jvm.MethodName) ({ cls := "LeftTillCalled$Text", name := "tellTo", desc := "(LLeftTillCalled$Station;)I" } : Jvm.MethodName) ∈ WU := wt_2 (i := 209) rfl rfl
theorem u_211 : Jvm.Cond.code ({ cls := "LeftTillCalled$Sheet", name := "begin", desc := "(II)V" } : Jvm.MethodName) prog_2_method_3_code (4 : Nat) (Option.none : Option Jvm.ClassFile.FieldType) ∈ WU := wt_3 (i := 81) rfl rfl
theorem u_212 : Jvm.Cond.methodLink "LeftTillCalled" (208 : Nat) ({ cls := "LeftTillCalled$Sheet", name := "begin", desc := "(II)V" } : Jvm.MethodName) ∈ WU := wt_3 (i := 78) rfl rfl
theorem u_213 : Jvm.Cond.initialized "LeftTillCalled$Sheet" ∈ WU := wt_1 (i := 5) rfl rfl
theorem u_214 : Jvm.Cond.instanceMethod ({ cls := "LeftTillCalled$Sheet", name := "begin", desc := "(II)V" } : Jvm.MethodName) ∈ WU := wt_3 (i := 79) rfl rfl
theorem u_215 : Jvm.Cond.selects "LeftTillCalled$Sheet" ({ cls := "LeftTillCalled$Sheet", name := "begin", desc := "(II)V" } : Jvm.MethodName) ({ cls := "LeftTillCalled$Sheet", name := "begin", desc := "(II)V" } : Jvm.MethodName) ∈ WU := wt_3 (i := 80) rfl rfl
theorem u_216 : Jvm.Cond.code ({ cls := "LeftTillCalled", name := "isSheet", desc := "(I)Z" } : Jvm.MethodName) prog_1_method_48_code (1 : Nat) (Option.some Jvm.ClassFile.FieldType.boolean) ∈ WU := wt_3 (i := 76) rfl rfl
theorem u_217 : Jvm.Cond.methodLink "LeftTillCalled" (204 : Nat) ({ cls := "LeftTillCalled", name := "isSheet", desc := "(I)Z" } : Jvm.MethodName) ∈ WU := wt_3 (i := 74) rfl rfl
theorem u_218 : Jvm.Cond.static ({ cls := "LeftTillCalled", name := "isSheet", desc := "(I)Z" } : Jvm.MethodName) ∈ WU := wt_3 (i := 75) rfl rfl
theorem u_219 : Jvm.Cond.code ({ cls := "LeftTillCalled$Sheet", name := "put", desc := "(IJ)V" } : Jvm.MethodName) prog_2_method_4_code (4 : Nat) (Option.none : Option Jvm.ClassFile.FieldType) ∈ WU := wt_3 (i := 94) rfl rfl
theorem u_220 : Jvm.Cond.methodLink "LeftTillCalled" (221 : Nat) ({ cls := "LeftTillCalled$Sheet", name := "put", desc := "(IJ)V" } : Jvm.MethodName) ∈ WU := wt_3 (i := 91) rfl rfl
theorem u_221 : Jvm.Cond.instanceMethod ({ cls := "LeftTillCalled$Sheet", name := "put", desc := "(IJ)V" } : Jvm.MethodName) ∈ WU := wt_3 (i := 92) rfl rfl
theorem u_222 : Jvm.Cond.selects "LeftTillCalled$Sheet" ({ cls := "LeftTillCalled$Sheet", name := "put", desc := "(IJ)V" } : Jvm.MethodName) ({ cls := "LeftTillCalled$Sheet", name := "put", desc := "(IJ)V" } : Jvm.MethodName) ∈ WU := wt_3 (i := 93) rfl rfl
theorem u_223 : Jvm.Cond.code ({ cls := "LeftTillCalled$Sheet", name := "isMissing", desc := "()Z" } : Jvm.MethodName) prog_2_method_2_code (1 : Nat) (Option.some Jvm.ClassFile.FieldType.boolean) ∈ WU := wt_3 (i := 89) rfl rfl
theorem u_224 : Jvm.Cond.methodLink "LeftTillCalled" (213 : Nat) ({ cls := "LeftTillCalled$Sheet", name := "isMissing", desc := "()Z" } : Jvm.MethodName) ∈ WU := wt_3 (i := 86) rfl rfl
theorem u_225 : Jvm.Cond.instanceMethod ({ cls := "LeftTillCalled$Sheet", name := "isMissing", desc := "()Z" } : Jvm.MethodName) ∈ WU := wt_3 (i := 87) rfl rfl
theorem u_226 : Jvm.Cond.selects "LeftTillCalled$Sheet" ({ cls := "LeftTillCalled$Sheet", name := "isMissing", desc := "()Z" } : Jvm.MethodName) ({ cls := "LeftTillCalled$Sheet", name := "isMissing", desc := "()Z" } : Jvm.MethodName) ∈ WU := wt_3 (i := 88) rfl rfl
theorem u_227 : Jvm.Cond.methodLink "LeftTillCalled" (231 : Nat) ({ cls := "java/lang/System", name := "arraycopy", desc := "(Ljava/lang/Object;ILjava/lang/Object;II)V" } : Jvm.MethodName) ∈ WU := wt_3 (i := 103) rfl rfl
theorem u_228 : Jvm.Cond.code ({ cls := "LeftTillCalled$Sheet", name := "hasRun", desc := "(II)Z" } : Jvm.MethodName) prog_2_method_5_code (3 : Nat) (Option.some Jvm.ClassFile.FieldType.boolean) ∈ WU := wt_3 (i := 102) rfl rfl
theorem u_229 : Jvm.Cond.methodLink "LeftTillCalled" (228 : Nat) ({ cls := "LeftTillCalled$Sheet", name := "hasRun", desc := "(II)Z" } : Jvm.MethodName) ∈ WU := wt_3 (i := 99) rfl rfl
theorem u_230 : Jvm.Cond.instanceMethod ({ cls := "LeftTillCalled$Sheet", name := "hasRun", desc := "(II)Z" } : Jvm.MethodName) ∈ WU := wt_3 (i := 100) rfl rfl
theorem u_231 : Jvm.Cond.selects "LeftTillCalled$Sheet" ({ cls := "LeftTillCalled$Sheet", name := "hasRun", desc := "(II)Z" } : Jvm.MethodName) ({ cls := "LeftTillCalled$Sheet", name := "hasRun", desc := "(II)Z" } : Jvm.MethodName) ∈ WU := wt_3 (i := 101) rfl rfl
theorem u_232 : Jvm.Cond.methodLink "LeftTillCalled" (242 : Nat) ({ cls := "LeftTillCalled$Station", name := "goDay", desc := "()V" } : Jvm.MethodName) ∈ WU := wt_3 (i := 117) rfl rfl
theorem u_233 : Jvm.Cond.code ({ cls := "LeftTillCalled", name := "findingOfPage", desc := "(II)I" } : Jvm.MethodName) prog_1_method_43_code (3 : Nat) (Option.some Jvm.ClassFile.FieldType.int) ∈ WU := wt_3 (i := 116) rfl rfl
theorem u_234 : Jvm.Cond.methodLink "LeftTillCalled" (239 : Nat) ({ cls := "LeftTillCalled", name := "findingOfPage", desc := "(II)I" } : Jvm.MethodName) ∈ WU := wt_3 (i := 113) rfl rfl
theorem u_235 : Jvm.Cond.instanceMethod ({ cls := "LeftTillCalled", name := "findingOfPage", desc := "(II)I" } : Jvm.MethodName) ∈ WU := wt_3 (i := 115) rfl rfl
theorem u_236 : Jvm.Cond.selects "LeftTillCalled" ({ cls := "LeftTillCalled", name := "findingOfPage", desc := "(II)I" } : Jvm.MethodName) ({ cls := "LeftTillCalled", name := "findingOfPage", desc := "(II)I" } : Jvm.MethodName) ∈ WU := wt_0 (i := 16) rfl rfl
theorem u_237 : Jvm.Cond.code ({ cls := "LeftTillCalled", name := "isBookedAhead", desc := "(LLeftTillCalled$Sheet;I)Z" } : Jvm.MethodName) prog_1_method_44_code (4 : Nat) (Option.some Jvm.ClassFile.FieldType.boolean) ∈ WU := wt_3 (i := 125) rfl rfl
theorem u_238 : Jvm.Cond.methodLink "LeftTillCalled" (245 : Nat) ({ cls := "LeftTillCalled", name := "isBookedAhead", desc := "(LLeftTillCalled$Sheet;I)Z" } : Jvm.MethodName) ∈ WU := wt_3 (i := 122) rfl rfl
theorem u_239 : Jvm.Cond.instanceMethod ({ cls := "LeftTillCalled", name := "isBookedAhead", desc := "(LLeftTillCalled$Sheet;I)Z" } : Jvm.MethodName) ∈ WU := wt_3 (i := 124) rfl rfl
theorem u_240 : Jvm.Cond.selects "LeftTillCalled" ({ cls := "LeftTillCalled", name := "isBookedAhead", desc := "(LLeftTillCalled$Sheet;I)Z" } : Jvm.MethodName) ({ cls := "LeftTillCalled", name := "isBookedAhead", desc := "(LLeftTillCalled$Sheet;I)Z" } : Jvm.MethodName) ∈ WU := wt_0 (i := 17) rfl rfl
theorem u_241 : Jvm.Cond.code ({ cls := "LeftTillCalled$Station", name := "worthOfAll", desc := "()I" } : Jvm.MethodName) prog_3_method_28_code (3 : Nat) (Option.some Jvm.ClassFile.FieldType.int) ∈ WU := wt_3 (i := 145) rfl rfl
theorem u_242 : Jvm.Cond.methodLink "LeftTillCalled" (249 : Nat) ({ cls := "LeftTillCalled$Station", name := "worthOfAll", desc := "()I" } : Jvm.MethodName) ∈ WU := wt_3 (i := 142) rfl rfl
theorem u_243 : Jvm.Cond.instanceMethod ({ cls := "LeftTillCalled$Station", name := "worthOfAll", desc := "()I" } : Jvm.MethodName) ∈ WU := wt_3 (i := 143) rfl rfl
theorem u_244 : Jvm.Cond.selects "LeftTillCalled$Station" ({ cls := "LeftTillCalled$Station", name := "worthOfAll", desc := "()I" } : Jvm.MethodName) ({ cls := "LeftTillCalled$Station", name := "worthOfAll", desc := "()I" } : Jvm.MethodName) ∈ WU := wt_3 (i := 144) rfl rfl
theorem u_245 : Jvm.Cond.code ({ cls := "LeftTillCalledModel", name := "in", desc := "(JJJ)Z" } : Jvm.MethodName) prog_7_method_2_code (6 : Nat) (Option.some Jvm.ClassFile.FieldType.boolean) ∈ WU := wt_3 (i := 215) rfl rfl
theorem u_246 : Jvm.Cond.methodLink "LeftTillCalledModel" (48 : Nat) ({ cls := "LeftTillCalledModel", name := "in", desc := "(JJJ)Z" } : Jvm.MethodName) ∈ WU := wt_3 (i := 213) rfl rfl
theorem u_247 : Jvm.Cond.initialized "LeftTillCalledModel" ∈ WU := wt_1 (i := 6) rfl rfl
theorem u_248 : Jvm.Cond.static ({ cls := "LeftTillCalledModel", name := "in", desc := "(JJJ)Z" } : Jvm.MethodName) ∈ WU := wt_3 (i := 214) rfl rfl
theorem u_249 : Jvm.Cond.code ({ cls := "LeftTillCalledModel", name := "placeOf", desc := "(II)I" } : Jvm.MethodName) prog_7_method_12_code (2 : Nat) (Option.some Jvm.ClassFile.FieldType.int) ∈ WU := wt_3 (i := 158) rfl rfl
theorem u_250 : Jvm.Cond.methodLink "LeftTillCalledModel" (41 : Nat) ({ cls := "LeftTillCalledModel", name := "placeOf", desc := "(II)I" } : Jvm.MethodName) ∈ WU := wt_3 (i := 156) rfl rfl
theorem u_251 : Jvm.Cond.static ({ cls := "LeftTillCalledModel", name := "placeOf", desc := "(II)I" } : Jvm.MethodName) ∈ WU := wt_3 (i := 157) rfl rfl
theorem u_252 : Jvm.Cond.code ({ cls := "LeftTillCalledModel", name := "spotOf", desc := "(II)I" } : Jvm.MethodName) prog_7_method_13_code (2 : Nat) (Option.some Jvm.ClassFile.FieldType.int) ∈ WU := wt_4 (i := 10) rfl rfl
theorem u_253 : Jvm.Cond.methodLink "LeftTillCalledModel" (52 : Nat) ({ cls := "LeftTillCalledModel", name := "spotOf", desc := "(II)I" } : Jvm.MethodName) ∈ WU := wt_4 (i := 8) rfl rfl
theorem u_254 : Jvm.Cond.static ({ cls := "LeftTillCalledModel", name := "spotOf", desc := "(II)I" } : Jvm.MethodName) ∈ WU := wt_4 (i := 9) rfl rfl
theorem u_255 : Jvm.Cond.code ({ cls := "LeftTillCalledModel", name := "finds", desc := "(I)I" } : Jvm.MethodName) prog_7_method_3_code (2 : Nat) (Option.some Jvm.ClassFile.FieldType.int) ∈ WU := wt_3 (i := 230) rfl rfl
theorem u_256 : Jvm.Cond.methodLink "LeftTillCalledModel" (68 : Nat) ({ cls := "LeftTillCalledModel", name := "finds", desc := "(I)I" } : Jvm.MethodName) ∈ WU := wt_3 (i := 227) rfl rfl
theorem u_257 : Jvm.Cond.instanceMethod ({ cls := "LeftTillCalledModel", name := "finds", desc := "(I)I" } : Jvm.MethodName) ∈ WU := wt_3 (i := 229) rfl rfl
theorem u_258 : Jvm.Cond.selects "LeftTillCalledModel" ({ cls := "LeftTillCalledModel", name := "finds", desc := "(I)I" } : Jvm.MethodName) ({ cls := "LeftTillCalledModel", name := "finds", desc := "(I)I" } : Jvm.MethodName) ∈ WU := wt_0 (i := 19) rfl rfl
theorem u_259 : Jvm.Cond.code ({ cls := "LeftTillCalledModel", name := "becomes", desc := "(II)I" } : Jvm.MethodName) prog_7_method_8_code (4 : Nat) (Option.some Jvm.ClassFile.FieldType.int) ∈ WU := wt_3 (i := 225) rfl rfl
theorem u_260 : Jvm.Cond.methodLink "LeftTillCalledModel" (65 : Nat) ({ cls := "LeftTillCalledModel", name := "becomes", desc := "(II)I" } : Jvm.MethodName) ∈ WU := wt_3 (i := 222) rfl rfl
theorem u_261 : Jvm.Cond.instanceMethod ({ cls := "LeftTillCalledModel", name := "becomes", desc := "(II)I" } : Jvm.MethodName) ∈ WU := wt_3 (i := 224) rfl rfl
theorem u_262 : Jvm.Cond.selects "LeftTillCalledModel" ({ cls := "LeftTillCalledModel", name := "becomes", desc := "(II)I" } : Jvm.MethodName) ({ cls := "LeftTillCalledModel", name := "becomes", desc := "(II)I" } : Jvm.MethodName) ∈ WU := wt_0 (i := 18) rfl rfl
theorem u_263 : Jvm.Cond.code ({ cls := "LeftTillCalledModel", name := "isPerson", desc := "(I)Z" } : Jvm.MethodName) prog_7_method_9_code (1 : Nat) (Option.some Jvm.ClassFile.FieldType.boolean) ∈ WU := wt_3 (i := 220) rfl rfl
theorem u_264 : Jvm.Cond.methodLink "LeftTillCalledModel" (61 : Nat) ({ cls := "LeftTillCalledModel", name := "isPerson", desc := "(I)Z" } : Jvm.MethodName) ∈ WU := wt_3 (i := 218) rfl rfl
theorem u_265 : Jvm.Cond.static ({ cls := "LeftTillCalledModel", name := "isPerson", desc := "(I)Z" } : Jvm.MethodName) ∈ WU := wt_3 (i := 219) rfl rfl
theorem u_266 : Jvm.Cond.code ({ cls := "LeftTillCalledModel", name := "its", desc := "(II)I" } : Jvm.MethodName) prog_7_method_15_code (3 : Nat) (Option.some Jvm.ClassFile.FieldType.int) ∈ WU := wt_4 (i := 7) rfl rfl
theorem u_267 : Jvm.Cond.methodLink "LeftTillCalledModel" (72 : Nat) ({ cls := "LeftTillCalledModel", name := "its", desc := "(II)I" } : Jvm.MethodName) ∈ WU := wt_4 (i := 4) rfl rfl
theorem u_268 : Jvm.Cond.instanceMethod ({ cls := "LeftTillCalledModel", name := "its", desc := "(II)I" } : Jvm.MethodName) ∈ WU := wt_4 (i := 6) rfl rfl
theorem u_269 : Jvm.Cond.selects "LeftTillCalledModel" ({ cls := "LeftTillCalledModel", name := "its", desc := "(II)I" } : Jvm.MethodName) ({ cls := "LeftTillCalledModel", name := "its", desc := "(II)I" } : Jvm.MethodName) ∈ WU := wt_0 (i := 22) rfl rfl
theorem u_270 : Jvm.Cond.code ({ cls := "LeftTillCalledModel", name := "thoseAs", desc := "(II)I" } : Jvm.MethodName) prog_7_method_19_code (5 : Nat) (Option.some Jvm.ClassFile.FieldType.int) ∈ WU := wt_4 (i := 3) rfl rfl
theorem u_271 : Jvm.Cond.methodLink "LeftTillCalledModel" (80 : Nat) ({ cls := "LeftTillCalledModel", name := "thoseAs", desc := "(II)I" } : Jvm.MethodName) ∈ WU := wt_4 (i := 0) rfl rfl
theorem u_272 : Jvm.Cond.instanceMethod ({ cls := "LeftTillCalledModel", name := "thoseAs", desc := "(II)I" } : Jvm.MethodName) ∈ WU := wt_4 (i := 2) rfl rfl
theorem u_273 : Jvm.Cond.selects "LeftTillCalledModel" ({ cls := "LeftTillCalledModel", name := "thoseAs", desc := "(II)I" } : Jvm.MethodName) ({ cls := "LeftTillCalledModel", name := "thoseAs", desc := "(II)I" } : Jvm.MethodName) ∈ WU := wt_0 (i := 21) rfl rfl
theorem u_274 : Jvm.Cond.code ({ cls := "LeftTillCalledModel", name := "his", desc := "(II)I" } : Jvm.MethodName) prog_7_method_14_code (3 : Nat) (Option.some Jvm.ClassFile.FieldType.int) ∈ WU := wt_3 (i := 239) rfl rfl
theorem u_275 : Jvm.Cond.methodLink "LeftTillCalledModel" (77 : Nat) ({ cls := "LeftTillCalledModel", name := "his", desc := "(II)I" } : Jvm.MethodName) ∈ WU := wt_3 (i := 236) rfl rfl
theorem u_276 : Jvm.Cond.instanceMethod ({ cls := "LeftTillCalledModel", name := "his", desc := "(II)I" } : Jvm.MethodName) ∈ WU := wt_3 (i := 238) rfl rfl
theorem u_277 : Jvm.Cond.selects "LeftTillCalledModel" ({ cls := "LeftTillCalledModel", name := "his", desc := "(II)I" } : Jvm.MethodName) ({ cls := "LeftTillCalledModel", name := "his", desc := "(II)I" } : Jvm.MethodName) ∈ WU := wt_0 (i := 20) rfl rfl
theorem u_278 : Jvm.Cond.code ({ cls := "LeftTillCalledModel", name := "adds", desc := "(II)I" } : Jvm.MethodName) prog_7_method_21_code (4 : Nat) (Option.some Jvm.ClassFile.FieldType.int) ∈ WU := wt_4 (i := 22) rfl rfl
theorem u_279 : Jvm.Cond.methodLink "LeftTillCalledModel" (87 : Nat) ({ cls := "LeftTillCalledModel", name := "adds", desc := "(II)I" } : Jvm.MethodName) ∈ WU := wt_4 (i := 19) rfl rfl
theorem u_280 : Jvm.Cond.instanceMethod ({ cls := "LeftTillCalledModel", name := "adds", desc := "(II)I" } : Jvm.MethodName) ∈ WU := wt_4 (i := 21) rfl rfl
theorem u_281 : Jvm.Cond.selects "LeftTillCalledModel" ({ cls := "LeftTillCalledModel", name := "adds", desc := "(II)I" } : Jvm.MethodName) ({ cls := "LeftTillCalledModel", name := "adds", desc := "(II)I" } : Jvm.MethodName) ∈ WU := wt_0 (i := 23) rfl rfl
theorem u_282 : Jvm.Cond.code ({ cls := "LeftTillCalledModel", name := "isKind", desc := "(I)Z" } : Jvm.MethodName) prog_7_method_11_code (1 : Nat) (Option.some Jvm.ClassFile.FieldType.boolean) ∈ WU := wt_4 (i := 17) rfl rfl
theorem u_283 : Jvm.Cond.methodLink "LeftTillCalledModel" (83 : Nat) ({ cls := "LeftTillCalledModel", name := "isKind", desc := "(I)Z" } : Jvm.MethodName) ∈ WU := wt_4 (i := 15) rfl rfl
theorem u_284 : Jvm.Cond.static ({ cls := "LeftTillCalledModel", name := "isKind", desc := "(I)Z" } : Jvm.MethodName) ∈ WU := wt_4 (i := 16) rfl rfl
theorem u_285 : Jvm.Cond.code ({ cls := "LeftTillCalledModel", name := "daysOf", desc := "(I)I" } : Jvm.MethodName) prog_7_method_24_code (2 : Nat) (Option.some Jvm.ClassFile.FieldType.int) ∈ WU := wt_4 (i := 39) rfl rfl
theorem u_286 : Jvm.Cond.methodLink "LeftTillCalledModel" (90 : Nat) ({ cls := "LeftTillCalledModel", name := "daysOf", desc := "(I)I" } : Jvm.MethodName) ∈ WU := wt_4 (i := 36) rfl rfl
theorem u_287 : Jvm.Cond.instanceMethod ({ cls := "LeftTillCalledModel", name := "daysOf", desc := "(I)I" } : Jvm.MethodName) ∈ WU := wt_4 (i := 38) rfl rfl
theorem u_288 : Jvm.Cond.selects "LeftTillCalledModel" ({ cls := "LeftTillCalledModel", name := "daysOf", desc := "(I)I" } : Jvm.MethodName) ({ cls := "LeftTillCalledModel", name := "daysOf", desc := "(I)I" } : Jvm.MethodName) ∈ WU := wt_0 (i := 26) rfl rfl
theorem u_289 : Jvm.Cond.code ({ cls := "LeftTillCalledModel", name := "heldTo", desc := "(II)I" } : Jvm.MethodName) prog_7_method_16_code (2 : Nat) (Option.some Jvm.ClassFile.FieldType.int) ∈ WU := wt_4 (i := 74) rfl rfl
theorem u_290 : Jvm.Cond.methodLink "LeftTillCalledModel" (93 : Nat) ({ cls := "LeftTillCalledModel", name := "heldTo", desc := "(II)I" } : Jvm.MethodName) ∈ WU := wt_4 (i := 72) rfl rfl
theorem u_291 : Jvm.Cond.static ({ cls := "LeftTillCalledModel", name := "heldTo", desc := "(II)I" } : Jvm.MethodName) ∈ WU := wt_4 (i := 73) rfl rfl
theorem u_292 : Jvm.Cond.code ({ cls := "LeftTillCalledModel", name := "maySell", desc := "(I)Z" } : Jvm.MethodName) prog_7_method_26_code (3 : Nat) (Option.some Jvm.ClassFile.FieldType.boolean) ∈ WU := wt_4 (i := 43) rfl rfl
theorem u_293 : Jvm.Cond.methodLink "LeftTillCalledModel" (104 : Nat) ({ cls := "LeftTillCalledModel", name := "maySell", desc := "(I)Z" } : Jvm.MethodName) ∈ WU := wt_4 (i := 40) rfl rfl
theorem u_294 : Jvm.Cond.instanceMethod ({ cls := "LeftTillCalledModel", name := "maySell", desc := "(I)Z" } : Jvm.MethodName) ∈ WU := wt_4 (i := 42) rfl rfl
theorem u_295 : Jvm.Cond.selects "LeftTillCalledModel" ({ cls := "LeftTillCalledModel", name := "maySell", desc := "(I)Z" } : Jvm.MethodName) ({ cls := "LeftTillCalledModel", name := "maySell", desc := "(I)Z" } : Jvm.MethodName) ∈ WU := wt_0 (i := 27) rfl rfl
theorem u_296 : Jvm.Cond.code ({ cls := "LeftTillCalledModel", name := "mountsOf", desc := "(I)I" } : Jvm.MethodName) prog_7_method_25_code (3 : Nat) (Option.some Jvm.ClassFile.FieldType.int) ∈ WU := wt_4 (i := 35) rfl rfl
theorem u_297 : Jvm.Cond.methodLink "LeftTillCalledModel" (101 : Nat) ({ cls := "LeftTillCalledModel", name := "mountsOf", desc := "(I)I" } : Jvm.MethodName) ∈ WU := wt_4 (i := 32) rfl rfl
theorem u_298 : Jvm.Cond.instanceMethod ({ cls := "LeftTillCalledModel", name := "mountsOf", desc := "(I)I" } : Jvm.MethodName) ∈ WU := wt_4 (i := 34) rfl rfl
theorem u_299 : Jvm.Cond.selects "LeftTillCalledModel" ({ cls := "LeftTillCalledModel", name := "mountsOf", desc := "(I)I" } : Jvm.MethodName) ({ cls := "LeftTillCalledModel", name := "mountsOf", desc := "(I)I" } : Jvm.MethodName) ∈ WU := wt_0 (i := 25) rfl rfl
theorem u_300 : Jvm.Cond.code ({ cls := "LeftTillCalledModel", name := "isThing", desc := "(I)Z" } : Jvm.MethodName) prog_7_method_10_code (2 : Nat) (Option.some Jvm.ClassFile.FieldType.boolean) ∈ WU := wt_4 (i := 30) rfl rfl
theorem u_301 : Jvm.Cond.methodLink "LeftTillCalledModel" (96 : Nat) ({ cls := "LeftTillCalledModel", name := "isThing", desc := "(I)Z" } : Jvm.MethodName) ∈ WU := wt_4 (i := 27) rfl rfl
theorem u_302 : Jvm.Cond.instanceMethod ({ cls := "LeftTillCalledModel", name := "isThing", desc := "(I)Z" } : Jvm.MethodName) ∈ WU := wt_4 (i := 29) rfl rfl
theorem u_303 : Jvm.Cond.selects "LeftTillCalledModel" ({ cls := "LeftTillCalledModel", name := "isThing", desc := "(I)Z" } : Jvm.MethodName) ({ cls := "LeftTillCalledModel", name := "isThing", desc := "(I)Z" } : Jvm.MethodName) ∈ WU := wt_0 (i := 24) rfl rfl
theorem u_304 : Jvm.Cond.code ({ cls := "LeftTillCalledModel", name := "isPart", desc := "(II)Z" } : Jvm.MethodName) prog_7_method_29_code (2 : Nat) (Option.some Jvm.ClassFile.FieldType.boolean) ∈ WU := wt_4 (i := 50) rfl rfl
theorem u_305 : Jvm.Cond.methodLink "LeftTillCalledModel" (109 : Nat) ({ cls := "LeftTillCalledModel", name := "isPart", desc := "(II)Z" } : Jvm.MethodName) ∈ WU := wt_4 (i := 48) rfl rfl
theorem u_306 : Jvm.Cond.static ({ cls := "LeftTillCalledModel", name := "isPart", desc := "(II)Z" } : Jvm.MethodName) ∈ WU := wt_4 (i := 49) rfl rfl
theorem u_307 : Jvm.Cond.code ({ cls := "LeftTillCalledModel", name := "isUnder", desc := "(II)Z" } : Jvm.MethodName) prog_7_method_32_code (2 : Nat) (Option.some Jvm.ClassFile.FieldType.boolean) ∈ WU := wt_4 (i := 62) rfl rfl
theorem u_308 : Jvm.Cond.methodLink "LeftTillCalledModel" (113 : Nat) ({ cls := "LeftTillCalledModel", name := "isUnder", desc := "(II)Z" } : Jvm.MethodName) ∈ WU := wt_4 (i := 60) rfl rfl
theorem u_309 : Jvm.Cond.static ({ cls := "LeftTillCalledModel", name := "isUnder", desc := "(II)Z" } : Jvm.MethodName) ∈ WU := wt_4 (i := 61) rfl rfl
theorem u_310 : Jvm.Cond.code ({ cls := "LeftTillCalledModel", name := "bidOf", desc := "(II)I" } : Jvm.MethodName) prog_7_method_27_code (6 : Nat) (Option.some Jvm.ClassFile.FieldType.int) ∈ WU := wt_4 (i := 71) rfl rfl
theorem u_311 : Jvm.Cond.methodLink "LeftTillCalledModel" (117 : Nat) ({ cls := "LeftTillCalledModel", name := "bidOf", desc := "(II)I" } : Jvm.MethodName) ∈ WU := wt_4 (i := 68) rfl rfl
theorem u_312 : Jvm.Cond.instanceMethod ({ cls := "LeftTillCalledModel", name := "bidOf", desc := "(II)I" } : Jvm.MethodName) ∈ WU := wt_4 (i := 70) rfl rfl
theorem u_313 : Jvm.Cond.selects "LeftTillCalledModel" ({ cls := "LeftTillCalledModel", name := "bidOf", desc := "(II)I" } : Jvm.MethodName) ({ cls := "LeftTillCalledModel", name := "bidOf", desc := "(II)I" } : Jvm.MethodName) ∈ WU := wt_0 (i := 28) rfl rfl
theorem u_314 : Jvm.Cond.code ({ cls := "LeftTillCalledModel", name := "isThere", desc := "(I)Z" } : Jvm.MethodName) prog_7_method_23_code (2 : Nat) (Option.some Jvm.ClassFile.FieldType.boolean) ∈ WU := wt_4 (i := 86) rfl rfl
theorem u_315 : Jvm.Cond.methodLink "LeftTillCalledModel" (121 : Nat) ({ cls := "LeftTillCalledModel", name := "isThere", desc := "(I)Z" } : Jvm.MethodName) ∈ WU := wt_4 (i := 83) rfl rfl
theorem u_316 : Jvm.Cond.instanceMethod ({ cls := "LeftTillCalledModel", name := "isThere", desc := "(I)Z" } : Jvm.MethodName) ∈ WU := wt_4 (i := 85) rfl rfl
theorem u_317 : Jvm.Cond.selects "LeftTillCalledModel" ({ cls := "LeftTillCalledModel", name := "isThere", desc := "(I)Z" } : Jvm.MethodName) ({ cls := "LeftTillCalledModel", name := "isThere", desc := "(I)Z" } : Jvm.MethodName) ∈ WU := wt_0 (i := 30) rfl rfl
theorem u_318 : Jvm.Cond.code ({ cls := "LeftTillCalledModel", name := "comesTo", desc := "(III)V" } : Jvm.MethodName) prog_7_method_35_code (4 : Nat) (Option.none : Option Jvm.ClassFile.FieldType) ∈ WU := wt_4 (i := 94) rfl rfl
theorem u_319 : Jvm.Cond.methodLink "LeftTillCalledModel" (124 : Nat) ({ cls := "LeftTillCalledModel", name := "comesTo", desc := "(III)V" } : Jvm.MethodName) ∈ WU := wt_4 (i := 91) rfl rfl
theorem u_320 : Jvm.Cond.instanceMethod ({ cls := "LeftTillCalledModel", name := "comesTo", desc := "(III)V" } : Jvm.MethodName) ∈ WU := wt_4 (i := 93) rfl rfl
theorem u_321 : Jvm.Cond.selects "LeftTillCalledModel" ({ cls := "LeftTillCalledModel", name := "comesTo", desc := "(III)V" } : Jvm.MethodName) ({ cls := "LeftTillCalledModel", name := "comesTo", desc := "(III)V" } : Jvm.MethodName) ∈ WU := wt_0 (i := 32) rfl rfl
theorem u_322 : Jvm.Cond.code ({ cls := "LeftTillCalledModel", name := "calls", desc := "(I)I" } : Jvm.MethodName) prog_7_method_37_code (3 : Nat) (Option.some Jvm.ClassFile.FieldType.int) ∈ WU := wt_4 (i := 90) rfl rfl
theorem u_323 : Jvm.Cond.methodLink "LeftTillCalledModel" (131 : Nat) ({ cls := "LeftTillCalledModel", name := "calls", desc := "(I)I" } : Jvm.MethodName) ∈ WU := wt_4 (i := 87) rfl rfl
theorem u_324 : Jvm.Cond.instanceMethod ({ cls := "LeftTillCalledModel", name := "calls", desc := "(I)I" } : Jvm.MethodName) ∈ WU := wt_4 (i := 89) rfl rfl
theorem u_325 : Jvm.Cond.selects "LeftTillCalledModel" ({ cls := "LeftTillCalledModel", name := "calls", desc := "(I)I" } : Jvm.MethodName) ({ cls := "LeftTillCalledModel", name := "calls", desc := "(I)I" } : Jvm.MethodName) ∈ WU := wt_0 (i := 31) rfl rfl
theorem u_326 : Jvm.Cond.code ({ cls := "LeftTillCalledModel", name := "mayCall", desc := "(I)Z" } : Jvm.MethodName) prog_7_method_36_code (2 : Nat) (Option.some Jvm.ClassFile.FieldType.boolean) ∈ WU := wt_4 (i := 82) rfl rfl
theorem u_327 : Jvm.Cond.methodLink "LeftTillCalledModel" (128 : Nat) ({ cls := "LeftTillCalledModel", name := "mayCall", desc := "(I)Z" } : Jvm.MethodName) ∈ WU := wt_4 (i := 79) rfl rfl
theorem u_328 : Jvm.Cond.instanceMethod ({ cls := "LeftTillCalledModel", name := "mayCall", desc := "(I)Z" } : Jvm.MethodName) ∈ WU := wt_4 (i := 81) rfl rfl
theorem u_329 : Jvm.Cond.selects "LeftTillCalledModel" ({ cls := "LeftTillCalledModel", name := "mayCall", desc := "(I)Z" } : Jvm.MethodName) ({ cls := "LeftTillCalledModel", name := "mayCall", desc := "(I)Z" } : Jvm.MethodName) ∈ WU := wt_0 (i := 29) rfl rfl
theorem u_330 : Jvm.Cond.code ({ cls := "LeftTillCalledModel", name := "isOffered", desc := "(I)V" } : Jvm.MethodName) prog_7_method_43_code (6 : Nat) (Option.none : Option Jvm.ClassFile.FieldType) ∈ WU := wt_4 (i := 130) rfl rfl
theorem u_331 : Jvm.Cond.methodLink "LeftTillCalledModel" (146 : Nat) ({ cls := "LeftTillCalledModel", name := "isOffered", desc := "(I)V" } : Jvm.MethodName) ∈ WU := wt_4 (i := 127) rfl rfl
theorem u_332 : Jvm.Cond.instanceMethod ({ cls := "LeftTillCalledModel", name := "isOffered", desc := "(I)V" } : Jvm.MethodName) ∈ WU := wt_4 (i := 129) rfl rfl
theorem u_333 : Jvm.Cond.selects "LeftTillCalledModel" ({ cls := "LeftTillCalledModel", name := "isOffered", desc := "(I)V" } : Jvm.MethodName) ({ cls := "LeftTillCalledModel", name := "isOffered", desc := "(I)V" } : Jvm.MethodName) ∈ WU := wt_0 (i := 38) rfl rfl
theorem u_334 : Jvm.Cond.code ({ cls := "LeftTillCalledModel", name := "callsFor", desc := "(I)V" } : Jvm.MethodName) prog_7_method_42_code (4 : Nat) (Option.none : Option Jvm.ClassFile.FieldType) ∈ WU := wt_4 (i := 126) rfl rfl
theorem u_335 : Jvm.Cond.methodLink "LeftTillCalledModel" (142 : Nat) ({ cls := "LeftTillCalledModel", name := "callsFor", desc := "(I)V" } : Jvm.MethodName) ∈ WU := wt_4 (i := 123) rfl rfl
theorem u_336 : Jvm.Cond.instanceMethod ({ cls := "LeftTillCalledModel", name := "callsFor", desc := "(I)V" } : Jvm.MethodName) ∈ WU := wt_4 (i := 125) rfl rfl
theorem u_337 : Jvm.Cond.selects "LeftTillCalledModel" ({ cls := "LeftTillCalledModel", name := "callsFor", desc := "(I)V" } : Jvm.MethodName) ({ cls := "LeftTillCalledModel", name := "callsFor", desc := "(I)V" } : Jvm.MethodName) ∈ WU := wt_0 (i := 37) rfl rfl
theorem u_338 : Jvm.Cond.code ({ cls := "LeftTillCalledModel", name := "earn", desc := "()V" } : Jvm.MethodName) prog_7_method_41_code (3 : Nat) (Option.none : Option Jvm.ClassFile.FieldType) ∈ WU := wt_4 (i := 122) rfl rfl
theorem u_339 : Jvm.Cond.methodLink "LeftTillCalledModel" (139 : Nat) ({ cls := "LeftTillCalledModel", name := "earn", desc := "()V" } : Jvm.MethodName) ∈ WU := wt_4 (i := 119) rfl rfl
theorem u_340 : Jvm.Cond.instanceMethod ({ cls := "LeftTillCalledModel", name := "earn", desc := "()V" } : Jvm.MethodName) ∈ WU := wt_4 (i := 121) rfl rfl
theorem u_341 : Jvm.Cond.selects "LeftTillCalledModel" ({ cls := "LeftTillCalledModel", name := "earn", desc := "()V" } : Jvm.MethodName) ({ cls := "LeftTillCalledModel", name := "earn", desc := "()V" } : Jvm.MethodName) ∈ WU := wt_0 (i := 36) rfl rfl
theorem u_342 : Jvm.Cond.code ({ cls := "LeftTillCalledModel", name := "mount", desc := "()V" } : Jvm.MethodName) prog_7_method_40_code (2 : Nat) (Option.none : Option Jvm.ClassFile.FieldType) ∈ WU := wt_4 (i := 117) rfl rfl
theorem u_343 : Jvm.Cond.methodLink "LeftTillCalledModel" (136 : Nat) ({ cls := "LeftTillCalledModel", name := "mount", desc := "()V" } : Jvm.MethodName) ∈ WU := wt_4 (i := 114) rfl rfl
theorem u_344 : Jvm.Cond.instanceMethod ({ cls := "LeftTillCalledModel", name := "mount", desc := "()V" } : Jvm.MethodName) ∈ WU := wt_4 (i := 116) rfl rfl
theorem u_345 : Jvm.Cond.selects "LeftTillCalledModel" ({ cls := "LeftTillCalledModel", name := "mount", desc := "()V" } : Jvm.MethodName) ({ cls := "LeftTillCalledModel", name := "mount", desc := "()V" } : Jvm.MethodName) ∈ WU := wt_0 (i := 35) rfl rfl
theorem u_346 : Jvm.Cond.code ({ cls := "LeftTillCalledModel", name := "day", desc := "()V" } : Jvm.MethodName) prog_7_method_44_code (2 : Nat) (Option.none : Option Jvm.ClassFile.FieldType) ∈ WU := wt_4 (i := 113) rfl rfl
theorem u_347 : Jvm.Cond.methodLink "LeftTillCalledModel" (149 : Nat) ({ cls := "LeftTillCalledModel", name := "day", desc := "()V" } : Jvm.MethodName) ∈ WU := wt_4 (i := 110) rfl rfl
theorem u_348 : Jvm.Cond.instanceMethod ({ cls := "LeftTillCalledModel", name := "day", desc := "()V" } : Jvm.MethodName) ∈ WU := wt_4 (i := 112) rfl rfl
theorem u_349 : Jvm.Cond.selects "LeftTillCalledModel" ({ cls := "LeftTillCalledModel", name := "day", desc := "()V" } : Jvm.MethodName) ({ cls := "LeftTillCalledModel", name := "day", desc := "()V" } : Jvm.MethodName) ∈ WU := wt_0 (i := 34) rfl rfl
theorem u_350 : Jvm.Cond.code ({ cls := "LeftTillCalledModel", name := "thoseThere", desc := "()I" } : Jvm.MethodName) prog_7_method_46_code (1 : Nat) (Option.some Jvm.ClassFile.FieldType.int) ∈ WU := wt_4 (i := 134) rfl rfl
theorem u_351 : Jvm.Cond.methodLink "LeftTillCalledModel" (157 : Nat) ({ cls := "LeftTillCalledModel", name := "thoseThere", desc := "()I" } : Jvm.MethodName) ∈ WU := wt_4 (i := 131) rfl rfl
theorem u_352 : Jvm.Cond.instanceMethod ({ cls := "LeftTillCalledModel", name := "thoseThere", desc := "()I" } : Jvm.MethodName) ∈ WU := wt_4 (i := 133) rfl rfl
theorem u_353 : Jvm.Cond.selects "LeftTillCalledModel" ({ cls := "LeftTillCalledModel", name := "thoseThere", desc := "()I" } : Jvm.MethodName) ({ cls := "LeftTillCalledModel", name := "thoseThere", desc := "()I" } : Jvm.MethodName) ∈ WU := wt_0 (i := 39) rfl rfl
theorem u_354 : Jvm.Cond.code ({ cls := "LeftTillCalledModel", name := "daysGo", desc := "(I)V" } : Jvm.MethodName) prog_7_method_45_code (3 : Nat) (Option.none : Option Jvm.ClassFile.FieldType) ∈ WU := wt_4 (i := 109) rfl rfl
theorem u_355 : Jvm.Cond.methodLink "LeftTillCalledModel" (154 : Nat) ({ cls := "LeftTillCalledModel", name := "daysGo", desc := "(I)V" } : Jvm.MethodName) ∈ WU := wt_4 (i := 106) rfl rfl
theorem u_356 : Jvm.Cond.instanceMethod ({ cls := "LeftTillCalledModel", name := "daysGo", desc := "(I)V" } : Jvm.MethodName) ∈ WU := wt_4 (i := 108) rfl rfl
theorem u_357 : Jvm.Cond.selects "LeftTillCalledModel" ({ cls := "LeftTillCalledModel", name := "daysGo", desc := "(I)V" } : Jvm.MethodName) ({ cls := "LeftTillCalledModel", name := "daysGo", desc := "(I)V" } : Jvm.MethodName) ∈ WU := wt_0 (i := 33) rfl rfl
theorem u_358 : Jvm.Cond.code ({ cls := "LeftTillCalledModel", name := "forSale", desc := "()I" } : Jvm.MethodName) prog_7_method_50_code (3 : Nat) (Option.some Jvm.ClassFile.FieldType.int) ∈ WU := wt_4 (i := 150) rfl rfl
theorem u_359 : Jvm.Cond.methodLink "LeftTillCalledModel" (167 : Nat) ({ cls := "LeftTillCalledModel", name := "forSale", desc := "()I" } : Jvm.MethodName) ∈ WU := wt_4 (i := 147) rfl rfl
theorem u_360 : Jvm.Cond.instanceMethod ({ cls := "LeftTillCalledModel", name := "forSale", desc := "()I" } : Jvm.MethodName) ∈ WU := wt_4 (i := 149) rfl rfl
theorem u_361 : Jvm.Cond.selects "LeftTillCalledModel" ({ cls := "LeftTillCalledModel", name := "forSale", desc := "()I" } : Jvm.MethodName) ({ cls := "LeftTillCalledModel", name := "forSale", desc := "()I" } : Jvm.MethodName) ∈ WU := wt_0 (i := 42) rfl rfl
theorem u_362 : Jvm.Cond.code ({ cls := "LeftTillCalledModel", name := "meansAll", desc := "()I" } : Jvm.MethodName) prog_7_method_49_code (3 : Nat) (Option.some Jvm.ClassFile.FieldType.int) ∈ WU := wt_4 (i := 146) rfl rfl
theorem u_363 : Jvm.Cond.methodLink "LeftTillCalledModel" (164 : Nat) ({ cls := "LeftTillCalledModel", name := "meansAll", desc := "()I" } : Jvm.MethodName) ∈ WU := wt_4 (i := 143) rfl rfl
theorem u_364 : Jvm.Cond.instanceMethod ({ cls := "LeftTillCalledModel", name := "meansAll", desc := "()I" } : Jvm.MethodName) ∈ WU := wt_4 (i := 145) rfl rfl
theorem u_365 : Jvm.Cond.selects "LeftTillCalledModel" ({ cls := "LeftTillCalledModel", name := "meansAll", desc := "()I" } : Jvm.MethodName) ({ cls := "LeftTillCalledModel", name := "meansAll", desc := "()I" } : Jvm.MethodName) ∈ WU := wt_0 (i := 41) rfl rfl
theorem u_366 : Jvm.Cond.code ({ cls := "LeftTillCalledModel", name := "duesThere", desc := "()I" } : Jvm.MethodName) prog_7_method_48_code (3 : Nat) (Option.some Jvm.ClassFile.FieldType.int) ∈ WU := wt_4 (i := 142) rfl rfl
theorem u_367 : Jvm.Cond.methodLink "LeftTillCalledModel" (161 : Nat) ({ cls := "LeftTillCalledModel", name := "duesThere", desc := "()I" } : Jvm.MethodName) ∈ WU := wt_4 (i := 139) rfl rfl
theorem u_368 : Jvm.Cond.instanceMethod ({ cls := "LeftTillCalledModel", name := "duesThere", desc := "()I" } : Jvm.MethodName) ∈ WU := wt_4 (i := 141) rfl rfl
theorem u_369 : Jvm.Cond.selects "LeftTillCalledModel" ({ cls := "LeftTillCalledModel", name := "duesThere", desc := "()I" } : Jvm.MethodName) ({ cls := "LeftTillCalledModel", name := "duesThere", desc := "()I" } : Jvm.MethodName) ∈ WU := wt_0 (i := 40) rfl rfl
theorem u_370 : Jvm.Cond.code ({ cls := "LeftTillCalledModel", name := "takesBack", desc := "(I)I" } : Jvm.MethodName) prog_7_method_7_code (3 : Nat) (Option.some Jvm.ClassFile.FieldType.int) ∈ WU := wt_4 (i := 166) rfl rfl
theorem u_371 : Jvm.Cond.methodLink "LeftTillCalledModel" (173 : Nat) ({ cls := "LeftTillCalledModel", name := "takesBack", desc := "(I)I" } : Jvm.MethodName) ∈ WU := wt_4 (i := 163) rfl rfl
theorem u_372 : Jvm.Cond.instanceMethod ({ cls := "LeftTillCalledModel", name := "takesBack", desc := "(I)I" } : Jvm.MethodName) ∈ WU := wt_4 (i := 165) rfl rfl
theorem u_373 : Jvm.Cond.selects "LeftTillCalledModel" ({ cls := "LeftTillCalledModel", name := "takesBack", desc := "(I)I" } : Jvm.MethodName) ({ cls := "LeftTillCalledModel", name := "takesBack", desc := "(I)I" } : Jvm.MethodName) ∈ WU := wt_0 (i := 45) rfl rfl
theorem u_374 : Jvm.Cond.code ({ cls := "LeftTillCalledModel", name := "laysAside", desc := "()V" } : Jvm.MethodName) prog_7_method_6_code (2 : Nat) (Option.none : Option Jvm.ClassFile.FieldType) ∈ WU := wt_4 (i := 162) rfl rfl
theorem u_375 : Jvm.Cond.methodLink "LeftTillCalledModel" (170 : Nat) ({ cls := "LeftTillCalledModel", name := "laysAside", desc := "()V" } : Jvm.MethodName) ∈ WU := wt_4 (i := 159) rfl rfl
theorem u_376 : Jvm.Cond.instanceMethod ({ cls := "LeftTillCalledModel", name := "laysAside", desc := "()V" } : Jvm.MethodName) ∈ WU := wt_4 (i := 161) rfl rfl
theorem u_377 : Jvm.Cond.selects "LeftTillCalledModel" ({ cls := "LeftTillCalledModel", name := "laysAside", desc := "()V" } : Jvm.MethodName) ({ cls := "LeftTillCalledModel", name := "laysAside", desc := "()V" } : Jvm.MethodName) ∈ WU := wt_0 (i := 44) rfl rfl
theorem u_378 : Jvm.Cond.code ({ cls := "LeftTillCalledModel", name := "behind", desc := "(II)I" } : Jvm.MethodName) prog_7_method_52_code (3 : Nat) (Option.some Jvm.ClassFile.FieldType.int) ∈ WU := wt_4 (i := 158) rfl rfl
theorem u_379 : Jvm.Cond.methodLink "LeftTillCalledModel" (176 : Nat) ({ cls := "LeftTillCalledModel", name := "behind", desc := "(II)I" } : Jvm.MethodName) ∈ WU := wt_4 (i := 155) rfl rfl
theorem u_380 : Jvm.Cond.instanceMethod ({ cls := "LeftTillCalledModel", name := "behind", desc := "(II)I" } : Jvm.MethodName) ∈ WU := wt_4 (i := 157) rfl rfl
theorem u_381 : Jvm.Cond.selects "LeftTillCalledModel" ({ cls := "LeftTillCalledModel", name := "behind", desc := "(II)I" } : Jvm.MethodName) ({ cls := "LeftTillCalledModel", name := "behind", desc := "(II)I" } : Jvm.MethodName) ∈ WU := wt_0 (i := 43) rfl rfl
theorem u_382 : Jvm.Cond.code ({ cls := "LeftTillCalledModel", name := "orNone", desc := "(II)I" } : Jvm.MethodName) prog_7_method_56_code (3 : Nat) (Option.some Jvm.ClassFile.FieldType.int) ∈ WU := wt_4 (i := 182) rfl rfl
theorem u_383 : Jvm.Cond.methodLink "LeftTillCalledModel" (184 : Nat) ({ cls := "LeftTillCalledModel", name := "orNone", desc := "(II)I" } : Jvm.MethodName) ∈ WU := wt_4 (i := 179) rfl rfl
theorem u_384 : Jvm.Cond.instanceMethod ({ cls := "LeftTillCalledModel", name := "orNone", desc := "(II)I" } : Jvm.MethodName) ∈ WU := wt_4 (i := 181) rfl rfl
theorem u_385 : Jvm.Cond.selects "LeftTillCalledModel" ({ cls := "LeftTillCalledModel", name := "orNone", desc := "(II)I" } : Jvm.MethodName) ({ cls := "LeftTillCalledModel", name := "orNone", desc := "(II)I" } : Jvm.MethodName) ∈ WU := wt_0 (i := 47) rfl rfl
theorem u_386 : Jvm.Cond.code ({ cls := "LeftTillCalledModel", name := "goneIn", desc := "(III)I" } : Jvm.MethodName) prog_7_method_55_code (5 : Nat) (Option.some Jvm.ClassFile.FieldType.int) ∈ WU := wt_4 (i := 178) rfl rfl
theorem u_387 : Jvm.Cond.methodLink "LeftTillCalledModel" (180 : Nat) ({ cls := "LeftTillCalledModel", name := "goneIn", desc := "(III)I" } : Jvm.MethodName) ∈ WU := wt_4 (i := 175) rfl rfl
theorem u_388 : Jvm.Cond.instanceMethod ({ cls := "LeftTillCalledModel", name := "goneIn", desc := "(III)I" } : Jvm.MethodName) ∈ WU := wt_4 (i := 177) rfl rfl
theorem u_389 : Jvm.Cond.selects "LeftTillCalledModel" ({ cls := "LeftTillCalledModel", name := "goneIn", desc := "(III)I" } : Jvm.MethodName) ({ cls := "LeftTillCalledModel", name := "goneIn", desc := "(III)I" } : Jvm.MethodName) ∈ WU := wt_0 (i := 46) rfl rfl
theorem u_390 : Jvm.Cond.code ({ cls := "LeftTillCalledModel", name := "isSoon", desc := "(I)Z" } : Jvm.MethodName) prog_7_method_60_code (1 : Nat) (Option.some Jvm.ClassFile.FieldType.boolean) ∈ WU := wt_4 (i := 198) rfl rfl
theorem u_391 : Jvm.Cond.methodLink "LeftTillCalledModel" (189 : Nat) ({ cls := "LeftTillCalledModel", name := "isSoon", desc := "(I)Z" } : Jvm.MethodName) ∈ WU := wt_4 (i := 196) rfl rfl
theorem u_392 : Jvm.Cond.static ({ cls := "LeftTillCalledModel", name := "isSoon", desc := "(I)Z" } : Jvm.MethodName) ∈ WU := wt_4 (i := 197) rfl rfl
theorem u_393 : Jvm.Cond.code ({ cls := "LeftTillCalledModel", name := "soonestBy", desc := "(IIII)I" } : Jvm.MethodName) prog_7_method_64_code (10 : Nat) (Option.some Jvm.ClassFile.FieldType.int) ∈ WU := wt_4 (i := 211) rfl rfl
theorem u_394 : Jvm.Cond.methodLink "LeftTillCalledModel" (192 : Nat) ({ cls := "LeftTillCalledModel", name := "soonestBy", desc := "(IIII)I" } : Jvm.MethodName) ∈ WU := wt_4 (i := 208) rfl rfl
theorem u_395 : Jvm.Cond.instanceMethod ({ cls := "LeftTillCalledModel", name := "soonestBy", desc := "(IIII)I" } : Jvm.MethodName) ∈ WU := wt_4 (i := 210) rfl rfl
theorem u_396 : Jvm.Cond.selects "LeftTillCalledModel" ({ cls := "LeftTillCalledModel", name := "soonestBy", desc := "(IIII)I" } : Jvm.MethodName) ({ cls := "LeftTillCalledModel", name := "soonestBy", desc := "(IIII)I" } : Jvm.MethodName) ∈ WU := wt_0 (i := 48) rfl rfl
theorem u_397 : Jvm.Cond.code ({ cls := "LeftTillCalledModel", name := "ones", desc := "(I)I" } : Jvm.MethodName) prog_7_method_17_code (3 : Nat) (Option.some Jvm.ClassFile.FieldType.int) ∈ WU := wt_4 (i := 222) rfl rfl
theorem u_398 : Jvm.Cond.methodLink "LeftTillCalledModel" (196 : Nat) ({ cls := "LeftTillCalledModel", name := "ones", desc := "(I)I" } : Jvm.MethodName) ∈ WU := wt_4 (i := 220) rfl rfl
theorem u_399 : Jvm.Cond.static ({ cls := "LeftTillCalledModel", name := "ones", desc := "(I)I" } : Jvm.MethodName) ∈ WU := wt_4 (i := 221) rfl rfl
theorem u_400 : Jvm.Cond.code ({ cls := "LeftTillCalledModel", name := "isDigit", desc := "(I)Z" } : Jvm.MethodName) prog_7_method_73_code (1 : Nat) (Option.some Jvm.ClassFile.FieldType.boolean) ∈ WU := wt_5 (i := 22) rfl rfl
theorem u_401 : Jvm.Cond.methodLink "LeftTillCalledModel" (223 : Nat) ({ cls := "LeftTillCalledModel", name := "isDigit", desc := "(I)Z" } : Jvm.MethodName) ∈ WU := wt_5 (i := 20) rfl rfl
theorem u_402 : Jvm.Cond.static ({ cls := "LeftTillCalledModel", name := "isDigit", desc := "(I)Z" } : Jvm.MethodName) ∈ WU := wt_5 (i := 21) rfl rfl
theorem u_403 : Jvm.Cond.code ({ cls := "LeftTillCalledModel", name := "isLetter", desc := "(I)Z" } : Jvm.MethodName) prog_7_method_72_code (1 : Nat) (Option.some Jvm.ClassFile.FieldType.boolean) ∈ WU := wt_5 (i := 17) rfl rfl
theorem u_404 : Jvm.Cond.methodLink "LeftTillCalledModel" (220 : Nat) ({ cls := "LeftTillCalledModel", name := "isLetter", desc := "(I)Z" } : Jvm.MethodName) ∈ WU := wt_5 (i := 15) rfl rfl
theorem u_405 : Jvm.Cond.static ({ cls := "LeftTillCalledModel", name := "isLetter", desc := "(I)Z" } : Jvm.MethodName) ∈ WU := wt_5 (i := 16) rfl rfl
theorem u_406 : Jvm.Cond.code ({ cls := "LeftTillCalledModel", name := "byteAt", desc := "(I)I" } : Jvm.MethodName) prog_7_method_71_code (2 : Nat) (Option.some Jvm.ClassFile.FieldType.int) ∈ WU := wt_5 (i := 14) rfl rfl
theorem u_407 : Jvm.Cond.methodLink "LeftTillCalledModel" (217 : Nat) ({ cls := "LeftTillCalledModel", name := "byteAt", desc := "(I)I" } : Jvm.MethodName) ∈ WU := wt_5 (i := 11) rfl rfl
theorem u_408 : Jvm.Cond.instanceMethod ({ cls := "LeftTillCalledModel", name := "byteAt", desc := "(I)I" } : Jvm.MethodName) ∈ WU := wt_5 (i := 13) rfl rfl
theorem u_409 : Jvm.Cond.selects "LeftTillCalledModel" ({ cls := "LeftTillCalledModel", name := "byteAt", desc := "(I)I" } : Jvm.MethodName) ({ cls := "LeftTillCalledModel", name := "byteAt", desc := "(I)I" } : Jvm.MethodName) ∈ WU := wt_0 (i := 51) rfl rfl
theorem u_410 : Jvm.Cond.code ({ cls := "LeftTillCalledModel", name := "token", desc := "()V" } : Jvm.MethodName) prog_7_method_74_code (3 : Nat) (Option.none : Option Jvm.ClassFile.FieldType) ∈ WU := wt_5 (i := 10) rfl rfl
theorem u_411 : Jvm.Cond.methodLink "LeftTillCalledModel" (230 : Nat) ({ cls := "LeftTillCalledModel", name := "token", desc := "()V" } : Jvm.MethodName) ∈ WU := wt_5 (i := 7) rfl rfl
theorem u_412 : Jvm.Cond.instanceMethod ({ cls := "LeftTillCalledModel", name := "token", desc := "()V" } : Jvm.MethodName) ∈ WU := wt_5 (i := 9) rfl rfl
theorem u_413 : Jvm.Cond.selects "LeftTillCalledModel" ({ cls := "LeftTillCalledModel", name := "token", desc := "()V" } : Jvm.MethodName) ({ cls := "LeftTillCalledModel", name := "token", desc := "()V" } : Jvm.MethodName) ∈ WU := wt_0 (i := 50) rfl rfl
theorem u_414 : Jvm.Cond.code ({ cls := "LeftTillCalledModel", name := "must", desc := "(Z)V" } : Jvm.MethodName) prog_7_method_75_code (2 : Nat) (Option.none : Option Jvm.ClassFile.FieldType) ∈ WU := wt_5 (i := 52) rfl rfl
theorem u_415 : Jvm.Cond.methodLink "LeftTillCalledModel" (240 : Nat) ({ cls := "LeftTillCalledModel", name := "must", desc := "(Z)V" } : Jvm.MethodName) ∈ WU := wt_5 (i := 49) rfl rfl
theorem u_416 : Jvm.Cond.instanceMethod ({ cls := "LeftTillCalledModel", name := "must", desc := "(Z)V" } : Jvm.MethodName) ∈ WU := wt_5 (i := 51) rfl rfl
theorem u_417 : Jvm.Cond.selects "LeftTillCalledModel" ({ cls := "LeftTillCalledModel", name := "must", desc := "(Z)V" } : Jvm.MethodName) ({ cls := "LeftTillCalledModel", name := "must", desc := "(Z)V" } : Jvm.MethodName) ∈ WU := wt_0 (i := 56) rfl rfl
theorem u_418 : Jvm.Cond.code ({ cls := "LeftTillCalledModel", name := "word", desc := "()J" } : Jvm.MethodName) prog_7_method_76_code (4 : Nat) (Option.some Jvm.ClassFile.FieldType.long) ∈ WU := wt_5 (i := 36) rfl rfl
theorem u_419 : Jvm.Cond.methodLink "LeftTillCalledModel" (244 : Nat) ({ cls := "LeftTillCalledModel", name := "word", desc := "()J" } : Jvm.MethodName) ∈ WU := wt_5 (i := 33) rfl rfl
theorem u_420 : Jvm.Cond.instanceMethod ({ cls := "LeftTillCalledModel", name := "word", desc := "()J" } : Jvm.MethodName) ∈ WU := wt_5 (i := 35) rfl rfl
theorem u_421 : Jvm.Cond.selects "LeftTillCalledModel" ({ cls := "LeftTillCalledModel", name := "word", desc := "()J" } : Jvm.MethodName) ({ cls := "LeftTillCalledModel", name := "word", desc := "()J" } : Jvm.MethodName) ∈ WU := wt_0 (i := 54) rfl rfl
theorem u_422 : Jvm.Cond.code ({ cls := "LeftTillCalledModel", name := "number", desc := "(II)V" } : Jvm.MethodName) prog_7_method_77_code (6 : Nat) (Option.none : Option Jvm.ClassFile.FieldType) ∈ WU := wt_5 (i := 61) rfl rfl
theorem u_423 : Jvm.Cond.methodLink "LeftTillCalledModel" (260 : Nat) ({ cls := "LeftTillCalledModel", name := "number", desc := "(II)V" } : Jvm.MethodName) ∈ WU := wt_5 (i := 58) rfl rfl
theorem u_424 : Jvm.Cond.instanceMethod ({ cls := "LeftTillCalledModel", name := "number", desc := "(II)V" } : Jvm.MethodName) ∈ WU := wt_5 (i := 60) rfl rfl
theorem u_425 : Jvm.Cond.selects "LeftTillCalledModel" ({ cls := "LeftTillCalledModel", name := "number", desc := "(II)V" } : Jvm.MethodName) ({ cls := "LeftTillCalledModel", name := "number", desc := "(II)V" } : Jvm.MethodName) ∈ WU := wt_0 (i := 58) rfl rfl
theorem u_426 : Jvm.Cond.code ({ cls := "LeftTillCalledModel", name := "partItem", desc := "(JII)V" } : Jvm.MethodName) prog_7_method_79_code (5 : Nat) (Option.none : Option Jvm.ClassFile.FieldType) ∈ WU := wt_5 (i := 57) rfl rfl
theorem u_427 : Jvm.Cond.methodLink "LeftTillCalledModel" (266 : Nat) ({ cls := "LeftTillCalledModel", name := "partItem", desc := "(JII)V" } : Jvm.MethodName) ∈ WU := wt_5 (i := 54) rfl rfl
theorem u_428 : Jvm.Cond.instanceMethod ({ cls := "LeftTillCalledModel", name := "partItem", desc := "(JII)V" } : Jvm.MethodName) ∈ WU := wt_5 (i := 56) rfl rfl
theorem u_429 : Jvm.Cond.selects "LeftTillCalledModel" ({ cls := "LeftTillCalledModel", name := "partItem", desc := "(JII)V" } : Jvm.MethodName) ({ cls := "LeftTillCalledModel", name := "partItem", desc := "(JII)V" } : Jvm.MethodName) ∈ WU := wt_0 (i := 57) rfl rfl
theorem u_430 : Jvm.Cond.code ({ cls := "LeftTillCalledModel", name := "meansItem", desc := "()V" } : Jvm.MethodName) prog_7_method_81_code (2 : Nat) (Option.none : Option Jvm.ClassFile.FieldType) ∈ WU := wt_5 (i := 68) rfl rfl
theorem u_431 : Jvm.Cond.methodLink "LeftTillCalledModel" (286 : Nat) ({ cls := "LeftTillCalledModel", name := "meansItem", desc := "()V" } : Jvm.MethodName) ∈ WU := wt_5 (i := 65) rfl rfl
theorem u_432 : Jvm.Cond.instanceMethod ({ cls := "LeftTillCalledModel", name := "meansItem", desc := "()V" } : Jvm.MethodName) ∈ WU := wt_5 (i := 67) rfl rfl
theorem u_433 : Jvm.Cond.selects "LeftTillCalledModel" ({ cls := "LeftTillCalledModel", name := "meansItem", desc := "()V" } : Jvm.MethodName) ({ cls := "LeftTillCalledModel", name := "meansItem", desc := "()V" } : Jvm.MethodName) ∈ WU := wt_0 (i := 59) rfl rfl
theorem u_434 : Jvm.Cond.code ({ cls := "LeftTillCalledModel", name := "thingItem", desc := "(I)V" } : Jvm.MethodName) prog_7_method_80_code (3 : Nat) (Option.none : Option Jvm.ClassFile.FieldType) ∈ WU := wt_5 (i := 48) rfl rfl
theorem u_435 : Jvm.Cond.methodLink "LeftTillCalledModel" (281 : Nat) ({ cls := "LeftTillCalledModel", name := "thingItem", desc := "(I)V" } : Jvm.MethodName) ∈ WU := wt_5 (i := 45) rfl rfl
theorem u_436 : Jvm.Cond.instanceMethod ({ cls := "LeftTillCalledModel", name := "thingItem", desc := "(I)V" } : Jvm.MethodName) ∈ WU := wt_5 (i := 47) rfl rfl
theorem u_437 : Jvm.Cond.selects "LeftTillCalledModel" ({ cls := "LeftTillCalledModel", name := "thingItem", desc := "(I)V" } : Jvm.MethodName) ({ cls := "LeftTillCalledModel", name := "thingItem", desc := "(I)V" } : Jvm.MethodName) ∈ WU := wt_0 (i := 55) rfl rfl
theorem u_438 : Jvm.Cond.code ({ cls := "LeftTillCalledModel", name := "kindHere", desc := "()I" } : Jvm.MethodName) prog_7_method_78_code (3 : Nat) (Option.some Jvm.ClassFile.FieldType.int) ∈ WU := wt_5 (i := 32) rfl rfl
theorem u_439 : Jvm.Cond.methodLink "LeftTillCalledModel" (278 : Nat) ({ cls := "LeftTillCalledModel", name := "kindHere", desc := "()I" } : Jvm.MethodName) ∈ WU := wt_5 (i := 29) rfl rfl
theorem u_440 : Jvm.Cond.instanceMethod ({ cls := "LeftTillCalledModel", name := "kindHere", desc := "()I" } : Jvm.MethodName) ∈ WU := wt_5 (i := 31) rfl rfl
theorem u_441 : Jvm.Cond.selects "LeftTillCalledModel" ({ cls := "LeftTillCalledModel", name := "kindHere", desc := "()I" } : Jvm.MethodName) ({ cls := "LeftTillCalledModel", name := "kindHere", desc := "()I" } : Jvm.MethodName) ∈ WU := wt_0 (i := 53) rfl rfl
theorem u_442 : Jvm.Cond.code ({ cls := "LeftTillCalledModel", name := "putsBack", desc := "()V" } : Jvm.MethodName) prog_7_method_5_code (2 : Nat) (Option.none : Option Jvm.ClassFile.FieldType) ∈ WU := wt_5 (i := 74) rfl rfl
theorem u_443 : Jvm.Cond.methodLink "LeftTillCalledModel" (295 : Nat) ({ cls := "LeftTillCalledModel", name := "putsBack", desc := "()V" } : Jvm.MethodName) ∈ WU := wt_5 (i := 71) rfl rfl
theorem u_444 : Jvm.Cond.instanceMethod ({ cls := "LeftTillCalledModel", name := "putsBack", desc := "()V" } : Jvm.MethodName) ∈ WU := wt_5 (i := 73) rfl rfl
theorem u_445 : Jvm.Cond.selects "LeftTillCalledModel" ({ cls := "LeftTillCalledModel", name := "putsBack", desc := "()V" } : Jvm.MethodName) ({ cls := "LeftTillCalledModel", name := "putsBack", desc := "()V" } : Jvm.MethodName) ∈ WU := wt_0 (i := 60) rfl rfl
theorem u_446 : Jvm.Cond.code ({ cls := "LeftTillCalledModel", name := "item", desc := "()V" } : Jvm.MethodName) prog_7_method_82_code (2 : Nat) (Option.none : Option Jvm.ClassFile.FieldType) ∈ WU := wt_5 (i := 28) rfl rfl
theorem u_447 : Jvm.Cond.methodLink "LeftTillCalledModel" (292 : Nat) ({ cls := "LeftTillCalledModel", name := "item", desc := "()V" } : Jvm.MethodName) ∈ WU := wt_5 (i := 25) rfl rfl
theorem u_448 : Jvm.Cond.instanceMethod ({ cls := "LeftTillCalledModel", name := "item", desc := "()V" } : Jvm.MethodName) ∈ WU := wt_5 (i := 27) rfl rfl
theorem u_449 : Jvm.Cond.selects "LeftTillCalledModel" ({ cls := "LeftTillCalledModel", name := "item", desc := "()V" } : Jvm.MethodName) ({ cls := "LeftTillCalledModel", name := "item", desc := "()V" } : Jvm.MethodName) ∈ WU := wt_0 (i := 52) rfl rfl
theorem u_450 : Jvm.Cond.code ({ cls := "LeftTillCalledModel", name := "saves", desc := "()V" } : Jvm.MethodName) prog_7_method_4_code (2 : Nat) (Option.none : Option Jvm.ClassFile.FieldType) ∈ WU := wt_5 (i := 6) rfl rfl
theorem u_451 : Jvm.Cond.methodLink "LeftTillCalledModel" (289 : Nat) ({ cls := "LeftTillCalledModel", name := "saves", desc := "()V" } : Jvm.MethodName) ∈ WU := wt_5 (i := 3) rfl rfl
theorem u_452 : Jvm.Cond.instanceMethod ({ cls := "LeftTillCalledModel", name := "saves", desc := "()V" } : Jvm.MethodName) ∈ WU := wt_5 (i := 5) rfl rfl
theorem u_453 : Jvm.Cond.selects "LeftTillCalledModel" ({ cls := "LeftTillCalledModel", name := "saves", desc := "()V" } : Jvm.MethodName) ({ cls := "LeftTillCalledModel", name := "saves", desc := "()V" } : Jvm.MethodName) ∈ WU := wt_0 (i := 49) rfl rfl
theorem u_454 : Jvm.Cond.code ({ cls := "LeftTillCalledModel", name := "isOne", desc := "(I)Z" } : Jvm.MethodName) prog_7_method_84_code (1 : Nat) (Option.some Jvm.ClassFile.FieldType.boolean) ∈ WU := wt_5 (i := 81) rfl rfl
theorem u_455 : Jvm.Cond.methodLink "LeftTillCalledModel" (300 : Nat) ({ cls := "LeftTillCalledModel", name := "isOne", desc := "(I)Z" } : Jvm.MethodName) ∈ WU := wt_5 (i := 79) rfl rfl
theorem u_456 : Jvm.Cond.static ({ cls := "LeftTillCalledModel", name := "isOne", desc := "(I)Z" } : Jvm.MethodName) ∈ WU := wt_5 (i := 80) rfl rfl
theorem u_457 : Jvm.Cond.code ({ cls := "LeftTillCalledModel", name := "narrowed", desc := "(IJ)J" } : Jvm.MethodName) prog_7_method_86_code (3 : Nat) (Option.some Jvm.ClassFile.FieldType.long) ∈ WU := wt_5 (i := 95) rfl rfl
theorem u_458 : Jvm.Cond.methodLink "LeftTillCalledModel" (308 : Nat) ({ cls := "LeftTillCalledModel", name := "narrowed", desc := "(IJ)J" } : Jvm.MethodName) ∈ WU := wt_5 (i := 93) rfl rfl
theorem u_459 : Jvm.Cond.static ({ cls := "LeftTillCalledModel", name := "narrowed", desc := "(IJ)J" } : Jvm.MethodName) ∈ WU := wt_5 (i := 94) rfl rfl
theorem u_460 : Jvm.Cond.code ({ cls := "LeftTillCalledModel", name := "wrongSheet", desc := "(I)I" } : Jvm.MethodName) prog_7_method_87_code (2 : Nat) (Option.some Jvm.ClassFile.FieldType.int) ∈ WU := wt_5 (i := 91) rfl rfl
theorem u_461 : Jvm.Cond.methodLink "LeftTillCalledModel" (305 : Nat) ({ cls := "LeftTillCalledModel", name := "wrongSheet", desc := "(I)I" } : Jvm.MethodName) ∈ WU := wt_5 (i := 88) rfl rfl
theorem u_462 : Jvm.Cond.instanceMethod ({ cls := "LeftTillCalledModel", name := "wrongSheet", desc := "(I)I" } : Jvm.MethodName) ∈ WU := wt_5 (i := 90) rfl rfl
theorem u_463 : Jvm.Cond.selects "LeftTillCalledModel" ({ cls := "LeftTillCalledModel", name := "wrongSheet", desc := "(I)I" } : Jvm.MethodName) ({ cls := "LeftTillCalledModel", name := "wrongSheet", desc := "(I)I" } : Jvm.MethodName) ∈ WU := wt_0 (i := 61) rfl rfl
theorem u_464 : Jvm.Cond.code ({ cls := "LeftTillCalledModel", name := "wrongBook", desc := "(II)I" } : Jvm.MethodName) prog_7_method_91_code (4 : Nat) (Option.some Jvm.ClassFile.FieldType.int) ∈ WU := wt_5 (i := 111) rfl rfl
theorem u_465 : Jvm.Cond.methodLink "LeftTillCalledModel" (312 : Nat) ({ cls := "LeftTillCalledModel", name := "wrongBook", desc := "(II)I" } : Jvm.MethodName) ∈ WU := wt_5 (i := 108) rfl rfl
theorem u_466 : Jvm.Cond.instanceMethod ({ cls := "LeftTillCalledModel", name := "wrongBook", desc := "(II)I" } : Jvm.MethodName) ∈ WU := wt_5 (i := 110) rfl rfl
theorem u_467 : Jvm.Cond.selects "LeftTillCalledModel" ({ cls := "LeftTillCalledModel", name := "wrongBook", desc := "(II)I" } : Jvm.MethodName) ({ cls := "LeftTillCalledModel", name := "wrongBook", desc := "(II)I" } : Jvm.MethodName) ∈ WU := wt_0 (i := 62) rfl rfl
theorem u_468 : Jvm.Cond.code ({ cls := "LeftTillCalledModel", name := "isBook", desc := "(II)Z" } : Jvm.MethodName) prog_7_method_93_code (4 : Nat) (Option.some Jvm.ClassFile.FieldType.boolean) ∈ WU := wt_5 (i := 119) rfl rfl
theorem u_469 : Jvm.Cond.methodLink "LeftTillCalledModel" (315 : Nat) ({ cls := "LeftTillCalledModel", name := "isBook", desc := "(II)Z" } : Jvm.MethodName) ∈ WU := wt_5 (i := 116) rfl rfl
theorem u_470 : Jvm.Cond.instanceMethod ({ cls := "LeftTillCalledModel", name := "isBook", desc := "(II)Z" } : Jvm.MethodName) ∈ WU := wt_5 (i := 118) rfl rfl
theorem u_471 : Jvm.Cond.selects "LeftTillCalledModel" ({ cls := "LeftTillCalledModel", name := "isBook", desc := "(II)Z" } : Jvm.MethodName) ({ cls := "LeftTillCalledModel", name := "isBook", desc := "(II)Z" } : Jvm.MethodName) ∈ WU := wt_0 (i := 63) rfl rfl
theorem u_472 : Jvm.Cond.code ({ cls := "LeftTillCalledModel", name := "worths", desc := "()I" } : Jvm.MethodName) prog_7_method_98_code (3 : Nat) (Option.some Jvm.ClassFile.FieldType.int) ∈ WU := wt_5 (i := 139) rfl rfl
theorem u_473 : Jvm.Cond.methodLink "LeftTillCalledModel" (321 : Nat) ({ cls := "LeftTillCalledModel", name := "worths", desc := "()I" } : Jvm.MethodName) ∈ WU := wt_5 (i := 136) rfl rfl
theorem u_474 : Jvm.Cond.instanceMethod ({ cls := "LeftTillCalledModel", name := "worths", desc := "()I" } : Jvm.MethodName) ∈ WU := wt_5 (i := 138) rfl rfl
theorem u_475 : Jvm.Cond.selects "LeftTillCalledModel" ({ cls := "LeftTillCalledModel", name := "worths", desc := "()I" } : Jvm.MethodName) ({ cls := "LeftTillCalledModel", name := "worths", desc := "()I" } : Jvm.MethodName) ∈ WU := wt_0 (i := 64) rfl rfl
theorem u_476 : Jvm.Cond.lays "LeftTillCalled$Sheet" "LeftTillCalled$Sheet" "bits" "I" ∈ WU := wt_1 (i := 134) rfl rfl
theorem u_477 : Jvm.Cond.lays "LeftTillCalled$Sheet" "LeftTillCalled$Sheet" "length" "I" ∈ WU := wt_1 (i := 136) rfl rfl
theorem u_478 : Jvm.Cond.laysFinal "LeftTillCalled$Sheet" "LeftTillCalled$Sheet" "numbers" "[J" ∈ WU := wt_1 (i := 138) rfl rfl
theorem u_479 : Jvm.Cond.lays "LeftTillCalled$Station" "LeftTillCalled$Station" "day" "I" ∈ WU := wt_1 (i := 55) rfl rfl
theorem u_480 : Jvm.Cond.lays "LeftTillCalled$Station" "LeftTillCalled$Station" "taken" "I" ∈ WU := wt_1 (i := 57) rfl rfl
theorem u_481 : Jvm.Cond.laysFinal "LeftTillCalled$Station" "LeftTillCalled$Station" "means" "[I" ∈ WU := wt_1 (i := 59) rfl rfl
theorem u_482 : Jvm.Cond.laysFinal "LeftTillCalled$Station" "LeftTillCalled$Station" "earns" "[I" ∈ WU := wt_1 (i := 61) rfl rfl
theorem u_483 : Jvm.Cond.laysFinal "LeftTillCalled$Station" "LeftTillCalled$Station" "spends" "[I" ∈ WU := wt_1 (i := 63) rfl rfl
theorem u_484 : Jvm.Cond.lays "LeftTillCalled$Station" "LeftTillCalled$Station" "things" "I" ∈ WU := wt_1 (i := 65) rfl rfl
theorem u_485 : Jvm.Cond.laysFinal "LeftTillCalled$Station" "LeftTillCalled$Station" "kinds" "[I" ∈ WU := wt_1 (i := 67) rfl rfl
theorem u_486 : Jvm.Cond.laysFinal "LeftTillCalled$Station" "LeftTillCalled$Station" "labels" "[I" ∈ WU := wt_1 (i := 69) rfl rfl
theorem u_487 : Jvm.Cond.laysFinal "LeftTillCalled$Station" "LeftTillCalled$Station" "lefts" "[I" ∈ WU := wt_1 (i := 71) rfl rfl
theorem u_488 : Jvm.Cond.laysFinal "LeftTillCalled$Station" "LeftTillCalled$Station" "dues" "[I" ∈ WU := wt_1 (i := 73) rfl rfl
theorem u_489 : Jvm.Cond.laysFinal "LeftTillCalled$Station" "LeftTillCalled$Station" "worths" "[I" ∈ WU := wt_1 (i := 75) rfl rfl
theorem u_490 : Jvm.Cond.laysFinal "LeftTillCalled$Station" "LeftTillCalled$Station" "withs" "[I" ∈ WU := wt_1 (i := 77) rfl rfl
theorem u_491 : Jvm.Cond.laysFinal "LeftTillCalled$Tape" "LeftTillCalled$Tape" "bytes" "[B" ∈ WU := wt_1 (i := 98) rfl rfl
theorem u_492 : Jvm.Cond.lays "LeftTillCalled$Tape" "LeftTillCalled$Tape" "length" "I" ∈ WU := wt_1 (i := 100) rfl rfl
theorem u_493 : Jvm.Cond.laysFinal "LeftTillCalled$Text" "LeftTillCalled$Text" "tape" "LLeftTillCalled$Tape;" ∈ WU := wt_1 (i := 110) rfl rfl
theorem u_494 : Jvm.Cond.lays "LeftTillCalled$Text" "LeftTillCalled$Text" "at" "I" ∈ WU := wt_1 (i := 112) rfl rfl
theorem u_495 : Jvm.Cond.lays "LeftTillCalled$Text" "LeftTillCalled$Text" "token" "I" ∈ WU := wt_1 (i := 114) rfl rfl
theorem u_496 : Jvm.Cond.lays "LeftTillCalled$Text" "LeftTillCalled$Text" "place" "I" ∈ WU := wt_1 (i := 116) rfl rfl
theorem u_497 : Jvm.Cond.lays "LeftTillCalled$Text" "LeftTillCalled$Text" "number" "I" ∈ WU := wt_1 (i := 118) rfl rfl
theorem u_498 : Jvm.Cond.laysFinal "LeftTillCalled" "LeftTillCalled" "room" "LLeftTillCalled$Station;" ∈ WU := wt_1 (i := 150) rfl rfl
theorem u_499 : Jvm.Cond.laysFinal "LeftTillCalled" "LeftTillCalled" "ahead" "LLeftTillCalled$Station;" ∈ WU := wt_1 (i := 152) rfl rfl
theorem u_500 : Jvm.Cond.laysFinal "LeftTillCalled" "LeftTillCalled" "kept" "LLeftTillCalled$Station;" ∈ WU := wt_1 (i := 154) rfl rfl
theorem u_501 : Jvm.Cond.lays "LeftTillCalled" "LeftTillCalled" "isKept" "Z" ∈ WU := wt_1 (i := 156) rfl rfl
theorem u_502 : Jvm.Cond.laysFinal "LeftTillCalled" "LeftTillCalled" "tape" "LLeftTillCalled$Tape;" ∈ WU := wt_1 (i := 158) rfl rfl
theorem u_503 : Jvm.Cond.laysFinal "LeftTillCalled" "LeftTillCalled" "text" "LLeftTillCalled$Text;" ∈ WU := wt_1 (i := 160) rfl rfl
theorem u_504 : Jvm.Cond.laysFinal "LeftTillCalled" "LeftTillCalled" "sheets" "[LLeftTillCalled$Sheet;" ∈ WU := wt_1 (i := 162) rfl rfl
theorem u_505 : Jvm.Cond.laysFinal "LeftTillCalled" "LeftTillCalled" "findings" "[I" ∈ WU := wt_1 (i := 164) rfl rfl
theorem u_506 : Jvm.Cond.laysFinal "LeftTillCalledModel" "LeftTillCalledModel" "s" "[I" ∈ WU := wt_3 (i := 175) rfl rfl
theorem u_507 : Jvm.Cond.laysFinal "LeftTillCalledModel" "LeftTillCalledModel" "keptS" "[I" ∈ WU := wt_3 (i := 177) rfl rfl
theorem u_508 : Jvm.Cond.laysFinal "LeftTillCalledModel" "LeftTillCalledModel" "other" "[I" ∈ WU := wt_3 (i := 179) rfl rfl
theorem u_509 : Jvm.Cond.laysFinal "LeftTillCalledModel" "LeftTillCalledModel" "aside" "[I" ∈ WU := wt_3 (i := 181) rfl rfl
theorem u_510 : Jvm.Cond.laysFinal "LeftTillCalledModel" "LeftTillCalledModel" "statuses" "[I" ∈ WU := wt_3 (i := 183) rfl rfl
theorem u_511 : Jvm.Cond.lays "LeftTillCalledModel" "LeftTillCalledModel" "isKept" "Z" ∈ WU := wt_3 (i := 185) rfl rfl
theorem u_512 : Jvm.Cond.laysFinal "LeftTillCalledModel" "LeftTillCalledModel" "tape" "[I" ∈ WU := wt_3 (i := 187) rfl rfl
theorem u_513 : Jvm.Cond.lays "LeftTillCalledModel" "LeftTillCalledModel" "taped" "I" ∈ WU := wt_3 (i := 189) rfl rfl
theorem u_514 : Jvm.Cond.lays "LeftTillCalledModel" "LeftTillCalledModel" "from" "I" ∈ WU := wt_3 (i := 191) rfl rfl
theorem u_515 : Jvm.Cond.lays "LeftTillCalledModel" "LeftTillCalledModel" "to" "I" ∈ WU := wt_3 (i := 193) rfl rfl
theorem u_516 : Jvm.Cond.lays "LeftTillCalledModel" "LeftTillCalledModel" "value" "I" ∈ WU := wt_3 (i := 195) rfl rfl
theorem u_517 : Jvm.Cond.lays "LeftTillCalledModel" "LeftTillCalledModel" "isWrong" "Z" ∈ WU := wt_3 (i := 197) rfl rfl
theorem u_518 : Jvm.Cond.laysFinal "LeftTillCalledModel" "LeftTillCalledModel" "bitsOf" "[I" ∈ WU := wt_3 (i := 199) rfl rfl
theorem u_519 : Jvm.Cond.laysFinal "LeftTillCalledModel" "LeftTillCalledModel" "sizeOf" "[I" ∈ WU := wt_3 (i := 201) rfl rfl
theorem u_520 : Jvm.Cond.laysFinal "LeftTillCalledModel" "LeftTillCalledModel" "numbers" "[J" ∈ WU := wt_3 (i := 203) rfl rfl
theorem u_521 : Jvm.Cond.laysFinal "LeftTillCalledModel" "LeftTillCalledModel" "moved" "[J" ∈ WU := wt_3 (i := 205) rfl rfl
theorem u_522 : Jvm.Cond.fieldLink "LeftTillCalled$Sheet" (18 : Nat) "LeftTillCalled$Sheet" "numbers" "[J" ∈ WU := wt_1 (i := 132) rfl rfl
theorem u_523 : Jvm.Cond.fieldLink "LeftTillCalled$Sheet" (15 : Nat) "LeftTillCalled$Sheet" "length" "I" ∈ WU := wt_1 (i := 130) rfl rfl
theorem u_524 : Jvm.Cond.fieldLink "LeftTillCalled$Sheet" (9 : Nat) "LeftTillCalled$Sheet" "bits" "I" ∈ WU := wt_1 (i := 128) rfl rfl
theorem u_525 : Jvm.Cond.fieldLink "LeftTillCalled$Station" (46 : Nat) "LeftTillCalled$Station" "withs" "[I" ∈ WU := wt_1 (i := 53) rfl rfl
theorem u_526 : Jvm.Cond.fieldLink "LeftTillCalled$Station" (43 : Nat) "LeftTillCalled$Station" "worths" "[I" ∈ WU := wt_1 (i := 51) rfl rfl
theorem u_527 : Jvm.Cond.fieldLink "LeftTillCalled$Station" (40 : Nat) "LeftTillCalled$Station" "dues" "[I" ∈ WU := wt_1 (i := 49) rfl rfl
theorem u_528 : Jvm.Cond.fieldLink "LeftTillCalled$Station" (37 : Nat) "LeftTillCalled$Station" "lefts" "[I" ∈ WU := wt_1 (i := 47) rfl rfl
theorem u_529 : Jvm.Cond.fieldLink "LeftTillCalled$Station" (34 : Nat) "LeftTillCalled$Station" "labels" "[I" ∈ WU := wt_1 (i := 45) rfl rfl
theorem u_530 : Jvm.Cond.fieldLink "LeftTillCalled$Station" (31 : Nat) "LeftTillCalled$Station" "kinds" "[I" ∈ WU := wt_1 (i := 43) rfl rfl
theorem u_531 : Jvm.Cond.fieldLink "LeftTillCalled$Station" (28 : Nat) "LeftTillCalled$Station" "things" "I" ∈ WU := wt_1 (i := 41) rfl rfl
theorem u_532 : Jvm.Cond.fieldLink "LeftTillCalled$Station" (25 : Nat) "LeftTillCalled$Station" "spends" "[I" ∈ WU := wt_1 (i := 38) rfl rfl
theorem u_533 : Jvm.Cond.fieldLink "LeftTillCalled$Station" (22 : Nat) "LeftTillCalled$Station" "earns" "[I" ∈ WU := wt_1 (i := 35) rfl rfl
theorem u_534 : Jvm.Cond.fieldLink "LeftTillCalled$Station" (18 : Nat) "LeftTillCalled$Station" "means" "[I" ∈ WU := wt_1 (i := 32) rfl rfl
theorem u_535 : Jvm.Cond.fieldLink "LeftTillCalled$Station" (15 : Nat) "LeftTillCalled$Station" "taken" "I" ∈ WU := wt_1 (i := 30) rfl rfl
theorem u_536 : Jvm.Cond.fieldLink "LeftTillCalled$Station" (9 : Nat) "LeftTillCalled$Station" "day" "I" ∈ WU := wt_1 (i := 28) rfl rfl
theorem u_537 : Jvm.Cond.constant "LeftTillCalled$Station" (81 : Nat) (999999 : Int32) ∈ WU := wt_2 (i := 61) rfl rfl
theorem u_538 : Jvm.Cond.constant "LeftTillCalled$Station" (55 : Nat) (99999999 : Int32) ∈ WU := wt_2 (i := 35) rfl rfl
theorem u_539 : Jvm.Cond.fieldLink "LeftTillCalled$Tape" (15 : Nat) "LeftTillCalled$Tape" "length" "I" ∈ WU := wt_1 (i := 95) rfl rfl
theorem u_540 : Jvm.Cond.fieldLink "LeftTillCalled$Tape" (9 : Nat) "LeftTillCalled$Tape" "bytes" "[B" ∈ WU := wt_1 (i := 93) rfl rfl
theorem u_541 : Jvm.Cond.fieldLink "LeftTillCalled$Text" (28 : Nat) "LeftTillCalled$Text" "number" "I" ∈ WU := wt_1 (i := 109) rfl rfl
theorem u_542 : Jvm.Cond.fieldLink "LeftTillCalled$Text" (25 : Nat) "LeftTillCalled$Text" "place" "I" ∈ WU := wt_1 (i := 108) rfl rfl
theorem u_543 : Jvm.Cond.fieldLink "LeftTillCalled$Text" (22 : Nat) "LeftTillCalled$Text" "token" "I" ∈ WU := wt_1 (i := 107) rfl rfl
theorem u_544 : Jvm.Cond.fieldLink "LeftTillCalled$Text" (18 : Nat) "LeftTillCalled$Text" "at" "I" ∈ WU := wt_1 (i := 106) rfl rfl
theorem u_545 : Jvm.Cond.fieldLink "LeftTillCalled$Text" (12 : Nat) "LeftTillCalled$Text" "tape" "LLeftTillCalled$Tape;" ∈ WU := wt_1 (i := 104) rfl rfl
theorem u_546 : Jvm.Cond.fieldLink "LeftTillCalled" (45 : Nat) "LeftTillCalled" "findings" "[I" ∈ WU := wt_1 (i := 149) rfl rfl
theorem u_547 : Jvm.Cond.fieldLink "LeftTillCalled" (40 : Nat) "LeftTillCalled" "sheets" "[LLeftTillCalled$Sheet;" ∈ WU := wt_1 (i := 148) rfl rfl
theorem u_548 : Jvm.Cond.fieldLink "LeftTillCalled" (37 : Nat) "LeftTillCalled" "tape" "LLeftTillCalled$Tape;" ∈ WU := wt_1 (i := 146) rfl rfl
theorem u_549 : Jvm.Cond.fieldLink "LeftTillCalled" (29 : Nat) "LeftTillCalled" "text" "LLeftTillCalled$Text;" ∈ WU := wt_1 (i := 147) rfl rfl
theorem u_550 : Jvm.Cond.fieldLink "LeftTillCalled" (22 : Nat) "LeftTillCalled" "isKept" "Z" ∈ WU := wt_1 (i := 145) rfl rfl
theorem u_551 : Jvm.Cond.fieldLink "LeftTillCalled" (19 : Nat) "LeftTillCalled" "kept" "LLeftTillCalled$Station;" ∈ WU := wt_1 (i := 144) rfl rfl
theorem u_552 : Jvm.Cond.fieldLink "LeftTillCalled" (16 : Nat) "LeftTillCalled" "ahead" "LLeftTillCalled$Station;" ∈ WU := wt_1 (i := 143) rfl rfl
theorem u_553 : Jvm.Cond.fieldLink "LeftTillCalled" (12 : Nat) "LeftTillCalled" "room" "LLeftTillCalled$Station;" ∈ WU := wt_1 (i := 142) rfl rfl
theorem u_554 : Jvm.Cond.constant "LeftTillCalled" (252 : Nat) (999999 : Int32) ∈ WU := wt_1 (i := 177) rfl rfl
theorem u_555 : Jvm.Cond.constantLong "LeftTillCalled" (237 : Nat) (999999 : Int64) ∈ WU := wt_3 (i := 108) rfl rfl
theorem u_556 : Jvm.Cond.constant "LeftTillCalled" (216 : Nat) (-1000000006 : Int32) ∈ WU := wt_3 (i := 90) rfl rfl
theorem u_557 : Jvm.Cond.constant "LeftTillCalled" (207 : Nat) (-1000000007 : Int32) ∈ WU := wt_3 (i := 77) rfl rfl
theorem u_558 : Jvm.Cond.constant "LeftTillCalled" (180 : Nat) (-1000000004 : Int32) ∈ WU := wt_2 (i := 133) rfl rfl
theorem u_559 : Jvm.Cond.constant "LeftTillCalled" (132 : Nat) (-1000000005 : Int32) ∈ WU := wt_2 (i := 30) rfl rfl
theorem u_560 : Jvm.Cond.constant "LeftTillCalled" (124 : Nat) (-1000000003 : Int32) ∈ WU := wt_2 (i := 6) rfl rfl
theorem u_561 : Jvm.Cond.constant "LeftTillCalled" (91 : Nat) (-1000000002 : Int32) ∈ WU := wt_1 (i := 205) rfl rfl
theorem u_562 : Jvm.Cond.constant "LeftTillCalled" (61 : Nat) (-1000000001 : Int32) ∈ WU := wt_1 (i := 181) rfl rfl
theorem u_563 : Jvm.Cond.fieldLink "LeftTillCalledModel" (318 : Nat) "LeftTillCalledModel" "isKept" "Z" ∈ WU := wt_3 (i := 164) rfl rfl
theorem u_564 : Jvm.Cond.fieldLink "LeftTillCalledModel" (237 : Nat) "LeftTillCalledModel" "value" "I" ∈ WU := wt_3 (i := 169) rfl rfl
theorem u_565 : Jvm.Cond.fieldLink "LeftTillCalledModel" (226 : Nat) "LeftTillCalledModel" "isWrong" "Z" ∈ WU := wt_3 (i := 170) rfl rfl
theorem u_566 : Jvm.Cond.fieldLink "LeftTillCalledModel" (214 : Nat) "LeftTillCalledModel" "from" "I" ∈ WU := wt_3 (i := 167) rfl rfl
theorem u_567 : Jvm.Cond.fieldLink "LeftTillCalledModel" (211 : Nat) "LeftTillCalledModel" "to" "I" ∈ WU := wt_3 (i := 168) rfl rfl
theorem u_568 : Jvm.Cond.fieldLink "LeftTillCalledModel" (199 : Nat) "LeftTillCalledModel" "taped" "I" ∈ WU := wt_3 (i := 166) rfl rfl
theorem u_569 : Jvm.Cond.fieldLink "LeftTillCalledModel" (38 : Nat) "LeftTillCalledModel" "moved" "[J" ∈ WU := wt_3 (i := 174) rfl rfl
theorem u_570 : Jvm.Cond.fieldLink "LeftTillCalledModel" (34 : Nat) "LeftTillCalledModel" "numbers" "[J" ∈ WU := wt_3 (i := 173) rfl rfl
theorem u_571 : Jvm.Cond.fieldLink "LeftTillCalledModel" (31 : Nat) "LeftTillCalledModel" "sizeOf" "[I" ∈ WU := wt_3 (i := 172) rfl rfl
theorem u_572 : Jvm.Cond.fieldLink "LeftTillCalledModel" (28 : Nat) "LeftTillCalledModel" "bitsOf" "[I" ∈ WU := wt_3 (i := 171) rfl rfl
theorem u_573 : Jvm.Cond.fieldLink "LeftTillCalledModel" (25 : Nat) "LeftTillCalledModel" "tape" "[I" ∈ WU := wt_3 (i := 165) rfl rfl
theorem u_574 : Jvm.Cond.fieldLink "LeftTillCalledModel" (22 : Nat) "LeftTillCalledModel" "statuses" "[I" ∈ WU := wt_3 (i := 163) rfl rfl
theorem u_575 : Jvm.Cond.fieldLink "LeftTillCalledModel" (19 : Nat) "LeftTillCalledModel" "aside" "[I" ∈ WU := wt_3 (i := 162) rfl rfl
theorem u_576 : Jvm.Cond.fieldLink "LeftTillCalledModel" (16 : Nat) "LeftTillCalledModel" "other" "[I" ∈ WU := wt_3 (i := 161) rfl rfl
theorem u_577 : Jvm.Cond.fieldLink "LeftTillCalledModel" (13 : Nat) "LeftTillCalledModel" "keptS" "[I" ∈ WU := wt_3 (i := 160) rfl rfl
theorem u_578 : Jvm.Cond.fieldLink "LeftTillCalledModel" (7 : Nat) "LeftTillCalledModel" "s" "[I" ∈ WU := wt_3 (i := 159) rfl rfl
theorem u_579 : Jvm.Cond.constantLong "LeftTillCalledModel" (326 : Nat) (6 : Int64) ∈ WU := wt_5 (i := 145) rfl rfl
theorem u_580 : Jvm.Cond.constantLong "LeftTillCalledModel" (324 : Nat) (-1 : Int64) ∈ WU := wt_5 (i := 144) rfl rfl
theorem u_581 : Jvm.Cond.constant "LeftTillCalledModel" (304 : Nat) (-1000000006 : Int32) ∈ WU := wt_5 (i := 92) rfl rfl
theorem u_582 : Jvm.Cond.constant "LeftTillCalledModel" (303 : Nat) (-1000000007 : Int32) ∈ WU := wt_5 (i := 83) rfl rfl
theorem u_583 : Jvm.Cond.constantLong "LeftTillCalledModel" (298 : Nat) (3 : Int64) ∈ WU := wt_5 (i := 82) rfl rfl
theorem u_584 : Jvm.Cond.constantLong "LeftTillCalledModel" (284 : Nat) (13796819 : Int64) ∈ WU := wt_5 (i := 64) rfl rfl
theorem u_585 : Jvm.Cond.constantLong "LeftTillCalledModel" (276 : Nat) (654489747 : Int64) ∈ WU := wt_5 (i := 70) rfl rfl
theorem u_586 : Jvm.Cond.constantLong "LeftTillCalledModel" (274 : Nat) (5294547 : Int64) ∈ WU := wt_5 (i := 69) rfl rfl
theorem u_587 : Jvm.Cond.constantLong "LeftTillCalledModel" (272 : Nat) (24627848 : Int64) ∈ WU := wt_5 (i := 63) rfl rfl
theorem u_588 : Jvm.Cond.constantLong "LeftTillCalledModel" (270 : Nat) (4773 : Int64) ∈ WU := wt_5 (i := 62) rfl rfl
theorem u_589 : Jvm.Cond.constantLong "LeftTillCalledModel" (264 : Nat) (6642 : Int64) ∈ WU := wt_5 (i := 53) rfl rfl
theorem u_590 : Jvm.Cond.constantLong "LeftTillCalledModel" (258 : Nat) (270141944 : Int64) ∈ WU := wt_5 (i := 44) rfl rfl
theorem u_591 : Jvm.Cond.constantLong "LeftTillCalledModel" (256 : Nat) (763077 : Int64) ∈ WU := wt_5 (i := 43) rfl rfl
theorem u_592 : Jvm.Cond.constantLong "LeftTillCalledModel" (254 : Nat) (624088749524 : Int64) ∈ WU := wt_5 (i := 42) rfl rfl
theorem u_593 : Jvm.Cond.constantLong "LeftTillCalledModel" (252 : Nat) (7749317 : Int64) ∈ WU := wt_5 (i := 41) rfl rfl
theorem u_594 : Jvm.Cond.constantLong "LeftTillCalledModel" (250 : Nat) (394393 : Int64) ∈ WU := wt_5 (i := 40) rfl rfl
theorem u_595 : Jvm.Cond.constantLong "LeftTillCalledModel" (248 : Nat) (538512556 : Int64) ∈ WU := wt_5 (i := 39) rfl rfl
theorem u_596 : Jvm.Cond.constantLong "LeftTillCalledModel" (235 : Nat) (32 : Int64) ∈ WU := wt_5 (i := 38) rfl rfl
theorem u_597 : Jvm.Cond.constantLong "LeftTillCalledModel" (233 : Nat) (36028797018963967 : Int64) ∈ WU := wt_5 (i := 37) rfl rfl
theorem u_598 : Jvm.Cond.constantLong "LeftTillCalledModel" (209 : Nat) (57 : Int64) ∈ WU := wt_5 (i := 24) rfl rfl
theorem u_599 : Jvm.Cond.constantLong "LeftTillCalledModel" (207 : Nat) (48 : Int64) ∈ WU := wt_5 (i := 23) rfl rfl
theorem u_600 : Jvm.Cond.constantLong "LeftTillCalledModel" (205 : Nat) (122 : Int64) ∈ WU := wt_5 (i := 19) rfl rfl
theorem u_601 : Jvm.Cond.constantLong "LeftTillCalledModel" (203 : Nat) (97 : Int64) ∈ WU := wt_5 (i := 18) rfl rfl
theorem u_602 : Jvm.Cond.constantLong "LeftTillCalledModel" (187 : Nat) (60 : Int64) ∈ WU := wt_4 (i := 199) rfl rfl
theorem u_603 : Jvm.Cond.constant "LeftTillCalledModel" (179 : Nat) (-1000000004 : Int32) ∈ WU := wt_4 (i := 183) rfl rfl
theorem u_604 : Jvm.Cond.constantLong "LeftTillCalledModel" (152 : Nat) (100 : Int64) ∈ WU := wt_4 (i := 105) rfl rfl
theorem u_605 : Jvm.Cond.constant "LeftTillCalledModel" (135 : Nat) (999999 : Int32) ∈ WU := wt_4 (i := 118) rfl rfl
theorem u_606 : Jvm.Cond.constant "LeftTillCalledModel" (134 : Nat) (-1000000005 : Int32) ∈ WU := wt_4 (i := 96) rfl rfl
theorem u_607 : Jvm.Cond.constant "LeftTillCalledModel" (120 : Nat) (99999999 : Int32) ∈ WU := wt_4 (i := 95) rfl rfl
theorem u_608 : Jvm.Cond.constant "LeftTillCalledModel" (116 : Nat) (-1000000003 : Int32) ∈ WU := wt_4 (i := 63) rfl rfl
theorem u_609 : Jvm.Cond.constantLong "LeftTillCalledModel" (107 : Nat) (9999 : Int64) ∈ WU := wt_4 (i := 51) rfl rfl
theorem u_610 : Jvm.Cond.constantLong "LeftTillCalledModel" (99 : Nat) (7 : Int64) ∈ WU := wt_4 (i := 31) rfl rfl
theorem u_611 : Jvm.Cond.constant "LeftTillCalledModel" (86 : Nat) (-1000000002 : Int32) ∈ WU := wt_4 (i := 18) rfl rfl
theorem u_612 : Jvm.Cond.constantLong "LeftTillCalledModel" (75 : Nat) (4 : Int64) ∈ WU := wt_3 (i := 235) rfl rfl
theorem u_613 : Jvm.Cond.constantLong "LeftTillCalledModel" (59 : Nat) (999 : Int64) ∈ WU := wt_3 (i := 217) rfl rfl
theorem u_614 : Jvm.Cond.constantLong "LeftTillCalledModel" (57 : Nat) (999999 : Int64) ∈ WU := wt_3 (i := 216) rfl rfl
theorem u_615 : Jvm.Cond.constantLong "LeftTillCalledModel" (55 : Nat) (2 : Int64) ∈ WU := wt_3 (i := 212) rfl rfl
theorem u_616 : Jvm.Cond.constantLong "LeftTillCalledModel" (46 : Nat) (5 : Int64) ∈ WU := wt_3 (i := 221) rfl rfl
theorem u_617 : Jvm.Cond.constant "LeftTillCalledModel" (45 : Nat) (-1000000001 : Int32) ∈ WU := wt_3 (i := 226) rfl rfl
theorem u_618 : Jvm.Cond.constant "java/lang/Integer" (267 : Nat) (252645135 : Int32) ∈ WU := wt_2 (i := 161) rfl rfl
theorem u_619 : Jvm.Cond.constant "java/lang/Integer" (266 : Nat) (858993459 : Int32) ∈ WU := wt_2 (i := 160) rfl rfl
theorem u_620 : Jvm.Cond.constant "java/lang/Integer" (265 : Nat) (1431655765 : Int32) ∈ WU := wt_2 (i := 159) rfl rfl
