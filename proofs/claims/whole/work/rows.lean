section
-- ===== PART A: goes FIRST, ahead of the names: the tables' words, and 'selects' of the private methods out of them =====
/-- a private method of a class that the tables say can be made, by its rows of tables_1 -/
def lw_okq (q : MethodName × Nat) : Prop := (q.1.cls ≠ "java/lang/invoke/MethodHandle" ∧ q.1.cls ≠ "java/lang/invoke/VarHandle") ∧ Cond.instantiable q.1.cls q.2 ∈ tables_1 ∧ Cond.privateMethod q.1 ∈ tables_1 ∧ Cond.instanceMethod q.1 ∈ tables_1
theorem lw_p0 : lw_okq (⟨"LeftTillCalled", "found", "(I)I"⟩, 8) := ⟨⟨by decide +kernel, by decide +kernel⟩, List.mem_of_getElem? (i := 15) (by decide +kernel), List.mem_of_getElem? (i := 182) (by decide +kernel), List.mem_of_getElem? (i := 183) (by decide +kernel)⟩
theorem lw_p1 : lw_okq (⟨"LeftTillCalled$Station", "mountAll", "()V"⟩, 12) := ⟨⟨by decide +kernel, by decide +kernel⟩, List.mem_of_getElem? (i := 23) (by decide +kernel), List.mem_of_getElem? (i := 297) (by decide +kernel), List.mem_of_getElem? (i := 298) (by decide +kernel)⟩
theorem lw_p2 : lw_okq (⟨"LeftTillCalled$Station", "earnAndSpend", "()V"⟩, 12) := ⟨⟨by decide +kernel, by decide +kernel⟩, List.mem_of_getElem? (i := 23) (by decide +kernel), List.mem_of_getElem? (i := 303) (by decide +kernel), List.mem_of_getElem? (i := 304) (by decide +kernel)⟩
theorem lw_p3 : lw_okq (⟨"LeftTillCalled$Station", "callForOneEach", "()V"⟩, 12) := ⟨⟨by decide +kernel, by decide +kernel⟩, List.mem_of_getElem? (i := 23) (by decide +kernel), List.mem_of_getElem? (i := 310) (by decide +kernel), List.mem_of_getElem? (i := 311) (by decide +kernel)⟩
theorem lw_p4 : lw_okq (⟨"LeftTillCalled$Station", "holdSale", "()V"⟩, 12) := ⟨⟨by decide +kernel, by decide +kernel⟩, List.mem_of_getElem? (i := 23) (by decide +kernel), List.mem_of_getElem? (i := 316) (by decide +kernel), List.mem_of_getElem? (i := 317) (by decide +kernel)⟩
theorem lw_p5 : lw_okq (⟨"LeftTillCalled$Station", "highestBidder", "(I)I"⟩, 12) := ⟨⟨by decide +kernel, by decide +kernel⟩, List.mem_of_getElem? (i := 23) (by decide +kernel), List.mem_of_getElem? (i := 321) (by decide +kernel), List.mem_of_getElem? (i := 322) (by decide +kernel)⟩
theorem lw_p6 : lw_okq (⟨"LeftTillCalled", "startAhead", "()V"⟩, 8) := ⟨⟨by decide +kernel, by decide +kernel⟩, List.mem_of_getElem? (i := 15) (by decide +kernel), List.mem_of_getElem? (i := 346) (by decide +kernel), List.mem_of_getElem? (i := 347) (by decide +kernel)⟩
theorem lw_p7 : lw_okq (⟨"LeftTillCalled", "orNone", "(I)I"⟩, 8) := ⟨⟨by decide +kernel, by decide +kernel⟩, List.mem_of_getElem? (i := 15) (by decide +kernel), List.mem_of_getElem? (i := 369) (by decide +kernel), List.mem_of_getElem? (i := 370) (by decide +kernel)⟩
theorem lw_p8 : lw_okq (⟨"LeftTillCalled$Text", "advance", "()V"⟩, 5) := ⟨⟨by decide +kernel, by decide +kernel⟩, List.mem_of_getElem? (i := 99) (by decide +kernel), List.mem_of_getElem? (i := 451) (by decide +kernel), List.mem_of_getElem? (i := 452) (by decide +kernel)⟩
theorem lw_p9 : lw_okq (⟨"LeftTillCalled$Text", "tokenAt", "(I)I"⟩, 5) := ⟨⟨by decide +kernel, by decide +kernel⟩, List.mem_of_getElem? (i := 99) (by decide +kernel), List.mem_of_getElem? (i := 455) (by decide +kernel), List.mem_of_getElem? (i := 456) (by decide +kernel)⟩
theorem lw_p10 : lw_okq (⟨"LeftTillCalled$Text", "isWord", "(Ljava/lang/String;)Z"⟩, 5) := ⟨⟨by decide +kernel, by decide +kernel⟩, List.mem_of_getElem? (i := 99) (by decide +kernel), List.mem_of_getElem? (i := 461) (by decide +kernel), List.mem_of_getElem? (i := 462) (by decide +kernel)⟩
theorem lw_p11 : lw_okq (⟨"LeftTillCalled$Text", "tellPerson", "(LLeftTillCalled$Station;)Z"⟩, 5) := ⟨⟨by decide +kernel, by decide +kernel⟩, List.mem_of_getElem? (i := 99) (by decide +kernel), List.mem_of_getElem? (i := 513) (by decide +kernel), List.mem_of_getElem? (i := 514) (by decide +kernel)⟩
theorem lw_p12 : lw_okq (⟨"LeftTillCalled$Text", "numberUpTo", "(I)I"⟩, 5) := ⟨⟨by decide +kernel, by decide +kernel⟩, List.mem_of_getElem? (i := 99) (by decide +kernel), List.mem_of_getElem? (i := 517) (by decide +kernel), List.mem_of_getElem? (i := 518) (by decide +kernel)⟩
theorem lw_p13 : lw_okq (⟨"LeftTillCalled$Text", "clause", "(Ljava/lang/String;II)I"⟩, 5) := ⟨⟨by decide +kernel, by decide +kernel⟩, List.mem_of_getElem? (i := 99) (by decide +kernel), List.mem_of_getElem? (i := 522) (by decide +kernel), List.mem_of_getElem? (i := 523) (by decide +kernel)⟩
theorem lw_p14 : lw_okq (⟨"LeftTillCalled$Text", "tellThing", "(LLeftTillCalled$Station;)Z"⟩, 5) := ⟨⟨by decide +kernel, by decide +kernel⟩, List.mem_of_getElem? (i := 99) (by decide +kernel), List.mem_of_getElem? (i := 527) (by decide +kernel), List.mem_of_getElem? (i := 528) (by decide +kernel)⟩
theorem lw_p15 : lw_okq (⟨"LeftTillCalled$Text", "kindNamed", "()I"⟩, 5) := ⟨⟨by decide +kernel, by decide +kernel⟩, List.mem_of_getElem? (i := 99) (by decide +kernel), List.mem_of_getElem? (i := 531) (by decide +kernel), List.mem_of_getElem? (i := 532) (by decide +kernel)⟩
def lw_privs_1 : List (MethodName × Nat) := [(⟨"LeftTillCalled", "found", "(I)I"⟩, 8), (⟨"LeftTillCalled$Station", "mountAll", "()V"⟩, 12), (⟨"LeftTillCalled$Station", "earnAndSpend", "()V"⟩, 12), (⟨"LeftTillCalled$Station", "callForOneEach", "()V"⟩, 12), (⟨"LeftTillCalled$Station", "holdSale", "()V"⟩, 12), (⟨"LeftTillCalled$Station", "highestBidder", "(I)I"⟩, 12), (⟨"LeftTillCalled", "startAhead", "()V"⟩, 8), (⟨"LeftTillCalled", "orNone", "(I)I"⟩, 8), (⟨"LeftTillCalled$Text", "advance", "()V"⟩, 5), (⟨"LeftTillCalled$Text", "tokenAt", "(I)I"⟩, 5), (⟨"LeftTillCalled$Text", "isWord", "(Ljava/lang/String;)Z"⟩, 5), (⟨"LeftTillCalled$Text", "tellPerson", "(LLeftTillCalled$Station;)Z"⟩, 5), (⟨"LeftTillCalled$Text", "numberUpTo", "(I)I"⟩, 5), (⟨"LeftTillCalled$Text", "clause", "(Ljava/lang/String;II)I"⟩, 5), (⟨"LeftTillCalled$Text", "tellThing", "(LLeftTillCalled$Station;)Z"⟩, 5), (⟨"LeftTillCalled$Text", "kindNamed", "()I"⟩, 5)]
theorem lw_r1 : ∀ q ∈ lw_privs_1, lw_okq q := List.forall_mem_cons.mpr ⟨lw_p0, List.forall_mem_cons.mpr ⟨lw_p1, List.forall_mem_cons.mpr ⟨lw_p2, List.forall_mem_cons.mpr ⟨lw_p3, List.forall_mem_cons.mpr ⟨lw_p4, List.forall_mem_cons.mpr ⟨lw_p5, List.forall_mem_cons.mpr ⟨lw_p6, List.forall_mem_cons.mpr ⟨lw_p7, List.forall_mem_cons.mpr ⟨lw_p8, List.forall_mem_cons.mpr ⟨lw_p9, List.forall_mem_cons.mpr ⟨lw_p10, List.forall_mem_cons.mpr ⟨lw_p11, List.forall_mem_cons.mpr ⟨lw_p12, List.forall_mem_cons.mpr ⟨lw_p13, List.forall_mem_cons.mpr ⟨lw_p14, List.forall_mem_cons.mpr ⟨lw_p15, fun _ h => absurd h List.not_mem_nil⟩⟩⟩⟩⟩⟩⟩⟩⟩⟩⟩⟩⟩⟩⟩⟩
theorem lw_p16 : lw_okq (⟨"LeftTillCalled", "findingOfPage", "(II)I"⟩, 8) := ⟨⟨by decide +kernel, by decide +kernel⟩, List.mem_of_getElem? (i := 15) (by decide +kernel), List.mem_of_getElem? (i := 593) (by decide +kernel), List.mem_of_getElem? (i := 594) (by decide +kernel)⟩
theorem lw_p17 : lw_okq (⟨"LeftTillCalled", "isBookedAhead", "(LLeftTillCalled$Sheet;I)Z"⟩, 8) := ⟨⟨by decide +kernel, by decide +kernel⟩, List.mem_of_getElem? (i := 15) (by decide +kernel), List.mem_of_getElem? (i := 602) (by decide +kernel), List.mem_of_getElem? (i := 603) (by decide +kernel)⟩
theorem lw_p18 : lw_okq (⟨"LeftTillCalledModel", "becomes", "(II)I"⟩, 16) := ⟨⟨by decide +kernel, by decide +kernel⟩, List.mem_of_getElem? (i := 630) (by decide +kernel), List.mem_of_getElem? (i := 702) (by decide +kernel), List.mem_of_getElem? (i := 703) (by decide +kernel)⟩
theorem lw_p19 : lw_okq (⟨"LeftTillCalledModel", "finds", "(I)I"⟩, 16) := ⟨⟨by decide +kernel, by decide +kernel⟩, List.mem_of_getElem? (i := 630) (by decide +kernel), List.mem_of_getElem? (i := 707) (by decide +kernel), List.mem_of_getElem? (i := 708) (by decide +kernel)⟩
theorem lw_p20 : lw_okq (⟨"LeftTillCalledModel", "his", "(II)I"⟩, 16) := ⟨⟨by decide +kernel, by decide +kernel⟩, List.mem_of_getElem? (i := 630) (by decide +kernel), List.mem_of_getElem? (i := 716) (by decide +kernel), List.mem_of_getElem? (i := 717) (by decide +kernel)⟩
theorem lw_p21 : lw_okq (⟨"LeftTillCalledModel", "thoseAs", "(II)I"⟩, 16) := ⟨⟨by decide +kernel, by decide +kernel⟩, List.mem_of_getElem? (i := 630) (by decide +kernel), List.mem_of_getElem? (i := 720) (by decide +kernel), List.mem_of_getElem? (i := 721) (by decide +kernel)⟩
theorem lw_p22 : lw_okq (⟨"LeftTillCalledModel", "its", "(II)I"⟩, 16) := ⟨⟨by decide +kernel, by decide +kernel⟩, List.mem_of_getElem? (i := 630) (by decide +kernel), List.mem_of_getElem? (i := 724) (by decide +kernel), List.mem_of_getElem? (i := 725) (by decide +kernel)⟩
theorem lw_p23 : lw_okq (⟨"LeftTillCalledModel", "adds", "(II)I"⟩, 16) := ⟨⟨by decide +kernel, by decide +kernel⟩, List.mem_of_getElem? (i := 630) (by decide +kernel), List.mem_of_getElem? (i := 739) (by decide +kernel), List.mem_of_getElem? (i := 740) (by decide +kernel)⟩
theorem lw_p24 : lw_okq (⟨"LeftTillCalledModel", "isThing", "(I)Z"⟩, 16) := ⟨⟨by decide +kernel, by decide +kernel⟩, List.mem_of_getElem? (i := 630) (by decide +kernel), List.mem_of_getElem? (i := 747) (by decide +kernel), List.mem_of_getElem? (i := 748) (by decide +kernel)⟩
theorem lw_p25 : lw_okq (⟨"LeftTillCalledModel", "mountsOf", "(I)I"⟩, 16) := ⟨⟨by decide +kernel, by decide +kernel⟩, List.mem_of_getElem? (i := 630) (by decide +kernel), List.mem_of_getElem? (i := 752) (by decide +kernel), List.mem_of_getElem? (i := 753) (by decide +kernel)⟩
theorem lw_p26 : lw_okq (⟨"LeftTillCalledModel", "daysOf", "(I)I"⟩, 16) := ⟨⟨by decide +kernel, by decide +kernel⟩, List.mem_of_getElem? (i := 630) (by decide +kernel), List.mem_of_getElem? (i := 756) (by decide +kernel), List.mem_of_getElem? (i := 757) (by decide +kernel)⟩
theorem lw_p27 : lw_okq (⟨"LeftTillCalledModel", "maySell", "(I)Z"⟩, 16) := ⟨⟨by decide +kernel, by decide +kernel⟩, List.mem_of_getElem? (i := 630) (by decide +kernel), List.mem_of_getElem? (i := 760) (by decide +kernel), List.mem_of_getElem? (i := 761) (by decide +kernel)⟩
theorem lw_p28 : lw_okq (⟨"LeftTillCalledModel", "bidOf", "(II)I"⟩, 16) := ⟨⟨by decide +kernel, by decide +kernel⟩, List.mem_of_getElem? (i := 630) (by decide +kernel), List.mem_of_getElem? (i := 788) (by decide +kernel), List.mem_of_getElem? (i := 789) (by decide +kernel)⟩
theorem lw_p29 : lw_okq (⟨"LeftTillCalledModel", "mayCall", "(I)Z"⟩, 16) := ⟨⟨by decide +kernel, by decide +kernel⟩, List.mem_of_getElem? (i := 630) (by decide +kernel), List.mem_of_getElem? (i := 799) (by decide +kernel), List.mem_of_getElem? (i := 800) (by decide +kernel)⟩
theorem lw_p30 : lw_okq (⟨"LeftTillCalledModel", "isThere", "(I)Z"⟩, 16) := ⟨⟨by decide +kernel, by decide +kernel⟩, List.mem_of_getElem? (i := 630) (by decide +kernel), List.mem_of_getElem? (i := 803) (by decide +kernel), List.mem_of_getElem? (i := 804) (by decide +kernel)⟩
theorem lw_p31 : lw_okq (⟨"LeftTillCalledModel", "calls", "(I)I"⟩, 16) := ⟨⟨by decide +kernel, by decide +kernel⟩, List.mem_of_getElem? (i := 630) (by decide +kernel), List.mem_of_getElem? (i := 807) (by decide +kernel), List.mem_of_getElem? (i := 808) (by decide +kernel)⟩
def lw_privs_2 : List (MethodName × Nat) := [(⟨"LeftTillCalled", "findingOfPage", "(II)I"⟩, 8), (⟨"LeftTillCalled", "isBookedAhead", "(LLeftTillCalled$Sheet;I)Z"⟩, 8), (⟨"LeftTillCalledModel", "becomes", "(II)I"⟩, 16), (⟨"LeftTillCalledModel", "finds", "(I)I"⟩, 16), (⟨"LeftTillCalledModel", "his", "(II)I"⟩, 16), (⟨"LeftTillCalledModel", "thoseAs", "(II)I"⟩, 16), (⟨"LeftTillCalledModel", "its", "(II)I"⟩, 16), (⟨"LeftTillCalledModel", "adds", "(II)I"⟩, 16), (⟨"LeftTillCalledModel", "isThing", "(I)Z"⟩, 16), (⟨"LeftTillCalledModel", "mountsOf", "(I)I"⟩, 16), (⟨"LeftTillCalledModel", "daysOf", "(I)I"⟩, 16), (⟨"LeftTillCalledModel", "maySell", "(I)Z"⟩, 16), (⟨"LeftTillCalledModel", "bidOf", "(II)I"⟩, 16), (⟨"LeftTillCalledModel", "mayCall", "(I)Z"⟩, 16), (⟨"LeftTillCalledModel", "isThere", "(I)Z"⟩, 16), (⟨"LeftTillCalledModel", "calls", "(I)I"⟩, 16)]
theorem lw_r2 : ∀ q ∈ lw_privs_2, lw_okq q := List.forall_mem_cons.mpr ⟨lw_p16, List.forall_mem_cons.mpr ⟨lw_p17, List.forall_mem_cons.mpr ⟨lw_p18, List.forall_mem_cons.mpr ⟨lw_p19, List.forall_mem_cons.mpr ⟨lw_p20, List.forall_mem_cons.mpr ⟨lw_p21, List.forall_mem_cons.mpr ⟨lw_p22, List.forall_mem_cons.mpr ⟨lw_p23, List.forall_mem_cons.mpr ⟨lw_p24, List.forall_mem_cons.mpr ⟨lw_p25, List.forall_mem_cons.mpr ⟨lw_p26, List.forall_mem_cons.mpr ⟨lw_p27, List.forall_mem_cons.mpr ⟨lw_p28, List.forall_mem_cons.mpr ⟨lw_p29, List.forall_mem_cons.mpr ⟨lw_p30, List.forall_mem_cons.mpr ⟨lw_p31, fun _ h => absurd h List.not_mem_nil⟩⟩⟩⟩⟩⟩⟩⟩⟩⟩⟩⟩⟩⟩⟩⟩
theorem lw_p32 : lw_okq (⟨"LeftTillCalledModel", "comesTo", "(III)V"⟩, 16) := ⟨⟨by decide +kernel, by decide +kernel⟩, List.mem_of_getElem? (i := 630) (by decide +kernel), List.mem_of_getElem? (i := 811) (by decide +kernel), List.mem_of_getElem? (i := 812) (by decide +kernel)⟩
theorem lw_p33 : lw_okq (⟨"LeftTillCalledModel", "daysGo", "(I)V"⟩, 16) := ⟨⟨by decide +kernel, by decide +kernel⟩, List.mem_of_getElem? (i := 630) (by decide +kernel), List.mem_of_getElem? (i := 826) (by decide +kernel), List.mem_of_getElem? (i := 827) (by decide +kernel)⟩
theorem lw_p34 : lw_okq (⟨"LeftTillCalledModel", "day", "()V"⟩, 16) := ⟨⟨by decide +kernel, by decide +kernel⟩, List.mem_of_getElem? (i := 630) (by decide +kernel), List.mem_of_getElem? (i := 830) (by decide +kernel), List.mem_of_getElem? (i := 831) (by decide +kernel)⟩
theorem lw_p35 : lw_okq (⟨"LeftTillCalledModel", "mount", "()V"⟩, 16) := ⟨⟨by decide +kernel, by decide +kernel⟩, List.mem_of_getElem? (i := 630) (by decide +kernel), List.mem_of_getElem? (i := 834) (by decide +kernel), List.mem_of_getElem? (i := 835) (by decide +kernel)⟩
theorem lw_p36 : lw_okq (⟨"LeftTillCalledModel", "earn", "()V"⟩, 16) := ⟨⟨by decide +kernel, by decide +kernel⟩, List.mem_of_getElem? (i := 630) (by decide +kernel), List.mem_of_getElem? (i := 839) (by decide +kernel), List.mem_of_getElem? (i := 840) (by decide +kernel)⟩
theorem lw_p37 : lw_okq (⟨"LeftTillCalledModel", "callsFor", "(I)V"⟩, 16) := ⟨⟨by decide +kernel, by decide +kernel⟩, List.mem_of_getElem? (i := 630) (by decide +kernel), List.mem_of_getElem? (i := 843) (by decide +kernel), List.mem_of_getElem? (i := 844) (by decide +kernel)⟩
theorem lw_p38 : lw_okq (⟨"LeftTillCalledModel", "isOffered", "(I)V"⟩, 16) := ⟨⟨by decide +kernel, by decide +kernel⟩, List.mem_of_getElem? (i := 630) (by decide +kernel), List.mem_of_getElem? (i := 847) (by decide +kernel), List.mem_of_getElem? (i := 848) (by decide +kernel)⟩
theorem lw_p39 : lw_okq (⟨"LeftTillCalledModel", "thoseThere", "()I"⟩, 16) := ⟨⟨by decide +kernel, by decide +kernel⟩, List.mem_of_getElem? (i := 630) (by decide +kernel), List.mem_of_getElem? (i := 851) (by decide +kernel), List.mem_of_getElem? (i := 852) (by decide +kernel)⟩
theorem lw_p40 : lw_okq (⟨"LeftTillCalledModel", "duesThere", "()I"⟩, 16) := ⟨⟨by decide +kernel, by decide +kernel⟩, List.mem_of_getElem? (i := 630) (by decide +kernel), List.mem_of_getElem? (i := 859) (by decide +kernel), List.mem_of_getElem? (i := 860) (by decide +kernel)⟩
theorem lw_p41 : lw_okq (⟨"LeftTillCalledModel", "meansAll", "()I"⟩, 16) := ⟨⟨by decide +kernel, by decide +kernel⟩, List.mem_of_getElem? (i := 630) (by decide +kernel), List.mem_of_getElem? (i := 863) (by decide +kernel), List.mem_of_getElem? (i := 864) (by decide +kernel)⟩
theorem lw_p42 : lw_okq (⟨"LeftTillCalledModel", "forSale", "()I"⟩, 16) := ⟨⟨by decide +kernel, by decide +kernel⟩, List.mem_of_getElem? (i := 630) (by decide +kernel), List.mem_of_getElem? (i := 867) (by decide +kernel), List.mem_of_getElem? (i := 868) (by decide +kernel)⟩
theorem lw_p43 : lw_okq (⟨"LeftTillCalledModel", "behind", "(II)I"⟩, 16) := ⟨⟨by decide +kernel, by decide +kernel⟩, List.mem_of_getElem? (i := 630) (by decide +kernel), List.mem_of_getElem? (i := 875) (by decide +kernel), List.mem_of_getElem? (i := 876) (by decide +kernel)⟩
theorem lw_p44 : lw_okq (⟨"LeftTillCalledModel", "laysAside", "()V"⟩, 16) := ⟨⟨by decide +kernel, by decide +kernel⟩, List.mem_of_getElem? (i := 630) (by decide +kernel), List.mem_of_getElem? (i := 879) (by decide +kernel), List.mem_of_getElem? (i := 880) (by decide +kernel)⟩
theorem lw_p45 : lw_okq (⟨"LeftTillCalledModel", "takesBack", "(I)I"⟩, 16) := ⟨⟨by decide +kernel, by decide +kernel⟩, List.mem_of_getElem? (i := 630) (by decide +kernel), List.mem_of_getElem? (i := 883) (by decide +kernel), List.mem_of_getElem? (i := 884) (by decide +kernel)⟩
theorem lw_p46 : lw_okq (⟨"LeftTillCalledModel", "goneIn", "(III)I"⟩, 16) := ⟨⟨by decide +kernel, by decide +kernel⟩, List.mem_of_getElem? (i := 630) (by decide +kernel), List.mem_of_getElem? (i := 895) (by decide +kernel), List.mem_of_getElem? (i := 896) (by decide +kernel)⟩
theorem lw_p47 : lw_okq (⟨"LeftTillCalledModel", "orNone", "(II)I"⟩, 16) := ⟨⟨by decide +kernel, by decide +kernel⟩, List.mem_of_getElem? (i := 630) (by decide +kernel), List.mem_of_getElem? (i := 899) (by decide +kernel), List.mem_of_getElem? (i := 900) (by decide +kernel)⟩
def lw_privs_3 : List (MethodName × Nat) := [(⟨"LeftTillCalledModel", "comesTo", "(III)V"⟩, 16), (⟨"LeftTillCalledModel", "daysGo", "(I)V"⟩, 16), (⟨"LeftTillCalledModel", "day", "()V"⟩, 16), (⟨"LeftTillCalledModel", "mount", "()V"⟩, 16), (⟨"LeftTillCalledModel", "earn", "()V"⟩, 16), (⟨"LeftTillCalledModel", "callsFor", "(I)V"⟩, 16), (⟨"LeftTillCalledModel", "isOffered", "(I)V"⟩, 16), (⟨"LeftTillCalledModel", "thoseThere", "()I"⟩, 16), (⟨"LeftTillCalledModel", "duesThere", "()I"⟩, 16), (⟨"LeftTillCalledModel", "meansAll", "()I"⟩, 16), (⟨"LeftTillCalledModel", "forSale", "()I"⟩, 16), (⟨"LeftTillCalledModel", "behind", "(II)I"⟩, 16), (⟨"LeftTillCalledModel", "laysAside", "()V"⟩, 16), (⟨"LeftTillCalledModel", "takesBack", "(I)I"⟩, 16), (⟨"LeftTillCalledModel", "goneIn", "(III)I"⟩, 16), (⟨"LeftTillCalledModel", "orNone", "(II)I"⟩, 16)]
theorem lw_r3 : ∀ q ∈ lw_privs_3, lw_okq q := List.forall_mem_cons.mpr ⟨lw_p32, List.forall_mem_cons.mpr ⟨lw_p33, List.forall_mem_cons.mpr ⟨lw_p34, List.forall_mem_cons.mpr ⟨lw_p35, List.forall_mem_cons.mpr ⟨lw_p36, List.forall_mem_cons.mpr ⟨lw_p37, List.forall_mem_cons.mpr ⟨lw_p38, List.forall_mem_cons.mpr ⟨lw_p39, List.forall_mem_cons.mpr ⟨lw_p40, List.forall_mem_cons.mpr ⟨lw_p41, List.forall_mem_cons.mpr ⟨lw_p42, List.forall_mem_cons.mpr ⟨lw_p43, List.forall_mem_cons.mpr ⟨lw_p44, List.forall_mem_cons.mpr ⟨lw_p45, List.forall_mem_cons.mpr ⟨lw_p46, List.forall_mem_cons.mpr ⟨lw_p47, fun _ h => absurd h List.not_mem_nil⟩⟩⟩⟩⟩⟩⟩⟩⟩⟩⟩⟩⟩⟩⟩⟩
theorem lw_p48 : lw_okq (⟨"LeftTillCalledModel", "soonestBy", "(IIII)I"⟩, 16) := ⟨⟨by decide +kernel, by decide +kernel⟩, List.mem_of_getElem? (i := 630) (by decide +kernel), List.mem_of_getElem? (i := 928) (by decide +kernel), List.mem_of_getElem? (i := 929) (by decide +kernel)⟩
theorem lw_p49 : lw_okq (⟨"LeftTillCalledModel", "saves", "()V"⟩, 16) := ⟨⟨by decide +kernel, by decide +kernel⟩, List.mem_of_getElem? (i := 630) (by decide +kernel), List.mem_of_getElem? (i := 963) (by decide +kernel), List.mem_of_getElem? (i := 964) (by decide +kernel)⟩
theorem lw_p50 : lw_okq (⟨"LeftTillCalledModel", "token", "()V"⟩, 16) := ⟨⟨by decide +kernel, by decide +kernel⟩, List.mem_of_getElem? (i := 630) (by decide +kernel), List.mem_of_getElem? (i := 967) (by decide +kernel), List.mem_of_getElem? (i := 968) (by decide +kernel)⟩
theorem lw_p51 : lw_okq (⟨"LeftTillCalledModel", "byteAt", "(I)I"⟩, 16) := ⟨⟨by decide +kernel, by decide +kernel⟩, List.mem_of_getElem? (i := 630) (by decide +kernel), List.mem_of_getElem? (i := 971) (by decide +kernel), List.mem_of_getElem? (i := 972) (by decide +kernel)⟩
theorem lw_p52 : lw_okq (⟨"LeftTillCalledModel", "item", "()V"⟩, 16) := ⟨⟨by decide +kernel, by decide +kernel⟩, List.mem_of_getElem? (i := 630) (by decide +kernel), List.mem_of_getElem? (i := 985) (by decide +kernel), List.mem_of_getElem? (i := 986) (by decide +kernel)⟩
theorem lw_p53 : lw_okq (⟨"LeftTillCalledModel", "kindHere", "()I"⟩, 16) := ⟨⟨by decide +kernel, by decide +kernel⟩, List.mem_of_getElem? (i := 630) (by decide +kernel), List.mem_of_getElem? (i := 989) (by decide +kernel), List.mem_of_getElem? (i := 990) (by decide +kernel)⟩
theorem lw_p54 : lw_okq (⟨"LeftTillCalledModel", "word", "()J"⟩, 16) := ⟨⟨by decide +kernel, by decide +kernel⟩, List.mem_of_getElem? (i := 630) (by decide +kernel), List.mem_of_getElem? (i := 993) (by decide +kernel), List.mem_of_getElem? (i := 994) (by decide +kernel)⟩
theorem lw_p55 : lw_okq (⟨"LeftTillCalledModel", "thingItem", "(I)V"⟩, 16) := ⟨⟨by decide +kernel, by decide +kernel⟩, List.mem_of_getElem? (i := 630) (by decide +kernel), List.mem_of_getElem? (i := 1005) (by decide +kernel), List.mem_of_getElem? (i := 1006) (by decide +kernel)⟩
theorem lw_p56 : lw_okq (⟨"LeftTillCalledModel", "must", "(Z)V"⟩, 16) := ⟨⟨by decide +kernel, by decide +kernel⟩, List.mem_of_getElem? (i := 630) (by decide +kernel), List.mem_of_getElem? (i := 1009) (by decide +kernel), List.mem_of_getElem? (i := 1010) (by decide +kernel)⟩
theorem lw_p57 : lw_okq (⟨"LeftTillCalledModel", "partItem", "(JII)V"⟩, 16) := ⟨⟨by decide +kernel, by decide +kernel⟩, List.mem_of_getElem? (i := 630) (by decide +kernel), List.mem_of_getElem? (i := 1014) (by decide +kernel), List.mem_of_getElem? (i := 1015) (by decide +kernel)⟩
theorem lw_p58 : lw_okq (⟨"LeftTillCalledModel", "number", "(II)V"⟩, 16) := ⟨⟨by decide +kernel, by decide +kernel⟩, List.mem_of_getElem? (i := 630) (by decide +kernel), List.mem_of_getElem? (i := 1018) (by decide +kernel), List.mem_of_getElem? (i := 1019) (by decide +kernel)⟩
theorem lw_p59 : lw_okq (⟨"LeftTillCalledModel", "meansItem", "()V"⟩, 16) := ⟨⟨by decide +kernel, by decide +kernel⟩, List.mem_of_getElem? (i := 630) (by decide +kernel), List.mem_of_getElem? (i := 1025) (by decide +kernel), List.mem_of_getElem? (i := 1026) (by decide +kernel)⟩
theorem lw_p60 : lw_okq (⟨"LeftTillCalledModel", "putsBack", "()V"⟩, 16) := ⟨⟨by decide +kernel, by decide +kernel⟩, List.mem_of_getElem? (i := 630) (by decide +kernel), List.mem_of_getElem? (i := 1031) (by decide +kernel), List.mem_of_getElem? (i := 1032) (by decide +kernel)⟩
theorem lw_p61 : lw_okq (⟨"LeftTillCalledModel", "wrongSheet", "(I)I"⟩, 16) := ⟨⟨by decide +kernel, by decide +kernel⟩, List.mem_of_getElem? (i := 630) (by decide +kernel), List.mem_of_getElem? (i := 1048) (by decide +kernel), List.mem_of_getElem? (i := 1049) (by decide +kernel)⟩
theorem lw_p62 : lw_okq (⟨"LeftTillCalledModel", "wrongBook", "(II)I"⟩, 16) := ⟨⟨by decide +kernel, by decide +kernel⟩, List.mem_of_getElem? (i := 630) (by decide +kernel), List.mem_of_getElem? (i := 1068) (by decide +kernel), List.mem_of_getElem? (i := 1069) (by decide +kernel)⟩
theorem lw_p63 : lw_okq (⟨"LeftTillCalledModel", "isBook", "(II)Z"⟩, 16) := ⟨⟨by decide +kernel, by decide +kernel⟩, List.mem_of_getElem? (i := 630) (by decide +kernel), List.mem_of_getElem? (i := 1076) (by decide +kernel), List.mem_of_getElem? (i := 1077) (by decide +kernel)⟩
def lw_privs_4 : List (MethodName × Nat) := [(⟨"LeftTillCalledModel", "soonestBy", "(IIII)I"⟩, 16), (⟨"LeftTillCalledModel", "saves", "()V"⟩, 16), (⟨"LeftTillCalledModel", "token", "()V"⟩, 16), (⟨"LeftTillCalledModel", "byteAt", "(I)I"⟩, 16), (⟨"LeftTillCalledModel", "item", "()V"⟩, 16), (⟨"LeftTillCalledModel", "kindHere", "()I"⟩, 16), (⟨"LeftTillCalledModel", "word", "()J"⟩, 16), (⟨"LeftTillCalledModel", "thingItem", "(I)V"⟩, 16), (⟨"LeftTillCalledModel", "must", "(Z)V"⟩, 16), (⟨"LeftTillCalledModel", "partItem", "(JII)V"⟩, 16), (⟨"LeftTillCalledModel", "number", "(II)V"⟩, 16), (⟨"LeftTillCalledModel", "meansItem", "()V"⟩, 16), (⟨"LeftTillCalledModel", "putsBack", "()V"⟩, 16), (⟨"LeftTillCalledModel", "wrongSheet", "(I)I"⟩, 16), (⟨"LeftTillCalledModel", "wrongBook", "(II)I"⟩, 16), (⟨"LeftTillCalledModel", "isBook", "(II)Z"⟩, 16)]
theorem lw_r4 : ∀ q ∈ lw_privs_4, lw_okq q := List.forall_mem_cons.mpr ⟨lw_p48, List.forall_mem_cons.mpr ⟨lw_p49, List.forall_mem_cons.mpr ⟨lw_p50, List.forall_mem_cons.mpr ⟨lw_p51, List.forall_mem_cons.mpr ⟨lw_p52, List.forall_mem_cons.mpr ⟨lw_p53, List.forall_mem_cons.mpr ⟨lw_p54, List.forall_mem_cons.mpr ⟨lw_p55, List.forall_mem_cons.mpr ⟨lw_p56, List.forall_mem_cons.mpr ⟨lw_p57, List.forall_mem_cons.mpr ⟨lw_p58, List.forall_mem_cons.mpr ⟨lw_p59, List.forall_mem_cons.mpr ⟨lw_p60, List.forall_mem_cons.mpr ⟨lw_p61, List.forall_mem_cons.mpr ⟨lw_p62, List.forall_mem_cons.mpr ⟨lw_p63, fun _ h => absurd h List.not_mem_nil⟩⟩⟩⟩⟩⟩⟩⟩⟩⟩⟩⟩⟩⟩⟩⟩
theorem lw_p64 : lw_okq (⟨"LeftTillCalledModel", "worths", "()I"⟩, 16) := ⟨⟨by decide +kernel, by decide +kernel⟩, List.mem_of_getElem? (i := 630) (by decide +kernel), List.mem_of_getElem? (i := 1096) (by decide +kernel), List.mem_of_getElem? (i := 1097) (by decide +kernel)⟩
def lw_privs_5 : List (MethodName × Nat) := [(⟨"LeftTillCalledModel", "worths", "()I"⟩, 16)]
theorem lw_r5 : ∀ q ∈ lw_privs_5, lw_okq q := List.forall_mem_cons.mpr ⟨lw_p64, fun _ h => absurd h List.not_mem_nil⟩
def lw_privs : List (MethodName × Nat) := lw_privs_1 ++ (lw_privs_2 ++ (lw_privs_3 ++ (lw_privs_4 ++ (lw_privs_5))))
def lw_tbl : List Cond := k2_sels lw_privs ++ tables_1
theorem lw_privs_ok : ∀ q ∈ lw_privs, lw_okq q := by
  show ∀ q ∈ lw_privs_1 ++ (lw_privs_2 ++ (lw_privs_3 ++ (lw_privs_4 ++ (lw_privs_5)))), lw_okq q
  exact List.forall_mem_append.mpr ⟨lw_r1, List.forall_mem_append.mpr ⟨lw_r2, List.forall_mem_append.mpr ⟨lw_r3, List.forall_mem_append.mpr ⟨lw_r4, lw_r5⟩⟩⟩⟩
end
section
def RX0 : String := "LeftTillCalled$Sheet"
def TX0 : u_T := fun k => match k with
  | 0 => ("LeftTillCalled$Sheet", "bits", "I", false)
  | 1 => ("LeftTillCalled$Sheet", "length", "I", false)
  | _ => ("LeftTillCalled$Sheet", "numbers", "[J", true)
def tyX0 : Nat → FieldType := fun k => match k with
  | 0 => .int
  | 1 => .int
  | _ => .array .long
abbrev wsX00 : List Cond := u_ws RX0 TX0 3
theorem nmX0 : ∀ a, a < 3 → ∀ b, b < 3 → a ≠ b → (TX0 a).2.1 ≠ (TX0 b).2.1 := by decide +kernel
theorem tyX0_ok : ∀ k, k < 3 → parseFieldDescriptor (TX0 k).2.2.1 = some (tyX0 k) := by decide +kernel
abbrev cX0_init : ByteArray := prog_2_method_1_code
def yX0_init : MethodName := ⟨RX0, "<init>", "()V"⟩
abbrev cX0_isMissing : ByteArray := prog_2_method_2_code
def yX0_isMissing : MethodName := ⟨RX0, "isMissing", "()Z"⟩
abbrev cX0_begin : ByteArray := prog_2_method_3_code
def yX0_begin : MethodName := ⟨RX0, "begin", "(II)V"⟩
abbrev cX0_put : ByteArray := prog_2_method_4_code
def yX0_put : MethodName := ⟨RX0, "put", "(IJ)V"⟩
abbrev cX0_hasRun : ByteArray := prog_2_method_5_code
def yX0_hasRun : MethodName := ⟨RX0, "hasRun", "(II)Z"⟩
def RX1 : String := "LeftTillCalled$Station"
def TX1 : u_T := fun k => match k with
  | 0 => ("LeftTillCalled$Station", "day", "I", false)
  | 1 => ("LeftTillCalled$Station", "taken", "I", false)
  | 2 => ("LeftTillCalled$Station", "means", "[I", true)
  | 3 => ("LeftTillCalled$Station", "earns", "[I", true)
  | 4 => ("LeftTillCalled$Station", "spends", "[I", true)
  | 5 => ("LeftTillCalled$Station", "things", "I", false)
  | 6 => ("LeftTillCalled$Station", "kinds", "[I", true)
  | 7 => ("LeftTillCalled$Station", "labels", "[I", true)
  | 8 => ("LeftTillCalled$Station", "lefts", "[I", true)
  | 9 => ("LeftTillCalled$Station", "dues", "[I", true)
  | 10 => ("LeftTillCalled$Station", "worths", "[I", true)
  | _ => ("LeftTillCalled$Station", "withs", "[I", true)
def tyX1 : Nat → FieldType := fun k => match k with
  | 0 => .int
  | 1 => .int
  | 2 => .array .int
  | 3 => .array .int
  | 4 => .array .int
  | 5 => .int
  | 6 => .array .int
  | 7 => .array .int
  | 8 => .array .int
  | 9 => .array .int
  | 10 => .array .int
  | _ => .array .int
abbrev wsX10 : List Cond := u_ws RX1 TX1 12
theorem nmX1 : ∀ a, a < 12 → ∀ b, b < 12 → a ≠ b → (TX1 a).2.1 ≠ (TX1 b).2.1 := by decide +kernel
theorem tyX1_ok : ∀ k, k < 12 → parseFieldDescriptor (TX1 k).2.2.1 = some (tyX1 k) := by decide +kernel
abbrev cX1_init : ByteArray := prog_3_method_1_code
def yX1_init : MethodName := ⟨RX1, "<init>", "()V"⟩
abbrev cX1_become : ByteArray := prog_3_method_2_code
def yX1_become : MethodName := ⟨RX1, "become", "(LLeftTillCalled$Station;)V"⟩
abbrev cX1_hasThing : ByteArray := prog_3_method_3_code
def yX1_hasThing : MethodName := ⟨RX1, "hasThing", "(I)Z"⟩
abbrev cX1_isFull : ByteArray := prog_3_method_4_code
def yX1_isFull : MethodName := ⟨RX1, "isFull", "()Z"⟩
abbrev cX1_isThere : ByteArray := prog_3_method_5_code
def yX1_isThere : MethodName := ⟨RX1, "isThere", "(I)Z"⟩
abbrev cX1_take : ByteArray := prog_3_method_6_code
def yX1_take : MethodName := ⟨RX1, "take", "(IIII)I"⟩
abbrev cX1_takeBack : ByteArray := prog_3_method_7_code
def yX1_takeBack : MethodName := ⟨RX1, "takeBack", "(I)I"⟩
abbrev cX1_handOver : ByteArray := prog_3_method_8_code
def yX1_handOver : MethodName := ⟨RX1, "handOver", "(III)V"⟩
abbrev cX1_mountOf : ByteArray := prog_3_method_9_code
def yX1_mountOf : MethodName := ⟨RX1, "mountOf", "(I)I"⟩
abbrev cX1_maySell : ByteArray := prog_3_method_10_code
def yX1_maySell : MethodName := ⟨RX1, "maySell", "(I)Z"⟩
abbrev cX1_offerOf : ByteArray := prog_3_method_11_code
def yX1_offerOf : MethodName := ⟨RX1, "offerOf", "(II)I"⟩
abbrev cX1_canBeCalled : ByteArray := prog_3_method_12_code
def yX1_canBeCalled : MethodName := ⟨RX1, "canBeCalled", "(I)Z"⟩
abbrev cX1_goDays : ByteArray := prog_3_method_13_code
def yX1_goDays : MethodName := ⟨RX1, "goDays", "(I)V"⟩
abbrev cX1_goDay : ByteArray := prog_3_method_14_code
def yX1_goDay : MethodName := ⟨RX1, "goDay", "()V"⟩
abbrev cX1_mountAll : ByteArray := prog_3_method_15_code
def yX1_mountAll : MethodName := ⟨RX1, "mountAll", "()V"⟩
abbrev cX1_earnAndSpend : ByteArray := prog_3_method_16_code
def yX1_earnAndSpend : MethodName := ⟨RX1, "earnAndSpend", "()V"⟩
abbrev cX1_callForOneEach : ByteArray := prog_3_method_17_code
def yX1_callForOneEach : MethodName := ⟨RX1, "callForOneEach", "()V"⟩
abbrev cX1_holdSale : ByteArray := prog_3_method_18_code
def yX1_holdSale : MethodName := ⟨RX1, "holdSale", "()V"⟩
abbrev cX1_highestBidder : ByteArray := prog_3_method_19_code
def yX1_highestBidder : MethodName := ⟨RX1, "highestBidder", "(I)I"⟩
abbrev cX1_daysTillGone : ByteArray := prog_3_method_20_code
def yX1_daysTillGone : MethodName := ⟨RX1, "daysTillGone", "(II)I"⟩
abbrev cX1_daysTillWith : ByteArray := prog_3_method_21_code
def yX1_daysTillWith : MethodName := ⟨RX1, "daysTillWith", "(III)I"⟩
abbrev cX1_daysTillEmpty : ByteArray := prog_3_method_22_code
def yX1_daysTillEmpty : MethodName := ⟨RX1, "daysTillEmpty", "(I)I"⟩
abbrev cX1_countWith : ByteArray := prog_3_method_23_code
def yX1_countWith : MethodName := ⟨RX1, "countWith", "(I)I"⟩
abbrev cX1_setOf : ByteArray := prog_3_method_24_code
def yX1_setOf : MethodName := ⟨RX1, "setOf", "([II)I"⟩
abbrev cX1_setForSale : ByteArray := prog_3_method_25_code
def yX1_setForSale : MethodName := ⟨RX1, "setForSale", "()I"⟩
abbrev cX1_dueOfAllThere : ByteArray := prog_3_method_26_code
def yX1_dueOfAllThere : MethodName := ⟨RX1, "dueOfAllThere", "()I"⟩
abbrev cX1_meansOfAll : ByteArray := prog_3_method_27_code
def yX1_meansOfAll : MethodName := ⟨RX1, "meansOfAll", "()I"⟩
abbrev cX1_worthOfAll : ByteArray := prog_3_method_28_code
def yX1_worthOfAll : MethodName := ⟨RX1, "worthOfAll", "()I"⟩
def RX2 : String := "LeftTillCalled$Tape"
def TX2 : u_T := fun k => match k with
  | 0 => ("LeftTillCalled$Tape", "bytes", "[B", true)
  | _ => ("LeftTillCalled$Tape", "length", "I", false)
def tyX2 : Nat → FieldType := fun k => match k with
  | 0 => .array .byte
  | _ => .int
abbrev wsX20 : List Cond := u_ws RX2 TX2 2
theorem nmX2 : ∀ a, a < 2 → ∀ b, b < 2 → a ≠ b → (TX2 a).2.1 ≠ (TX2 b).2.1 := by decide +kernel
theorem tyX2_ok : ∀ k, k < 2 → parseFieldDescriptor (TX2 k).2.2.1 = some (tyX2 k) := by decide +kernel
abbrev cX2_init : ByteArray := prog_4_method_1_code
def yX2_init : MethodName := ⟨RX2, "<init>", "()V"⟩
abbrev cX2_add : ByteArray := prog_4_method_2_code
def yX2_add : MethodName := ⟨RX2, "add", "(B)V"⟩
def RX3 : String := "LeftTillCalled$Text"
def TX3 : u_T := fun k => match k with
  | 0 => ("LeftTillCalled$Text", "tape", "LLeftTillCalled$Tape;", true)
  | 1 => ("LeftTillCalled$Text", "at", "I", false)
  | 2 => ("LeftTillCalled$Text", "token", "I", false)
  | 3 => ("LeftTillCalled$Text", "place", "I", false)
  | _ => ("LeftTillCalled$Text", "number", "I", false)
def tyX3 : Nat → FieldType := fun k => match k with
  | 0 => .object "LeftTillCalled$Tape"
  | 1 => .int
  | 2 => .int
  | 3 => .int
  | _ => .int
abbrev wsX30 : List Cond := u_ws RX3 TX3 5
theorem nmX3 : ∀ a, a < 5 → ∀ b, b < 5 → a ≠ b → (TX3 a).2.1 ≠ (TX3 b).2.1 := by decide +kernel
theorem tyX3_ok : ∀ k, k < 5 → parseFieldDescriptor (TX3 k).2.2.1 = some (tyX3 k) := by decide +kernel
abbrev cX3_init : ByteArray := prog_5_method_1_code
def yX3_init : MethodName := ⟨RX3, "<init>", "(LLeftTillCalled$Tape;)V"⟩
abbrev cX3_tellTo : ByteArray := prog_5_method_2_code
def yX3_tellTo : MethodName := ⟨RX3, "tellTo", "(LLeftTillCalled$Station;)I"⟩
abbrev cX3_tellThing : ByteArray := prog_5_method_3_code
def yX3_tellThing : MethodName := ⟨RX3, "tellThing", "(LLeftTillCalled$Station;)Z"⟩
abbrev cX3_tellPerson : ByteArray := prog_5_method_4_code
def yX3_tellPerson : MethodName := ⟨RX3, "tellPerson", "(LLeftTillCalled$Station;)Z"⟩
abbrev cX3_clause : ByteArray := prog_5_method_5_code
def yX3_clause : MethodName := ⟨RX3, "clause", "(Ljava/lang/String;II)I"⟩
abbrev cX3_numberUpTo : ByteArray := prog_5_method_6_code
def yX3_numberUpTo : MethodName := ⟨RX3, "numberUpTo", "(I)I"⟩
abbrev cX3_advance : ByteArray := prog_5_method_7_code
def yX3_advance : MethodName := ⟨RX3, "advance", "()V"⟩
abbrev cX3_tokenAt : ByteArray := prog_5_method_8_code
def yX3_tokenAt : MethodName := ⟨RX3, "tokenAt", "(I)I"⟩
abbrev cX3_isWord : ByteArray := prog_5_method_9_code
def yX3_isWord : MethodName := ⟨RX3, "isWord", "(Ljava/lang/String;)Z"⟩
abbrev cX3_kindNamed : ByteArray := prog_5_method_10_code
def yX3_kindNamed : MethodName := ⟨RX3, "kindNamed", "()I"⟩
abbrev cX3_nameOf : ByteArray := prog_5_method_11_code
def yX3_nameOf : MethodName := ⟨RX3, "nameOf", "(I)Ljava/lang/String;"⟩
def RX4 : String := "LeftTillCalled"
def TX4 : u_T := fun k => match k with
  | 0 => ("LeftTillCalled", "room", "LLeftTillCalled$Station;", true)
  | 1 => ("LeftTillCalled", "ahead", "LLeftTillCalled$Station;", true)
  | 2 => ("LeftTillCalled", "kept", "LLeftTillCalled$Station;", true)
  | 3 => ("LeftTillCalled", "isKept", "Z", false)
  | 4 => ("LeftTillCalled", "tape", "LLeftTillCalled$Tape;", true)
  | 5 => ("LeftTillCalled", "text", "LLeftTillCalled$Text;", true)
  | 6 => ("LeftTillCalled", "sheets", "[LLeftTillCalled$Sheet;", true)
  | _ => ("LeftTillCalled", "findings", "[I", true)
def tyX4 : Nat → FieldType := fun k => match k with
  | 0 => .object "LeftTillCalled$Station"
  | 1 => .object "LeftTillCalled$Station"
  | 2 => .object "LeftTillCalled$Station"
  | 3 => .boolean
  | 4 => .object "LeftTillCalled$Tape"
  | 5 => .object "LeftTillCalled$Text"
  | 6 => .array (.object "LeftTillCalled$Sheet")
  | _ => .array .int
abbrev wsX40 : List Cond := u_ws RX4 TX4 8
theorem nmX4 : ∀ a, a < 8 → ∀ b, b < 8 → a ≠ b → (TX4 a).2.1 ≠ (TX4 b).2.1 := by decide +kernel
theorem tyX4_ok : ∀ k, k < 8 → parseFieldDescriptor (TX4 k).2.2.1 = some (tyX4 k) := by decide +kernel
abbrev cX4_init : ByteArray := prog_1_method_1_code
def yX4_init : MethodName := ⟨RX4, "<init>", "()V"⟩
abbrev cX4_person : ByteArray := prog_1_method_2_code
def yX4_person : MethodName := ⟨RX4, "person", "(III)I"⟩
abbrev cX4_personOf : ByteArray := prog_1_method_3_code
def yX4_personOf : MethodName := ⟨RX4, "personOf", "(II)I"⟩
abbrev cX4_thing : ByteArray := prog_1_method_4_code
def yX4_thing : MethodName := ⟨RX4, "thing", "(II)I"⟩
abbrev cX4_of : ByteArray := prog_1_method_5_code
def yX4_of : MethodName := ⟨RX4, "of", "(II)I"⟩
abbrev cX4_set : ByteArray := prog_1_method_6_code
def yX4_set : MethodName := ⟨RX4, "set", "(III)I"⟩
abbrev cX4_turn : ByteArray := prog_1_method_7_code
def yX4_turn : MethodName := ⟨RX4, "turn", "(II)I"⟩
abbrev cX4_as : ByteArray := prog_1_method_8_code
def yX4_as : MethodName := ⟨RX4, "as", "(II)I"⟩
abbrev cX4_bid : ByteArray := prog_1_method_9_code
def yX4_bid : MethodName := ⟨RX4, "bid", "(II)I"⟩
abbrev cX4_call : ByteArray := prog_1_method_10_code
def yX4_call : MethodName := ⟨RX4, "call", "(I)I"⟩
abbrev cX4_leave : ByteArray := prog_1_method_11_code
def yX4_leave : MethodName := ⟨RX4, "leave", "(I)I"⟩
abbrev cX4_days : ByteArray := prog_1_method_12_code
def yX4_days : MethodName := ⟨RX4, "days", "(I)I"⟩
abbrev cX4_now : ByteArray := prog_1_method_13_code
def yX4_now : MethodName := ⟨RX4, "now", "(I)I"⟩
abbrev cX4_on : ByteArray := prog_1_method_14_code
def yX4_on : MethodName := ⟨RX4, "on", "(III)I"⟩
abbrev cX4_means : ByteArray := prog_1_method_15_code
def yX4_means : MethodName := ⟨RX4, "means", "(II)I"⟩
abbrev cX4_gone : ByteArray := prog_1_method_16_code
def yX4_gone : MethodName := ⟨RX4, "gone", "(I)I"⟩
abbrev cX4_comes : ByteArray := prog_1_method_17_code
def yX4_comes : MethodName := ⟨RX4, "comes", "(II)I"⟩
abbrev cX4_empty : ByteArray := prog_1_method_18_code
def yX4_empty : MethodName := ⟨RX4, "empty", "()I"⟩
abbrev cX4_enough : ByteArray := prog_1_method_19_code
def yX4_enough : MethodName := ⟨RX4, "enough", "(III)I"⟩
abbrev cX4_spend : ByteArray := prog_1_method_20_code
def yX4_spend : MethodName := ⟨RX4, "spend", "(III)I"⟩
abbrev cX4_kind : ByteArray := prog_1_method_21_code
def yX4_kind : MethodName := ⟨RX4, "kind", "(II)I"⟩
abbrev cX4_label : ByteArray := prog_1_method_22_code
def yX4_label : MethodName := ⟨RX4, "label", "(I)I"⟩
abbrev cX4_first : ByteArray := prog_1_method_23_code
def yX4_first : MethodName := ⟨RX4, "first", "(II)I"⟩
abbrev cX4_worth : ByteArray := prog_1_method_24_code
def yX4_worth : MethodName := ⟨RX4, "worth", "(II)I"⟩
abbrev cX4_most : ByteArray := prog_1_method_25_code
def yX4_most : MethodName := ⟨RX4, "most", "(I)I"⟩
abbrev cX4_feed : ByteArray := prog_1_method_26_code
def yX4_feed : MethodName := ⟨RX4, "feed", "(II)I"⟩
abbrev cX4_wipe : ByteArray := prog_1_method_27_code
def yX4_wipe : MethodName := ⟨RX4, "wipe", "()I"⟩
abbrev cX4_station : ByteArray := prog_1_method_28_code
def yX4_station : MethodName := ⟨RX4, "station", "()I"⟩
abbrev cX4_sheet : ByteArray := prog_1_method_29_code
def yX4_sheet : MethodName := ⟨RX4, "sheet", "(III)I"⟩
abbrev cX4_write : ByteArray := prog_1_method_30_code
def yX4_write : MethodName := ⟨RX4, "write", "(IIJ)J"⟩
abbrev cX4_copy : ByteArray := prog_1_method_31_code
def yX4_copy : MethodName := ⟨RX4, "copy", "(IIIII)I"⟩
abbrev cX4_lays : ByteArray := prog_1_method_32_code
def yX4_lays : MethodName := ⟨RX4, "lays", "(I)I"⟩
abbrev cX4_book : ByteArray := prog_1_method_33_code
def yX4_book : MethodName := ⟨RX4, "book", "(II)I"⟩
abbrev cX4_read : ByteArray := prog_1_method_34_code
def yX4_read : MethodName := ⟨RX4, "read", "(II)I"⟩
abbrev cX4_image : ByteArray := prog_1_method_35_code
def yX4_image : MethodName := ⟨RX4, "image", "()I"⟩
abbrev cX4_undo : ByteArray := prog_1_method_36_code
def yX4_undo : MethodName := ⟨RX4, "undo", "()I"⟩
abbrev cX4_tear : ByteArray := prog_1_method_37_code
def yX4_tear : MethodName := ⟨RX4, "tear", "()I"⟩
abbrev cX4_count : ByteArray := prog_1_method_38_code
def yX4_count : MethodName := ⟨RX4, "count", "(I)I"⟩
abbrev cX4_status : ByteArray := prog_1_method_39_code
def yX4_status : MethodName := ⟨RX4, "status", "(I)I"⟩
abbrev cX4_found : ByteArray := prog_1_method_40_code
def yX4_found : MethodName := ⟨RX4, "found", "(I)I"⟩
abbrev cX4_orNone : ByteArray := prog_1_method_41_code
def yX4_orNone : MethodName := ⟨RX4, "orNone", "(I)I"⟩
abbrev cX4_startAhead : ByteArray := prog_1_method_42_code
def yX4_startAhead : MethodName := ⟨RX4, "startAhead", "()V"⟩
abbrev cX4_findingOfPage : ByteArray := prog_1_method_43_code
def yX4_findingOfPage : MethodName := ⟨RX4, "findingOfPage", "(II)I"⟩
abbrev cX4_isBookedAhead : ByteArray := prog_1_method_44_code
def yX4_isBookedAhead : MethodName := ⟨RX4, "isBookedAhead", "(LLeftTillCalled$Sheet;I)Z"⟩
abbrev cX4_isWithin : ByteArray := prog_1_method_45_code
def yX4_isWithin : MethodName := ⟨RX4, "isWithin", "(III)Z"⟩
abbrev cX4_isPerson : ByteArray := prog_1_method_46_code
def yX4_isPerson : MethodName := ⟨RX4, "isPerson", "(I)Z"⟩
abbrev cX4_isKind : ByteArray := prog_1_method_47_code
def yX4_isKind : MethodName := ⟨RX4, "isKind", "(I)Z"⟩
abbrev cX4_isSheet : ByteArray := prog_1_method_48_code
def yX4_isSheet : MethodName := ⟨RX4, "isSheet", "(I)Z"⟩
abbrev cX4_mostOfPerson : ByteArray := prog_1_method_49_code
def yX4_mostOfPerson : MethodName := ⟨RX4, "mostOfPerson", "(I)I"⟩
abbrev cX4_mostOfThing : ByteArray := prog_1_method_50_code
def yX4_mostOfThing : MethodName := ⟨RX4, "mostOfThing", "(I)I"⟩
abbrev cX4_isUnder : ByteArray := prog_1_method_51_code
def yX4_isUnder : MethodName := ⟨RX4, "isUnder", "(II)Z"⟩
def RX5 : String := "LeftTillCalledModel"
def TX5 : u_T := fun k => match k with
  | 0 => ("LeftTillCalledModel", "s", "[I", true)
  | 1 => ("LeftTillCalledModel", "keptS", "[I", true)
  | 2 => ("LeftTillCalledModel", "other", "[I", true)
  | 3 => ("LeftTillCalledModel", "aside", "[I", true)
  | 4 => ("LeftTillCalledModel", "statuses", "[I", true)
  | 5 => ("LeftTillCalledModel", "isKept", "Z", false)
  | 6 => ("LeftTillCalledModel", "tape", "[I", true)
  | 7 => ("LeftTillCalledModel", "taped", "I", false)
  | 8 => ("LeftTillCalledModel", "from", "I", false)
  | 9 => ("LeftTillCalledModel", "to", "I", false)
  | 10 => ("LeftTillCalledModel", "value", "I", false)
  | 11 => ("LeftTillCalledModel", "isWrong", "Z", false)
  | 12 => ("LeftTillCalledModel", "bitsOf", "[I", true)
  | 13 => ("LeftTillCalledModel", "sizeOf", "[I", true)
  | 14 => ("LeftTillCalledModel", "numbers", "[J", true)
  | _ => ("LeftTillCalledModel", "moved", "[J", true)
def tyX5 : Nat → FieldType := fun k => match k with
  | 0 => .array .int
  | 1 => .array .int
  | 2 => .array .int
  | 3 => .array .int
  | 4 => .array .int
  | 5 => .boolean
  | 6 => .array .int
  | 7 => .int
  | 8 => .int
  | 9 => .int
  | 10 => .int
  | 11 => .boolean
  | 12 => .array .int
  | 13 => .array .int
  | 14 => .array .long
  | _ => .array .long
abbrev wsX50 : List Cond := u_ws RX5 TX5 16
theorem nmX5 : ∀ a, a < 16 → ∀ b, b < 16 → a ≠ b → (TX5 a).2.1 ≠ (TX5 b).2.1 := by decide +kernel
theorem tyX5_ok : ∀ k, k < 16 → parseFieldDescriptor (TX5 k).2.2.1 = some (tyX5 k) := by decide +kernel
abbrev cX5_init : ByteArray := prog_7_method_1_code
def yX5_init : MethodName := ⟨RX5, "<init>", "()V"⟩
abbrev cX5_in : ByteArray := prog_7_method_2_code
def yX5_in : MethodName := ⟨RX5, "in", "(JJJ)Z"⟩
abbrev cX5_finds : ByteArray := prog_7_method_3_code
def yX5_finds : MethodName := ⟨RX5, "finds", "(I)I"⟩
abbrev cX5_saves : ByteArray := prog_7_method_4_code
def yX5_saves : MethodName := ⟨RX5, "saves", "()V"⟩
abbrev cX5_putsBack : ByteArray := prog_7_method_5_code
def yX5_putsBack : MethodName := ⟨RX5, "putsBack", "()V"⟩
abbrev cX5_laysAside : ByteArray := prog_7_method_6_code
def yX5_laysAside : MethodName := ⟨RX5, "laysAside", "()V"⟩
abbrev cX5_takesBack : ByteArray := prog_7_method_7_code
def yX5_takesBack : MethodName := ⟨RX5, "takesBack", "(I)I"⟩
abbrev cX5_becomes : ByteArray := prog_7_method_8_code
def yX5_becomes : MethodName := ⟨RX5, "becomes", "(II)I"⟩
abbrev cX5_isPerson : ByteArray := prog_7_method_9_code
def yX5_isPerson : MethodName := ⟨RX5, "isPerson", "(I)Z"⟩
abbrev cX5_isThing : ByteArray := prog_7_method_10_code
def yX5_isThing : MethodName := ⟨RX5, "isThing", "(I)Z"⟩
abbrev cX5_isKind : ByteArray := prog_7_method_11_code
def yX5_isKind : MethodName := ⟨RX5, "isKind", "(I)Z"⟩
abbrev cX5_placeOf : ByteArray := prog_7_method_12_code
def yX5_placeOf : MethodName := ⟨RX5, "placeOf", "(II)I"⟩
abbrev cX5_spotOf : ByteArray := prog_7_method_13_code
def yX5_spotOf : MethodName := ⟨RX5, "spotOf", "(II)I"⟩
abbrev cX5_his : ByteArray := prog_7_method_14_code
def yX5_his : MethodName := ⟨RX5, "his", "(II)I"⟩
abbrev cX5_its : ByteArray := prog_7_method_15_code
def yX5_its : MethodName := ⟨RX5, "its", "(II)I"⟩
abbrev cX5_heldTo : ByteArray := prog_7_method_16_code
def yX5_heldTo : MethodName := ⟨RX5, "heldTo", "(II)I"⟩
abbrev cX5_ones : ByteArray := prog_7_method_17_code
def yX5_ones : MethodName := ⟨RX5, "ones", "(I)I"⟩
abbrev cX5_person : ByteArray := prog_7_method_18_code
def yX5_person : MethodName := ⟨RX5, "person", "(III)I"⟩
abbrev cX5_thoseAs : ByteArray := prog_7_method_19_code
def yX5_thoseAs : MethodName := ⟨RX5, "thoseAs", "(II)I"⟩
abbrev cX5_personOf : ByteArray := prog_7_method_20_code
def yX5_personOf : MethodName := ⟨RX5, "personOf", "(II)I"⟩
abbrev cX5_adds : ByteArray := prog_7_method_21_code
def yX5_adds : MethodName := ⟨RX5, "adds", "(II)I"⟩
abbrev cX5_thing : ByteArray := prog_7_method_22_code
def yX5_thing : MethodName := ⟨RX5, "thing", "(II)I"⟩
abbrev cX5_isThere : ByteArray := prog_7_method_23_code
def yX5_isThere : MethodName := ⟨RX5, "isThere", "(I)Z"⟩
abbrev cX5_daysOf : ByteArray := prog_7_method_24_code
def yX5_daysOf : MethodName := ⟨RX5, "daysOf", "(I)I"⟩
abbrev cX5_mountsOf : ByteArray := prog_7_method_25_code
def yX5_mountsOf : MethodName := ⟨RX5, "mountsOf", "(I)I"⟩
abbrev cX5_maySell : ByteArray := prog_7_method_26_code
def yX5_maySell : MethodName := ⟨RX5, "maySell", "(I)Z"⟩
abbrev cX5_bidOf : ByteArray := prog_7_method_27_code
def yX5_bidOf : MethodName := ⟨RX5, "bidOf", "(II)I"⟩
abbrev cX5_of : ByteArray := prog_7_method_28_code
def yX5_of : MethodName := ⟨RX5, "of", "(II)I"⟩
abbrev cX5_isPart : ByteArray := prog_7_method_29_code
def yX5_isPart : MethodName := ⟨RX5, "isPart", "(II)Z"⟩
abbrev cX5_set : ByteArray := prog_7_method_30_code
def yX5_set : MethodName := ⟨RX5, "set", "(III)I"⟩
abbrev cX5_turn : ByteArray := prog_7_method_31_code
def yX5_turn : MethodName := ⟨RX5, "turn", "(II)I"⟩
abbrev cX5_isUnder : ByteArray := prog_7_method_32_code
def yX5_isUnder : MethodName := ⟨RX5, "isUnder", "(II)Z"⟩
abbrev cX5_as : ByteArray := prog_7_method_33_code
def yX5_as : MethodName := ⟨RX5, "as", "(II)I"⟩
abbrev cX5_bid : ByteArray := prog_7_method_34_code
def yX5_bid : MethodName := ⟨RX5, "bid", "(II)I"⟩
abbrev cX5_comesTo : ByteArray := prog_7_method_35_code
def yX5_comesTo : MethodName := ⟨RX5, "comesTo", "(III)V"⟩
abbrev cX5_mayCall : ByteArray := prog_7_method_36_code
def yX5_mayCall : MethodName := ⟨RX5, "mayCall", "(I)Z"⟩
abbrev cX5_calls : ByteArray := prog_7_method_37_code
def yX5_calls : MethodName := ⟨RX5, "calls", "(I)I"⟩
abbrev cX5_call : ByteArray := prog_7_method_38_code
def yX5_call : MethodName := ⟨RX5, "call", "(I)I"⟩
abbrev cX5_leave : ByteArray := prog_7_method_39_code
def yX5_leave : MethodName := ⟨RX5, "leave", "(I)I"⟩
abbrev cX5_mount : ByteArray := prog_7_method_40_code
def yX5_mount : MethodName := ⟨RX5, "mount", "()V"⟩
abbrev cX5_earn : ByteArray := prog_7_method_41_code
def yX5_earn : MethodName := ⟨RX5, "earn", "()V"⟩
abbrev cX5_callsFor : ByteArray := prog_7_method_42_code
def yX5_callsFor : MethodName := ⟨RX5, "callsFor", "(I)V"⟩
abbrev cX5_isOffered : ByteArray := prog_7_method_43_code
def yX5_isOffered : MethodName := ⟨RX5, "isOffered", "(I)V"⟩
abbrev cX5_day : ByteArray := prog_7_method_44_code
def yX5_day : MethodName := ⟨RX5, "day", "()V"⟩
abbrev cX5_daysGo : ByteArray := prog_7_method_45_code
def yX5_daysGo : MethodName := ⟨RX5, "daysGo", "(I)V"⟩
abbrev cX5_thoseThere : ByteArray := prog_7_method_46_code
def yX5_thoseThere : MethodName := ⟨RX5, "thoseThere", "()I"⟩
abbrev cX5_days : ByteArray := prog_7_method_47_code
def yX5_days : MethodName := ⟨RX5, "days", "(I)I"⟩
abbrev cX5_duesThere : ByteArray := prog_7_method_48_code
def yX5_duesThere : MethodName := ⟨RX5, "duesThere", "()I"⟩
abbrev cX5_meansAll : ByteArray := prog_7_method_49_code
def yX5_meansAll : MethodName := ⟨RX5, "meansAll", "()I"⟩
abbrev cX5_forSale : ByteArray := prog_7_method_50_code
def yX5_forSale : MethodName := ⟨RX5, "forSale", "()I"⟩
abbrev cX5_now : ByteArray := prog_7_method_51_code
def yX5_now : MethodName := ⟨RX5, "now", "(I)I"⟩
abbrev cX5_behind : ByteArray := prog_7_method_52_code
def yX5_behind : MethodName := ⟨RX5, "behind", "(II)I"⟩
abbrev cX5_on : ByteArray := prog_7_method_53_code
def yX5_on : MethodName := ⟨RX5, "on", "(III)I"⟩
abbrev cX5_means : ByteArray := prog_7_method_54_code
def yX5_means : MethodName := ⟨RX5, "means", "(II)I"⟩
abbrev cX5_goneIn : ByteArray := prog_7_method_55_code
def yX5_goneIn : MethodName := ⟨RX5, "goneIn", "(III)I"⟩
abbrev cX5_orNone : ByteArray := prog_7_method_56_code
def yX5_orNone : MethodName := ⟨RX5, "orNone", "(II)I"⟩
abbrev cX5_gone : ByteArray := prog_7_method_57_code
def yX5_gone : MethodName := ⟨RX5, "gone", "(I)I"⟩
abbrev cX5_comes : ByteArray := prog_7_method_58_code
def yX5_comes : MethodName := ⟨RX5, "comes", "(II)I"⟩
abbrev cX5_empty : ByteArray := prog_7_method_59_code
def yX5_empty : MethodName := ⟨RX5, "empty", "()I"⟩
abbrev cX5_isSoon : ByteArray := prog_7_method_60_code
def yX5_isSoon : MethodName := ⟨RX5, "isSoon", "(I)Z"⟩
abbrev cX5_enough : ByteArray := prog_7_method_61_code
def yX5_enough : MethodName := ⟨RX5, "enough", "(III)I"⟩
abbrev cX5_spend : ByteArray := prog_7_method_62_code
def yX5_spend : MethodName := ⟨RX5, "spend", "(III)I"⟩
abbrev cX5_kind : ByteArray := prog_7_method_63_code
def yX5_kind : MethodName := ⟨RX5, "kind", "(II)I"⟩
abbrev cX5_soonestBy : ByteArray := prog_7_method_64_code
def yX5_soonestBy : MethodName := ⟨RX5, "soonestBy", "(IIII)I"⟩
abbrev cX5_label : ByteArray := prog_7_method_65_code
def yX5_label : MethodName := ⟨RX5, "label", "(I)I"⟩
abbrev cX5_first : ByteArray := prog_7_method_66_code
def yX5_first : MethodName := ⟨RX5, "first", "(II)I"⟩
abbrev cX5_worth : ByteArray := prog_7_method_67_code
def yX5_worth : MethodName := ⟨RX5, "worth", "(II)I"⟩
abbrev cX5_most : ByteArray := prog_7_method_68_code
def yX5_most : MethodName := ⟨RX5, "most", "(I)I"⟩
abbrev cX5_feed : ByteArray := prog_7_method_69_code
def yX5_feed : MethodName := ⟨RX5, "feed", "(II)I"⟩
abbrev cX5_wipe : ByteArray := prog_7_method_70_code
def yX5_wipe : MethodName := ⟨RX5, "wipe", "()I"⟩
abbrev cX5_byteAt : ByteArray := prog_7_method_71_code
def yX5_byteAt : MethodName := ⟨RX5, "byteAt", "(I)I"⟩
abbrev cX5_isLetter : ByteArray := prog_7_method_72_code
def yX5_isLetter : MethodName := ⟨RX5, "isLetter", "(I)Z"⟩
abbrev cX5_isDigit : ByteArray := prog_7_method_73_code
def yX5_isDigit : MethodName := ⟨RX5, "isDigit", "(I)Z"⟩
abbrev cX5_token : ByteArray := prog_7_method_74_code
def yX5_token : MethodName := ⟨RX5, "token", "()V"⟩
abbrev cX5_must : ByteArray := prog_7_method_75_code
def yX5_must : MethodName := ⟨RX5, "must", "(Z)V"⟩
abbrev cX5_word : ByteArray := prog_7_method_76_code
def yX5_word : MethodName := ⟨RX5, "word", "()J"⟩
abbrev cX5_number : ByteArray := prog_7_method_77_code
def yX5_number : MethodName := ⟨RX5, "number", "(II)V"⟩
abbrev cX5_kindHere : ByteArray := prog_7_method_78_code
def yX5_kindHere : MethodName := ⟨RX5, "kindHere", "()I"⟩
abbrev cX5_partItem : ByteArray := prog_7_method_79_code
def yX5_partItem : MethodName := ⟨RX5, "partItem", "(JII)V"⟩
abbrev cX5_thingItem : ByteArray := prog_7_method_80_code
def yX5_thingItem : MethodName := ⟨RX5, "thingItem", "(I)V"⟩
abbrev cX5_meansItem : ByteArray := prog_7_method_81_code
def yX5_meansItem : MethodName := ⟨RX5, "meansItem", "()V"⟩
abbrev cX5_item : ByteArray := prog_7_method_82_code
def yX5_item : MethodName := ⟨RX5, "item", "()V"⟩
abbrev cX5_station : ByteArray := prog_7_method_83_code
def yX5_station : MethodName := ⟨RX5, "station", "()I"⟩
abbrev cX5_isOne : ByteArray := prog_7_method_84_code
def yX5_isOne : MethodName := ⟨RX5, "isOne", "(I)Z"⟩
abbrev cX5_sheet : ByteArray := prog_7_method_85_code
def yX5_sheet : MethodName := ⟨RX5, "sheet", "(III)I"⟩
abbrev cX5_narrowed : ByteArray := prog_7_method_86_code
def yX5_narrowed : MethodName := ⟨RX5, "narrowed", "(IJ)J"⟩
abbrev cX5_wrongSheet : ByteArray := prog_7_method_87_code
def yX5_wrongSheet : MethodName := ⟨RX5, "wrongSheet", "(I)I"⟩
abbrev cX5_write : ByteArray := prog_7_method_88_code
def yX5_write : MethodName := ⟨RX5, "write", "(IIJ)J"⟩
abbrev cX5_copy : ByteArray := prog_7_method_89_code
def yX5_copy : MethodName := ⟨RX5, "copy", "(IIIII)I"⟩
abbrev cX5_lays : ByteArray := prog_7_method_90_code
def yX5_lays : MethodName := ⟨RX5, "lays", "(I)I"⟩
abbrev cX5_wrongBook : ByteArray := prog_7_method_91_code
def yX5_wrongBook : MethodName := ⟨RX5, "wrongBook", "(II)I"⟩
abbrev cX5_book : ByteArray := prog_7_method_92_code
def yX5_book : MethodName := ⟨RX5, "book", "(II)I"⟩
abbrev cX5_isBook : ByteArray := prog_7_method_93_code
def yX5_isBook : MethodName := ⟨RX5, "isBook", "(II)Z"⟩
abbrev cX5_read : ByteArray := prog_7_method_94_code
def yX5_read : MethodName := ⟨RX5, "read", "(II)I"⟩
abbrev cX5_image : ByteArray := prog_7_method_95_code
def yX5_image : MethodName := ⟨RX5, "image", "()I"⟩
abbrev cX5_undo : ByteArray := prog_7_method_96_code
def yX5_undo : MethodName := ⟨RX5, "undo", "()I"⟩
abbrev cX5_tear : ByteArray := prog_7_method_97_code
def yX5_tear : MethodName := ⟨RX5, "tear", "()I"⟩
abbrev cX5_worths : ByteArray := prog_7_method_98_code
def yX5_worths : MethodName := ⟨RX5, "worths", "()I"⟩
abbrev cX5_count : ByteArray := prog_7_method_99_code
def yX5_count : MethodName := ⟨RX5, "count", "(I)I"⟩
abbrev cX5_status : ByteArray := prog_7_method_100_code
def yX5_status : MethodName := ⟨RX5, "status", "(I)I"⟩
def RJ6 : String := "java/lang/Integer"
def TJ6 : u_T := fun k => match k with
  | _ => ("", "", "", false)
def tyJ6 : Nat → FieldType := fun k => match k with
  | _ => .int
abbrev wsJ60 : List Cond := u_ws RJ6 TJ6 0
theorem nmJ6 : ∀ a, a < 0 → ∀ b, b < 0 → a ≠ b → (TJ6 a).2.1 ≠ (TJ6 b).2.1 := by decide +kernel
theorem tyJ6_ok : ∀ k, k < 0 → parseFieldDescriptor (TJ6 k).2.2.1 = some (tyJ6 k) := by decide +kernel
abbrev cJ6_bitCount_0f7a4 : ByteArray := prog_8_method_49_code
def yJ6_bitCount_0f7a4 : MethodName := ⟨RJ6, "bitCount", "(I)I"⟩
def RJ9 : String := "java/lang/Math"
def TJ9 : u_T := fun k => match k with
  | _ => ("", "", "", false)
def tyJ9 : Nat → FieldType := fun k => match k with
  | _ => .int
abbrev wsJ90 : List Cond := u_ws RJ9 TJ9 0
theorem nmJ9 : ∀ a, a < 0 → ∀ b, b < 0 → a ≠ b → (TJ9 a).2.1 ≠ (TJ9 b).2.1 := by decide +kernel
theorem tyJ9_ok : ∀ k, k < 0 → parseFieldDescriptor (TJ9 k).2.2.1 = some (tyJ9 k) := by decide +kernel
abbrev cJ9_max_7cf53 : ByteArray := prog_9_method_65_code
def yJ9_max_7cf53 : MethodName := ⟨RJ9, "max", "(II)I"⟩
abbrev cJ9_min_7cf53 : ByteArray := prog_9_method_69_code
def yJ9_min_7cf53 : MethodName := ⟨RJ9, "min", "(II)I"⟩
def RJ0 : String := "java/lang/String"
def TJ0 : u_T := fun k => match k with
  | _ => ("", "", "", false)
def tyJ0 : Nat → FieldType := fun k => match k with
  | _ => .int
abbrev wsJ00 : List Cond := u_ws RJ0 TJ0 0
theorem nmJ0 : ∀ a, a < 0 → ∀ b, b < 0 → a ≠ b → (TJ0 a).2.1 ≠ (TJ0 b).2.1 := by decide +kernel
theorem tyJ0_ok : ∀ k, k < 0 → parseFieldDescriptor (TJ0 k).2.2.1 = some (tyJ0 k) := by decide +kernel
abbrev cJ0_length_8abf5 : ByteArray := prog_10_method_54_code
def yJ0_length_8abf5 : MethodName := ⟨RJ0, "length", "()I"⟩
abbrev cJ0_charAt_5068e : ByteArray := prog_10_method_56_code
def yJ0_charAt_5068e : MethodName := ⟨RJ0, "charAt", "(I)C"⟩
abbrev cJ0_coder_7d493 : ByteArray := prog_10_method_152_code
def yJ0_coder_7d493 : MethodName := ⟨RJ0, "coder", "()B"⟩
abbrev cJ0_isLatin1_aae02 : ByteArray := prog_10_method_154_code
def yJ0_isLatin1_aae02 : MethodName := ⟨RJ0, "isLatin1", "()Z"⟩
abbrev cJ0_checkIndex_df160 : ByteArray := prog_10_method_155_code
def yJ0_checkIndex_df160 : MethodName := ⟨RJ0, "checkIndex", "(II)V"⟩
def RJ1 : String := "java/lang/StringLatin1"
def TJ1 : u_T := fun k => match k with
  | _ => ("", "", "", false)
def tyJ1 : Nat → FieldType := fun k => match k with
  | _ => .int
abbrev wsJ10 : List Cond := u_ws RJ1 TJ1 0
theorem nmJ1 : ∀ a, a < 0 → ∀ b, b < 0 → a ≠ b → (TJ1 a).2.1 ≠ (TJ1 b).2.1 := by decide +kernel
theorem tyJ1_ok : ∀ k, k < 0 → parseFieldDescriptor (TJ1 k).2.2.1 = some (tyJ1 k) := by decide +kernel
abbrev cJ1_charAt_3b067 : ByteArray := prog_11_method_2_code
def yJ1_charAt_3b067 : MethodName := ⟨RJ1, "charAt", "([BI)C"⟩
def RJ2 : String := "java/lang/StringUTF16"
def TJ2 : u_T := fun k => match k with
  | _ => ("", "", "", false)
def tyJ2 : Nat → FieldType := fun k => match k with
  | _ => .int
abbrev wsJ20 : List Cond := u_ws RJ2 TJ2 0
theorem nmJ2 : ∀ a, a < 0 → ∀ b, b < 0 → a ≠ b → (TJ2 a).2.1 ≠ (TJ2 b).2.1 := by decide +kernel
theorem tyJ2_ok : ∀ k, k < 0 → parseFieldDescriptor (TJ2 k).2.2.1 = some (tyJ2 k) := by decide +kernel
abbrev cJ2_getChar_3b067 : ByteArray := prog_12_method_5_code
def yJ2_getChar_3b067 : MethodName := ⟨RJ2, "getChar", "([BI)C"⟩
abbrev cJ2_length_9d52b : ByteArray := prog_12_method_6_code
def yJ2_length_9d52b : MethodName := ⟨RJ2, "length", "([B)I"⟩
abbrev cJ2_charAt_3b067 : ByteArray := prog_12_method_83_code
def yJ2_charAt_3b067 : MethodName := ⟨RJ2, "charAt", "([BI)C"⟩
abbrev cJ2_checkIndex_2214a : ByteArray := prog_12_method_91_code
def yJ2_checkIndex_2214a : MethodName := ⟨RJ2, "checkIndex", "(I[B)V"⟩
def RJ10 : String := "java/lang/System"
def TJ10 : u_T := fun k => match k with
  | _ => ("", "", "", false)
def tyJ10 : Nat → FieldType := fun k => match k with
  | _ => .int
abbrev wsJ100 : List Cond := u_ws RJ10 TJ10 0
theorem nmJ10 : ∀ a, a < 0 → ∀ b, b < 0 → a ≠ b → (TJ10 a).2.1 ≠ (TJ10 b).2.1 := by decide +kernel
theorem tyJ10_ok : ∀ k, k < 0 → parseFieldDescriptor (TJ10 k).2.2.1 = some (tyJ10 k) := by decide +kernel
def RJ3 : String := "jdk/internal/util/Preconditions"
def TJ3 : u_T := fun k => match k with
  | _ => ("", "", "", false)
def tyJ3 : Nat → FieldType := fun k => match k with
  | _ => .int
abbrev wsJ30 : List Cond := u_ws RJ3 TJ3 0
theorem nmJ3 : ∀ a, a < 0 → ∀ b, b < 0 → a ≠ b → (TJ3 a).2.1 ≠ (TJ3 b).2.1 := by decide +kernel
theorem tyJ3_ok : ∀ k, k < 0 → parseFieldDescriptor (TJ3 k).2.2.1 = some (tyJ3 k) := by decide +kernel
abbrev cJ3_checkIndex_8e157 : ByteArray := prog_14_method_11_code
def yJ3_checkIndex_8e157 : MethodName := ⟨RJ3, "checkIndex", "(IILjava/util/function/BiFunction;)I"⟩
def RL : String := "LeftTillCalledLaw"
abbrev cL_law : ByteArray := code
def yL_law : MethodName := ⟨RL, "law", "([I)Z"⟩
abbrev vwCl : List vw_C := [(RX0, TX0, 3), (RX1, TX1, 12), (RX2, TX2, 2), (RX3, TX3, 5), (RX4, TX4, 8), (RX5, TX5, 16)]
end
section
def WU : List Cond := lw_tbl.filter goodWord
theorem wu_of {w : Cond} (h : w ∈ lw_tbl) (g : goodWord w = true) : w ∈ WU := List.mem_filter.mpr ⟨h, g⟩
theorem wu_good : GoodIn WU WU := fun w h => ⟨h, good_of_word (List.mem_filter.mp h).2⟩
-- abstract cells: a reference is the place of a cell in the world, or (1000 and on) a constant's number
abbrev ACell : Type := (Nat × vp_A) ⊕ (Nat × List Value)
abbrev AW : Type := List ACell
abbrev AL : Type := List (Option Value)
def cvV (ad : Nat → Nat) (v : Value) : Value := match v with
  | .ref k => .ref (ad k)
  | v => v
/-- an array of references is kept as the list of its places, class 99 -/
def rfOf (fs : List Value) : Nat → Option Nat := fun j => match fs[j]? with
  | some (.ref a) => some a
  | _ => none
def cvC (tc : Nat → ClassId) (ad : Nat → Nat) (q : ACell) : va_E := match q with
  | .inl (t, a) => .inl (tc t, a)
  | .inr (ci, fs) => if ci = 99 then .inl (tc 3, fs.length, .inr (.inr (.inr (.inr (rfOf (fs.map (cvV ad))))))) else .inr (ci, fs.map (cvV ad))
theorem cvC_obj (tc : Nat → ClassId) (ad : Nat → Nat) {ci : Nat} (fs : List Value) (h : ci ≠ 99) : cvC tc ad (.inr (ci, fs)) = .inr (ci, fs.map (cvV ad)) := if_neg h
theorem cl_ne {ci : Nat} {q : vw_C} (h : vwCl[ci]? = some q) : ci ≠ 99 := fun e => by
  subst e
  simp [vwCl] at h
def cvW (tc : Nat → ClassId) (ad : Nat → Nat) (ws : AW) : va_W := ws.mapIdx (fun k q => (ad k, cvC tc ad q))
def cvL (ad : Nat → Nat) (lo : AL) : List (Nat × Value) := (lo.mapIdx (fun i o => o.map (fun v => (i, cvV ad v)))).filterMap id
def tyL (tc : Nat → ClassId) : List (ClassId × FieldType) := [(tc 0, .int), (tc 1, .long), (tc 2, .byte), (tc 3, .object "LeftTillCalled$Sheet")]
theorem cvV_cat (ad : Nat → Nat) (v : Value) : (cvV ad v).category = v.category := by cases v <;> rfl
theorem cvW_at {tc : Nat → ClassId} {ad : Nat → Nat} {ws : AW} {k : Nat} {q : ACell} (h : ws[k]? = some q) : (cvW tc ad ws)[k]? = some (ad k, cvC tc ad q) := by
  unfold cvW
  rw [List.getElem?_mapIdx, h]
  rfl
theorem cvW_len (tc : Nat → ClassId) (ad : Nat → Nat) (ws : AW) : (cvW tc ad ws).length = ws.length := by
  unfold cvW
  exact List.length_mapIdx
theorem cvW_set (tc : Nat → ClassId) (ad : Nat → Nat) (ws : AW) (k : Nat) (q : ACell) : cvW tc ad (ws.set k q) = (cvW tc ad ws).set k (ad k, cvC tc ad q) := by
  unfold cvW
  apply List.ext_getElem?
  intro i
  simp only [List.getElem?_mapIdx, List.getElem?_set, List.length_mapIdx]
  by_cases h : k = i
  · subst h
    by_cases h2 : k < ws.length
    · simp [h2]
    · simp [h2]
  · simp [h]
theorem cvL_mem {ad : Nat → Nat} {lo : AL} {q : Nat × Value} : q ∈ cvL ad lo ↔ ∃ v, lo[q.1]? = some (some v) ∧ q.2 = cvV ad v := by
  unfold cvL
  rw [List.mem_filterMap]
  constructor
  · rintro ⟨o, h1, h2⟩
    obtain ⟨i, hi⟩ := List.mem_iff_getElem?.mp h1
    rw [List.getElem?_mapIdx] at hi
    cases h3 : lo[i]? with
    | none => rw [h3] at hi; cases hi
    | some w =>
      rw [h3] at hi
      cases w with
      | none => cases hi; cases h2
      | some v =>
        cases hi
        cases h2
        exact ⟨v, h3, rfl⟩
  · rintro ⟨v, h1, h2⟩
    refine ⟨some q, List.mem_iff_getElem?.mpr ⟨q.1, ?_⟩, rfl⟩
    rw [List.getElem?_mapIdx, h1]
    show some (some (q.1, cvV ad v)) = _
    rw [← h2]
-- distinct addresses: of the places alone
theorem cvD_same {A : Nat → Prop} {tc : Nat → ClassId} {ad : Nat → Nat} {ws ws' : AW} (h : ws'.length = ws.length) (hD : va_D A (cvW tc ad ws)) : va_D A (cvW tc ad ws') := by
  have key : ∀ (i : Nat) (q : Nat × va_E), (cvW tc ad ws')[i]? = some q → ∃ e, (cvW tc ad ws)[i]? = some (q.1, e) := by
    intro i q hq
    have hi : i < (cvW tc ad ws').length := (List.getElem?_eq_some_iff.mp hq).1
    rw [cvW_len, h] at hi
    have h1 : ws[i]? = some ws[i] := List.getElem?_eq_some_iff.mpr ⟨hi, rfl⟩
    have hi' : i < ws'.length := by rw [h]; exact hi
    have h2 : ws'[i]? = some ws'[i] := List.getElem?_eq_some_iff.mpr ⟨hi', rfl⟩
    have h3 := cvW_at (tc := tc) (ad := ad) h2
    rw [hq] at h3
    cases h3
    exact ⟨_, cvW_at h1⟩
  refine ⟨fun i j p q hp hq he => ?_, fun k q hq => ?_⟩
  · obtain ⟨e1, h1⟩ := key i p hp
    obtain ⟨e2, h2⟩ := key j q hq
    exact hD.1 i j _ _ h1 h2 he
  · obtain ⟨e1, h1⟩ := key k q hq
    exact hD.2 k (q.1, e1) h1
-- what stays outside the worlds: links of nest mates, KIND_ABOVE, the texts
def kaF : Nat → Int32 := fun j => match j with
  | 0 => -1
  | 1 => 0
  | 2 => 0
  | 3 => 0
  | 4 => 1
  | _ => 2
abbrev NestQ : Type := String × Nat × String × String × String
def nestC (q : NestQ) : Cond := .fieldLinkNest q.1 q.2.1 q.2.2.1 q.2.2.2.1 q.2.2.2.2 "LeftTillCalled"
def nestL : List NestQ := [("LeftTillCalled", 147, "LeftTillCalled$Station", "day", "I"), ("LeftTillCalled", 155, "LeftTillCalled$Station", "taken", "I"), ("LeftTillCalled", 69, "LeftTillCalled$Station", "means", "[I"), ("LeftTillCalled$Text", 81, "LeftTillCalled$Station", "means", "[I"), ("LeftTillCalled", 72, "LeftTillCalled$Station", "earns", "[I"), ("LeftTillCalled$Text", 74, "LeftTillCalled$Station", "earns", "[I"), ("LeftTillCalled", 75, "LeftTillCalled$Station", "spends", "[I"), ("LeftTillCalled$Text", 79, "LeftTillCalled$Station", "spends", "[I"), ("LeftTillCalled", 188, "LeftTillCalled$Station", "things", "I"), ("LeftTillCalled", 103, "LeftTillCalled$Station", "kinds", "[I"), ("LeftTillCalled", 78, "LeftTillCalled$Station", "labels", "[I"), ("LeftTillCalled", 106, "LeftTillCalled$Station", "lefts", "[I"), ("LeftTillCalled", 109, "LeftTillCalled$Station", "dues", "[I"), ("LeftTillCalled", 112, "LeftTillCalled$Station", "worths", "[I"), ("LeftTillCalled", 85, "LeftTillCalled$Station", "withs", "[I"), ("LeftTillCalled$Text", 88, "LeftTillCalled$Tape", "bytes", "[B"), ("LeftTillCalled$Text", 83, "LeftTillCalled$Tape", "length", "I"), ("LeftTillCalled", 191, "LeftTillCalled$Tape", "length", "I"), ("LeftTillCalled", 227, "LeftTillCalled$Sheet", "bits", "I"), ("LeftTillCalled", 214, "LeftTillCalled$Sheet", "length", "I"), ("LeftTillCalled", 219, "LeftTillCalled$Sheet", "numbers", "[J")]
-- the 13 texts of LeftTillCalled$Text: entry, text, bytes
def strT : List (Nat × String × List Int32) := [(31, "means", [109, 101, 97, 110, 115]), (72, "earns", [101, 97, 114, 110, 115]), (77, "spends", [115, 112, 101, 110, 100, 115]), (113, "parcel", [112, 97, 114, 99, 101, 108]), (115, "lady", [108, 97, 100, 121]), (117, "glove", [103, 108, 111, 118, 101]), (119, "regiment", [114, 101, 103, 105, 109, 101, 110, 116]), (121, "wife", [119, 105, 102, 101]), (123, "hatbox", [104, 97, 116, 98, 111, 120]), (125, "", []), (54, "for", [102, 111, 114]), (60, "due", [100, 117, 101]), (62, "worth", [119, 111, 114, 116, 104])]
def strB (i : Nat) : List Int32 := (strT.getD i (0, "", [])).2.2
def strLens : List Nat := strT.map (fun q => q.2.2.length)
def strBys : List (List Int32) := strT.map (fun q => q.2.2)
def Glob (ad : Nat → Nat) (A : Nat → Prop) (U : State) (H : Heap) : Prop :=
  (∀ q ∈ nestL, va_Nw (nestC q) U) ∧ va_Z "LeftTillCalled" "KIND_ABOVE" "[I" (.ref (ad 1100)) A U H ∧ va_T .int (ad 1100) 6 (fun j => .int (kaF j)) A U H ∧
  (∀ i, i < 13 → vk_R "LeftTillCalled$Text" (strT.getD i (0, "", [])).1 (strT.getD i (0, "", [])).2.1 (ad (1000 + i)) U) ∧
  (∃ adV : Nat → Nat, vk_S 13 strLens strBys (fun i => ad (1000 + i)) adV A U H) ∧ va_Z "java/lang/String" "COMPACT_STRINGS" "Z" (.int 1) A U H ∧
  (∃ v : Value, (v = .null ∨ ∃ a, v = .ref a) ∧ va_Z "jdk/internal/util/Preconditions" "SIOOBE_FORMATTER" "Ljava/util/function/BiFunction;" v A U H)
theorem Glob.go {ad ad' : Nat → Nat} {A A' : Nat → Prop} {s U : State} {H : Heap} (h : Glob ad A s s.heap) (hW : s.WarmedH U.vm) (hq : ∀ a : Nat, a < s.heap.size → ¬ A a → H[a]? = s.heap[a]?) (hA : ∀ q, A' q → A q) (he : ∀ k, 1000 ≤ k → ad' k = ad k) : Glob ad' A' U H := by
  obtain ⟨h1, h2, h3, h4, ⟨adV, h5⟩, h6, v, hv, h7⟩ := h
  refine ⟨fun q m => va_Nw.warmF hW (h1 q m), ?_, ?_, fun i hi => ?_, ⟨adV, ?_⟩, ((h6.kept hq).moved hW.alike).narrow hA, v, hv, ((h7.kept hq).moved hW.alike).narrow hA⟩
  · rw [he 1100 (by decide)]; exact ((h2.kept hq).moved hW.alike).narrow hA
  · rw [he 1100 (by decide)]; exact ((h3.kept hq).moved hW.alike).narrow hA
  · rw [he (1000 + i) (by omega)]; exact vk_R.warm hW (h4 i hi)
  · have e : (fun i => ad' (1000 + i)) = (fun i => ad (1000 + i)) := funext fun i => he _ (by omega)
    rw [e]
    exact ((h5.kept hq).moved hW.alike).narrow hA
theorem Glob.same {ad : Nat → Nat} {A : Nat → Prop} {u U : State} {H : Heap} (h : Glob ad A u H) (hv : U.vm = u.vm) : Glob ad A U H := by
  have ha : u.vm.Alike U.vm := by rw [hv]; exact Vm.Alike.refl _
  obtain ⟨h1, h2, h3, h4, ⟨adV, h5⟩, h6, v, hx, h7⟩ := h
  exact ⟨fun q m => va_Nw.same rfl hv.symm (h1 q m), h2.moved ha, h3.moved ha, fun i hi => vk_R.same hv (h4 i hi), ⟨adV, h5.moved ha⟩, h6.moved ha, v, hx, h7.moved ha⟩
-- THE ABSTRACT MACHINE
abbrev Kont (ρ : Type) : Type := Nat → AL → List Value → AW → Option ρ
abbrev Callee : Type 1 := ∀ ρ : Type, List Value → AW → (Option Value → AW → Option ρ) → Option ρ
/-- an entry: the instruction, its length, the constant that it pushes, where it jumps, a switch's rows -/
abbrev Ent : Type := Instr × Nat × Value × Nat × List (Int32 × Nat)
/-- a class's pool: fields (class, place, 0 int 1 boolean 2 not written), constants -/
abbrev Fls : Type := List (Nat × Nat × Nat × Nat)
abbrev Cns : Type := List (Nat × Value)
abbrev Cal : Type 1 := List (Nat × Nat × Nat × Callee)
abbrev CAr : Type := Nat → Option (Nat × (Nat → Int32))
def okS1 (lo : AL) (i : Nat) : Bool := match i with
  | 0 => true
  | j + 1 => match lo[j]? with
    | some (some u) => u.category == 1
    | _ => true
def catSum (st : List Value) : Nat := (st.map (fun v => v.category)).sum
def aLdI {ρ : Type} (k : Kont ρ) (pc i : Nat) (lo : AL) (st : List Value) (ws : AW) : Option ρ := match lo[i]? with
  | some (some (.int x)) => k pc lo (.int x :: st) ws
  | _ => none
def aLdL {ρ : Type} (k : Kont ρ) (pc i : Nat) (lo : AL) (st : List Value) (ws : AW) : Option ρ := match lo[i]? with
  | some (some (.long x)) => k pc lo (.long x :: st) ws
  | _ => none
def aLdA {ρ : Type} (k : Kont ρ) (pc i : Nat) (lo : AL) (st : List Value) (ws : AW) : Option ρ := match lo[i]? with
  | some (some (.ref x)) => k pc lo (.ref x :: st) ws
  | _ => none
def aStI {ρ : Type} (k : Kont ρ) (pc i : Nat) (lo : AL) (st : List Value) (ws : AW) : Option ρ := match st with
  | .int x :: st => if i < lo.length ∧ okS1 lo i = true then k pc (lo.set i (some (.int x))) st ws else none
  | _ => none
def aStA {ρ : Type} (k : Kont ρ) (pc i : Nat) (lo : AL) (st : List Value) (ws : AW) : Option ρ := match st with
  | .ref x :: st => if i < lo.length ∧ okS1 lo i = true then k pc (lo.set i (some (.ref x))) st ws else none
  | _ => none
def aStL {ρ : Type} (k : Kont ρ) (pc i : Nat) (lo : AL) (st : List Value) (ws : AW) : Option ρ := match st with
  | .long x :: st => if i + 1 < lo.length ∧ okS1 lo i = true then k pc ((lo.set i (some (.long x))).set (i + 1) none) st ws else none
  | _ => none
def aInc {ρ : Type} (k : Kont ρ) (pc i : Nat) (d : Int32) (lo : AL) (st : List Value) (ws : AW) : Option ρ := match lo[i]? with
  | some (some (.int x)) => if okS1 lo i = true then k pc (lo.set i (some (.int (x + d)))) st ws else none
  | _ => none
def aBin {ρ : Type} (f : Int32 → Int32 → Int32) (k : Kont ρ) (pc : Nat) (lo : AL) (st : List Value) (ws : AW) : Option ρ := match st with
  | .int y :: .int x :: st => k pc lo (.int (f x y) :: st) ws
  | _ => none
def aBinL {ρ : Type} (f : Int64 → Int64 → Int64) (k : Kont ρ) (pc : Nat) (lo : AL) (st : List Value) (ws : AW) : Option ρ := match st with
  | .long y :: .long x :: st => k pc lo (.long (f x y) :: st) ws
  | _ => none
def aDiv {ρ : Type} (f : Int32 → Int32 → Int32) (k : Kont ρ) (pc : Nat) (lo : AL) (st : List Value) (ws : AW) : Option ρ := match st with
  | .int y :: .int x :: st => if y = 0 then none else k pc lo (.int (f x y) :: st) ws
  | _ => none
def aLsh {ρ : Type} (k : Kont ρ) (pc : Nat) (lo : AL) (st : List Value) (ws : AW) : Option ρ := match st with
  | .int y :: .long x :: st => k pc lo (.long (x <<< (y.toInt64 &&& 63)) :: st) ws
  | _ => none
def aCmpL {ρ : Type} (k : Kont ρ) (pc : Nat) (lo : AL) (st : List Value) (ws : AW) : Option ρ := match st with
  | .long y :: .long x :: st => k pc lo (.int (lg_cmp x y) :: st) ws
  | _ => none
def aUn {ρ : Type} (f : Int32 → Int32) (k : Kont ρ) (pc : Nat) (lo : AL) (st : List Value) (ws : AW) : Option ρ := match st with
  | .int x :: st => k pc lo (.int (f x) :: st) ws
  | _ => none
def aI2L {ρ : Type} (k : Kont ρ) (pc : Nat) (lo : AL) (st : List Value) (ws : AW) : Option ρ := match st with
  | .int x :: st => k pc lo (.long x.toInt64 :: st) ws
  | _ => none
def aL2I {ρ : Type} (k : Kont ρ) (pc : Nat) (lo : AL) (st : List Value) (ws : AW) : Option ρ := match st with
  | .long x :: st => k pc lo (.int x.toInt32 :: st) ws
  | _ => none
def aDup {ρ : Type} (k : Kont ρ) (pc : Nat) (lo : AL) (st : List Value) (ws : AW) : Option ρ := match st with
  | v :: st => if v.category = 1 then k pc lo (v :: v :: st) ws else none
  | _ => none
def aPop {ρ : Type} (k : Kont ρ) (pc : Nat) (lo : AL) (st : List Value) (ws : AW) : Option ρ := match st with
  | v :: st => if v.category = 1 then k pc lo st ws else none
  | _ => none
def aDup2 {ρ : Type} (k : Kont ρ) (pc : Nat) (lo : AL) (st : List Value) (ws : AW) : Option ρ := match st with
  | v :: w :: st => if v.category = 1 ∧ w.category = 1 then k pc lo (v :: w :: v :: w :: st) ws else none
  | _ => none
def aIf {ρ : Type} (b : Jvm.ClassFile.Cond) (k : Kont ρ) (pc tgt : Nat) (lo : AL) (st : List Value) (ws : AW) : Option ρ := match st with
  | .int x :: st => match b with
    | .eq => if x = 0 then k tgt lo st ws else k (pc + 3) lo st ws
    | .ne => if x = 0 then k (pc + 3) lo st ws else k tgt lo st ws
    | .lt => if x < 0 then k tgt lo st ws else k (pc + 3) lo st ws
    | .ge => if 0 ≤ x then k tgt lo st ws else k (pc + 3) lo st ws
    | .gt => if 0 < x then k tgt lo st ws else k (pc + 3) lo st ws
    | .le => if x ≤ 0 then k tgt lo st ws else k (pc + 3) lo st ws
  | _ => none
def aIcmp {ρ : Type} (b : Jvm.ClassFile.Cond) (k : Kont ρ) (pc tgt : Nat) (lo : AL) (st : List Value) (ws : AW) : Option ρ := match st with
  | .int y :: .int x :: st => match b with
    | .eq => if x = y then k tgt lo st ws else k (pc + 3) lo st ws
    | .ne => if x = y then k (pc + 3) lo st ws else k tgt lo st ws
    | .lt => if x < y then k tgt lo st ws else k (pc + 3) lo st ws
    | .ge => if y ≤ x then k tgt lo st ws else k (pc + 3) lo st ws
    | .gt => if y < x then k tgt lo st ws else k (pc + 3) lo st ws
    | .le => if x ≤ y then k tgt lo st ws else k (pc + 3) lo st ws
  | _ => none
def aSwG {ρ : Type} (k : Nat → Option ρ) (x : Int32) (d : Nat) : List (Int32 × Nat) → Option ρ
  | [] => k d
  | q :: r => if x = q.1 then k q.2 else aSwG k x d r
def aSw {ρ : Type} (k : Kont ρ) (tgt : Nat) (sw : List (Int32 × Nat)) (lo : AL) (st : List Value) (ws : AW) : Option ρ := match st with
  | .int x :: st => aSwG (fun t => k t lo st ws) x tgt sw
  | _ => none
def aIald {ρ : Type} (ca : CAr) (k : Kont ρ) (pc : Nat) (lo : AL) (st : List Value) (ws : AW) : Option ρ := match st with
  | .int i :: .ref a :: st => match ws[a]? with
    | some (.inl (0, n, .inl f)) => if i < 0 ∨ n ≤ i.toNatClampNeg then none else k pc lo (.int (f i.toNatClampNeg) :: st) ws
    | none => match ca a with
      | some (n, f) => if i < 0 ∨ n ≤ i.toNatClampNeg then none else k pc lo (.int (f i.toNatClampNeg) :: st) ws
      | none => none
    | _ => none
  | _ => none
def aLald {ρ : Type} (k : Kont ρ) (pc : Nat) (lo : AL) (st : List Value) (ws : AW) : Option ρ := match st with
  | .int i :: .ref a :: st => match ws[a]? with
    | some (.inl (1, n, .inr (.inl f))) => if i < 0 ∨ n ≤ i.toNatClampNeg then none else k pc lo (.long (f i.toNatClampNeg) :: st) ws
    | _ => none
  | _ => none
def aBald {ρ : Type} (k : Kont ρ) (pc : Nat) (lo : AL) (st : List Value) (ws : AW) : Option ρ := match st with
  | .int i :: .ref a :: st => match ws[a]? with
    | some (.inl (2, n, .inl f)) => if i < 0 ∨ n ≤ i.toNatClampNeg then none else k pc lo (.int (f i.toNatClampNeg) :: st) ws
    | _ => none
  | _ => none
def aPick {ρ : Type} (k : Nat → Option ρ) (i : Int32) : List Value → Nat → Option ρ
  | [], _ => none
  | v :: r, j => if i = nI j then (match v with | .ref a => k a | _ => none) else aPick k i r (j + 1)
def aAald {ρ : Type} (k : Kont ρ) (pc : Nat) (lo : AL) (st : List Value) (ws : AW) : Option ρ := match st with
  | .int i :: .ref a :: st => match ws[a]? with
    | some (.inr (99, fs)) => if fs.length < 1000 then aPick (fun q => k pc lo (.ref q :: st) ws) i fs 0 else none
    | _ => none
  | _ => none
def aIast {ρ : Type} (k : Kont ρ) (pc : Nat) (lo : AL) (st : List Value) (ws : AW) : Option ρ := match st with
  | .int x :: .int i :: .ref a :: st => match ws[a]? with
    | some (.inl (0, n, .inl f)) => if i < 0 ∨ n ≤ i.toNatClampNeg then none else k pc lo st (ws.set a (.inl (0, n, .inl (upd f i.toNatClampNeg x))))
    | _ => none
  | _ => none
def aLast {ρ : Type} (k : Kont ρ) (pc : Nat) (lo : AL) (st : List Value) (ws : AW) : Option ρ := match st with
  | .long x :: .int i :: .ref a :: st => match ws[a]? with
    | some (.inl (1, n, .inr (.inl f))) => if i < 0 ∨ n ≤ i.toNatClampNeg then none else k pc lo st (ws.set a (.inl (1, n, .inr (.inl (vp_updL f i.toNatClampNeg x)))))
    | _ => none
  | _ => none
def aBast {ρ : Type} (k : Kont ρ) (pc : Nat) (lo : AL) (st : List Value) (ws : AW) : Option ρ := match st with
  | .int x :: .int i :: .ref a :: st => match ws[a]? with
    | some (.inl (2, n, .inl f)) => if i < 0 ∨ n ≤ i.toNatClampNeg then none else k pc lo st (ws.set a (.inl (2, n, .inl (upd f i.toNatClampNeg (vp_nar .byte x)))))
    | _ => none
  | _ => none
def aLen {ρ : Type} (ca : CAr) (k : Kont ρ) (pc : Nat) (lo : AL) (st : List Value) (ws : AW) : Option ρ := match st with
  | .ref a :: st => match ws[a]?, ca a with
    | none, some (n, _) => k pc lo (.int (Int32.ofNat n) :: st) ws
    | _, _ => none
  | _ => none
def aGet {ρ : Type} (fl : Fls) (ix : Nat) (k : Kont ρ) (pc : Nat) (lo : AL) (st : List Value) (ws : AW) : Option ρ := match st with
  | .ref a :: st => match fl.lookup ix, ws[a]? with
    | some (ci, fk, _), some (.inr (cj, fs)) => if ci = cj then (match fs[fk]? with
      | some v => k pc lo (v :: st) ws
      | none => none) else none
    | _, _ => none
  | _ => none
def aPut {ρ : Type} (fl : Fls) (ix : Nat) (k : Kont ρ) (pc : Nat) (lo : AL) (st : List Value) (ws : AW) : Option ρ := match st with
  | .int x :: .ref a :: st => match fl.lookup ix, ws[a]? with
    | some (ci, fk, 0), some (.inr (cj, fs)) => if ci = cj ∧ fk < fs.length then k pc lo st (ws.set a (.inr (ci, fs.set fk (.int x)))) else none
    | some (ci, fk, 1), some (.inr (cj, fs)) => if (ci = cj ∧ fk < fs.length) ∧ (x = 0 ∨ x = 1) then k pc lo st (ws.set a (.inr (ci, fs.set fk (.int x)))) else none
    | _, _ => none
  | _ => none
def aGets {ρ : Type} (ks : Nat) (ix : Nat) (k : Kont ρ) (pc : Nat) (lo : AL) (st : List Value) (ws : AW) : Option ρ := if ix = ks then k pc lo (.ref 1100 :: st) ws else none
def aCall {ρ : Type} (E : Cal) (kd ix : Nat) (k : Kont ρ) (pc : Nat) (lo : AL) (st : List Value) (ws : AW) : Option ρ := match E.lookup ix with
  | some (kd', n, F) => if (kd' = kd ∧ n ≤ st.length) ∧ catSum (st.drop n) ≤ 8 then F ρ (st.take n).reverse ws (fun r ws' => k pc lo (r.toList ++ st.drop n) ws') else none
  | none => none
def aRetI {ρ : Type} (rt : Option FieldType) (κ : Option Value → AW → Option ρ) (st : List Value) (ws : AW) : Option ρ := match st, rt with
  | [.int x], some .int => κ (some (.int x)) ws
  | [.int x], some .boolean => if x = 0 ∨ x = 1 then κ (some (.int x)) ws else none
  | _, _ => none
def aRetL {ρ : Type} (rt : Option FieldType) (κ : Option Value → AW → Option ρ) (st : List Value) (ws : AW) : Option ρ := match st, rt with
  | [.long x], some .long => κ (some (.long x)) ws
  | _, _ => none
def aRetA {ρ : Type} (rt : Option FieldType) (κ : Option Value → AW → Option ρ) (st : List Value) (ws : AW) : Option ρ := match st, rt with
  | [.ref x], some (.object _) => κ (some (.ref x)) ws
  | _, _ => none
def aRetV {ρ : Type} (rt : Option FieldType) (κ : Option Value → AW → Option ρ) (st : List Value) (ws : AW) : Option ρ := match st, rt with
  | [], none => κ none ws
  | _, _ => none
def astep {ρ : Type} (fl : Fls) (ks : Nat) (ca : CAr) (E : Cal) (rt : Option FieldType) (k : Kont ρ) (κ : Option Value → AW → Option ρ) (pc : Nat) (q : Ent) (lo : AL) (st : List Value) (ws : AW) : Option ρ := match q.1 with
  | .iconst _ => k (pc + 1) lo (q.2.2.1 :: st) ws
  | .bipush _ => k (pc + 2) lo (q.2.2.1 :: st) ws
  | .sipush _ => k (pc + 3) lo (q.2.2.1 :: st) ws
  | .lconst _ => k (pc + 1) lo (q.2.2.1 :: st) ws
  | .ldc _ => k (pc + 2) lo (q.2.2.1 :: st) ws
  | .ldc_w _ => k (pc + 3) lo (q.2.2.1 :: st) ws
  | .ldc2_w _ => k (pc + 3) lo (q.2.2.1 :: st) ws
  | .iload_n j => aLdI k (pc + 1) j.val lo st ws
  | .iload j => aLdI k (pc + 2) j lo st ws
  | .lload_n j => aLdL k (pc + 1) j.val lo st ws
  | .lload j => aLdL k (pc + 2) j lo st ws
  | .aload_n j => aLdA k (pc + 1) j.val lo st ws
  | .aload j => aLdA k (pc + 2) j lo st ws
  | .istore_n j => aStI k (pc + 1) j.val lo st ws
  | .istore j => aStI k (pc + 2) j lo st ws
  | .lstore_n j => aStL k (pc + 1) j.val lo st ws
  | .lstore j => aStL k (pc + 2) j lo st ws
  | .astore_n j => aStA k (pc + 1) j.val lo st ws
  | .astore j => aStA k (pc + 2) j lo st ws
  | .iinc j _ => (match q.2.2.1 with
    | .int d => aInc k (pc + 3) j d lo st ws
    | _ => none)
  | .iadd => aBin (fun x y => x + y) k (pc + 1) lo st ws
  | .isub => aBin (fun x y => x - y) k (pc + 1) lo st ws
  | .imul => aBin (fun x y => x * y) k (pc + 1) lo st ws
  | .iand => aBin (fun x y => x &&& y) k (pc + 1) lo st ws
  | .ior => aBin (fun x y => x ||| y) k (pc + 1) lo st ws
  | .ishl => aBin (fun x y => x <<< (y &&& 31)) k (pc + 1) lo st ws
  | .ishr => aBin (fun x y => x >>> (y &&& 31)) k (pc + 1) lo st ws
  | .iushr => aBin (fun x y => (x.toUInt32 >>> (y.toUInt32 &&& Int32.toUInt32 31)).toInt32) k (pc + 1) lo st ws
  | .idiv => aDiv (fun x y => x / y) k (pc + 1) lo st ws
  | .irem => aDiv (fun x y => x - x / y * y) k (pc + 1) lo st ws
  | .ladd => aBinL (fun x y => x + y) k (pc + 1) lo st ws
  | .lmul => aBinL (fun x y => x * y) k (pc + 1) lo st ws
  | .lor => aBinL (fun x y => x ||| y) k (pc + 1) lo st ws
  | .land => aBinL (fun x y => x &&& y) k (pc + 1) lo st ws
  | .lshl => aLsh k (pc + 1) lo st ws
  | .lcmp => aCmpL k (pc + 1) lo st ws
  | .i2b => aUn (fun x => x.toInt8.toInt32) k (pc + 1) lo st ws
  | .i2s => aUn (fun x => x.toInt16.toInt32) k (pc + 1) lo st ws
  | .i2l => aI2L k (pc + 1) lo st ws
  | .l2i => aL2I k (pc + 1) lo st ws
  | .dup => aDup k (pc + 1) lo st ws
  | .pop => aPop k (pc + 1) lo st ws
  | .dup2 => aDup2 k (pc + 1) lo st ws
  | .ifCond b _ => aIf b k pc q.2.2.2.1 lo st ws
  | .if_icmp b _ => aIcmp b k pc q.2.2.2.1 lo st ws
  | .goto _ => k q.2.2.2.1 lo st ws
  | .tableswitch _ _ _ _ => aSw k q.2.2.2.1 q.2.2.2.2 lo st ws
  | .lookupswitch _ _ => aSw k q.2.2.2.1 q.2.2.2.2 lo st ws
  | .iaload => aIald ca k (pc + 1) lo st ws
  | .laload => aLald k (pc + 1) lo st ws
  | .baload => aBald k (pc + 1) lo st ws
  | .aaload => aAald k (pc + 1) lo st ws
  | .iastore => aIast k (pc + 1) lo st ws
  | .lastore => aLast k (pc + 1) lo st ws
  | .bastore => aBast k (pc + 1) lo st ws
  | .arraylength => aLen ca k (pc + 1) lo st ws
  | .getfield ix => aGet fl ix k (pc + 3) lo st ws
  | .putfield ix => aPut fl ix k (pc + 3) lo st ws
  | .getstatic ix => aGets ks ix k (pc + 3) lo st ws
  | .invokevirtual ix => aCall E 0 ix k (pc + 3) lo st ws
  | .invokestatic ix => aCall E 1 ix k (pc + 3) lo st ws
  | .invokespecial ix => aCall E 2 ix k (pc + 3) lo st ws
  | .ireturn => aRetI rt κ st ws
  | .lreturn => aRetL rt κ st ws
  | .areturn => aRetA rt κ st ws
  | .return_ => aRetV rt κ st ws
  | _ => none
def maskL : List Bool → AL → AL
  | b :: r, o :: lo => (if b then o else none) :: maskL r lo
  | _, lo => lo
def runG {ρ : Type} (T : List (Nat × Ent)) (hd : List (Nat × List Bool)) (fl : Fls) (ks : Nat) (ca : CAr) (E : Cal) (rt : Option FieldType) (κ : Option Value → AW → Option ρ) (back : Kont ρ) : Nat → Kont ρ
  | 0, _, _, _, _ => none
  | g + 1, pc, lo, st, ws => match T.lookup pc with
    | none => none
    | some q => astep fl ks ca E rt (fun pc' lo' st' ws' => match hd.lookup pc' with
        | some msk => back pc' (maskL msk lo') st' ws'
        | none => runG T hd fl ks ca E rt κ back g pc' lo' st' ws') κ pc q lo st ws
def run {ρ : Type} (T : List (Nat × Ent)) (hd : List (Nat × List Bool)) (fl : Fls) (ks : Nat) (ca : CAr) (E : Cal) (rt : Option FieldType) (κ : Option Value → AW → Option ρ) : Nat → Kont ρ
  | 0, _, _, _, _ => none
  | n + 1, pc, lo, st, ws => runG T hd fl ks ca E rt κ (run T hd fl ks ca E rt κ n) 2000 pc lo st ws
end
section
-- THE ABSTRACT MACHINE IS SOUND: what it does, the machine does
def Rl (D : va_G) (tc : Nat → ClassId) (ad : Nat → Nat) (A : Nat → Prop) (nL : Nat) (s : State) (lo : AL) (ws : AW) (H : Heap) (locs : List Loc) (ls : Array Slot) : Prop :=
  va_P D vwCl (cvW tc ad ws) H ∧ va_D A (cvW tc ad ws) ∧ va_S A s.heap H locs ∧ lo.length = nL ∧ lv_has ls nL (cvL ad lo)
def Go (p : Program) (l : Launch) (e : Env) (R : Room) (s : State) (m : MethodId) (args : Array Value) (below : List Frame) (meth : Method) (c : Code) (cells slots : Nat) (Q : State → Prop) (D : va_G) (tc : Nat → ClassId) (ad : Nat → Nat) (A : Nat → Prop) (nL : Nat) (pc : Nat) (lo : AL) (st : List Value) (ws : AW) : Prop :=
  ∀ (H : Heap) (locs : List Loc) (ls : Array Slot), Rl D tc ad A nL s lo ws H locs ls → W p l e R s m args below meth c H locs cells slots Q (F0 m pc ls (st.map (cvV ad)))
def Cx (p : Program) (R : Room) (s : State) (m : MethodId) (args : Array Value) (c : Code) (cells slots : Nat) (D : va_G) (tc : Nat → ClassId) (ad : Nat → Nat) (A : Nat → Prop) (nL : Nat) (own : String) (cc : ByteArray) (ca : CAr) : Prop :=
  CallFix p m c cc nL s args WU own ∧ va_K D vwCl (tyL tc) s ∧ Glob ad A s s.heap ∧ (∀ q, s.heap.size ≤ q → A q) ∧ (cells ≤ R.cells ∧ slots ≤ R.slots) ∧ ∀ a n f, ca a = some (n, f) → va_T .int (ad a) n (fun j => .int (f j)) A s s.heap
section
variable {p : Program} {l : Launch} {e : Env} {R : Room} {s : State} {m : MethodId} {args : Array Value} {below : List Frame} {meth : Method} {c : Code} {cells slots : Nat} {Q : State → Prop} {D : va_G} {tc : Nat → ClassId} {ad : Nat → Nat} {A : Nat → Prop} {nL : Nat} {own : String} {cc : ByteArray}
variable {ρ : Type} {k : Kont ρ} {res : ρ} {pc pc1 i : Nat} {lo : AL} {st : List Value} {ws : AW} {ca : CAr}
theorem lo_rd {v : Value} {ls : Array Slot} (h : lv_has ls nL (cvL ad lo)) (hv : lo[i]? = some (some v)) : ls[i]? = some (.val (cvV ad v)) := h.2.2 (i, cvV ad v) (cvL_mem.mpr ⟨v, hv, rfl⟩)
theorem lo_ok {w : Value} {q : Nat} (hok : okS1 lo i = true) (hw : lo[q]? = some (some w)) (he : q + 1 = i) : w.category = 1 := by
  subst he
  simp only [okS1, hw] at hok
  exact eq_of_beq hok
theorem lo_st1 {v : Value} {ls : Array Slot} (hi : i < lo.length) (hok : okS1 lo i = true) (h : lv_has ls nL ((i, cvV ad v) :: (cvL ad lo).filter (fun q => !(q.1 == i) && !(q.1 + 1 == i && q.2.category == 2)))) : lv_has ls nL (cvL ad (lo.set i (some v))) := by
  refine ⟨h.1, h.2.1, fun q hq => h.2.2 q ?_⟩
  obtain ⟨w, h1, h2⟩ := cvL_mem.mp hq
  rw [List.getElem?_set] at h1
  by_cases e : i = q.1
  · rw [if_pos e, if_pos hi] at h1
    cases h1
    have : q = (i, cvV ad v) := Prod.ext e.symm h2
    rw [this]
    exact List.mem_cons_self
  · rw [if_neg e] at h1
    refine List.mem_cons_of_mem _ (List.mem_filter.mpr ⟨cvL_mem.mpr ⟨w, h1, h2⟩, ?_⟩)
    have e1 : (q.1 == i) = false := beq_eq_false_iff_ne.mpr (fun z => e z.symm)
    rw [e1]
    by_cases e2 : q.1 + 1 = i
    · have := lo_ok hok h1 e2
      rw [h2, cvV_cat, this]
      simp
    · have e3 : (q.1 + 1 == i) = false := beq_eq_false_iff_ne.mpr e2
      rw [e3]
      rfl
theorem lo_st2 {v : Value} {ls : Array Slot} (hi : i + 1 < lo.length) (hok : okS1 lo i = true) (h : lv_has ls nL ((i, cvV ad v) :: (cvL ad lo).filter (fun q => !(q.1 == i) && (!(q.1 == i + 1) && !(q.1 + 1 == i && q.2.category == 2))))) : lv_has ls nL (cvL ad ((lo.set i (some v)).set (i + 1) none)) := by
  refine ⟨h.1, h.2.1, fun q hq => h.2.2 q ?_⟩
  obtain ⟨w, h1, h2⟩ := cvL_mem.mp hq
  rw [List.getElem?_set] at h1
  by_cases e0 : i + 1 = q.1
  · rw [if_pos e0, List.length_set, if_pos hi] at h1
    cases h1
  · rw [if_neg e0, List.getElem?_set] at h1
    by_cases e : i = q.1
    · rw [if_pos e, if_pos (Nat.lt_of_succ_lt hi)] at h1
      cases h1
      have : q = (i, cvV ad v) := Prod.ext e.symm h2
      rw [this]
      exact List.mem_cons_self
    · rw [if_neg e] at h1
      refine List.mem_cons_of_mem _ (List.mem_filter.mpr ⟨cvL_mem.mpr ⟨w, h1, h2⟩, ?_⟩)
      have e1 : (q.1 == i) = false := beq_eq_false_iff_ne.mpr (fun z => e z.symm)
      have e4 : (q.1 == i + 1) = false := beq_eq_false_iff_ne.mpr (fun z => e0 z.symm)
      rw [e1, e4]
      by_cases e2 : q.1 + 1 = i
      · have := lo_ok hok h1 e2
        rw [h2, cvV_cat, this]
        simp
      · have e3 : (q.1 + 1 == i) = false := beq_eq_false_iff_ne.mpr e2
        rw [e3]
        rfl
theorem lo_mask {ls : Array Slot} : ∀ (bs : List Bool) (lo : AL), (maskL bs lo).length = lo.length ∧ ∀ (j : Nat) (v : Value), (maskL bs lo)[j]? = some (some v) → lo[j]? = some (some v) := by
  intro bs
  induction bs with
  | nil => intro lo; cases lo <;> exact ⟨rfl, fun _ _ h => h⟩
  | cons b bs ih =>
    intro lo
    cases lo with
    | nil => exact ⟨rfl, fun _ _ h => h⟩
    | cons o lo =>
      obtain ⟨h1, h2⟩ := ih lo
      refine ⟨by simp [maskL, h1], fun j v h => ?_⟩
      cases j with
      | zero =>
        simp only [maskL, List.getElem?_cons_zero] at h ⊢
        cases b
        · simp at h
        · simpa using h
      | succ j =>
        simp only [maskL, List.getElem?_cons_succ] at h ⊢
        exact h2 j v h
theorem go_mask {bs : List Bool} (h : Go p l e R s m args below meth c cells slots Q D tc ad A nL pc (maskL bs lo) st ws) : Go p l e R s m args below meth c cells slots Q D tc ad A nL pc lo st ws := by
  intro H locs ls hR
  obtain ⟨h1, h2, h3, h4, h5⟩ := hR
  refine h H locs ls ⟨h1, h2, h3, by rw [(lo_mask (ls := ls) bs lo).1]; exact h4, h5.1, h5.2.1, fun q hq => ?_⟩
  obtain ⟨v, e1, e2⟩ := cvL_mem.mp hq
  exact h5.2.2 q (cvL_mem.mpr ⟨v, (lo_mask (ls := ls) bs lo).2 _ _ e1, e2⟩)
theorem go_push {v : Value} (row : ∀ (H : Heap) (locs : List Loc) (ls : Array Slot) (rest : List Value), va_S A s.heap H locs → W p l e R s m args below meth c H locs cells slots Q (F0 m pc1 ls (cvV ad v :: rest)) → W p l e R s m args below meth c H locs cells slots Q (F0 m pc ls rest)) (h : Go p l e R s m args below meth c cells slots Q D tc ad A nL pc1 lo (v :: st) ws) : Go p l e R s m args below meth c cells slots Q D tc ad A nL pc lo st ws :=
  fun H locs ls hR => row H locs ls _ hR.2.2.1 (h H locs ls hR)
theorem go_ldI (hk : ∀ pc' lo' st' ws', k pc' lo' st' ws' = some res → Go p l e R s m args below meth c cells slots Q D tc ad A nL pc' lo' st' ws') (row : ∀ (H : Heap) (locs : List Loc) (ls : Array Slot) (x : Int32) (rest : List Value), ls[i]? = some (.val (.int x)) → W p l e R s m args below meth c H locs cells slots Q (F0 m pc1 ls (.int x :: rest)) → W p l e R s m args below meth c H locs cells slots Q (F0 m pc ls rest)) (h : aLdI k pc1 i lo st ws = some res) : Go p l e R s m args below meth c cells slots Q D tc ad A nL pc lo st ws := by
  unfold aLdI at h
  split at h
  · rename_i x hx
    exact fun H locs ls hR => row H locs ls x _ (lo_rd hR.2.2.2.2 hx) (hk _ _ _ _ h H locs ls hR)
  · cases h
theorem go_ldL (hk : ∀ pc' lo' st' ws', k pc' lo' st' ws' = some res → Go p l e R s m args below meth c cells slots Q D tc ad A nL pc' lo' st' ws') (row : ∀ (H : Heap) (locs : List Loc) (ls : Array Slot) (x : Int64) (rest : List Value), ls[i]? = some (.val (.long x)) → W p l e R s m args below meth c H locs cells slots Q (F0 m pc1 ls (.long x :: rest)) → W p l e R s m args below meth c H locs cells slots Q (F0 m pc ls rest)) (h : aLdL k pc1 i lo st ws = some res) : Go p l e R s m args below meth c cells slots Q D tc ad A nL pc lo st ws := by
  unfold aLdL at h
  split at h
  · rename_i x hx
    exact fun H locs ls hR => row H locs ls x _ (lo_rd hR.2.2.2.2 hx) (hk _ _ _ _ h H locs ls hR)
  · cases h
theorem go_ldA (hk : ∀ pc' lo' st' ws', k pc' lo' st' ws' = some res → Go p l e R s m args below meth c cells slots Q D tc ad A nL pc' lo' st' ws') (row : ∀ (H : Heap) (locs : List Loc) (ls : Array Slot) (x : Nat) (rest : List Value), ls[i]? = some (.val (.ref x)) → W p l e R s m args below meth c H locs cells slots Q (F0 m pc1 ls (.ref x :: rest)) → W p l e R s m args below meth c H locs cells slots Q (F0 m pc ls rest)) (h : aLdA k pc1 i lo st ws = some res) : Go p l e R s m args below meth c cells slots Q D tc ad A nL pc lo st ws := by
  unfold aLdA at h
  split at h
  · rename_i x hx
    exact fun H locs ls hR => row H locs ls (ad x) _ (lo_rd hR.2.2.2.2 hx) (hk _ _ _ _ h H locs ls hR)
  · cases h
theorem go_stI (hk : ∀ pc' lo' st' ws', k pc' lo' st' ws' = some res → Go p l e R s m args below meth c cells slots Q D tc ad A nL pc' lo' st' ws') (row : ∀ (H : Heap) (locs : List Loc) (ls : Array Slot) (x : Int32) (rest : List Value) (lv lv' : List (Nat × Value)), lv_has ls nL lv → i < nL → (i, Value.int x) :: lv.filter (fun q => !(q.1 == i) && !(q.1 + 1 == i && q.2.category == 2)) = lv' → (∀ ls' : Array Slot, lv_has ls' nL lv' → W p l e R s m args below meth c H locs cells slots Q (F0 m pc1 ls' rest)) → W p l e R s m args below meth c H locs cells slots Q (F0 m pc ls (.int x :: rest))) (h : aStI k pc1 i lo st ws = some res) : Go p l e R s m args below meth c cells slots Q D tc ad A nL pc lo st ws := by
  unfold aStI at h
  split at h
  · rename_i x st
    split at h
    · rename_i hc
      intro H locs ls hR
      obtain ⟨h1, h2, h3, h4, h5⟩ := hR
      refine row H locs ls x _ _ _ h5 (by rw [← h4]; exact hc.1) rfl (fun ls' hl => hk _ _ _ _ h H locs ls' ⟨h1, h2, h3, by rw [List.length_set]; exact h4, lo_st1 (v := .int x) hc.1 hc.2 hl⟩)
    · cases h
  · cases h
theorem go_stA (hk : ∀ pc' lo' st' ws', k pc' lo' st' ws' = some res → Go p l e R s m args below meth c cells slots Q D tc ad A nL pc' lo' st' ws') (row : ∀ (H : Heap) (locs : List Loc) (ls : Array Slot) (x : Nat) (rest : List Value) (lv lv' : List (Nat × Value)), lv_has ls nL lv → i < nL → (i, Value.ref x) :: lv.filter (fun q => !(q.1 == i) && !(q.1 + 1 == i && q.2.category == 2)) = lv' → (∀ ls' : Array Slot, lv_has ls' nL lv' → W p l e R s m args below meth c H locs cells slots Q (F0 m pc1 ls' rest)) → W p l e R s m args below meth c H locs cells slots Q (F0 m pc ls (.ref x :: rest))) (h : aStA k pc1 i lo st ws = some res) : Go p l e R s m args below meth c cells slots Q D tc ad A nL pc lo st ws := by
  unfold aStA at h
  split at h
  · rename_i x st
    split at h
    · rename_i hc
      intro H locs ls hR
      obtain ⟨h1, h2, h3, h4, h5⟩ := hR
      refine row H locs ls (ad x) _ _ _ h5 (by rw [← h4]; exact hc.1) rfl (fun ls' hl => hk _ _ _ _ h H locs ls' ⟨h1, h2, h3, by rw [List.length_set]; exact h4, lo_st1 (v := .ref x) hc.1 hc.2 hl⟩)
    · cases h
  · cases h
theorem go_stL (hk : ∀ pc' lo' st' ws', k pc' lo' st' ws' = some res → Go p l e R s m args below meth c cells slots Q D tc ad A nL pc' lo' st' ws') (row : ∀ (H : Heap) (locs : List Loc) (ls : Array Slot) (x : Int64) (rest : List Value) (lv lv' : List (Nat × Value)), lv_has ls nL lv → i + 1 < nL → (i, Value.long x) :: lv.filter (fun q => !(q.1 == i) && (!(q.1 == i + 1) && !(q.1 + 1 == i && q.2.category == 2))) = lv' → (∀ ls' : Array Slot, lv_has ls' nL lv' → W p l e R s m args below meth c H locs cells slots Q (F0 m pc1 ls' rest)) → W p l e R s m args below meth c H locs cells slots Q (F0 m pc ls (.long x :: rest))) (h : aStL k pc1 i lo st ws = some res) : Go p l e R s m args below meth c cells slots Q D tc ad A nL pc lo st ws := by
  unfold aStL at h
  split at h
  · rename_i x st
    split at h
    · rename_i hc
      intro H locs ls hR
      obtain ⟨h1, h2, h3, h4, h5⟩ := hR
      refine row H locs ls x _ _ _ h5 (by rw [← h4]; exact hc.1) rfl (fun ls' hl => hk _ _ _ _ h H locs ls' ⟨h1, h2, h3, by rw [List.length_set, List.length_set]; exact h4, lo_st2 (v := .long x) hc.1 hc.2 hl⟩)
    · cases h
  · cases h
theorem go_inc {d : Int} {dv : Int32} (hx : p.tables.exec = Jvm.exec) (hb : c.code = cc) (hdv : dv = Int32.ofInt d) (hdg : decode cc pc = .ok (.iinc i d, 3)) (hk : ∀ pc' lo' st' ws', k pc' lo' st' ws' = some res → Go p l e R s m args below meth c cells slots Q D tc ad A nL pc' lo' st' ws') (h : aInc k (pc + 3) i dv lo st ws = some res) : Go p l e R s m args below meth c cells slots Q D tc ad A nL pc lo st ws := by
  unfold aInc at h
  split at h
  · rename_i x hv
    split at h
    · rename_i hc
      intro H locs ls hR
      obtain ⟨h1, h2, h3, h4, h5⟩ := hR
      have hi : i < lo.length := (List.getElem?_eq_some_iff.mp hv).1
      obtain ⟨j, hj⟩ := List.mem_iff_getElem?.mp (cvL_mem (ad := ad) (q := (i, .int x)).mpr ⟨.int x, hv, rfl⟩)
      refine lv_iinc (k := j) (v := x + dv) hx hb hdg h5 hj (by rw [hdv]) (by rw [← h4]; exact hi) rfl (fun ls' hl => hk _ _ _ _ h H locs ls' ⟨h1, h2, h3, by rw [List.length_set]; exact h4, lo_st1 (v := .int (x + dv)) hi hc hl⟩)
    · cases h
  · cases h
theorem go_bin {f : Int32 → Int32 → Int32} (hk : ∀ pc' lo' st' ws', k pc' lo' st' ws' = some res → Go p l e R s m args below meth c cells slots Q D tc ad A nL pc' lo' st' ws') (row : ∀ (H : Heap) (locs : List Loc) (ls : Array Slot) (x y : Int32) (rest : List Value), W p l e R s m args below meth c H locs cells slots Q (F0 m pc1 ls (.int (f x y) :: rest)) → W p l e R s m args below meth c H locs cells slots Q (F0 m pc ls (.int y :: .int x :: rest))) (h : aBin f k pc1 lo st ws = some res) : Go p l e R s m args below meth c cells slots Q D tc ad A nL pc lo st ws := by
  unfold aBin at h
  split at h
  · exact fun H locs ls hR => row H locs ls _ _ _ (hk _ _ _ _ h H locs ls hR)
  · cases h
theorem go_binL {f : Int64 → Int64 → Int64} (hk : ∀ pc' lo' st' ws', k pc' lo' st' ws' = some res → Go p l e R s m args below meth c cells slots Q D tc ad A nL pc' lo' st' ws') (row : ∀ (H : Heap) (locs : List Loc) (ls : Array Slot) (x y : Int64) (rest : List Value), W p l e R s m args below meth c H locs cells slots Q (F0 m pc1 ls (.long (f x y) :: rest)) → W p l e R s m args below meth c H locs cells slots Q (F0 m pc ls (.long y :: .long x :: rest))) (h : aBinL f k pc1 lo st ws = some res) : Go p l e R s m args below meth c cells slots Q D tc ad A nL pc lo st ws := by
  unfold aBinL at h
  split at h
  · exact fun H locs ls hR => row H locs ls _ _ _ (hk _ _ _ _ h H locs ls hR)
  · cases h
theorem go_div {f : Int32 → Int32 → Int32} (hk : ∀ pc' lo' st' ws', k pc' lo' st' ws' = some res → Go p l e R s m args below meth c cells slots Q D tc ad A nL pc' lo' st' ws') (row : ∀ (H : Heap) (locs : List Loc) (ls : Array Slot) (x y : Int32) (rest : List Value), ¬ y = 0 → W p l e R s m args below meth c H locs cells slots Q (F0 m pc1 ls (.int (f x y) :: rest)) → W p l e R s m args below meth c H locs cells slots Q (F0 m pc ls (.int y :: .int x :: rest))) (h : aDiv f k pc1 lo st ws = some res) : Go p l e R s m args below meth c cells slots Q D tc ad A nL pc lo st ws := by
  unfold aDiv at h
  split at h
  · split at h
    · cases h
    · rename_i hy
      exact fun H locs ls hR => row H locs ls _ _ _ hy (hk _ _ _ _ h H locs ls hR)
  · cases h
theorem go_lsh (hx : p.tables.exec = Jvm.exec) (hb : c.code = cc) (hdg : decode cc pc = .ok (.lshl, 1)) (hk : ∀ pc' lo' st' ws', k pc' lo' st' ws' = some res → Go p l e R s m args below meth c cells slots Q D tc ad A nL pc' lo' st' ws') (h : aLsh k (pc + 1) lo st ws = some res) : Go p l e R s m args below meth c cells slots Q D tc ad A nL pc lo st ws := by
  unfold aLsh at h
  split at h
  · exact fun H locs ls hR => lv_lshl hx hb hdg rfl (hk _ _ _ _ h H locs ls hR)
  · cases h
theorem go_cmpL (hx : p.tables.exec = Jvm.exec) (hb : c.code = cc) (hdg : decode cc pc = .ok (.lcmp, 1)) (hk : ∀ pc' lo' st' ws', k pc' lo' st' ws' = some res → Go p l e R s m args below meth c cells slots Q D tc ad A nL pc' lo' st' ws') (h : aCmpL k (pc + 1) lo st ws = some res) : Go p l e R s m args below meth c cells slots Q D tc ad A nL pc lo st ws := by
  unfold aCmpL at h
  split at h
  · exact fun H locs ls hR => W.lcmp hx hb hdg (hk _ _ _ _ h H locs ls hR)
  · cases h
theorem go_un {f : Int32 → Int32} (hk : ∀ pc' lo' st' ws', k pc' lo' st' ws' = some res → Go p l e R s m args below meth c cells slots Q D tc ad A nL pc' lo' st' ws') (row : ∀ (H : Heap) (locs : List Loc) (ls : Array Slot) (x : Int32) (rest : List Value), W p l e R s m args below meth c H locs cells slots Q (F0 m pc1 ls (.int (f x) :: rest)) → W p l e R s m args below meth c H locs cells slots Q (F0 m pc ls (.int x :: rest))) (h : aUn f k pc1 lo st ws = some res) : Go p l e R s m args below meth c cells slots Q D tc ad A nL pc lo st ws := by
  unfold aUn at h
  split at h
  · exact fun H locs ls hR => row H locs ls _ _ (hk _ _ _ _ h H locs ls hR)
  · cases h
theorem go_i2l (hx : p.tables.exec = Jvm.exec) (hb : c.code = cc) (hdg : decode cc pc = .ok (.i2l, 1)) (hk : ∀ pc' lo' st' ws', k pc' lo' st' ws' = some res → Go p l e R s m args below meth c cells slots Q D tc ad A nL pc' lo' st' ws') (h : aI2L k (pc + 1) lo st ws = some res) : Go p l e R s m args below meth c cells slots Q D tc ad A nL pc lo st ws := by
  unfold aI2L at h
  split at h
  · exact fun H locs ls hR => lv_i2l hx hb hdg rfl (hk _ _ _ _ h H locs ls hR)
  · cases h
theorem go_l2i (hx : p.tables.exec = Jvm.exec) (hb : c.code = cc) (hdg : decode cc pc = .ok (.l2i, 1)) (hk : ∀ pc' lo' st' ws', k pc' lo' st' ws' = some res → Go p l e R s m args below meth c cells slots Q D tc ad A nL pc' lo' st' ws') (h : aL2I k (pc + 1) lo st ws = some res) : Go p l e R s m args below meth c cells slots Q D tc ad A nL pc lo st ws := by
  unfold aL2I at h
  split at h
  · exact fun H locs ls hR => lv_l2i hx hb hdg rfl (hk _ _ _ _ h H locs ls hR)
  · cases h
theorem go_dup (hx : p.tables.exec = Jvm.exec) (hb : c.code = cc) (hdg : decode cc pc = .ok (.dup, 1)) (hk : ∀ pc' lo' st' ws', k pc' lo' st' ws' = some res → Go p l e R s m args below meth c cells slots Q D tc ad A nL pc' lo' st' ws') (h : aDup k (pc + 1) lo st ws = some res) : Go p l e R s m args below meth c cells slots Q D tc ad A nL pc lo st ws := by
  unfold aDup at h
  split at h
  · split at h
    · rename_i hc
      exact fun H locs ls hR => lv_dup hx hb hdg (by rw [cvV_cat]; exact hc) (hk _ _ _ _ h H locs ls hR)
    · cases h
  · cases h
theorem go_pop (hx : p.tables.exec = Jvm.exec) (hb : c.code = cc) (hdg : decode cc pc = .ok (.pop, 1)) (hk : ∀ pc' lo' st' ws', k pc' lo' st' ws' = some res → Go p l e R s m args below meth c cells slots Q D tc ad A nL pc' lo' st' ws') (h : aPop k (pc + 1) lo st ws = some res) : Go p l e R s m args below meth c cells slots Q D tc ad A nL pc lo st ws := by
  unfold aPop at h
  split at h
  · split at h
    · rename_i hc
      exact fun H locs ls hR => lv_pop hx hb hdg (by rw [cvV_cat]; exact hc) (hk _ _ _ _ h H locs ls hR)
    · cases h
  · cases h
theorem go_dup2 (hx : p.tables.exec = Jvm.exec) (hb : c.code = cc) (hdg : decode cc pc = .ok (.dup2, 1)) (hk : ∀ pc' lo' st' ws', k pc' lo' st' ws' = some res → Go p l e R s m args below meth c cells slots Q D tc ad A nL pc' lo' st' ws') (h : aDup2 k (pc + 1) lo st ws = some res) : Go p l e R s m args below meth c cells slots Q D tc ad A nL pc lo st ws := by
  unfold aDup2 at h
  split at h
  · split at h
    · rename_i hc
      exact fun H locs ls hR => lv_dup2_11 hx hb hdg (by rw [cvV_cat]; exact hc.1) (by rw [cvV_cat]; exact hc.2) (hk _ _ _ _ h H locs ls hR)
    · cases h
  · cases h
theorem if_so {cnd : Prop} [Decidable cnd] {a b : Option ρ} (h : (if cnd then a else b) = some res) : (cnd → a = some res) ∧ (¬ cnd → b = some res) := by
  by_cases q : cnd
  · rw [if_pos q] at h; exact ⟨fun _ => h, fun z => absurd q z⟩
  · rw [if_neg q] at h; exact ⟨fun z => absurd z q, fun _ => h⟩
theorem go_if {b : Jvm.ClassFile.Cond} {off : Int} {tgt : Nat} (hx : p.tables.exec = Jvm.exec) (hb : c.code = cc) (hdg : decode cc pc = .ok (.ifCond b off, 3)) (ht : (pc : Int) + off = (tgt : Int)) (hk : ∀ pc' lo' st' ws', k pc' lo' st' ws' = some res → Go p l e R s m args below meth c cells slots Q D tc ad A nL pc' lo' st' ws') (h : aIf b k pc tgt lo st ws = some res) : Go p l e R s m args below meth c cells slots Q D tc ad A nL pc lo st ws := by
  unfold aIf at h
  split at h
  · intro H locs ls hR
    cases b <;> simp only at h
    · exact lv_if_eq hx hb hdg ht (fun q => hk _ _ _ _ ((if_so h).1 q) H locs ls hR) (fun q => hk _ _ _ _ ((if_so h).2 q) H locs ls hR)
    · exact lv_if_ne hx hb hdg ht (fun q => hk _ _ _ _ ((if_so h).2 q) H locs ls hR) (fun q => hk _ _ _ _ ((if_so h).1 q) H locs ls hR)
    · exact lv_if_lt hx hb hdg ht (fun q => hk _ _ _ _ ((if_so h).1 q) H locs ls hR) (fun q => hk _ _ _ _ ((if_so h).2 q) H locs ls hR)
    · exact lv_if_ge hx hb hdg ht (fun q => hk _ _ _ _ ((if_so h).1 q) H locs ls hR) (fun q => hk _ _ _ _ ((if_so h).2 q) H locs ls hR)
    · exact lv_if_gt hx hb hdg ht (fun q => hk _ _ _ _ ((if_so h).1 q) H locs ls hR) (fun q => hk _ _ _ _ ((if_so h).2 q) H locs ls hR)
    · exact lv_if_le hx hb hdg ht (fun q => hk _ _ _ _ ((if_so h).1 q) H locs ls hR) (fun q => hk _ _ _ _ ((if_so h).2 q) H locs ls hR)
  · cases h
theorem go_icmp {b : Jvm.ClassFile.Cond} {off : Int} {tgt : Nat} (hx : p.tables.exec = Jvm.exec) (hb : c.code = cc) (hdg : decode cc pc = .ok (.if_icmp b off, 3)) (ht : (pc : Int) + off = (tgt : Int)) (hk : ∀ pc' lo' st' ws', k pc' lo' st' ws' = some res → Go p l e R s m args below meth c cells slots Q D tc ad A nL pc' lo' st' ws') (h : aIcmp b k pc tgt lo st ws = some res) : Go p l e R s m args below meth c cells slots Q D tc ad A nL pc lo st ws := by
  unfold aIcmp at h
  split at h
  · intro H locs ls hR
    cases b <;> simp only at h
    · exact lv_icmp_eq hx hb hdg ht (fun q => hk _ _ _ _ ((if_so h).1 q) H locs ls hR) (fun q => hk _ _ _ _ ((if_so h).2 q) H locs ls hR)
    · exact lv_icmp_ne hx hb hdg ht (fun q => hk _ _ _ _ ((if_so h).2 q) H locs ls hR) (fun q => hk _ _ _ _ ((if_so h).1 q) H locs ls hR)
    · exact lv_icmp_lt hx hb hdg ht (fun q => hk _ _ _ _ ((if_so h).1 q) H locs ls hR) (fun q => hk _ _ _ _ ((if_so h).2 q) H locs ls hR)
    · exact lv_icmp_ge hx hb hdg ht (fun q => hk _ _ _ _ ((if_so h).1 q) H locs ls hR) (fun q => hk _ _ _ _ ((if_so h).2 q) H locs ls hR)
    · exact lv_icmp_gt hx hb hdg ht (fun q => hk _ _ _ _ ((if_so h).1 q) H locs ls hR) (fun q => hk _ _ _ _ ((if_so h).2 q) H locs ls hR)
    · exact lv_icmp_le hx hb hdg ht (fun q => hk _ _ _ _ ((if_so h).1 q) H locs ls hR) (fun q => hk _ _ _ _ ((if_so h).2 q) H locs ls hR)
  · cases h
theorem go_goto {off : Int} {tgt : Nat} (hx : p.tables.exec = Jvm.exec) (hb : c.code = cc) (hdg : decode cc pc = .ok (.goto off, 3)) (ht : (pc : Int) + off = (tgt : Int)) (h : Go p l e R s m args below meth c cells slots Q D tc ad A nL tgt lo st ws) : Go p l e R s m args below meth c cells slots Q D tc ad A nL pc lo st ws :=
  fun H locs ls hR => lv_goto hx hb hdg ht (h H locs ls hR)
end
end
section
section
variable {p : Program} {l : Launch} {e : Env} {R : Room} {s : State} {m : MethodId} {args : Array Value} {below : List Frame} {meth : Method} {c : Code} {cells slots : Nat} {Q : State → Prop} {D : va_G} {tc : Nat → ClassId} {ad : Nat → Nat} {A : Nat → Prop} {nL : Nat} {own : String} {cc : ByteArray}
variable {ρ : Type} {k : Kont ρ} {res : ρ} {pc pc1 i : Nat} {lo : AL} {st : List Value} {ws : AW} {ca : CAr}
-- switches
def swT (pc : Nat) (lo hi : Int) (offs : Array Int) (sw : List (Int32 × Nat)) : Prop :=
  sw.length = offs.size ∧ lo + offs.size = hi + 1 ∧ ∀ j, j < sw.length → (sw.getD j (0, 0)).1.toInt = lo + j ∧ ∃ o, offs[j]? = some o ∧ (pc : Int) + o = ((sw.getD j (0, 0)).2 : Int)
theorem swG_spec {f : Nat → Option ρ} {x : Int32} {d : Nat} : ∀ (sw : List (Int32 × Nat)), aSwG f x d sw = some res → (∃ j, j < sw.length ∧ x = (sw.getD j (0, 0)).1 ∧ f (sw.getD j (0, 0)).2 = some res) ∨ ((∀ j, j < sw.length → x ≠ (sw.getD j (0, 0)).1) ∧ f d = some res)
  | [], h => Or.inr ⟨fun j hj => absurd hj (Nat.not_lt_zero j), h⟩
  | q :: r, h => by
    unfold aSwG at h
    obtain ⟨h1, h2⟩ := if_so h
    by_cases e : x = q.1
    · exact Or.inl ⟨0, Nat.succ_pos _, e, h1 e⟩
    · rcases swG_spec r (h2 e) with ⟨j, a, b, g⟩ | ⟨a, b⟩
      · exact Or.inl ⟨j + 1, Nat.succ_lt_succ a, by simpa using b, by simpa using g⟩
      · refine Or.inr ⟨fun j hj => ?_, b⟩
        cases j with
        | zero => exact e
        | succ j => simpa using a j (Nat.lt_of_succ_lt_succ hj)
theorem go_tsw {d lo9 hi9 : Int} {offs : Array Int} {len tgt : Nat} {sw : List (Int32 × Nat)} (hx : p.tables.exec = Jvm.exec) (hb : c.code = cc) (hdg : decode cc pc = .ok (.tableswitch d lo9 hi9 offs, len)) (ht : (pc : Int) + d = (tgt : Int)) (hs : swT pc lo9 hi9 offs sw) (hk : ∀ pc' lo' st' ws', k pc' lo' st' ws' = some res → Go p l e R s m args below meth c cells slots Q D tc ad A nL pc' lo' st' ws') (h : aSw k tgt sw lo st ws = some res) : Go p l e R s m args below meth c cells slots Q D tc ad A nL pc lo st ws := by
  unfold aSw at h
  split at h
  · rename_i x st
    intro H locs ls hR
    obtain ⟨e1, e2, e3⟩ := hs
    rcases swG_spec sw h with ⟨j, a, b, g⟩ | ⟨a, b⟩
    · obtain ⟨f1, o, f2, f3⟩ := e3 j a
      rw [← b] at f1
      refine lv_tableIn hx hb hdg (by omega) (by omega) (off := o) ?_ f3 (hk _ _ _ _ g H locs ls hR)
      rw [f1, show (lo9 + (j : Int) - lo9).toNat = j by omega]
      exact f2
    · refine lv_tableOut hx hb hdg ?_ ht (hk _ _ _ _ b H locs ls hR)
      apply Decidable.byContradiction
      intro z
      have z1 : ¬ x.toInt < lo9 := fun w => z (Or.inl w)
      have z2 : ¬ hi9 < x.toInt := fun w => z (Or.inr w)
      have hj : (x.toInt - lo9).toNat < sw.length := by omega
      refine a _ hj ?_
      obtain ⟨f1, -⟩ := e3 _ hj
      apply Int32.toInt_inj.mp
      rw [f1]
      omega
  · cases h
def swL (pc : Nat) (ps : List (Int × Int)) (sw : List (Int32 × Nat)) : Bool := match ps, sw with
  | [], [] => true
  | a :: ps, b :: sw => decide (b.1.toInt = a.1) && (decide ((pc : Int) + a.2 = (b.2 : Int)) && swL pc ps sw)
  | _, _ => false
theorem swL_spec {f : Nat → Option ρ} {x : Int32} {d : Int} {tgt : Nat} (ht : (pc : Int) + d = (tgt : Int)) : ∀ (ps : List (Int × Int)) (sw : List (Int32 × Nat)), swL pc ps sw = true → aSwG f x tgt sw = some res → ∃ t : Nat, (pc : Int) + Op.lookupswitch.offset ps d x.toInt = (t : Int) ∧ f t = some res
  | [], [], _, h => ⟨tgt, by rw [Op.lookupswitch.offset_nil]; exact ht, h⟩
  | [], _ :: _, h0, _ => by simp [swL] at h0
  | _ :: _, [], h0, _ => by simp [swL] at h0
  | a :: ps, b :: sw, h0, h => by
    simp only [swL, Bool.and_eq_true, decide_eq_true_eq] at h0
    obtain ⟨g1, g2, g3⟩ := h0
    unfold aSwG at h
    obtain ⟨h1, h2⟩ := if_so h
    obtain ⟨a1, a2⟩ := a
    by_cases e : x = b.1
    · refine ⟨b.2, ?_, h1 e⟩
      rw [Op.lookupswitch.offset_cons, if_pos (by first | (rw [e]; exact g1.symm) | (rw [e]; exact g1) | (simp [e, g1]))]
      exact g2
    · obtain ⟨t, i1, i2⟩ := swL_spec ht ps sw g3 (h2 e)
      refine ⟨t, ?_, i2⟩
      have hne : ¬ x.toInt = a1 := fun z => e (Int32.toInt_inj.mp (z.trans g1.symm))
      rw [Op.lookupswitch.offset_cons, if_neg (by first | exact hne | exact fun z => hne z.symm)]
      exact i1
theorem go_lsw {d : Int} {ps : Array (Int × Int)} {len tgt : Nat} {sw : List (Int32 × Nat)} (hx : p.tables.exec = Jvm.exec) (hb : c.code = cc) (hdg : decode cc pc = .ok (.lookupswitch d ps, len)) (hp : (ps.toList.zip (ps.toList.drop 1)).all (fun (a, next) => a.1 < next.1) = true) (ht : (pc : Int) + d = (tgt : Int)) (hs : swL pc ps.toList sw = true) (hk : ∀ pc' lo' st' ws', k pc' lo' st' ws' = some res → Go p l e R s m args below meth c cells slots Q D tc ad A nL pc' lo' st' ws') (h : aSw k tgt sw lo st ws = some res) : Go p l e R s m args below meth c cells slots Q D tc ad A nL pc lo st ws := by
  unfold aSw at h
  split at h
  · intro H locs ls hR
    obtain ⟨t, i1, i2⟩ := swL_spec ht ps.toList sw hs h
    exact lv_lookup hx hb hdg hp rfl i1 (hk _ _ _ _ i2 H locs ls hR)
  · cases h
-- arrays
theorem go_iald (X : Cx p R s m args c cells slots D tc ad A nL own cc ca) (hdg : decode cc pc = .ok (.iaload, 1)) (hk : ∀ pc' lo' st' ws', k pc' lo' st' ws' = some res → Go p l e R s m args below meth c cells slots Q D tc ad A nL pc' lo' st' ws') (h : aIald ca k (pc + 1) lo st ws = some res) : Go p l e R s m args below meth c cells slots Q D tc ad A nL pc lo st ws := by
  obtain ⟨⟨hx, hb, -⟩, hK, -, -, -, hca⟩ := X
  unfold aIald at h
  split at h
  · rename_i i a st
    split at h
    · rename_i n f ha
      obtain ⟨-, h⟩ := if_so h
      intro H locs ls hR
      by_cases q : i < 0 ∨ n ≤ i.toNatClampNeg
      · rename_i h0; rw [if_pos q] at h0; cases h0
      · exact va_iald hx hb hK hR.1 a 0 (cvW_at ha) rfl q hdg (hk _ _ _ _ (h q) H locs ls hR)
    · split at h
      · rename_i n f ha
        intro H locs ls hR
        by_cases q : i < 0 ∨ n ≤ i.toNatClampNeg
        · rw [if_pos q] at h; cases h
        · rw [if_neg q] at h
          exact va_ti hx hb (hca a n f ha) hR.2.2.1 q rfl hdg (hk _ _ _ _ h H locs ls hR)
      · cases h
    · cases h
  · cases h
theorem go_lald (X : Cx p R s m args c cells slots D tc ad A nL own cc ca) (hdg : decode cc pc = .ok (.laload, 1)) (hk : ∀ pc' lo' st' ws', k pc' lo' st' ws' = some res → Go p l e R s m args below meth c cells slots Q D tc ad A nL pc' lo' st' ws') (h : aLald k (pc + 1) lo st ws = some res) : Go p l e R s m args below meth c cells slots Q D tc ad A nL pc lo st ws := by
  obtain ⟨⟨hx, hb, -⟩, hK, -, -, -, hca⟩ := X
  unfold aLald at h
  split at h
  · rename_i i a st
    split at h
    · rename_i n f ha
      intro H locs ls hR
      by_cases q : i < 0 ∨ n ≤ i.toNatClampNeg
      · rw [if_pos q] at h; cases h
      · rw [if_neg q] at h
        exact va_lald hx hb hK hR.1 a 1 (cvW_at ha) rfl q hdg (hk _ _ _ _ h H locs ls hR)
    · cases h
  · cases h
theorem go_bald (X : Cx p R s m args c cells slots D tc ad A nL own cc ca) (hdg : decode cc pc = .ok (.baload, 1)) (hk : ∀ pc' lo' st' ws', k pc' lo' st' ws' = some res → Go p l e R s m args below meth c cells slots Q D tc ad A nL pc' lo' st' ws') (h : aBald k (pc + 1) lo st ws = some res) : Go p l e R s m args below meth c cells slots Q D tc ad A nL pc lo st ws := by
  obtain ⟨⟨hx, hb, -⟩, hK, -, -, -, hca⟩ := X
  unfold aBald at h
  split at h
  · rename_i i a st
    split at h
    · rename_i n f ha
      intro H locs ls hR
      by_cases q : i < 0 ∨ n ≤ i.toNatClampNeg
      · rw [if_pos q] at h; cases h
      · rw [if_neg q] at h
        exact va_bald hx hb hK hR.1 a 2 (cvW_at ha) rfl q hdg (hk _ _ _ _ h H locs ls hR)
    · cases h
  · cases h
theorem aPick_spec {g : Nat → Option ρ} {x : Int32} : ∀ (fs : List Value) (j : Nat), aPick g x fs j = some res → ∃ q a, q < fs.length ∧ x = nI (j + q) ∧ fs[q]? = some (.ref a) ∧ g a = some res
  | [], _, h => by cases h
  | v :: r, j, h => by
    unfold aPick at h
    obtain ⟨h1, h2⟩ := if_so h
    by_cases e : x = nI j
    · have h3 := h1 e
      split at h3
      · rename_i a
        exact ⟨0, a, Nat.succ_pos _, e, rfl, h3⟩
      · cases h3
    · obtain ⟨q, a, i1, i2, i3⟩ := aPick_spec r (j + 1) (h2 e)
      exact ⟨q + 1, a, Nat.succ_lt_succ i1, by rw [i2]; congr 1; omega, i3⟩
theorem go_aald (X : Cx p R s m args c cells slots D tc ad A nL own cc ca) (hdg : decode cc pc = .ok (.aaload, 1)) (hk : ∀ pc' lo' st' ws', k pc' lo' st' ws' = some res → Go p l e R s m args below meth c cells slots Q D tc ad A nL pc' lo' st' ws') (h : aAald k (pc + 1) lo st ws = some res) : Go p l e R s m args below meth c cells slots Q D tc ad A nL pc lo st ws := by
  obtain ⟨⟨hx, hb, -⟩, hK, -, -, -, hca⟩ := X
  unfold aAald at h
  split at h
  · rename_i i a st
    split at h
    · rename_i fs ha
      split at h
      · rename_i hn
        obtain ⟨q, b, i2, i3, i4, i5⟩ := aPick_spec fs 0 h
        rw [Nat.zero_add] at i3
        subst i3
        intro H locs ls hR
        refine va_aldq (C := "LeftTillCalled$Sheet") hx hb hK hR.1 a 3 (cvW_at ha) rfl (vp_in_nI i2 (by omega)) hdg ?_
        rw [nI_clamp (by omega)]
        have e9 : rfOf (fs.map (cvV ad)) q = some (ad b) := by
          unfold rfOf
          rw [List.getElem?_map, i4]
          rfl
        rw [e9]
        exact hk _ _ _ _ i5 H locs ls hR
      · cases h
    · cases h
  · cases h
theorem go_iast (X : Cx p R s m args c cells slots D tc ad A nL own cc ca) (hdg : decode cc pc = .ok (.iastore, 1)) (hk : ∀ pc' lo' st' ws', k pc' lo' st' ws' = some res → Go p l e R s m args below meth c cells slots Q D tc ad A nL pc' lo' st' ws') (h : aIast k (pc + 1) lo st ws = some res) : Go p l e R s m args below meth c cells slots Q D tc ad A nL pc lo st ws := by
  obtain ⟨⟨hx, hb, -⟩, hK, -, -, -, hca⟩ := X
  unfold aIast at h
  split at h
  · rename_i x i a st
    split at h
    · rename_i n f ha
      intro H locs ls hR
      by_cases q : i < 0 ∨ n ≤ i.toNatClampNeg
      · rw [if_pos q] at h; cases h
      · rw [if_neg q] at h
        obtain ⟨h1, h2, h3, h4⟩ := hR
        refine va_iast hx hb hK h1 h2 h3 a 0 (cvW_at ha) rfl q hdg (fun H1 locs1 g1 g2 g3 => hk _ _ _ _ h H1 locs1 ls ⟨?_, ?_, g3, h4⟩)
        · rw [cvW_set]; exact g1
        · rw [cvW_set]; exact g2
    · cases h
  · cases h
theorem go_last (X : Cx p R s m args c cells slots D tc ad A nL own cc ca) (hdg : decode cc pc = .ok (.lastore, 1)) (hk : ∀ pc' lo' st' ws', k pc' lo' st' ws' = some res → Go p l e R s m args below meth c cells slots Q D tc ad A nL pc' lo' st' ws') (h : aLast k (pc + 1) lo st ws = some res) : Go p l e R s m args below meth c cells slots Q D tc ad A nL pc lo st ws := by
  obtain ⟨⟨hx, hb, -⟩, hK, -, -, -, hca⟩ := X
  unfold aLast at h
  split at h
  · rename_i x i a st
    split at h
    · rename_i n f ha
      intro H locs ls hR
      by_cases q : i < 0 ∨ n ≤ i.toNatClampNeg
      · rw [if_pos q] at h; cases h
      · rw [if_neg q] at h
        obtain ⟨h1, h2, h3, h4⟩ := hR
        refine va_last hx hb hK h1 h2 h3 a 1 (cvW_at ha) rfl q hdg (fun H1 locs1 g1 g2 g3 => hk _ _ _ _ h H1 locs1 ls ⟨?_, ?_, g3, h4⟩)
        · rw [cvW_set]; exact g1
        · rw [cvW_set]; exact g2
    · cases h
  · cases h
theorem go_bast (X : Cx p R s m args c cells slots D tc ad A nL own cc ca) (hdg : decode cc pc = .ok (.bastore, 1)) (hk : ∀ pc' lo' st' ws', k pc' lo' st' ws' = some res → Go p l e R s m args below meth c cells slots Q D tc ad A nL pc' lo' st' ws') (h : aBast k (pc + 1) lo st ws = some res) : Go p l e R s m args below meth c cells slots Q D tc ad A nL pc lo st ws := by
  obtain ⟨⟨hx, hb, -⟩, hK, -, -, -, hca⟩ := X
  unfold aBast at h
  split at h
  · rename_i x i a st
    split at h
    · rename_i n f ha
      intro H locs ls hR
      by_cases q : i < 0 ∨ n ≤ i.toNatClampNeg
      · rw [if_pos q] at h; cases h
      · rw [if_neg q] at h
        obtain ⟨h1, h2, h3, h4⟩ := hR
        refine va_bast hx hb hK h1 h2 h3 a 2 (cvW_at ha) rfl q hdg (fun H1 locs1 g1 g2 g3 => hk _ _ _ _ h H1 locs1 ls ⟨?_, ?_, g3, h4⟩)
        · rw [cvW_set]; exact g1
        · rw [cvW_set]; exact g2
    · cases h
  · cases h
theorem go_len (X : Cx p R s m args c cells slots D tc ad A nL own cc ca) (hdg : decode cc pc = .ok (.arraylength, 1)) (hk : ∀ pc' lo' st' ws', k pc' lo' st' ws' = some res → Go p l e R s m args below meth c cells slots Q D tc ad A nL pc' lo' st' ws') (h : aLen ca k (pc + 1) lo st ws = some res) : Go p l e R s m args below meth c cells slots Q D tc ad A nL pc lo st ws := by
  obtain ⟨⟨hx, hb, -⟩, hK, -, -, -, hca⟩ := X
  unfold aLen at h
  split at h
  · split at h
    · rename_i n f ha hc
      intro H locs ls hR
      exact va_tlen hx hb (hca _ _ _ hc) hR.2.2.1 rfl hdg (hk _ _ _ _ h H locs ls hR)
    · cases h
  · cases h
-- fields
def FlOK (own : String) (ix ci fk kd : Nat) : Prop := ∃ (C : String) (T : u_T) (N : Nat) (ty0 : Nat → FieldType), vwCl[ci]? = some (C, T, N) ∧ fk < N ∧ (∀ w ∈ u_ws C T N, w ∈ WU) ∧ (∀ k, k < N → parseFieldDescriptor (T k).2.2.1 = some (ty0 k)) ∧ (∀ a, a < N → ∀ b, b < N → a ≠ b → (T a).2.1 ≠ (T b).2.1) ∧
  (Cond.fieldLink own ix (T fk).1 (T fk).2.1 (T fk).2.2.1 ∈ WU ∨ (own, ix, (T fk).1, (T fk).2.1, (T fk).2.2.1) ∈ nestL) ∧ (kd < 2 → (T fk).2.2.2 = false) ∧ (kd = 0 → ty0 fk = .int) ∧ (kd = 1 → ty0 fk = .boolean)
theorem go_get {fl : Fls} {ix : Nat} (hfl : ∀ ix ci fk kd, fl.lookup ix = some (ci, fk, kd) → FlOK own ix ci fk kd) (X : Cx p R s m args c cells slots D tc ad A nL own cc ca) (hdg : decode cc pc = .ok (.getfield ix, 3)) (hk : ∀ pc' lo' st' ws', k pc' lo' st' ws' = some res → Go p l e R s m args below meth c cells slots Q D tc ad A nL pc' lo' st' ws') (h : aGet fl ix k (pc + 3) lo st ws = some res) : Go p l e R s m args below meth c cells slots Q D tc ad A nL pc lo st ws := by
  obtain ⟨⟨hx, hb, hml, hown, hts⟩, hK, hG, -, -, hca⟩ := X
  unfold aGet at h
  split at h
  · rename_i a st
    split at h
    · rename_i ci fk kd cj fs e1 e2
      split at h
      · rename_i ec
        subst ec
        split at h
        · rename_i v hv
          obtain ⟨C, T, N, ty0, f1, f2, f3, f4, f5, f6, -⟩ := hfl _ _ _ _ e1
          intro H locs ls hR
          have he : (cvW tc ad ws)[a]? = some (ad a, .inr (ci, fs.map (cvV ad))) := by
            rw [cvW_at e2, cvC_obj tc ad fs (cl_ne f1)]
          have hv' : (fs.map (cvV ad))[fk]? = some (cvV ad v) := by rw [List.getElem?_map, hv]; rfl
          rcases f6 with f6 | f6
          · exact va_get hx hb hts f3 hown hK hR.1 a he f1 fk f2 (hts _ f6) (fun _ h9 => h9) hv' hdg (hk _ _ _ _ h H locs ls hR)
          · exact va_getN (host := "LeftTillCalled") hx hb hts f3 hown hK hR.1 a he f1 fk f2 (va_Nw.use rfl (hG.1 _ f6)) (fun _ h9 => h9) hv' hdg (hk _ _ _ _ h H locs ls hR)
        · cases h
      · cases h
    · cases h
  · cases h
theorem go_put1 {ix ci fk kd : Nat} {x : Int32} {fs : List Value} {a : Nat} (f : FlOK own ix ci fk kd) (hx1 : kd = 0 ∨ (kd = 1 ∧ (x = 0 ∨ x = 1))) (X : Cx p R s m args c cells slots D tc ad A nL own cc ca) (hdg : decode cc pc = .ok (.putfield ix, 3)) (e2 : ws[a]? = some (.inr (ci, fs))) (hl : fk < fs.length) (h : Go p l e R s m args below meth c cells slots Q D tc ad A nL (pc + 3) lo st (ws.set a (.inr (ci, fs.set fk (.int x))))) : Go p l e R s m args below meth c cells slots Q D tc ad A nL pc lo (.int x :: .ref a :: st) ws := by
  obtain ⟨⟨hx, hb, hml, hown, hts⟩, hK, hG, -, -, hca⟩ := X
  obtain ⟨C, T, N, ty0, f1, f2, f3, f4, f5, f6, f7, f8, f9⟩ := f
  intro H locs ls hR
  obtain ⟨h1, h2, h3, h4⟩ := hR
  have he : (cvW tc ad ws)[a]? = some (ad a, .inr (ci, fs.map (cvV ad))) := by
    rw [cvW_at e2, cvC_obj tc ad fs (cl_ne f1)]
  have hl' : fk < (fs.map (cvV ad)).length := by rw [List.length_map]; exact hl
  have hset : ∀ H1 : Heap, va_P D vwCl ((cvW tc ad ws).set a (ad a, .inr (ci, (fs.map (cvV ad)).set fk (.int x)))) H1 → va_P D vwCl (cvW tc ad (ws.set a (.inr (ci, fs.set fk (.int x))))) H1 := by
    intro H1 g
    rw [cvW_set]
    have : cvC tc ad (.inr (ci, fs.set fk (.int x))) = .inr (ci, (fs.map (cvV ad)).set fk (.int x)) := by
      rw [cvC_obj tc ad _ (cl_ne f1), List.map_set]
      rfl
    rw [this]
    exact g
  have hn : ∃ ty, ty0 fk = ty ∧ narrow ty (.int x) = .int x ∧ fits ty (.int x) = true := by
    rcases hx1 with e | ⟨e, e'⟩
    · exact ⟨.int, f8 e, rfl, rfl⟩
    · refine ⟨.boolean, f9 e, ?_⟩
      rcases e' with rfl | rfl <;> exact ⟨by decide, by decide⟩
  have hkd : kd < 2 := by rcases hx1 with e | ⟨e, -⟩ <;> omega
  obtain ⟨ty, n0, n1, n2⟩ := hn
  have hd := f4 fk f2
  rw [n0] at hd
  have hDs : ∀ {q : ACell}, va_D A (cvW tc ad (ws.set a q)) := fun {q} => cvD_same (by rw [List.length_set]) h2
  rcases f6 with f6 | f6
  · exact va_put hx hb hts f3 ty0 f4 f5 hown hK h1 h2 h3 a he f1 fk f2 (hts _ f6) (fun _ h9 => h9) (f7 hkd) hd n1 n2 hl' hdg (fun H1 locs1 g1 g2 g3 => h H1 locs1 ls ⟨hset _ g1, hDs, g3, h4⟩)
  · exact va_putN (host := "LeftTillCalled") hx hb hts f3 ty0 f4 f5 hown hK h1 h2 h3 a he f1 fk f2 (va_Nw.use rfl (hG.1 _ f6)) (fun _ h9 => h9) (f7 hkd) hd n1 n2 hl' hdg (fun H1 locs1 g1 g2 g3 => h H1 locs1 ls ⟨hset _ g1, hDs, g3, h4⟩)
theorem go_put {fl : Fls} {ix : Nat} (hfl : ∀ ix ci fk kd, fl.lookup ix = some (ci, fk, kd) → FlOK own ix ci fk kd) (X : Cx p R s m args c cells slots D tc ad A nL own cc ca) (hdg : decode cc pc = .ok (.putfield ix, 3)) (hk : ∀ pc' lo' st' ws', k pc' lo' st' ws' = some res → Go p l e R s m args below meth c cells slots Q D tc ad A nL pc' lo' st' ws') (h : aPut fl ix k (pc + 3) lo st ws = some res) : Go p l e R s m args below meth c cells slots Q D tc ad A nL pc lo st ws := by
  unfold aPut at h
  split at h
  · rename_i x a st
    split at h
    · rename_i ci fk cj fs e1 e2
      split at h
      · rename_i hc
        obtain ⟨rfl, hl⟩ := hc
        exact go_put1 (hfl _ _ _ _ e1) (Or.inl rfl) X hdg e2 hl (hk _ _ _ _ h)
      · cases h
    · rename_i ci fk cj fs e1 e2
      split at h
      · rename_i hc
        obtain ⟨⟨rfl, hl⟩, hv⟩ := hc
        exact go_put1 (hfl _ _ _ _ e1) (Or.inr ⟨rfl, hv⟩) X hdg e2 hl (hk _ _ _ _ h)
      · cases h
    · cases h
  · cases h
theorem go_gets {ks ix : Nat} (hks : ks ≠ 0 → Cond.fieldLink own ks "LeftTillCalled" "KIND_ABOVE" "[I" ∈ WU) (X : Cx p R s m args c cells slots D tc ad A nL own cc ca) (hix : ix ≠ 0) (hdg : decode cc pc = .ok (.getstatic ix, 3)) (hk : ∀ pc' lo' st' ws', k pc' lo' st' ws' = some res → Go p l e R s m args below meth c cells slots Q D tc ad A nL pc' lo' st' ws') (h : aGets ks ix k (pc + 3) lo st ws = some res) : Go p l e R s m args below meth c cells slots Q D tc ad A nL pc lo st ws := by
  obtain ⟨⟨hx, hb, hml, hown, hts⟩, hK, hG, -, -, hca⟩ := X
  unfold aGets at h
  split at h
  · rename_i e
    subst e
    intro H locs ls hR
    exact va_gets hx hb hG.2.1 hR.2.2.1 hown (hts _ (hks hix)) (fun _ h9 => h9) hdg (hk _ _ _ _ h H locs ls hR)
  · cases h
end
end
section
def insOf (kd ix : Nat) : Instr := match kd with
  | 0 => .invokevirtual ix
  | 1 => .invokestatic ix
  | _ => .invokespecial ix
/-- a callee's function is what the machine does at a call of it -/
def CallOK (R : Room) (own : String) (cc : ByteArray) (ix kd n : Nat) (F : Callee) : Prop :=
  ∀ {p : Program} {l : Launch} {e : Env} {s : State} {m : MethodId} {args : Array Value} {below : List Frame} {meth : Method} {c : Code} {cells slots : Nat} {Q : State → Prop} {D : va_G} {tc : Nat → ClassId} {ad : Nat → Nat} {A : Nat → Prop} {nL : Nat} {ca : CAr}, Cx p R s m args c cells slots D tc ad A nL own cc ca → ∀ (ρ : Type) (as : List Value) (ws : AW) (κ : Option Value → AW → Option ρ) (res : ρ), F ρ as ws κ = some res → as.length = n →
    ∃ (r : Option Value) (ws' : AW), κ r ws' = some res ∧ ∀ (pc : Nat) (rest : List Value) (H : Heap) (locs : List Loc) (ls : Array Slot), decode cc pc = .ok (insOf kd ix, 3) → catSum rest ≤ 8 → ls.size = nL → va_P D vwCl (cvW tc ad ws) H → va_D A (cvW tc ad ws) → va_S A s.heap H locs →
      (∀ (H1 : Heap) (locs1 : List Loc), va_P D vwCl (cvW tc ad ws') H1 → va_D A (cvW tc ad ws') → va_S A s.heap H1 locs1 → W p l e R s m args below meth c H1 locs1 cells slots Q (F0 m (pc + 3) ls (r.toList.map (cvV ad) ++ rest))) → W p l e R s m args below meth c H locs cells slots Q (F0 m pc ls (as.reverse.map (cvV ad) ++ rest))
def RetFit (rt : Option FieldType) (v : Option Value) (q : Instr) : Prop :=
  (q = .ireturn ∧ ∃ x, v = some (.int x) ∧ (rt = some .int ∨ (rt = some .boolean ∧ (x = 0 ∨ x = 1)))) ∨ (q = .lreturn ∧ ∃ x, v = some (.long x) ∧ rt = some .long) ∨ (q = .areturn ∧ ∃ x n, v = some (.ref x) ∧ rt = some (.object n)) ∨ (q = .return_ ∧ v = none ∧ rt = none)
def Rt (p : Program) (l : Launch) (e : Env) (R : Room) (s : State) (m : MethodId) (args : Array Value) (below : List Frame) (meth : Method) (c : Code) (cells slots : Nat) (Q : State → Prop) (D : va_G) (tc : Nat → ClassId) (ad : Nat → Nat) (A : Nat → Prop) (cc : ByteArray) (rt : Option FieldType) (v : Option Value) (ws : AW) : Prop :=
  ∀ (H : Heap) (locs : List Loc) (ls : Array Slot) (pc : Nat) (q : Instr), va_P D vwCl (cvW tc ad ws) H → va_D A (cvW tc ad ws) → va_S A s.heap H locs → RetFit rt v q → decode cc pc = .ok (q, 1) → W p l e R s m args below meth c H locs cells slots Q (F0 m pc ls (v.toList.map (cvV ad)))
/-- a constant of the pool -/
def CnOK (own : String) (ix : Nat) (v : Value) : Prop := match v with
  | .int x => Cond.constant own ix x ∈ WU
  | .long x => Cond.constantLong own ix x ∈ WU
  | .ref q => own = "LeftTillCalled$Text" ∧ ∃ i, i < 13 ∧ q = 1000 + i ∧ ix = (strT.getD i (0, "", [])).1
  | _ => False
def lenOf (q : Instr) : Nat := match q with
  | .bipush _ | .ldc _ | .iload _ | .lload _ | .aload _ | .istore _ | .lstore _ | .astore _ => 2
  | .sipush _ | .ldc_w _ | .ldc2_w _ | .iinc _ _ | .ifCond _ _ | .if_icmp _ _ | .goto _ | .getfield _ | .putfield _ | .getstatic _ | .invokevirtual _ | .invokestatic _ | .invokespecial _ => 3
  | .tableswitch _ _ _ _ | .lookupswitch _ _ => 0
  | _ => 1
def cstOK (cn : Cns) (q : Instr) (v : Value) : Bool := match q with
  | .iconst n => decide (v = .int (Int32.ofInt n))
  | .bipush n => decide (v = .int (Int8.ofInt n).toInt32)
  | .sipush n => decide (v = .int (Int16.ofInt n).toInt32)
  | .lconst n => decide (v = .long (Int64.ofNat (n : Nat)))
  | .iinc _ n => decide (v = .int (Int32.ofInt n))
  | .ldc ix => decide (cn.lookup ix = some v) && (match v with
    | .int _ => true
    | .ref _ => true
    | _ => false)
  | .ldc_w ix => decide (cn.lookup ix = some v) && (match v with
    | .int _ => true
    | _ => false)
  | .ldc2_w ix => decide (cn.lookup ix = some v) && (match v with
    | .long _ => true
    | _ => false)
  | .getstatic ix => decide (ix ≠ 0)
  | _ => true
def swTb (pc : Nat) (lo hi : Int) (offs : Array Int) (sw : List (Int32 × Nat)) : Bool :=
  decide (sw.length = offs.size) && (decide (lo + offs.size = hi + 1) && (List.range sw.length).all (fun j => decide ((sw.getD j (0, 0)).1.toInt = lo + j) && (match offs[j]? with
    | some o => decide ((pc : Int) + o = ((sw.getD j (0, 0)).2 : Int))
    | none => false)))
theorem swTb_spec {pc : Nat} {lo hi : Int} {offs : Array Int} {sw : List (Int32 × Nat)} (h : swTb pc lo hi offs sw = true) : swT pc lo hi offs sw := by
  simp only [swTb, Bool.and_eq_true, decide_eq_true_eq, List.all_eq_true, List.mem_range] at h
  obtain ⟨h1, h2, h3⟩ := h
  refine ⟨h1, h2, fun j hj => ?_⟩
  obtain ⟨a, b⟩ := h3 j hj
  refine ⟨a, ?_⟩
  cases e : offs[j]? with
  | none => rw [e] at b; cases b
  | some o => rw [e] at b; exact ⟨o, rfl, by simpa using b⟩
def tgtOK (pc : Nat) (q : Instr) (tgt : Nat) (sw : List (Int32 × Nat)) : Bool := match q with
  | .ifCond _ off | .if_icmp _ off | .goto off => decide ((pc : Int) + off = (tgt : Int))
  | .tableswitch d lo hi offs => decide ((pc : Int) + d = (tgt : Int)) && swTb pc lo hi offs sw
  | .lookupswitch d ps => decide ((pc : Int) + d = (tgt : Int)) && (swL pc ps.toList sw && (ps.toList.zip (ps.toList.drop 1)).all (fun (a, next) => a.1 < next.1))
  | _ => true
def entOK (cn : Cns) (cc : ByteArray) (pc : Nat) (q : Ent) : Bool :=
  decide (decode cc pc = .ok (q.1, q.2.1)) && (decide (lenOf q.1 = 0 ∨ lenOf q.1 = q.2.1) && (cstOK cn q.1 q.2.2.1 && tgtOK pc q.1 q.2.2.2.1 q.2.2.2.2))
def tblOK (cn : Cns) (cc : ByteArray) (T : List (Nat × Ent)) : Bool := T.all (fun q => entOK cn cc q.1 q.2)
theorem look_mem {α : Type} {T : List (Nat × α)} {pc : Nat} {q : α} (h : T.lookup pc = some q) : (pc, q) ∈ T := by
  induction T with
  | nil => cases h
  | cons a T ih =>
    obtain ⟨b, d⟩ := a
    simp only [List.lookup] at h
    split at h
    · rename_i e
      cases h
      rw [eq_of_beq e]
      exact List.mem_cons_self
    · exact List.mem_cons_of_mem _ (ih h)
theorem tblOK_at {cn : Cns} {cc : ByteArray} {T : List (Nat × Ent)} {pc : Nat} {q : Ent} (h : tblOK cn cc T = true) (hq : T.lookup pc = some q) : entOK cn cc pc q = true := by
  have h1 : ∀ a ∈ T, entOK cn cc a.1 a.2 = true := by
    unfold tblOK at h
    intro a ha
    have h2 := (List.all_eq_true.mp h) a ha
    exact h2
  have h3 : (pc, q) ∈ T := look_mem hq
  have h4 := h1 (pc, q) h3
  exact h4
section
variable {p : Program} {l : Launch} {e : Env} {R : Room} {s : State} {m : MethodId} {args : Array Value} {below : List Frame} {meth : Method} {c : Code} {cells slots : Nat} {Q : State → Prop} {D : va_G} {tc : Nat → ClassId} {ad : Nat → Nat} {A : Nat → Prop} {nL : Nat} {own : String} {cc : ByteArray}
variable {ρ : Type} {k : Kont ρ} {κ : Option Value → AW → Option ρ} {res : ρ} {pc pc1 i : Nat} {lo : AL} {st : List Value} {ws : AW} {ca : CAr} {fl : Fls} {cn : Cns} {E : Cal} {rt : Option FieldType} {ks : Nat}
theorem go_call {kd ix : Nat} (hE : ∀ ix kd n F, E.lookup ix = some (kd, n, F) → CallOK R own cc ix kd n F) (X : Cx p R s m args c cells slots D tc ad A nL own cc ca) (hdg : decode cc pc = .ok (insOf kd ix, 3)) (hk : ∀ pc' lo' st' ws', k pc' lo' st' ws' = some res → Go p l e R s m args below meth c cells slots Q D tc ad A nL pc' lo' st' ws') (h : aCall E kd ix k (pc + 3) lo st ws = some res) : Go p l e R s m args below meth c cells slots Q D tc ad A nL pc lo st ws := by
  unfold aCall at h
  split at h
  · rename_i kd' n F hl
    split at h
    · rename_i hc
      obtain ⟨⟨rfl, hn⟩, hcat⟩ := hc
      obtain ⟨r, ws', g1, g2⟩ := hE _ _ _ _ hl X ρ _ ws _ res h (by rw [List.length_reverse, List.length_take]; omega)
      intro H locs ls hR
      obtain ⟨h1, h2, h3, h4, h5⟩ := hR
      have := g2 pc ((st.drop n).map (cvV ad)) H locs ls hdg (by
        unfold catSum at hcat ⊢
        rw [List.map_map]
        have e : ((fun v : Value => v.category) ∘ cvV ad) = (fun v : Value => v.category) := funext fun v => cvV_cat ad v
        rw [e]
        exact hcat) h5.1 h1 h2 h3 (fun H1 locs1 q1 q2 q3 => by
        have := hk _ _ _ _ g1 H1 locs1 ls ⟨q1, q2, q3, h4, h5⟩
        rw [List.map_append] at this
        exact this)
      rw [List.reverse_reverse, ← List.map_append, List.take_append_drop] at this
      exact this
    · cases h
  · cases h
theorem go_ret {v : Option Value} {q : Instr} (X : Cx p R s m args c cells slots D tc ad A nL own cc ca) (hret : ∀ v ws', κ v ws' = some res → Rt p l e R s m args below meth c cells slots Q D tc ad A cc rt v ws') (hdg : decode cc pc = .ok (q, 1)) (hf : RetFit rt v q) (hs : st = v.toList) (h : κ v ws = some res) : Go p l e R s m args below meth c cells slots Q D tc ad A nL pc lo st ws := by
  subst hs
  intro H locs ls hR
  exact hret v ws h H locs ls pc q hR.1 hR.2.1 hR.2.2.1 hf hdg
theorem astep_sound {q : Ent} (hfl : ∀ ix ci fk kd, fl.lookup ix = some (ci, fk, kd) → FlOK own ix ci fk kd) (hcn : ∀ ix v, cn.lookup ix = some v → CnOK own ix v) (hks : ks ≠ 0 → Cond.fieldLink own ks "LeftTillCalled" "KIND_ABOVE" "[I" ∈ WU) (hE : ∀ ix kd n F, E.lookup ix = some (kd, n, F) → CallOK R own cc ix kd n F) (X : Cx p R s m args c cells slots D tc ad A nL own cc ca) (hq : entOK cn cc pc q = true)
    (hk : ∀ pc' lo' st' ws', k pc' lo' st' ws' = some res → Go p l e R s m args below meth c cells slots Q D tc ad A nL pc' lo' st' ws') (hret : ∀ v ws', κ v ws' = some res → Rt p l e R s m args below meth c cells slots Q D tc ad A cc rt v ws') (h : astep fl ks ca E rt k κ pc q lo st ws = some res) : Go p l e R s m args below meth c cells slots Q D tc ad A nL pc lo st ws := by
  obtain ⟨hx, hb, hml, hown, hts⟩ := id X.1
  obtain ⟨ins, len, cv, tgt, sw⟩ := q
  simp only [entOK, Bool.and_eq_true, decide_eq_true_eq] at hq
  obtain ⟨hdg, hlen, hc, ht⟩ := hq
  cases ins with
  | iconst n =>
    rcases hlen with hlen | hlen
    · cases hlen
    · cases hlen
      exact go_push (pc1 := pc + 1) (v := cv) (fun H locs ls rest _ w => by
        simp only [cstOK, decide_eq_true_eq] at hc
        subst hc
        exact lv_iconst hx hb hdg rfl w) (hk _ _ _ _ h)
  | bipush n =>
    rcases hlen with hlen | hlen
    · cases hlen
    · cases hlen
      exact go_push (pc1 := pc + 2) (v := cv) (fun H locs ls rest _ w => by
        simp only [cstOK, decide_eq_true_eq] at hc
        subst hc
        exact lv_bipush hx hb hdg rfl w) (hk _ _ _ _ h)
  | sipush n =>
    rcases hlen with hlen | hlen
    · cases hlen
    · cases hlen
      exact go_push (pc1 := pc + 3) (v := cv) (fun H locs ls rest _ w => by
        simp only [cstOK, decide_eq_true_eq] at hc
        subst hc
        exact lv_sipush hx hb hdg rfl w) (hk _ _ _ _ h)
  | lconst n =>
    rcases hlen with hlen | hlen
    · cases hlen
    · cases hlen
      exact go_push (pc1 := pc + 1) (v := cv) (fun H locs ls rest _ w => by
        simp only [cstOK, decide_eq_true_eq] at hc
        subst hc
        exact lv_lconst hx hb hdg rfl w) (hk _ _ _ _ h)
  | ldc ix =>
    rcases hlen with hlen | hlen
    · cases hlen
    · cases hlen
      exact go_push (pc1 := pc + 2) (v := cv) (fun H locs ls rest hS w => by
        simp only [cstOK, Bool.and_eq_true, decide_eq_true_eq] at hc
        have hv := hcn _ _ hc.1
        cases cv with
        | int x => exact lv_ldc hx hb hown (hts _ hv) hdg w
        | ref a =>
          obtain ⟨rfl, i, i1, rfl, rfl⟩ := hv
          exact va_ldcS hx hb hown (X.2.2.1.2.2.2.1 i i1) hdg w
        | _ => exact absurd hc.2 (by simp)) (hk _ _ _ _ h)
  | ldc_w ix =>
    rcases hlen with hlen | hlen
    · cases hlen
    · cases hlen
      exact go_push (pc1 := pc + 3) (v := cv) (fun H locs ls rest hS w => by
        simp only [cstOK, Bool.and_eq_true, decide_eq_true_eq] at hc
        have hv := hcn _ _ hc.1
        cases cv with
        | int x => exact lv_ldcw hx hb hown (hts _ hv) hdg w
        | _ => exact absurd hc.2 (by simp)) (hk _ _ _ _ h)
  | ldc2_w ix =>
    rcases hlen with hlen | hlen
    · cases hlen
    · cases hlen
      exact go_push (pc1 := pc + 3) (v := cv) (fun H locs ls rest hS w => by
        simp only [cstOK, Bool.and_eq_true, decide_eq_true_eq] at hc
        have hv := hcn _ _ hc.1
        cases cv with
        | long x => exact lv_ldc2 hx hb hown (hts _ hv) hdg w
        | _ => exact absurd hc.2 (by simp)) (hk _ _ _ _ h)
  | iload_n j => rcases hlen with hlen | hlen <;> cases hlen; exact go_ldI (i := j.val) hk (fun H locs ls x rest r w => lv_iload_n hx hb hdg rfl r w) h
  | iload j => rcases hlen with hlen | hlen <;> cases hlen; exact go_ldI (i := j) hk (fun H locs ls x rest r w => lv_iload hx hb hdg r w) h
  | lload_n j => rcases hlen with hlen | hlen <;> cases hlen; exact go_ldL (i := j.val) hk (fun H locs ls x rest r w => lv_lload_n hx hb hdg rfl r w) h
  | lload j => rcases hlen with hlen | hlen <;> cases hlen; exact go_ldL (i := j) hk (fun H locs ls x rest r w => lv_lload hx hb hdg r w) h
  | aload_n j => rcases hlen with hlen | hlen <;> cases hlen; exact go_ldA (i := j.val) hk (fun H locs ls x rest r w => lv_aload_n hx hb hdg rfl r w) h
  | aload j => rcases hlen with hlen | hlen <;> cases hlen; exact go_ldA (i := j) hk (fun H locs ls x rest r w => lv_aload hx hb hdg r w) h
  | istore_n j => rcases hlen with hlen | hlen <;> cases hlen; exact go_stI (i := j.val) hk (fun H locs ls x rest lv lv' a b d w => lv_istore_n hx hb hdg rfl a b d w) h
  | istore j => rcases hlen with hlen | hlen <;> cases hlen; exact go_stI (i := j) hk (fun H locs ls x rest lv lv' a b d w => lv_istore hx hb hdg a b d w) h
  | lstore_n j => rcases hlen with hlen | hlen <;> cases hlen; exact go_stL (i := j.val) hk (fun H locs ls x rest lv lv' a b d w => lv_lstore_n hx hb hdg rfl a b d w) h
  | lstore j => rcases hlen with hlen | hlen <;> cases hlen; exact go_stL (i := j) hk (fun H locs ls x rest lv lv' a b d w => lv_lstore hx hb hdg a b d w) h
  | astore_n j => rcases hlen with hlen | hlen <;> cases hlen; exact go_stA (i := j.val) hk (fun H locs ls x rest lv lv' a b d w => lv_astore_n hx hb hdg rfl a b d w) h
  | astore j => rcases hlen with hlen | hlen <;> cases hlen; exact go_stA (i := j) hk (fun H locs ls x rest lv lv' a b d w => lv_astore hx hb hdg a b d w) h
  | iinc j n =>
    rcases hlen with hlen | hlen <;> cases hlen
    simp only [cstOK, decide_eq_true_eq] at hc
    subst hc
    exact go_inc hx hb rfl hdg hk h
  | iadd => rcases hlen with hlen | hlen <;> cases hlen; exact go_bin hk (fun H locs ls x y rest w => lv_iadd hx hb hdg w) h
  | isub => rcases hlen with hlen | hlen <;> cases hlen; exact go_bin hk (fun H locs ls x y rest w => lv_isub hx hb hdg w) h
  | imul => rcases hlen with hlen | hlen <;> cases hlen; exact go_bin hk (fun H locs ls x y rest w => lv_imul hx hb hdg w) h
  | iand => rcases hlen with hlen | hlen <;> cases hlen; exact go_bin hk (fun H locs ls x y rest w => lv_iand hx hb hdg w) h
  | ior => rcases hlen with hlen | hlen <;> cases hlen; exact go_bin hk (fun H locs ls x y rest w => lv_ior hx hb hdg w) h
  | ishl => rcases hlen with hlen | hlen <;> cases hlen; exact go_bin hk (fun H locs ls x y rest w => lv_ishl hx hb hdg w) h
  | ishr => rcases hlen with hlen | hlen <;> cases hlen; exact go_bin hk (fun H locs ls x y rest w => lv_ishr hx hb hdg w) h
  | iushr => rcases hlen with hlen | hlen <;> cases hlen; exact go_bin hk (fun H locs ls x y rest w => lv_iushr hx hb hdg rfl w) h
  | idiv => rcases hlen with hlen | hlen <;> cases hlen; exact go_div hk (fun H locs ls x y rest z w => lv_idiv hx hb hdg z w) h
  | irem => rcases hlen with hlen | hlen <;> cases hlen; exact go_div hk (fun H locs ls x y rest z w => lv_irem hx hb hdg z w) h
  | ladd => rcases hlen with hlen | hlen <;> cases hlen; exact go_binL hk (fun H locs ls x y rest w => lv_ladd hx hb hdg w) h
  | lmul => rcases hlen with hlen | hlen <;> cases hlen; exact go_binL hk (fun H locs ls x y rest w => lv_lmul hx hb hdg w) h
  | lor => rcases hlen with hlen | hlen <;> cases hlen; exact go_binL hk (fun H locs ls x y rest w => lv_lor hx hb hdg w) h
  | land => rcases hlen with hlen | hlen <;> cases hlen; exact go_binL hk (fun H locs ls x y rest w => lv_land hx hb hdg w) h
  | lshl => rcases hlen with hlen | hlen <;> cases hlen; exact go_lsh hx hb hdg hk h
  | lcmp => rcases hlen with hlen | hlen <;> cases hlen; exact go_cmpL hx hb hdg hk h
  | i2b => rcases hlen with hlen | hlen <;> cases hlen; exact go_un hk (fun H locs ls x rest w => lv_i2b hx hb hdg rfl w) h
  | i2s => rcases hlen with hlen | hlen <;> cases hlen; exact go_un hk (fun H locs ls x rest w => lv_i2s hx hb hdg rfl w) h
  | i2l => rcases hlen with hlen | hlen <;> cases hlen; exact go_i2l hx hb hdg hk h
  | l2i => rcases hlen with hlen | hlen <;> cases hlen; exact go_l2i hx hb hdg hk h
  | dup => rcases hlen with hlen | hlen <;> cases hlen; exact go_dup hx hb hdg hk h
  | pop => rcases hlen with hlen | hlen <;> cases hlen; exact go_pop hx hb hdg hk h
  | dup2 => rcases hlen with hlen | hlen <;> cases hlen; exact go_dup2 hx hb hdg hk h
  | ifCond b off =>
    rcases hlen with hlen | hlen <;> cases hlen
    simp only [tgtOK, decide_eq_true_eq] at ht
    exact go_if hx hb hdg ht hk h
  | if_icmp b off =>
    rcases hlen with hlen | hlen <;> cases hlen
    simp only [tgtOK, decide_eq_true_eq] at ht
    exact go_icmp hx hb hdg ht hk h
  | goto off =>
    rcases hlen with hlen | hlen <;> cases hlen
    simp only [tgtOK, decide_eq_true_eq] at ht
    exact go_goto hx hb hdg ht (hk _ _ _ _ h)
  | tableswitch d lo9 hi9 offs =>
    simp only [tgtOK, Bool.and_eq_true, decide_eq_true_eq] at ht
    exact go_tsw hx hb hdg ht.1 (swTb_spec ht.2) hk h
  | lookupswitch d ps =>
    simp only [tgtOK, Bool.and_eq_true, decide_eq_true_eq] at ht
    exact go_lsw hx hb hdg ht.2.2 ht.1 ht.2.1 hk h
  | iaload => rcases hlen with hlen | hlen <;> cases hlen; exact go_iald X hdg hk h
  | laload => rcases hlen with hlen | hlen <;> cases hlen; exact go_lald X hdg hk h
  | baload => rcases hlen with hlen | hlen <;> cases hlen; exact go_bald X hdg hk h
  | aaload => rcases hlen with hlen | hlen <;> cases hlen; exact go_aald X hdg hk h
  | iastore => rcases hlen with hlen | hlen <;> cases hlen; exact go_iast X hdg hk h
  | lastore => rcases hlen with hlen | hlen <;> cases hlen; exact go_last X hdg hk h
  | bastore => rcases hlen with hlen | hlen <;> cases hlen; exact go_bast X hdg hk h
  | arraylength => rcases hlen with hlen | hlen <;> cases hlen; exact go_len X hdg hk h
  | getfield ix => rcases hlen with hlen | hlen <;> cases hlen; exact go_get hfl X hdg hk h
  | putfield ix => rcases hlen with hlen | hlen <;> cases hlen; exact go_put hfl X hdg hk h
  | getstatic ix =>
    rcases hlen with hlen | hlen <;> cases hlen
    simp only [cstOK, decide_eq_true_eq] at hc
    exact go_gets hks X hc hdg hk h
  | invokevirtual ix => rcases hlen with hlen | hlen <;> cases hlen; exact go_call (kd := 0) hE X hdg hk h
  | invokestatic ix => rcases hlen with hlen | hlen <;> cases hlen; exact go_call (kd := 1) hE X hdg hk h
  | invokespecial ix => rcases hlen with hlen | hlen <;> cases hlen; exact go_call (kd := 2) hE X hdg hk h
  | ireturn =>
    rcases hlen with hlen | hlen <;> cases hlen
    replace h : aRetI rt κ st ws = some res := h
    unfold aRetI at h
    split at h
    · rename_i x
      exact go_ret X hret hdg (v := some (.int x)) (Or.inl ⟨rfl, x, rfl, Or.inl rfl⟩) rfl h
    · rename_i x
      split at h
      · rename_i hv
        exact go_ret X hret hdg (v := some (.int x)) (Or.inl ⟨rfl, x, rfl, Or.inr ⟨rfl, hv⟩⟩) rfl h
      · cases h
    · cases h
  | lreturn =>
    rcases hlen with hlen | hlen <;> cases hlen
    replace h : aRetL rt κ st ws = some res := h
    unfold aRetL at h
    split at h
    · rename_i x
      exact go_ret X hret hdg (v := some (.long x)) (Or.inr (Or.inl ⟨rfl, x, rfl, rfl⟩)) rfl h
    · cases h
  | areturn =>
    rcases hlen with hlen | hlen <;> cases hlen
    replace h : aRetA rt κ st ws = some res := h
    unfold aRetA at h
    split at h
    · rename_i x n
      exact go_ret X hret hdg (v := some (.ref x)) (Or.inr (Or.inr (Or.inl ⟨rfl, x, n, rfl, rfl⟩))) rfl h
    · cases h
  | return_ =>
    rcases hlen with hlen | hlen <;> cases hlen
    replace h : aRetV rt κ st ws = some res := h
    unfold aRetV at h
    split at h
    · exact go_ret X hret hdg (v := none) (Or.inr (Or.inr (Or.inr ⟨rfl, rfl, rfl⟩))) rfl h
    · cases h
  | _ => exact absurd h (fun z => by cases z)
theorem runG_sound {T : List (Nat × Ent)} {hd : List (Nat × List Bool)} {back : Kont ρ} (hfl : ∀ ix ci fk kd, fl.lookup ix = some (ci, fk, kd) → FlOK own ix ci fk kd) (hcn : ∀ ix v, cn.lookup ix = some v → CnOK own ix v) (hks : ks ≠ 0 → Cond.fieldLink own ks "LeftTillCalled" "KIND_ABOVE" "[I" ∈ WU) (hE : ∀ ix kd n F, E.lookup ix = some (kd, n, F) → CallOK R own cc ix kd n F) (X : Cx p R s m args c cells slots D tc ad A nL own cc ca) (hT : tblOK cn cc T = true)
    (hret : ∀ v ws', κ v ws' = some res → Rt p l e R s m args below meth c cells slots Q D tc ad A cc rt v ws') (hback : ∀ pc lo st ws, back pc lo st ws = some res → Go p l e R s m args below meth c cells slots Q D tc ad A nL pc lo st ws) : ∀ (g pc : Nat) (lo : AL) (st : List Value) (ws : AW), runG T hd fl ks ca E rt κ back g pc lo st ws = some res → Go p l e R s m args below meth c cells slots Q D tc ad A nL pc lo st ws := by
  intro g
  induction g with
  | zero => intro pc lo st ws h; cases h
  | succ g ih =>
    intro pc lo st ws h
    unfold runG at h
    split at h
    · cases h
    · rename_i q hq
      refine astep_sound hfl hcn hks hE X (tblOK_at hT hq) (fun pc' lo' st' ws' h' => ?_) hret h
      split at h'
      · exact go_mask (hback _ _ _ _ h')
      · exact ih _ _ _ _ h'
theorem run_sound {T : List (Nat × Ent)} {hd : List (Nat × List Bool)} (hfl : ∀ ix ci fk kd, fl.lookup ix = some (ci, fk, kd) → FlOK own ix ci fk kd) (hcn : ∀ ix v, cn.lookup ix = some v → CnOK own ix v) (hks : ks ≠ 0 → Cond.fieldLink own ks "LeftTillCalled" "KIND_ABOVE" "[I" ∈ WU) (hE : ∀ ix kd n F, E.lookup ix = some (kd, n, F) → CallOK R own cc ix kd n F) (X : Cx p R s m args c cells slots D tc ad A nL own cc ca) (hT : tblOK cn cc T = true)
    (hret : ∀ v ws', κ v ws' = some res → Rt p l e R s m args below meth c cells slots Q D tc ad A cc rt v ws') : ∀ (n pc : Nat) (lo : AL) (st : List Value) (ws : AW), run T hd fl ks ca E rt κ n pc lo st ws = some res → Go p l e R s m args below meth c cells slots Q D tc ad A nL pc lo st ws := by
  intro n
  induction n with
  | zero => intro pc lo st ws h; cases h
  | succ n ih =>
    intro pc lo st ws h
    exact runG_sound hfl hcn hks hE X hT hret ih _ _ _ _ _ h
end
end
section
-- CONTRACTS: a method, its arguments and its world before and behind
def caG : CAr := fun a => if a = 1100 then some (6, kaF) else none
def MPre (D : va_G) (tc : Nat → ClassId) (ad : Nat → Nat) (as : List Value) (ws : AW) (sz : Nat) : Array Value → State → Prop :=
  va_Pc (as.map (cvV ad)) (fun U => U.heap.size = sz ∧ va_P D vwCl (cvW tc ad ws) U.heap ∧ va_K D vwCl (tyL tc) U ∧ va_D (fun _ => True) (cvW tc ad ws) ∧ Glob ad (va_A (cvW tc ad ws) sz) U U.heap)
def MPost (D : va_G) (tc : Nat → ClassId) (ad : Nat → Nat) (ws : AW) (sz : Nat) (v : Option Value) (ws' : AW) : Array Value → State → Outcome → State → Prop :=
  fun _ st oc t => (oc = .returned (v.map (cvV ad)) ∧ va_P D vwCl (cvW tc ad ws') t.heap) ∧ va_F (va_A (cvW tc ad ws) sz) st t
def Doc (y : MethodName) (rm : Room) (cc : ByteArray) (maxL : Nat) (rt : Option FieldType) (as : List Value) (ws : AW) (v : Option Value) (ws' : AW) : Prop :=
  ws'.length = ws.length ∧ ∀ (l : Launch) (D : va_G) (tc : Nat → ClassId) (ad : Nat → Nat) (sz : Nat), Met l y (.code y cc maxL rt :: WU) rm (MPre D tc ad as ws sz) (MPost D tc ad ws sz v ws') 0 0 (va_A (cvW tc ad ws) sz)
def aLo : List Value → AL
  | [] => []
  | v :: r => if v.category = 2 then some v :: none :: aLo r else some v :: aLo r
def loIn (n : Nat) (as : List Value) : AL := aLo as ++ List.replicate (n - (aLo as).length) none
theorem aLo_at {ad : Nat → Nat} : ∀ (as : List Value) (i j : Nat) (v : Value), (aLo as)[j]? = some (some v) → (i + j, cvV ad v) ∈ lv_args i (as.map (cvV ad))
  | [], i, j, v, h => by simp [aLo] at h
  | a :: r, i, j, v, h => by
    show _ ∈ (i, cvV ad a) :: lv_args (if (cvV ad a).category = 2 then i + 2 else i + 1) (r.map (cvV ad))
    rw [cvV_cat]
    unfold aLo at h
    by_cases e : a.category = 2
    · rw [if_pos e] at h ⊢
      match j, h with
      | 0, h => cases h; exact List.mem_cons_self
      | 1, h => cases h
      | j + 2, h =>
        have := aLo_at (ad := ad) r (i + 2) j v h
        rw [show i + (j + 2) = i + 2 + j by omega]
        exact List.mem_cons_of_mem _ this
    · rw [if_neg e] at h ⊢
      match j, h with
      | 0, h => cases h; exact List.mem_cons_self
      | j + 1, h =>
        have := aLo_at (ad := ad) r (i + 1) j v h
        rw [show i + (j + 1) = i + 1 + j by omega]
        exact List.mem_cons_of_mem _ this
theorem aLo_len {ad : Nat → Nat} : ∀ (as : List Value), (lg_sl (as.map (cvV ad))).length = (aLo as).length
  | [] => rfl
  | a :: r => by
    have ih := aLo_len (ad := ad) r
    have e : lg_sl ((a :: r).map (cvV ad)) = (if (cvV ad a).category = 2 then [Slot.val (cvV ad a), Slot.second] else [Slot.val (cvV ad a)]) ++ lg_sl (r.map (cvV ad)) := rfl
    have e2 : aLo (a :: r) = if a.category = 2 then some a :: none :: aLo r else some a :: aLo r := rfl
    rw [e, List.length_append, ih, cvV_cat, e2]
    by_cases h : a.category = 2
    · rw [if_pos h, if_pos h]
      simp only [List.length_cons, List.length_nil]
      omega
    · rw [if_neg h, if_neg h]
      simp only [List.length_cons, List.length_nil]
      omega
theorem loIn_has {ad : Nat → Nat} {n : Nat} {as : List Value} (h : (aLo as).length ≤ n) : lv_has ((lg_sl (as.map (cvV ad)) ++ List.replicate (n - (lg_sl (as.map (cvV ad))).length) Slot.unset).toArray) n (cvL ad (loIn n as)) := by
  have hl := lv_entry (as.map (cvV ad)) (n := n) (by rw [aLo_len]; exact h)
  refine ⟨hl.1, hl.2.1, fun q hq => hl.2.2 q ?_⟩
  obtain ⟨v, h1, h2⟩ := cvL_mem.mp hq
  have h3 : (aLo as)[q.1]? = some (some v) := by
    unfold loIn at h1
    by_cases e : q.1 < (aLo as).length
    · rw [List.getElem?_append_left e] at h1; exact h1
    · rw [List.getElem?_append_right (Nat.not_lt.mp e), List.getElem?_replicate] at h1
      split at h1 <;> cases h1
  have h4 := aLo_at (ad := ad) as 0 q.1 v h3
  rw [Nat.zero_add, ← h2] at h4
  exact h4
theorem loIn_len {n : Nat} {as : List Value} (h : (aLo as).length ≤ n) : (loIn n as).length = n := by
  unfold loIn
  rw [List.length_append, List.length_replicate]
  omega
theorem doc_of_run {y : MethodName} {rm : Room} {cc : ByteArray} {maxL : Nat} {rt : Option FieldType} {T : List (Nat × Ent)} {hd : List (Nat × List Bool)} {fl : Fls} {cn : Cns} {ks : Nat} {E : Cal} {ρ : Type} {κ : Option Value → AW → Option ρ} {res : ρ} {n : Nat} {as : List Value} {ws : AW} {v0 : Option Value} {ws0 : AW}
    (hy : plainName y.cls = true) (hrm : rm.cells = 0 ∧ rm.slots = 0) (hfl : ∀ ix ci fk kd, fl.lookup ix = some (ci, fk, kd) → FlOK y.cls ix ci fk kd) (hcn : ∀ ix v, cn.lookup ix = some v → CnOK y.cls ix v) (hks : ks ≠ 0 → Cond.fieldLink y.cls ks "LeftTillCalled" "KIND_ABOVE" "[I" ∈ WU) (hE : ∀ ix kd n F, E.lookup ix = some (kd, n, F) → CallOK rm y.cls cc ix kd n F) (hT : tblOK cn cc T = true) (hlen : (aLo as).length ≤ maxL)
    (hκ : ∀ v ws', κ v ws' = some res → v = v0 ∧ ws' = ws0) (hws : ws0.length = ws.length) (h : run T hd fl ks caG E rt κ n 0 (loIn maxL as) [] ws = some res) : Doc y rm cc maxL rt as ws v0 ws0 := by
  refine ⟨hws, fun l D tc ad sz => ?_⟩
  refine Met.ofW (cc := cc) (maxL := maxL) (ret := rt) hy rfl ?_
  intro p e s m args below meth c s₁ B hml hv
  obtain ⟨rfl, hsz, hP, hK, hD0, hG⟩ := hv
  have hx := B.exec
  have hb := B.bytes
  have hr := B.returns
  have hts := atoms_spec (ws := .code y cc maxL rt :: WU) B.pre
  have hown : s.vm.findClass y.cls = some m.cls := findClass_of_methodNamed B.named
  have hlocks := B.notSynchronized
  subst hsz
  have hD := hD0.self (sz := s.heap.size)
  rw [lg_entry_eq]
  have X : Cx p rm s m (as.map (cvV ad)).toArray c 0 0 D tc ad (va_A (cvW tc ad ws) s.heap.size) maxL y.cls cc caG := ⟨⟨hx, hb, hml, hown, fun w hw => hts w (List.mem_cons_of_mem _ hw)⟩, hK, hG, fun q hq => Or.inr hq, ⟨Nat.zero_le _, Nat.zero_le _⟩, fun a n f ha => by
    unfold caG at ha
    split at ha
    · rename_i e1
      cases ha
      subst e1
      exact hG.2.2.1
    · cases ha⟩
  refine run_sound hfl hcn hks hE X hT (fun v ws' hv => ?_) n 0 (loIn maxL as) [] ws h s.heap [] _ ⟨hP, hD, va_S.rf, loIn_len hlen, loIn_has hlen⟩
  obtain ⟨rfl, rfl⟩ := hκ v ws' hv
  intro H locs ls pc q q1 q2 q3 q4 q5
  have fin : ∀ t : State, t.heap = H → s.WarmedH t.vm → MPost D tc ad ws s.heap.size v ws' (as.map (cvV ad)).toArray s (.returned (v.map (cvV ad))) t := fun t ht hW => ⟨⟨rfl, by rw [ht]; exact q1⟩, q3.F ht⟩
  rcases q4 with ⟨rfl, x, rfl, e⟩ | ⟨rfl, x, rfl, e⟩ | ⟨rfl, x, nm, rfl, e⟩ | ⟨rfl, rfl, e⟩
  · rcases e with rfl | ⟨rfl, e⟩
    · exact W.iret hx hb hr fin q3.2.2 q5
    · exact W.zret (ty := .boolean) hx hb hr (by rcases e with rfl | rfl <;> decide) fin q3.2.2 q5
  · subst e
    exact W.lret hx hb hr fin q3.2.2 q5
  · subst e
    exact W.aret hx hb hr (Or.inl ⟨nm, rfl⟩) (Or.inr ⟨_, rfl⟩) fin q3.2.2 q5
  · subst e
    exact W.vret hx hb hr fin q3.2.2 q5
-- renaming of places: the callee's cells among the caller's
def plIx : List Nat → Nat → Nat → Option Nat
  | [], _, _ => none
  | b :: r, a, j => if a = b then some j else plIx r a (j + 1)
def unV (pl : List Nat) (v : Value) : Option Value := match v with
  | .ref a => if 1000 ≤ a then some (.ref a) else (match plIx pl a 0 with
    | some j => some (.ref j)
    | none => none)
  | v => some v
def rnV (pl : List Nat) (v : Value) : Value := match v with
  | .ref k => if 1000 ≤ k then .ref k else .ref (pl.getD k 0)
  | v => v
def unL (pl : List Nat) : List Value → Option (List Value)
  | [] => some []
  | v :: r => match unV pl v, unL pl r with
    | some a, some b => some (a :: b)
    | _, _ => none
def unC (pl : List Nat) (q : ACell) : Option ACell := match q with
  | .inl a => some (.inl a)
  | .inr (ci, fs) => match unL pl fs with
    | some g => some (.inr (ci, g))
    | none => none
def rnC (pl : List Nat) (q : ACell) : ACell := match q with
  | .inl a => .inl a
  | .inr (ci, fs) => .inr (ci, fs.map (rnV pl))
def subW (pl : List Nat) (ws : AW) : List Nat → Option AW
  | [] => some []
  | a :: r => match ws[a]? with
    | some q => (match unC pl q, subW pl ws r with
      | some b, some w => some (b :: w)
      | _, _ => none)
    | none => none
def putW (pl : List Nat) : List Nat → AW → AW → AW
  | a :: r, q :: w, ws => putW pl r w (ws.set a (rnC pl q))
  | _, _, ws => ws
theorem plIx_spec : ∀ (pl : List Nat) (a j0 j : Nat), plIx pl a j0 = some j → j0 ≤ j ∧ j < j0 + pl.length ∧ pl[j - j0]? = some a
  | [], a, j0, j, h => by cases h
  | b :: r, a, j0, j, h => by
    unfold plIx at h
    split at h
    · rename_i e
      cases h
      exact ⟨Nat.le_refl _, by simp, by simp [e]⟩
    · obtain ⟨h1, h2, h3⟩ := plIx_spec r a (j0 + 1) j h
      refine ⟨by omega, by rw [List.length_cons]; omega, ?_⟩
      rw [show j - j0 = (j - (j0 + 1)) + 1 by omega, List.getElem?_cons_succ]
      exact h3
/-- the callee's addresses -/
def adOf (ad : Nat → Nat) (pl : List Nat) : Nat → Nat := fun k => if 1000 ≤ k then ad k else ad (pl.getD k 0)
theorem unV_spec {ad : Nat → Nat} {pl : List Nat} (hpl : pl.length ≤ 1000) {v v' : Value} (h : unV pl v = some v') : cvV (adOf ad pl) v' = cvV ad v := by
  unfold unV at h
  split at h
  · rename_i a
    split at h
    · rename_i e
      cases h
      show Value.ref (adOf ad pl a) = .ref (ad a)
      unfold adOf
      rw [if_pos e]
    · split at h
      · rename_i j hj
        cases h
        obtain ⟨h1, h2, h3⟩ := plIx_spec pl a 0 j hj
        show Value.ref (adOf ad pl j) = .ref (ad a)
        unfold adOf
        rw [if_neg (by omega), List.getD_eq_getElem?_getD]
        simp only [Nat.sub_zero] at h3
        rw [h3]
        rfl
      · cases h
  · cases h
    cases v <;> first | rfl | (rename_i hh; exact absurd rfl (hh _))
theorem rnV_cv (ad : Nat → Nat) (pl : List Nat) (v : Value) : cvV ad (rnV pl v) = cvV (adOf ad pl) v := by
  cases v with
  | ref k =>
    show cvV ad (if 1000 ≤ k then .ref k else .ref (pl.getD k 0)) = .ref (if 1000 ≤ k then ad k else ad (pl.getD k 0))
    split <;> rfl
  | _ => rfl
theorem unL_spec {ad : Nat → Nat} {pl : List Nat} (hpl : pl.length ≤ 1000) : ∀ {vs vs' : List Value}, unL pl vs = some vs' → vs'.map (cvV (adOf ad pl)) = vs.map (cvV ad)
  | [], vs', h => by cases h; rfl
  | v :: r, vs', h => by
    unfold unL at h
    split at h
    · rename_i a b h1 h2
      cases h
      rw [List.map_cons, List.map_cons, unV_spec hpl h1, unL_spec hpl h2]
    · cases h
theorem cvC_eq {tc : Nat → ClassId} {ad ad' : Nat → Nat} {ci : Nat} {fs gs : List Value} (h : gs.map (cvV ad') = fs.map (cvV ad)) : cvC tc ad' (.inr (ci, gs)) = cvC tc ad (.inr (ci, fs)) := by
  have hl : gs.length = fs.length := by
    have := congrArg List.length h
    simpa using this
  by_cases e : ci = 99
  · subst e
    show Sum.inl (tc 3, gs.length, _) = Sum.inl (tc 3, fs.length, _)
    rw [h, hl]
  · rw [cvC_obj tc ad' gs e, cvC_obj tc ad fs e, h]
theorem unC_spec {tc : Nat → ClassId} {ad : Nat → Nat} {pl : List Nat} (hpl : pl.length ≤ 1000) {q q' : ACell} (h : unC pl q = some q') : cvC tc (adOf ad pl) q' = cvC tc ad q := by
  unfold unC at h
  split at h
  · cases h
    rfl
  · rename_i ci fs
    split at h
    · rename_i g hg
      cases h
      exact cvC_eq (unL_spec hpl hg)
    · cases h
theorem subW_spec {tc : Nat → ClassId} {ad : Nat → Nat} {pl : List Nat} (hpl : pl.length ≤ 1000) {ws : AW} : ∀ (r : List Nat) (wc : AW), subW pl ws r = some wc → wc.length = r.length ∧ ∀ (i a : Nat), r[i]? = some a → ∃ q q', ws[a]? = some q ∧ wc[i]? = some q' ∧ cvC tc (adOf ad pl) q' = cvC tc ad q
  | [], wc, h => by cases h; exact ⟨rfl, fun i a h => by simp at h⟩
  | b :: r, wc, h => by
    unfold subW at h
    split at h
    · rename_i q hq
      split at h
      · rename_i b' w h1 h2
        cases h
        obtain ⟨g1, g2⟩ := subW_spec (tc := tc) (ad := ad) hpl r w h2
        refine ⟨by rw [List.length_cons, List.length_cons, g1], fun i a hi => ?_⟩
        cases i with
        | zero =>
          cases hi
          exact ⟨q, b', hq, rfl, unC_spec hpl h1⟩
        | succ i => exact g2 i a hi
      · cases h
    · cases h
end
section
section
variable {p : Program} {l : Launch} {e : Env} {R : Room} {s : State} {m : MethodId} {args : Array Value} {below : List Frame} {meth : Method} {c : Code} {cells slots : Nat} {Q : State → Prop} {D : va_G} {tc : Nat → ClassId} {ad : Nat → Nat} {A : Nat → Prop} {nL : Nat} {own : String} {cc : ByteArray}
/-- a call whose end is told by MPost -/
theorem va_callM {pc : Nat} {ls : Array Slot} {st0 rest : List Value} {H : Heap} {locs : List Loc} {Qa : State → Outcome → State → Prop} {free : Addr → Prop} {A1 : Nat → Prop} {v0 : Option Value} {B : State → Prop} (hr : va_Run p l e R s m args below meth c H locs cells slots 0 0 (F0 m pc ls st0) rest Qa free) (hQ : ∀ st o t, Qa st o t → (o = .returned v0 ∧ B t) ∧ va_F A1 st t) (hS : va_S A s.heap H locs) (hA : ∀ q, q < H.size → A1 q → A q) (hf : ∀ q, free q → A q)
    (kk : ∀ (t : State) (H1 : Heap) (locs1 : List Loc), t.heap = H1 → B t → (∀ q : Nat, q < H.size → ¬ A1 q → H1[q]? = H[q]?) → va_S A s.heap H1 locs1 → W p l e R s m args below meth c H1 locs1 cells slots Q (F0 m (pc + 3) ls (v0.toList ++ rest))) : W p l e R s m args below meth c H locs cells slots Q (F0 m pc ls st0) := by
  intro T hT X
  obtain ⟨v, st₀, t, T', L, h0, X', hL, e1, e2, hq, st⟩ := hr T hT X
  obtain ⟨⟨hv, hb⟩, hz, hk⟩ := hQ _ _ _ hq
  cases hv
  rw [h0] at hz hk
  obtain ⟨t2, a1, b1⟩ := kk t T'.heap (locs ++ L) e1.symm hb (fun q h1 h2 => by rw [e1]; exact hk q h1 h2)
    ⟨Nat.le_trans hS.1 (by rw [e1]; exact hz), fun q h1 h2 => by rw [e1, hk q (Nat.lt_of_lt_of_le h1 hS.1) (fun z => h2 (hA q (Nat.lt_of_lt_of_le h1 hS.1) z))]; exact hS.2.1 q h1 h2, fun q hq => by
      rcases List.mem_append.mp hq with h | h
      · exact hS.2.2 q h
      · exact hf _ (hL q h)⟩ T' rfl X'
  exact ⟨t2, st t2 a1, b1⟩
theorem mpre_blind {D : va_G} {tc : Nat → ClassId} {ad : Nat → Nat} {as : List Value} {ws : AW} {sz : Nat} : FrameBlind (MPre D tc ad as ws sz) := by
  intro a U g mk q
  obtain ⟨q0, q1, qP, qK, qD, qG⟩ := q
  exact ⟨q0, q1, qP, va_K.moved (u := U) (U := U.calling g mk a) (Vm.Alike.refl U.vm) qK, qD, qG.same (U := U.calling g mk a) rfl⟩
/-- what a call needs of the tables, by its kind -/
def CallWd (R : Room) (own : String) (ix kd n : Nat) (y : MethodName) (rm : Room) (cc' : ByteArray) (maxL : Nat) (rt : Option FieldType) (ci : Nat) : Prop :=
  (rm.cells = 0 ∧ rm.slots = 0 ∧ rm.frames + 1 ≤ R.frames ∧ 8 + (maxL + 11) + rm.locals ≤ R.locals) ∧ Cond.code y cc' maxL rt ∈ WU ∧ Cond.methodLink own ix y ∈ WU ∧ Cond.initialized y.cls ∈ WU ∧ (y.cls ≠ "java/lang/invoke/MethodHandle" ∧ y.cls ≠ "java/lang/invoke/VarHandle") ∧
  ((kd = 0 ∧ Cond.instanceMethod y ∈ WU ∧ Cond.selects y.cls y y ∈ WU ∧ (∃ q : vw_C, vwCl[ci]? = some q ∧ q.1 = y.cls) ∧ ∃ n', n = n' + 1 ∧ (parseMethodDescriptor y.desc).map (fun d => d.parameters.length) = some n') ∨ (kd = 1 ∧ Cond.static y ∈ WU ∧ (parseMethodDescriptor y.desc).map (fun d => d.parameters.length) = some n))
theorem good_cons {w : Cond} {ws : List Cond} (h : w ∈ WU) (hs : GoodIn WU ws) : GoodIn WU (w :: ws) := fun u hu => by
  rcases List.mem_cons.mp hu with e | e
  · rw [e]; exact wu_good w h
  · exact hs u e
/-- a call: the callee's cells wc lie at the places pl of the caller's ws -/
theorem call_core {y : MethodName} {rm : Room} {cc' : ByteArray} {maxL ix kd n ci : Nat} {rt : Option FieldType} {as as' : List Value} {ws wc wc' ws' : AW} {v : Option Value} {ca : CAr} {ad' : Nat → Nat} {pl : List Nat}
    (X : Cx p R s m args c cells slots D tc ad A nL own cc ca) (hw : CallWd R own ix kd n y rm cc' maxL rt ci) (hd : Doc y rm cc' maxL rt as' wc v wc') (hrv : kd = 0 → ∃ r fs as1, as' = .ref r :: as1 ∧ wc[r]? = some (.inr (ci, fs)))
    (hn : as.length = n) (has : as'.map (cvV ad') = as.map (cvV ad)) (hge : ∀ k, 1000 ≤ k → ad' k = ad k)
    (hpl : pl.map (fun i => (cvW tc ad ws)[i]?) = (cvW tc ad' wc).map some)
    (hbk : ∀ (H H1 : Heap), va_P D vwCl (cvW tc ad ws) H → va_D A (cvW tc ad ws) → va_P D vwCl (cvW tc ad' wc') H1 → (∀ q : Nat, q < H.size → ¬ va_A (cvW tc ad' wc) H.size q → H1[q]? = H[q]?) → va_P D vwCl (cvW tc ad ws') H1) (hlen : ws'.length = ws.length) (hdis : va_nd pl = true) :
    ∀ (pc : Nat) (rest : List Value) (H : Heap) (locs : List Loc) (ls : Array Slot), decode cc pc = .ok (insOf kd ix, 3) → catSum rest ≤ 8 → ls.size = nL → va_P D vwCl (cvW tc ad ws) H → va_D A (cvW tc ad ws) → va_S A s.heap H locs →
      (∀ (H1 : Heap) (locs1 : List Loc), va_P D vwCl (cvW tc ad ws') H1 → va_D A (cvW tc ad ws') → va_S A s.heap H1 locs1 → W p l e R s m args below meth c H1 locs1 cells slots Q (F0 m (pc + 3) ls ((v.map (cvV ad')).toList ++ rest))) → W p l e R s m args below meth c H locs cells slots Q (F0 m pc ls (as.reverse.map (cvV ad) ++ rest)) := by
  intro pc rest H locs ls hdg hcat hls hP hD hS kk
  obtain ⟨⟨hx, hb, hml, hown, hts⟩, hK, hG, hA, hcs, -⟩ := X
  obtain ⟨⟨r1, r2, r3, r4⟩, w1, w2, w3, w4, w5⟩ := hw
  have hFc := va_free (wc := cvW tc ad' wc) hD hS hA pl hpl
  have hfm : pl.filterMap (fun i => (cvW tc ad ws)[i]?) = cvW tc ad' wc := by
    have h9 := congrArg (List.filterMap id) hpl
    rw [List.filterMap_map, List.filterMap_map] at h9
    have e9 : (id ∘ some : Nat × va_E → Option (Nat × va_E)) = some := rfl
    rw [e9, List.filterMap_some] at h9
    exact h9
  have hPc : va_P D vwCl (cvW tc ad' wc) H := hP.sub pl hfm
  have hDc : va_D A (cvW tc ad' wc) := by first | exact hD.sub pl hdis hpl | exact hD.sub pl hdis hfm
  have hpre : ∀ U : State, U.heap = H → s.WarmedH U.vm → MPre D tc ad' as' wc H.size (as.map (cvV ad)).toArray U := by
    intro U hU hW
    refine ⟨by rw [has], by rw [hU], by rw [hU]; exact hPc, va_K.moved hW.alike hK, hDc.weaken (fun _ _ _ _ => trivial), ?_⟩
    rw [hU]
    exact hG.go hW (fun a h1 h2 => hS.2.1 a h1 h2) hFc hge
  have hws : GoodIn WU (.code y cc' maxL rt :: WU) := good_cons w1 wu_good
  have fin : ∀ (t : State) (H1 : Heap) (locs1 : List Loc), t.heap = H1 → va_P D vwCl (cvW tc ad' wc') t.heap → (∀ q : Nat, q < H.size → ¬ va_A (cvW tc ad' wc) H.size q → H1[q]? = H[q]?) → va_S A s.heap H1 locs1 → W p l e R s m args below meth c H1 locs1 cells slots Q (F0 m (pc + 3) ls ((v.map (cvV ad')).toList ++ rest)) := by
    intro t H1 locs1 e1 q1 q2 q3
    rw [e1] at q1
    exact kk H1 locs1 (hbk H H1 hP hD q1 q2) (cvD_same hlen hD) q3
  rcases w5 with ⟨rfl, i1, i2, ⟨qc, i3, i4⟩, n', i5, i6⟩ | ⟨rfl, i1, i2⟩
  · obtain ⟨r, fs, as1, e1, e2⟩ := hrv rfl
    subst e1
    cases as with
    | nil => simp at has
    | cons a0 as0 =>
      rw [List.map_cons, List.map_cons] at has
      rw [List.map_cons] at hpre
      injection has with g1 g2
      have g3 : cvV ad a0 = .ref (ad' r) := g1.symm
      rw [g3] at hpre
      have hrun := va_runV (g := F0 m pc ls ((as0.map (cvV ad)).reverse ++ .ref (ad' r) :: rest)) (b := ad' r) (As := as0.map (cvV ad)) (rest := rest) (C := y.cls) (index := ix) (cells := cells) (slots := slots) (locs := locs) (below := below) (meth := meth) (e := e) (R := R) ⟨hx, hb, hml, hown, hts⟩ (hd.2 l D tc ad' H.size) (cwV n' hts (good_cons w2 (good_cons i1 (good_cons i2 (good_cons w3 hws)))) rfl r1 r2 ⟨rfl, w4.1, w4.2, i6⟩ ⟨r3, r4⟩) ⟨mpre_blind, by
        have := va_recv hK hPc (ci := ci) i3 (q0 := r) (fs := fs.map (cvV ad')) (by rw [cvW_at e2, cvC_obj tc ad' fs (cl_ne i3)])
        rw [i4] at this
        exact this, hpre⟩ rfl (by rw [List.length_map]; rw [List.length_cons] at hn; omega) hls rfl (by show 2 * 0 + _ ≤ 8; rw [Nat.mul_zero, Nat.zero_add]; exact hcat) hdg hcs
      have := va_callM (A1 := va_A (cvW tc ad' wc) H.size) (v0 := v.map (cvV ad')) (B := fun t => va_P D vwCl (cvW tc ad' wc') t.heap) hrun (fun st o t h => h) hS (fun q _ h => hFc q h) hFc fin
      rw [List.reverse_cons, List.map_append, List.append_assoc, List.map_reverse]
      show W p l e R s m args below meth c H locs cells slots Q (F0 m pc ls ((as0.map (cvV ad)).reverse ++ ([cvV ad a0] ++ rest)))
      rw [g3]
      exact this
  · have hrun := va_runS (g := F0 m pc ls ((as.map (cvV ad)).reverse ++ rest)) (As := as.map (cvV ad)) (rest := rest) (index := ix) (cells := cells) (slots := slots) (locs := locs) (below := below) (meth := meth) (e := e) (R := R) ⟨hx, hb, hml, hown, hts⟩ (hd.2 l D tc ad' H.size) (va_cwS n hts (good_cons w2 (good_cons i1 (good_cons w3 hws))) rfl r1 r2 ⟨w4.1, w4.2, i2⟩ ⟨r3, r4⟩) ⟨mpre_blind, hpre⟩ rfl (by rw [List.length_map]; exact hn) hls rfl (by show 2 * 0 + _ ≤ 8; rw [Nat.mul_zero, Nat.zero_add]; exact hcat) hdg hcs
    have := va_callM (A1 := va_A (cvW tc ad' wc) H.size) (v0 := v.map (cvV ad')) (B := fun t => va_P D vwCl (cvW tc ad' wc') t.heap) hrun (fun st o t h => h) hS (fun q _ h => hFc q h) hFc fin
    rw [List.map_reverse]
    exact this
end
end
section
def CoreOK (y : MethodName) (rm : Room) (cc' : ByteArray) (maxL : Nat) (rt : Option FieldType) (kd ci : Nat) (G : Callee) : Prop :=
  ∀ (ρ : Type) (as : List Value) (wc : AW) (κ : Option Value → AW → Option ρ) (res : ρ), G ρ as wc κ = some res → ∃ (v : Option Value) (wc' : AW), κ v wc' = some res ∧ Doc y rm cc' maxL rt as wc v wc' ∧ (kd = 0 → ∃ r fs as1, as = .ref r :: as1 ∧ wc[r]? = some (.inr (ci, fs)))
theorem nd_range : ∀ n, va_nd (List.range' 0 n) = true := by
  have h : ∀ n a, va_nd (List.range' a n) = true := by
    intro n
    induction n with
    | zero => intro a; rfl
    | succ n ih =>
      intro a
      rw [List.range'_succ]
      simp only [va_nd, Bool.and_eq_true, decide_eq_true_eq]
      refine ⟨fun h => ?_, ih (a + 1)⟩
      have := List.mem_range'.mp h
      obtain ⟨i, h1, h2⟩ := this
      omega
  exact fun n => h n 0
theorem map_range (w : va_W) : (List.range' 0 w.length).map (fun i => w[i]?) = w.map some := by
  apply List.ext_getElem?
  intro i
  rw [List.getElem?_map, List.getElem?_map]
  by_cases h : i < w.length
  · rw [List.getElem?_range' (by exact h), List.getElem?_eq_getElem h]
    simp [h]
  · rw [List.getElem?_eq_none (Nat.not_lt.mp h), List.getElem?_eq_none (by rw [List.length_range']; exact Nat.not_lt.mp h)]
    rfl
theorem callOK_same {R : Room} {own : String} {cc : ByteArray} {ix kd n ci maxL : Nat} {y : MethodName} {rm : Room} {cc' : ByteArray} {rt : Option FieldType} {G : Callee} (hw : CallWd R own ix kd n y rm cc' maxL rt ci) (hG : CoreOK y rm cc' maxL rt kd ci G) : CallOK R own cc ix kd n G := by
  intro p l e s m args below meth c cells slots Q D tc ad A nL ca X ρ as ws κ res h hn
  obtain ⟨v, wc', g1, g2, g3⟩ := hG ρ as ws κ res h
  refine ⟨v, wc', g1, fun pc rest H locs ls hdg hcat hls hP hD hS kk => ?_⟩
  refine call_core X hw g2 g3 hn (ad' := ad) rfl (fun _ _ => rfl) (pl := List.range' 0 (cvW tc ad ws).length) (map_range _) (fun H H1 _ _ q _ => q) g2.1 (nd_range _) pc rest H locs ls hdg hcat hls hP hD hS (fun H1 locs1 q1 q2 q3 => ?_)
  have e : (v.map (cvV ad)).toList = v.toList.map (cvV ad) := by cases v <;> rfl
  rw [e]
  exact kk H1 locs1 q1 q2 q3
theorem rnC_cv {tc : Nat → ClassId} {ad : Nat → Nat} {pl : List Nat} {q : ACell} : cvC tc ad (rnC pl q) = cvC tc (adOf ad pl) q := by
  cases q with
  | inl a => rfl
  | inr o =>
    obtain ⟨ci, fs⟩ := o
    refine cvC_eq (gs := fs.map (rnV pl)) (fs := fs) ?_
    rw [List.map_map]
    have e : (cvV ad ∘ rnV pl) = cvV (adOf ad pl) := funext fun v => rnV_cv ad pl v
    rw [e]
theorem putW_spec {pl : List Nat} : ∀ (r : List Nat) (w ws : AW), va_nd r = true → r.length = w.length → (∀ a ∈ r, a < ws.length) → (putW pl r w ws).length = ws.length ∧ (∀ (i a : Nat) (q : ACell), r[i]? = some a → w[i]? = some q → (putW pl r w ws)[a]? = some (rnC pl q)) ∧ ∀ k, k ∉ r → (putW pl r w ws)[k]? = ws[k]?
  | [], [], ws, _, _, _ => ⟨rfl, fun i a q h => by simp at h, fun k _ => rfl⟩
  | [], _ :: _, ws, _, h, _ => by cases h
  | _ :: _, [], ws, _, h, _ => by cases h
  | a :: r, q :: w, ws, hn, hl, hlt => by
    simp only [va_nd, Bool.and_eq_true, decide_eq_true_eq] at hn
    obtain ⟨h1, h2, h3⟩ := putW_spec (pl := pl) r w (ws.set a (rnC pl q)) hn.2 (by simpa using hl) (fun b hb => by rw [List.length_set]; exact hlt b (List.mem_cons_of_mem _ hb))
    refine ⟨by show (putW pl r w (ws.set a (rnC pl q))).length = _; rw [h1, List.length_set], fun i b u hi hu => ?_, fun k hk => ?_⟩
    · show (putW pl r w (ws.set a (rnC pl q)))[b]? = _
      cases i with
      | zero =>
        cases hi
        cases hu
        rw [h3 a hn.1, List.getElem?_set, if_pos rfl, if_pos (hlt a List.mem_cons_self)]
      | succ i => exact h2 i b u hi hu
    · show (putW pl r w (ws.set a (rnC pl q)))[k]? = _
      rw [h3 k (fun z => hk (List.mem_cons_of_mem _ z)), List.getElem?_set, if_neg (fun z => hk (by rw [← z]; exact List.mem_cons_self))]
/-- the callee G over the cells at the places that 'fp' reads off the arguments -/
def liftF (fp : List Value → List Nat) (G : Callee) : Callee := fun ρ as ws κ => match unL (fp as) as, subW (fp as) ws (fp as) with
  | some as', some wc => if va_nd (fp as) = true ∧ (fp as).length ≤ 1000 then G ρ as' wc (fun v wc' => κ (v.map (rnV (fp as))) (putW (fp as) (fp as) wc' ws)) else none
  | _, _ => none
theorem callOK_lift {R : Room} {own : String} {cc : ByteArray} {ix kd n ci maxL : Nat} {y : MethodName} {rm : Room} {cc' : ByteArray} {rt : Option FieldType} {G : Callee} {fp : List Value → List Nat} (hw : CallWd R own ix kd n y rm cc' maxL rt ci) (hG : CoreOK y rm cc' maxL rt kd ci G) : CallOK R own cc ix kd n (liftF fp G) := by
  intro p l e s m args below meth c cells slots Q D tc ad A nL ca X ρ as ws κ res h hn
  unfold liftF at h
  split at h
  · rename_i as' wc ha hs
    split at h
    · rename_i hc
      obtain ⟨hnd, hle⟩ := hc
      obtain ⟨v, wc', g1, g2, g3⟩ := hG ρ as' wc _ res h
      generalize hpl : fp as = pl at ha hs hnd hle g1
      obtain ⟨s1, s2⟩ := subW_spec (tc := tc) (ad := ad) hle pl wc hs
      have hlt : ∀ a ∈ pl, a < ws.length := by
        intro a ha
        obtain ⟨i, hi⟩ := List.mem_iff_getElem?.mp ha
        obtain ⟨q, q', u1, -⟩ := s2 i a hi
        exact (List.getElem?_eq_some_iff.mp u1).1
      obtain ⟨p1, p2, p3⟩ := putW_spec (pl := pl) pl wc' ws hnd (by rw [g2.1, s1]) hlt
      refine ⟨v.map (rnV pl), putW pl pl wc' ws, g1, fun pc rest H locs ls hdg hcat hls hP hD hS kk => ?_⟩
      have hadr : ∀ (i a : Nat), pl[i]? = some a → adOf ad pl i = ad a := by
        intro i a hi
        have : i < pl.length := (List.getElem?_eq_some_iff.mp hi).1
        unfold adOf
        rw [if_neg (by omega), List.getD_eq_getElem?_getD, hi]
        rfl
      have hmap : pl.map (fun i => (cvW tc ad ws)[i]?) = (cvW tc (adOf ad pl) wc).map some := by
        apply List.ext_getElem?
        intro i
        rw [List.getElem?_map, List.getElem?_map]
        cases hi : pl[i]? with
        | none =>
          have : wc.length ≤ i := by rw [s1]; exact List.getElem?_eq_none_iff.mp hi
          rw [List.getElem?_eq_none (by rw [cvW_len]; exact this)]
          rfl
        | some a =>
          obtain ⟨q, q', u1, u2, u3⟩ := s2 i a hi
          rw [Option.map_some, cvW_at u1, cvW_at u2, u3, hadr i a hi]
          rfl
      refine call_core X hw g2 g3 hn (ad' := adOf ad pl) (unL_spec hle ha) (fun k hk => by unfold adOf; rw [if_pos hk]) (pl := pl) hmap (fun H H1 qP qD q1 q2 => ?_) p1 hnd pc rest H locs ls hdg hcat hls hP hD hS (fun H1 locs1 q1 q2 q3 => ?_)
      · intro k u hu
        by_cases hk : k ∈ pl
        · obtain ⟨i, hi⟩ := List.mem_iff_getElem?.mp hk
          have hi2 : i < wc'.length := by rw [g2.1, s1]; exact (List.getElem?_eq_some_iff.mp hi).1
          have hw' : wc'[i]? = some wc'[i] := List.getElem?_eq_getElem hi2
          have := cvW_at (tc := tc) (ad := ad) (p2 i k _ hi hw')
          rw [hu] at this
          cases this
          have h7 := q1 i _ (cvW_at hw')
          rw [hadr i k hi] at h7
          rw [rnC_cv]
          exact h7
        · have hk2 : k < ws.length := by
            have := (List.getElem?_eq_some_iff.mp hu).1
            rw [cvW_len, p1] at this
            exact this
          have hws : ws[k]? = some ws[k] := List.getElem?_eq_getElem hk2
          have h8 := p3 k hk
          rw [hws] at h8
          have := cvW_at (tc := tc) (ad := ad) h8
          rw [hu] at this
          cases this
          have h9 := qP k _ (cvW_at hws)
          refine h9.kept (q2 _ h9.lt ?_)
          rintro (⟨j, e9, hj⟩ | hj)
          · have hj2 : j < wc.length := by
              have := (List.getElem?_eq_some_iff.mp hj).1
              rw [cvW_len] at this
              exact this
            have hj3 : j < pl.length := by rw [← s1]; exact hj2
            have hj4 : pl[j]? = some pl[j] := List.getElem?_eq_getElem hj3
            obtain ⟨q, q', u1, u2, u3⟩ := s2 j _ hj4
            have u4 := cvW_at (tc := tc) (ad := adOf ad pl) u2
            rw [hj] at u4
            injection u4 with u5
            injection u5 with u6 u7
            have := qD.1 k pl[j] _ _ (cvW_at hws) (cvW_at u1) (u6.trans (hadr j _ hj4))
            exact hk (by rw [this]; exact List.mem_of_getElem? hj4)
          · have := h9.lt
            omega
      · have e9 : (v.map (cvV (adOf ad pl))).toList = (v.map (rnV pl)).toList.map (cvV ad) := by
          cases v with
          | none => rfl
          | some v => show [cvV (adOf ad pl) v] = [cvV ad (rnV pl v)]; rw [rnV_cv]
        rw [e9]
        exact kk H1 locs1 q1 q2 q3
    · cases h
  · cases h
end
section
def fMin : Callee := fun _ as ws κ => match as with
  | [.int x, .int y] => κ (some (.int (if y < x then y else x))) ws
  | _ => none
def fMax : Callee := fun _ as ws κ => match as with
  | [.int x, .int y] => κ (some (.int (if x < y then y else x))) ws
  | _ => none
def fCpy : Callee := fun _ as ws κ => match as with
  | [.ref a0, .int sp, .ref a1, .int dp, .int n] => (match ws[a0]?, ws[a1]? with
    | some (.inl (0, n0, .inl f)), some (.inl (0, n1, .inl g)) => if (sp < 0 ∨ dp < 0 ∨ n < 0) ∨ (n0 < sp.toNatClampNeg + n.toNatClampNeg ∨ n1 < dp.toNatClampNeg + n.toNatClampNeg) then none else κ none (ws.set a1 (.inl (0, n1, .inl (va_cpy f g sp.toNatClampNeg dp.toNatClampNeg n.toNatClampNeg))))
    | some (.inl (1, n0, .inr (.inl f))), some (.inl (1, n1, .inr (.inl g))) => if (sp < 0 ∨ dp < 0 ∨ n < 0) ∨ (n0 < sp.toNatClampNeg + n.toNatClampNeg ∨ n1 < dp.toNatClampNeg + n.toNatClampNeg) then none else κ none (ws.set a1 (.inl (1, n1, .inr (.inl (va_cpy f g sp.toNatClampNeg dp.toNatClampNeg n.toNatClampNeg)))))
    | _, _ => none)
  | _ => none
theorem callOK_min {R : Room} {own : String} {cc : ByteArray} {ix : Nat} (h1 : Cond.methodLink own ix Lib.Math.min.name ∈ WU) (h2 : Cond.static Lib.Math.min.name ∈ WU) (h3 : Cond.initialized "java/lang/Math" ∈ WU) (h4 : Cond.code Lib.Math.min.name Lib.Math.min.code 2 (some .int) ∈ WU) (hR : 1 ≤ R.frames ∧ 21 ≤ R.locals) : CallOK R own cc ix 1 2 fMin := by
  intro p l e s m args below meth c cells slots Q D tc ad A nL ca X ρ as ws κ res h hn
  obtain ⟨⟨hx, hb, hml, hown, hts⟩, hK, hG, hA, hcs, -⟩ := X
  unfold fMin at h
  split at h
  · rename_i x y
    refine ⟨_, _, h, fun pc rest H locs ls hdg hcat hls hP hD hS kk => ?_⟩
    unfold catSum at hcat
    exact va_mmin (rest := rest) hx hb (hml.trans hls.symm) hown (hts _ h1) (hts _ h2) (hts _ h3) (hts _ h4) hR.1 (by omega) hcs.1 hcs.2 hdg (kk H locs hP hD hS)
  · cases h
theorem callOK_max {R : Room} {own : String} {cc : ByteArray} {ix : Nat} (h1 : Cond.methodLink own ix Lib.Math.max.name ∈ WU) (h2 : Cond.static Lib.Math.max.name ∈ WU) (h3 : Cond.initialized "java/lang/Math" ∈ WU) (h4 : Cond.code Lib.Math.max.name Lib.Math.max.code 2 (some .int) ∈ WU) (hR : 1 ≤ R.frames ∧ 21 ≤ R.locals) : CallOK R own cc ix 1 2 fMax := by
  intro p l e s m args below meth c cells slots Q D tc ad A nL ca X ρ as ws κ res h hn
  obtain ⟨⟨hx, hb, hml, hown, hts⟩, hK, hG, hA, hcs, -⟩ := X
  unfold fMax at h
  split at h
  · rename_i x y
    refine ⟨_, _, h, fun pc rest H locs ls hdg hcat hls hP hD hS kk => ?_⟩
    unfold catSum at hcat
    exact va_mmax (rest := rest) hx hb (hml.trans hls.symm) hown (hts _ h1) (hts _ h2) (hts _ h3) (hts _ h4) hR.1 (by omega) hcs.1 hcs.2 hdg (kk H locs hP hD hS)
  · cases h
theorem callOK_cpy {R : Room} {own : String} {cc : ByteArray} {ix : Nat} (h1 : Cond.methodLink own ix arraycopyName ∈ WU) (h2 : Cond.native arraycopyName ∈ WU) (h3 : Cond.static arraycopyName ∈ WU) (h4 : Cond.initialized "java/lang/System" ∈ WU) (hR : 1 ≤ R.frames ∧ 8 + (nativeFrameWords "java/lang/System" "arraycopy" 5 + 11) ≤ R.locals) : CallOK R own cc ix 1 5 fCpy := by
  intro p l e s m args below meth c cells slots Q D tc ad A nL ca X ρ as ws κ res h hn
  obtain ⟨⟨hx, hb, hml, hown, hts⟩, hK, hG, hA, hcs, -⟩ := X
  unfold fCpy at h
  split at h
  · rename_i a0 sp a1 dp n
    split at h
    · rename_i n0 f n1 g e0 e1
      split at h
      · cases h
      · rename_i hc
        have c1 : ¬ sp < 0 := fun z => hc (Or.inl (Or.inl z))
        have c2 : ¬ dp < 0 := fun z => hc (Or.inl (Or.inr (Or.inl z)))
        have c3 : ¬ n < 0 := fun z => hc (Or.inl (Or.inr (Or.inr z)))
        have c4 : sp.toNatClampNeg + n.toNatClampNeg ≤ n0 := Nat.not_lt.mp fun z => hc (Or.inr (Or.inl z))
        have c5 : dp.toNatClampNeg + n.toNatClampNeg ≤ n1 := Nat.not_lt.mp fun z => hc (Or.inr (Or.inr z))
        refine ⟨_, _, h, fun pc rest H locs ls hdg hcat hls hP hD hS kk => ?_⟩
        unfold catSum at hcat
        refine va_copyi (rest := rest) hx hb (hml.trans hls.symm) hown (hts _ h1) (hts _ h2) (hts _ h3) (hts _ h4) hK hP hD hS a0 a1 0 0 (cvW_at e0) (cvW_at e1) rfl rfl rfl c1 c2 c3 c4 c5 (fun _ _ => rfl) hR.1 (by omega) hdg (fun H1 locs1 q1 q2 q3 => kk H1 locs1 ?_ ?_ q3)
        · rw [cvW_set]; exact q1
        · rw [cvW_set]; exact q2
    · rename_i n0 f n1 g e0 e1
      split at h
      · cases h
      · rename_i hc
        have c1 : ¬ sp < 0 := fun z => hc (Or.inl (Or.inl z))
        have c2 : ¬ dp < 0 := fun z => hc (Or.inl (Or.inr (Or.inl z)))
        have c3 : ¬ n < 0 := fun z => hc (Or.inl (Or.inr (Or.inr z)))
        have c4 : sp.toNatClampNeg + n.toNatClampNeg ≤ n0 := Nat.not_lt.mp fun z => hc (Or.inr (Or.inl z))
        have c5 : dp.toNatClampNeg + n.toNatClampNeg ≤ n1 := Nat.not_lt.mp fun z => hc (Or.inr (Or.inr z))
        refine ⟨_, _, h, fun pc rest H locs ls hdg hcat hls hP hD hS kk => ?_⟩
        unfold catSum at hcat
        refine va_copyl (rest := rest) hx hb (hml.trans hls.symm) hown (hts _ h1) (hts _ h2) (hts _ h3) (hts _ h4) hK hP hD hS a0 a1 1 1 (cvW_at e0) (cvW_at e1) rfl rfl rfl c1 c2 c3 c4 c5 (fun _ _ => rfl) hR.1 (by omega) hdg (fun H1 locs1 q1 q2 q3 => kk H1 locs1 ?_ ?_ q3)
        · rw [cvW_set]; exact q1
        · rw [cvW_set]; exact q2
    · cases h
  · cases h
/-- a contract out of a typed function: un and pic read and write the callee's world, ua and ar its arguments, pq what comes back -/
theorem core_of {α σ τ : Type} {y : MethodName} {rm : Room} {cc' : ByteArray} {maxL : Nat} {rt : Option FieldType} {kd ci : Nat} (un : AW → Option σ) (pic : σ → AW) (hun : ∀ wc u, un wc = some u → wc = pic u) (ua : List Value → Option α) (ar : α → List Value) (hua : ∀ as a, ua as = some a → as = ar a) (pv : τ → Option Value) (pw : σ → τ → AW) (f : α → σ → Option τ)
    (hd : ∀ a u q, f a u = some q → Doc y rm cc' maxL rt (ar a) (pic u) (pv q) (pw u q)) (hr : kd = 0 → ∀ a u, ∃ r fs as1, ar a = .ref r :: as1 ∧ (pic u)[r]? = some (.inr (ci, fs))) :
    CoreOK y rm cc' maxL rt kd ci (fun _ as wc κ => match ua as, un wc with
      | some a, some u => (f a u).bind (fun q => κ (pv q) (pw u q))
      | _, _ => none) := by
  intro ρ as wc κ res h
  simp only at h
  split at h
  · rename_i a u ha hu
    rw [hua as a ha, hun wc u hu]
    cases hq : f a u with
    | none => rw [hq] at h; cases h
    | some q =>
      rw [hq] at h
      exact ⟨_, _, h, hd a u q hq, fun e => hr e a u⟩
  · cases h
end
