section
-- ===== PART A: goes FIRST, ahead of the names: the tables' words, and 'selects' of the private methods out of them =====
/-- a private method of a class that the tables say can be made, by its rows of tables_1 -/
def lw_okq (q : MethodName × Nat) : Prop := (q.1.cls ≠ "java/lang/invoke/MethodHandle" ∧ q.1.cls ≠ "java/lang/invoke/VarHandle") ∧ Cond.instantiable q.1.cls q.2 ∈ tables_1 ∧ Cond.privateMethod q.1 ∈ tables_1 ∧ Cond.instanceMethod q.1 ∈ tables_1
theorem lw_p0 : lw_okq (⟨"BirthTenth", "isPerson", "(I)Z"⟩, 11) := ⟨⟨by decide +kernel, by decide +kernel⟩, List.mem_of_getElem? (i := 16) (by decide +kernel), List.mem_of_getElem? (i := 308) (by decide +kernel), List.mem_of_getElem? (i := 309) (by decide +kernel)⟩
theorem lw_p1 : lw_okq (⟨"BirthTenth$Days", "beginYear", "()V"⟩, 9) := ⟨⟨by decide +kernel, by decide +kernel⟩, List.mem_of_getElem? (i := 200) (by decide +kernel), List.mem_of_getElem? (i := 317) (by decide +kernel), List.mem_of_getElem? (i := 318) (by decide +kernel)⟩
theorem lw_p2 : lw_okq (⟨"BirthTenth$Days", "wanted", "(I)I"⟩, 9) := ⟨⟨by decide +kernel, by decide +kernel⟩, List.mem_of_getElem? (i := 200) (by decide +kernel), List.mem_of_getElem? (i := 321) (by decide +kernel), List.mem_of_getElem? (i := 322) (by decide +kernel)⟩
theorem lw_p3 : lw_okq (⟨"BirthTenth$Days", "freeDay", "(III)I"⟩, 9) := ⟨⟨by decide +kernel, by decide +kernel⟩, List.mem_of_getElem? (i := 200) (by decide +kernel), List.mem_of_getElem? (i := 325) (by decide +kernel), List.mem_of_getElem? (i := 326) (by decide +kernel)⟩
theorem lw_p4 : lw_okq (⟨"BirthTenth$Days", "allows", "(LBirthTenth$Town;IIII)Z"⟩, 9) := ⟨⟨by decide +kernel, by decide +kernel⟩, List.mem_of_getElem? (i := 200) (by decide +kernel), List.mem_of_getElem? (i := 337) (by decide +kernel), List.mem_of_getElem? (i := 338) (by decide +kernel)⟩
theorem lw_p5 : lw_okq (⟨"BirthTenth$Days", "valueOf", "(III)I"⟩, 9) := ⟨⟨by decide +kernel, by decide +kernel⟩, List.mem_of_getElem? (i := 200) (by decide +kernel), List.mem_of_getElem? (i := 341) (by decide +kernel), List.mem_of_getElem? (i := 342) (by decide +kernel)⟩
theorem lw_p6 : lw_okq (⟨"BirthTenth$Text", "clause", "(LBirthTenth$Town;)V"⟩, 4) := ⟨⟨by decide +kernel, by decide +kernel⟩, List.mem_of_getElem? (i := 24) (by decide +kernel), List.mem_of_getElem? (i := 370) (by decide +kernel), List.mem_of_getElem? (i := 371) (by decide +kernel)⟩
theorem lw_p7 : lw_okq (⟨"BirthTenth$Text", "next", "()I"⟩, 4) := ⟨⟨by decide +kernel, by decide +kernel⟩, List.mem_of_getElem? (i := 24) (by decide +kernel), List.mem_of_getElem? (i := 374) (by decide +kernel), List.mem_of_getElem? (i := 375) (by decide +kernel)⟩
theorem lw_p8 : lw_okq (⟨"BirthTenth$Text", "word", "(Ljava/lang/String;)V"⟩, 4) := ⟨⟨by decide +kernel, by decide +kernel⟩, List.mem_of_getElem? (i := 24) (by decide +kernel), List.mem_of_getElem? (i := 379) (by decide +kernel), List.mem_of_getElem? (i := 380) (by decide +kernel)⟩
theorem lw_p9 : lw_okq (⟨"BirthTenth$Text", "number", "()I"⟩, 4) := ⟨⟨by decide +kernel, by decide +kernel⟩, List.mem_of_getElem? (i := 24) (by decide +kernel), List.mem_of_getElem? (i := 431) (by decide +kernel), List.mem_of_getElem? (i := 432) (by decide +kernel)⟩
theorem lw_p10 : lw_okq (⟨"BirthTenth$Text", "either", "(LBirthTenth$Town;I)V"⟩, 4) := ⟨⟨by decide +kernel, by decide +kernel⟩, List.mem_of_getElem? (i := 24) (by decide +kernel), List.mem_of_getElem? (i := 436) (by decide +kernel), List.mem_of_getElem? (i := 437) (by decide +kernel)⟩
theorem lw_p11 : lw_okq (⟨"BirthTenth$Text", "one", "(LBirthTenth$Town;I)V"⟩, 4) := ⟨⟨by decide +kernel, by decide +kernel⟩, List.mem_of_getElem? (i := 24) (by decide +kernel), List.mem_of_getElem? (i := 440) (by decide +kernel), List.mem_of_getElem? (i := 441) (by decide +kernel)⟩
theorem lw_p12 : lw_okq (⟨"BirthTenth$Text", "relation", "()I"⟩, 4) := ⟨⟨by decide +kernel, by decide +kernel⟩, List.mem_of_getElem? (i := 24) (by decide +kernel), List.mem_of_getElem? (i := 447) (by decide +kernel), List.mem_of_getElem? (i := 448) (by decide +kernel)⟩
theorem lw_p13 : lw_okq (⟨"BirthTenth", "bornOn", "(I)I"⟩, 11) := ⟨⟨by decide +kernel, by decide +kernel⟩, List.mem_of_getElem? (i := 16) (by decide +kernel), List.mem_of_getElem? (i := 473) (by decide +kernel), List.mem_of_getElem? (i := 474) (by decide +kernel)⟩
theorem lw_p14 : lw_okq (⟨"BirthTenth", "sellingOn", "(I)I"⟩, 11) := ⟨⟨by decide +kernel, by decide +kernel⟩, List.mem_of_getElem? (i := 16) (by decide +kernel), List.mem_of_getElem? (i := 477) (by decide +kernel), List.mem_of_getElem? (i := 478) (by decide +kernel)⟩
theorem lw_p15 : lw_okq (⟨"BirthTenth", "allPurses", "()I"⟩, 11) := ⟨⟨by decide +kernel, by decide +kernel⟩, List.mem_of_getElem? (i := 16) (by decide +kernel), List.mem_of_getElem? (i := 481) (by decide +kernel), List.mem_of_getElem? (i := 482) (by decide +kernel)⟩
def lw_privs_1 : List (MethodName × Nat) := [(⟨"BirthTenth", "isPerson", "(I)Z"⟩, 11), (⟨"BirthTenth$Days", "beginYear", "()V"⟩, 9), (⟨"BirthTenth$Days", "wanted", "(I)I"⟩, 9), (⟨"BirthTenth$Days", "freeDay", "(III)I"⟩, 9), (⟨"BirthTenth$Days", "allows", "(LBirthTenth$Town;IIII)Z"⟩, 9), (⟨"BirthTenth$Days", "valueOf", "(III)I"⟩, 9), (⟨"BirthTenth$Text", "clause", "(LBirthTenth$Town;)V"⟩, 4), (⟨"BirthTenth$Text", "next", "()I"⟩, 4), (⟨"BirthTenth$Text", "word", "(Ljava/lang/String;)V"⟩, 4), (⟨"BirthTenth$Text", "number", "()I"⟩, 4), (⟨"BirthTenth$Text", "either", "(LBirthTenth$Town;I)V"⟩, 4), (⟨"BirthTenth$Text", "one", "(LBirthTenth$Town;I)V"⟩, 4), (⟨"BirthTenth$Text", "relation", "()I"⟩, 4), (⟨"BirthTenth", "bornOn", "(I)I"⟩, 11), (⟨"BirthTenth", "sellingOn", "(I)I"⟩, 11), (⟨"BirthTenth", "allPurses", "()I"⟩, 11)]
theorem lw_r1 : ∀ q ∈ lw_privs_1, lw_okq q := List.forall_mem_cons.mpr ⟨lw_p0, List.forall_mem_cons.mpr ⟨lw_p1, List.forall_mem_cons.mpr ⟨lw_p2, List.forall_mem_cons.mpr ⟨lw_p3, List.forall_mem_cons.mpr ⟨lw_p4, List.forall_mem_cons.mpr ⟨lw_p5, List.forall_mem_cons.mpr ⟨lw_p6, List.forall_mem_cons.mpr ⟨lw_p7, List.forall_mem_cons.mpr ⟨lw_p8, List.forall_mem_cons.mpr ⟨lw_p9, List.forall_mem_cons.mpr ⟨lw_p10, List.forall_mem_cons.mpr ⟨lw_p11, List.forall_mem_cons.mpr ⟨lw_p12, List.forall_mem_cons.mpr ⟨lw_p13, List.forall_mem_cons.mpr ⟨lw_p14, List.forall_mem_cons.mpr ⟨lw_p15, fun _ h => absurd h List.not_mem_nil⟩⟩⟩⟩⟩⟩⟩⟩⟩⟩⟩⟩⟩⟩⟩⟩
theorem lw_p16 : lw_okq (⟨"BirthTenth$Days", "sell", "()V"⟩, 9) := ⟨⟨by decide +kernel, by decide +kernel⟩, List.mem_of_getElem? (i := 200) (by decide +kernel), List.mem_of_getElem? (i := 493) (by decide +kernel), List.mem_of_getElem? (i := 494) (by decide +kernel)⟩
theorem lw_p17 : lw_okq (⟨"BirthTenth$Days", "share", "()V"⟩, 9) := ⟨⟨by decide +kernel, by decide +kernel⟩, List.mem_of_getElem? (i := 200) (by decide +kernel), List.mem_of_getElem? (i := 499) (by decide +kernel), List.mem_of_getElem? (i := 500) (by decide +kernel)⟩
theorem lw_p18 : lw_okq (⟨"BirthTenth", "goYear", "(LBirthTenth$State;I)V"⟩, 11) := ⟨⟨by decide +kernel, by decide +kernel⟩, List.mem_of_getElem? (i := 16) (by decide +kernel), List.mem_of_getElem? (i := 512) (by decide +kernel), List.mem_of_getElem? (i := 513) (by decide +kernel)⟩
theorem lw_p19 : lw_okq (⟨"BirthTenth", "bestOf", "([III)I"⟩, 11) := ⟨⟨by decide +kernel, by decide +kernel⟩, List.mem_of_getElem? (i := 16) (by decide +kernel), List.mem_of_getElem? (i := 527) (by decide +kernel), List.mem_of_getElem? (i := 528) (by decide +kernel)⟩
theorem lw_p20 : lw_okq (⟨"BirthTenth", "tryDays", "([III)V"⟩, 11) := ⟨⟨by decide +kernel, by decide +kernel⟩, List.mem_of_getElem? (i := 16) (by decide +kernel), List.mem_of_getElem? (i := 531) (by decide +kernel), List.mem_of_getElem? (i := 532) (by decide +kernel)⟩
theorem lw_p21 : lw_okq (⟨"BirthTenth", "firstMost", "()I"⟩, 11) := ⟨⟨by decide +kernel, by decide +kernel⟩, List.mem_of_getElem? (i := 16) (by decide +kernel), List.mem_of_getElem? (i := 535) (by decide +kernel), List.mem_of_getElem? (i := 536) (by decide +kernel)⟩
theorem lw_p22 : lw_okq (⟨"BirthTenth", "betterPlan", "(II)I"⟩, 11) := ⟨⟨by decide +kernel, by decide +kernel⟩, List.mem_of_getElem? (i := 16) (by decide +kernel), List.mem_of_getElem? (i := 559) (by decide +kernel), List.mem_of_getElem? (i := 560) (by decide +kernel)⟩
theorem lw_p23 : lw_okq (⟨"BirthTenth", "gainOfOthers", "(LBirthTenth$State;I)I"⟩, 11) := ⟨⟨by decide +kernel, by decide +kernel⟩, List.mem_of_getElem? (i := 16) (by decide +kernel), List.mem_of_getElem? (i := 571) (by decide +kernel), List.mem_of_getElem? (i := 572) (by decide +kernel)⟩
theorem lw_p24 : lw_okq (⟨"BirthTenth$Acts", "sells", "(II)I"⟩, 5) := ⟨⟨by decide +kernel, by decide +kernel⟩, List.mem_of_getElem? (i := 50) (by decide +kernel), List.mem_of_getElem? (i := 633) (by decide +kernel), List.mem_of_getElem? (i := 634) (by decide +kernel)⟩
theorem lw_p25 : lw_okq (⟨"BirthTenth$Acts", "runs", "(I)V"⟩, 5) := ⟨⟨by decide +kernel, by decide +kernel⟩, List.mem_of_getElem? (i := 50) (by decide +kernel), List.mem_of_getElem? (i := 637) (by decide +kernel), List.mem_of_getElem? (i := 638) (by decide +kernel)⟩
theorem lw_p26 : lw_okq (⟨"BirthTenth$Acts", "gives", "(II)I"⟩, 5) := ⟨⟨by decide +kernel, by decide +kernel⟩, List.mem_of_getElem? (i := 50) (by decide +kernel), List.mem_of_getElem? (i := 641) (by decide +kernel), List.mem_of_getElem? (i := 642) (by decide +kernel)⟩
theorem lw_p27 : lw_okq (⟨"BirthTenth$Acts", "tells", "(II)I"⟩, 5) := ⟨⟨by decide +kernel, by decide +kernel⟩, List.mem_of_getElem? (i := 50) (by decide +kernel), List.mem_of_getElem? (i := 645) (by decide +kernel), List.mem_of_getElem? (i := 646) (by decide +kernel)⟩
theorem lw_p28 : lw_okq (⟨"BirthTenthModel", "in", "(III)Z"⟩, 60) := ⟨⟨by decide +kernel, by decide +kernel⟩, List.mem_of_getElem? (i := 692) (by decide +kernel), List.mem_of_getElem? (i := 883) (by decide +kernel), List.mem_of_getElem? (i := 884) (by decide +kernel)⟩
theorem lw_p29 : lw_okq (⟨"BirthTenthModel", "isDay", "(I)Z"⟩, 60) := ⟨⟨by decide +kernel, by decide +kernel⟩, List.mem_of_getElem? (i := 692) (by decide +kernel), List.mem_of_getElem? (i := 887) (by decide +kernel), List.mem_of_getElem? (i := 888) (by decide +kernel)⟩
theorem lw_p30 : lw_okq (⟨"BirthTenthModel", "lay", "(IIIII)V"⟩, 60) := ⟨⟨by decide +kernel, by decide +kernel⟩, List.mem_of_getElem? (i := 692) (by decide +kernel), List.mem_of_getElem? (i := 891) (by decide +kernel), List.mem_of_getElem? (i := 892) (by decide +kernel)⟩
theorem lw_p31 : lw_okq (⟨"BirthTenthModel", "isPerson", "(I)Z"⟩, 60) := ⟨⟨by decide +kernel, by decide +kernel⟩, List.mem_of_getElem? (i := 692) (by decide +kernel), List.mem_of_getElem? (i := 899) (by decide +kernel), List.mem_of_getElem? (i := 900) (by decide +kernel)⟩
def lw_privs_2 : List (MethodName × Nat) := [(⟨"BirthTenth$Days", "sell", "()V"⟩, 9), (⟨"BirthTenth$Days", "share", "()V"⟩, 9), (⟨"BirthTenth", "goYear", "(LBirthTenth$State;I)V"⟩, 11), (⟨"BirthTenth", "bestOf", "([III)I"⟩, 11), (⟨"BirthTenth", "tryDays", "([III)V"⟩, 11), (⟨"BirthTenth", "firstMost", "()I"⟩, 11), (⟨"BirthTenth", "betterPlan", "(II)I"⟩, 11), (⟨"BirthTenth", "gainOfOthers", "(LBirthTenth$State;I)I"⟩, 11), (⟨"BirthTenth$Acts", "sells", "(II)I"⟩, 5), (⟨"BirthTenth$Acts", "runs", "(I)V"⟩, 5), (⟨"BirthTenth$Acts", "gives", "(II)I"⟩, 5), (⟨"BirthTenth$Acts", "tells", "(II)I"⟩, 5), (⟨"BirthTenthModel", "in", "(III)Z"⟩, 60), (⟨"BirthTenthModel", "isDay", "(I)Z"⟩, 60), (⟨"BirthTenthModel", "lay", "(IIIII)V"⟩, 60), (⟨"BirthTenthModel", "isPerson", "(I)Z"⟩, 60)]
theorem lw_r2 : ∀ q ∈ lw_privs_2, lw_okq q := List.forall_mem_cons.mpr ⟨lw_p16, List.forall_mem_cons.mpr ⟨lw_p17, List.forall_mem_cons.mpr ⟨lw_p18, List.forall_mem_cons.mpr ⟨lw_p19, List.forall_mem_cons.mpr ⟨lw_p20, List.forall_mem_cons.mpr ⟨lw_p21, List.forall_mem_cons.mpr ⟨lw_p22, List.forall_mem_cons.mpr ⟨lw_p23, List.forall_mem_cons.mpr ⟨lw_p24, List.forall_mem_cons.mpr ⟨lw_p25, List.forall_mem_cons.mpr ⟨lw_p26, List.forall_mem_cons.mpr ⟨lw_p27, List.forall_mem_cons.mpr ⟨lw_p28, List.forall_mem_cons.mpr ⟨lw_p29, List.forall_mem_cons.mpr ⟨lw_p30, List.forall_mem_cons.mpr ⟨lw_p31, fun _ h => absurd h List.not_mem_nil⟩⟩⟩⟩⟩⟩⟩⟩⟩⟩⟩⟩⟩⟩⟩⟩
theorem lw_p32 : lw_okq (⟨"BirthTenthModel", "goesText", "(I)Z"⟩, 60) := ⟨⟨by decide +kernel, by decide +kernel⟩, List.mem_of_getElem? (i := 692) (by decide +kernel), List.mem_of_getElem? (i := 919) (by decide +kernel), List.mem_of_getElem? (i := 920) (by decide +kernel)⟩
theorem lw_p33 : lw_okq (⟨"BirthTenthModel", "takesClause", "(I)Z"⟩, 60) := ⟨⟨by decide +kernel, by decide +kernel⟩, List.mem_of_getElem? (i := 692) (by decide +kernel), List.mem_of_getElem? (i := 923) (by decide +kernel), List.mem_of_getElem? (i := 924) (by decide +kernel)⟩
theorem lw_p34 : lw_okq (⟨"BirthTenthModel", "takesHead", "(I)Z"⟩, 60) := ⟨⟨by decide +kernel, by decide +kernel⟩, List.mem_of_getElem? (i := 692) (by decide +kernel), List.mem_of_getElem? (i := 927) (by decide +kernel), List.mem_of_getElem? (i := 928) (by decide +kernel)⟩
theorem lw_p35 : lw_okq (⟨"BirthTenthModel", "next", "()I"⟩, 60) := ⟨⟨by decide +kernel, by decide +kernel⟩, List.mem_of_getElem? (i := 692) (by decide +kernel), List.mem_of_getElem? (i := 931) (by decide +kernel), List.mem_of_getElem? (i := 932) (by decide +kernel)⟩
theorem lw_p36 : lw_okq (⟨"BirthTenthModel", "takesWord", "(II)Z"⟩, 60) := ⟨⟨by decide +kernel, by decide +kernel⟩, List.mem_of_getElem? (i := 692) (by decide +kernel), List.mem_of_getElem? (i := 935) (by decide +kernel), List.mem_of_getElem? (i := 936) (by decide +kernel)⟩
theorem lw_p37 : lw_okq (⟨"BirthTenthModel", "takes", "(I)Z"⟩, 60) := ⟨⟨by decide +kernel, by decide +kernel⟩, List.mem_of_getElem? (i := 692) (by decide +kernel), List.mem_of_getElem? (i := 939) (by decide +kernel), List.mem_of_getElem? (i := 940) (by decide +kernel)⟩
theorem lw_p38 : lw_okq (⟨"BirthTenthModel", "takesNumber", "()Z"⟩, 60) := ⟨⟨by decide +kernel, by decide +kernel⟩, List.mem_of_getElem? (i := 692) (by decide +kernel), List.mem_of_getElem? (i := 943) (by decide +kernel), List.mem_of_getElem? (i := 944) (by decide +kernel)⟩
theorem lw_p39 : lw_okq (⟨"BirthTenthModel", "isDigit", "()Z"⟩, 60) := ⟨⟨by decide +kernel, by decide +kernel⟩, List.mem_of_getElem? (i := 692) (by decide +kernel), List.mem_of_getElem? (i := 947) (by decide +kernel), List.mem_of_getElem? (i := 948) (by decide +kernel)⟩
theorem lw_p40 : lw_okq (⟨"BirthTenthModel", "takesE", "(I)Z"⟩, 60) := ⟨⟨by decide +kernel, by decide +kernel⟩, List.mem_of_getElem? (i := 692) (by decide +kernel), List.mem_of_getElem? (i := 951) (by decide +kernel), List.mem_of_getElem? (i := 952) (by decide +kernel)⟩
theorem lw_p41 : lw_okq (⟨"BirthTenthModel", "takesTest", "()Z"⟩, 60) := ⟨⟨by decide +kernel, by decide +kernel⟩, List.mem_of_getElem? (i := 692) (by decide +kernel), List.mem_of_getElem? (i := 955) (by decide +kernel), List.mem_of_getElem? (i := 956) (by decide +kernel)⟩
theorem lw_p42 : lw_okq (⟨"BirthTenthModel", "place", "(I)I"⟩, 60) := ⟨⟨by decide +kernel, by decide +kernel⟩, List.mem_of_getElem? (i := 692) (by decide +kernel), List.mem_of_getElem? (i := 959) (by decide +kernel), List.mem_of_getElem? (i := 960) (by decide +kernel)⟩
theorem lw_p43 : lw_okq (⟨"BirthTenthModel", "emits", "(I)V"⟩, 60) := ⟨⟨by decide +kernel, by decide +kernel⟩, List.mem_of_getElem? (i := 692) (by decide +kernel), List.mem_of_getElem? (i := 963) (by decide +kernel), List.mem_of_getElem? (i := 964) (by decide +kernel)⟩
theorem lw_p44 : lw_okq (⟨"BirthTenthModel", "whole", "()V"⟩, 60) := ⟨⟨by decide +kernel, by decide +kernel⟩, List.mem_of_getElem? (i := 692) (by decide +kernel), List.mem_of_getElem? (i := 967) (by decide +kernel), List.mem_of_getElem? (i := 968) (by decide +kernel)⟩
theorem lw_p45 : lw_okq (⟨"BirthTenthModel", "settle", "(I)V"⟩, 60) := ⟨⟨by decide +kernel, by decide +kernel⟩, List.mem_of_getElem? (i := 692) (by decide +kernel), List.mem_of_getElem? (i := 971) (by decide +kernel), List.mem_of_getElem? (i := 972) (by decide +kernel)⟩
theorem lw_p46 : lw_okq (⟨"BirthTenthModel", "sells", "(I)I"⟩, 60) := ⟨⟨by decide +kernel, by decide +kernel⟩, List.mem_of_getElem? (i := 692) (by decide +kernel), List.mem_of_getElem? (i := 980) (by decide +kernel), List.mem_of_getElem? (i := 981) (by decide +kernel)⟩
theorem lw_p47 : lw_okq (⟨"BirthTenthModel", "wishedDay", "(I)I"⟩, 60) := ⟨⟨by decide +kernel, by decide +kernel⟩, List.mem_of_getElem? (i := 692) (by decide +kernel), List.mem_of_getElem? (i := 984) (by decide +kernel), List.mem_of_getElem? (i := 985) (by decide +kernel)⟩
def lw_privs_3 : List (MethodName × Nat) := [(⟨"BirthTenthModel", "goesText", "(I)Z"⟩, 60), (⟨"BirthTenthModel", "takesClause", "(I)Z"⟩, 60), (⟨"BirthTenthModel", "takesHead", "(I)Z"⟩, 60), (⟨"BirthTenthModel", "next", "()I"⟩, 60), (⟨"BirthTenthModel", "takesWord", "(II)Z"⟩, 60), (⟨"BirthTenthModel", "takes", "(I)Z"⟩, 60), (⟨"BirthTenthModel", "takesNumber", "()Z"⟩, 60), (⟨"BirthTenthModel", "isDigit", "()Z"⟩, 60), (⟨"BirthTenthModel", "takesE", "(I)Z"⟩, 60), (⟨"BirthTenthModel", "takesTest", "()Z"⟩, 60), (⟨"BirthTenthModel", "place", "(I)I"⟩, 60), (⟨"BirthTenthModel", "emits", "(I)V"⟩, 60), (⟨"BirthTenthModel", "whole", "()V"⟩, 60), (⟨"BirthTenthModel", "settle", "(I)V"⟩, 60), (⟨"BirthTenthModel", "sells", "(I)I"⟩, 60), (⟨"BirthTenthModel", "wishedDay", "(I)I"⟩, 60)]
theorem lw_r3 : ∀ q ∈ lw_privs_3, lw_okq q := List.forall_mem_cons.mpr ⟨lw_p32, List.forall_mem_cons.mpr ⟨lw_p33, List.forall_mem_cons.mpr ⟨lw_p34, List.forall_mem_cons.mpr ⟨lw_p35, List.forall_mem_cons.mpr ⟨lw_p36, List.forall_mem_cons.mpr ⟨lw_p37, List.forall_mem_cons.mpr ⟨lw_p38, List.forall_mem_cons.mpr ⟨lw_p39, List.forall_mem_cons.mpr ⟨lw_p40, List.forall_mem_cons.mpr ⟨lw_p41, List.forall_mem_cons.mpr ⟨lw_p42, List.forall_mem_cons.mpr ⟨lw_p43, List.forall_mem_cons.mpr ⟨lw_p44, List.forall_mem_cons.mpr ⟨lw_p45, List.forall_mem_cons.mpr ⟨lw_p46, List.forall_mem_cons.mpr ⟨lw_p47, fun _ h => absurd h List.not_mem_nil⟩⟩⟩⟩⟩⟩⟩⟩⟩⟩⟩⟩⟩⟩⟩⟩
theorem lw_p48 : lw_okq (⟨"BirthTenthModel", "behindHated", "(I)I"⟩, 60) := ⟨⟨by decide +kernel, by decide +kernel⟩, List.mem_of_getElem? (i := 692) (by decide +kernel), List.mem_of_getElem? (i := 988) (by decide +kernel), List.mem_of_getElem? (i := 989) (by decide +kernel)⟩
theorem lw_p49 : lw_okq (⟨"BirthTenthModel", "thatOne", "(I)I"⟩, 60) := ⟨⟨by decide +kernel, by decide +kernel⟩, List.mem_of_getElem? (i := 692) (by decide +kernel), List.mem_of_getElem? (i := 992) (by decide +kernel), List.mem_of_getElem? (i := 993) (by decide +kernel)⟩
theorem lw_p50 : lw_okq (⟨"BirthTenthModel", "shunned", "(I)I"⟩, 60) := ⟨⟨by decide +kernel, by decide +kernel⟩, List.mem_of_getElem? (i := 692) (by decide +kernel), List.mem_of_getElem? (i := 996) (by decide +kernel), List.mem_of_getElem? (i := 997) (by decide +kernel)⟩
theorem lw_p51 : lw_okq (⟨"BirthTenthModel", "manyBorn", "(I)I"⟩, 60) := ⟨⟨by decide +kernel, by decide +kernel⟩, List.mem_of_getElem? (i := 692) (by decide +kernel), List.mem_of_getElem? (i := 1000) (by decide +kernel), List.mem_of_getElem? (i := 1001) (by decide +kernel)⟩
theorem lw_p52 : lw_okq (⟨"BirthTenthModel", "lastOf", "(II)I"⟩, 60) := ⟨⟨by decide +kernel, by decide +kernel⟩, List.mem_of_getElem? (i := 692) (by decide +kernel), List.mem_of_getElem? (i := 1004) (by decide +kernel), List.mem_of_getElem? (i := 1005) (by decide +kernel)⟩
theorem lw_p53 : lw_okq (⟨"BirthTenthModel", "clauseFrom", "()I"⟩, 60) := ⟨⟨by decide +kernel, by decide +kernel⟩, List.mem_of_getElem? (i := 692) (by decide +kernel), List.mem_of_getElem? (i := 1008) (by decide +kernel), List.mem_of_getElem? (i := 1009) (by decide +kernel)⟩
theorem lw_p54 : lw_okq (⟨"BirthTenthModel", "clauseTo", "()I"⟩, 60) := ⟨⟨by decide +kernel, by decide +kernel⟩, List.mem_of_getElem? (i := 692) (by decide +kernel), List.mem_of_getElem? (i := 1012) (by decide +kernel), List.mem_of_getElem? (i := 1013) (by decide +kernel)⟩
theorem lw_p55 : lw_okq (⟨"BirthTenthModel", "putOff", "(I)I"⟩, 60) := ⟨⟨by decide +kernel, by decide +kernel⟩, List.mem_of_getElem? (i := 692) (by decide +kernel), List.mem_of_getElem? (i := 1016) (by decide +kernel), List.mem_of_getElem? (i := 1017) (by decide +kernel)⟩
theorem lw_p56 : lw_okq (⟨"BirthTenthModel", "takesOf", "(II)I"⟩, 60) := ⟨⟨by decide +kernel, by decide +kernel⟩, List.mem_of_getElem? (i := 692) (by decide +kernel), List.mem_of_getElem? (i := 1020) (by decide +kernel), List.mem_of_getElem? (i := 1021) (by decide +kernel)⟩
theorem lw_p57 : lw_okq (⟨"BirthTenthModel", "holds", "(III)Z"⟩, 60) := ⟨⟨by decide +kernel, by decide +kernel⟩, List.mem_of_getElem? (i := 692) (by decide +kernel), List.mem_of_getElem? (i := 1024) (by decide +kernel), List.mem_of_getElem? (i := 1025) (by decide +kernel)⟩
theorem lw_p58 : lw_okq (⟨"BirthTenthModel", "factOf", "(III)I"⟩, 60) := ⟨⟨by decide +kernel, by decide +kernel⟩, List.mem_of_getElem? (i := 692) (by decide +kernel), List.mem_of_getElem? (i := 1028) (by decide +kernel), List.mem_of_getElem? (i := 1029) (by decide +kernel)⟩
theorem lw_p59 : lw_okq (⟨"BirthTenthModel", "bornOn", "(I)I"⟩, 60) := ⟨⟨by decide +kernel, by decide +kernel⟩, List.mem_of_getElem? (i := 692) (by decide +kernel), List.mem_of_getElem? (i := 1036) (by decide +kernel), List.mem_of_getElem? (i := 1037) (by decide +kernel)⟩
theorem lw_p60 : lw_okq (⟨"BirthTenthModel", "sellOn", "(I)I"⟩, 60) := ⟨⟨by decide +kernel, by decide +kernel⟩, List.mem_of_getElem? (i := 692) (by decide +kernel), List.mem_of_getElem? (i := 1040) (by decide +kernel), List.mem_of_getElem? (i := 1041) (by decide +kernel)⟩
theorem lw_p61 : lw_okq (⟨"BirthTenthModel", "dueNow", "()I"⟩, 60) := ⟨⟨by decide +kernel, by decide +kernel⟩, List.mem_of_getElem? (i := 692) (by decide +kernel), List.mem_of_getElem? (i := 1044) (by decide +kernel), List.mem_of_getElem? (i := 1045) (by decide +kernel)⟩
theorem lw_p62 : lw_okq (⟨"BirthTenthModel", "allPurses", "()I"⟩, 60) := ⟨⟨by decide +kernel, by decide +kernel⟩, List.mem_of_getElem? (i := 692) (by decide +kernel), List.mem_of_getElem? (i := 1048) (by decide +kernel), List.mem_of_getElem? (i := 1049) (by decide +kernel)⟩
theorem lw_p63 : lw_okq (⟨"BirthTenthModel", "goDay", "()I"⟩, 60) := ⟨⟨by decide +kernel, by decide +kernel⟩, List.mem_of_getElem? (i := 692) (by decide +kernel), List.mem_of_getElem? (i := 1056) (by decide +kernel), List.mem_of_getElem? (i := 1057) (by decide +kernel)⟩
def lw_privs_4 : List (MethodName × Nat) := [(⟨"BirthTenthModel", "behindHated", "(I)I"⟩, 60), (⟨"BirthTenthModel", "thatOne", "(I)I"⟩, 60), (⟨"BirthTenthModel", "shunned", "(I)I"⟩, 60), (⟨"BirthTenthModel", "manyBorn", "(I)I"⟩, 60), (⟨"BirthTenthModel", "lastOf", "(II)I"⟩, 60), (⟨"BirthTenthModel", "clauseFrom", "()I"⟩, 60), (⟨"BirthTenthModel", "clauseTo", "()I"⟩, 60), (⟨"BirthTenthModel", "putOff", "(I)I"⟩, 60), (⟨"BirthTenthModel", "takesOf", "(II)I"⟩, 60), (⟨"BirthTenthModel", "holds", "(III)Z"⟩, 60), (⟨"BirthTenthModel", "factOf", "(III)I"⟩, 60), (⟨"BirthTenthModel", "bornOn", "(I)I"⟩, 60), (⟨"BirthTenthModel", "sellOn", "(I)I"⟩, 60), (⟨"BirthTenthModel", "dueNow", "()I"⟩, 60), (⟨"BirthTenthModel", "allPurses", "()I"⟩, 60), (⟨"BirthTenthModel", "goDay", "()I"⟩, 60)]
theorem lw_r4 : ∀ q ∈ lw_privs_4, lw_okq q := List.forall_mem_cons.mpr ⟨lw_p48, List.forall_mem_cons.mpr ⟨lw_p49, List.forall_mem_cons.mpr ⟨lw_p50, List.forall_mem_cons.mpr ⟨lw_p51, List.forall_mem_cons.mpr ⟨lw_p52, List.forall_mem_cons.mpr ⟨lw_p53, List.forall_mem_cons.mpr ⟨lw_p54, List.forall_mem_cons.mpr ⟨lw_p55, List.forall_mem_cons.mpr ⟨lw_p56, List.forall_mem_cons.mpr ⟨lw_p57, List.forall_mem_cons.mpr ⟨lw_p58, List.forall_mem_cons.mpr ⟨lw_p59, List.forall_mem_cons.mpr ⟨lw_p60, List.forall_mem_cons.mpr ⟨lw_p61, List.forall_mem_cons.mpr ⟨lw_p62, List.forall_mem_cons.mpr ⟨lw_p63, fun _ h => absurd h List.not_mem_nil⟩⟩⟩⟩⟩⟩⟩⟩⟩⟩⟩⟩⟩⟩⟩⟩
theorem lw_p64 : lw_okq (⟨"BirthTenthModel", "keep", "()V"⟩, 60) := ⟨⟨by decide +kernel, by decide +kernel⟩, List.mem_of_getElem? (i := 692) (by decide +kernel), List.mem_of_getElem? (i := 1065) (by decide +kernel), List.mem_of_getElem? (i := 1066) (by decide +kernel)⟩
theorem lw_p65 : lw_okq (⟨"BirthTenthModel", "putBack", "()V"⟩, 60) := ⟨⟨by decide +kernel, by decide +kernel⟩, List.mem_of_getElem? (i := 692) (by decide +kernel), List.mem_of_getElem? (i := 1069) (by decide +kernel), List.mem_of_getElem? (i := 1070) (by decide +kernel)⟩
theorem lw_p66 : lw_okq (⟨"BirthTenthModel", "yearOf", "(I)I"⟩, 60) := ⟨⟨by decide +kernel, by decide +kernel⟩, List.mem_of_getElem? (i := 692) (by decide +kernel), List.mem_of_getElem? (i := 1077) (by decide +kernel), List.mem_of_getElem? (i := 1078) (by decide +kernel)⟩
theorem lw_p67 : lw_okq (⟨"BirthTenthModel", "layYear", "()V"⟩, 60) := ⟨⟨by decide +kernel, by decide +kernel⟩, List.mem_of_getElem? (i := 692) (by decide +kernel), List.mem_of_getElem? (i := 1081) (by decide +kernel), List.mem_of_getElem? (i := 1082) (by decide +kernel)⟩
theorem lw_p68 : lw_okq (⟨"BirthTenthModel", "layBest", "(IZ)V"⟩, 60) := ⟨⟨by decide +kernel, by decide +kernel⟩, List.mem_of_getElem? (i := 692) (by decide +kernel), List.mem_of_getElem? (i := 1089) (by decide +kernel), List.mem_of_getElem? (i := 1090) (by decide +kernel)⟩
theorem lw_p69 : lw_okq (⟨"BirthTenthModel", "wouldChange", "(I)Z"⟩, 60) := ⟨⟨by decide +kernel, by decide +kernel⟩, List.mem_of_getElem? (i := 692) (by decide +kernel), List.mem_of_getElem? (i := 1113) (by decide +kernel), List.mem_of_getElem? (i := 1114) (by decide +kernel)⟩
theorem lw_p70 : lw_okq (⟨"BirthTenthModel", "layRest", "()I"⟩, 60) := ⟨⟨by decide +kernel, by decide +kernel⟩, List.mem_of_getElem? (i := 692) (by decide +kernel), List.mem_of_getElem? (i := 1121) (by decide +kernel), List.mem_of_getElem? (i := 1122) (by decide +kernel)⟩
theorem lw_p71 : lw_okq (⟨"BirthTenthModel", "allMore", "()I"⟩, 60) := ⟨⟨by decide +kernel, by decide +kernel⟩, List.mem_of_getElem? (i := 692) (by decide +kernel), List.mem_of_getElem? (i := 1129) (by decide +kernel), List.mem_of_getElem? (i := 1130) (by decide +kernel)⟩
theorem lw_p72 : lw_okq (⟨"BirthTenthModel", "othersMore", "(I)I"⟩, 60) := ⟨⟨by decide +kernel, by decide +kernel⟩, List.mem_of_getElem? (i := 692) (by decide +kernel), List.mem_of_getElem? (i := 1141) (by decide +kernel), List.mem_of_getElem? (i := 1142) (by decide +kernel)⟩
theorem lw_p73 : lw_okq (⟨"BirthTenthModel", "yearIf", "(II)I"⟩, 60) := ⟨⟨by decide +kernel, by decide +kernel⟩, List.mem_of_getElem? (i := 692) (by decide +kernel), List.mem_of_getElem? (i := 1150) (by decide +kernel), List.mem_of_getElem? (i := 1151) (by decide +kernel)⟩
theorem lw_p74 : lw_okq (⟨"BirthTenthModel", "lowest", "(III)J"⟩, 60) := ⟨⟨by decide +kernel, by decide +kernel⟩, List.mem_of_getElem? (i := 692) (by decide +kernel), List.mem_of_getElem? (i := 1154) (by decide +kernel), List.mem_of_getElem? (i := 1155) (by decide +kernel)⟩
theorem lw_p75 : lw_okq (⟨"BirthTenthModel", "divisor", "(II)I"⟩, 60) := ⟨⟨by decide +kernel, by decide +kernel⟩, List.mem_of_getElem? (i := 692) (by decide +kernel), List.mem_of_getElem? (i := 1158) (by decide +kernel), List.mem_of_getElem? (i := 1159) (by decide +kernel)⟩
theorem lw_p76 : lw_okq (⟨"BirthTenthModel", "isTape", "(I)Z"⟩, 60) := ⟨⟨by decide +kernel, by decide +kernel⟩, List.mem_of_getElem? (i := 692) (by decide +kernel), List.mem_of_getElem? (i := 1178) (by decide +kernel), List.mem_of_getElem? (i := 1179) (by decide +kernel)⟩
theorem lw_p77 : lw_okq (⟨"BirthTenthModel", "sellsAct", "(II)I"⟩, 60) := ⟨⟨by decide +kernel, by decide +kernel⟩, List.mem_of_getElem? (i := 692) (by decide +kernel), List.mem_of_getElem? (i := 1194) (by decide +kernel), List.mem_of_getElem? (i := 1195) (by decide +kernel)⟩
theorem lw_p78 : lw_okq (⟨"BirthTenthModel", "body", "(I)V"⟩, 60) := ⟨⟨by decide +kernel, by decide +kernel⟩, List.mem_of_getElem? (i := 692) (by decide +kernel), List.mem_of_getElem? (i := 1198) (by decide +kernel), List.mem_of_getElem? (i := 1199) (by decide +kernel)⟩
theorem lw_p79 : lw_okq (⟨"BirthTenthModel", "sellerSells", "(II)I"⟩, 60) := ⟨⟨by decide +kernel, by decide +kernel⟩, List.mem_of_getElem? (i := 692) (by decide +kernel), List.mem_of_getElem? (i := 1202) (by decide +kernel), List.mem_of_getElem? (i := 1203) (by decide +kernel)⟩
def lw_privs_5 : List (MethodName × Nat) := [(⟨"BirthTenthModel", "keep", "()V"⟩, 60), (⟨"BirthTenthModel", "putBack", "()V"⟩, 60), (⟨"BirthTenthModel", "yearOf", "(I)I"⟩, 60), (⟨"BirthTenthModel", "layYear", "()V"⟩, 60), (⟨"BirthTenthModel", "layBest", "(IZ)V"⟩, 60), (⟨"BirthTenthModel", "wouldChange", "(I)Z"⟩, 60), (⟨"BirthTenthModel", "layRest", "()I"⟩, 60), (⟨"BirthTenthModel", "allMore", "()I"⟩, 60), (⟨"BirthTenthModel", "othersMore", "(I)I"⟩, 60), (⟨"BirthTenthModel", "yearIf", "(II)I"⟩, 60), (⟨"BirthTenthModel", "lowest", "(III)J"⟩, 60), (⟨"BirthTenthModel", "divisor", "(II)I"⟩, 60), (⟨"BirthTenthModel", "isTape", "(I)Z"⟩, 60), (⟨"BirthTenthModel", "sellsAct", "(II)I"⟩, 60), (⟨"BirthTenthModel", "body", "(I)V"⟩, 60), (⟨"BirthTenthModel", "sellerSells", "(II)I"⟩, 60)]
theorem lw_r5 : ∀ q ∈ lw_privs_5, lw_okq q := List.forall_mem_cons.mpr ⟨lw_p64, List.forall_mem_cons.mpr ⟨lw_p65, List.forall_mem_cons.mpr ⟨lw_p66, List.forall_mem_cons.mpr ⟨lw_p67, List.forall_mem_cons.mpr ⟨lw_p68, List.forall_mem_cons.mpr ⟨lw_p69, List.forall_mem_cons.mpr ⟨lw_p70, List.forall_mem_cons.mpr ⟨lw_p71, List.forall_mem_cons.mpr ⟨lw_p72, List.forall_mem_cons.mpr ⟨lw_p73, List.forall_mem_cons.mpr ⟨lw_p74, List.forall_mem_cons.mpr ⟨lw_p75, List.forall_mem_cons.mpr ⟨lw_p76, List.forall_mem_cons.mpr ⟨lw_p77, List.forall_mem_cons.mpr ⟨lw_p78, List.forall_mem_cons.mpr ⟨lw_p79, fun _ h => absurd h List.not_mem_nil⟩⟩⟩⟩⟩⟩⟩⟩⟩⟩⟩⟩⟩⟩⟩⟩
theorem lw_p80 : lw_okq (⟨"BirthTenthModel", "givesAct", "(II)I"⟩, 60) := ⟨⟨by decide +kernel, by decide +kernel⟩, List.mem_of_getElem? (i := 692) (by decide +kernel), List.mem_of_getElem? (i := 1206) (by decide +kernel), List.mem_of_getElem? (i := 1207) (by decide +kernel)⟩
theorem lw_p81 : lw_okq (⟨"BirthTenthModel", "haterGives", "(II)I"⟩, 60) := ⟨⟨by decide +kernel, by decide +kernel⟩, List.mem_of_getElem? (i := 692) (by decide +kernel), List.mem_of_getElem? (i := 1210) (by decide +kernel), List.mem_of_getElem? (i := 1211) (by decide +kernel)⟩
theorem lw_p82 : lw_okq (⟨"BirthTenthModel", "sellerGives", "(II)I"⟩, 60) := ⟨⟨by decide +kernel, by decide +kernel⟩, List.mem_of_getElem? (i := 692) (by decide +kernel), List.mem_of_getElem? (i := 1214) (by decide +kernel), List.mem_of_getElem? (i := 1215) (by decide +kernel)⟩
theorem lw_p83 : lw_okq (⟨"BirthTenthModel", "tellsAct", "(II)I"⟩, 60) := ⟨⟨by decide +kernel, by decide +kernel⟩, List.mem_of_getElem? (i := 692) (by decide +kernel), List.mem_of_getElem? (i := 1218) (by decide +kernel), List.mem_of_getElem? (i := 1219) (by decide +kernel)⟩
theorem lw_p84 : lw_okq (⟨"BirthTenthModel", "sellerTells", "(II)I"⟩, 60) := ⟨⟨by decide +kernel, by decide +kernel⟩, List.mem_of_getElem? (i := 692) (by decide +kernel), List.mem_of_getElem? (i := 1222) (by decide +kernel), List.mem_of_getElem? (i := 1223) (by decide +kernel)⟩
theorem lw_p85 : lw_okq (⟨"BirthTenthModel", "narrow", "(IJ)J"⟩, 60) := ⟨⟨by decide +kernel, by decide +kernel⟩, List.mem_of_getElem? (i := 692) (by decide +kernel), List.mem_of_getElem? (i := 1246) (by decide +kernel), List.mem_of_getElem? (i := 1247) (by decide +kernel)⟩
def lw_privs_6 : List (MethodName × Nat) := [(⟨"BirthTenthModel", "givesAct", "(II)I"⟩, 60), (⟨"BirthTenthModel", "haterGives", "(II)I"⟩, 60), (⟨"BirthTenthModel", "sellerGives", "(II)I"⟩, 60), (⟨"BirthTenthModel", "tellsAct", "(II)I"⟩, 60), (⟨"BirthTenthModel", "sellerTells", "(II)I"⟩, 60), (⟨"BirthTenthModel", "narrow", "(IJ)J"⟩, 60)]
theorem lw_r6 : ∀ q ∈ lw_privs_6, lw_okq q := List.forall_mem_cons.mpr ⟨lw_p80, List.forall_mem_cons.mpr ⟨lw_p81, List.forall_mem_cons.mpr ⟨lw_p82, List.forall_mem_cons.mpr ⟨lw_p83, List.forall_mem_cons.mpr ⟨lw_p84, List.forall_mem_cons.mpr ⟨lw_p85, fun _ h => absurd h List.not_mem_nil⟩⟩⟩⟩⟩⟩
def lw_privs : List (MethodName × Nat) := lw_privs_1 ++ (lw_privs_2 ++ (lw_privs_3 ++ (lw_privs_4 ++ (lw_privs_5 ++ (lw_privs_6)))))
def lw_tbl : List Cond := k2_sels lw_privs ++ tables_1
theorem lw_privs_ok : ∀ q ∈ lw_privs, lw_okq q := by
  show ∀ q ∈ lw_privs_1 ++ (lw_privs_2 ++ (lw_privs_3 ++ (lw_privs_4 ++ (lw_privs_5 ++ (lw_privs_6))))), lw_okq q
  exact List.forall_mem_append.mpr ⟨lw_r1, List.forall_mem_append.mpr ⟨lw_r2, List.forall_mem_append.mpr ⟨lw_r3, List.forall_mem_append.mpr ⟨lw_r4, List.forall_mem_append.mpr ⟨lw_r5, lw_r6⟩⟩⟩⟩⟩
end
section
/-! ===== BEGIN words of one list among another's, by their places ===== -/
theorem goodIn_r {big : List Cond} (ws : List Cond) (ps : List Nat) (hp : ws = ps.filterMap (fun i => big[i]?)) (h : ws.all goodWord = true) : GoodIn big ws := by
  intro w hw
  have h1 := List.all_eq_true.mp h w hw
  rw [hp] at hw
  obtain ⟨i, -, hi⟩ := List.mem_filterMap.mp hw
  have hm : w ∈ big := by first | exact List.mem_of_getElem? hi | exact List.getElem?_mem hi
  exact ⟨hm, good_of_word h1⟩
theorem goodIn_app {big a b : List Cond} (ha : GoodIn big a) (hb : GoodIn big b) : GoodIn big (a ++ b) := fun w h => (List.mem_append.mp h).elim (ha w) (hb w)
theorem goodIn_ca {big a b : List Cond} {c : Cond} (ha : GoodIn big (c :: a)) (hb : GoodIn big b) : GoodIn big (c :: (a ++ b)) := fun w h => (List.mem_cons.mp h).elim (fun e => ha w (List.mem_cons.mpr (Or.inl e))) (fun h => (List.mem_append.mp h).elim (fun h => ha w (List.mem_cons.mpr (Or.inr h))) (hb w))
theorem goodIn_sub {big ws : List Cond} (hm : ∀ w ∈ ws, w ∈ big) (h : ws.all goodWord = true) : GoodIn big ws := fun w hw => ⟨hm w hw, good_of_word (List.all_eq_true.mp h w hw)⟩
/-! ===== END ===== -/

/-! ===== BEGIN printed: names, fields, word lists, decode rows ===== -/
def RX0 : String := "BirthTenth$Acts"
def TX0 : u_T := fun k => match k with
  | 0 => ("BirthTenth$Acts", "bodies", "[I", true)
  | 1 => ("BirthTenth$Acts", "ran", "I", false)
  | 2 => ("BirthTenth$Acts", "kind", "I", false)
  | 3 => ("BirthTenth$Acts", "number", "I", false)
  | _ => ("BirthTenth$Acts", "v", "I", false)
def tyX0 : Nat → FieldType := fun k => match k with
  | 0 => .array .int
  | 1 => .int
  | 2 => .int
  | 3 => .int
  | _ => .int
abbrev wsX00 : List Cond := u_ws RX0 TX0 5
theorem nmX0 : ∀ a, a < 5 → ∀ b, b < 5 → a ≠ b → (TX0 a).2.1 ≠ (TX0 b).2.1 := by decide +kernel
theorem tyX0_ok : ∀ k, k < 5 → parseFieldDescriptor (TX0 k).2.2.1 = some (tyX0 k) := by decide +kernel
abbrev cX0_init : ByteArray := prog_2_method_1_code
def yX0_init : MethodName := ⟨RX0, "<init>", "()V"⟩
abbrev cX0_becomes : ByteArray := prog_2_method_2_code
def yX0_becomes : MethodName := ⟨RX0, "becomes", "(III)V"⟩
abbrev cX0_answer : ByteArray := prog_2_method_3_code
def yX0_answer : MethodName := ⟨RX0, "answer", "(II)I"⟩
abbrev cX0_runs : ByteArray := prog_2_method_4_code
def yX0_runs : MethodName := ⟨RX0, "runs", "(I)V"⟩
abbrev cX0_sells : ByteArray := prog_2_method_5_code
def yX0_sells : MethodName := ⟨RX0, "sells", "(II)I"⟩
abbrev cX0_gives : ByteArray := prog_2_method_6_code
def yX0_gives : MethodName := ⟨RX0, "gives", "(II)I"⟩
abbrev cX0_tells : ByteArray := prog_2_method_7_code
def yX0_tells : MethodName := ⟨RX0, "tells", "(II)I"⟩
def RX1 : String := "BirthTenth$Days"
def TX1 : u_T := fun k => match k with
  | 0 => ("BirthTenth$Days", "state", "LBirthTenth$State;", false)
  | 1 => ("BirthTenth$Days", "due", "I", false)
  | 2 => ("BirthTenth$Days", "date", "I", false)
  | 3 => ("BirthTenth$Days", "year", "I", false)
  | 4 => ("BirthTenth$Days", "dues", "I", false)
  | 5 => ("BirthTenth$Days", "gain", "[I", true)
  | 6 => ("BirthTenth$Days", "came", "[I", true)
  | 7 => ("BirthTenth$Days", "sellsOn", "[I", true)
  | _ => ("BirthTenth$Days", "births", "[I", true)
def tyX1 : Nat → FieldType := fun k => match k with
  | 0 => .object "BirthTenth$State"
  | 1 => .int
  | 2 => .int
  | 3 => .int
  | 4 => .int
  | 5 => .array .int
  | 6 => .array .int
  | 7 => .array .int
  | _ => .array .int
abbrev wsX10 : List Cond := u_ws RX1 TX1 9
theorem nmX1 : ∀ a, a < 9 → ∀ b, b < 9 → a ≠ b → (TX1 a).2.1 ≠ (TX1 b).2.1 := by decide +kernel
theorem tyX1_ok : ∀ k, k < 9 → parseFieldDescriptor (TX1 k).2.2.1 = some (tyX1 k) := by decide +kernel
abbrev cX1_init : ByteArray := prog_3_method_1_code
def yX1_init : MethodName := ⟨RX1, "<init>", "(LBirthTenth$State;)V"⟩
abbrev cX1_start : ByteArray := prog_3_method_2_code
def yX1_start : MethodName := ⟨RX1, "start", "(LBirthTenth$State;I)V"⟩
abbrev cX1_go : ByteArray := prog_3_method_3_code
def yX1_go : MethodName := ⟨RX1, "go", "(I)V"⟩
abbrev cX1_sell : ByteArray := prog_3_method_4_code
def yX1_sell : MethodName := ⟨RX1, "sell", "()V"⟩
abbrev cX1_share : ByteArray := prog_3_method_5_code
def yX1_share : MethodName := ⟨RX1, "share", "()V"⟩
abbrev cX1_beginYear : ByteArray := prog_3_method_6_code
def yX1_beginYear : MethodName := ⟨RX1, "beginYear", "()V"⟩
abbrev cX1_wanted : ByteArray := prog_3_method_7_code
def yX1_wanted : MethodName := ⟨RX1, "wanted", "(I)I"⟩
abbrev cX1_freeDay : ByteArray := prog_3_method_8_code
def yX1_freeDay : MethodName := ⟨RX1, "freeDay", "(III)I"⟩
abbrev cX1_putOff : ByteArray := prog_3_method_9_code
def yX1_putOff : MethodName := ⟨RX1, "putOff", "(I)I"⟩
abbrev cX1_takes : ByteArray := prog_3_method_10_code
def yX1_takes : MethodName := ⟨RX1, "takes", "(II)I"⟩
abbrev cX1_allows : ByteArray := prog_3_method_11_code
def yX1_allows : MethodName := ⟨RX1, "allows", "(LBirthTenth$Town;IIII)Z"⟩
abbrev cX1_valueOf : ByteArray := prog_3_method_12_code
def yX1_valueOf : MethodName := ⟨RX1, "valueOf", "(III)I"⟩
def RX2 : String := "BirthTenth$State"
def TX2 : u_T := fun k => match k with
  | 0 => ("BirthTenth$State", "count", "I", false)
  | 1 => ("BirthTenth$State", "date", "I", false)
  | 2 => ("BirthTenth$State", "year", "I", false)
  | 3 => ("BirthTenth$State", "bookRows", "I", false)
  | 4 => ("BirthTenth$State", "town", "LBirthTenth$Town;", false)
  | 5 => ("BirthTenth$State", "kind", "[I", true)
  | 6 => ("BirthTenth$State", "v", "[I", true)
  | 7 => ("BirthTenth$State", "born", "[I", true)
  | 8 => ("BirthTenth$State", "plan", "[I", true)
  | 9 => ("BirthTenth$State", "purse", "[I", true)
  | 10 => ("BirthTenth$State", "here", "[Z", true)
  | 11 => ("BirthTenth$State", "rows", "[I", true)
  | _ => ("BirthTenth$State", "book", "[I", true)
def tyX2 : Nat → FieldType := fun k => match k with
  | 0 => .int
  | 1 => .int
  | 2 => .int
  | 3 => .int
  | 4 => .object "BirthTenth$Town"
  | 5 => .array .int
  | 6 => .array .int
  | 7 => .array .int
  | 8 => .array .int
  | 9 => .array .int
  | 10 => .array .boolean
  | 11 => .array .int
  | _ => .array .int
abbrev wsX20 : List Cond := u_ws RX2 TX2 13
theorem nmX2 : ∀ a, a < 13 → ∀ b, b < 13 → a ≠ b → (TX2 a).2.1 ≠ (TX2 b).2.1 := by decide +kernel
theorem tyX2_ok : ∀ k, k < 13 → parseFieldDescriptor (TX2 k).2.2.1 = some (tyX2 k) := by decide +kernel
abbrev cX2_init : ByteArray := prog_4_method_1_code
def yX2_init : MethodName := ⟨RX2, "<init>", "(LBirthTenth$Town;)V"⟩
abbrev cX2_add : ByteArray := prog_4_method_2_code
def yX2_add : MethodName := ⟨RX2, "add", "(IIII)V"⟩
abbrev cX2_copy : ByteArray := prog_4_method_3_code
def yX2_copy : MethodName := ⟨RX2, "copy", "(LBirthTenth$State;)V"⟩
def RX3 : String := "BirthTenth$Tape"
def TX3 : u_T := fun k => match k with
  | 0 => ("BirthTenth$Tape", "sort", "I", false)
  | 1 => ("BirthTenth$Tape", "length", "I", false)
  | _ => ("BirthTenth$Tape", "items", "[J", true)
def tyX3 : Nat → FieldType := fun k => match k with
  | 0 => .int
  | 1 => .int
  | _ => .array .long
abbrev wsX30 : List Cond := u_ws RX3 TX3 3
theorem nmX3 : ∀ a, a < 3 → ∀ b, b < 3 → a ≠ b → (TX3 a).2.1 ≠ (TX3 b).2.1 := by decide +kernel
theorem tyX3_ok : ∀ k, k < 3 → parseFieldDescriptor (TX3 k).2.2.1 = some (tyX3 k) := by decide +kernel
abbrev cX3_init : ByteArray := prog_5_method_1_code
def yX3_init : MethodName := ⟨RX3, "<init>", "()V"⟩
abbrev cX3_become : ByteArray := prog_5_method_2_code
def yX3_become : MethodName := ⟨RX3, "become", "(II)V"⟩
abbrev cX3_holds : ByteArray := prog_5_method_3_code
def yX3_holds : MethodName := ⟨RX3, "holds", "(II)Z"⟩
abbrev cX3_fitted : ByteArray := prog_5_method_4_code
def yX3_fitted : MethodName := ⟨RX3, "fitted", "(J)J"⟩
def RX4 : String := "BirthTenth$Text"
def TX4 : u_T := fun k => match k with
  | 0 => ("BirthTenth$Text", "signs", "[B", true)
  | 1 => ("BirthTenth$Text", "length", "I", false)
  | 2 => ("BirthTenth$Text", "at", "I", false)
  | _ => ("BirthTenth$Text", "fits", "Z", false)
def tyX4 : Nat → FieldType := fun k => match k with
  | 0 => .array .byte
  | 1 => .int
  | 2 => .int
  | _ => .boolean
abbrev wsX40 : List Cond := u_ws RX4 TX4 4
theorem nmX4 : ∀ a, a < 4 → ∀ b, b < 4 → a ≠ b → (TX4 a).2.1 ≠ (TX4 b).2.1 := by decide +kernel
theorem tyX4_ok : ∀ k, k < 4 → parseFieldDescriptor (TX4 k).2.2.1 = some (tyX4 k) := by decide +kernel
abbrev cX4_init : ByteArray := prog_6_method_1_code
def yX4_init : MethodName := ⟨RX4, "<init>", "()V"⟩
abbrev cX4_parse : ByteArray := prog_6_method_2_code
def yX4_parse : MethodName := ⟨RX4, "parse", "(LBirthTenth$Town;)Z"⟩
abbrev cX4_next : ByteArray := prog_6_method_3_code
def yX4_next : MethodName := ⟨RX4, "next", "()I"⟩
abbrev cX4_word : ByteArray := prog_6_method_4_code
def yX4_word : MethodName := ⟨RX4, "word", "(Ljava/lang/String;)V"⟩
abbrev cX4_number : ByteArray := prog_6_method_5_code
def yX4_number : MethodName := ⟨RX4, "number", "()I"⟩
abbrev cX4_clause : ByteArray := prog_6_method_6_code
def yX4_clause : MethodName := ⟨RX4, "clause", "(LBirthTenth$Town;)V"⟩
abbrev cX4_either : ByteArray := prog_6_method_7_code
def yX4_either : MethodName := ⟨RX4, "either", "(LBirthTenth$Town;I)V"⟩
abbrev cX4_one : ByteArray := prog_6_method_8_code
def yX4_one : MethodName := ⟨RX4, "one", "(LBirthTenth$Town;I)V"⟩
abbrev cX4_relation : ByteArray := prog_6_method_9_code
def yX4_relation : MethodName := ⟨RX4, "relation", "()I"⟩
abbrev cX4_isLetter : ByteArray := prog_6_method_10_code
def yX4_isLetter : MethodName := ⟨RX4, "isLetter", "(I)Z"⟩
def RX5 : String := "BirthTenth$Town"
def TX5 : u_T := fun k => match k with
  | 0 => ("BirthTenth$Town", "due", "I", false)
  | 1 => ("BirthTenth$Town", "cost", "I", false)
  | 2 => ("BirthTenth$Town", "feast", "I", false)
  | 3 => ("BirthTenth$Town", "takes", "I", false)
  | 4 => ("BirthTenth$Town", "steps", "I", false)
  | 5 => ("BirthTenth$Town", "letters", "[I", true)
  | 6 => ("BirthTenth$Town", "relations", "[I", true)
  | 7 => ("BirthTenth$Town", "numbers", "[I", true)
  | 8 => ("BirthTenth$Town", "amounts", "[I", true)
  | _ => ("BirthTenth$Town", "ends", "[I", true)
def tyX5 : Nat → FieldType := fun k => match k with
  | 0 => .int
  | 1 => .int
  | 2 => .int
  | 3 => .int
  | 4 => .int
  | 5 => .array .int
  | 6 => .array .int
  | 7 => .array .int
  | 8 => .array .int
  | _ => .array .int
abbrev wsX50 : List Cond := u_ws RX5 TX5 10
theorem nmX5 : ∀ a, a < 10 → ∀ b, b < 10 → a ≠ b → (TX5 a).2.1 ≠ (TX5 b).2.1 := by decide +kernel
theorem tyX5_ok : ∀ k, k < 10 → parseFieldDescriptor (TX5 k).2.2.1 = some (tyX5 k) := by decide +kernel
abbrev cX5_init : ByteArray := prog_7_method_1_code
def yX5_init : MethodName := ⟨RX5, "<init>", "()V"⟩
abbrev cX5_clear : ByteArray := prog_7_method_2_code
def yX5_clear : MethodName := ⟨RX5, "clear", "()V"⟩
abbrev cX5_addTest : ByteArray := prog_7_method_3_code
def yX5_addTest : MethodName := ⟨RX5, "addTest", "(III)V"⟩
abbrev cX5_addJoint : ByteArray := prog_7_method_4_code
def yX5_addJoint : MethodName := ⟨RX5, "addJoint", "(I)V"⟩
abbrev cX5_addTake : ByteArray := prog_7_method_5_code
def yX5_addTake : MethodName := ⟨RX5, "addTake", "(I)V"⟩
def RX6 : String := "BirthTenth"
def TX6 : u_T := fun k => match k with
  | 0 => ("BirthTenth", "now", "LBirthTenth$State;", true)
  | 1 => ("BirthTenth", "kept", "LBirthTenth$State;", true)
  | 2 => ("BirthTenth", "trial", "LBirthTenth$State;", true)
  | 3 => ("BirthTenth", "isKept", "Z", false)
  | 4 => ("BirthTenth", "days", "LBirthTenth$Days;", true)
  | 5 => ("BirthTenth", "yields", "[I", true)
  | 6 => ("BirthTenth", "text", "LBirthTenth$Text;", true)
  | 7 => ("BirthTenth", "towns", "[LBirthTenth$Town;", true)
  | 8 => ("BirthTenth", "townCount", "I", false)
  | 9 => ("BirthTenth", "acts", "LBirthTenth$Acts;", true)
  | _ => ("BirthTenth", "tapes", "[LBirthTenth$Tape;", true)
def tyX6 : Nat → FieldType := fun k => match k with
  | 0 => .object "BirthTenth$State"
  | 1 => .object "BirthTenth$State"
  | 2 => .object "BirthTenth$State"
  | 3 => .boolean
  | 4 => .object "BirthTenth$Days"
  | 5 => .array .int
  | 6 => .object "BirthTenth$Text"
  | 7 => .array (.object "BirthTenth$Town")
  | 8 => .int
  | 9 => .object "BirthTenth$Acts"
  | _ => .array (.object "BirthTenth$Tape")
abbrev wsX60 : List Cond := u_ws RX6 TX6 11
theorem nmX6 : ∀ a, a < 11 → ∀ b, b < 11 → a ≠ b → (TX6 a).2.1 ≠ (TX6 b).2.1 := by decide +kernel
theorem tyX6_ok : ∀ k, k < 11 → parseFieldDescriptor (TX6 k).2.2.1 = some (tyX6 k) := by decide +kernel
abbrev cX6_init : ByteArray := prog_1_method_1_code
def yX6_init : MethodName := ⟨RX6, "<init>", "()V"⟩
abbrev cX6_person : ByteArray := prog_1_method_2_code
def yX6_person : MethodName := ⟨RX6, "person", "(IIII)I"⟩
abbrev cX6_of : ByteArray := prog_1_method_3_code
def yX6_of : MethodName := ⟨RX6, "of", "(II)I"⟩
abbrev cX6_set : ByteArray := prog_1_method_4_code
def yX6_set : MethodName := ⟨RX6, "set", "(III)I"⟩
abbrev cX6_there : ByteArray := prog_1_method_5_code
def yX6_there : MethodName := ⟨RX6, "there", "(IZ)I"⟩
abbrev cX6_row : ByteArray := prog_1_method_6_code
def yX6_row : MethodName := ⟨RX6, "row", "(III)I"⟩
abbrev cX6_feed : ByteArray := prog_1_method_7_code
def yX6_feed : MethodName := ⟨RX6, "feed", "(I)I"⟩
abbrev cX6_town : ByteArray := prog_1_method_8_code
def yX6_town : MethodName := ⟨RX6, "town", "()I"⟩
abbrev cX6_told : ByteArray := prog_1_method_9_code
def yX6_told : MethodName := ⟨RX6, "told", "(I)I"⟩
abbrev cX6_day : ByteArray := prog_1_method_10_code
def yX6_day : MethodName := ⟨RX6, "day", "()I"⟩
abbrev cX6_by : ByteArray := prog_1_method_11_code
def yX6_by : MethodName := ⟨RX6, "by", "(III)I"⟩
abbrev cX6_years : ByteArray := prog_1_method_12_code
def yX6_years : MethodName := ⟨RX6, "years", "(I)I"⟩
abbrev cX6_birth : ByteArray := prog_1_method_13_code
def yX6_birth : MethodName := ⟨RX6, "birth", "(II)I"⟩
abbrev cX6_plan : ByteArray := prog_1_method_14_code
def yX6_plan : MethodName := ⟨RX6, "plan", "(II)I"⟩
abbrev cX6_quiet : ByteArray := prog_1_method_15_code
def yX6_quiet : MethodName := ⟨RX6, "quiet", "()I"⟩
abbrev cX6_foundling : ByteArray := prog_1_method_16_code
def yX6_foundling : MethodName := ⟨RX6, "foundling", "(II)I"⟩
abbrev cX6_forged : ByteArray := prog_1_method_17_code
def yX6_forged : MethodName := ⟨RX6, "forged", "(I)I"⟩
abbrev cX6_change : ByteArray := prog_1_method_18_code
def yX6_change : MethodName := ⟨RX6, "change", "(I)I"⟩
abbrev cX6_rest : ByteArray := prog_1_method_19_code
def yX6_rest : MethodName := ⟨RX6, "rest", "(I)I"⟩
abbrev cX6_reckoning : ByteArray := prog_1_method_20_code
def yX6_reckoning : MethodName := ⟨RX6, "reckoning", "(I)I"⟩
abbrev cX6_high : ByteArray := prog_1_method_21_code
def yX6_high : MethodName := ⟨RX6, "high", "(I)I"⟩
abbrev cX6_last : ByteArray := prog_1_method_22_code
def yX6_last : MethodName := ⟨RX6, "last", "(I)I"⟩
abbrev cX6_odds : ByteArray := prog_1_method_23_code
def yX6_odds : MethodName := ⟨RX6, "odds", "(III)J"⟩
abbrev cX6_mean : ByteArray := prog_1_method_24_code
def yX6_mean : MethodName := ⟨RX6, "mean", "(I)J"⟩
abbrev cX6_book : ByteArray := prog_1_method_25_code
def yX6_book : MethodName := ⟨RX6, "book", "(I)I"⟩
abbrev cX6_looked : ByteArray := prog_1_method_26_code
def yX6_looked : MethodName := ⟨RX6, "looked", "(I)I"⟩
abbrev cX6_judge : ByteArray := prog_1_method_27_code
def yX6_judge : MethodName := ⟨RX6, "judge", "(II)I"⟩
abbrev cX6_image : ByteArray := prog_1_method_28_code
def yX6_image : MethodName := ⟨RX6, "image", "()I"⟩
abbrev cX6_undo : ByteArray := prog_1_method_29_code
def yX6_undo : MethodName := ⟨RX6, "undo", "()I"⟩
abbrev cX6_act : ByteArray := prog_1_method_30_code
def yX6_act : MethodName := ⟨RX6, "act", "(III)I"⟩
abbrev cX6_trace : ByteArray := prog_1_method_31_code
def yX6_trace : MethodName := ⟨RX6, "trace", "(I)I"⟩
abbrev cX6_taken : ByteArray := prog_1_method_32_code
def yX6_taken : MethodName := ⟨RX6, "taken", "(II)I"⟩
abbrev cX6_count : ByteArray := prog_1_method_33_code
def yX6_count : MethodName := ⟨RX6, "count", "(I)I"⟩
abbrev cX6_tape : ByteArray := prog_1_method_34_code
def yX6_tape : MethodName := ⟨RX6, "tape", "(III)I"⟩
abbrev cX6_item : ByteArray := prog_1_method_35_code
def yX6_item : MethodName := ⟨RX6, "item", "(IIJ)I"⟩
abbrev cX6_read : ByteArray := prog_1_method_36_code
def yX6_read : MethodName := ⟨RX6, "read", "(II)J"⟩
abbrev cX6_shift : ByteArray := prog_1_method_37_code
def yX6_shift : MethodName := ⟨RX6, "shift", "(IIIII)I"⟩
abbrev cX6_isDay : ByteArray := prog_1_method_38_code
def yX6_isDay : MethodName := ⟨RX6, "isDay", "(I)Z"⟩
abbrev cX6_isTape : ByteArray := prog_1_method_39_code
def yX6_isTape : MethodName := ⟨RX6, "isTape", "(I)Z"⟩
abbrev cX6_isPerson : ByteArray := prog_1_method_40_code
def yX6_isPerson : MethodName := ⟨RX6, "isPerson", "(I)Z"⟩
abbrev cX6_bornOn : ByteArray := prog_1_method_41_code
def yX6_bornOn : MethodName := ⟨RX6, "bornOn", "(I)I"⟩
abbrev cX6_sellingOn : ByteArray := prog_1_method_42_code
def yX6_sellingOn : MethodName := ⟨RX6, "sellingOn", "(I)I"⟩
abbrev cX6_allPurses : ByteArray := prog_1_method_43_code
def yX6_allPurses : MethodName := ⟨RX6, "allPurses", "()I"⟩
abbrev cX6_goYear : ByteArray := prog_1_method_44_code
def yX6_goYear : MethodName := ⟨RX6, "goYear", "(LBirthTenth$State;I)V"⟩
abbrev cX6_gainOfOthers : ByteArray := prog_1_method_45_code
def yX6_gainOfOthers : MethodName := ⟨RX6, "gainOfOthers", "(LBirthTenth$State;I)I"⟩
abbrev cX6_tryDays : ByteArray := prog_1_method_46_code
def yX6_tryDays : MethodName := ⟨RX6, "tryDays", "([III)V"⟩
abbrev cX6_firstMost : ByteArray := prog_1_method_47_code
def yX6_firstMost : MethodName := ⟨RX6, "firstMost", "()I"⟩
abbrev cX6_bestOf : ByteArray := prog_1_method_48_code
def yX6_bestOf : MethodName := ⟨RX6, "bestOf", "([III)I"⟩
abbrev cX6_betterPlan : ByteArray := prog_1_method_49_code
def yX6_betterPlan : MethodName := ⟨RX6, "betterPlan", "(II)I"⟩
abbrev cX6_fraction : ByteArray := prog_1_method_50_code
def yX6_fraction : MethodName := ⟨RX6, "fraction", "(III)J"⟩
def RX7 : String := "BirthTenthModel"
def TX7 : u_T := fun k => match k with
  | 0 => ("BirthTenthModel", "people", "I", false)
  | 1 => ("BirthTenthModel", "date", "I", false)
  | 2 => ("BirthTenthModel", "year", "I", false)
  | 3 => ("BirthTenthModel", "kind", "[I", true)
  | 4 => ("BirthTenthModel", "v", "[I", true)
  | 5 => ("BirthTenthModel", "born", "[I", true)
  | 6 => ("BirthTenthModel", "planned", "[I", true)
  | 7 => ("BirthTenthModel", "purse", "[I", true)
  | 8 => ("BirthTenthModel", "rows", "[I", true)
  | 9 => ("BirthTenthModel", "isThere", "[Z", true)
  | 10 => ("BirthTenthModel", "towns", "I", false)
  | 11 => ("BirthTenthModel", "the", "I", false)
  | 12 => ("BirthTenthModel", "fed", "I", false)
  | 13 => ("BirthTenthModel", "at", "I", false)
  | 14 => ("BirthTenthModel", "digits", "I", false)
  | 15 => ("BirthTenthModel", "text", "[I", true)
  | 16 => ("BirthTenthModel", "clauses", "[I", true)
  | 17 => ("BirthTenthModel", "word", "[I", true)
  | 18 => ("BirthTenthModel", "number", "[I", true)
  | 19 => ("BirthTenthModel", "from", "[I", true)
  | 20 => ("BirthTenthModel", "to", "[I", true)
  | 21 => ("BirthTenthModel", "sign", "[I", true)
  | 22 => ("BirthTenthModel", "waits", "[I", true)
  | 23 => ("BirthTenthModel", "signs", "I", false)
  | 24 => ("BirthTenthModel", "waiting", "I", false)
  | 25 => ("BirthTenthModel", "open", "I", false)
  | 26 => ("BirthTenthModel", "letters", "[I", true)
  | 27 => ("BirthTenthModel", "dueTold", "I", false)
  | 28 => ("BirthTenthModel", "pile", "[Z", true)
  | 29 => ("BirthTenthModel", "got", "[I", true)
  | 30 => ("BirthTenthModel", "keptPurse", "[I", true)
  | 31 => ("BirthTenthModel", "keptDate", "I", false)
  | 32 => ("BirthTenthModel", "keptYear", "I", false)
  | 33 => ("BirthTenthModel", "more", "[I", true)
  | 34 => ("BirthTenthModel", "bestDay", "I", false)
  | 35 => ("BirthTenthModel", "bestMore", "I", false)
  | 36 => ("BirthTenthModel", "oldPlan", "[I", true)
  | 37 => ("BirthTenthModel", "restPlan", "[I", true)
  | 38 => ("BirthTenthModel", "books", "I", false)
  | 39 => ("BirthTenthModel", "book", "[I", true)
  | 40 => ("BirthTenthModel", "hasImage", "Z", false)
  | 41 => ("BirthTenthModel", "imageThe", "I", false)
  | 42 => ("BirthTenthModel", "imagePeople", "I", false)
  | 43 => ("BirthTenthModel", "imageDate", "I", false)
  | 44 => ("BirthTenthModel", "imageYear", "I", false)
  | 45 => ("BirthTenthModel", "imageBooks", "I", false)
  | 46 => ("BirthTenthModel", "imageKind", "[I", true)
  | 47 => ("BirthTenthModel", "imageV", "[I", true)
  | 48 => ("BirthTenthModel", "imageBorn", "[I", true)
  | 49 => ("BirthTenthModel", "imagePlan", "[I", true)
  | 50 => ("BirthTenthModel", "imagePurse", "[I", true)
  | 51 => ("BirthTenthModel", "imageRows", "[I", true)
  | 52 => ("BirthTenthModel", "imageBook", "[I", true)
  | 53 => ("BirthTenthModel", "imageThere", "[Z", true)
  | 54 => ("BirthTenthModel", "ran", "I", false)
  | 55 => ("BirthTenthModel", "bodies", "[I", true)
  | 56 => ("BirthTenthModel", "sort", "[I", true)
  | 57 => ("BirthTenthModel", "length", "[I", true)
  | 58 => ("BirthTenthModel", "item", "[J", true)
  | _ => ("BirthTenthModel", "aside", "[J", true)
def tyX7 : Nat → FieldType := fun k => match k with
  | 0 => .int
  | 1 => .int
  | 2 => .int
  | 3 => .array .int
  | 4 => .array .int
  | 5 => .array .int
  | 6 => .array .int
  | 7 => .array .int
  | 8 => .array .int
  | 9 => .array .boolean
  | 10 => .int
  | 11 => .int
  | 12 => .int
  | 13 => .int
  | 14 => .int
  | 15 => .array .int
  | 16 => .array .int
  | 17 => .array .int
  | 18 => .array .int
  | 19 => .array .int
  | 20 => .array .int
  | 21 => .array .int
  | 22 => .array .int
  | 23 => .int
  | 24 => .int
  | 25 => .int
  | 26 => .array .int
  | 27 => .int
  | 28 => .array .boolean
  | 29 => .array .int
  | 30 => .array .int
  | 31 => .int
  | 32 => .int
  | 33 => .array .int
  | 34 => .int
  | 35 => .int
  | 36 => .array .int
  | 37 => .array .int
  | 38 => .int
  | 39 => .array .int
  | 40 => .boolean
  | 41 => .int
  | 42 => .int
  | 43 => .int
  | 44 => .int
  | 45 => .int
  | 46 => .array .int
  | 47 => .array .int
  | 48 => .array .int
  | 49 => .array .int
  | 50 => .array .int
  | 51 => .array .int
  | 52 => .array .int
  | 53 => .array .boolean
  | 54 => .int
  | 55 => .array .int
  | 56 => .array .int
  | 57 => .array .int
  | 58 => .array .long
  | _ => .array .long
abbrev wsX70 : List Cond := u_ws RX7 TX7 60
theorem nmX7 : ∀ a, a < 60 → ∀ b, b < 60 → a ≠ b → (TX7 a).2.1 ≠ (TX7 b).2.1 := by decide +kernel
theorem tyX7_ok : ∀ k, k < 60 → parseFieldDescriptor (TX7 k).2.2.1 = some (tyX7 k) := by decide +kernel
abbrev cX7_init : ByteArray := prog_9_method_1_code
def yX7_init : MethodName := ⟨RX7, "<init>", "()V"⟩
abbrev cX7_in : ByteArray := prog_9_method_2_code
def yX7_in : MethodName := ⟨RX7, "in", "(III)Z"⟩
abbrev cX7_isPerson : ByteArray := prog_9_method_3_code
def yX7_isPerson : MethodName := ⟨RX7, "isPerson", "(I)Z"⟩
abbrev cX7_isDay : ByteArray := prog_9_method_4_code
def yX7_isDay : MethodName := ⟨RX7, "isDay", "(I)Z"⟩
abbrev cX7_lay : ByteArray := prog_9_method_5_code
def yX7_lay : MethodName := ⟨RX7, "lay", "(IIIII)V"⟩
abbrev cX7_person : ByteArray := prog_9_method_6_code
def yX7_person : MethodName := ⟨RX7, "person", "(IIII)I"⟩
abbrev cX7_set : ByteArray := prog_9_method_7_code
def yX7_set : MethodName := ⟨RX7, "set", "(III)I"⟩
abbrev cX7_there : ByteArray := prog_9_method_8_code
def yX7_there : MethodName := ⟨RX7, "there", "(IZ)I"⟩
abbrev cX7_row : ByteArray := prog_9_method_9_code
def yX7_row : MethodName := ⟨RX7, "row", "(III)I"⟩
abbrev cX7_feed : ByteArray := prog_9_method_10_code
def yX7_feed : MethodName := ⟨RX7, "feed", "(I)I"⟩
abbrev cX7_next : ByteArray := prog_9_method_11_code
def yX7_next : MethodName := ⟨RX7, "next", "()I"⟩
abbrev cX7_takes : ByteArray := prog_9_method_12_code
def yX7_takes : MethodName := ⟨RX7, "takes", "(I)Z"⟩
abbrev cX7_takesWord : ByteArray := prog_9_method_13_code
def yX7_takesWord : MethodName := ⟨RX7, "takesWord", "(II)Z"⟩
abbrev cX7_isDigit : ByteArray := prog_9_method_14_code
def yX7_isDigit : MethodName := ⟨RX7, "isDigit", "()Z"⟩
abbrev cX7_takesNumber : ByteArray := prog_9_method_15_code
def yX7_takesNumber : MethodName := ⟨RX7, "takesNumber", "()Z"⟩
abbrev cX7_emits : ByteArray := prog_9_method_16_code
def yX7_emits : MethodName := ⟨RX7, "emits", "(I)V"⟩
abbrev cX7_whole : ByteArray := prog_9_method_17_code
def yX7_whole : MethodName := ⟨RX7, "whole", "()V"⟩
abbrev cX7_settle : ByteArray := prog_9_method_18_code
def yX7_settle : MethodName := ⟨RX7, "settle", "(I)V"⟩
abbrev cX7_place : ByteArray := prog_9_method_19_code
def yX7_place : MethodName := ⟨RX7, "place", "(I)I"⟩
abbrev cX7_takesTest : ByteArray := prog_9_method_20_code
def yX7_takesTest : MethodName := ⟨RX7, "takesTest", "()Z"⟩
abbrev cX7_takesE : ByteArray := prog_9_method_21_code
def yX7_takesE : MethodName := ⟨RX7, "takesE", "(I)Z"⟩
abbrev cX7_takesHead : ByteArray := prog_9_method_22_code
def yX7_takesHead : MethodName := ⟨RX7, "takesHead", "(I)Z"⟩
abbrev cX7_takesClause : ByteArray := prog_9_method_23_code
def yX7_takesClause : MethodName := ⟨RX7, "takesClause", "(I)Z"⟩
abbrev cX7_goesText : ByteArray := prog_9_method_24_code
def yX7_goesText : MethodName := ⟨RX7, "goesText", "(I)Z"⟩
abbrev cX7_town : ByteArray := prog_9_method_25_code
def yX7_town : MethodName := ⟨RX7, "town", "()I"⟩
abbrev cX7_clauseFrom : ByteArray := prog_9_method_26_code
def yX7_clauseFrom : MethodName := ⟨RX7, "clauseFrom", "()I"⟩
abbrev cX7_clauseTo : ByteArray := prog_9_method_27_code
def yX7_clauseTo : MethodName := ⟨RX7, "clauseTo", "()I"⟩
abbrev cX7_lastOf : ByteArray := prog_9_method_28_code
def yX7_lastOf : MethodName := ⟨RX7, "lastOf", "(II)I"⟩
abbrev cX7_dueNow : ByteArray := prog_9_method_29_code
def yX7_dueNow : MethodName := ⟨RX7, "dueNow", "()I"⟩
abbrev cX7_manyBorn : ByteArray := prog_9_method_30_code
def yX7_manyBorn : MethodName := ⟨RX7, "manyBorn", "(I)I"⟩
abbrev cX7_factOf : ByteArray := prog_9_method_31_code
def yX7_factOf : MethodName := ⟨RX7, "factOf", "(III)I"⟩
abbrev cX7_holds : ByteArray := prog_9_method_32_code
def yX7_holds : MethodName := ⟨RX7, "holds", "(III)Z"⟩
abbrev cX7_takesOf : ByteArray := prog_9_method_33_code
def yX7_takesOf : MethodName := ⟨RX7, "takesOf", "(II)I"⟩
abbrev cX7_thatOne : ByteArray := prog_9_method_34_code
def yX7_thatOne : MethodName := ⟨RX7, "thatOne", "(I)I"⟩
abbrev cX7_behindHated : ByteArray := prog_9_method_35_code
def yX7_behindHated : MethodName := ⟨RX7, "behindHated", "(I)I"⟩
abbrev cX7_shunned : ByteArray := prog_9_method_36_code
def yX7_shunned : MethodName := ⟨RX7, "shunned", "(I)I"⟩
abbrev cX7_wishedDay : ByteArray := prog_9_method_37_code
def yX7_wishedDay : MethodName := ⟨RX7, "wishedDay", "(I)I"⟩
abbrev cX7_sells : ByteArray := prog_9_method_38_code
def yX7_sells : MethodName := ⟨RX7, "sells", "(I)I"⟩
abbrev cX7_putOff : ByteArray := prog_9_method_39_code
def yX7_putOff : MethodName := ⟨RX7, "putOff", "(I)I"⟩
abbrev cX7_of : ByteArray := prog_9_method_40_code
def yX7_of : MethodName := ⟨RX7, "of", "(II)I"⟩
abbrev cX7_allPurses : ByteArray := prog_9_method_41_code
def yX7_allPurses : MethodName := ⟨RX7, "allPurses", "()I"⟩
abbrev cX7_bornOn : ByteArray := prog_9_method_42_code
def yX7_bornOn : MethodName := ⟨RX7, "bornOn", "(I)I"⟩
abbrev cX7_sellOn : ByteArray := prog_9_method_43_code
def yX7_sellOn : MethodName := ⟨RX7, "sellOn", "(I)I"⟩
abbrev cX7_told : ByteArray := prog_9_method_44_code
def yX7_told : MethodName := ⟨RX7, "told", "(I)I"⟩
abbrev cX7_goDay : ByteArray := prog_9_method_45_code
def yX7_goDay : MethodName := ⟨RX7, "goDay", "()I"⟩
abbrev cX7_day : ByteArray := prog_9_method_46_code
def yX7_day : MethodName := ⟨RX7, "day", "()I"⟩
abbrev cX7_keep : ByteArray := prog_9_method_47_code
def yX7_keep : MethodName := ⟨RX7, "keep", "()V"⟩
abbrev cX7_putBack : ByteArray := prog_9_method_48_code
def yX7_putBack : MethodName := ⟨RX7, "putBack", "()V"⟩
abbrev cX7_by : ByteArray := prog_9_method_49_code
def yX7_by : MethodName := ⟨RX7, "by", "(III)I"⟩
abbrev cX7_layYear : ByteArray := prog_9_method_50_code
def yX7_layYear : MethodName := ⟨RX7, "layYear", "()V"⟩
abbrev cX7_yearOf : ByteArray := prog_9_method_51_code
def yX7_yearOf : MethodName := ⟨RX7, "yearOf", "(I)I"⟩
abbrev cX7_years : ByteArray := prog_9_method_52_code
def yX7_years : MethodName := ⟨RX7, "years", "(I)I"⟩
abbrev cX7_layBest : ByteArray := prog_9_method_53_code
def yX7_layBest : MethodName := ⟨RX7, "layBest", "(IZ)V"⟩
abbrev cX7_birth : ByteArray := prog_9_method_54_code
def yX7_birth : MethodName := ⟨RX7, "birth", "(II)I"⟩
abbrev cX7_plan : ByteArray := prog_9_method_55_code
def yX7_plan : MethodName := ⟨RX7, "plan", "(II)I"⟩
abbrev cX7_quiet : ByteArray := prog_9_method_56_code
def yX7_quiet : MethodName := ⟨RX7, "quiet", "()I"⟩
abbrev cX7_foundling : ByteArray := prog_9_method_57_code
def yX7_foundling : MethodName := ⟨RX7, "foundling", "(II)I"⟩
abbrev cX7_forged : ByteArray := prog_9_method_58_code
def yX7_forged : MethodName := ⟨RX7, "forged", "(I)I"⟩
abbrev cX7_wouldChange : ByteArray := prog_9_method_59_code
def yX7_wouldChange : MethodName := ⟨RX7, "wouldChange", "(I)Z"⟩
abbrev cX7_change : ByteArray := prog_9_method_60_code
def yX7_change : MethodName := ⟨RX7, "change", "(I)I"⟩
abbrev cX7_layRest : ByteArray := prog_9_method_61_code
def yX7_layRest : MethodName := ⟨RX7, "layRest", "()I"⟩
abbrev cX7_rest : ByteArray := prog_9_method_62_code
def yX7_rest : MethodName := ⟨RX7, "rest", "(I)I"⟩
abbrev cX7_allMore : ByteArray := prog_9_method_63_code
def yX7_allMore : MethodName := ⟨RX7, "allMore", "()I"⟩
abbrev cX7_reckoning : ByteArray := prog_9_method_64_code
def yX7_reckoning : MethodName := ⟨RX7, "reckoning", "(I)I"⟩
abbrev cX7_high : ByteArray := prog_9_method_65_code
def yX7_high : MethodName := ⟨RX7, "high", "(I)I"⟩
abbrev cX7_othersMore : ByteArray := prog_9_method_66_code
def yX7_othersMore : MethodName := ⟨RX7, "othersMore", "(I)I"⟩
abbrev cX7_last : ByteArray := prog_9_method_67_code
def yX7_last : MethodName := ⟨RX7, "last", "(I)I"⟩
abbrev cX7_divisor : ByteArray := prog_9_method_68_code
def yX7_divisor : MethodName := ⟨RX7, "divisor", "(II)I"⟩
abbrev cX7_lowest : ByteArray := prog_9_method_69_code
def yX7_lowest : MethodName := ⟨RX7, "lowest", "(III)J"⟩
abbrev cX7_yearIf : ByteArray := prog_9_method_70_code
def yX7_yearIf : MethodName := ⟨RX7, "yearIf", "(II)I"⟩
abbrev cX7_odds : ByteArray := prog_9_method_71_code
def yX7_odds : MethodName := ⟨RX7, "odds", "(III)J"⟩
abbrev cX7_mean : ByteArray := prog_9_method_72_code
def yX7_mean : MethodName := ⟨RX7, "mean", "(I)J"⟩
abbrev cX7_book : ByteArray := prog_9_method_73_code
def yX7_book : MethodName := ⟨RX7, "book", "(I)I"⟩
abbrev cX7_looked : ByteArray := prog_9_method_74_code
def yX7_looked : MethodName := ⟨RX7, "looked", "(I)I"⟩
abbrev cX7_judge : ByteArray := prog_9_method_75_code
def yX7_judge : MethodName := ⟨RX7, "judge", "(II)I"⟩
abbrev cX7_image : ByteArray := prog_9_method_76_code
def yX7_image : MethodName := ⟨RX7, "image", "()I"⟩
abbrev cX7_undo : ByteArray := prog_9_method_77_code
def yX7_undo : MethodName := ⟨RX7, "undo", "()I"⟩
abbrev cX7_body : ByteArray := prog_9_method_78_code
def yX7_body : MethodName := ⟨RX7, "body", "(I)V"⟩
abbrev cX7_sellerSells : ByteArray := prog_9_method_79_code
def yX7_sellerSells : MethodName := ⟨RX7, "sellerSells", "(II)I"⟩
abbrev cX7_sellsAct : ByteArray := prog_9_method_80_code
def yX7_sellsAct : MethodName := ⟨RX7, "sellsAct", "(II)I"⟩
abbrev cX7_sellerGives : ByteArray := prog_9_method_81_code
def yX7_sellerGives : MethodName := ⟨RX7, "sellerGives", "(II)I"⟩
abbrev cX7_haterGives : ByteArray := prog_9_method_82_code
def yX7_haterGives : MethodName := ⟨RX7, "haterGives", "(II)I"⟩
abbrev cX7_givesAct : ByteArray := prog_9_method_83_code
def yX7_givesAct : MethodName := ⟨RX7, "givesAct", "(II)I"⟩
abbrev cX7_sellerTells : ByteArray := prog_9_method_84_code
def yX7_sellerTells : MethodName := ⟨RX7, "sellerTells", "(II)I"⟩
abbrev cX7_tellsAct : ByteArray := prog_9_method_85_code
def yX7_tellsAct : MethodName := ⟨RX7, "tellsAct", "(II)I"⟩
abbrev cX7_act : ByteArray := prog_9_method_86_code
def yX7_act : MethodName := ⟨RX7, "act", "(III)I"⟩
abbrev cX7_trace : ByteArray := prog_9_method_87_code
def yX7_trace : MethodName := ⟨RX7, "trace", "(I)I"⟩
abbrev cX7_taken : ByteArray := prog_9_method_88_code
def yX7_taken : MethodName := ⟨RX7, "taken", "(II)I"⟩
abbrev cX7_count : ByteArray := prog_9_method_89_code
def yX7_count : MethodName := ⟨RX7, "count", "(I)I"⟩
abbrev cX7_isTape : ByteArray := prog_9_method_90_code
def yX7_isTape : MethodName := ⟨RX7, "isTape", "(I)Z"⟩
abbrev cX7_tape : ByteArray := prog_9_method_91_code
def yX7_tape : MethodName := ⟨RX7, "tape", "(III)I"⟩
abbrev cX7_narrow : ByteArray := prog_9_method_92_code
def yX7_narrow : MethodName := ⟨RX7, "narrow", "(IJ)J"⟩
abbrev cX7_item : ByteArray := prog_9_method_93_code
def yX7_item : MethodName := ⟨RX7, "item", "(IIJ)I"⟩
abbrev cX7_read : ByteArray := prog_9_method_94_code
def yX7_read : MethodName := ⟨RX7, "read", "(II)J"⟩
abbrev cX7_shift : ByteArray := prog_9_method_95_code
def yX7_shift : MethodName := ⟨RX7, "shift", "(IIIII)I"⟩
def RJ9 : String := "java/lang/Math"
def TJ9 : u_T := fun k => match k with
  | _ => ("", "", "", false)
def tyJ9 : Nat → FieldType := fun k => match k with
  | _ => .int
abbrev wsJ90 : List Cond := u_ws RJ9 TJ9 0
theorem nmJ9 : ∀ a, a < 0 → ∀ b, b < 0 → a ≠ b → (TJ9 a).2.1 ≠ (TJ9 b).2.1 := by decide +kernel
theorem tyJ9_ok : ∀ k, k < 0 → parseFieldDescriptor (TJ9 k).2.2.1 = some (tyJ9 k) := by decide +kernel
abbrev cJ9_abs_0f7a4 : ByteArray := prog_10_method_59_code
def yJ9_abs_0f7a4 : MethodName := ⟨RJ9, "abs", "(I)I"⟩
def RJ0 : String := "java/lang/String"
def TJ0 : u_T := fun k => match k with
  | _ => ("", "", "", false)
def tyJ0 : Nat → FieldType := fun k => match k with
  | _ => .int
abbrev wsJ00 : List Cond := u_ws RJ0 TJ0 0
theorem nmJ0 : ∀ a, a < 0 → ∀ b, b < 0 → a ≠ b → (TJ0 a).2.1 ≠ (TJ0 b).2.1 := by decide +kernel
theorem tyJ0_ok : ∀ k, k < 0 → parseFieldDescriptor (TJ0 k).2.2.1 = some (tyJ0 k) := by decide +kernel
abbrev cJ0_length_8abf5 : ByteArray := prog_11_method_54_code
def yJ0_length_8abf5 : MethodName := ⟨RJ0, "length", "()I"⟩
abbrev cJ0_charAt_5068e : ByteArray := prog_11_method_56_code
def yJ0_charAt_5068e : MethodName := ⟨RJ0, "charAt", "(I)C"⟩
abbrev cJ0_coder_7d493 : ByteArray := prog_11_method_152_code
def yJ0_coder_7d493 : MethodName := ⟨RJ0, "coder", "()B"⟩
abbrev cJ0_isLatin1_aae02 : ByteArray := prog_11_method_154_code
def yJ0_isLatin1_aae02 : MethodName := ⟨RJ0, "isLatin1", "()Z"⟩
abbrev cJ0_checkIndex_df160 : ByteArray := prog_11_method_155_code
def yJ0_checkIndex_df160 : MethodName := ⟨RJ0, "checkIndex", "(II)V"⟩
def RJ1 : String := "java/lang/StringLatin1"
def TJ1 : u_T := fun k => match k with
  | _ => ("", "", "", false)
def tyJ1 : Nat → FieldType := fun k => match k with
  | _ => .int
abbrev wsJ10 : List Cond := u_ws RJ1 TJ1 0
theorem nmJ1 : ∀ a, a < 0 → ∀ b, b < 0 → a ≠ b → (TJ1 a).2.1 ≠ (TJ1 b).2.1 := by decide +kernel
theorem tyJ1_ok : ∀ k, k < 0 → parseFieldDescriptor (TJ1 k).2.2.1 = some (tyJ1 k) := by decide +kernel
abbrev cJ1_charAt_3b067 : ByteArray := prog_12_method_2_code
def yJ1_charAt_3b067 : MethodName := ⟨RJ1, "charAt", "([BI)C"⟩
def RJ2 : String := "java/lang/StringUTF16"
def TJ2 : u_T := fun k => match k with
  | _ => ("", "", "", false)
def tyJ2 : Nat → FieldType := fun k => match k with
  | _ => .int
abbrev wsJ20 : List Cond := u_ws RJ2 TJ2 0
theorem nmJ2 : ∀ a, a < 0 → ∀ b, b < 0 → a ≠ b → (TJ2 a).2.1 ≠ (TJ2 b).2.1 := by decide +kernel
theorem tyJ2_ok : ∀ k, k < 0 → parseFieldDescriptor (TJ2 k).2.2.1 = some (tyJ2 k) := by decide +kernel
abbrev cJ2_getChar_3b067 : ByteArray := prog_13_method_5_code
def yJ2_getChar_3b067 : MethodName := ⟨RJ2, "getChar", "([BI)C"⟩
abbrev cJ2_length_9d52b : ByteArray := prog_13_method_6_code
def yJ2_length_9d52b : MethodName := ⟨RJ2, "length", "([B)I"⟩
abbrev cJ2_charAt_3b067 : ByteArray := prog_13_method_83_code
def yJ2_charAt_3b067 : MethodName := ⟨RJ2, "charAt", "([BI)C"⟩
abbrev cJ2_checkIndex_2214a : ByteArray := prog_13_method_91_code
def yJ2_checkIndex_2214a : MethodName := ⟨RJ2, "checkIndex", "(I[B)V"⟩
def RJ10 : String := "java/lang/System"
def TJ10 : u_T := fun k => match k with
  | _ => ("", "", "", false)
def tyJ10 : Nat → FieldType := fun k => match k with
  | _ => .int
abbrev wsJ100 : List Cond := u_ws RJ10 TJ10 0
theorem nmJ10 : ∀ a, a < 0 → ∀ b, b < 0 → a ≠ b → (TJ10 a).2.1 ≠ (TJ10 b).2.1 := by decide +kernel
theorem tyJ10_ok : ∀ k, k < 0 → parseFieldDescriptor (TJ10 k).2.2.1 = some (tyJ10 k) := by decide +kernel
def RJ3 : String := "jdk/internal/util/Preconditions"
def TJ3 : u_T := fun k => match k with
  | _ => ("", "", "", false)
def tyJ3 : Nat → FieldType := fun k => match k with
  | _ => .int
abbrev wsJ30 : List Cond := u_ws RJ3 TJ3 0
theorem nmJ3 : ∀ a, a < 0 → ∀ b, b < 0 → a ≠ b → (TJ3 a).2.1 ≠ (TJ3 b).2.1 := by decide +kernel
theorem tyJ3_ok : ∀ k, k < 0 → parseFieldDescriptor (TJ3 k).2.2.1 = some (tyJ3 k) := by decide +kernel
abbrev cJ3_checkIndex_8e157 : ByteArray := prog_15_method_11_code
def yJ3_checkIndex_8e157 : MethodName := ⟨RJ3, "checkIndex", "(IILjava/util/function/BiFunction;)I"⟩
def RL : String := "BirthTenthLaw"
abbrev cL_law : ByteArray := code
def yL_law : MethodName := ⟨RL, "law", "([I)Z"⟩
abbrev vwCl : List vw_C := [(RX0, TX0, 5), (RX1, TX1, 9), (RX2, TX2, 13), (RX3, TX3, 3), (RX4, TX4, 4), (RX5, TX5, 10), (RX6, TX6, 11), (RX7, TX7, 60)]
/-- the words that may be passed on -/
def jG : List Cond := lw_tbl.filter goodWord
theorem jG_in {w : Cond} (i : Nat) (h : lw_tbl[i]? = some w) (hg : goodWord w = true) : w ∈ jG := List.mem_filter.mpr ⟨List.mem_of_getElem? h, hg⟩
theorem jG_good : GoodIn jG jG := fun w h => ⟨h, good_of_word (List.mem_filter.mp h).2⟩
theorem jG_tbl : ∀ w ∈ jG, w ∈ lw_tbl := fun w h => (List.mem_filter.mp h).1
set_option maxRecDepth 100000 in
theorem jl0_0 : u_lay RX0 TX0 0 ∈ jG := jG_in 148 rfl rfl
set_option maxRecDepth 100000 in
theorem jl0_1 : u_lay RX0 TX0 1 ∈ jG := jG_in 150 rfl rfl
set_option maxRecDepth 100000 in
theorem jl0_2 : u_lay RX0 TX0 2 ∈ jG := jG_in 152 rfl rfl
set_option maxRecDepth 100000 in
theorem jl0_3 : u_lay RX0 TX0 3 ∈ jG := jG_in 154 rfl rfl
set_option maxRecDepth 100000 in
theorem jl0_4 : u_lay RX0 TX0 4 ∈ jG := jG_in 156 rfl rfl
theorem jin0 : ∀ w ∈ wsX00, w ∈ jG := by
  intro w hw
  obtain ⟨k, hk, rfl⟩ := List.mem_map.mp hw
  have hk := List.mem_range.mp hk
  match k, hk with
  | 0, _ => exact jl0_0
  | 1, _ => exact jl0_1
  | 2, _ => exact jl0_2
  | 3, _ => exact jl0_3
  | 4, _ => exact jl0_4
  | k + 5, hk => omega
set_option maxRecDepth 100000 in
theorem jl1_0 : u_lay RX1 TX1 0 ∈ jG := jG_in 306 rfl rfl
set_option maxRecDepth 100000 in
theorem jl1_1 : u_lay RX1 TX1 1 ∈ jG := jG_in 308 rfl rfl
set_option maxRecDepth 100000 in
theorem jl1_2 : u_lay RX1 TX1 2 ∈ jG := jG_in 310 rfl rfl
set_option maxRecDepth 100000 in
theorem jl1_3 : u_lay RX1 TX1 3 ∈ jG := jG_in 312 rfl rfl
set_option maxRecDepth 100000 in
theorem jl1_4 : u_lay RX1 TX1 4 ∈ jG := jG_in 314 rfl rfl
set_option maxRecDepth 100000 in
theorem jl1_5 : u_lay RX1 TX1 5 ∈ jG := jG_in 316 rfl rfl
set_option maxRecDepth 100000 in
theorem jl1_6 : u_lay RX1 TX1 6 ∈ jG := jG_in 318 rfl rfl
set_option maxRecDepth 100000 in
theorem jl1_7 : u_lay RX1 TX1 7 ∈ jG := jG_in 320 rfl rfl
set_option maxRecDepth 100000 in
theorem jl1_8 : u_lay RX1 TX1 8 ∈ jG := jG_in 322 rfl rfl
theorem jin1 : ∀ w ∈ wsX10, w ∈ jG := by
  intro w hw
  obtain ⟨k, hk, rfl⟩ := List.mem_map.mp hw
  have hk := List.mem_range.mp hk
  match k, hk with
  | 0, _ => exact jl1_0
  | 1, _ => exact jl1_1
  | 2, _ => exact jl1_2
  | 3, _ => exact jl1_3
  | 4, _ => exact jl1_4
  | 5, _ => exact jl1_5
  | 6, _ => exact jl1_6
  | 7, _ => exact jl1_7
  | 8, _ => exact jl1_8
  | k + 9, hk => omega
set_option maxRecDepth 100000 in
theorem jl2_0 : u_lay RX2 TX2 0 ∈ jG := jG_in 257 rfl rfl
set_option maxRecDepth 100000 in
theorem jl2_1 : u_lay RX2 TX2 1 ∈ jG := jG_in 259 rfl rfl
set_option maxRecDepth 100000 in
theorem jl2_2 : u_lay RX2 TX2 2 ∈ jG := jG_in 261 rfl rfl
set_option maxRecDepth 100000 in
theorem jl2_3 : u_lay RX2 TX2 3 ∈ jG := jG_in 263 rfl rfl
set_option maxRecDepth 100000 in
theorem jl2_4 : u_lay RX2 TX2 4 ∈ jG := jG_in 265 rfl rfl
set_option maxRecDepth 100000 in
theorem jl2_5 : u_lay RX2 TX2 5 ∈ jG := jG_in 267 rfl rfl
set_option maxRecDepth 100000 in
theorem jl2_6 : u_lay RX2 TX2 6 ∈ jG := jG_in 269 rfl rfl
set_option maxRecDepth 100000 in
theorem jl2_7 : u_lay RX2 TX2 7 ∈ jG := jG_in 271 rfl rfl
set_option maxRecDepth 100000 in
theorem jl2_8 : u_lay RX2 TX2 8 ∈ jG := jG_in 273 rfl rfl
set_option maxRecDepth 100000 in
theorem jl2_9 : u_lay RX2 TX2 9 ∈ jG := jG_in 275 rfl rfl
set_option maxRecDepth 100000 in
theorem jl2_10 : u_lay RX2 TX2 10 ∈ jG := jG_in 277 rfl rfl
set_option maxRecDepth 100000 in
theorem jl2_11 : u_lay RX2 TX2 11 ∈ jG := jG_in 279 rfl rfl
set_option maxRecDepth 100000 in
theorem jl2_12 : u_lay RX2 TX2 12 ∈ jG := jG_in 281 rfl rfl
theorem jin2 : ∀ w ∈ wsX20, w ∈ jG := by
  intro w hw
  obtain ⟨k, hk, rfl⟩ := List.mem_map.mp hw
  have hk := List.mem_range.mp hk
  match k, hk with
  | 0, _ => exact jl2_0
  | 1, _ => exact jl2_1
  | 2, _ => exact jl2_2
  | 3, _ => exact jl2_3
  | 4, _ => exact jl2_4
  | 5, _ => exact jl2_5
  | 6, _ => exact jl2_6
  | 7, _ => exact jl2_7
  | 8, _ => exact jl2_8
  | 9, _ => exact jl2_9
  | 10, _ => exact jl2_10
  | 11, _ => exact jl2_11
  | 12, _ => exact jl2_12
  | k + 13, hk => omega
set_option maxRecDepth 100000 in
theorem jl3_0 : u_lay RX3 TX3 0 ∈ jG := jG_in 336 rfl rfl
set_option maxRecDepth 100000 in
theorem jl3_1 : u_lay RX3 TX3 1 ∈ jG := jG_in 338 rfl rfl
set_option maxRecDepth 100000 in
theorem jl3_2 : u_lay RX3 TX3 2 ∈ jG := jG_in 340 rfl rfl
theorem jin3 : ∀ w ∈ wsX30, w ∈ jG := by
  intro w hw
  obtain ⟨k, hk, rfl⟩ := List.mem_map.mp hw
  have hk := List.mem_range.mp hk
  match k, hk with
  | 0, _ => exact jl3_0
  | 1, _ => exact jl3_1
  | 2, _ => exact jl3_2
  | k + 3, hk => omega
set_option maxRecDepth 100000 in
theorem jl4_0 : u_lay RX4 TX4 0 ∈ jG := jG_in 122 rfl rfl
set_option maxRecDepth 100000 in
theorem jl4_1 : u_lay RX4 TX4 1 ∈ jG := jG_in 124 rfl rfl
set_option maxRecDepth 100000 in
theorem jl4_2 : u_lay RX4 TX4 2 ∈ jG := jG_in 126 rfl rfl
set_option maxRecDepth 100000 in
theorem jl4_3 : u_lay RX4 TX4 3 ∈ jG := jG_in 128 rfl rfl
theorem jin4 : ∀ w ∈ wsX40, w ∈ jG := by
  intro w hw
  obtain ⟨k, hk, rfl⟩ := List.mem_map.mp hw
  have hk := List.mem_range.mp hk
  match k, hk with
  | 0, _ => exact jl4_0
  | 1, _ => exact jl4_1
  | 2, _ => exact jl4_2
  | 3, _ => exact jl4_3
  | k + 4, hk => omega
set_option maxRecDepth 100000 in
theorem jl5_0 : u_lay RX5 TX5 0 ∈ jG := jG_in 194 rfl rfl
set_option maxRecDepth 100000 in
theorem jl5_1 : u_lay RX5 TX5 1 ∈ jG := jG_in 196 rfl rfl
set_option maxRecDepth 100000 in
theorem jl5_2 : u_lay RX5 TX5 2 ∈ jG := jG_in 198 rfl rfl
set_option maxRecDepth 100000 in
theorem jl5_3 : u_lay RX5 TX5 3 ∈ jG := jG_in 200 rfl rfl
set_option maxRecDepth 100000 in
theorem jl5_4 : u_lay RX5 TX5 4 ∈ jG := jG_in 202 rfl rfl
set_option maxRecDepth 100000 in
theorem jl5_5 : u_lay RX5 TX5 5 ∈ jG := jG_in 204 rfl rfl
set_option maxRecDepth 100000 in
theorem jl5_6 : u_lay RX5 TX5 6 ∈ jG := jG_in 206 rfl rfl
set_option maxRecDepth 100000 in
theorem jl5_7 : u_lay RX5 TX5 7 ∈ jG := jG_in 208 rfl rfl
set_option maxRecDepth 100000 in
theorem jl5_8 : u_lay RX5 TX5 8 ∈ jG := jG_in 210 rfl rfl
set_option maxRecDepth 100000 in
theorem jl5_9 : u_lay RX5 TX5 9 ∈ jG := jG_in 212 rfl rfl
theorem jin5 : ∀ w ∈ wsX50, w ∈ jG := by
  intro w hw
  obtain ⟨k, hk, rfl⟩ := List.mem_map.mp hw
  have hk := List.mem_range.mp hk
  match k, hk with
  | 0, _ => exact jl5_0
  | 1, _ => exact jl5_1
  | 2, _ => exact jl5_2
  | 3, _ => exact jl5_3
  | 4, _ => exact jl5_4
  | 5, _ => exact jl5_5
  | 6, _ => exact jl5_6
  | 7, _ => exact jl5_7
  | 8, _ => exact jl5_8
  | 9, _ => exact jl5_9
  | k + 10, hk => omega
set_option maxRecDepth 100000 in
theorem jl6_0 : u_lay RX6 TX6 0 ∈ jG := jG_in 355 rfl rfl
set_option maxRecDepth 100000 in
theorem jl6_1 : u_lay RX6 TX6 1 ∈ jG := jG_in 357 rfl rfl
set_option maxRecDepth 100000 in
theorem jl6_2 : u_lay RX6 TX6 2 ∈ jG := jG_in 359 rfl rfl
set_option maxRecDepth 100000 in
theorem jl6_3 : u_lay RX6 TX6 3 ∈ jG := jG_in 361 rfl rfl
set_option maxRecDepth 100000 in
theorem jl6_4 : u_lay RX6 TX6 4 ∈ jG := jG_in 363 rfl rfl
set_option maxRecDepth 100000 in
theorem jl6_5 : u_lay RX6 TX6 5 ∈ jG := jG_in 365 rfl rfl
set_option maxRecDepth 100000 in
theorem jl6_6 : u_lay RX6 TX6 6 ∈ jG := jG_in 367 rfl rfl
set_option maxRecDepth 100000 in
theorem jl6_7 : u_lay RX6 TX6 7 ∈ jG := jG_in 369 rfl rfl
set_option maxRecDepth 100000 in
theorem jl6_8 : u_lay RX6 TX6 8 ∈ jG := jG_in 371 rfl rfl
set_option maxRecDepth 100000 in
theorem jl6_9 : u_lay RX6 TX6 9 ∈ jG := jG_in 373 rfl rfl
set_option maxRecDepth 100000 in
theorem jl6_10 : u_lay RX6 TX6 10 ∈ jG := jG_in 375 rfl rfl
theorem jin6 : ∀ w ∈ wsX60, w ∈ jG := by
  intro w hw
  obtain ⟨k, hk, rfl⟩ := List.mem_map.mp hw
  have hk := List.mem_range.mp hk
  match k, hk with
  | 0, _ => exact jl6_0
  | 1, _ => exact jl6_1
  | 2, _ => exact jl6_2
  | 3, _ => exact jl6_3
  | 4, _ => exact jl6_4
  | 5, _ => exact jl6_5
  | 6, _ => exact jl6_6
  | 7, _ => exact jl6_7
  | 8, _ => exact jl6_8
  | 9, _ => exact jl6_9
  | 10, _ => exact jl6_10
  | k + 11, hk => omega
set_option maxRecDepth 100000 in
theorem jl7_0 : u_lay RX7 TX7 0 ∈ jG := jG_in 843 rfl rfl
set_option maxRecDepth 100000 in
theorem jl7_1 : u_lay RX7 TX7 1 ∈ jG := jG_in 845 rfl rfl
set_option maxRecDepth 100000 in
theorem jl7_2 : u_lay RX7 TX7 2 ∈ jG := jG_in 847 rfl rfl
set_option maxRecDepth 100000 in
theorem jl7_3 : u_lay RX7 TX7 3 ∈ jG := jG_in 849 rfl rfl
set_option maxRecDepth 100000 in
theorem jl7_4 : u_lay RX7 TX7 4 ∈ jG := jG_in 851 rfl rfl
set_option maxRecDepth 100000 in
theorem jl7_5 : u_lay RX7 TX7 5 ∈ jG := jG_in 853 rfl rfl
set_option maxRecDepth 100000 in
theorem jl7_6 : u_lay RX7 TX7 6 ∈ jG := jG_in 855 rfl rfl
set_option maxRecDepth 100000 in
theorem jl7_7 : u_lay RX7 TX7 7 ∈ jG := jG_in 857 rfl rfl
set_option maxRecDepth 100000 in
theorem jl7_8 : u_lay RX7 TX7 8 ∈ jG := jG_in 859 rfl rfl
set_option maxRecDepth 100000 in
theorem jl7_9 : u_lay RX7 TX7 9 ∈ jG := jG_in 861 rfl rfl
set_option maxRecDepth 100000 in
theorem jl7_10 : u_lay RX7 TX7 10 ∈ jG := jG_in 863 rfl rfl
set_option maxRecDepth 100000 in
theorem jl7_11 : u_lay RX7 TX7 11 ∈ jG := jG_in 865 rfl rfl
set_option maxRecDepth 100000 in
theorem jl7_12 : u_lay RX7 TX7 12 ∈ jG := jG_in 867 rfl rfl
set_option maxRecDepth 100000 in
theorem jl7_13 : u_lay RX7 TX7 13 ∈ jG := jG_in 869 rfl rfl
set_option maxRecDepth 100000 in
theorem jl7_14 : u_lay RX7 TX7 14 ∈ jG := jG_in 871 rfl rfl
set_option maxRecDepth 100000 in
theorem jl7_15 : u_lay RX7 TX7 15 ∈ jG := jG_in 873 rfl rfl
set_option maxRecDepth 100000 in
theorem jl7_16 : u_lay RX7 TX7 16 ∈ jG := jG_in 875 rfl rfl
set_option maxRecDepth 100000 in
theorem jl7_17 : u_lay RX7 TX7 17 ∈ jG := jG_in 877 rfl rfl
set_option maxRecDepth 100000 in
theorem jl7_18 : u_lay RX7 TX7 18 ∈ jG := jG_in 879 rfl rfl
set_option maxRecDepth 100000 in
theorem jl7_19 : u_lay RX7 TX7 19 ∈ jG := jG_in 881 rfl rfl
set_option maxRecDepth 100000 in
theorem jl7_20 : u_lay RX7 TX7 20 ∈ jG := jG_in 883 rfl rfl
set_option maxRecDepth 100000 in
theorem jl7_21 : u_lay RX7 TX7 21 ∈ jG := jG_in 885 rfl rfl
set_option maxRecDepth 100000 in
theorem jl7_22 : u_lay RX7 TX7 22 ∈ jG := jG_in 887 rfl rfl
set_option maxRecDepth 100000 in
theorem jl7_23 : u_lay RX7 TX7 23 ∈ jG := jG_in 889 rfl rfl
set_option maxRecDepth 100000 in
theorem jl7_24 : u_lay RX7 TX7 24 ∈ jG := jG_in 891 rfl rfl
set_option maxRecDepth 100000 in
theorem jl7_25 : u_lay RX7 TX7 25 ∈ jG := jG_in 893 rfl rfl
set_option maxRecDepth 100000 in
theorem jl7_26 : u_lay RX7 TX7 26 ∈ jG := jG_in 895 rfl rfl
set_option maxRecDepth 100000 in
theorem jl7_27 : u_lay RX7 TX7 27 ∈ jG := jG_in 897 rfl rfl
set_option maxRecDepth 100000 in
theorem jl7_28 : u_lay RX7 TX7 28 ∈ jG := jG_in 899 rfl rfl
set_option maxRecDepth 100000 in
theorem jl7_29 : u_lay RX7 TX7 29 ∈ jG := jG_in 901 rfl rfl
set_option maxRecDepth 100000 in
theorem jl7_30 : u_lay RX7 TX7 30 ∈ jG := jG_in 903 rfl rfl
set_option maxRecDepth 100000 in
theorem jl7_31 : u_lay RX7 TX7 31 ∈ jG := jG_in 905 rfl rfl
set_option maxRecDepth 100000 in
theorem jl7_32 : u_lay RX7 TX7 32 ∈ jG := jG_in 907 rfl rfl
set_option maxRecDepth 100000 in
theorem jl7_33 : u_lay RX7 TX7 33 ∈ jG := jG_in 909 rfl rfl
set_option maxRecDepth 100000 in
theorem jl7_34 : u_lay RX7 TX7 34 ∈ jG := jG_in 911 rfl rfl
set_option maxRecDepth 100000 in
theorem jl7_35 : u_lay RX7 TX7 35 ∈ jG := jG_in 913 rfl rfl
set_option maxRecDepth 100000 in
theorem jl7_36 : u_lay RX7 TX7 36 ∈ jG := jG_in 915 rfl rfl
set_option maxRecDepth 100000 in
theorem jl7_37 : u_lay RX7 TX7 37 ∈ jG := jG_in 917 rfl rfl
set_option maxRecDepth 100000 in
theorem jl7_38 : u_lay RX7 TX7 38 ∈ jG := jG_in 919 rfl rfl
set_option maxRecDepth 100000 in
theorem jl7_39 : u_lay RX7 TX7 39 ∈ jG := jG_in 921 rfl rfl
set_option maxRecDepth 100000 in
theorem jl7_40 : u_lay RX7 TX7 40 ∈ jG := jG_in 923 rfl rfl
set_option maxRecDepth 100000 in
theorem jl7_41 : u_lay RX7 TX7 41 ∈ jG := jG_in 925 rfl rfl
set_option maxRecDepth 100000 in
theorem jl7_42 : u_lay RX7 TX7 42 ∈ jG := jG_in 927 rfl rfl
set_option maxRecDepth 100000 in
theorem jl7_43 : u_lay RX7 TX7 43 ∈ jG := jG_in 929 rfl rfl
set_option maxRecDepth 100000 in
theorem jl7_44 : u_lay RX7 TX7 44 ∈ jG := jG_in 931 rfl rfl
set_option maxRecDepth 100000 in
theorem jl7_45 : u_lay RX7 TX7 45 ∈ jG := jG_in 933 rfl rfl
set_option maxRecDepth 100000 in
theorem jl7_46 : u_lay RX7 TX7 46 ∈ jG := jG_in 935 rfl rfl
set_option maxRecDepth 100000 in
theorem jl7_47 : u_lay RX7 TX7 47 ∈ jG := jG_in 937 rfl rfl
set_option maxRecDepth 100000 in
theorem jl7_48 : u_lay RX7 TX7 48 ∈ jG := jG_in 939 rfl rfl
set_option maxRecDepth 100000 in
theorem jl7_49 : u_lay RX7 TX7 49 ∈ jG := jG_in 941 rfl rfl
set_option maxRecDepth 100000 in
theorem jl7_50 : u_lay RX7 TX7 50 ∈ jG := jG_in 943 rfl rfl
set_option maxRecDepth 100000 in
theorem jl7_51 : u_lay RX7 TX7 51 ∈ jG := jG_in 945 rfl rfl
set_option maxRecDepth 100000 in
theorem jl7_52 : u_lay RX7 TX7 52 ∈ jG := jG_in 947 rfl rfl
set_option maxRecDepth 100000 in
theorem jl7_53 : u_lay RX7 TX7 53 ∈ jG := jG_in 949 rfl rfl
set_option maxRecDepth 100000 in
theorem jl7_54 : u_lay RX7 TX7 54 ∈ jG := jG_in 951 rfl rfl
set_option maxRecDepth 100000 in
theorem jl7_55 : u_lay RX7 TX7 55 ∈ jG := jG_in 953 rfl rfl
set_option maxRecDepth 100000 in
theorem jl7_56 : u_lay RX7 TX7 56 ∈ jG := jG_in 955 rfl rfl
set_option maxRecDepth 100000 in
theorem jl7_57 : u_lay RX7 TX7 57 ∈ jG := jG_in 957 rfl rfl
set_option maxRecDepth 100000 in
theorem jl7_58 : u_lay RX7 TX7 58 ∈ jG := jG_in 959 rfl rfl
set_option maxRecDepth 100000 in
theorem jl7_59 : u_lay RX7 TX7 59 ∈ jG := jG_in 961 rfl rfl
theorem jin7 : ∀ w ∈ wsX70, w ∈ jG := by
  intro w hw
  obtain ⟨k, hk, rfl⟩ := List.mem_map.mp hw
  have hk := List.mem_range.mp hk
  match k, hk with
  | 0, _ => exact jl7_0
  | 1, _ => exact jl7_1
  | 2, _ => exact jl7_2
  | 3, _ => exact jl7_3
  | 4, _ => exact jl7_4
  | 5, _ => exact jl7_5
  | 6, _ => exact jl7_6
  | 7, _ => exact jl7_7
  | 8, _ => exact jl7_8
  | 9, _ => exact jl7_9
  | 10, _ => exact jl7_10
  | 11, _ => exact jl7_11
  | 12, _ => exact jl7_12
  | 13, _ => exact jl7_13
  | 14, _ => exact jl7_14
  | 15, _ => exact jl7_15
  | 16, _ => exact jl7_16
  | 17, _ => exact jl7_17
  | 18, _ => exact jl7_18
  | 19, _ => exact jl7_19
  | 20, _ => exact jl7_20
  | 21, _ => exact jl7_21
  | 22, _ => exact jl7_22
  | 23, _ => exact jl7_23
  | 24, _ => exact jl7_24
  | 25, _ => exact jl7_25
  | 26, _ => exact jl7_26
  | 27, _ => exact jl7_27
  | 28, _ => exact jl7_28
  | 29, _ => exact jl7_29
  | 30, _ => exact jl7_30
  | 31, _ => exact jl7_31
  | 32, _ => exact jl7_32
  | 33, _ => exact jl7_33
  | 34, _ => exact jl7_34
  | 35, _ => exact jl7_35
  | 36, _ => exact jl7_36
  | 37, _ => exact jl7_37
  | 38, _ => exact jl7_38
  | 39, _ => exact jl7_39
  | 40, _ => exact jl7_40
  | 41, _ => exact jl7_41
  | 42, _ => exact jl7_42
  | 43, _ => exact jl7_43
  | 44, _ => exact jl7_44
  | 45, _ => exact jl7_45
  | 46, _ => exact jl7_46
  | 47, _ => exact jl7_47
  | 48, _ => exact jl7_48
  | 49, _ => exact jl7_49
  | 50, _ => exact jl7_50
  | 51, _ => exact jl7_51
  | 52, _ => exact jl7_52
  | 53, _ => exact jl7_53
  | 54, _ => exact jl7_54
  | 55, _ => exact jl7_55
  | 56, _ => exact jl7_56
  | 57, _ => exact jl7_57
  | 58, _ => exact jl7_58
  | 59, _ => exact jl7_59
  | k + 60, hk => omega
end
section
/-! The code of the methods as trees, and what the tables say of them. By program (wip/gen/emit.py). -/
/-- a method: its class by number, its name, code, locals, what it answers, its code as a tree -/
abbrev jM : Type := Nat × MethodName × ByteArray × Nat × Option FieldType × (Nat → Option (Instr × Nat))
theorem jk_sound {bytes : ByteArray} {N : Nat} {t : Nat → Option (Instr × Nat)} (h : (List.range N).all (fun pc => match t pc with | some q => decide (decode bytes pc = .ok q) | none => true) = true) : ∀ pc q, (cond (Nat.ble N pc) none (t pc)) = some q → decode bytes pc = .ok q := by
  intro pc q hq
  cases hb : Nat.ble N pc with
  | true => rw [hb] at hq; cases hq
  | false =>
    rw [hb] at hq
    have hlt : pc < N := by
      rcases Nat.lt_or_ge pc N with h1 | h1
      · exact h1
      · rw [Nat.ble_eq_true_of_le h1] at hb; cases hb
    have h1 := List.all_eq_true.mp h pc (List.mem_range.mpr hlt)
    rw [show t pc = some q from hq] at h1
    exact of_decide_eq_true h1
/-- what is known of a method -/
def jok (M : jM) : Prop := (∀ pc q, M.2.2.2.2.2 pc = some q → decode M.2.2.1 pc = .ok q) ∧ Cond.code M.2.1 M.2.2.1 M.2.2.2.1 M.2.2.2.2.1 ∈ jG ∧ Cond.initialized M.2.1.cls ∈ jG ∧ plainName M.2.1.cls = true ∧ (M.2.1.cls ≠ "java/lang/invoke/MethodHandle" ∧ M.2.1.cls ≠ "java/lang/invoke/VarHandle") ∧ M.2.2.2.1 ≤ 12
def jvirt (M : jM) : Prop := Cond.instanceMethod M.2.1 ∈ jG ∧ Cond.selects M.2.1.cls M.2.1 M.2.1 ∈ jG
def jstat (M : jM) : Prop := Cond.static M.2.1 ∈ jG
def jinit (M : jM) : Prop := M.2.1.name = "<init>" ∧ Cond.instanceMethod M.2.1 ∈ jG ∧ M.2.2.2.2.1 = none
def jt_X0_init : Nat → Option (Instr × Nat) := fun pc => cond (Nat.ble 5 pc) (cond (Nat.ble 9 pc) (cond (Nat.ble 12 pc) (cond (Nat.beq pc 12) (some (.return_, 1)) none) (cond (Nat.beq pc 9) (some (.putfield 9, 3)) none)) (cond (Nat.ble 7 pc) (cond (Nat.beq pc 7) (some (.newarray .int, 2)) none) (cond (Nat.beq pc 5) (some (.bipush 20, 2)) none))) (cond (Nat.ble 1 pc) (cond (Nat.ble 4 pc) (cond (Nat.beq pc 4) (some (.aload_n 0, 1)) none) (cond (Nat.beq pc 1) (some (.invokespecial 3, 3)) none)) (cond (Nat.beq pc 0) (some (.aload_n 0, 1)) none))
def m_X0_init : jM := (0, yX0_init, cX0_init, 1, none, fun pc => cond (Nat.ble 13 pc) none (jt_X0_init pc))
set_option maxRecDepth 100000 in
theorem dk_X0_init : ∀ pc q, m_X0_init.2.2.2.2.2 pc = some q → decode cX0_init pc = .ok q := jk_sound (N := 13) (t := jt_X0_init) (by decide +kernel)
set_option maxRecDepth 100000 in
theorem ok_X0_init : jok m_X0_init := ⟨dk_X0_init, jG_in 139 rfl rfl, jG_in 89 rfl rfl, by decide +kernel, by decide +kernel, by decide⟩
set_option maxRecDepth 100000 in
theorem in_X0_init : jinit m_X0_init := ⟨rfl, jG_in 138 rfl rfl, rfl⟩
def jt_X0_becomes : Nat → Option (Instr × Nat) := fun pc => cond (Nat.ble 7 pc) (cond (Nat.ble 11 pc) (cond (Nat.ble 12 pc) (cond (Nat.ble 15 pc) (cond (Nat.beq pc 15) (some (.return_, 1)) none) (cond (Nat.beq pc 12) (some (.putfield 22, 3)) none)) (cond (Nat.beq pc 11) (some (.iload_n 3, 1)) none)) (cond (Nat.ble 10 pc) (cond (Nat.beq pc 10) (some (.aload_n 0, 1)) none) (cond (Nat.beq pc 7) (some (.putfield 19, 3)) none))) (cond (Nat.ble 2 pc) (cond (Nat.ble 5 pc) (cond (Nat.ble 6 pc) (cond (Nat.beq pc 6) (some (.iload_n 2, 1)) none) (cond (Nat.beq pc 5) (some (.aload_n 0, 1)) none)) (cond (Nat.beq pc 2) (some (.putfield 15, 3)) none)) (cond (Nat.ble 1 pc) (cond (Nat.beq pc 1) (some (.iload_n 1, 1)) none) (cond (Nat.beq pc 0) (some (.aload_n 0, 1)) none)))
def m_X0_becomes : jM := (0, yX0_becomes, cX0_becomes, 4, none, fun pc => cond (Nat.ble 16 pc) none (jt_X0_becomes pc))
set_option maxRecDepth 100000 in
theorem dk_X0_becomes : ∀ pc q, m_X0_becomes.2.2.2.2.2 pc = some q → decode cX0_becomes pc = .ok q := jk_sound (N := 16) (t := jt_X0_becomes) (by decide +kernel)
set_option maxRecDepth 100000 in
theorem ok_X0_becomes : jok m_X0_becomes := ⟨dk_X0_becomes, jG_in 713 rfl rfl, jG_in 89 rfl rfl, by decide +kernel, by decide +kernel, by decide⟩
set_option maxRecDepth 100000 in
theorem vi_X0_becomes : jvirt m_X0_becomes := ⟨jG_in 711 rfl rfl, jG_in 712 rfl rfl⟩
def jt_X0_answer : Nat → Option (Instr × Nat) := fun pc => cond (Nat.ble 43 pc) (cond (Nat.ble 50 pc) (cond (Nat.ble 57 pc) (cond (Nat.ble 58 pc) (cond (Nat.ble 59 pc) (cond (Nat.beq pc 59) (some (.ireturn, 1)) none) (cond (Nat.beq pc 58) (some (.iconst 0, 1)) none)) (cond (Nat.beq pc 57) (some (.ireturn, 1)) none)) (cond (Nat.ble 53 pc) (cond (Nat.ble 54 pc) (cond (Nat.beq pc 54) (some (.invokevirtual 32, 3)) none) (cond (Nat.beq pc 53) (some (.iload_n 2, 1)) none)) (cond (Nat.beq pc 50) (some (.getfield 19, 3)) none))) (cond (Nat.ble 47 pc) (cond (Nat.ble 48 pc) (cond (Nat.ble 49 pc) (cond (Nat.beq pc 49) (some (.aload_n 0, 1)) none) (cond (Nat.beq pc 48) (some (.aload_n 0, 1)) none)) (cond (Nat.beq pc 47) (some (.ireturn, 1)) none)) (cond (Nat.ble 44 pc) (cond (Nat.beq pc 44) (some (.invokevirtual 29, 3)) none) (cond (Nat.beq pc 43) (some (.iload_n 2, 1)) none)))) (cond (Nat.ble 33 pc) (cond (Nat.ble 38 pc) (cond (Nat.ble 39 pc) (cond (Nat.ble 40 pc) (cond (Nat.beq pc 40) (some (.getfield 19, 3)) none) (cond (Nat.beq pc 39) (some (.aload_n 0, 1)) none)) (cond (Nat.beq pc 38) (some (.aload_n 0, 1)) none)) (cond (Nat.ble 34 pc) (cond (Nat.ble 37 pc) (cond (Nat.beq pc 37) (some (.ireturn, 1)) none) (cond (Nat.beq pc 34) (some (.invokevirtual 25, 3)) none)) (cond (Nat.beq pc 33) (some (.iload_n 2, 1)) none))) (cond (Nat.ble 28 pc) (cond (Nat.ble 29 pc) (cond (Nat.ble 30 pc) (cond (Nat.beq pc 30) (some (.getfield 19, 3)) none) (cond (Nat.beq pc 29) (some (.aload_n 0, 1)) none)) (cond (Nat.beq pc 28) (some (.aload_n 0, 1)) none)) (cond (Nat.ble 1 pc) (cond (Nat.beq pc 1) (some (.tableswitch 57 0 2 #[27, 37, 47], 27)) none) (cond (Nat.beq pc 0) (some (.iload_n 1, 1)) none))))
def m_X0_answer : jM := (0, yX0_answer, cX0_answer, 3, (some .int), fun pc => cond (Nat.ble 60 pc) none (jt_X0_answer pc))
set_option maxRecDepth 100000 in
theorem dk_X0_answer : ∀ pc q, m_X0_answer.2.2.2.2.2 pc = some q → decode cX0_answer pc = .ok q := jk_sound (N := 60) (t := jt_X0_answer) (by decide +kernel)
set_option maxRecDepth 100000 in
theorem ok_X0_answer : jok m_X0_answer := ⟨dk_X0_answer, jG_in 717 rfl rfl, jG_in 89 rfl rfl, by decide +kernel, by decide +kernel, by decide⟩
set_option maxRecDepth 100000 in
theorem vi_X0_answer : jvirt m_X0_answer := ⟨jG_in 715 rfl rfl, jG_in 716 rfl rfl⟩
def jt_X0_runs : Nat → Option (Instr × Nat) := fun pc => cond (Nat.ble 17 pc) (cond (Nat.ble 21 pc) (cond (Nat.ble 25 pc) (cond (Nat.ble 26 pc) (cond (Nat.ble 29 pc) (cond (Nat.beq pc 29) (some (.return_, 1)) none) (cond (Nat.beq pc 26) (some (.putfield 35, 3)) none)) (cond (Nat.beq pc 25) (some (.iadd, 1)) none)) (cond (Nat.ble 24 pc) (cond (Nat.beq pc 24) (some (.iconst 1, 1)) none) (cond (Nat.beq pc 21) (some (.getfield 35, 3)) none))) (cond (Nat.ble 19 pc) (cond (Nat.ble 20 pc) (cond (Nat.beq pc 20) (some (.dup, 1)) none) (cond (Nat.beq pc 19) (some (.aload_n 0, 1)) none)) (cond (Nat.ble 18 pc) (cond (Nat.beq pc 18) (some (.iastore, 1)) none) (cond (Nat.beq pc 17) (some (.iload_n 1, 1)) none)))) (cond (Nat.ble 9 pc) (cond (Nat.ble 13 pc) (cond (Nat.ble 14 pc) (cond (Nat.beq pc 14) (some (.getfield 35, 3)) none) (cond (Nat.beq pc 13) (some (.aload_n 0, 1)) none)) (cond (Nat.ble 10 pc) (cond (Nat.beq pc 10) (some (.getfield 9, 3)) none) (cond (Nat.beq pc 9) (some (.aload_n 0, 1)) none))) (cond (Nat.ble 4 pc) (cond (Nat.ble 6 pc) (cond (Nat.beq pc 6) (some (.if_icmp .ge 13, 3)) none) (cond (Nat.beq pc 4) (some (.bipush 20, 2)) none)) (cond (Nat.ble 1 pc) (cond (Nat.beq pc 1) (some (.getfield 35, 3)) none) (cond (Nat.beq pc 0) (some (.aload_n 0, 1)) none))))
def m_X0_runs : jM := (0, yX0_runs, cX0_runs, 2, none, fun pc => cond (Nat.ble 30 pc) none (jt_X0_runs pc))
set_option maxRecDepth 100000 in
theorem dk_X0_runs : ∀ pc q, m_X0_runs.2.2.2.2.2 pc = some q → decode cX0_runs pc = .ok q := jk_sound (N := 30) (t := jt_X0_runs) (by decide +kernel)
set_option maxRecDepth 100000 in
theorem ok_X0_runs : jok m_X0_runs := ⟨dk_X0_runs, jG_in 725 rfl rfl, jG_in 89 rfl rfl, by decide +kernel, by decide +kernel, by decide⟩
set_option maxRecDepth 100000 in
theorem vi_X0_runs : jvirt m_X0_runs := ⟨jG_in 724 rfl rfl, jG_in 25 rfl rfl⟩
def jt_X0_sells : Nat → Option (Instr × Nat) := fun pc => cond (Nat.ble 66 pc) (cond (Nat.ble 79 pc) (cond (Nat.ble 89 pc) (cond (Nat.ble 91 pc) (cond (Nat.ble 94 pc) (cond (Nat.ble 95 pc) (cond (Nat.beq pc 95) (some (.ireturn, 1)) none) (cond (Nat.beq pc 94) (some (.iadd, 1)) none)) (cond (Nat.beq pc 91) (some (.getfield 15, 3)) none)) (cond (Nat.ble 90 pc) (cond (Nat.beq pc 90) (some (.aload_n 0, 1)) none) (cond (Nat.beq pc 89) (some (.iload_n 2, 1)) none))) (cond (Nat.ble 83 pc) (cond (Nat.ble 84 pc) (cond (Nat.ble 86 pc) (cond (Nat.beq pc 86) (some (.invokevirtual 38, 3)) none) (cond (Nat.beq pc 84) (some (.bipush 10, 2)) none)) (cond (Nat.beq pc 83) (some (.aload_n 0, 1)) none)) (cond (Nat.ble 82 pc) (cond (Nat.beq pc 82) (some (.ireturn, 1)) none) (cond (Nat.beq pc 79) (some (.invokevirtual 25, 3)) none)))) (cond (Nat.ble 74 pc) (cond (Nat.ble 76 pc) (cond (Nat.ble 77 pc) (cond (Nat.ble 78 pc) (cond (Nat.beq pc 78) (some (.imul, 1)) none) (cond (Nat.beq pc 77) (some (.iconst 3, 1)) none)) (cond (Nat.beq pc 76) (some (.iload_n 2, 1)) none)) (cond (Nat.ble 75 pc) (cond (Nat.beq pc 75) (some (.iconst 0, 1)) none) (cond (Nat.beq pc 74) (some (.aload_n 0, 1)) none))) (cond (Nat.ble 68 pc) (cond (Nat.ble 69 pc) (cond (Nat.ble 71 pc) (cond (Nat.beq pc 71) (some (.invokevirtual 38, 3)) none) (cond (Nat.beq pc 69) (some (.bipush 30, 2)) none)) (cond (Nat.beq pc 68) (some (.aload_n 0, 1)) none)) (cond (Nat.ble 67 pc) (cond (Nat.beq pc 67) (some (.ireturn, 1)) none) (cond (Nat.beq pc 66) (some (.ineg, 1)) none))))) (cond (Nat.ble 49 pc) (cond (Nat.ble 57 pc) (cond (Nat.ble 61 pc) (cond (Nat.ble 62 pc) (cond (Nat.ble 63 pc) (cond (Nat.beq pc 63) (some (.invokevirtual 25, 3)) none) (cond (Nat.beq pc 62) (some (.iload_n 2, 1)) none)) (cond (Nat.beq pc 61) (some (.iconst 1, 1)) none)) (cond (Nat.ble 60 pc) (cond (Nat.beq pc 60) (some (.aload_n 0, 1)) none) (cond (Nat.beq pc 57) (some (.invokevirtual 38, 3)) none))) (cond (Nat.ble 53 pc) (cond (Nat.ble 54 pc) (cond (Nat.ble 55 pc) (cond (Nat.beq pc 55) (some (.bipush 50, 2)) none) (cond (Nat.beq pc 54) (some (.aload_n 0, 1)) none)) (cond (Nat.beq pc 53) (some (.ireturn, 1)) none)) (cond (Nat.ble 52 pc) (cond (Nat.beq pc 52) (some (.ixor, 1)) none) (cond (Nat.beq pc 49) (some (.getfield 22, 3)) none)))) (cond (Nat.ble 42 pc) (cond (Nat.ble 44 pc) (cond (Nat.ble 45 pc) (cond (Nat.ble 48 pc) (cond (Nat.beq pc 48) (some (.aload_n 0, 1)) none) (cond (Nat.beq pc 45) (some (.invokevirtual 25, 3)) none)) (cond (Nat.beq pc 44) (some (.iload_n 2, 1)) none)) (cond (Nat.ble 43 pc) (cond (Nat.beq pc 43) (some (.iconst 3, 1)) none) (cond (Nat.beq pc 42) (some (.aload_n 0, 1)) none))) (cond (Nat.ble 36 pc) (cond (Nat.ble 37 pc) (cond (Nat.ble 39 pc) (cond (Nat.beq pc 39) (some (.invokevirtual 38, 3)) none) (cond (Nat.beq pc 37) (some (.bipush 71, 2)) none)) (cond (Nat.beq pc 36) (some (.aload_n 0, 1)) none)) (cond (Nat.ble 1 pc) (cond (Nat.beq pc 1) (some (.tableswitch 82 2 6 #[67, 82, 53, 67, 35], 35)) none) (cond (Nat.beq pc 0) (some (.iload_n 1, 1)) none)))))
def m_X0_sells : jM := (0, yX0_sells, cX0_sells, 3, (some .int), fun pc => cond (Nat.ble 96 pc) none (jt_X0_sells pc))
set_option maxRecDepth 100000 in
theorem dk_X0_sells : ∀ pc q, m_X0_sells.2.2.2.2.2 pc = some q → decode cX0_sells pc = .ok q := jk_sound (N := 96) (t := jt_X0_sells) (by decide +kernel)
set_option maxRecDepth 100000 in
theorem ok_X0_sells : jok m_X0_sells := ⟨dk_X0_sells, jG_in 721 rfl rfl, jG_in 89 rfl rfl, by decide +kernel, by decide +kernel, by decide⟩
set_option maxRecDepth 100000 in
theorem vi_X0_sells : jvirt m_X0_sells := ⟨jG_in 720 rfl rfl, jG_in 24 rfl rfl⟩
def jt_X0_gives : Nat → Option (Instr × Nat) := fun pc => cond (Nat.ble 67 pc) (cond (Nat.ble 87 pc) (cond (Nat.ble 98 pc) (cond (Nat.ble 103 pc) (cond (Nat.ble 106 pc) (cond (Nat.ble 107 pc) (cond (Nat.beq pc 107) (some (.ireturn, 1)) none) (cond (Nat.beq pc 106) (some (.isub, 1)) none)) (cond (Nat.beq pc 103) (some (.getfield 22, 3)) none)) (cond (Nat.ble 99 pc) (cond (Nat.ble 102 pc) (cond (Nat.beq pc 102) (some (.aload_n 0, 1)) none) (cond (Nat.beq pc 99) (some (.invokevirtual 25, 3)) none)) (cond (Nat.beq pc 98) (some (.iload_n 2, 1)) none))) (cond (Nat.ble 93 pc) (cond (Nat.ble 94 pc) (cond (Nat.ble 95 pc) (cond (Nat.beq pc 95) (some (.getfield 19, 3)) none) (cond (Nat.beq pc 94) (some (.aload_n 0, 1)) none)) (cond (Nat.beq pc 93) (some (.aload_n 0, 1)) none)) (cond (Nat.ble 88 pc) (cond (Nat.ble 90 pc) (cond (Nat.beq pc 90) (some (.invokevirtual 38, 3)) none) (cond (Nat.beq pc 88) (some (.bipush 11, 2)) none)) (cond (Nat.beq pc 87) (some (.aload_n 0, 1)) none)))) (cond (Nat.ble 78 pc) (cond (Nat.ble 83 pc) (cond (Nat.ble 85 pc) (cond (Nat.ble 86 pc) (cond (Nat.beq pc 86) (some (.ireturn, 1)) none) (cond (Nat.beq pc 85) (some (.ixor, 1)) none)) (cond (Nat.beq pc 83) (some (.bipush 6, 2)) none)) (cond (Nat.ble 79 pc) (cond (Nat.ble 80 pc) (cond (Nat.beq pc 80) (some (.invokevirtual 29, 3)) none) (cond (Nat.beq pc 79) (some (.iload_n 2, 1)) none)) (cond (Nat.beq pc 78) (some (.iconst 0, 1)) none))) (cond (Nat.ble 72 pc) (cond (Nat.ble 74 pc) (cond (Nat.ble 77 pc) (cond (Nat.beq pc 77) (some (.aload_n 0, 1)) none) (cond (Nat.beq pc 74) (some (.invokevirtual 38, 3)) none)) (cond (Nat.beq pc 72) (some (.bipush 20, 2)) none)) (cond (Nat.ble 70 pc) (cond (Nat.ble 71 pc) (cond (Nat.beq pc 71) (some (.aload_n 0, 1)) none) (cond (Nat.beq pc 70) (some (.ireturn, 1)) none)) (cond (Nat.beq pc 67) (some (.invokevirtual 29, 3)) none))))) (cond (Nat.ble 50 pc) (cond (Nat.ble 59 pc) (cond (Nat.ble 64 pc) (cond (Nat.ble 65 pc) (cond (Nat.ble 66 pc) (cond (Nat.beq pc 66) (some (.iadd, 1)) none) (cond (Nat.beq pc 65) (some (.iconst 1, 1)) none)) (cond (Nat.beq pc 64) (some (.iload_n 2, 1)) none)) (cond (Nat.ble 62 pc) (cond (Nat.ble 63 pc) (cond (Nat.beq pc 63) (some (.iconst 1, 1)) none) (cond (Nat.beq pc 62) (some (.aload_n 0, 1)) none)) (cond (Nat.beq pc 59) (some (.invokevirtual 38, 3)) none))) (cond (Nat.ble 55 pc) (cond (Nat.ble 56 pc) (cond (Nat.ble 57 pc) (cond (Nat.beq pc 57) (some (.bipush 51, 2)) none) (cond (Nat.beq pc 56) (some (.aload_n 0, 1)) none)) (cond (Nat.beq pc 55) (some (.ireturn, 1)) none)) (cond (Nat.ble 51 pc) (cond (Nat.ble 54 pc) (cond (Nat.beq pc 54) (some (.iadd, 1)) none) (cond (Nat.beq pc 51) (some (.invokevirtual 25, 3)) none)) (cond (Nat.beq pc 50) (some (.iconst 2, 1)) none)))) (cond (Nat.ble 42 pc) (cond (Nat.ble 45 pc) (cond (Nat.ble 48 pc) (cond (Nat.ble 49 pc) (cond (Nat.beq pc 49) (some (.iconst 3, 1)) none) (cond (Nat.beq pc 48) (some (.aload_n 0, 1)) none)) (cond (Nat.beq pc 45) (some (.invokevirtual 29, 3)) none)) (cond (Nat.ble 43 pc) (cond (Nat.ble 44 pc) (cond (Nat.beq pc 44) (some (.iload_n 2, 1)) none) (cond (Nat.beq pc 43) (some (.iconst 3, 1)) none)) (cond (Nat.beq pc 42) (some (.aload_n 0, 1)) none))) (cond (Nat.ble 36 pc) (cond (Nat.ble 37 pc) (cond (Nat.ble 39 pc) (cond (Nat.beq pc 39) (some (.invokevirtual 38, 3)) none) (cond (Nat.beq pc 37) (some (.bipush 70, 2)) none)) (cond (Nat.beq pc 36) (some (.aload_n 0, 1)) none)) (cond (Nat.ble 1 pc) (cond (Nat.beq pc 1) (some (.lookupswitch 86 #[(1, 70), (4, 55), (6, 35)], 35)) none) (cond (Nat.beq pc 0) (some (.iload_n 1, 1)) none)))))
def m_X0_gives : jM := (0, yX0_gives, cX0_gives, 3, (some .int), fun pc => cond (Nat.ble 108 pc) none (jt_X0_gives pc))
set_option maxRecDepth 100000 in
theorem dk_X0_gives : ∀ pc q, m_X0_gives.2.2.2.2.2 pc = some q → decode cX0_gives pc = .ok q := jk_sound (N := 108) (t := jt_X0_gives) (by decide +kernel)
set_option maxRecDepth 100000 in
theorem ok_X0_gives : jok m_X0_gives := ⟨dk_X0_gives, jG_in 729 rfl rfl, jG_in 89 rfl rfl, by decide +kernel, by decide +kernel, by decide⟩
set_option maxRecDepth 100000 in
theorem vi_X0_gives : jvirt m_X0_gives := ⟨jG_in 728 rfl rfl, jG_in 26 rfl rfl⟩
def jt_X0_tells : Nat → Option (Instr × Nat) := fun pc => cond (Nat.ble 61 pc) (cond (Nat.ble 74 pc) (cond (Nat.ble 84 pc) (cond (Nat.ble 88 pc) (cond (Nat.ble 89 pc) (cond (Nat.ble 90 pc) (cond (Nat.beq pc 90) (some (.ireturn, 1)) none) (cond (Nat.beq pc 89) (some (.imul, 1)) none)) (cond (Nat.beq pc 88) (some (.iconst 2, 1)) none)) (cond (Nat.ble 85 pc) (cond (Nat.beq pc 85) (some (.invokevirtual 29, 3)) none) (cond (Nat.beq pc 84) (some (.iload_n 2, 1)) none))) (cond (Nat.ble 79 pc) (cond (Nat.ble 80 pc) (cond (Nat.ble 81 pc) (cond (Nat.beq pc 81) (some (.getfield 19, 3)) none) (cond (Nat.beq pc 80) (some (.aload_n 0, 1)) none)) (cond (Nat.beq pc 79) (some (.aload_n 0, 1)) none)) (cond (Nat.ble 76 pc) (cond (Nat.beq pc 76) (some (.invokevirtual 38, 3)) none) (cond (Nat.beq pc 74) (some (.bipush 12, 2)) none)))) (cond (Nat.ble 65 pc) (cond (Nat.ble 69 pc) (cond (Nat.ble 72 pc) (cond (Nat.ble 73 pc) (cond (Nat.beq pc 73) (some (.aload_n 0, 1)) none) (cond (Nat.beq pc 72) (some (.ireturn, 1)) none)) (cond (Nat.beq pc 69) (some (.invokevirtual 32, 3)) none)) (cond (Nat.ble 68 pc) (cond (Nat.beq pc 68) (some (.isub, 1)) none) (cond (Nat.beq pc 65) (some (.getfield 15, 3)) none))) (cond (Nat.ble 63 pc) (cond (Nat.ble 64 pc) (cond (Nat.beq pc 64) (some (.aload_n 0, 1)) none) (cond (Nat.beq pc 63) (some (.iload_n 2, 1)) none)) (cond (Nat.ble 62 pc) (cond (Nat.beq pc 62) (some (.iconst 2, 1)) none) (cond (Nat.beq pc 61) (some (.aload_n 0, 1)) none))))) (cond (Nat.ble 44 pc) (cond (Nat.ble 53 pc) (cond (Nat.ble 55 pc) (cond (Nat.ble 56 pc) (cond (Nat.ble 58 pc) (cond (Nat.beq pc 58) (some (.invokevirtual 38, 3)) none) (cond (Nat.beq pc 56) (some (.bipush 60, 2)) none)) (cond (Nat.beq pc 55) (some (.aload_n 0, 1)) none)) (cond (Nat.ble 54 pc) (cond (Nat.beq pc 54) (some (.ireturn, 1)) none) (cond (Nat.beq pc 53) (some (.iadd, 1)) none))) (cond (Nat.ble 46 pc) (cond (Nat.ble 49 pc) (cond (Nat.ble 50 pc) (cond (Nat.beq pc 50) (some (.invokevirtual 29, 3)) none) (cond (Nat.beq pc 49) (some (.iconst 1, 1)) none)) (cond (Nat.beq pc 46) (some (.getfield 19, 3)) none)) (cond (Nat.ble 45 pc) (cond (Nat.beq pc 45) (some (.aload_n 0, 1)) none) (cond (Nat.beq pc 44) (some (.aload_n 0, 1)) none)))) (cond (Nat.ble 35 pc) (cond (Nat.ble 39 pc) (cond (Nat.ble 40 pc) (cond (Nat.ble 41 pc) (cond (Nat.beq pc 41) (some (.invokevirtual 32, 3)) none) (cond (Nat.beq pc 40) (some (.iload_n 2, 1)) none)) (cond (Nat.beq pc 39) (some (.iconst 0, 1)) none)) (cond (Nat.ble 38 pc) (cond (Nat.beq pc 38) (some (.aload_n 0, 1)) none) (cond (Nat.beq pc 35) (some (.invokevirtual 38, 3)) none))) (cond (Nat.ble 32 pc) (cond (Nat.ble 33 pc) (cond (Nat.beq pc 33) (some (.bipush 40, 2)) none) (cond (Nat.beq pc 32) (some (.aload_n 0, 1)) none)) (cond (Nat.ble 1 pc) (cond (Nat.beq pc 1) (some (.tableswitch 72 3 6 #[31, 72, 54, 31], 31)) none) (cond (Nat.beq pc 0) (some (.iload_n 1, 1)) none)))))
def m_X0_tells : jM := (0, yX0_tells, cX0_tells, 3, (some .int), fun pc => cond (Nat.ble 91 pc) none (jt_X0_tells pc))
set_option maxRecDepth 100000 in
theorem dk_X0_tells : ∀ pc q, m_X0_tells.2.2.2.2.2 pc = some q → decode cX0_tells pc = .ok q := jk_sound (N := 91) (t := jt_X0_tells) (by decide +kernel)
set_option maxRecDepth 100000 in
theorem ok_X0_tells : jok m_X0_tells := ⟨dk_X0_tells, jG_in 733 rfl rfl, jG_in 89 rfl rfl, by decide +kernel, by decide +kernel, by decide⟩
set_option maxRecDepth 100000 in
theorem vi_X0_tells : jvirt m_X0_tells := ⟨jG_in 732 rfl rfl, jG_in 27 rfl rfl⟩
def jt_X1_init : Nat → Option (Instr × Nat) := fun pc => cond (Nat.ble 21 pc) (cond (Nat.ble 31 pc) (cond (Nat.ble 37 pc) (cond (Nat.ble 38 pc) (cond (Nat.ble 41 pc) (cond (Nat.beq pc 41) (some (.return_, 1)) none) (cond (Nat.beq pc 38) (some (.putfield 24, 3)) none)) (cond (Nat.beq pc 37) (some (.aload_n 1, 1)) none)) (cond (Nat.ble 33 pc) (cond (Nat.ble 36 pc) (cond (Nat.beq pc 36) (some (.aload_n 0, 1)) none) (cond (Nat.beq pc 33) (some (.putfield 21, 3)) none)) (cond (Nat.beq pc 31) (some (.newarray .int, 2)) none))) (cond (Nat.ble 25 pc) (cond (Nat.ble 28 pc) (cond (Nat.ble 29 pc) (cond (Nat.beq pc 29) (some (.bipush 12, 2)) none) (cond (Nat.beq pc 28) (some (.aload_n 0, 1)) none)) (cond (Nat.beq pc 25) (some (.putfield 18, 3)) none)) (cond (Nat.ble 23 pc) (cond (Nat.beq pc 23) (some (.newarray .int, 2)) none) (cond (Nat.beq pc 21) (some (.bipush 7, 2)) none)))) (cond (Nat.ble 9 pc) (cond (Nat.ble 15 pc) (cond (Nat.ble 17 pc) (cond (Nat.ble 20 pc) (cond (Nat.beq pc 20) (some (.aload_n 0, 1)) none) (cond (Nat.beq pc 17) (some (.putfield 15, 3)) none)) (cond (Nat.beq pc 15) (some (.newarray .int, 2)) none)) (cond (Nat.ble 12 pc) (cond (Nat.ble 13 pc) (cond (Nat.beq pc 13) (some (.bipush 7, 2)) none) (cond (Nat.beq pc 12) (some (.aload_n 0, 1)) none)) (cond (Nat.beq pc 9) (some (.putfield 9, 3)) none))) (cond (Nat.ble 4 pc) (cond (Nat.ble 5 pc) (cond (Nat.ble 7 pc) (cond (Nat.beq pc 7) (some (.newarray .int, 2)) none) (cond (Nat.beq pc 5) (some (.bipush 7, 2)) none)) (cond (Nat.beq pc 4) (some (.aload_n 0, 1)) none)) (cond (Nat.ble 1 pc) (cond (Nat.beq pc 1) (some (.invokespecial 3, 3)) none) (cond (Nat.beq pc 0) (some (.aload_n 0, 1)) none))))
def m_X1_init : jM := (1, yX1_init, cX1_init, 2, none, fun pc => cond (Nat.ble 42 pc) none (jt_X1_init pc))
set_option maxRecDepth 100000 in
theorem dk_X1_init : ∀ pc q, m_X1_init.2.2.2.2.2 pc = some q → decode cX1_init pc = .ok q := jk_sound (N := 42) (t := jt_X1_init) (by decide +kernel)
set_option maxRecDepth 100000 in
theorem ok_X1_init : jok m_X1_init := ⟨dk_X1_init, jG_in 289 rfl rfl, jG_in 92 rfl rfl, by decide +kernel, by decide +kernel, by decide⟩
set_option maxRecDepth 100000 in
theorem in_X1_init : jinit m_X1_init := ⟨rfl, jG_in 288 rfl rfl, rfl⟩
def jt_X1_start : Nat → Option (Instr × Nat) := fun pc => cond (Nat.ble 54 pc) (cond (Nat.ble 80 pc) (cond (Nat.ble 92 pc) (cond (Nat.ble 98 pc) (cond (Nat.ble 102 pc) (cond (Nat.ble 105 pc) (cond (Nat.beq pc 105) (some (.return_, 1)) none) (cond (Nat.beq pc 102) (some (.invokevirtual 52, 3)) none)) (cond (Nat.ble 101 pc) (cond (Nat.beq pc 101) (some (.aload_n 0, 1)) none) (cond (Nat.beq pc 98) (some (.goto (-49), 3)) none))) (cond (Nat.ble 94 pc) (cond (Nat.ble 95 pc) (cond (Nat.beq pc 95) (some (.iinc 3 1, 3)) none) (cond (Nat.beq pc 94) (some (.iastore, 1)) none)) (cond (Nat.ble 93 pc) (cond (Nat.beq pc 93) (some (.iadd, 1)) none) (cond (Nat.beq pc 92) (some (.iconst 1, 1)) none)))) (cond (Nat.ble 88 pc) (cond (Nat.ble 90 pc) (cond (Nat.ble 91 pc) (cond (Nat.beq pc 91) (some (.iaload, 1)) none) (cond (Nat.beq pc 90) (some (.dup2, 1)) none)) (cond (Nat.ble 89 pc) (cond (Nat.beq pc 89) (some (.iaload, 1)) none) (cond (Nat.beq pc 88) (some (.iload_n 3, 1)) none))) (cond (Nat.ble 84 pc) (cond (Nat.ble 85 pc) (cond (Nat.beq pc 85) (some (.getfield 49, 3)) none) (cond (Nat.beq pc 84) (some (.aload_n 1, 1)) none)) (cond (Nat.ble 81 pc) (cond (Nat.beq pc 81) (some (.getfield 21, 3)) none) (cond (Nat.beq pc 80) (some (.aload_n 0, 1)) none))))) (cond (Nat.ble 68 pc) (cond (Nat.ble 72 pc) (cond (Nat.ble 76 pc) (cond (Nat.ble 77 pc) (cond (Nat.beq pc 77) (some (.ifCond .eq 18, 3)) none) (cond (Nat.beq pc 76) (some (.baload, 1)) none)) (cond (Nat.ble 75 pc) (cond (Nat.beq pc 75) (some (.iload_n 3, 1)) none) (cond (Nat.beq pc 72) (some (.getfield 45, 3)) none))) (cond (Nat.ble 70 pc) (cond (Nat.ble 71 pc) (cond (Nat.beq pc 71) (some (.aload_n 1, 1)) none) (cond (Nat.beq pc 70) (some (.iastore, 1)) none)) (cond (Nat.ble 69 pc) (cond (Nat.beq pc 69) (some (.iconst 0, 1)) none) (cond (Nat.beq pc 68) (some (.iload_n 3, 1)) none)))) (cond (Nat.ble 62 pc) (cond (Nat.ble 64 pc) (cond (Nat.ble 65 pc) (cond (Nat.beq pc 65) (some (.getfield 15, 3)) none) (cond (Nat.beq pc 64) (some (.aload_n 0, 1)) none)) (cond (Nat.ble 63 pc) (cond (Nat.beq pc 63) (some (.iastore, 1)) none) (cond (Nat.beq pc 62) (some (.iconst 0, 1)) none))) (cond (Nat.ble 58 pc) (cond (Nat.ble 61 pc) (cond (Nat.beq pc 61) (some (.iload_n 3, 1)) none) (cond (Nat.beq pc 58) (some (.getfield 9, 3)) none)) (cond (Nat.ble 57 pc) (cond (Nat.beq pc 57) (some (.aload_n 0, 1)) none) (cond (Nat.beq pc 54) (some (.if_icmp .ge 47, 3)) none)))))) (cond (Nat.ble 27 pc) (cond (Nat.ble 40 pc) (cond (Nat.ble 48 pc) (cond (Nat.ble 50 pc) (cond (Nat.ble 51 pc) (cond (Nat.beq pc 51) (some (.getfield 42, 3)) none) (cond (Nat.beq pc 50) (some (.aload_n 1, 1)) none)) (cond (Nat.ble 49 pc) (cond (Nat.beq pc 49) (some (.iload_n 3, 1)) none) (cond (Nat.beq pc 48) (some (.istore_n 3, 1)) none))) (cond (Nat.ble 44 pc) (cond (Nat.ble 47 pc) (cond (Nat.beq pc 47) (some (.iconst 0, 1)) none) (cond (Nat.beq pc 44) (some (.goto (-16), 3)) none)) (cond (Nat.ble 41 pc) (cond (Nat.beq pc 41) (some (.iinc 3 1, 3)) none) (cond (Nat.beq pc 40) (some (.iastore, 1)) none)))) (cond (Nat.ble 34 pc) (cond (Nat.ble 38 pc) (cond (Nat.ble 39 pc) (cond (Nat.beq pc 39) (some (.iconst 0, 1)) none) (cond (Nat.beq pc 38) (some (.iload_n 3, 1)) none)) (cond (Nat.ble 35 pc) (cond (Nat.beq pc 35) (some (.getfield 21, 3)) none) (cond (Nat.beq pc 34) (some (.aload_n 0, 1)) none))) (cond (Nat.ble 29 pc) (cond (Nat.ble 31 pc) (cond (Nat.beq pc 31) (some (.if_icmp .ge 16, 3)) none) (cond (Nat.beq pc 29) (some (.bipush 12, 2)) none)) (cond (Nat.ble 28 pc) (cond (Nat.beq pc 28) (some (.iload_n 3, 1)) none) (cond (Nat.beq pc 27) (some (.istore_n 3, 1)) none))))) (cond (Nat.ble 11 pc) (cond (Nat.ble 19 pc) (cond (Nat.ble 23 pc) (cond (Nat.ble 26 pc) (cond (Nat.beq pc 26) (some (.iconst 0, 1)) none) (cond (Nat.beq pc 23) (some (.putfield 41, 3)) none)) (cond (Nat.ble 20 pc) (cond (Nat.beq pc 20) (some (.getfield 38, 3)) none) (cond (Nat.beq pc 19) (some (.aload_n 1, 1)) none))) (cond (Nat.ble 15 pc) (cond (Nat.ble 18 pc) (cond (Nat.beq pc 18) (some (.aload_n 0, 1)) none) (cond (Nat.beq pc 15) (some (.putfield 37, 3)) none)) (cond (Nat.ble 12 pc) (cond (Nat.beq pc 12) (some (.getfield 32, 3)) none) (cond (Nat.beq pc 11) (some (.aload_n 1, 1)) none)))) (cond (Nat.ble 5 pc) (cond (Nat.ble 7 pc) (cond (Nat.ble 10 pc) (cond (Nat.beq pc 10) (some (.aload_n 0, 1)) none) (cond (Nat.beq pc 7) (some (.putfield 28, 3)) none)) (cond (Nat.ble 6 pc) (cond (Nat.beq pc 6) (some (.iload_n 2, 1)) none) (cond (Nat.beq pc 5) (some (.aload_n 0, 1)) none))) (cond (Nat.ble 1 pc) (cond (Nat.ble 2 pc) (cond (Nat.beq pc 2) (some (.putfield 24, 3)) none) (cond (Nat.beq pc 1) (some (.aload_n 1, 1)) none)) (cond (Nat.beq pc 0) (some (.aload_n 0, 1)) none)))))
def m_X1_start : jM := (1, yX1_start, cX1_start, 4, none, fun pc => cond (Nat.ble 106 pc) none (jt_X1_start pc))
set_option maxRecDepth 100000 in
theorem dk_X1_start : ∀ pc q, m_X1_start.2.2.2.2.2 pc = some q → decode cX1_start pc = .ok q := jk_sound (N := 106) (t := jt_X1_start) (by decide +kernel)
set_option maxRecDepth 100000 in
theorem ok_X1_start : jok m_X1_start := ⟨dk_X1_start, jG_in 401 rfl rfl, jG_in 92 rfl rfl, by decide +kernel, by decide +kernel, by decide⟩
set_option maxRecDepth 100000 in
theorem vi_X1_start : jvirt m_X1_start := ⟨jG_in 399 rfl rfl, jG_in 400 rfl rfl⟩
def jt_X1_go : Nat → Option (Instr × Nat) := fun pc => cond (Nat.ble 26 pc) (cond (Nat.ble 41 pc) (cond (Nat.ble 49 pc) (cond (Nat.ble 53 pc) (cond (Nat.ble 56 pc) (cond (Nat.ble 59 pc) (cond (Nat.beq pc 59) (some (.return_, 1)) none) (cond (Nat.beq pc 56) (some (.goto (-54), 3)) none)) (cond (Nat.beq pc 53) (some (.iinc 2 1, 3)) none)) (cond (Nat.ble 50 pc) (cond (Nat.beq pc 50) (some (.invokevirtual 52, 3)) none) (cond (Nat.beq pc 49) (some (.aload_n 0, 1)) none))) (cond (Nat.ble 45 pc) (cond (Nat.ble 46 pc) (cond (Nat.beq pc 46) (some (.putfield 41, 3)) none) (cond (Nat.beq pc 45) (some (.iadd, 1)) none)) (cond (Nat.ble 44 pc) (cond (Nat.beq pc 44) (some (.iconst 1, 1)) none) (cond (Nat.beq pc 41) (some (.getfield 41, 3)) none)))) (cond (Nat.ble 35 pc) (cond (Nat.ble 39 pc) (cond (Nat.ble 40 pc) (cond (Nat.beq pc 40) (some (.dup, 1)) none) (cond (Nat.beq pc 39) (some (.aload_n 0, 1)) none)) (cond (Nat.ble 36 pc) (cond (Nat.beq pc 36) (some (.putfield 37, 3)) none) (cond (Nat.beq pc 35) (some (.iconst 0, 1)) none))) (cond (Nat.ble 31 pc) (cond (Nat.ble 34 pc) (cond (Nat.beq pc 34) (some (.aload_n 0, 1)) none) (cond (Nat.beq pc 31) (some (.if_icmp .lt 22, 3)) none)) (cond (Nat.ble 29 pc) (cond (Nat.beq pc 29) (some (.bipush 12, 2)) none) (cond (Nat.beq pc 26) (some (.getfield 37, 3)) none))))) (cond (Nat.ble 12 pc) (cond (Nat.ble 20 pc) (cond (Nat.ble 22 pc) (cond (Nat.ble 25 pc) (cond (Nat.beq pc 25) (some (.aload_n 0, 1)) none) (cond (Nat.beq pc 22) (some (.putfield 37, 3)) none)) (cond (Nat.ble 21 pc) (cond (Nat.beq pc 21) (some (.iadd, 1)) none) (cond (Nat.beq pc 20) (some (.iconst 1, 1)) none))) (cond (Nat.ble 16 pc) (cond (Nat.ble 17 pc) (cond (Nat.beq pc 17) (some (.getfield 37, 3)) none) (cond (Nat.beq pc 16) (some (.dup, 1)) none)) (cond (Nat.ble 15 pc) (cond (Nat.beq pc 15) (some (.aload_n 0, 1)) none) (cond (Nat.beq pc 12) (some (.invokevirtual 58, 3)) none)))) (cond (Nat.ble 4 pc) (cond (Nat.ble 8 pc) (cond (Nat.ble 11 pc) (cond (Nat.beq pc 11) (some (.aload_n 0, 1)) none) (cond (Nat.beq pc 8) (some (.invokevirtual 55, 3)) none)) (cond (Nat.ble 7 pc) (cond (Nat.beq pc 7) (some (.aload_n 0, 1)) none) (cond (Nat.beq pc 4) (some (.if_icmp .ge 55, 3)) none))) (cond (Nat.ble 2 pc) (cond (Nat.ble 3 pc) (cond (Nat.beq pc 3) (some (.iload_n 1, 1)) none) (cond (Nat.beq pc 2) (some (.iload_n 2, 1)) none)) (cond (Nat.ble 1 pc) (cond (Nat.beq pc 1) (some (.istore_n 2, 1)) none) (cond (Nat.beq pc 0) (some (.iconst 0, 1)) none)))))
def m_X1_go : jM := (1, yX1_go, cX1_go, 3, none, fun pc => cond (Nat.ble 60 pc) none (jt_X1_go pc))
set_option maxRecDepth 100000 in
theorem dk_X1_go : ∀ pc q, m_X1_go.2.2.2.2.2 pc = some q → decode cX1_go pc = .ok q := jk_sound (N := 60) (t := jt_X1_go) (by decide +kernel)
set_option maxRecDepth 100000 in
theorem ok_X1_go : jok m_X1_go := ⟨dk_X1_go, jG_in 577 rfl rfl, jG_in 92 rfl rfl, by decide +kernel, by decide +kernel, by decide⟩
set_option maxRecDepth 100000 in
theorem vi_X1_go : jvirt m_X1_go := ⟨jG_in 575 rfl rfl, jG_in 576 rfl rfl⟩
def jt_X1_sell : Nat → Option (Instr × Nat) := fun pc => cond (Nat.ble 66 pc) (cond (Nat.ble 97 pc) (cond (Nat.ble 108 pc) (cond (Nat.ble 114 pc) (cond (Nat.ble 118 pc) (cond (Nat.ble 121 pc) (cond (Nat.ble 124 pc) (cond (Nat.beq pc 124) (some (.return_, 1)) none) (cond (Nat.beq pc 121) (some (.goto (-114), 3)) none)) (cond (Nat.beq pc 118) (some (.iinc 1 1, 3)) none)) (cond (Nat.ble 115 pc) (cond (Nat.beq pc 115) (some (.putfield 61, 3)) none) (cond (Nat.beq pc 114) (some (.iadd, 1)) none))) (cond (Nat.ble 110 pc) (cond (Nat.ble 113 pc) (cond (Nat.beq pc 113) (some (.iload_n 3, 1)) none) (cond (Nat.beq pc 110) (some (.getfield 61, 3)) none)) (cond (Nat.ble 109 pc) (cond (Nat.beq pc 109) (some (.dup, 1)) none) (cond (Nat.beq pc 108) (some (.aload_n 0, 1)) none)))) (cond (Nat.ble 103 pc) (cond (Nat.ble 105 pc) (cond (Nat.ble 106 pc) (cond (Nat.ble 107 pc) (cond (Nat.beq pc 107) (some (.iastore, 1)) none) (cond (Nat.beq pc 106) (some (.iadd, 1)) none)) (cond (Nat.beq pc 105) (some (.isub, 1)) none)) (cond (Nat.ble 104 pc) (cond (Nat.beq pc 104) (some (.iload_n 3, 1)) none) (cond (Nat.beq pc 103) (some (.isub, 1)) none))) (cond (Nat.ble 99 pc) (cond (Nat.ble 102 pc) (cond (Nat.beq pc 102) (some (.imul, 1)) none) (cond (Nat.beq pc 99) (some (.invokevirtual 77, 3)) none)) (cond (Nat.ble 98 pc) (cond (Nat.beq pc 98) (some (.iload_n 1, 1)) none) (cond (Nat.beq pc 97) (some (.aload_n 0, 1)) none))))) (cond (Nat.ble 80 pc) (cond (Nat.ble 86 pc) (cond (Nat.ble 88 pc) (cond (Nat.ble 91 pc) (cond (Nat.ble 94 pc) (cond (Nat.beq pc 94) (some (.getfield 72, 3)) none) (cond (Nat.beq pc 91) (some (.getfield 68, 3)) none)) (cond (Nat.beq pc 88) (some (.getfield 24, 3)) none)) (cond (Nat.ble 87 pc) (cond (Nat.beq pc 87) (some (.aload_n 0, 1)) none) (cond (Nat.beq pc 86) (some (.iload_n 2, 1)) none))) (cond (Nat.ble 84 pc) (cond (Nat.ble 85 pc) (cond (Nat.beq pc 85) (some (.iaload, 1)) none) (cond (Nat.beq pc 84) (some (.dup2, 1)) none)) (cond (Nat.ble 83 pc) (cond (Nat.beq pc 83) (some (.iload_n 1, 1)) none) (cond (Nat.beq pc 80) (some (.getfield 9, 3)) none)))) (cond (Nat.ble 73 pc) (cond (Nat.ble 77 pc) (cond (Nat.ble 78 pc) (cond (Nat.ble 79 pc) (cond (Nat.beq pc 79) (some (.aload_n 0, 1)) none) (cond (Nat.beq pc 78) (some (.istore_n 3, 1)) none)) (cond (Nat.beq pc 77) (some (.iconst 0, 1)) none)) (cond (Nat.ble 74 pc) (cond (Nat.beq pc 74) (some (.goto 4, 3)) none) (cond (Nat.beq pc 73) (some (.idiv, 1)) none))) (cond (Nat.ble 70 pc) (cond (Nat.ble 71 pc) (cond (Nat.beq pc 71) (some (.bipush 100, 2)) none) (cond (Nat.beq pc 70) (some (.imul, 1)) none)) (cond (Nat.ble 67 pc) (cond (Nat.beq pc 67) (some (.getfield 28, 3)) none) (cond (Nat.beq pc 66) (some (.aload_n 0, 1)) none)))))) (cond (Nat.ble 34 pc) (cond (Nat.ble 49 pc) (cond (Nat.ble 57 pc) (cond (Nat.ble 61 pc) (cond (Nat.ble 62 pc) (cond (Nat.ble 65 pc) (cond (Nat.beq pc 65) (some (.iload_n 2, 1)) none) (cond (Nat.beq pc 62) (some (.ifCond .le 15, 3)) none)) (cond (Nat.beq pc 61) (some (.iaload, 1)) none)) (cond (Nat.ble 58 pc) (cond (Nat.beq pc 58) (some (.getfield 37, 3)) none) (cond (Nat.beq pc 57) (some (.aload_n 0, 1)) none))) (cond (Nat.ble 53 pc) (cond (Nat.ble 54 pc) (cond (Nat.beq pc 54) (some (.getfield 21, 3)) none) (cond (Nat.beq pc 53) (some (.aload_n 0, 1)) none)) (cond (Nat.ble 52 pc) (cond (Nat.beq pc 52) (some (.istore_n 2, 1)) none) (cond (Nat.beq pc 49) (some (.invokevirtual 64, 3)) none)))) (cond (Nat.ble 40 pc) (cond (Nat.ble 44 pc) (cond (Nat.ble 45 pc) (cond (Nat.ble 46 pc) (cond (Nat.beq pc 46) (some (.getfield 37, 3)) none) (cond (Nat.beq pc 45) (some (.aload_n 0, 1)) none)) (cond (Nat.beq pc 44) (some (.iload_n 1, 1)) none)) (cond (Nat.ble 43 pc) (cond (Nat.beq pc 43) (some (.aload_n 0, 1)) none) (cond (Nat.beq pc 40) (some (.if_icmp .ne 78, 3)) none))) (cond (Nat.ble 36 pc) (cond (Nat.ble 37 pc) (cond (Nat.beq pc 37) (some (.getfield 37, 3)) none) (cond (Nat.beq pc 36) (some (.aload_n 0, 1)) none)) (cond (Nat.ble 35 pc) (cond (Nat.beq pc 35) (some (.iaload, 1)) none) (cond (Nat.beq pc 34) (some (.iload_n 1, 1)) none))))) (cond (Nat.ble 15 pc) (cond (Nat.ble 25 pc) (cond (Nat.ble 27 pc) (cond (Nat.ble 30 pc) (cond (Nat.ble 31 pc) (cond (Nat.beq pc 31) (some (.getfield 18, 3)) none) (cond (Nat.beq pc 30) (some (.aload_n 0, 1)) none)) (cond (Nat.beq pc 27) (some (.ifCond .eq 91, 3)) none)) (cond (Nat.ble 26 pc) (cond (Nat.beq pc 26) (some (.baload, 1)) none) (cond (Nat.beq pc 25) (some (.iload_n 1, 1)) none))) (cond (Nat.ble 19 pc) (cond (Nat.ble 22 pc) (cond (Nat.beq pc 22) (some (.getfield 45, 3)) none) (cond (Nat.beq pc 19) (some (.getfield 24, 3)) none)) (cond (Nat.ble 18 pc) (cond (Nat.beq pc 18) (some (.aload_n 0, 1)) none) (cond (Nat.beq pc 15) (some (.if_icmp .ge 109, 3)) none)))) (cond (Nat.ble 6 pc) (cond (Nat.ble 8 pc) (cond (Nat.ble 9 pc) (cond (Nat.ble 12 pc) (cond (Nat.beq pc 12) (some (.getfield 42, 3)) none) (cond (Nat.beq pc 9) (some (.getfield 24, 3)) none)) (cond (Nat.beq pc 8) (some (.aload_n 0, 1)) none)) (cond (Nat.ble 7 pc) (cond (Nat.beq pc 7) (some (.iload_n 1, 1)) none) (cond (Nat.beq pc 6) (some (.istore_n 1, 1)) none))) (cond (Nat.ble 2 pc) (cond (Nat.ble 5 pc) (cond (Nat.beq pc 5) (some (.iconst 0, 1)) none) (cond (Nat.beq pc 2) (some (.putfield 61, 3)) none)) (cond (Nat.ble 1 pc) (cond (Nat.beq pc 1) (some (.iconst 0, 1)) none) (cond (Nat.beq pc 0) (some (.aload_n 0, 1)) none))))))
def m_X1_sell : jM := (1, yX1_sell, cX1_sell, 4, none, fun pc => cond (Nat.ble 125 pc) none (jt_X1_sell pc))
set_option maxRecDepth 100000 in
theorem dk_X1_sell : ∀ pc q, m_X1_sell.2.2.2.2.2 pc = some q → decode cX1_sell pc = .ok q := jk_sound (N := 125) (t := jt_X1_sell) (by decide +kernel)
set_option maxRecDepth 100000 in
theorem ok_X1_sell : jok m_X1_sell := ⟨dk_X1_sell, jG_in 581 rfl rfl, jG_in 92 rfl rfl, by decide +kernel, by decide +kernel, by decide⟩
set_option maxRecDepth 100000 in
theorem vi_X1_sell : jvirt m_X1_sell := ⟨jG_in 580 rfl rfl, jG_in 16 rfl rfl⟩
def jt_X1_share : Nat → Option (Instr × Nat) := fun pc => cond (Nat.ble 57 pc) (cond (Nat.ble 85 pc) (cond (Nat.ble 96 pc) (cond (Nat.ble 100 pc) (cond (Nat.ble 102 pc) (cond (Nat.ble 105 pc) (cond (Nat.ble 108 pc) (cond (Nat.beq pc 108) (some (.return_, 1)) none) (cond (Nat.beq pc 105) (some (.goto (-73), 3)) none)) (cond (Nat.beq pc 102) (some (.iinc 4 1, 3)) none)) (cond (Nat.ble 101 pc) (cond (Nat.beq pc 101) (some (.istore_n 3, 1)) none) (cond (Nat.beq pc 100) (some (.iconst 0, 1)) none))) (cond (Nat.ble 98 pc) (cond (Nat.ble 99 pc) (cond (Nat.beq pc 99) (some (.iastore, 1)) none) (cond (Nat.beq pc 98) (some (.iadd, 1)) none)) (cond (Nat.ble 97 pc) (cond (Nat.beq pc 97) (some (.iadd, 1)) none) (cond (Nat.beq pc 96) (some (.iload_n 3, 1)) none)))) (cond (Nat.ble 91 pc) (cond (Nat.ble 94 pc) (cond (Nat.ble 95 pc) (cond (Nat.beq pc 95) (some (.iload_n 2, 1)) none) (cond (Nat.beq pc 94) (some (.iaload, 1)) none)) (cond (Nat.ble 93 pc) (cond (Nat.beq pc 93) (some (.dup2, 1)) none) (cond (Nat.beq pc 91) (some (.iload 4, 2)) none))) (cond (Nat.ble 87 pc) (cond (Nat.ble 88 pc) (cond (Nat.beq pc 88) (some (.getfield 15, 3)) none) (cond (Nat.beq pc 87) (some (.aload_n 0, 1)) none)) (cond (Nat.ble 86 pc) (cond (Nat.beq pc 86) (some (.iastore, 1)) none) (cond (Nat.beq pc 85) (some (.iadd, 1)) none))))) (cond (Nat.ble 74 pc) (cond (Nat.ble 81 pc) (cond (Nat.ble 83 pc) (cond (Nat.ble 84 pc) (cond (Nat.beq pc 84) (some (.iadd, 1)) none) (cond (Nat.beq pc 83) (some (.iload_n 3, 1)) none)) (cond (Nat.ble 82 pc) (cond (Nat.beq pc 82) (some (.iload_n 2, 1)) none) (cond (Nat.beq pc 81) (some (.iaload, 1)) none))) (cond (Nat.ble 78 pc) (cond (Nat.ble 80 pc) (cond (Nat.beq pc 80) (some (.dup2, 1)) none) (cond (Nat.beq pc 78) (some (.iload 4, 2)) none)) (cond (Nat.ble 75 pc) (cond (Nat.beq pc 75) (some (.getfield 9, 3)) none) (cond (Nat.beq pc 74) (some (.aload_n 0, 1)) none)))) (cond (Nat.ble 66 pc) (cond (Nat.ble 68 pc) (cond (Nat.ble 71 pc) (cond (Nat.beq pc 71) (some (.if_icmp .ne 31, 3)) none) (cond (Nat.beq pc 68) (some (.getfield 37, 3)) none)) (cond (Nat.ble 67 pc) (cond (Nat.beq pc 67) (some (.aload_n 0, 1)) none) (cond (Nat.beq pc 66) (some (.iaload, 1)) none))) (cond (Nat.ble 61 pc) (cond (Nat.ble 64 pc) (cond (Nat.beq pc 64) (some (.iload 4, 2)) none) (cond (Nat.beq pc 61) (some (.getfield 49, 3)) none)) (cond (Nat.ble 58 pc) (cond (Nat.beq pc 58) (some (.getfield 24, 3)) none) (cond (Nat.beq pc 57) (some (.aload_n 0, 1)) none)))))) (cond (Nat.ble 26 pc) (cond (Nat.ble 38 pc) (cond (Nat.ble 48 pc) (cond (Nat.ble 53 pc) (cond (Nat.ble 54 pc) (cond (Nat.beq pc 54) (some (.ifCond .eq 48, 3)) none) (cond (Nat.beq pc 53) (some (.baload, 1)) none)) (cond (Nat.ble 51 pc) (cond (Nat.beq pc 51) (some (.iload 4, 2)) none) (cond (Nat.beq pc 48) (some (.getfield 45, 3)) none))) (cond (Nat.ble 44 pc) (cond (Nat.ble 45 pc) (cond (Nat.beq pc 45) (some (.getfield 24, 3)) none) (cond (Nat.beq pc 44) (some (.aload_n 0, 1)) none)) (cond (Nat.ble 41 pc) (cond (Nat.beq pc 41) (some (.if_icmp .ge 67, 3)) none) (cond (Nat.beq pc 38) (some (.getfield 42, 3)) none)))) (cond (Nat.ble 30 pc) (cond (Nat.ble 34 pc) (cond (Nat.ble 35 pc) (cond (Nat.beq pc 35) (some (.getfield 24, 3)) none) (cond (Nat.beq pc 34) (some (.aload_n 0, 1)) none)) (cond (Nat.ble 32 pc) (cond (Nat.beq pc 32) (some (.iload 4, 2)) none) (cond (Nat.beq pc 30) (some (.istore 4, 2)) none))) (cond (Nat.ble 28 pc) (cond (Nat.ble 29 pc) (cond (Nat.beq pc 29) (some (.iconst 0, 1)) none) (cond (Nat.beq pc 28) (some (.istore_n 3, 1)) none)) (cond (Nat.ble 27 pc) (cond (Nat.beq pc 27) (some (.irem, 1)) none) (cond (Nat.beq pc 26) (some (.iload_n 1, 1)) none))))) (cond (Nat.ble 14 pc) (cond (Nat.ble 20 pc) (cond (Nat.ble 22 pc) (cond (Nat.ble 23 pc) (cond (Nat.beq pc 23) (some (.getfield 61, 3)) none) (cond (Nat.beq pc 22) (some (.aload_n 0, 1)) none)) (cond (Nat.ble 21 pc) (cond (Nat.beq pc 21) (some (.istore_n 2, 1)) none) (cond (Nat.beq pc 20) (some (.idiv, 1)) none))) (cond (Nat.ble 16 pc) (cond (Nat.ble 19 pc) (cond (Nat.beq pc 19) (some (.iload_n 1, 1)) none) (cond (Nat.beq pc 16) (some (.getfield 61, 3)) none)) (cond (Nat.ble 15 pc) (cond (Nat.beq pc 15) (some (.aload_n 0, 1)) none) (cond (Nat.beq pc 14) (some (.return_, 1)) none)))) (cond (Nat.ble 8 pc) (cond (Nat.ble 10 pc) (cond (Nat.ble 11 pc) (cond (Nat.beq pc 11) (some (.ifCond .ne 4, 3)) none) (cond (Nat.beq pc 10) (some (.iload_n 1, 1)) none)) (cond (Nat.ble 9 pc) (cond (Nat.beq pc 9) (some (.istore_n 1, 1)) none) (cond (Nat.beq pc 8) (some (.iaload, 1)) none))) (cond (Nat.ble 4 pc) (cond (Nat.ble 5 pc) (cond (Nat.beq pc 5) (some (.getfield 37, 3)) none) (cond (Nat.beq pc 4) (some (.aload_n 0, 1)) none)) (cond (Nat.ble 1 pc) (cond (Nat.beq pc 1) (some (.getfield 21, 3)) none) (cond (Nat.beq pc 0) (some (.aload_n 0, 1)) none))))))
def m_X1_share : jM := (1, yX1_share, cX1_share, 5, none, fun pc => cond (Nat.ble 109 pc) none (jt_X1_share pc))
set_option maxRecDepth 100000 in
theorem dk_X1_share : ∀ pc q, m_X1_share.2.2.2.2.2 pc = some q → decode cX1_share pc = .ok q := jk_sound (N := 109) (t := jt_X1_share) (by decide +kernel)
set_option maxRecDepth 100000 in
theorem ok_X1_share : jok m_X1_share := ⟨dk_X1_share, jG_in 587 rfl rfl, jG_in 92 rfl rfl, by decide +kernel, by decide +kernel, by decide⟩
set_option maxRecDepth 100000 in
theorem vi_X1_share : jvirt m_X1_share := ⟨jG_in 586 rfl rfl, jG_in 17 rfl rfl⟩
def jt_X1_beginYear : Nat → Option (Instr × Nat) := fun pc => cond (Nat.ble 25 pc) (cond (Nat.ble 41 pc) (cond (Nat.ble 48 pc) (cond (Nat.ble 52 pc) (cond (Nat.ble 55 pc) (cond (Nat.beq pc 55) (some (.return_, 1)) none) (cond (Nat.beq pc 52) (some (.goto (-50), 3)) none)) (cond (Nat.ble 49 pc) (cond (Nat.beq pc 49) (some (.iinc 1 1, 3)) none) (cond (Nat.beq pc 48) (some (.iastore, 1)) none))) (cond (Nat.ble 44 pc) (cond (Nat.ble 47 pc) (cond (Nat.beq pc 47) (some (.iload_n 2, 1)) none) (cond (Nat.beq pc 44) (some (.goto 4, 3)) none)) (cond (Nat.ble 43 pc) (cond (Nat.beq pc 43) (some (.irem, 1)) none) (cond (Nat.beq pc 41) (some (.bipush 12, 2)) none)))) (cond (Nat.ble 35 pc) (cond (Nat.ble 39 pc) (cond (Nat.ble 40 pc) (cond (Nat.beq pc 40) (some (.iadd, 1)) none) (cond (Nat.beq pc 39) (some (.iconst 1, 1)) none)) (cond (Nat.ble 38 pc) (cond (Nat.beq pc 38) (some (.iload_n 2, 1)) none) (cond (Nat.beq pc 35) (some (.if_icmp .ne 12, 3)) none))) (cond (Nat.ble 29 pc) (cond (Nat.ble 32 pc) (cond (Nat.beq pc 32) (some (.getfield 84, 3)) none) (cond (Nat.beq pc 29) (some (.getfield 68, 3)) none)) (cond (Nat.ble 26 pc) (cond (Nat.beq pc 26) (some (.getfield 24, 3)) none) (cond (Nat.beq pc 25) (some (.aload_n 0, 1)) none))))) (cond (Nat.ble 13 pc) (cond (Nat.ble 19 pc) (cond (Nat.ble 23 pc) (cond (Nat.ble 24 pc) (cond (Nat.beq pc 24) (some (.iload_n 2, 1)) none) (cond (Nat.beq pc 23) (some (.iload_n 1, 1)) none)) (cond (Nat.ble 20 pc) (cond (Nat.beq pc 20) (some (.getfield 18, 3)) none) (cond (Nat.beq pc 19) (some (.aload_n 0, 1)) none))) (cond (Nat.ble 15 pc) (cond (Nat.ble 18 pc) (cond (Nat.beq pc 18) (some (.istore_n 2, 1)) none) (cond (Nat.beq pc 15) (some (.invokevirtual 81, 3)) none)) (cond (Nat.ble 14 pc) (cond (Nat.beq pc 14) (some (.iload_n 1, 1)) none) (cond (Nat.beq pc 13) (some (.aload_n 0, 1)) none)))) (cond (Nat.ble 3 pc) (cond (Nat.ble 7 pc) (cond (Nat.ble 10 pc) (cond (Nat.beq pc 10) (some (.if_icmp .ge 45, 3)) none) (cond (Nat.beq pc 7) (some (.getfield 42, 3)) none)) (cond (Nat.ble 4 pc) (cond (Nat.beq pc 4) (some (.getfield 24, 3)) none) (cond (Nat.beq pc 3) (some (.aload_n 0, 1)) none))) (cond (Nat.ble 1 pc) (cond (Nat.ble 2 pc) (cond (Nat.beq pc 2) (some (.iload_n 1, 1)) none) (cond (Nat.beq pc 1) (some (.istore_n 1, 1)) none)) (cond (Nat.beq pc 0) (some (.iconst 0, 1)) none))))
def m_X1_beginYear : jM := (1, yX1_beginYear, cX1_beginYear, 3, none, fun pc => cond (Nat.ble 56 pc) none (jt_X1_beginYear pc))
set_option maxRecDepth 100000 in
theorem dk_X1_beginYear : ∀ pc q, m_X1_beginYear.2.2.2.2.2 pc = some q → decode cX1_beginYear pc = .ok q := jk_sound (N := 56) (t := jt_X1_beginYear) (by decide +kernel)
set_option maxRecDepth 100000 in
theorem ok_X1_beginYear : jok m_X1_beginYear := ⟨dk_X1_beginYear, jG_in 405 rfl rfl, jG_in 92 rfl rfl, by decide +kernel, by decide +kernel, by decide⟩
set_option maxRecDepth 100000 in
theorem vi_X1_beginYear : jvirt m_X1_beginYear := ⟨jG_in 404 rfl rfl, jG_in 1 rfl rfl⟩
def jt_X1_wanted : Nat → Option (Instr × Nat) := fun pc => cond (Nat.ble 122 pc) (cond (Nat.ble 160 pc) (cond (Nat.ble 185 pc) (cond (Nat.ble 193 pc) (cond (Nat.ble 196 pc) (cond (Nat.ble 197 pc) (cond (Nat.ble 198 pc) (cond (Nat.beq pc 198) (some (.ireturn, 1)) none) (cond (Nat.beq pc 197) (some (.iload_n 2, 1)) none)) (cond (Nat.beq pc 196) (some (.ireturn, 1)) none)) (cond (Nat.ble 194 pc) (cond (Nat.ble 195 pc) (cond (Nat.beq pc 195) (some (.iaload, 1)) none) (cond (Nat.beq pc 194) (some (.iadd, 1)) none)) (cond (Nat.beq pc 193) (some (.irem, 1)) none))) (cond (Nat.ble 188 pc) (cond (Nat.ble 189 pc) (cond (Nat.ble 192 pc) (cond (Nat.beq pc 192) (some (.iconst 4, 1)) none) (cond (Nat.beq pc 189) (some (.getfield 41, 3)) none)) (cond (Nat.beq pc 188) (some (.aload_n 0, 1)) none)) (cond (Nat.ble 186 pc) (cond (Nat.ble 187 pc) (cond (Nat.beq pc 187) (some (.imul, 1)) none) (cond (Nat.beq pc 186) (some (.iconst 4, 1)) none)) (cond (Nat.beq pc 185) (some (.iload_n 1, 1)) none)))) (cond (Nat.ble 173 pc) (cond (Nat.ble 178 pc) (cond (Nat.ble 179 pc) (cond (Nat.ble 182 pc) (cond (Nat.beq pc 182) (some (.getfield 100, 3)) none) (cond (Nat.beq pc 179) (some (.getfield 24, 3)) none)) (cond (Nat.beq pc 178) (some (.aload_n 0, 1)) none)) (cond (Nat.ble 176 pc) (cond (Nat.ble 177 pc) (cond (Nat.beq pc 177) (some (.ireturn, 1)) none) (cond (Nat.beq pc 176) (some (.iload_n 2, 1)) none)) (cond (Nat.beq pc 173) (some (.goto 4, 3)) none))) (cond (Nat.ble 167 pc) (cond (Nat.ble 168 pc) (cond (Nat.ble 171 pc) (cond (Nat.beq pc 171) (some (.iload 4, 2)) none) (cond (Nat.beq pc 168) (some (.ifCond .eq 8, 3)) none)) (cond (Nat.beq pc 167) (some (.baload, 1)) none)) (cond (Nat.ble 163 pc) (cond (Nat.ble 166 pc) (cond (Nat.beq pc 166) (some (.iload_n 3, 1)) none) (cond (Nat.beq pc 163) (some (.getfield 45, 3)) none)) (cond (Nat.beq pc 160) (some (.getfield 24, 3)) none))))) (cond (Nat.ble 138 pc) (cond (Nat.ble 150 pc) (cond (Nat.ble 155 pc) (cond (Nat.ble 158 pc) (cond (Nat.ble 159 pc) (cond (Nat.beq pc 159) (some (.aload_n 0, 1)) none) (cond (Nat.beq pc 158) (some (.ireturn, 1)) none)) (cond (Nat.beq pc 155) (some (.invokevirtual 96, 3)) none)) (cond (Nat.ble 151 pc) (cond (Nat.ble 153 pc) (cond (Nat.beq pc 153) (some (.bipush 8, 2)) none) (cond (Nat.beq pc 151) (some (.iload 4, 2)) none)) (cond (Nat.beq pc 150) (some (.iload_n 2, 1)) none))) (cond (Nat.ble 144 pc) (cond (Nat.ble 146 pc) (cond (Nat.ble 149 pc) (cond (Nat.beq pc 149) (some (.aload_n 0, 1)) none) (cond (Nat.beq pc 146) (some (.goto 12, 3)) none)) (cond (Nat.beq pc 144) (some (.iload 5, 2)) none)) (cond (Nat.ble 140 pc) (cond (Nat.ble 141 pc) (cond (Nat.beq pc 141) (some (.if_icmp .eq 8, 3)) none) (cond (Nat.beq pc 140) (some (.iconst (-1), 1)) none)) (cond (Nat.beq pc 138) (some (.iload 5, 2)) none)))) (cond (Nat.ble 128 pc) (cond (Nat.ble 132 pc) (cond (Nat.ble 133 pc) (cond (Nat.ble 136 pc) (cond (Nat.beq pc 136) (some (.istore 5, 2)) none) (cond (Nat.beq pc 133) (some (.invokevirtual 96, 3)) none)) (cond (Nat.beq pc 132) (some (.iconst 2, 1)) none)) (cond (Nat.ble 129 pc) (cond (Nat.ble 130 pc) (cond (Nat.beq pc 130) (some (.iload 4, 2)) none) (cond (Nat.beq pc 129) (some (.iload_n 2, 1)) none)) (cond (Nat.beq pc 128) (some (.aload_n 0, 1)) none))) (cond (Nat.ble 124 pc) (cond (Nat.ble 126 pc) (cond (Nat.ble 127 pc) (cond (Nat.beq pc 127) (some (.ireturn, 1)) none) (cond (Nat.beq pc 126) (some (.irem, 1)) none)) (cond (Nat.beq pc 124) (some (.bipush 12, 2)) none)) (cond (Nat.ble 123 pc) (cond (Nat.beq pc 123) (some (.iadd, 1)) none) (cond (Nat.beq pc 122) (some (.iaload, 1)) none)))))) (cond (Nat.ble 43 pc) (cond (Nat.ble 101 pc) (cond (Nat.ble 112 pc) (cond (Nat.ble 115 pc) (cond (Nat.ble 118 pc) (cond (Nat.ble 121 pc) (cond (Nat.beq pc 121) (some (.iload_n 1, 1)) none) (cond (Nat.beq pc 118) (some (.getfield 90, 3)) none)) (cond (Nat.beq pc 115) (some (.getfield 24, 3)) none)) (cond (Nat.ble 113 pc) (cond (Nat.ble 114 pc) (cond (Nat.beq pc 114) (some (.aload_n 0, 1)) none) (cond (Nat.beq pc 113) (some (.iload_n 2, 1)) none)) (cond (Nat.beq pc 112) (some (.ireturn, 1)) none))) (cond (Nat.ble 106 pc) (cond (Nat.ble 109 pc) (cond (Nat.ble 110 pc) (cond (Nat.beq pc 110) (some (.iload 4, 2)) none) (cond (Nat.beq pc 109) (some (.ireturn, 1)) none)) (cond (Nat.beq pc 106) (some (.invokevirtual 96, 3)) none)) (cond (Nat.ble 102 pc) (cond (Nat.ble 104 pc) (cond (Nat.beq pc 104) (some (.bipush 8, 2)) none) (cond (Nat.beq pc 102) (some (.iload 4, 2)) none)) (cond (Nat.beq pc 101) (some (.iload_n 2, 1)) none)))) (cond (Nat.ble 54 pc) (cond (Nat.ble 61 pc) (cond (Nat.ble 62 pc) (cond (Nat.ble 100 pc) (cond (Nat.beq pc 100) (some (.aload_n 0, 1)) none) (cond (Nat.beq pc 62) (some (.tableswitch 135 1 6 #[38, 48, 51, 66, 97, 116], 38)) none)) (cond (Nat.beq pc 61) (some (.iaload, 1)) none)) (cond (Nat.ble 57 pc) (cond (Nat.ble 60 pc) (cond (Nat.beq pc 60) (some (.iload_n 1, 1)) none) (cond (Nat.beq pc 57) (some (.getfield 93, 3)) none)) (cond (Nat.beq pc 54) (some (.getfield 24, 3)) none))) (cond (Nat.ble 50 pc) (cond (Nat.ble 51 pc) (cond (Nat.ble 53 pc) (cond (Nat.beq pc 53) (some (.aload_n 0, 1)) none) (cond (Nat.beq pc 51) (some (.istore 4, 2)) none)) (cond (Nat.beq pc 50) (some (.iaload, 1)) none)) (cond (Nat.ble 46 pc) (cond (Nat.ble 49 pc) (cond (Nat.beq pc 49) (some (.iload_n 3, 1)) none) (cond (Nat.beq pc 46) (some (.getfield 49, 3)) none)) (cond (Nat.beq pc 43) (some (.getfield 24, 3)) none))))) (cond (Nat.ble 21 pc) (cond (Nat.ble 33 pc) (cond (Nat.ble 40 pc) (cond (Nat.ble 41 pc) (cond (Nat.ble 42 pc) (cond (Nat.beq pc 42) (some (.aload_n 0, 1)) none) (cond (Nat.beq pc 41) (some (.istore_n 3, 1)) none)) (cond (Nat.beq pc 40) (some (.iconst 0, 1)) none)) (cond (Nat.ble 36 pc) (cond (Nat.ble 37 pc) (cond (Nat.beq pc 37) (some (.goto 4, 3)) none) (cond (Nat.beq pc 36) (some (.irem, 1)) none)) (cond (Nat.beq pc 33) (some (.getfield 42, 3)) none))) (cond (Nat.ble 28 pc) (cond (Nat.ble 29 pc) (cond (Nat.ble 30 pc) (cond (Nat.beq pc 30) (some (.getfield 24, 3)) none) (cond (Nat.beq pc 29) (some (.aload_n 0, 1)) none)) (cond (Nat.beq pc 28) (some (.iaload, 1)) none)) (cond (Nat.ble 24 pc) (cond (Nat.ble 27 pc) (cond (Nat.beq pc 27) (some (.iload_n 1, 1)) none) (cond (Nat.beq pc 24) (some (.getfield 90, 3)) none)) (cond (Nat.beq pc 21) (some (.getfield 24, 3)) none)))) (cond (Nat.ble 9 pc) (cond (Nat.ble 14 pc) (cond (Nat.ble 17 pc) (cond (Nat.ble 20 pc) (cond (Nat.beq pc 20) (some (.aload_n 0, 1)) none) (cond (Nat.beq pc 17) (some (.ifCond .le 23, 3)) none)) (cond (Nat.beq pc 14) (some (.getfield 42, 3)) none)) (cond (Nat.ble 10 pc) (cond (Nat.ble 11 pc) (cond (Nat.beq pc 11) (some (.getfield 24, 3)) none) (cond (Nat.beq pc 10) (some (.aload_n 0, 1)) none)) (cond (Nat.beq pc 9) (some (.istore_n 2, 1)) none))) (cond (Nat.ble 4 pc) (cond (Nat.ble 7 pc) (cond (Nat.ble 8 pc) (cond (Nat.beq pc 8) (some (.iaload, 1)) none) (cond (Nat.beq pc 7) (some (.iload_n 1, 1)) none)) (cond (Nat.beq pc 4) (some (.getfield 87, 3)) none)) (cond (Nat.ble 1 pc) (cond (Nat.beq pc 1) (some (.getfield 24, 3)) none) (cond (Nat.beq pc 0) (some (.aload_n 0, 1)) none))))))
def m_X1_wanted : jM := (1, yX1_wanted, cX1_wanted, 6, (some .int), fun pc => cond (Nat.ble 199 pc) none (jt_X1_wanted pc))
set_option maxRecDepth 100000 in
theorem dk_X1_wanted : ∀ pc q, m_X1_wanted.2.2.2.2.2 pc = some q → decode cX1_wanted pc = .ok q := jk_sound (N := 199) (t := jt_X1_wanted) (by decide +kernel)
set_option maxRecDepth 100000 in
theorem ok_X1_wanted : jok m_X1_wanted := ⟨dk_X1_wanted, jG_in 409 rfl rfl, jG_in 92 rfl rfl, by decide +kernel, by decide +kernel, by decide⟩
set_option maxRecDepth 100000 in
theorem vi_X1_wanted : jvirt m_X1_wanted := ⟨jG_in 408 rfl rfl, jG_in 2 rfl rfl⟩
def jt_X1_freeDay : Nat → Option (Instr × Nat) := fun pc => cond (Nat.ble 22 pc) (cond (Nat.ble 33 pc) (cond (Nat.ble 39 pc) (cond (Nat.ble 45 pc) (cond (Nat.ble 46 pc) (cond (Nat.beq pc 46) (some (.ireturn, 1)) none) (cond (Nat.beq pc 45) (some (.iconst (-1), 1)) none)) (cond (Nat.ble 42 pc) (cond (Nat.beq pc 42) (some (.goto (-39), 3)) none) (cond (Nat.beq pc 39) (some (.iinc 4 1, 3)) none))) (cond (Nat.ble 36 pc) (cond (Nat.ble 38 pc) (cond (Nat.beq pc 38) (some (.ireturn, 1)) none) (cond (Nat.beq pc 36) (some (.iload 5, 2)) none)) (cond (Nat.beq pc 33) (some (.if_icmp .ge 6, 3)) none))) (cond (Nat.ble 29 pc) (cond (Nat.ble 31 pc) (cond (Nat.ble 32 pc) (cond (Nat.beq pc 32) (some (.iload_n 3, 1)) none) (cond (Nat.beq pc 31) (some (.iaload, 1)) none)) (cond (Nat.beq pc 29) (some (.iload 5, 2)) none)) (cond (Nat.ble 25 pc) (cond (Nat.ble 26 pc) (cond (Nat.beq pc 26) (some (.getfield 21, 3)) none) (cond (Nat.beq pc 25) (some (.aload_n 0, 1)) none)) (cond (Nat.beq pc 22) (some (.if_icmp .eq 17, 3)) none)))) (cond (Nat.ble 11 pc) (cond (Nat.ble 16 pc) (cond (Nat.ble 19 pc) (cond (Nat.ble 21 pc) (cond (Nat.beq pc 21) (some (.iload_n 2, 1)) none) (cond (Nat.beq pc 19) (some (.iload 5, 2)) none)) (cond (Nat.ble 17 pc) (cond (Nat.beq pc 17) (some (.istore 5, 2)) none) (cond (Nat.beq pc 16) (some (.irem, 1)) none))) (cond (Nat.ble 13 pc) (cond (Nat.ble 14 pc) (cond (Nat.beq pc 14) (some (.bipush 12, 2)) none) (cond (Nat.beq pc 13) (some (.iadd, 1)) none)) (cond (Nat.beq pc 11) (some (.iload 4, 2)) none))) (cond (Nat.ble 5 pc) (cond (Nat.ble 7 pc) (cond (Nat.ble 10 pc) (cond (Nat.beq pc 10) (some (.iload_n 1, 1)) none) (cond (Nat.beq pc 7) (some (.if_icmp .ge 38, 3)) none)) (cond (Nat.beq pc 5) (some (.bipush 12, 2)) none)) (cond (Nat.ble 1 pc) (cond (Nat.ble 3 pc) (cond (Nat.beq pc 3) (some (.iload 4, 2)) none) (cond (Nat.beq pc 1) (some (.istore 4, 2)) none)) (cond (Nat.beq pc 0) (some (.iconst 0, 1)) none))))
def m_X1_freeDay : jM := (1, yX1_freeDay, cX1_freeDay, 6, (some .int), fun pc => cond (Nat.ble 47 pc) none (jt_X1_freeDay pc))
set_option maxRecDepth 100000 in
theorem dk_X1_freeDay : ∀ pc q, m_X1_freeDay.2.2.2.2.2 pc = some q → decode cX1_freeDay pc = .ok q := jk_sound (N := 47) (t := jt_X1_freeDay) (by decide +kernel)
set_option maxRecDepth 100000 in
theorem ok_X1_freeDay : jok m_X1_freeDay := ⟨dk_X1_freeDay, jG_in 413 rfl rfl, jG_in 92 rfl rfl, by decide +kernel, by decide +kernel, by decide⟩
set_option maxRecDepth 100000 in
theorem vi_X1_freeDay : jvirt m_X1_freeDay := ⟨jG_in 412 rfl rfl, jG_in 3 rfl rfl⟩
def jt_X1_putOff : Nat → Option (Instr × Nat) := fun pc => cond (Nat.ble 13 pc) (cond (Nat.ble 18 pc) (cond (Nat.ble 21 pc) (cond (Nat.ble 22 pc) (cond (Nat.beq pc 22) (some (.ireturn, 1)) none) (cond (Nat.beq pc 21) (some (.irem, 1)) none)) (cond (Nat.ble 19 pc) (cond (Nat.beq pc 19) (some (.bipush 12, 2)) none) (cond (Nat.beq pc 18) (some (.iadd, 1)) none))) (cond (Nat.ble 15 pc) (cond (Nat.ble 16 pc) (cond (Nat.beq pc 16) (some (.bipush 12, 2)) none) (cond (Nat.beq pc 15) (some (.isub, 1)) none)) (cond (Nat.ble 14 pc) (cond (Nat.beq pc 14) (some (.iaload, 1)) none) (cond (Nat.beq pc 13) (some (.iload_n 1, 1)) none)))) (cond (Nat.ble 5 pc) (cond (Nat.ble 7 pc) (cond (Nat.ble 10 pc) (cond (Nat.beq pc 10) (some (.getfield 87, 3)) none) (cond (Nat.beq pc 7) (some (.getfield 24, 3)) none)) (cond (Nat.ble 6 pc) (cond (Nat.beq pc 6) (some (.aload_n 0, 1)) none) (cond (Nat.beq pc 5) (some (.iaload, 1)) none))) (cond (Nat.ble 1 pc) (cond (Nat.ble 4 pc) (cond (Nat.beq pc 4) (some (.iload_n 1, 1)) none) (cond (Nat.beq pc 1) (some (.getfield 18, 3)) none)) (cond (Nat.beq pc 0) (some (.aload_n 0, 1)) none)))
def m_X1_putOff : jM := (1, yX1_putOff, cX1_putOff, 2, (some .int), fun pc => cond (Nat.ble 23 pc) none (jt_X1_putOff pc))
set_option maxRecDepth 100000 in
theorem dk_X1_putOff : ∀ pc q, m_X1_putOff.2.2.2.2.2 pc = some q → decode cX1_putOff pc = .ok q := jk_sound (N := 23) (t := jt_X1_putOff) (by decide +kernel)
set_option maxRecDepth 100000 in
theorem ok_X1_putOff : jok m_X1_putOff := ⟨dk_X1_putOff, jG_in 417 rfl rfl, jG_in 92 rfl rfl, by decide +kernel, by decide +kernel, by decide⟩
set_option maxRecDepth 100000 in
theorem vi_X1_putOff : jvirt m_X1_putOff := ⟨jG_in 415 rfl rfl, jG_in 416 rfl rfl⟩
def jt_X1_takes : Nat → Option (Instr × Nat) := fun pc => cond (Nat.ble 44 pc) (cond (Nat.ble 65 pc) (cond (Nat.ble 76 pc) (cond (Nat.ble 84 pc) (cond (Nat.ble 86 pc) (cond (Nat.ble 87 pc) (cond (Nat.beq pc 87) (some (.ireturn, 1)) none) (cond (Nat.beq pc 86) (some (.imul, 1)) none)) (cond (Nat.beq pc 84) (some (.iload 4, 2)) none)) (cond (Nat.ble 79 pc) (cond (Nat.ble 82 pc) (cond (Nat.beq pc 82) (some (.bipush 10, 2)) none) (cond (Nat.beq pc 79) (some (.goto (-52), 3)) none)) (cond (Nat.beq pc 76) (some (.iinc 6 1, 3)) none))) (cond (Nat.ble 71 pc) (cond (Nat.ble 73 pc) (cond (Nat.ble 74 pc) (cond (Nat.beq pc 74) (some (.istore 5, 2)) none) (cond (Nat.beq pc 73) (some (.iaload, 1)) none)) (cond (Nat.beq pc 71) (some (.iload 6, 2)) none)) (cond (Nat.ble 67 pc) (cond (Nat.ble 68 pc) (cond (Nat.beq pc 68) (some (.getfield 105, 3)) none) (cond (Nat.beq pc 67) (some (.aload_n 3, 1)) none)) (cond (Nat.beq pc 65) (some (.istore 4, 2)) none)))) (cond (Nat.ble 55 pc) (cond (Nat.ble 61 pc) (cond (Nat.ble 63 pc) (cond (Nat.ble 64 pc) (cond (Nat.beq pc 64) (some (.iadd, 1)) none) (cond (Nat.beq pc 63) (some (.iaload, 1)) none)) (cond (Nat.beq pc 61) (some (.iload 6, 2)) none)) (cond (Nat.ble 57 pc) (cond (Nat.ble 58 pc) (cond (Nat.beq pc 58) (some (.getfield 112, 3)) none) (cond (Nat.beq pc 57) (some (.aload_n 3, 1)) none)) (cond (Nat.beq pc 55) (some (.iload 4, 2)) none))) (cond (Nat.ble 48 pc) (cond (Nat.ble 49 pc) (cond (Nat.ble 52 pc) (cond (Nat.beq pc 52) (some (.ifCond .eq 15, 3)) none) (cond (Nat.beq pc 49) (some (.invokevirtual 108, 3)) none)) (cond (Nat.beq pc 48) (some (.iload_n 2, 1)) none)) (cond (Nat.ble 46 pc) (cond (Nat.ble 47 pc) (cond (Nat.beq pc 47) (some (.iload_n 1, 1)) none) (cond (Nat.beq pc 46) (some (.iaload, 1)) none)) (cond (Nat.beq pc 44) (some (.iload 6, 2)) none))))) (cond (Nat.ble 22 pc) (cond (Nat.ble 33 pc) (cond (Nat.ble 38 pc) (cond (Nat.ble 40 pc) (cond (Nat.ble 41 pc) (cond (Nat.beq pc 41) (some (.getfield 105, 3)) none) (cond (Nat.beq pc 40) (some (.aload_n 3, 1)) none)) (cond (Nat.beq pc 38) (some (.iload 5, 2)) none)) (cond (Nat.ble 36 pc) (cond (Nat.ble 37 pc) (cond (Nat.beq pc 37) (some (.aload_n 3, 1)) none) (cond (Nat.beq pc 36) (some (.aload_n 0, 1)) none)) (cond (Nat.beq pc 33) (some (.if_icmp .ge 49, 3)) none))) (cond (Nat.ble 27 pc) (cond (Nat.ble 29 pc) (cond (Nat.ble 30 pc) (cond (Nat.beq pc 30) (some (.getfield 103, 3)) none) (cond (Nat.beq pc 29) (some (.aload_n 3, 1)) none)) (cond (Nat.beq pc 27) (some (.iload 6, 2)) none)) (cond (Nat.ble 24 pc) (cond (Nat.ble 25 pc) (cond (Nat.beq pc 25) (some (.istore 6, 2)) none) (cond (Nat.beq pc 24) (some (.iconst 0, 1)) none)) (cond (Nat.beq pc 22) (some (.istore 5, 2)) none)))) (cond (Nat.ble 12 pc) (cond (Nat.ble 18 pc) (cond (Nat.ble 19 pc) (cond (Nat.ble 21 pc) (cond (Nat.beq pc 21) (some (.iconst 0, 1)) none) (cond (Nat.beq pc 19) (some (.istore 4, 2)) none)) (cond (Nat.beq pc 18) (some (.iconst 0, 1)) none)) (cond (Nat.ble 15 pc) (cond (Nat.ble 17 pc) (cond (Nat.beq pc 17) (some (.ireturn, 1)) none) (cond (Nat.beq pc 15) (some (.bipush 100, 2)) none)) (cond (Nat.beq pc 12) (some (.ifCond .ne 6, 3)) none))) (cond (Nat.ble 7 pc) (cond (Nat.ble 8 pc) (cond (Nat.ble 9 pc) (cond (Nat.beq pc 9) (some (.getfield 103, 3)) none) (cond (Nat.beq pc 8) (some (.aload_n 3, 1)) none)) (cond (Nat.beq pc 7) (some (.astore_n 3, 1)) none)) (cond (Nat.ble 1 pc) (cond (Nat.ble 4 pc) (cond (Nat.beq pc 4) (some (.getfield 68, 3)) none) (cond (Nat.beq pc 1) (some (.getfield 24, 3)) none)) (cond (Nat.beq pc 0) (some (.aload_n 0, 1)) none)))))
def m_X1_takes : jM := (1, yX1_takes, cX1_takes, 7, (some .int), fun pc => cond (Nat.ble 88 pc) none (jt_X1_takes pc))
set_option maxRecDepth 100000 in
theorem dk_X1_takes : ∀ pc q, m_X1_takes.2.2.2.2.2 pc = some q → decode cX1_takes pc = .ok q := jk_sound (N := 88) (t := jt_X1_takes) (by decide +kernel)
set_option maxRecDepth 100000 in
theorem ok_X1_takes : jok m_X1_takes := ⟨dk_X1_takes, jG_in 421 rfl rfl, jG_in 92 rfl rfl, by decide +kernel, by decide +kernel, by decide⟩
set_option maxRecDepth 100000 in
theorem vi_X1_takes : jvirt m_X1_takes := ⟨jG_in 419 rfl rfl, jG_in 420 rfl rfl⟩
def jt_X1_allows : Nat → Option (Instr × Nat) := fun pc => cond (Nat.ble 83 pc) (cond (Nat.ble 132 pc) (cond (Nat.ble 151 pc) (cond (Nat.ble 163 pc) (cond (Nat.ble 168 pc) (cond (Nat.ble 171 pc) (cond (Nat.ble 172 pc) (cond (Nat.beq pc 172) (some (.ireturn, 1)) none) (cond (Nat.beq pc 171) (some (.iconst 0, 1)) none)) (cond (Nat.beq pc 168) (some (.goto 4, 3)) none)) (cond (Nat.ble 164 pc) (cond (Nat.ble 167 pc) (cond (Nat.beq pc 167) (some (.iconst 1, 1)) none) (cond (Nat.beq pc 164) (some (.if_icmp .ne 7, 3)) none)) (cond (Nat.beq pc 163) (some (.iconst 1, 1)) none))) (cond (Nat.ble 159 pc) (cond (Nat.ble 161 pc) (cond (Nat.ble 162 pc) (cond (Nat.beq pc 162) (some (.iand, 1)) none) (cond (Nat.beq pc 161) (some (.iconst 1, 1)) none)) (cond (Nat.beq pc 159) (some (.iload 6, 2)) none)) (cond (Nat.ble 153 pc) (cond (Nat.ble 156 pc) (cond (Nat.beq pc 156) (some (.goto (-150), 3)) none) (cond (Nat.beq pc 153) (some (.iinc 7 1, 3)) none)) (cond (Nat.beq pc 151) (some (.istore 6, 2)) none)))) (cond (Nat.ble 141 pc) (cond (Nat.ble 146 pc) (cond (Nat.ble 149 pc) (cond (Nat.ble 150 pc) (cond (Nat.beq pc 150) (some (.ior, 1)) none) (cond (Nat.beq pc 149) (some (.iconst 0, 1)) none)) (cond (Nat.beq pc 146) (some (.goto 4, 3)) none)) (cond (Nat.ble 142 pc) (cond (Nat.ble 145 pc) (cond (Nat.beq pc 145) (some (.iconst 1, 1)) none) (cond (Nat.beq pc 142) (some (.if_icmp .ne 7, 3)) none)) (cond (Nat.beq pc 141) (some (.iaload, 1)) none))) (cond (Nat.ble 135 pc) (cond (Nat.ble 136 pc) (cond (Nat.ble 139 pc) (cond (Nat.beq pc 139) (some (.iload 7, 2)) none) (cond (Nat.beq pc 136) (some (.getfield 124, 3)) none)) (cond (Nat.beq pc 135) (some (.aload_n 1, 1)) none)) (cond (Nat.ble 133 pc) (cond (Nat.beq pc 133) (some (.iload 11, 2)) none) (cond (Nat.beq pc 132) (some (.ishl, 1)) none))))) (cond (Nat.ble 105 pc) (cond (Nat.ble 120 pc) (cond (Nat.ble 127 pc) (cond (Nat.ble 129 pc) (cond (Nat.ble 131 pc) (cond (Nat.beq pc 131) (some (.iconst 1, 1)) none) (cond (Nat.beq pc 129) (some (.iload 6, 2)) none)) (cond (Nat.beq pc 127) (some (.istore 11, 2)) none)) (cond (Nat.ble 122 pc) (cond (Nat.ble 125 pc) (cond (Nat.beq pc 125) (some (.bipush 62, 2)) none) (cond (Nat.beq pc 122) (some (.goto 5, 3)) none)) (cond (Nat.beq pc 120) (some (.bipush 61, 2)) none))) (cond (Nat.ble 113 pc) (cond (Nat.ble 115 pc) (cond (Nat.ble 117 pc) (cond (Nat.beq pc 117) (some (.if_icmp .ne 8, 3)) none) (cond (Nat.beq pc 115) (some (.iload 10, 2)) none)) (cond (Nat.beq pc 113) (some (.iload 9, 2)) none)) (cond (Nat.ble 108 pc) (cond (Nat.ble 110 pc) (cond (Nat.beq pc 110) (some (.goto 17, 3)) none) (cond (Nat.beq pc 108) (some (.bipush 60, 2)) none)) (cond (Nat.beq pc 105) (some (.if_icmp .ge 8, 3)) none)))) (cond (Nat.ble 93 pc) (cond (Nat.ble 99 pc) (cond (Nat.ble 101 pc) (cond (Nat.ble 103 pc) (cond (Nat.beq pc 103) (some (.iload 10, 2)) none) (cond (Nat.beq pc 101) (some (.iload 9, 2)) none)) (cond (Nat.beq pc 99) (some (.istore 10, 2)) none)) (cond (Nat.ble 96 pc) (cond (Nat.ble 98 pc) (cond (Nat.beq pc 98) (some (.iaload, 1)) none) (cond (Nat.beq pc 96) (some (.iload 7, 2)) none)) (cond (Nat.beq pc 93) (some (.getfield 121, 3)) none))) (cond (Nat.ble 87 pc) (cond (Nat.ble 90 pc) (cond (Nat.ble 92 pc) (cond (Nat.beq pc 92) (some (.aload_n 1, 1)) none) (cond (Nat.beq pc 90) (some (.istore 9, 2)) none)) (cond (Nat.beq pc 87) (some (.invokevirtual 118, 3)) none)) (cond (Nat.ble 85 pc) (cond (Nat.beq pc 85) (some (.iload 5, 2)) none) (cond (Nat.beq pc 83) (some (.iload 4, 2)) none)))))) (cond (Nat.ble 44 pc) (cond (Nat.ble 63 pc) (cond (Nat.ble 73 pc) (cond (Nat.ble 77 pc) (cond (Nat.ble 80 pc) (cond (Nat.ble 81 pc) (cond (Nat.beq pc 81) (some (.iload 8, 2)) none) (cond (Nat.beq pc 80) (some (.aload_n 0, 1)) none)) (cond (Nat.beq pc 77) (some (.goto 76, 3)) none)) (cond (Nat.ble 74 pc) (cond (Nat.ble 75 pc) (cond (Nat.beq pc 75) (some (.istore 6, 2)) none) (cond (Nat.beq pc 74) (some (.ior, 1)) none)) (cond (Nat.beq pc 73) (some (.iand, 1)) none))) (cond (Nat.ble 69 pc) (cond (Nat.ble 70 pc) (cond (Nat.ble 72 pc) (cond (Nat.beq pc 72) (some (.iconst 1, 1)) none) (cond (Nat.beq pc 70) (some (.iload 6, 2)) none)) (cond (Nat.beq pc 69) (some (.iushr, 1)) none)) (cond (Nat.ble 66 pc) (cond (Nat.ble 68 pc) (cond (Nat.beq pc 68) (some (.iconst 1, 1)) none) (cond (Nat.beq pc 66) (some (.iload 6, 2)) none)) (cond (Nat.beq pc 63) (some (.if_icmp .ne 17, 3)) none)))) (cond (Nat.ble 52 pc) (cond (Nat.ble 56 pc) (cond (Nat.ble 59 pc) (cond (Nat.ble 61 pc) (cond (Nat.beq pc 61) (some (.bipush 124, 2)) none) (cond (Nat.beq pc 59) (some (.iload 8, 2)) none)) (cond (Nat.beq pc 56) (some (.goto 97, 3)) none)) (cond (Nat.ble 53 pc) (cond (Nat.ble 54 pc) (cond (Nat.beq pc 54) (some (.istore 6, 2)) none) (cond (Nat.beq pc 53) (some (.iand, 1)) none)) (cond (Nat.beq pc 52) (some (.ior, 1)) none))) (cond (Nat.ble 47 pc) (cond (Nat.ble 48 pc) (cond (Nat.ble 50 pc) (cond (Nat.beq pc 50) (some (.bipush (-2), 2)) none) (cond (Nat.beq pc 48) (some (.iload 6, 2)) none)) (cond (Nat.beq pc 47) (some (.iushr, 1)) none)) (cond (Nat.ble 46 pc) (cond (Nat.beq pc 46) (some (.iconst 1, 1)) none) (cond (Nat.beq pc 44) (some (.iload 6, 2)) none))))) (cond (Nat.ble 19 pc) (cond (Nat.ble 31 pc) (cond (Nat.ble 37 pc) (cond (Nat.ble 39 pc) (cond (Nat.ble 41 pc) (cond (Nat.beq pc 41) (some (.if_icmp .ne 18, 3)) none) (cond (Nat.beq pc 39) (some (.bipush 38, 2)) none)) (cond (Nat.beq pc 37) (some (.iload 8, 2)) none)) (cond (Nat.ble 32 pc) (cond (Nat.ble 34 pc) (cond (Nat.beq pc 34) (some (.goto 119, 3)) none) (cond (Nat.beq pc 32) (some (.istore 6, 2)) none)) (cond (Nat.beq pc 31) (some (.ixor, 1)) none))) (cond (Nat.ble 25 pc) (cond (Nat.ble 28 pc) (cond (Nat.ble 30 pc) (cond (Nat.beq pc 30) (some (.iconst 1, 1)) none) (cond (Nat.beq pc 28) (some (.iload 6, 2)) none)) (cond (Nat.beq pc 25) (some (.if_icmp .ne 12, 3)) none)) (cond (Nat.ble 21 pc) (cond (Nat.ble 23 pc) (cond (Nat.beq pc 23) (some (.bipush 33, 2)) none) (cond (Nat.beq pc 21) (some (.iload 8, 2)) none)) (cond (Nat.beq pc 19) (some (.istore 8, 2)) none)))) (cond (Nat.ble 8 pc) (cond (Nat.ble 13 pc) (cond (Nat.ble 16 pc) (cond (Nat.ble 18 pc) (cond (Nat.beq pc 18) (some (.iaload, 1)) none) (cond (Nat.beq pc 16) (some (.iload 7, 2)) none)) (cond (Nat.beq pc 13) (some (.getfield 115, 3)) none)) (cond (Nat.ble 9 pc) (cond (Nat.ble 12 pc) (cond (Nat.beq pc 12) (some (.aload_n 1, 1)) none) (cond (Nat.beq pc 9) (some (.if_icmp .ge 150, 3)) none)) (cond (Nat.beq pc 8) (some (.iload_n 3, 1)) none))) (cond (Nat.ble 3 pc) (cond (Nat.ble 4 pc) (cond (Nat.ble 6 pc) (cond (Nat.beq pc 6) (some (.iload 7, 2)) none) (cond (Nat.beq pc 4) (some (.istore 7, 2)) none)) (cond (Nat.beq pc 3) (some (.iload_n 2, 1)) none)) (cond (Nat.ble 1 pc) (cond (Nat.beq pc 1) (some (.istore 6, 2)) none) (cond (Nat.beq pc 0) (some (.iconst 0, 1)) none))))))
def m_X1_allows : jM := (1, yX1_allows, cX1_allows, 12, (some .boolean), fun pc => cond (Nat.ble 173 pc) none (jt_X1_allows pc))
set_option maxRecDepth 100000 in
theorem dk_X1_allows : ∀ pc q, m_X1_allows.2.2.2.2.2 pc = some q → decode cX1_allows pc = .ok q := jk_sound (N := 173) (t := jt_X1_allows) (by decide +kernel)
set_option maxRecDepth 100000 in
theorem ok_X1_allows : jok m_X1_allows := ⟨dk_X1_allows, jG_in 425 rfl rfl, jG_in 92 rfl rfl, by decide +kernel, by decide +kernel, by decide⟩
set_option maxRecDepth 100000 in
theorem vi_X1_allows : jvirt m_X1_allows := ⟨jG_in 424 rfl rfl, jG_in 4 rfl rfl⟩
def jt_X1_valueOf : Nat → Option (Instr × Nat) := fun pc => cond (Nat.ble 70 pc) (cond (Nat.ble 80 pc) (cond (Nat.ble 85 pc) (cond (Nat.ble 89 pc) (cond (Nat.ble 90 pc) (cond (Nat.beq pc 90) (some (.ireturn, 1)) none) (cond (Nat.beq pc 89) (some (.iaload, 1)) none)) (cond (Nat.ble 88 pc) (cond (Nat.beq pc 88) (some (.iload_n 2, 1)) none) (cond (Nat.beq pc 85) (some (.getfield 49, 3)) none))) (cond (Nat.ble 81 pc) (cond (Nat.ble 82 pc) (cond (Nat.beq pc 82) (some (.getfield 24, 3)) none) (cond (Nat.beq pc 81) (some (.aload_n 0, 1)) none)) (cond (Nat.beq pc 80) (some (.ireturn, 1)) none))) (cond (Nat.ble 73 pc) (cond (Nat.ble 77 pc) (cond (Nat.ble 79 pc) (cond (Nat.beq pc 79) (some (.irem, 1)) none) (cond (Nat.beq pc 77) (some (.bipush 10, 2)) none)) (cond (Nat.ble 74 pc) (cond (Nat.beq pc 74) (some (.getfield 41, 3)) none) (cond (Nat.beq pc 73) (some (.aload_n 0, 1)) none))) (cond (Nat.ble 71 pc) (cond (Nat.ble 72 pc) (cond (Nat.beq pc 72) (some (.ireturn, 1)) none) (cond (Nat.beq pc 71) (some (.iaload, 1)) none)) (cond (Nat.beq pc 70) (some (.iload_n 3, 1)) none)))) (cond (Nat.ble 61 pc) (cond (Nat.ble 64 pc) (cond (Nat.ble 66 pc) (cond (Nat.ble 67 pc) (cond (Nat.beq pc 67) (some (.getfield 21, 3)) none) (cond (Nat.beq pc 66) (some (.aload_n 0, 1)) none)) (cond (Nat.ble 65 pc) (cond (Nat.beq pc 65) (some (.ireturn, 1)) none) (cond (Nat.beq pc 64) (some (.iload_n 3, 1)) none))) (cond (Nat.ble 62 pc) (cond (Nat.ble 63 pc) (cond (Nat.beq pc 63) (some (.ireturn, 1)) none) (cond (Nat.beq pc 62) (some (.iaload, 1)) none)) (cond (Nat.beq pc 61) (some (.iload_n 2, 1)) none))) (cond (Nat.ble 53 pc) (cond (Nat.ble 55 pc) (cond (Nat.ble 58 pc) (cond (Nat.beq pc 58) (some (.getfield 93, 3)) none) (cond (Nat.beq pc 55) (some (.getfield 24, 3)) none)) (cond (Nat.ble 54 pc) (cond (Nat.beq pc 54) (some (.aload_n 0, 1)) none) (cond (Nat.beq pc 53) (some (.ireturn, 1)) none))) (cond (Nat.ble 1 pc) (cond (Nat.ble 52 pc) (cond (Nat.beq pc 52) (some (.iload_n 2, 1)) none) (cond (Nat.beq pc 1) (some (.lookupswitch 80 #[(99, 65), (100, 63), (107, 53), (112, 51), (121, 72)], 51)) none)) (cond (Nat.beq pc 0) (some (.iload_n 1, 1)) none))))
def m_X1_valueOf : jM := (1, yX1_valueOf, cX1_valueOf, 4, (some .int), fun pc => cond (Nat.ble 91 pc) none (jt_X1_valueOf pc))
set_option maxRecDepth 100000 in
theorem dk_X1_valueOf : ∀ pc q, m_X1_valueOf.2.2.2.2.2 pc = some q → decode cX1_valueOf pc = .ok q := jk_sound (N := 91) (t := jt_X1_valueOf) (by decide +kernel)
set_option maxRecDepth 100000 in
theorem ok_X1_valueOf : jok m_X1_valueOf := ⟨dk_X1_valueOf, jG_in 429 rfl rfl, jG_in 92 rfl rfl, by decide +kernel, by decide +kernel, by decide⟩
set_option maxRecDepth 100000 in
theorem vi_X1_valueOf : jvirt m_X1_valueOf := ⟨jG_in 428 rfl rfl, jG_in 5 rfl rfl⟩
def jt_X2_init : Nat → Option (Instr × Nat) := fun pc => cond (Nat.ble 37 pc) (cond (Nat.ble 55 pc) (cond (Nat.ble 65 pc) (cond (Nat.ble 69 pc) (cond (Nat.ble 70 pc) (cond (Nat.ble 73 pc) (cond (Nat.beq pc 73) (some (.return_, 1)) none) (cond (Nat.beq pc 70) (some (.putfield 37, 3)) none)) (cond (Nat.beq pc 69) (some (.aload_n 1, 1)) none)) (cond (Nat.ble 68 pc) (cond (Nat.beq pc 68) (some (.aload_n 0, 1)) none) (cond (Nat.beq pc 65) (some (.putfield 34, 3)) none))) (cond (Nat.ble 60 pc) (cond (Nat.ble 61 pc) (cond (Nat.ble 63 pc) (cond (Nat.beq pc 63) (some (.newarray .int, 2)) none) (cond (Nat.beq pc 61) (some (.bipush 12, 2)) none)) (cond (Nat.beq pc 60) (some (.aload_n 0, 1)) none)) (cond (Nat.ble 57 pc) (cond (Nat.beq pc 57) (some (.putfield 31, 3)) none) (cond (Nat.beq pc 55) (some (.newarray .int, 2)) none)))) (cond (Nat.ble 45 pc) (cond (Nat.ble 49 pc) (cond (Nat.ble 52 pc) (cond (Nat.ble 53 pc) (cond (Nat.beq pc 53) (some (.bipush 28, 2)) none) (cond (Nat.beq pc 52) (some (.aload_n 0, 1)) none)) (cond (Nat.beq pc 49) (some (.putfield 27, 3)) none)) (cond (Nat.ble 47 pc) (cond (Nat.beq pc 47) (some (.newarray .boolean, 2)) none) (cond (Nat.beq pc 45) (some (.bipush 7, 2)) none))) (cond (Nat.ble 41 pc) (cond (Nat.ble 44 pc) (cond (Nat.beq pc 44) (some (.aload_n 0, 1)) none) (cond (Nat.beq pc 41) (some (.putfield 24, 3)) none)) (cond (Nat.ble 39 pc) (cond (Nat.beq pc 39) (some (.newarray .int, 2)) none) (cond (Nat.beq pc 37) (some (.bipush 7, 2)) none))))) (cond (Nat.ble 17 pc) (cond (Nat.ble 28 pc) (cond (Nat.ble 31 pc) (cond (Nat.ble 33 pc) (cond (Nat.ble 36 pc) (cond (Nat.beq pc 36) (some (.aload_n 0, 1)) none) (cond (Nat.beq pc 33) (some (.putfield 21, 3)) none)) (cond (Nat.beq pc 31) (some (.newarray .int, 2)) none)) (cond (Nat.ble 29 pc) (cond (Nat.beq pc 29) (some (.bipush 7, 2)) none) (cond (Nat.beq pc 28) (some (.aload_n 0, 1)) none))) (cond (Nat.ble 21 pc) (cond (Nat.ble 23 pc) (cond (Nat.ble 25 pc) (cond (Nat.beq pc 25) (some (.putfield 18, 3)) none) (cond (Nat.beq pc 23) (some (.newarray .int, 2)) none)) (cond (Nat.beq pc 21) (some (.bipush 7, 2)) none)) (cond (Nat.ble 20 pc) (cond (Nat.beq pc 20) (some (.aload_n 0, 1)) none) (cond (Nat.beq pc 17) (some (.putfield 15, 3)) none)))) (cond (Nat.ble 7 pc) (cond (Nat.ble 12 pc) (cond (Nat.ble 13 pc) (cond (Nat.ble 15 pc) (cond (Nat.beq pc 15) (some (.newarray .int, 2)) none) (cond (Nat.beq pc 13) (some (.bipush 7, 2)) none)) (cond (Nat.beq pc 12) (some (.aload_n 0, 1)) none)) (cond (Nat.ble 9 pc) (cond (Nat.beq pc 9) (some (.putfield 9, 3)) none) (cond (Nat.beq pc 7) (some (.newarray .int, 2)) none))) (cond (Nat.ble 4 pc) (cond (Nat.ble 5 pc) (cond (Nat.beq pc 5) (some (.bipush 7, 2)) none) (cond (Nat.beq pc 4) (some (.aload_n 0, 1)) none)) (cond (Nat.ble 1 pc) (cond (Nat.beq pc 1) (some (.invokespecial 3, 3)) none) (cond (Nat.beq pc 0) (some (.aload_n 0, 1)) none)))))
def m_X2_init : jM := (2, yX2_init, cX2_init, 2, none, fun pc => cond (Nat.ble 74 pc) none (jt_X2_init pc))
set_option maxRecDepth 100000 in
theorem dk_X2_init : ∀ pc q, m_X2_init.2.2.2.2.2 pc = some q → decode cX2_init pc = .ok q := jk_sound (N := 74) (t := jt_X2_init) (by decide +kernel)
set_option maxRecDepth 100000 in
theorem ok_X2_init : jok m_X2_init := ⟨dk_X2_init, jG_in 219 rfl rfl, jG_in 91 rfl rfl, by decide +kernel, by decide +kernel, by decide⟩
set_option maxRecDepth 100000 in
theorem in_X2_init : jinit m_X2_init := ⟨rfl, jG_in 218 rfl rfl, rfl⟩
def jt_X2_add : Nat → Option (Instr × Nat) := fun pc => cond (Nat.ble 56 pc) (cond (Nat.ble 84 pc) (cond (Nat.ble 95 pc) (cond (Nat.ble 103 pc) (cond (Nat.ble 107 pc) (cond (Nat.ble 108 pc) (cond (Nat.ble 111 pc) (cond (Nat.beq pc 111) (some (.return_, 1)) none) (cond (Nat.beq pc 108) (some (.putfield 41, 3)) none)) (cond (Nat.beq pc 107) (some (.iadd, 1)) none)) (cond (Nat.ble 106 pc) (cond (Nat.beq pc 106) (some (.iconst 1, 1)) none) (cond (Nat.beq pc 103) (some (.getfield 41, 3)) none))) (cond (Nat.ble 101 pc) (cond (Nat.ble 102 pc) (cond (Nat.beq pc 102) (some (.dup, 1)) none) (cond (Nat.beq pc 101) (some (.aload_n 0, 1)) none)) (cond (Nat.ble 98 pc) (cond (Nat.beq pc 98) (some (.goto (-24), 3)) none) (cond (Nat.beq pc 95) (some (.iinc 5 1, 3)) none)))) (cond (Nat.ble 90 pc) (cond (Nat.ble 93 pc) (cond (Nat.ble 94 pc) (cond (Nat.beq pc 94) (some (.iastore, 1)) none) (cond (Nat.beq pc 93) (some (.iconst 0, 1)) none)) (cond (Nat.ble 92 pc) (cond (Nat.beq pc 92) (some (.iadd, 1)) none) (cond (Nat.beq pc 90) (some (.iload 5, 2)) none))) (cond (Nat.ble 88 pc) (cond (Nat.ble 89 pc) (cond (Nat.beq pc 89) (some (.imul, 1)) none) (cond (Nat.beq pc 88) (some (.iconst 4, 1)) none)) (cond (Nat.ble 85 pc) (cond (Nat.beq pc 85) (some (.getfield 41, 3)) none) (cond (Nat.beq pc 84) (some (.aload_n 0, 1)) none))))) (cond (Nat.ble 70 pc) (cond (Nat.ble 76 pc) (cond (Nat.ble 80 pc) (cond (Nat.ble 81 pc) (cond (Nat.beq pc 81) (some (.getfield 31, 3)) none) (cond (Nat.beq pc 80) (some (.aload_n 0, 1)) none)) (cond (Nat.ble 77 pc) (cond (Nat.beq pc 77) (some (.if_icmp .ge 24, 3)) none) (cond (Nat.beq pc 76) (some (.iconst 4, 1)) none))) (cond (Nat.ble 72 pc) (cond (Nat.ble 74 pc) (cond (Nat.beq pc 74) (some (.iload 5, 2)) none) (cond (Nat.beq pc 72) (some (.istore 5, 2)) none)) (cond (Nat.ble 71 pc) (cond (Nat.beq pc 71) (some (.iconst 0, 1)) none) (cond (Nat.beq pc 70) (some (.bastore, 1)) none)))) (cond (Nat.ble 62 pc) (cond (Nat.ble 66 pc) (cond (Nat.ble 69 pc) (cond (Nat.beq pc 69) (some (.iconst 1, 1)) none) (cond (Nat.beq pc 66) (some (.getfield 41, 3)) none)) (cond (Nat.ble 65 pc) (cond (Nat.beq pc 65) (some (.aload_n 0, 1)) none) (cond (Nat.beq pc 62) (some (.getfield 27, 3)) none))) (cond (Nat.ble 60 pc) (cond (Nat.ble 61 pc) (cond (Nat.beq pc 61) (some (.aload_n 0, 1)) none) (cond (Nat.beq pc 60) (some (.iastore, 1)) none)) (cond (Nat.ble 59 pc) (cond (Nat.beq pc 59) (some (.iconst 0, 1)) none) (cond (Nat.beq pc 56) (some (.getfield 41, 3)) none)))))) (cond (Nat.ble 29 pc) (cond (Nat.ble 41 pc) (cond (Nat.ble 50 pc) (cond (Nat.ble 52 pc) (cond (Nat.ble 55 pc) (cond (Nat.beq pc 55) (some (.aload_n 0, 1)) none) (cond (Nat.beq pc 52) (some (.getfield 24, 3)) none)) (cond (Nat.ble 51 pc) (cond (Nat.beq pc 51) (some (.aload_n 0, 1)) none) (cond (Nat.beq pc 50) (some (.iastore, 1)) none))) (cond (Nat.ble 45 pc) (cond (Nat.ble 48 pc) (cond (Nat.beq pc 48) (some (.iload 4, 2)) none) (cond (Nat.beq pc 45) (some (.getfield 41, 3)) none)) (cond (Nat.ble 44 pc) (cond (Nat.beq pc 44) (some (.aload_n 0, 1)) none) (cond (Nat.beq pc 41) (some (.getfield 21, 3)) none)))) (cond (Nat.ble 35 pc) (cond (Nat.ble 39 pc) (cond (Nat.ble 40 pc) (cond (Nat.beq pc 40) (some (.aload_n 0, 1)) none) (cond (Nat.beq pc 39) (some (.iastore, 1)) none)) (cond (Nat.ble 38 pc) (cond (Nat.beq pc 38) (some (.iload_n 3, 1)) none) (cond (Nat.beq pc 35) (some (.getfield 41, 3)) none))) (cond (Nat.ble 31 pc) (cond (Nat.ble 34 pc) (cond (Nat.beq pc 34) (some (.aload_n 0, 1)) none) (cond (Nat.beq pc 31) (some (.getfield 18, 3)) none)) (cond (Nat.ble 30 pc) (cond (Nat.beq pc 30) (some (.aload_n 0, 1)) none) (cond (Nat.beq pc 29) (some (.iastore, 1)) none))))) (cond (Nat.ble 15 pc) (cond (Nat.ble 21 pc) (cond (Nat.ble 25 pc) (cond (Nat.ble 28 pc) (cond (Nat.beq pc 28) (some (.iload_n 2, 1)) none) (cond (Nat.beq pc 25) (some (.getfield 41, 3)) none)) (cond (Nat.ble 24 pc) (cond (Nat.beq pc 24) (some (.aload_n 0, 1)) none) (cond (Nat.beq pc 21) (some (.getfield 15, 3)) none))) (cond (Nat.ble 19 pc) (cond (Nat.ble 20 pc) (cond (Nat.beq pc 20) (some (.aload_n 0, 1)) none) (cond (Nat.beq pc 19) (some (.iastore, 1)) none)) (cond (Nat.ble 18 pc) (cond (Nat.beq pc 18) (some (.iload_n 1, 1)) none) (cond (Nat.beq pc 15) (some (.getfield 41, 3)) none)))) (cond (Nat.ble 9 pc) (cond (Nat.ble 11 pc) (cond (Nat.ble 14 pc) (cond (Nat.beq pc 14) (some (.aload_n 0, 1)) none) (cond (Nat.beq pc 11) (some (.getfield 9, 3)) none)) (cond (Nat.ble 10 pc) (cond (Nat.beq pc 10) (some (.aload_n 0, 1)) none) (cond (Nat.beq pc 9) (some (.return_, 1)) none))) (cond (Nat.ble 4 pc) (cond (Nat.ble 6 pc) (cond (Nat.beq pc 6) (some (.if_icmp .lt 4, 3)) none) (cond (Nat.beq pc 4) (some (.bipush 7, 2)) none)) (cond (Nat.ble 1 pc) (cond (Nat.beq pc 1) (some (.getfield 41, 3)) none) (cond (Nat.beq pc 0) (some (.aload_n 0, 1)) none))))))
def m_X2_add : jM := (2, yX2_add, cX2_add, 6, none, fun pc => cond (Nat.ble 112 pc) none (jt_X2_add pc))
set_option maxRecDepth 100000 in
theorem dk_X2_add : ∀ pc q, m_X2_add.2.2.2.2.2 pc = some q → decode cX2_add pc = .ok q := jk_sound (N := 112) (t := jt_X2_add) (by decide +kernel)
set_option maxRecDepth 100000 in
theorem ok_X2_add : jok m_X2_add := ⟨dk_X2_add, jG_in 388 rfl rfl, jG_in 91 rfl rfl, by decide +kernel, by decide +kernel, by decide⟩
set_option maxRecDepth 100000 in
theorem vi_X2_add : jvirt m_X2_add := ⟨jG_in 386 rfl rfl, jG_in 387 rfl rfl⟩
def jt_X2_copy : Nat → Option (Instr × Nat) := fun pc => cond (Nat.ble 89 pc) (cond (Nat.ble 131 pc) (cond (Nat.ble 150 pc) (cond (Nat.ble 162 pc) (cond (Nat.ble 165 pc) (cond (Nat.ble 168 pc) (cond (Nat.ble 171 pc) (cond (Nat.beq pc 171) (some (.return_, 1)) none) (cond (Nat.beq pc 168) (some (.goto (-21), 3)) none)) (cond (Nat.beq pc 165) (some (.iinc 2 1, 3)) none)) (cond (Nat.ble 163 pc) (cond (Nat.ble 164 pc) (cond (Nat.beq pc 164) (some (.bastore, 1)) none) (cond (Nat.beq pc 163) (some (.baload, 1)) none)) (cond (Nat.beq pc 162) (some (.iload_n 2, 1)) none))) (cond (Nat.ble 157 pc) (cond (Nat.ble 158 pc) (cond (Nat.ble 159 pc) (cond (Nat.beq pc 159) (some (.getfield 27, 3)) none) (cond (Nat.beq pc 158) (some (.aload_n 1, 1)) none)) (cond (Nat.beq pc 157) (some (.iload_n 2, 1)) none)) (cond (Nat.ble 153 pc) (cond (Nat.ble 154 pc) (cond (Nat.beq pc 154) (some (.getfield 27, 3)) none) (cond (Nat.beq pc 153) (some (.aload_n 0, 1)) none)) (cond (Nat.beq pc 150) (some (.if_icmp .ge 21, 3)) none)))) (cond (Nat.ble 140 pc) (cond (Nat.ble 146 pc) (cond (Nat.ble 147 pc) (cond (Nat.ble 148 pc) (cond (Nat.beq pc 148) (some (.bipush 7, 2)) none) (cond (Nat.beq pc 147) (some (.iload_n 2, 1)) none)) (cond (Nat.beq pc 146) (some (.istore_n 2, 1)) none)) (cond (Nat.ble 142 pc) (cond (Nat.ble 145 pc) (cond (Nat.beq pc 145) (some (.iconst 0, 1)) none) (cond (Nat.beq pc 142) (some (.invokestatic 54, 3)) none)) (cond (Nat.beq pc 140) (some (.bipush 12, 2)) none))) (cond (Nat.ble 135 pc) (cond (Nat.ble 136 pc) (cond (Nat.ble 139 pc) (cond (Nat.beq pc 139) (some (.iconst 0, 1)) none) (cond (Nat.beq pc 136) (some (.getfield 34, 3)) none)) (cond (Nat.beq pc 135) (some (.aload_n 0, 1)) none)) (cond (Nat.ble 134 pc) (cond (Nat.beq pc 134) (some (.iconst 0, 1)) none) (cond (Nat.beq pc 131) (some (.getfield 34, 3)) none))))) (cond (Nat.ble 109 pc) (cond (Nat.ble 120 pc) (cond (Nat.ble 125 pc) (cond (Nat.ble 127 pc) (cond (Nat.ble 130 pc) (cond (Nat.beq pc 130) (some (.aload_n 1, 1)) none) (cond (Nat.beq pc 127) (some (.invokestatic 54, 3)) none)) (cond (Nat.beq pc 125) (some (.bipush 28, 2)) none)) (cond (Nat.ble 121 pc) (cond (Nat.ble 124 pc) (cond (Nat.beq pc 124) (some (.iconst 0, 1)) none) (cond (Nat.beq pc 121) (some (.getfield 31, 3)) none)) (cond (Nat.beq pc 120) (some (.aload_n 0, 1)) none))) (cond (Nat.ble 115 pc) (cond (Nat.ble 116 pc) (cond (Nat.ble 119 pc) (cond (Nat.beq pc 119) (some (.iconst 0, 1)) none) (cond (Nat.beq pc 116) (some (.getfield 31, 3)) none)) (cond (Nat.beq pc 115) (some (.aload_n 1, 1)) none)) (cond (Nat.ble 110 pc) (cond (Nat.ble 112 pc) (cond (Nat.beq pc 112) (some (.invokestatic 54, 3)) none) (cond (Nat.beq pc 110) (some (.bipush 7, 2)) none)) (cond (Nat.beq pc 109) (some (.iconst 0, 1)) none)))) (cond (Nat.ble 97 pc) (cond (Nat.ble 104 pc) (cond (Nat.ble 105 pc) (cond (Nat.ble 106 pc) (cond (Nat.beq pc 106) (some (.getfield 24, 3)) none) (cond (Nat.beq pc 105) (some (.aload_n 0, 1)) none)) (cond (Nat.beq pc 104) (some (.iconst 0, 1)) none)) (cond (Nat.ble 100 pc) (cond (Nat.ble 101 pc) (cond (Nat.beq pc 101) (some (.getfield 24, 3)) none) (cond (Nat.beq pc 100) (some (.aload_n 1, 1)) none)) (cond (Nat.beq pc 97) (some (.invokestatic 54, 3)) none))) (cond (Nat.ble 91 pc) (cond (Nat.ble 94 pc) (cond (Nat.ble 95 pc) (cond (Nat.beq pc 95) (some (.bipush 7, 2)) none) (cond (Nat.beq pc 94) (some (.iconst 0, 1)) none)) (cond (Nat.beq pc 91) (some (.getfield 21, 3)) none)) (cond (Nat.ble 90 pc) (cond (Nat.beq pc 90) (some (.aload_n 0, 1)) none) (cond (Nat.beq pc 89) (some (.iconst 0, 1)) none)))))) (cond (Nat.ble 45 pc) (cond (Nat.ble 65 pc) (cond (Nat.ble 76 pc) (cond (Nat.ble 82 pc) (cond (Nat.ble 85 pc) (cond (Nat.ble 86 pc) (cond (Nat.beq pc 86) (some (.getfield 21, 3)) none) (cond (Nat.beq pc 85) (some (.aload_n 1, 1)) none)) (cond (Nat.beq pc 82) (some (.invokestatic 54, 3)) none)) (cond (Nat.ble 79 pc) (cond (Nat.ble 80 pc) (cond (Nat.beq pc 80) (some (.bipush 7, 2)) none) (cond (Nat.beq pc 79) (some (.iconst 0, 1)) none)) (cond (Nat.beq pc 76) (some (.getfield 18, 3)) none))) (cond (Nat.ble 71 pc) (cond (Nat.ble 74 pc) (cond (Nat.ble 75 pc) (cond (Nat.beq pc 75) (some (.aload_n 0, 1)) none) (cond (Nat.beq pc 74) (some (.iconst 0, 1)) none)) (cond (Nat.beq pc 71) (some (.getfield 18, 3)) none)) (cond (Nat.ble 67 pc) (cond (Nat.ble 70 pc) (cond (Nat.beq pc 70) (some (.aload_n 1, 1)) none) (cond (Nat.beq pc 67) (some (.invokestatic 54, 3)) none)) (cond (Nat.beq pc 65) (some (.bipush 7, 2)) none)))) (cond (Nat.ble 55 pc) (cond (Nat.ble 60 pc) (cond (Nat.ble 61 pc) (cond (Nat.ble 64 pc) (cond (Nat.beq pc 64) (some (.iconst 0, 1)) none) (cond (Nat.beq pc 61) (some (.getfield 15, 3)) none)) (cond (Nat.beq pc 60) (some (.aload_n 0, 1)) none)) (cond (Nat.ble 56 pc) (cond (Nat.ble 59 pc) (cond (Nat.beq pc 59) (some (.iconst 0, 1)) none) (cond (Nat.beq pc 56) (some (.getfield 15, 3)) none)) (cond (Nat.beq pc 55) (some (.aload_n 1, 1)) none))) (cond (Nat.ble 49 pc) (cond (Nat.ble 50 pc) (cond (Nat.ble 52 pc) (cond (Nat.beq pc 52) (some (.invokestatic 54, 3)) none) (cond (Nat.beq pc 50) (some (.bipush 7, 2)) none)) (cond (Nat.beq pc 49) (some (.iconst 0, 1)) none)) (cond (Nat.ble 46 pc) (cond (Nat.beq pc 46) (some (.getfield 9, 3)) none) (cond (Nat.beq pc 45) (some (.aload_n 0, 1)) none))))) (cond (Nat.ble 21 pc) (cond (Nat.ble 33 pc) (cond (Nat.ble 40 pc) (cond (Nat.ble 41 pc) (cond (Nat.ble 44 pc) (cond (Nat.beq pc 44) (some (.iconst 0, 1)) none) (cond (Nat.beq pc 41) (some (.getfield 9, 3)) none)) (cond (Nat.beq pc 40) (some (.aload_n 1, 1)) none)) (cond (Nat.ble 34 pc) (cond (Nat.ble 37 pc) (cond (Nat.beq pc 37) (some (.putfield 37, 3)) none) (cond (Nat.beq pc 34) (some (.getfield 37, 3)) none)) (cond (Nat.beq pc 33) (some (.aload_n 1, 1)) none))) (cond (Nat.ble 26 pc) (cond (Nat.ble 29 pc) (cond (Nat.ble 32 pc) (cond (Nat.beq pc 32) (some (.aload_n 0, 1)) none) (cond (Nat.beq pc 29) (some (.putfield 51, 3)) none)) (cond (Nat.beq pc 26) (some (.getfield 51, 3)) none)) (cond (Nat.ble 24 pc) (cond (Nat.ble 25 pc) (cond (Nat.beq pc 25) (some (.aload_n 1, 1)) none) (cond (Nat.beq pc 24) (some (.aload_n 0, 1)) none)) (cond (Nat.beq pc 21) (some (.putfield 48, 3)) none)))) (cond (Nat.ble 9 pc) (cond (Nat.ble 16 pc) (cond (Nat.ble 17 pc) (cond (Nat.ble 18 pc) (cond (Nat.beq pc 18) (some (.getfield 48, 3)) none) (cond (Nat.beq pc 17) (some (.aload_n 1, 1)) none)) (cond (Nat.beq pc 16) (some (.aload_n 0, 1)) none)) (cond (Nat.ble 10 pc) (cond (Nat.ble 13 pc) (cond (Nat.beq pc 13) (some (.putfield 45, 3)) none) (cond (Nat.beq pc 10) (some (.getfield 45, 3)) none)) (cond (Nat.beq pc 9) (some (.aload_n 1, 1)) none))) (cond (Nat.ble 2 pc) (cond (Nat.ble 5 pc) (cond (Nat.ble 8 pc) (cond (Nat.beq pc 8) (some (.aload_n 0, 1)) none) (cond (Nat.beq pc 5) (some (.putfield 41, 3)) none)) (cond (Nat.beq pc 2) (some (.getfield 41, 3)) none)) (cond (Nat.ble 1 pc) (cond (Nat.beq pc 1) (some (.aload_n 1, 1)) none) (cond (Nat.beq pc 0) (some (.aload_n 0, 1)) none))))))
def m_X2_copy : jM := (2, yX2_copy, cX2_copy, 3, none, fun pc => cond (Nat.ble 172 pc) none (jt_X2_copy pc))
set_option maxRecDepth 100000 in
theorem dk_X2_copy : ∀ pc q, m_X2_copy.2.2.2.2.2 pc = some q → decode cX2_copy pc = .ok q := jk_sound (N := 172) (t := jt_X2_copy) (by decide +kernel)
set_option maxRecDepth 100000 in
theorem ok_X2_copy : jok m_X2_copy := ⟨dk_X2_copy, jG_in 608 rfl rfl, jG_in 91 rfl rfl, by decide +kernel, by decide +kernel, by decide⟩
set_option maxRecDepth 100000 in
theorem vi_X2_copy : jvirt m_X2_copy := ⟨jG_in 606 rfl rfl, jG_in 607 rfl rfl⟩
def jt_X3_init : Nat → Option (Instr × Nat) := fun pc => cond (Nat.ble 9 pc) (cond (Nat.ble 12 pc) (cond (Nat.ble 14 pc) (cond (Nat.ble 17 pc) (cond (Nat.beq pc 17) (some (.return_, 1)) none) (cond (Nat.beq pc 14) (some (.putfield 15, 3)) none)) (cond (Nat.beq pc 12) (some (.newarray .long, 2)) none)) (cond (Nat.ble 10 pc) (cond (Nat.beq pc 10) (some (.bipush 60, 2)) none) (cond (Nat.beq pc 9) (some (.aload_n 0, 1)) none))) (cond (Nat.ble 4 pc) (cond (Nat.ble 5 pc) (cond (Nat.ble 6 pc) (cond (Nat.beq pc 6) (some (.putfield 9, 3)) none) (cond (Nat.beq pc 5) (some (.iconst (-1), 1)) none)) (cond (Nat.beq pc 4) (some (.aload_n 0, 1)) none)) (cond (Nat.ble 1 pc) (cond (Nat.beq pc 1) (some (.invokespecial 3, 3)) none) (cond (Nat.beq pc 0) (some (.aload_n 0, 1)) none)))
def m_X3_init : jM := (3, yX3_init, cX3_init, 1, none, fun pc => cond (Nat.ble 18 pc) none (jt_X3_init pc))
set_option maxRecDepth 100000 in
theorem dk_X3_init : ∀ pc q, m_X3_init.2.2.2.2.2 pc = some q → decode cX3_init pc = .ok q := jk_sound (N := 18) (t := jt_X3_init) (by decide +kernel)
set_option maxRecDepth 100000 in
theorem ok_X3_init : jok m_X3_init := ⟨dk_X3_init, jG_in 328 rfl rfl, jG_in 93 rfl rfl, by decide +kernel, by decide +kernel, by decide⟩
set_option maxRecDepth 100000 in
theorem in_X3_init : jinit m_X3_init := ⟨rfl, jG_in 327 rfl rfl, rfl⟩
def jt_X3_become : Nat → Option (Instr × Nat) := fun pc => cond (Nat.ble 13 pc) (cond (Nat.ble 23 pc) (cond (Nat.ble 25 pc) (cond (Nat.ble 28 pc) (cond (Nat.ble 31 pc) (cond (Nat.beq pc 31) (some (.return_, 1)) none) (cond (Nat.beq pc 28) (some (.goto (-16), 3)) none)) (cond (Nat.beq pc 25) (some (.iinc 3 1, 3)) none)) (cond (Nat.ble 24 pc) (cond (Nat.beq pc 24) (some (.lastore, 1)) none) (cond (Nat.beq pc 23) (some (.lconst 0, 1)) none))) (cond (Nat.ble 18 pc) (cond (Nat.ble 19 pc) (cond (Nat.ble 22 pc) (cond (Nat.beq pc 22) (some (.iload_n 3, 1)) none) (cond (Nat.beq pc 19) (some (.getfield 15, 3)) none)) (cond (Nat.beq pc 18) (some (.aload_n 0, 1)) none)) (cond (Nat.ble 15 pc) (cond (Nat.beq pc 15) (some (.if_icmp .ge 16, 3)) none) (cond (Nat.beq pc 13) (some (.bipush 60, 2)) none)))) (cond (Nat.ble 6 pc) (cond (Nat.ble 10 pc) (cond (Nat.ble 11 pc) (cond (Nat.ble 12 pc) (cond (Nat.beq pc 12) (some (.iload_n 3, 1)) none) (cond (Nat.beq pc 11) (some (.istore_n 3, 1)) none)) (cond (Nat.beq pc 10) (some (.iconst 0, 1)) none)) (cond (Nat.ble 7 pc) (cond (Nat.beq pc 7) (some (.putfield 19, 3)) none) (cond (Nat.beq pc 6) (some (.iload_n 2, 1)) none))) (cond (Nat.ble 2 pc) (cond (Nat.ble 5 pc) (cond (Nat.beq pc 5) (some (.aload_n 0, 1)) none) (cond (Nat.beq pc 2) (some (.putfield 9, 3)) none)) (cond (Nat.ble 1 pc) (cond (Nat.beq pc 1) (some (.iload_n 1, 1)) none) (cond (Nat.beq pc 0) (some (.aload_n 0, 1)) none))))
def m_X3_become : jM := (3, yX3_become, cX3_become, 4, none, fun pc => cond (Nat.ble 32 pc) none (jt_X3_become pc))
set_option maxRecDepth 100000 in
theorem dk_X3_become : ∀ pc q, m_X3_become.2.2.2.2.2 pc = some q → decode cX3_become pc = .ok q := jk_sound (N := 32) (t := jt_X3_become) (by decide +kernel)
set_option maxRecDepth 100000 in
theorem ok_X3_become : jok m_X3_become := ⟨dk_X3_become, jG_in 755 rfl rfl, jG_in 93 rfl rfl, by decide +kernel, by decide +kernel, by decide⟩
set_option maxRecDepth 100000 in
theorem vi_X3_become : jvirt m_X3_become := ⟨jG_in 753 rfl rfl, jG_in 754 rfl rfl⟩
def jt_X3_holds : Nat → Option (Instr × Nat) := fun pc => cond (Nat.ble 17 pc) (cond (Nat.ble 23 pc) (cond (Nat.ble 27 pc) (cond (Nat.ble 30 pc) (cond (Nat.ble 31 pc) (cond (Nat.beq pc 31) (some (.ireturn, 1)) none) (cond (Nat.beq pc 30) (some (.iconst 0, 1)) none)) (cond (Nat.beq pc 27) (some (.goto 4, 3)) none)) (cond (Nat.ble 26 pc) (cond (Nat.beq pc 26) (some (.iconst 1, 1)) none) (cond (Nat.beq pc 23) (some (.if_icmp .gt 7, 3)) none))) (cond (Nat.ble 21 pc) (cond (Nat.ble 22 pc) (cond (Nat.beq pc 22) (some (.isub, 1)) none) (cond (Nat.beq pc 21) (some (.iload_n 2, 1)) none)) (cond (Nat.ble 18 pc) (cond (Nat.beq pc 18) (some (.getfield 19, 3)) none) (cond (Nat.beq pc 17) (some (.aload_n 0, 1)) none)))) (cond (Nat.ble 8 pc) (cond (Nat.ble 10 pc) (cond (Nat.ble 13 pc) (cond (Nat.ble 16 pc) (cond (Nat.beq pc 16) (some (.iload_n 1, 1)) none) (cond (Nat.beq pc 13) (some (.if_icmp .gt 17, 3)) none)) (cond (Nat.beq pc 10) (some (.getfield 19, 3)) none)) (cond (Nat.ble 9 pc) (cond (Nat.beq pc 9) (some (.aload_n 0, 1)) none) (cond (Nat.beq pc 8) (some (.iload_n 2, 1)) none))) (cond (Nat.ble 4 pc) (cond (Nat.ble 5 pc) (cond (Nat.beq pc 5) (some (.ifCond .lt 25, 3)) none) (cond (Nat.beq pc 4) (some (.iload_n 2, 1)) none)) (cond (Nat.ble 1 pc) (cond (Nat.beq pc 1) (some (.ifCond .lt 29, 3)) none) (cond (Nat.beq pc 0) (some (.iload_n 1, 1)) none))))
def m_X3_holds : jM := (3, yX3_holds, cX3_holds, 3, (some .boolean), fun pc => cond (Nat.ble 32 pc) none (jt_X3_holds pc))
set_option maxRecDepth 100000 in
theorem dk_X3_holds : ∀ pc q, m_X3_holds.2.2.2.2.2 pc = some q → decode cX3_holds pc = .ok q := jk_sound (N := 32) (t := jt_X3_holds) (by decide +kernel)
set_option maxRecDepth 100000 in
theorem ok_X3_holds : jok m_X3_holds := ⟨dk_X3_holds, jG_in 775 rfl rfl, jG_in 93 rfl rfl, by decide +kernel, by decide +kernel, by decide⟩
set_option maxRecDepth 100000 in
theorem vi_X3_holds : jvirt m_X3_holds := ⟨jG_in 773 rfl rfl, jG_in 774 rfl rfl⟩
def jt_X3_fitted : Nat → Option (Instr × Nat) := fun pc => cond (Nat.ble 50 pc) (cond (Nat.ble 57 pc) (cond (Nat.ble 64 pc) (cond (Nat.ble 66 pc) (cond (Nat.ble 67 pc) (cond (Nat.beq pc 67) (some (.lreturn, 1)) none) (cond (Nat.beq pc 66) (some (.lload_n 1, 1)) none)) (cond (Nat.ble 65 pc) (cond (Nat.beq pc 65) (some (.lreturn, 1)) none) (cond (Nat.beq pc 64) (some (.lconst 0, 1)) none))) (cond (Nat.ble 60 pc) (cond (Nat.ble 61 pc) (cond (Nat.beq pc 61) (some (.goto 4, 3)) none) (cond (Nat.beq pc 60) (some (.lconst 1, 1)) none)) (cond (Nat.beq pc 57) (some (.ifCond .eq 7, 3)) none))) (cond (Nat.ble 53 pc) (cond (Nat.ble 55 pc) (cond (Nat.ble 56 pc) (cond (Nat.beq pc 56) (some (.lcmp, 1)) none) (cond (Nat.beq pc 55) (some (.lconst 0, 1)) none)) (cond (Nat.ble 54 pc) (cond (Nat.beq pc 54) (some (.lload_n 1, 1)) none) (cond (Nat.beq pc 53) (some (.lreturn, 1)) none))) (cond (Nat.ble 51 pc) (cond (Nat.ble 52 pc) (cond (Nat.beq pc 52) (some (.i2l, 1)) none) (cond (Nat.beq pc 51) (some (.l2i, 1)) none)) (cond (Nat.beq pc 50) (some (.lload_n 1, 1)) none)))) (cond (Nat.ble 43 pc) (cond (Nat.ble 46 pc) (cond (Nat.ble 48 pc) (cond (Nat.ble 49 pc) (cond (Nat.beq pc 49) (some (.lreturn, 1)) none) (cond (Nat.beq pc 48) (some (.i2l, 1)) none)) (cond (Nat.ble 47 pc) (cond (Nat.beq pc 47) (some (.i2s, 1)) none) (cond (Nat.beq pc 46) (some (.l2i, 1)) none))) (cond (Nat.ble 44 pc) (cond (Nat.ble 45 pc) (cond (Nat.beq pc 45) (some (.lload_n 1, 1)) none) (cond (Nat.beq pc 44) (some (.lreturn, 1)) none)) (cond (Nat.beq pc 43) (some (.i2l, 1)) none))) (cond (Nat.ble 40 pc) (cond (Nat.ble 41 pc) (cond (Nat.ble 42 pc) (cond (Nat.beq pc 42) (some (.i2b, 1)) none) (cond (Nat.beq pc 41) (some (.l2i, 1)) none)) (cond (Nat.beq pc 40) (some (.lload_n 1, 1)) none)) (cond (Nat.ble 1 pc) (cond (Nat.ble 4 pc) (cond (Nat.beq pc 4) (some (.tableswitch 62 0 4 #[36, 41, 46, 62, 50], 36)) none) (cond (Nat.beq pc 1) (some (.getfield 9, 3)) none)) (cond (Nat.beq pc 0) (some (.aload_n 0, 1)) none))))
def m_X3_fitted : jM := (3, yX3_fitted, cX3_fitted, 3, (some .long), fun pc => cond (Nat.ble 68 pc) none (jt_X3_fitted pc))
set_option maxRecDepth 100000 in
theorem dk_X3_fitted : ∀ pc q, m_X3_fitted.2.2.2.2.2 pc = some q → decode cX3_fitted pc = .ok q := jk_sound (N := 68) (t := jt_X3_fitted) (by decide +kernel)
set_option maxRecDepth 100000 in
theorem ok_X3_fitted : jok m_X3_fitted := ⟨dk_X3_fitted, jG_in 763 rfl rfl, jG_in 93 rfl rfl, by decide +kernel, by decide +kernel, by decide⟩
set_option maxRecDepth 100000 in
theorem vi_X3_fitted : jvirt m_X3_fitted := ⟨jG_in 761 rfl rfl, jG_in 762 rfl rfl⟩
def jt_X4_init : Nat → Option (Instr × Nat) := fun pc => cond (Nat.ble 5 pc) (cond (Nat.ble 9 pc) (cond (Nat.ble 12 pc) (cond (Nat.beq pc 12) (some (.return_, 1)) none) (cond (Nat.beq pc 9) (some (.putfield 9, 3)) none)) (cond (Nat.ble 7 pc) (cond (Nat.beq pc 7) (some (.newarray .byte, 2)) none) (cond (Nat.beq pc 5) (some (.bipush 100, 2)) none))) (cond (Nat.ble 1 pc) (cond (Nat.ble 4 pc) (cond (Nat.beq pc 4) (some (.aload_n 0, 1)) none) (cond (Nat.beq pc 1) (some (.invokespecial 3, 3)) none)) (cond (Nat.beq pc 0) (some (.aload_n 0, 1)) none))
def m_X4_init : jM := (4, yX4_init, cX4_init, 1, none, fun pc => cond (Nat.ble 13 pc) none (jt_X4_init pc))
set_option maxRecDepth 100000 in
theorem dk_X4_init : ∀ pc q, m_X4_init.2.2.2.2.2 pc = some q → decode cX4_init pc = .ok q := jk_sound (N := 13) (t := jt_X4_init) (by decide +kernel)
set_option maxRecDepth 100000 in
theorem ok_X4_init : jok m_X4_init := ⟨dk_X4_init, jG_in 113 rfl rfl, jG_in 88 rfl rfl, by decide +kernel, by decide +kernel, by decide⟩
set_option maxRecDepth 100000 in
theorem in_X4_init : jinit m_X4_init := ⟨rfl, jG_in 112 rfl rfl, rfl⟩
def jt_X4_parse : Nat → Option (Instr × Nat) := fun pc => cond (Nat.ble 39 pc) (cond (Nat.ble 63 pc) (cond (Nat.ble 74 pc) (cond (Nat.ble 81 pc) (cond (Nat.ble 84 pc) (cond (Nat.ble 85 pc) (cond (Nat.beq pc 85) (some (.ireturn, 1)) none) (cond (Nat.beq pc 84) (some (.iconst 0, 1)) none)) (cond (Nat.beq pc 81) (some (.goto 4, 3)) none)) (cond (Nat.ble 77 pc) (cond (Nat.ble 80 pc) (cond (Nat.beq pc 80) (some (.iconst 1, 1)) none) (cond (Nat.beq pc 77) (some (.if_icmp .ne 7, 3)) none)) (cond (Nat.beq pc 74) (some (.getfield 32, 3)) none))) (cond (Nat.ble 69 pc) (cond (Nat.ble 70 pc) (cond (Nat.ble 73 pc) (cond (Nat.beq pc 73) (some (.aload_n 0, 1)) none) (cond (Nat.beq pc 70) (some (.getfield 20, 3)) none)) (cond (Nat.beq pc 69) (some (.aload_n 0, 1)) none)) (cond (Nat.ble 66 pc) (cond (Nat.beq pc 66) (some (.ifCond .eq 18, 3)) none) (cond (Nat.beq pc 63) (some (.getfield 24, 3)) none)))) (cond (Nat.ble 51 pc) (cond (Nat.ble 56 pc) (cond (Nat.ble 59 pc) (cond (Nat.ble 62 pc) (cond (Nat.beq pc 62) (some (.aload_n 0, 1)) none) (cond (Nat.beq pc 59) (some (.goto (-38), 3)) none)) (cond (Nat.beq pc 56) (some (.iinc 2 1, 3)) none)) (cond (Nat.ble 52 pc) (cond (Nat.ble 53 pc) (cond (Nat.beq pc 53) (some (.invokevirtual 28, 3)) none) (cond (Nat.beq pc 52) (some (.aload_n 1, 1)) none)) (cond (Nat.beq pc 51) (some (.aload_n 0, 1)) none))) (cond (Nat.ble 45 pc) (cond (Nat.ble 46 pc) (cond (Nat.ble 48 pc) (cond (Nat.beq pc 48) (some (.invokevirtual 37, 3)) none) (cond (Nat.beq pc 46) (some (.ldc 35, 2)) none)) (cond (Nat.beq pc 45) (some (.aload_n 0, 1)) none)) (cond (Nat.ble 42 pc) (cond (Nat.beq pc 42) (some (.if_icmp .ge 20, 3)) none) (cond (Nat.beq pc 39) (some (.getfield 32, 3)) none))))) (cond (Nat.ble 19 pc) (cond (Nat.ble 27 pc) (cond (Nat.ble 34 pc) (cond (Nat.ble 35 pc) (cond (Nat.ble 38 pc) (cond (Nat.beq pc 38) (some (.aload_n 0, 1)) none) (cond (Nat.beq pc 35) (some (.getfield 20, 3)) none)) (cond (Nat.beq pc 34) (some (.aload_n 0, 1)) none)) (cond (Nat.ble 28 pc) (cond (Nat.ble 31 pc) (cond (Nat.beq pc 31) (some (.ifCond .eq 31, 3)) none) (cond (Nat.beq pc 28) (some (.getfield 24, 3)) none)) (cond (Nat.beq pc 27) (some (.aload_n 0, 1)) none))) (cond (Nat.ble 21 pc) (cond (Nat.ble 22 pc) (cond (Nat.ble 24 pc) (cond (Nat.beq pc 24) (some (.if_icmp .ge 38, 3)) none) (cond (Nat.beq pc 22) (some (.bipush 10, 2)) none)) (cond (Nat.beq pc 21) (some (.iload_n 2, 1)) none)) (cond (Nat.ble 20 pc) (cond (Nat.beq pc 20) (some (.istore_n 2, 1)) none) (cond (Nat.beq pc 19) (some (.iconst 1, 1)) none)))) (cond (Nat.ble 9 pc) (cond (Nat.ble 14 pc) (cond (Nat.ble 15 pc) (cond (Nat.ble 16 pc) (cond (Nat.beq pc 16) (some (.invokevirtual 28, 3)) none) (cond (Nat.beq pc 15) (some (.aload_n 1, 1)) none)) (cond (Nat.beq pc 14) (some (.aload_n 0, 1)) none)) (cond (Nat.ble 10 pc) (cond (Nat.ble 11 pc) (cond (Nat.beq pc 11) (some (.putfield 24, 3)) none) (cond (Nat.beq pc 10) (some (.iconst 1, 1)) none)) (cond (Nat.beq pc 9) (some (.aload_n 0, 1)) none))) (cond (Nat.ble 4 pc) (cond (Nat.ble 5 pc) (cond (Nat.ble 6 pc) (cond (Nat.beq pc 6) (some (.putfield 20, 3)) none) (cond (Nat.beq pc 5) (some (.iconst 0, 1)) none)) (cond (Nat.beq pc 4) (some (.aload_n 0, 1)) none)) (cond (Nat.ble 1 pc) (cond (Nat.beq pc 1) (some (.invokevirtual 15, 3)) none) (cond (Nat.beq pc 0) (some (.aload_n 1, 1)) none)))))
def m_X4_parse : jM := (4, yX4_parse, cX4_parse, 3, (some .boolean), fun pc => cond (Nat.ble 86 pc) none (jt_X4_parse pc))
set_option maxRecDepth 100000 in
theorem dk_X4_parse : ∀ pc q, m_X4_parse.2.2.2.2.2 pc = some q → decode cX4_parse pc = .ok q := jk_sound (N := 86) (t := jt_X4_parse) (by decide +kernel)
set_option maxRecDepth 100000 in
theorem ok_X4_parse : jok m_X4_parse := ⟨dk_X4_parse, jG_in 453 rfl rfl, jG_in 88 rfl rfl, by decide +kernel, by decide +kernel, by decide⟩
set_option maxRecDepth 100000 in
theorem vi_X4_parse : jvirt m_X4_parse := ⟨jG_in 451 rfl rfl, jG_in 452 rfl rfl⟩
def jt_X4_next : Nat → Option (Instr × Nat) := fun pc => cond (Nat.ble 18 pc) (cond (Nat.ble 26 pc) (cond (Nat.ble 30 pc) (cond (Nat.ble 31 pc) (cond (Nat.beq pc 31) (some (.ireturn, 1)) none) (cond (Nat.beq pc 30) (some (.iconst (-1), 1)) none)) (cond (Nat.ble 27 pc) (cond (Nat.beq pc 27) (some (.goto 4, 3)) none) (cond (Nat.beq pc 26) (some (.baload, 1)) none))) (cond (Nat.ble 22 pc) (cond (Nat.ble 23 pc) (cond (Nat.beq pc 23) (some (.getfield 20, 3)) none) (cond (Nat.beq pc 22) (some (.aload_n 0, 1)) none)) (cond (Nat.ble 19 pc) (cond (Nat.beq pc 19) (some (.getfield 9, 3)) none) (cond (Nat.beq pc 18) (some (.aload_n 0, 1)) none)))) (cond (Nat.ble 8 pc) (cond (Nat.ble 12 pc) (cond (Nat.ble 15 pc) (cond (Nat.beq pc 15) (some (.if_icmp .ge 15, 3)) none) (cond (Nat.beq pc 12) (some (.getfield 32, 3)) none)) (cond (Nat.ble 11 pc) (cond (Nat.beq pc 11) (some (.aload_n 0, 1)) none) (cond (Nat.beq pc 8) (some (.getfield 20, 3)) none))) (cond (Nat.ble 4 pc) (cond (Nat.ble 7 pc) (cond (Nat.beq pc 7) (some (.aload_n 0, 1)) none) (cond (Nat.beq pc 4) (some (.ifCond .eq 26, 3)) none)) (cond (Nat.ble 1 pc) (cond (Nat.beq pc 1) (some (.getfield 24, 3)) none) (cond (Nat.beq pc 0) (some (.aload_n 0, 1)) none))))
def m_X4_next : jM := (4, yX4_next, cX4_next, 1, (some .int), fun pc => cond (Nat.ble 32 pc) none (jt_X4_next pc))
set_option maxRecDepth 100000 in
theorem dk_X4_next : ∀ pc q, m_X4_next.2.2.2.2.2 pc = some q → decode cX4_next pc = .ok q := jk_sound (N := 32) (t := jt_X4_next) (by decide +kernel)
set_option maxRecDepth 100000 in
theorem ok_X4_next : jok m_X4_next := ⟨dk_X4_next, jG_in 462 rfl rfl, jG_in 88 rfl rfl, by decide +kernel, by decide +kernel, by decide⟩
set_option maxRecDepth 100000 in
theorem vi_X4_next : jvirt m_X4_next := ⟨jG_in 461 rfl rfl, jG_in 7 rfl rfl⟩
def jt_X4_word : Nat → Option (Instr × Nat) := fun pc => cond (Nat.ble 22 pc) (cond (Nat.ble 32 pc) (cond (Nat.ble 37 pc) (cond (Nat.ble 43 pc) (cond (Nat.ble 46 pc) (cond (Nat.beq pc 46) (some (.return_, 1)) none) (cond (Nat.beq pc 43) (some (.goto (-41), 3)) none)) (cond (Nat.ble 40 pc) (cond (Nat.beq pc 40) (some (.iinc 2 1, 3)) none) (cond (Nat.beq pc 37) (some (.putfield 24, 3)) none))) (cond (Nat.ble 35 pc) (cond (Nat.ble 36 pc) (cond (Nat.beq pc 36) (some (.iconst 0, 1)) none) (cond (Nat.beq pc 35) (some (.aload_n 0, 1)) none)) (cond (Nat.beq pc 32) (some (.goto 8, 3)) none))) (cond (Nat.ble 27 pc) (cond (Nat.ble 28 pc) (cond (Nat.ble 29 pc) (cond (Nat.beq pc 29) (some (.putfield 20, 3)) none) (cond (Nat.beq pc 28) (some (.iadd, 1)) none)) (cond (Nat.beq pc 27) (some (.iconst 1, 1)) none)) (cond (Nat.ble 23 pc) (cond (Nat.ble 24 pc) (cond (Nat.beq pc 24) (some (.getfield 20, 3)) none) (cond (Nat.beq pc 23) (some (.dup, 1)) none)) (cond (Nat.beq pc 22) (some (.aload_n 0, 1)) none)))) (cond (Nat.ble 10 pc) (cond (Nat.ble 15 pc) (cond (Nat.ble 16 pc) (cond (Nat.ble 19 pc) (cond (Nat.beq pc 19) (some (.if_icmp .ne 16, 3)) none) (cond (Nat.beq pc 16) (some (.invokevirtual 49, 3)) none)) (cond (Nat.beq pc 15) (some (.iload_n 2, 1)) none)) (cond (Nat.ble 11 pc) (cond (Nat.ble 14 pc) (cond (Nat.beq pc 14) (some (.aload_n 1, 1)) none) (cond (Nat.beq pc 11) (some (.invokevirtual 46, 3)) none)) (cond (Nat.beq pc 10) (some (.aload_n 0, 1)) none))) (cond (Nat.ble 3 pc) (cond (Nat.ble 4 pc) (cond (Nat.ble 7 pc) (cond (Nat.beq pc 7) (some (.if_icmp .ge 39, 3)) none) (cond (Nat.beq pc 4) (some (.invokevirtual 41, 3)) none)) (cond (Nat.beq pc 3) (some (.aload_n 1, 1)) none)) (cond (Nat.ble 1 pc) (cond (Nat.ble 2 pc) (cond (Nat.beq pc 2) (some (.iload_n 2, 1)) none) (cond (Nat.beq pc 1) (some (.istore_n 2, 1)) none)) (cond (Nat.beq pc 0) (some (.iconst 0, 1)) none))))
def m_X4_word : jM := (4, yX4_word, cX4_word, 3, none, fun pc => cond (Nat.ble 47 pc) none (jt_X4_word pc))
set_option maxRecDepth 100000 in
theorem dk_X4_word : ∀ pc q, m_X4_word.2.2.2.2.2 pc = some q → decode cX4_word pc = .ok q := jk_sound (N := 47) (t := jt_X4_word) (by decide +kernel)
set_option maxRecDepth 100000 in
theorem ok_X4_word : jok m_X4_word := ⟨dk_X4_word, jG_in 467 rfl rfl, jG_in 88 rfl rfl, by decide +kernel, by decide +kernel, by decide⟩
set_option maxRecDepth 100000 in
theorem vi_X4_word : jvirt m_X4_word := ⟨jG_in 466 rfl rfl, jG_in 8 rfl rfl⟩
def jt_X4_number : Nat → Option (Instr × Nat) := fun pc => cond (Nat.ble 32 pc) (cond (Nat.ble 47 pc) (cond (Nat.ble 60 pc) (cond (Nat.ble 62 pc) (cond (Nat.ble 65 pc) (cond (Nat.ble 66 pc) (cond (Nat.beq pc 66) (some (.ireturn, 1)) none) (cond (Nat.beq pc 65) (some (.iload_n 1, 1)) none)) (cond (Nat.beq pc 62) (some (.putfield 24, 3)) none)) (cond (Nat.ble 61 pc) (cond (Nat.beq pc 61) (some (.iconst 0, 1)) none) (cond (Nat.beq pc 60) (some (.aload_n 0, 1)) none))) (cond (Nat.ble 53 pc) (cond (Nat.ble 56 pc) (cond (Nat.ble 57 pc) (cond (Nat.beq pc 57) (some (.ifCond .ne 8, 3)) none) (cond (Nat.beq pc 56) (some (.iload_n 2, 1)) none)) (cond (Nat.beq pc 53) (some (.goto (-49), 3)) none)) (cond (Nat.ble 50 pc) (cond (Nat.beq pc 50) (some (.iinc 2 1, 3)) none) (cond (Nat.beq pc 47) (some (.putfield 20, 3)) none)))) (cond (Nat.ble 40 pc) (cond (Nat.ble 42 pc) (cond (Nat.ble 45 pc) (cond (Nat.ble 46 pc) (cond (Nat.beq pc 46) (some (.iadd, 1)) none) (cond (Nat.beq pc 45) (some (.iconst 1, 1)) none)) (cond (Nat.beq pc 42) (some (.getfield 20, 3)) none)) (cond (Nat.ble 41 pc) (cond (Nat.beq pc 41) (some (.dup, 1)) none) (cond (Nat.beq pc 40) (some (.aload_n 0, 1)) none))) (cond (Nat.ble 36 pc) (cond (Nat.ble 38 pc) (cond (Nat.ble 39 pc) (cond (Nat.beq pc 39) (some (.istore_n 1, 1)) none) (cond (Nat.beq pc 38) (some (.isub, 1)) none)) (cond (Nat.beq pc 36) (some (.bipush 48, 2)) none)) (cond (Nat.ble 35 pc) (cond (Nat.beq pc 35) (some (.iadd, 1)) none) (cond (Nat.beq pc 32) (some (.invokevirtual 46, 3)) none))))) (cond (Nat.ble 13 pc) (cond (Nat.ble 24 pc) (cond (Nat.ble 29 pc) (cond (Nat.ble 30 pc) (cond (Nat.ble 31 pc) (cond (Nat.beq pc 31) (some (.aload_n 0, 1)) none) (cond (Nat.beq pc 30) (some (.imul, 1)) none)) (cond (Nat.beq pc 29) (some (.iload_n 1, 1)) none)) (cond (Nat.ble 27 pc) (cond (Nat.beq pc 27) (some (.bipush 10, 2)) none) (cond (Nat.beq pc 24) (some (.if_icmp .gt 32, 3)) none))) (cond (Nat.ble 18 pc) (cond (Nat.ble 19 pc) (cond (Nat.ble 22 pc) (cond (Nat.beq pc 22) (some (.bipush 57, 2)) none) (cond (Nat.beq pc 19) (some (.invokevirtual 46, 3)) none)) (cond (Nat.beq pc 18) (some (.aload_n 0, 1)) none)) (cond (Nat.ble 15 pc) (cond (Nat.beq pc 15) (some (.if_icmp .lt 41, 3)) none) (cond (Nat.beq pc 13) (some (.bipush 48, 2)) none)))) (cond (Nat.ble 4 pc) (cond (Nat.ble 6 pc) (cond (Nat.ble 9 pc) (cond (Nat.ble 10 pc) (cond (Nat.beq pc 10) (some (.invokevirtual 46, 3)) none) (cond (Nat.beq pc 9) (some (.aload_n 0, 1)) none)) (cond (Nat.beq pc 6) (some (.if_icmp .ge 50, 3)) none)) (cond (Nat.ble 5 pc) (cond (Nat.beq pc 5) (some (.iconst 2, 1)) none) (cond (Nat.beq pc 4) (some (.iload_n 2, 1)) none))) (cond (Nat.ble 2 pc) (cond (Nat.ble 3 pc) (cond (Nat.beq pc 3) (some (.istore_n 2, 1)) none) (cond (Nat.beq pc 2) (some (.iconst 0, 1)) none)) (cond (Nat.ble 1 pc) (cond (Nat.beq pc 1) (some (.istore_n 1, 1)) none) (cond (Nat.beq pc 0) (some (.iconst 0, 1)) none)))))
def m_X4_number : jM := (4, yX4_number, cX4_number, 3, (some .int), fun pc => cond (Nat.ble 67 pc) none (jt_X4_number pc))
set_option maxRecDepth 100000 in
theorem dk_X4_number : ∀ pc q, m_X4_number.2.2.2.2.2 pc = some q → decode cX4_number pc = .ok q := jk_sound (N := 67) (t := jt_X4_number) (by decide +kernel)
set_option maxRecDepth 100000 in
theorem ok_X4_number : jok m_X4_number := ⟨dk_X4_number, jG_in 519 rfl rfl, jG_in 88 rfl rfl, by decide +kernel, by decide +kernel, by decide⟩
set_option maxRecDepth 100000 in
theorem vi_X4_number : jvirt m_X4_number := ⟨jG_in 518 rfl rfl, jG_in 9 rfl rfl⟩
end
section
def jt_X4_clause : Nat → Option (Instr × Nat) := fun pc => cond (Nat.ble 86 pc) (cond (Nat.ble 113 pc) (cond (Nat.ble 124 pc) (cond (Nat.ble 131 pc) (cond (Nat.ble 132 pc) (cond (Nat.ble 135 pc) (cond (Nat.beq pc 135) (some (.return_, 1)) none) (cond (Nat.beq pc 132) (some (.putfield 24, 3)) none)) (cond (Nat.beq pc 131) (some (.iconst 0, 1)) none)) (cond (Nat.ble 127 pc) (cond (Nat.ble 130 pc) (cond (Nat.beq pc 130) (some (.aload_n 0, 1)) none) (cond (Nat.beq pc 127) (some (.goto 8, 3)) none)) (cond (Nat.beq pc 124) (some (.putfield 80, 3)) none))) (cond (Nat.ble 119 pc) (cond (Nat.ble 120 pc) (cond (Nat.ble 121 pc) (cond (Nat.beq pc 121) (some (.invokevirtual 55, 3)) none) (cond (Nat.beq pc 120) (some (.aload_n 0, 1)) none)) (cond (Nat.beq pc 119) (some (.aload_n 1, 1)) none)) (cond (Nat.ble 114 pc) (cond (Nat.ble 116 pc) (cond (Nat.beq pc 116) (some (.invokevirtual 37, 3)) none) (cond (Nat.beq pc 114) (some (.ldc 78, 2)) none)) (cond (Nat.beq pc 113) (some (.aload_n 0, 1)) none)))) (cond (Nat.ble 99 pc) (cond (Nat.ble 104 pc) (cond (Nat.ble 107 pc) (cond (Nat.ble 110 pc) (cond (Nat.beq pc 110) (some (.goto 25, 3)) none) (cond (Nat.beq pc 107) (some (.putfield 75, 3)) none)) (cond (Nat.beq pc 104) (some (.invokevirtual 55, 3)) none)) (cond (Nat.ble 102 pc) (cond (Nat.ble 103 pc) (cond (Nat.beq pc 103) (some (.aload_n 0, 1)) none) (cond (Nat.beq pc 102) (some (.aload_n 1, 1)) none)) (cond (Nat.beq pc 99) (some (.invokevirtual 37, 3)) none))) (cond (Nat.ble 93 pc) (cond (Nat.ble 96 pc) (cond (Nat.ble 97 pc) (cond (Nat.beq pc 97) (some (.ldc 73, 2)) none) (cond (Nat.beq pc 96) (some (.aload_n 0, 1)) none)) (cond (Nat.beq pc 93) (some (.goto 42, 3)) none)) (cond (Nat.ble 87 pc) (cond (Nat.ble 90 pc) (cond (Nat.beq pc 90) (some (.putfield 70, 3)) none) (cond (Nat.beq pc 87) (some (.invokevirtual 55, 3)) none)) (cond (Nat.beq pc 86) (some (.aload_n 0, 1)) none))))) (cond (Nat.ble 65 pc) (cond (Nat.ble 73 pc) (cond (Nat.ble 80 pc) (cond (Nat.ble 82 pc) (cond (Nat.ble 85 pc) (cond (Nat.beq pc 85) (some (.aload_n 1, 1)) none) (cond (Nat.beq pc 82) (some (.invokevirtual 37, 3)) none)) (cond (Nat.beq pc 80) (some (.ldc 68, 2)) none)) (cond (Nat.ble 76 pc) (cond (Nat.ble 79 pc) (cond (Nat.beq pc 79) (some (.aload_n 0, 1)) none) (cond (Nat.beq pc 76) (some (.goto 59, 3)) none)) (cond (Nat.beq pc 73) (some (.invokevirtual 64, 3)) none))) (cond (Nat.ble 68 pc) (cond (Nat.ble 71 pc) (cond (Nat.ble 72 pc) (cond (Nat.beq pc 72) (some (.iload_n 2, 1)) none) (cond (Nat.beq pc 71) (some (.aload_n 1, 1)) none)) (cond (Nat.beq pc 68) (some (.invokevirtual 60, 3)) none)) (cond (Nat.ble 66 pc) (cond (Nat.ble 67 pc) (cond (Nat.beq pc 67) (some (.iconst 0, 1)) none) (cond (Nat.beq pc 66) (some (.aload_n 1, 1)) none)) (cond (Nat.beq pc 65) (some (.aload_n 0, 1)) none)))) (cond (Nat.ble 54 pc) (cond (Nat.ble 59 pc) (cond (Nat.ble 60 pc) (cond (Nat.ble 62 pc) (cond (Nat.beq pc 62) (some (.invokevirtual 37, 3)) none) (cond (Nat.beq pc 60) (some (.ldc 58, 2)) none)) (cond (Nat.beq pc 59) (some (.aload_n 0, 1)) none)) (cond (Nat.ble 55 pc) (cond (Nat.ble 58 pc) (cond (Nat.beq pc 58) (some (.istore_n 2, 1)) none) (cond (Nat.beq pc 55) (some (.invokevirtual 55, 3)) none)) (cond (Nat.beq pc 54) (some (.aload_n 0, 1)) none))) (cond (Nat.ble 48 pc) (cond (Nat.ble 49 pc) (cond (Nat.ble 51 pc) (cond (Nat.beq pc 51) (some (.invokevirtual 37, 3)) none) (cond (Nat.beq pc 49) (some (.ldc 53, 2)) none)) (cond (Nat.beq pc 48) (some (.aload_n 0, 1)) none)) (cond (Nat.ble 1 pc) (cond (Nat.ble 4 pc) (cond (Nat.beq pc 4) (some (.lookupswitch 126 #[(99, 92), (100, 75), (102, 109), (116, 44)], 44)) none) (cond (Nat.beq pc 1) (some (.invokevirtual 46, 3)) none)) (cond (Nat.beq pc 0) (some (.aload_n 0, 1)) none)))))
def m_X4_clause : jM := (4, yX4_clause, cX4_clause, 3, none, fun pc => cond (Nat.ble 136 pc) none (jt_X4_clause pc))
set_option maxRecDepth 100000 in
theorem dk_X4_clause : ∀ pc q, m_X4_clause.2.2.2.2.2 pc = some q → decode cX4_clause pc = .ok q := jk_sound (N := 136) (t := jt_X4_clause) (by decide +kernel)
set_option maxRecDepth 100000 in
theorem ok_X4_clause : jok m_X4_clause := ⟨dk_X4_clause, jG_in 458 rfl rfl, jG_in 88 rfl rfl, by decide +kernel, by decide +kernel, by decide⟩
set_option maxRecDepth 100000 in
theorem vi_X4_clause : jvirt m_X4_clause := ⟨jG_in 457 rfl rfl, jG_in 6 rfl rfl⟩
def jt_X4_either : Nat → Option (Instr × Nat) := fun pc => cond (Nat.ble 52 pc) (cond (Nat.ble 79 pc) (cond (Nat.ble 93 pc) (cond (Nat.ble 103 pc) (cond (Nat.ble 106 pc) (cond (Nat.ble 109 pc) (cond (Nat.beq pc 109) (some (.return_, 1)) none) (cond (Nat.beq pc 106) (some (.invokevirtual 86, 3)) none)) (cond (Nat.ble 104 pc) (cond (Nat.beq pc 104) (some (.bipush 124, 2)) none) (cond (Nat.beq pc 103) (some (.aload_n 1, 1)) none))) (cond (Nat.ble 99 pc) (cond (Nat.ble 100 pc) (cond (Nat.beq pc 100) (some (.ifCond .eq 9, 3)) none) (cond (Nat.beq pc 99) (some (.iload_n 3, 1)) none)) (cond (Nat.ble 96 pc) (cond (Nat.beq pc 96) (some (.goto (-85), 3)) none) (cond (Nat.beq pc 93) (some (.iinc 4 1, 3)) none)))) (cond (Nat.ble 85 pc) (cond (Nat.ble 91 pc) (cond (Nat.ble 92 pc) (cond (Nat.beq pc 92) (some (.istore_n 3, 1)) none) (cond (Nat.beq pc 91) (some (.iconst 1, 1)) none)) (cond (Nat.ble 88 pc) (cond (Nat.beq pc 88) (some (.goto 5, 3)) none) (cond (Nat.beq pc 85) (some (.invokevirtual 86, 3)) none))) (cond (Nat.ble 82 pc) (cond (Nat.ble 83 pc) (cond (Nat.beq pc 83) (some (.bipush 38, 2)) none) (cond (Nat.beq pc 82) (some (.aload_n 1, 1)) none)) (cond (Nat.beq pc 79) (some (.if_icmp .ne 12, 3)) none)))) (cond (Nat.ble 66 pc) (cond (Nat.ble 71 pc) (cond (Nat.ble 75 pc) (cond (Nat.ble 77 pc) (cond (Nat.beq pc 77) (some (.bipush 38, 2)) none) (cond (Nat.beq pc 75) (some (.iload 5, 2)) none)) (cond (Nat.ble 72 pc) (cond (Nat.beq pc 72) (some (.invokevirtual 83, 3)) none) (cond (Nat.beq pc 71) (some (.iload_n 2, 1)) none))) (cond (Nat.ble 69 pc) (cond (Nat.ble 70 pc) (cond (Nat.beq pc 70) (some (.aload_n 1, 1)) none) (cond (Nat.beq pc 69) (some (.aload_n 0, 1)) none)) (cond (Nat.beq pc 66) (some (.invokevirtual 86, 3)) none))) (cond (Nat.ble 59 pc) (cond (Nat.ble 63 pc) (cond (Nat.ble 64 pc) (cond (Nat.beq pc 64) (some (.bipush 124, 2)) none) (cond (Nat.beq pc 63) (some (.aload_n 1, 1)) none)) (cond (Nat.ble 60 pc) (cond (Nat.beq pc 60) (some (.ifCond .eq 9, 3)) none) (cond (Nat.beq pc 59) (some (.iload_n 3, 1)) none))) (cond (Nat.ble 54 pc) (cond (Nat.ble 56 pc) (cond (Nat.beq pc 56) (some (.if_icmp .ne 13, 3)) none) (cond (Nat.beq pc 54) (some (.bipush 124, 2)) none)) (cond (Nat.beq pc 52) (some (.iload 5, 2)) none))))) (cond (Nat.ble 24 pc) (cond (Nat.ble 40 pc) (cond (Nat.ble 44 pc) (cond (Nat.ble 48 pc) (cond (Nat.ble 49 pc) (cond (Nat.beq pc 49) (some (.putfield 20, 3)) none) (cond (Nat.beq pc 48) (some (.iadd, 1)) none)) (cond (Nat.ble 47 pc) (cond (Nat.beq pc 47) (some (.iconst 1, 1)) none) (cond (Nat.beq pc 44) (some (.getfield 20, 3)) none))) (cond (Nat.ble 42 pc) (cond (Nat.ble 43 pc) (cond (Nat.beq pc 43) (some (.dup, 1)) none) (cond (Nat.beq pc 42) (some (.aload_n 0, 1)) none)) (cond (Nat.beq pc 40) (some (.istore 5, 2)) none))) (cond (Nat.ble 31 pc) (cond (Nat.ble 36 pc) (cond (Nat.ble 37 pc) (cond (Nat.beq pc 37) (some (.invokevirtual 46, 3)) none) (cond (Nat.beq pc 36) (some (.aload_n 0, 1)) none)) (cond (Nat.ble 33 pc) (cond (Nat.beq pc 33) (some (.if_icmp .ne 66, 3)) none) (cond (Nat.beq pc 31) (some (.bipush 124, 2)) none))) (cond (Nat.ble 27 pc) (cond (Nat.ble 28 pc) (cond (Nat.beq pc 28) (some (.invokevirtual 46, 3)) none) (cond (Nat.beq pc 27) (some (.aload_n 0, 1)) none)) (cond (Nat.beq pc 24) (some (.if_icmp .eq 12, 3)) none)))) (cond (Nat.ble 9 pc) (cond (Nat.ble 15 pc) (cond (Nat.ble 19 pc) (cond (Nat.ble 22 pc) (cond (Nat.beq pc 22) (some (.bipush 38, 2)) none) (cond (Nat.beq pc 19) (some (.invokevirtual 46, 3)) none)) (cond (Nat.ble 18 pc) (cond (Nat.beq pc 18) (some (.aload_n 0, 1)) none) (cond (Nat.beq pc 15) (some (.if_icmp .ge 84, 3)) none))) (cond (Nat.ble 11 pc) (cond (Nat.ble 13 pc) (cond (Nat.beq pc 13) (some (.bipush 100, 2)) none) (cond (Nat.beq pc 11) (some (.iload 4, 2)) none)) (cond (Nat.beq pc 9) (some (.istore 4, 2)) none))) (cond (Nat.ble 3 pc) (cond (Nat.ble 7 pc) (cond (Nat.ble 8 pc) (cond (Nat.beq pc 8) (some (.iconst 0, 1)) none) (cond (Nat.beq pc 7) (some (.istore_n 3, 1)) none)) (cond (Nat.ble 6 pc) (cond (Nat.beq pc 6) (some (.iconst 0, 1)) none) (cond (Nat.beq pc 3) (some (.invokevirtual 83, 3)) none))) (cond (Nat.ble 1 pc) (cond (Nat.ble 2 pc) (cond (Nat.beq pc 2) (some (.iload_n 2, 1)) none) (cond (Nat.beq pc 1) (some (.aload_n 1, 1)) none)) (cond (Nat.beq pc 0) (some (.aload_n 0, 1)) none)))))
def m_X4_either : jM := (4, yX4_either, cX4_either, 6, none, fun pc => cond (Nat.ble 110 pc) none (jt_X4_either pc))
set_option maxRecDepth 100000 in
theorem dk_X4_either : ∀ pc q, m_X4_either.2.2.2.2.2 pc = some q → decode cX4_either pc = .ok q := jk_sound (N := 110) (t := jt_X4_either) (by decide +kernel)
set_option maxRecDepth 100000 in
theorem ok_X4_either : jok m_X4_either := ⟨dk_X4_either, jG_in 524 rfl rfl, jG_in 88 rfl rfl, by decide +kernel, by decide +kernel, by decide⟩
set_option maxRecDepth 100000 in
theorem vi_X4_either : jvirt m_X4_either := ⟨jG_in 523 rfl rfl, jG_in 10 rfl rfl⟩
def jt_X4_one : Nat → Option (Instr × Nat) := fun pc => cond (Nat.ble 64 pc) (cond (Nat.ble 93 pc) (cond (Nat.ble 107 pc) (cond (Nat.ble 111 pc) (cond (Nat.ble 115 pc) (cond (Nat.ble 117 pc) (cond (Nat.ble 120 pc) (cond (Nat.beq pc 120) (some (.return_, 1)) none) (cond (Nat.beq pc 117) (some (.invokevirtual 37, 3)) none)) (cond (Nat.beq pc 115) (some (.ldc 100, 2)) none)) (cond (Nat.ble 114 pc) (cond (Nat.beq pc 114) (some (.aload_n 0, 1)) none) (cond (Nat.beq pc 111) (some (.invokevirtual 60, 3)) none))) (cond (Nat.ble 109 pc) (cond (Nat.ble 110 pc) (cond (Nat.beq pc 110) (some (.iadd, 1)) none) (cond (Nat.beq pc 109) (some (.iconst 1, 1)) none)) (cond (Nat.ble 108 pc) (cond (Nat.beq pc 108) (some (.iload_n 2, 1)) none) (cond (Nat.beq pc 107) (some (.aload_n 1, 1)) none)))) (cond (Nat.ble 101 pc) (cond (Nat.ble 103 pc) (cond (Nat.ble 106 pc) (cond (Nat.beq pc 106) (some (.aload_n 0, 1)) none) (cond (Nat.beq pc 103) (some (.putfield 20, 3)) none)) (cond (Nat.ble 102 pc) (cond (Nat.beq pc 102) (some (.iadd, 1)) none) (cond (Nat.beq pc 101) (some (.iconst 1, 1)) none))) (cond (Nat.ble 97 pc) (cond (Nat.ble 98 pc) (cond (Nat.beq pc 98) (some (.getfield 20, 3)) none) (cond (Nat.beq pc 97) (some (.dup, 1)) none)) (cond (Nat.ble 96 pc) (cond (Nat.beq pc 96) (some (.aload_n 0, 1)) none) (cond (Nat.beq pc 93) (some (.goto 27, 3)) none))))) (cond (Nat.ble 79 pc) (cond (Nat.ble 83 pc) (cond (Nat.ble 87 pc) (cond (Nat.ble 88 pc) (cond (Nat.ble 90 pc) (cond (Nat.beq pc 90) (some (.invokevirtual 86, 3)) none) (cond (Nat.beq pc 88) (some (.bipush 33, 2)) none)) (cond (Nat.beq pc 87) (some (.aload_n 1, 1)) none)) (cond (Nat.ble 84 pc) (cond (Nat.beq pc 84) (some (.invokevirtual 83, 3)) none) (cond (Nat.beq pc 83) (some (.iadd, 1)) none))) (cond (Nat.ble 81 pc) (cond (Nat.ble 82 pc) (cond (Nat.beq pc 82) (some (.iconst 1, 1)) none) (cond (Nat.beq pc 81) (some (.iload_n 2, 1)) none)) (cond (Nat.ble 80 pc) (cond (Nat.beq pc 80) (some (.aload_n 1, 1)) none) (cond (Nat.beq pc 79) (some (.aload_n 0, 1)) none)))) (cond (Nat.ble 71 pc) (cond (Nat.ble 75 pc) (cond (Nat.ble 76 pc) (cond (Nat.beq pc 76) (some (.putfield 20, 3)) none) (cond (Nat.beq pc 75) (some (.iadd, 1)) none)) (cond (Nat.ble 74 pc) (cond (Nat.beq pc 74) (some (.iconst 1, 1)) none) (cond (Nat.beq pc 71) (some (.getfield 20, 3)) none))) (cond (Nat.ble 69 pc) (cond (Nat.ble 70 pc) (cond (Nat.beq pc 70) (some (.dup, 1)) none) (cond (Nat.beq pc 69) (some (.aload_n 0, 1)) none)) (cond (Nat.ble 66 pc) (cond (Nat.beq pc 66) (some (.if_icmp .ne 30, 3)) none) (cond (Nat.beq pc 64) (some (.bipush 33, 2)) none)))))) (cond (Nat.ble 29 pc) (cond (Nat.ble 47 pc) (cond (Nat.ble 55 pc) (cond (Nat.ble 57 pc) (cond (Nat.ble 60 pc) (cond (Nat.ble 63 pc) (cond (Nat.beq pc 63) (some (.iload_n 3, 1)) none) (cond (Nat.beq pc 60) (some (.goto 60, 3)) none)) (cond (Nat.beq pc 57) (some (.putfield 24, 3)) none)) (cond (Nat.ble 56 pc) (cond (Nat.beq pc 56) (some (.iconst 0, 1)) none) (cond (Nat.beq pc 55) (some (.aload_n 0, 1)) none))) (cond (Nat.ble 51 pc) (cond (Nat.ble 52 pc) (cond (Nat.beq pc 52) (some (.if_icmp .lt 11, 3)) none) (cond (Nat.beq pc 51) (some (.iconst 4, 1)) none)) (cond (Nat.ble 50 pc) (cond (Nat.beq pc 50) (some (.iload_n 2, 1)) none) (cond (Nat.beq pc 47) (some (.if_icmp .ne 8, 3)) none)))) (cond (Nat.ble 39 pc) (cond (Nat.ble 44 pc) (cond (Nat.ble 45 pc) (cond (Nat.beq pc 45) (some (.bipush 40, 2)) none) (cond (Nat.beq pc 44) (some (.iload_n 3, 1)) none)) (cond (Nat.ble 41 pc) (cond (Nat.beq pc 41) (some (.if_icmp .eq 9, 3)) none) (cond (Nat.beq pc 39) (some (.bipush 33, 2)) none))) (cond (Nat.ble 35 pc) (cond (Nat.ble 38 pc) (cond (Nat.beq pc 38) (some (.iload_n 3, 1)) none) (cond (Nat.beq pc 35) (some (.goto 85, 3)) none)) (cond (Nat.ble 32 pc) (cond (Nat.beq pc 32) (some (.invokevirtual 96, 3)) none) (cond (Nat.beq pc 29) (some (.invokevirtual 55, 3)) none))))) (cond (Nat.ble 14 pc) (cond (Nat.ble 22 pc) (cond (Nat.ble 24 pc) (cond (Nat.ble 25 pc) (cond (Nat.ble 28 pc) (cond (Nat.beq pc 28) (some (.aload_n 0, 1)) none) (cond (Nat.beq pc 25) (some (.invokevirtual 93, 3)) none)) (cond (Nat.beq pc 24) (some (.aload_n 0, 1)) none)) (cond (Nat.ble 23 pc) (cond (Nat.beq pc 23) (some (.iload_n 3, 1)) none) (cond (Nat.beq pc 22) (some (.aload_n 1, 1)) none))) (cond (Nat.ble 18 pc) (cond (Nat.ble 19 pc) (cond (Nat.beq pc 19) (some (.putfield 20, 3)) none) (cond (Nat.beq pc 18) (some (.iadd, 1)) none)) (cond (Nat.ble 17 pc) (cond (Nat.beq pc 17) (some (.iconst 1, 1)) none) (cond (Nat.beq pc 14) (some (.getfield 20, 3)) none)))) (cond (Nat.ble 6 pc) (cond (Nat.ble 12 pc) (cond (Nat.ble 13 pc) (cond (Nat.beq pc 13) (some (.dup, 1)) none) (cond (Nat.beq pc 12) (some (.aload_n 0, 1)) none)) (cond (Nat.ble 9 pc) (cond (Nat.beq pc 9) (some (.ifCond .eq 29, 3)) none) (cond (Nat.beq pc 6) (some (.invokestatic 89, 3)) none))) (cond (Nat.ble 4 pc) (cond (Nat.ble 5 pc) (cond (Nat.beq pc 5) (some (.iload_n 3, 1)) none) (cond (Nat.beq pc 4) (some (.istore_n 3, 1)) none)) (cond (Nat.ble 1 pc) (cond (Nat.beq pc 1) (some (.invokevirtual 46, 3)) none) (cond (Nat.beq pc 0) (some (.aload_n 0, 1)) none))))))
def m_X4_one : jM := (4, yX4_one, cX4_one, 4, none, fun pc => cond (Nat.ble 121 pc) none (jt_X4_one pc))
set_option maxRecDepth 100000 in
theorem dk_X4_one : ∀ pc q, m_X4_one.2.2.2.2.2 pc = some q → decode cX4_one pc = .ok q := jk_sound (N := 121) (t := jt_X4_one) (by decide +kernel)
set_option maxRecDepth 100000 in
theorem ok_X4_one : jok m_X4_one := ⟨dk_X4_one, jG_in 528 rfl rfl, jG_in 88 rfl rfl, by decide +kernel, by decide +kernel, by decide⟩
set_option maxRecDepth 100000 in
theorem vi_X4_one : jvirt m_X4_one := ⟨jG_in 527 rfl rfl, jG_in 11 rfl rfl⟩
def jt_X4_relation : Nat → Option (Instr × Nat) := fun pc => cond (Nat.ble 23 pc) (cond (Nat.ble 33 pc) (cond (Nat.ble 38 pc) (cond (Nat.ble 41 pc) (cond (Nat.ble 42 pc) (cond (Nat.beq pc 42) (some (.ireturn, 1)) none) (cond (Nat.beq pc 41) (some (.iload_n 1, 1)) none)) (cond (Nat.beq pc 38) (some (.putfield 24, 3)) none)) (cond (Nat.ble 36 pc) (cond (Nat.ble 37 pc) (cond (Nat.beq pc 37) (some (.iconst 0, 1)) none) (cond (Nat.beq pc 36) (some (.aload_n 0, 1)) none)) (cond (Nat.beq pc 33) (some (.goto 8, 3)) none))) (cond (Nat.ble 28 pc) (cond (Nat.ble 29 pc) (cond (Nat.ble 30 pc) (cond (Nat.beq pc 30) (some (.putfield 20, 3)) none) (cond (Nat.beq pc 29) (some (.iadd, 1)) none)) (cond (Nat.beq pc 28) (some (.iconst 1, 1)) none)) (cond (Nat.ble 24 pc) (cond (Nat.ble 25 pc) (cond (Nat.beq pc 25) (some (.getfield 20, 3)) none) (cond (Nat.beq pc 24) (some (.dup, 1)) none)) (cond (Nat.beq pc 23) (some (.aload_n 0, 1)) none)))) (cond (Nat.ble 11 pc) (cond (Nat.ble 17 pc) (cond (Nat.ble 18 pc) (cond (Nat.ble 20 pc) (cond (Nat.beq pc 20) (some (.if_icmp .ne 16, 3)) none) (cond (Nat.beq pc 18) (some (.bipush 62, 2)) none)) (cond (Nat.beq pc 17) (some (.iload_n 1, 1)) none)) (cond (Nat.ble 12 pc) (cond (Nat.ble 14 pc) (cond (Nat.beq pc 14) (some (.if_icmp .eq 9, 3)) none) (cond (Nat.beq pc 12) (some (.bipush 61, 2)) none)) (cond (Nat.beq pc 11) (some (.iload_n 1, 1)) none))) (cond (Nat.ble 5 pc) (cond (Nat.ble 6 pc) (cond (Nat.ble 8 pc) (cond (Nat.beq pc 8) (some (.if_icmp .eq 15, 3)) none) (cond (Nat.beq pc 6) (some (.bipush 60, 2)) none)) (cond (Nat.beq pc 5) (some (.iload_n 1, 1)) none)) (cond (Nat.ble 1 pc) (cond (Nat.ble 4 pc) (cond (Nat.beq pc 4) (some (.istore_n 1, 1)) none) (cond (Nat.beq pc 1) (some (.invokevirtual 46, 3)) none)) (cond (Nat.beq pc 0) (some (.aload_n 0, 1)) none))))
def m_X4_relation : jM := (4, yX4_relation, cX4_relation, 2, (some .int), fun pc => cond (Nat.ble 43 pc) none (jt_X4_relation pc))
set_option maxRecDepth 100000 in
theorem dk_X4_relation : ∀ pc q, m_X4_relation.2.2.2.2.2 pc = some q → decode cX4_relation pc = .ok q := jk_sound (N := 43) (t := jt_X4_relation) (by decide +kernel)
set_option maxRecDepth 100000 in
theorem ok_X4_relation : jok m_X4_relation := ⟨dk_X4_relation, jG_in 535 rfl rfl, jG_in 88 rfl rfl, by decide +kernel, by decide +kernel, by decide⟩
set_option maxRecDepth 100000 in
theorem vi_X4_relation : jvirt m_X4_relation := ⟨jG_in 534 rfl rfl, jG_in 12 rfl rfl⟩
def jt_X4_isLetter : Nat → Option (Instr × Nat) := fun pc => cond (Nat.ble 21 pc) (cond (Nat.ble 31 pc) (cond (Nat.ble 37 pc) (cond (Nat.ble 40 pc) (cond (Nat.ble 41 pc) (cond (Nat.beq pc 41) (some (.ireturn, 1)) none) (cond (Nat.beq pc 40) (some (.iconst 0, 1)) none)) (cond (Nat.beq pc 37) (some (.goto 4, 3)) none)) (cond (Nat.ble 33 pc) (cond (Nat.ble 36 pc) (cond (Nat.beq pc 36) (some (.iconst 1, 1)) none) (cond (Nat.beq pc 33) (some (.if_icmp .ne 7, 3)) none)) (cond (Nat.beq pc 31) (some (.bipush 98, 2)) none))) (cond (Nat.ble 25 pc) (cond (Nat.ble 27 pc) (cond (Nat.ble 30 pc) (cond (Nat.beq pc 30) (some (.iload_n 0, 1)) none) (cond (Nat.beq pc 27) (some (.if_icmp .eq 9, 3)) none)) (cond (Nat.beq pc 25) (some (.bipush 121, 2)) none)) (cond (Nat.ble 24 pc) (cond (Nat.beq pc 24) (some (.iload_n 0, 1)) none) (cond (Nat.beq pc 21) (some (.if_icmp .eq 15, 3)) none)))) (cond (Nat.ble 9 pc) (cond (Nat.ble 15 pc) (cond (Nat.ble 18 pc) (cond (Nat.ble 19 pc) (cond (Nat.beq pc 19) (some (.bipush 99, 2)) none) (cond (Nat.beq pc 18) (some (.iload_n 0, 1)) none)) (cond (Nat.beq pc 15) (some (.if_icmp .eq 21, 3)) none)) (cond (Nat.ble 12 pc) (cond (Nat.ble 13 pc) (cond (Nat.beq pc 13) (some (.bipush 100, 2)) none) (cond (Nat.beq pc 12) (some (.iload_n 0, 1)) none)) (cond (Nat.beq pc 9) (some (.if_icmp .eq 27, 3)) none))) (cond (Nat.ble 3 pc) (cond (Nat.ble 6 pc) (cond (Nat.ble 7 pc) (cond (Nat.beq pc 7) (some (.bipush 107, 2)) none) (cond (Nat.beq pc 6) (some (.iload_n 0, 1)) none)) (cond (Nat.beq pc 3) (some (.if_icmp .eq 33, 3)) none)) (cond (Nat.ble 1 pc) (cond (Nat.beq pc 1) (some (.bipush 112, 2)) none) (cond (Nat.beq pc 0) (some (.iload_n 0, 1)) none))))
def m_X4_isLetter : jM := (4, yX4_isLetter, cX4_isLetter, 1, (some .boolean), fun pc => cond (Nat.ble 42 pc) none (jt_X4_isLetter pc))
set_option maxRecDepth 100000 in
theorem dk_X4_isLetter : ∀ pc q, m_X4_isLetter.2.2.2.2.2 pc = some q → decode cX4_isLetter pc = .ok q := jk_sound (N := 42) (t := jt_X4_isLetter) (by decide +kernel)
set_option maxRecDepth 100000 in
theorem ok_X4_isLetter : jok m_X4_isLetter := ⟨dk_X4_isLetter, jG_in 531 rfl rfl, jG_in 88 rfl rfl, by decide +kernel, by decide +kernel, by decide⟩
set_option maxRecDepth 100000 in
theorem st_X4_isLetter : jstat m_X4_isLetter := jG_in 530 rfl rfl
def jt_X5_init : Nat → Option (Instr × Nat) := fun pc => cond (Nat.ble 23 pc) (cond (Nat.ble 36 pc) (cond (Nat.ble 41 pc) (cond (Nat.ble 45 pc) (cond (Nat.ble 48 pc) (cond (Nat.beq pc 48) (some (.return_, 1)) none) (cond (Nat.beq pc 45) (some (.invokevirtual 27, 3)) none)) (cond (Nat.ble 44 pc) (cond (Nat.beq pc 44) (some (.aload_n 0, 1)) none) (cond (Nat.beq pc 41) (some (.putfield 24, 3)) none))) (cond (Nat.ble 37 pc) (cond (Nat.ble 39 pc) (cond (Nat.beq pc 39) (some (.newarray .int, 2)) none) (cond (Nat.beq pc 37) (some (.bipush 10, 2)) none)) (cond (Nat.beq pc 36) (some (.aload_n 0, 1)) none))) (cond (Nat.ble 29 pc) (cond (Nat.ble 31 pc) (cond (Nat.ble 33 pc) (cond (Nat.beq pc 33) (some (.putfield 21, 3)) none) (cond (Nat.beq pc 31) (some (.newarray .int, 2)) none)) (cond (Nat.beq pc 29) (some (.bipush 10, 2)) none)) (cond (Nat.ble 25 pc) (cond (Nat.ble 28 pc) (cond (Nat.beq pc 28) (some (.aload_n 0, 1)) none) (cond (Nat.beq pc 25) (some (.putfield 18, 3)) none)) (cond (Nat.beq pc 23) (some (.newarray .int, 2)) none)))) (cond (Nat.ble 12 pc) (cond (Nat.ble 17 pc) (cond (Nat.ble 20 pc) (cond (Nat.ble 21 pc) (cond (Nat.beq pc 21) (some (.bipush 100, 2)) none) (cond (Nat.beq pc 20) (some (.aload_n 0, 1)) none)) (cond (Nat.beq pc 17) (some (.putfield 15, 3)) none)) (cond (Nat.ble 13 pc) (cond (Nat.ble 15 pc) (cond (Nat.beq pc 15) (some (.newarray .int, 2)) none) (cond (Nat.beq pc 13) (some (.bipush 100, 2)) none)) (cond (Nat.beq pc 12) (some (.aload_n 0, 1)) none))) (cond (Nat.ble 5 pc) (cond (Nat.ble 7 pc) (cond (Nat.ble 9 pc) (cond (Nat.beq pc 9) (some (.putfield 9, 3)) none) (cond (Nat.beq pc 7) (some (.newarray .int, 2)) none)) (cond (Nat.beq pc 5) (some (.bipush 100, 2)) none)) (cond (Nat.ble 1 pc) (cond (Nat.ble 4 pc) (cond (Nat.beq pc 4) (some (.aload_n 0, 1)) none) (cond (Nat.beq pc 1) (some (.invokespecial 3, 3)) none)) (cond (Nat.beq pc 0) (some (.aload_n 0, 1)) none))))
def m_X5_init : jM := (5, yX5_init, cX5_init, 1, none, fun pc => cond (Nat.ble 49 pc) none (jt_X5_init pc))
set_option maxRecDepth 100000 in
theorem dk_X5_init : ∀ pc q, m_X5_init.2.2.2.2.2 pc = some q → decode cX5_init pc = .ok q := jk_sound (N := 49) (t := jt_X5_init) (by decide +kernel)
set_option maxRecDepth 100000 in
theorem ok_X5_init : jok m_X5_init := ⟨dk_X5_init, jG_in 164 rfl rfl, jG_in 90 rfl rfl, by decide +kernel, by decide +kernel, by decide⟩
set_option maxRecDepth 100000 in
theorem in_X5_init : jinit m_X5_init := ⟨rfl, jG_in 163 rfl rfl, rfl⟩
def jt_X5_clear : Nat → Option (Instr × Nat) := fun pc => cond (Nat.ble 14 pc) (cond (Nat.ble 22 pc) (cond (Nat.ble 24 pc) (cond (Nat.ble 27 pc) (cond (Nat.beq pc 27) (some (.return_, 1)) none) (cond (Nat.beq pc 24) (some (.putfield 43, 3)) none)) (cond (Nat.ble 23 pc) (cond (Nat.beq pc 23) (some (.iconst 0, 1)) none) (cond (Nat.beq pc 22) (some (.aload_n 0, 1)) none))) (cond (Nat.ble 18 pc) (cond (Nat.ble 19 pc) (cond (Nat.beq pc 19) (some (.putfield 40, 3)) none) (cond (Nat.beq pc 18) (some (.iconst 0, 1)) none)) (cond (Nat.ble 17 pc) (cond (Nat.beq pc 17) (some (.aload_n 0, 1)) none) (cond (Nat.beq pc 14) (some (.putfield 37, 3)) none)))) (cond (Nat.ble 7 pc) (cond (Nat.ble 11 pc) (cond (Nat.ble 12 pc) (cond (Nat.beq pc 12) (some (.bipush 99, 2)) none) (cond (Nat.beq pc 11) (some (.aload_n 0, 1)) none)) (cond (Nat.ble 8 pc) (cond (Nat.beq pc 8) (some (.putfield 34, 3)) none) (cond (Nat.beq pc 7) (some (.iconst 1, 1)) none))) (cond (Nat.ble 3 pc) (cond (Nat.ble 6 pc) (cond (Nat.beq pc 6) (some (.aload_n 0, 1)) none) (cond (Nat.beq pc 3) (some (.putfield 30, 3)) none)) (cond (Nat.ble 1 pc) (cond (Nat.beq pc 1) (some (.bipush 10, 2)) none) (cond (Nat.beq pc 0) (some (.aload_n 0, 1)) none))))
def m_X5_clear : jM := (5, yX5_clear, cX5_clear, 1, none, fun pc => cond (Nat.ble 28 pc) none (jt_X5_clear pc))
set_option maxRecDepth 100000 in
theorem dk_X5_clear : ∀ pc q, m_X5_clear.2.2.2.2.2 pc = some q → decode cX5_clear pc = .ok q := jk_sound (N := 28) (t := jt_X5_clear) (by decide +kernel)
set_option maxRecDepth 100000 in
theorem ok_X5_clear : jok m_X5_clear := ⟨dk_X5_clear, jG_in 169 rfl rfl, jG_in 90 rfl rfl, by decide +kernel, by decide +kernel, by decide⟩
set_option maxRecDepth 100000 in
theorem vi_X5_clear : jvirt m_X5_clear := ⟨jG_in 167 rfl rfl, jG_in 168 rfl rfl⟩
def jt_X5_addTest : Nat → Option (Instr × Nat) := fun pc => cond (Nat.ble 27 pc) (cond (Nat.ble 38 pc) (cond (Nat.ble 44 pc) (cond (Nat.ble 46 pc) (cond (Nat.ble 49 pc) (cond (Nat.beq pc 49) (some (.return_, 1)) none) (cond (Nat.beq pc 46) (some (.putfield 43, 3)) none)) (cond (Nat.ble 45 pc) (cond (Nat.beq pc 45) (some (.iadd, 1)) none) (cond (Nat.beq pc 44) (some (.iconst 1, 1)) none))) (cond (Nat.ble 40 pc) (cond (Nat.ble 41 pc) (cond (Nat.beq pc 41) (some (.getfield 43, 3)) none) (cond (Nat.beq pc 40) (some (.dup, 1)) none)) (cond (Nat.ble 39 pc) (cond (Nat.beq pc 39) (some (.aload_n 0, 1)) none) (cond (Nat.beq pc 38) (some (.iastore, 1)) none)))) (cond (Nat.ble 30 pc) (cond (Nat.ble 34 pc) (cond (Nat.ble 37 pc) (cond (Nat.beq pc 37) (some (.iload_n 3, 1)) none) (cond (Nat.beq pc 34) (some (.getfield 43, 3)) none)) (cond (Nat.ble 33 pc) (cond (Nat.beq pc 33) (some (.aload_n 0, 1)) none) (cond (Nat.beq pc 30) (some (.getfield 18, 3)) none))) (cond (Nat.ble 28 pc) (cond (Nat.ble 29 pc) (cond (Nat.beq pc 29) (some (.aload_n 0, 1)) none) (cond (Nat.beq pc 28) (some (.iastore, 1)) none)) (cond (Nat.beq pc 27) (some (.iload_n 2, 1)) none)))) (cond (Nat.ble 14 pc) (cond (Nat.ble 19 pc) (cond (Nat.ble 23 pc) (cond (Nat.ble 24 pc) (cond (Nat.beq pc 24) (some (.getfield 43, 3)) none) (cond (Nat.beq pc 23) (some (.aload_n 0, 1)) none)) (cond (Nat.ble 20 pc) (cond (Nat.beq pc 20) (some (.getfield 15, 3)) none) (cond (Nat.beq pc 19) (some (.aload_n 0, 1)) none))) (cond (Nat.ble 17 pc) (cond (Nat.ble 18 pc) (cond (Nat.beq pc 18) (some (.iastore, 1)) none) (cond (Nat.beq pc 17) (some (.iload_n 1, 1)) none)) (cond (Nat.beq pc 14) (some (.getfield 43, 3)) none))) (cond (Nat.ble 6 pc) (cond (Nat.ble 10 pc) (cond (Nat.ble 13 pc) (cond (Nat.beq pc 13) (some (.aload_n 0, 1)) none) (cond (Nat.beq pc 10) (some (.getfield 9, 3)) none)) (cond (Nat.ble 9 pc) (cond (Nat.beq pc 9) (some (.aload_n 0, 1)) none) (cond (Nat.beq pc 6) (some (.if_icmp .ge 43, 3)) none))) (cond (Nat.ble 1 pc) (cond (Nat.ble 4 pc) (cond (Nat.beq pc 4) (some (.bipush 100, 2)) none) (cond (Nat.beq pc 1) (some (.getfield 43, 3)) none)) (cond (Nat.beq pc 0) (some (.aload_n 0, 1)) none))))
def m_X5_addTest : jM := (5, yX5_addTest, cX5_addTest, 4, none, fun pc => cond (Nat.ble 50 pc) none (jt_X5_addTest pc))
set_option maxRecDepth 100000 in
theorem dk_X5_addTest : ∀ pc q, m_X5_addTest.2.2.2.2.2 pc = some q → decode cX5_addTest pc = .ok q := jk_sound (N := 50) (t := jt_X5_addTest) (by decide +kernel)
set_option maxRecDepth 100000 in
theorem ok_X5_addTest : jok m_X5_addTest := ⟨dk_X5_addTest, jG_in 539 rfl rfl, jG_in 90 rfl rfl, by decide +kernel, by decide +kernel, by decide⟩
set_option maxRecDepth 100000 in
theorem vi_X5_addTest : jvirt m_X5_addTest := ⟨jG_in 537 rfl rfl, jG_in 538 rfl rfl⟩
def jt_X5_addJoint : Nat → Option (Instr × Nat) := fun pc => cond (Nat.ble 3 pc) (cond (Nat.ble 4 pc) (cond (Nat.ble 7 pc) (cond (Nat.beq pc 7) (some (.return_, 1)) none) (cond (Nat.beq pc 4) (some (.invokevirtual 46, 3)) none)) (cond (Nat.beq pc 3) (some (.iconst 0, 1)) none)) (cond (Nat.ble 1 pc) (cond (Nat.ble 2 pc) (cond (Nat.beq pc 2) (some (.iconst 0, 1)) none) (cond (Nat.beq pc 1) (some (.iload_n 1, 1)) none)) (cond (Nat.beq pc 0) (some (.aload_n 0, 1)) none))
def m_X5_addJoint : jM := (5, yX5_addJoint, cX5_addJoint, 2, none, fun pc => cond (Nat.ble 8 pc) none (jt_X5_addJoint pc))
set_option maxRecDepth 100000 in
theorem dk_X5_addJoint : ∀ pc q, m_X5_addJoint.2.2.2.2.2 pc = some q → decode cX5_addJoint pc = .ok q := jk_sound (N := 8) (t := jt_X5_addJoint) (by decide +kernel)
set_option maxRecDepth 100000 in
theorem ok_X5_addJoint : jok m_X5_addJoint := ⟨dk_X5_addJoint, jG_in 543 rfl rfl, jG_in 90 rfl rfl, by decide +kernel, by decide +kernel, by decide⟩
set_option maxRecDepth 100000 in
theorem vi_X5_addJoint : jvirt m_X5_addJoint := ⟨jG_in 541 rfl rfl, jG_in 542 rfl rfl⟩
def jt_X5_addTake : Nat → Option (Instr × Nat) := fun pc => cond (Nat.ble 23 pc) (cond (Nat.ble 33 pc) (cond (Nat.ble 38 pc) (cond (Nat.ble 39 pc) (cond (Nat.ble 42 pc) (cond (Nat.beq pc 42) (some (.return_, 1)) none) (cond (Nat.beq pc 39) (some (.putfield 40, 3)) none)) (cond (Nat.beq pc 38) (some (.iadd, 1)) none)) (cond (Nat.ble 34 pc) (cond (Nat.ble 37 pc) (cond (Nat.beq pc 37) (some (.iconst 1, 1)) none) (cond (Nat.beq pc 34) (some (.getfield 40, 3)) none)) (cond (Nat.beq pc 33) (some (.dup, 1)) none))) (cond (Nat.ble 28 pc) (cond (Nat.ble 31 pc) (cond (Nat.ble 32 pc) (cond (Nat.beq pc 32) (some (.aload_n 0, 1)) none) (cond (Nat.beq pc 31) (some (.iastore, 1)) none)) (cond (Nat.beq pc 28) (some (.getfield 43, 3)) none)) (cond (Nat.ble 24 pc) (cond (Nat.ble 27 pc) (cond (Nat.beq pc 27) (some (.aload_n 0, 1)) none) (cond (Nat.beq pc 24) (some (.getfield 40, 3)) none)) (cond (Nat.beq pc 23) (some (.aload_n 0, 1)) none)))) (cond (Nat.ble 13 pc) (cond (Nat.ble 18 pc) (cond (Nat.ble 19 pc) (cond (Nat.ble 20 pc) (cond (Nat.beq pc 20) (some (.getfield 24, 3)) none) (cond (Nat.beq pc 19) (some (.aload_n 0, 1)) none)) (cond (Nat.beq pc 18) (some (.iastore, 1)) none)) (cond (Nat.ble 14 pc) (cond (Nat.ble 17 pc) (cond (Nat.beq pc 17) (some (.iload_n 1, 1)) none) (cond (Nat.beq pc 14) (some (.getfield 40, 3)) none)) (cond (Nat.beq pc 13) (some (.aload_n 0, 1)) none))) (cond (Nat.ble 6 pc) (cond (Nat.ble 9 pc) (cond (Nat.ble 10 pc) (cond (Nat.beq pc 10) (some (.getfield 21, 3)) none) (cond (Nat.beq pc 9) (some (.aload_n 0, 1)) none)) (cond (Nat.beq pc 6) (some (.if_icmp .ge 36, 3)) none)) (cond (Nat.ble 1 pc) (cond (Nat.ble 4 pc) (cond (Nat.beq pc 4) (some (.bipush 10, 2)) none) (cond (Nat.beq pc 1) (some (.getfield 40, 3)) none)) (cond (Nat.beq pc 0) (some (.aload_n 0, 1)) none))))
def m_X5_addTake : jM := (5, yX5_addTake, cX5_addTake, 2, none, fun pc => cond (Nat.ble 43 pc) none (jt_X5_addTake pc))
set_option maxRecDepth 100000 in
theorem dk_X5_addTake : ∀ pc q, m_X5_addTake.2.2.2.2.2 pc = some q → decode cX5_addTake pc = .ok q := jk_sound (N := 43) (t := jt_X5_addTake) (by decide +kernel)
set_option maxRecDepth 100000 in
theorem ok_X5_addTake : jok m_X5_addTake := ⟨dk_X5_addTake, jG_in 549 rfl rfl, jG_in 90 rfl rfl, by decide +kernel, by decide +kernel, by decide⟩
set_option maxRecDepth 100000 in
theorem vi_X5_addTake : jvirt m_X5_addTake := ⟨jG_in 547 rfl rfl, jG_in 548 rfl rfl⟩
def jt_X6_init : Nat → Option (Instr × Nat) := fun pc => cond (Nat.ble 85 pc) (cond (Nat.ble 124 pc) (cond (Nat.ble 143 pc) (cond (Nat.ble 154 pc) (cond (Nat.ble 159 pc) (cond (Nat.ble 162 pc) (cond (Nat.ble 165 pc) (cond (Nat.beq pc 165) (some (.return_, 1)) none) (cond (Nat.beq pc 162) (some (.goto (-22), 3)) none)) (cond (Nat.beq pc 159) (some (.iinc 2 1, 3)) none)) (cond (Nat.ble 155 pc) (cond (Nat.ble 158 pc) (cond (Nat.beq pc 158) (some (.aastore, 1)) none) (cond (Nat.beq pc 155) (some (.invokespecial 66, 3)) none)) (cond (Nat.beq pc 154) (some (.dup, 1)) none))) (cond (Nat.ble 147 pc) (cond (Nat.ble 150 pc) (cond (Nat.ble 151 pc) (cond (Nat.beq pc 151) (some (.new 35, 3)) none) (cond (Nat.beq pc 150) (some (.iload_n 2, 1)) none)) (cond (Nat.beq pc 147) (some (.getfield 37, 3)) none)) (cond (Nat.ble 146 pc) (cond (Nat.beq pc 146) (some (.aload_n 0, 1)) none) (cond (Nat.beq pc 143) (some (.if_icmp .ge 22, 3)) none)))) (cond (Nat.ble 135 pc) (cond (Nat.ble 139 pc) (cond (Nat.ble 140 pc) (cond (Nat.ble 141 pc) (cond (Nat.beq pc 141) (some (.bipush 6, 2)) none) (cond (Nat.beq pc 140) (some (.iload_n 2, 1)) none)) (cond (Nat.beq pc 139) (some (.istore_n 2, 1)) none)) (cond (Nat.ble 138 pc) (cond (Nat.beq pc 138) (some (.iconst 0, 1)) none) (cond (Nat.beq pc 135) (some (.goto (-22), 3)) none))) (cond (Nat.ble 128 pc) (cond (Nat.ble 131 pc) (cond (Nat.ble 132 pc) (cond (Nat.beq pc 132) (some (.iinc 2 1, 3)) none) (cond (Nat.beq pc 131) (some (.aastore, 1)) none)) (cond (Nat.beq pc 128) (some (.invokespecial 41, 3)) none)) (cond (Nat.ble 127 pc) (cond (Nat.beq pc 127) (some (.dup, 1)) none) (cond (Nat.beq pc 124) (some (.new 22, 3)) none))))) (cond (Nat.ble 105 pc) (cond (Nat.ble 114 pc) (cond (Nat.ble 119 pc) (cond (Nat.ble 120 pc) (cond (Nat.ble 123 pc) (cond (Nat.beq pc 123) (some (.iload_n 2, 1)) none) (cond (Nat.beq pc 120) (some (.getfield 24, 3)) none)) (cond (Nat.beq pc 119) (some (.aload_n 0, 1)) none)) (cond (Nat.ble 116 pc) (cond (Nat.beq pc 116) (some (.if_icmp .ge 22, 3)) none) (cond (Nat.beq pc 114) (some (.bipush 6, 2)) none))) (cond (Nat.ble 111 pc) (cond (Nat.ble 112 pc) (cond (Nat.ble 113 pc) (cond (Nat.beq pc 113) (some (.iload_n 2, 1)) none) (cond (Nat.beq pc 112) (some (.istore_n 2, 1)) none)) (cond (Nat.beq pc 111) (some (.iconst 0, 1)) none)) (cond (Nat.ble 108 pc) (cond (Nat.beq pc 108) (some (.putfield 62, 3)) none) (cond (Nat.beq pc 105) (some (.invokespecial 59, 3)) none)))) (cond (Nat.ble 96 pc) (cond (Nat.ble 100 pc) (cond (Nat.ble 101 pc) (cond (Nat.ble 102 pc) (cond (Nat.beq pc 102) (some (.getfield 47, 3)) none) (cond (Nat.beq pc 101) (some (.aload_n 0, 1)) none)) (cond (Nat.beq pc 100) (some (.dup, 1)) none)) (cond (Nat.ble 97 pc) (cond (Nat.beq pc 97) (some (.new 57, 3)) none) (cond (Nat.beq pc 96) (some (.aload_n 0, 1)) none))) (cond (Nat.ble 89 pc) (cond (Nat.ble 90 pc) (cond (Nat.ble 93 pc) (cond (Nat.beq pc 93) (some (.putfield 54, 3)) none) (cond (Nat.beq pc 90) (some (.invokespecial 44, 3)) none)) (cond (Nat.beq pc 89) (some (.aload_n 1, 1)) none)) (cond (Nat.ble 88 pc) (cond (Nat.beq pc 88) (some (.dup, 1)) none) (cond (Nat.beq pc 85) (some (.new 42, 3)) none)))))) (cond (Nat.ble 43 pc) (cond (Nat.ble 64 pc) (cond (Nat.ble 73 pc) (cond (Nat.ble 78 pc) (cond (Nat.ble 81 pc) (cond (Nat.ble 84 pc) (cond (Nat.beq pc 84) (some (.aload_n 0, 1)) none) (cond (Nat.beq pc 81) (some (.putfield 51, 3)) none)) (cond (Nat.beq pc 78) (some (.invokespecial 44, 3)) none)) (cond (Nat.ble 76 pc) (cond (Nat.ble 77 pc) (cond (Nat.beq pc 77) (some (.aload_n 1, 1)) none) (cond (Nat.beq pc 76) (some (.dup, 1)) none)) (cond (Nat.beq pc 73) (some (.new 42, 3)) none))) (cond (Nat.ble 66 pc) (cond (Nat.ble 69 pc) (cond (Nat.ble 72 pc) (cond (Nat.beq pc 72) (some (.aload_n 0, 1)) none) (cond (Nat.beq pc 69) (some (.putfield 47, 3)) none)) (cond (Nat.beq pc 66) (some (.invokespecial 44, 3)) none)) (cond (Nat.ble 65 pc) (cond (Nat.beq pc 65) (some (.aload_n 1, 1)) none) (cond (Nat.beq pc 64) (some (.dup, 1)) none)))) (cond (Nat.ble 55 pc) (cond (Nat.ble 59 pc) (cond (Nat.ble 60 pc) (cond (Nat.ble 61 pc) (cond (Nat.beq pc 61) (some (.new 42, 3)) none) (cond (Nat.beq pc 60) (some (.aload_n 0, 1)) none)) (cond (Nat.beq pc 59) (some (.astore_n 1, 1)) none)) (cond (Nat.ble 56 pc) (cond (Nat.beq pc 56) (some (.invokespecial 41, 3)) none) (cond (Nat.beq pc 55) (some (.dup, 1)) none))) (cond (Nat.ble 46 pc) (cond (Nat.ble 49 pc) (cond (Nat.ble 52 pc) (cond (Nat.beq pc 52) (some (.new 22, 3)) none) (cond (Nat.beq pc 49) (some (.putfield 37, 3)) none)) (cond (Nat.beq pc 46) (some (.anewarray 35, 3)) none)) (cond (Nat.ble 44 pc) (cond (Nat.beq pc 44) (some (.bipush 6, 2)) none) (cond (Nat.beq pc 43) (some (.aload_n 0, 1)) none))))) (cond (Nat.ble 20 pc) (cond (Nat.ble 32 pc) (cond (Nat.ble 36 pc) (cond (Nat.ble 37 pc) (cond (Nat.ble 40 pc) (cond (Nat.beq pc 40) (some (.putfield 31, 3)) none) (cond (Nat.beq pc 37) (some (.invokespecial 30, 3)) none)) (cond (Nat.beq pc 36) (some (.dup, 1)) none)) (cond (Nat.ble 33 pc) (cond (Nat.beq pc 33) (some (.new 28, 3)) none) (cond (Nat.beq pc 32) (some (.aload_n 0, 1)) none))) (cond (Nat.ble 24 pc) (cond (Nat.ble 26 pc) (cond (Nat.ble 29 pc) (cond (Nat.beq pc 29) (some (.putfield 24, 3)) none) (cond (Nat.beq pc 26) (some (.anewarray 22, 3)) none)) (cond (Nat.beq pc 24) (some (.bipush 6, 2)) none)) (cond (Nat.ble 23 pc) (cond (Nat.beq pc 23) (some (.aload_n 0, 1)) none) (cond (Nat.beq pc 20) (some (.putfield 18, 3)) none)))) (cond (Nat.ble 9 pc) (cond (Nat.ble 13 pc) (cond (Nat.ble 16 pc) (cond (Nat.ble 17 pc) (cond (Nat.beq pc 17) (some (.invokespecial 17, 3)) none) (cond (Nat.beq pc 16) (some (.dup, 1)) none)) (cond (Nat.beq pc 13) (some (.new 15, 3)) none)) (cond (Nat.ble 12 pc) (cond (Nat.beq pc 12) (some (.aload_n 0, 1)) none) (cond (Nat.beq pc 9) (some (.putfield 11, 3)) none))) (cond (Nat.ble 4 pc) (cond (Nat.ble 5 pc) (cond (Nat.ble 7 pc) (cond (Nat.beq pc 7) (some (.newarray .int, 2)) none) (cond (Nat.beq pc 5) (some (.bipush 12, 2)) none)) (cond (Nat.beq pc 4) (some (.aload_n 0, 1)) none)) (cond (Nat.ble 1 pc) (cond (Nat.beq pc 1) (some (.invokespecial 3, 3)) none) (cond (Nat.beq pc 0) (some (.aload_n 0, 1)) none))))))
def m_X6_init : jM := (6, yX6_init, cX6_init, 3, none, fun pc => cond (Nat.ble 166 pc) none (jt_X6_init pc))
set_option maxRecDepth 100000 in
theorem dk_X6_init : ∀ pc q, m_X6_init.2.2.2.2.2 pc = some q → decode cX6_init pc = .ok q := jk_sound (N := 166) (t := jt_X6_init) (by decide +kernel)
set_option maxRecDepth 100000 in
theorem ok_X6_init : jok m_X6_init := ⟨dk_X6_init, jG_in 105 rfl rfl, jG_in 87 rfl rfl, by decide +kernel, by decide +kernel, by decide⟩
set_option maxRecDepth 100000 in
theorem in_X6_init : jinit m_X6_init := ⟨rfl, jG_in 104 rfl rfl, rfl⟩
def jt_X6_person : Nat → Option (Instr × Nat) := fun pc => cond (Nat.ble 40 pc) (cond (Nat.ble 60 pc) (cond (Nat.ble 68 pc) (cond (Nat.ble 74 pc) (cond (Nat.ble 75 pc) (cond (Nat.ble 76 pc) (cond (Nat.beq pc 76) (some (.ireturn, 1)) none) (cond (Nat.beq pc 75) (some (.isub, 1)) none)) (cond (Nat.beq pc 74) (some (.iconst 1, 1)) none)) (cond (Nat.ble 71 pc) (cond (Nat.beq pc 71) (some (.getfield 71, 3)) none) (cond (Nat.beq pc 68) (some (.getfield 47, 3)) none))) (cond (Nat.ble 62 pc) (cond (Nat.ble 64 pc) (cond (Nat.ble 67 pc) (cond (Nat.beq pc 67) (some (.aload_n 0, 1)) none) (cond (Nat.beq pc 64) (some (.invokevirtual 75, 3)) none)) (cond (Nat.beq pc 62) (some (.iload 4, 2)) none)) (cond (Nat.ble 61 pc) (cond (Nat.beq pc 61) (some (.iload_n 3, 1)) none) (cond (Nat.beq pc 60) (some (.iload_n 2, 1)) none)))) (cond (Nat.ble 52 pc) (cond (Nat.ble 55 pc) (cond (Nat.ble 56 pc) (cond (Nat.ble 59 pc) (cond (Nat.beq pc 59) (some (.iload_n 1, 1)) none) (cond (Nat.beq pc 56) (some (.getfield 47, 3)) none)) (cond (Nat.beq pc 55) (some (.aload_n 0, 1)) none)) (cond (Nat.ble 54 pc) (cond (Nat.beq pc 54) (some (.ireturn, 1)) none) (cond (Nat.beq pc 52) (some (.bipush (-4), 2)) none))) (cond (Nat.ble 44 pc) (cond (Nat.ble 47 pc) (cond (Nat.ble 49 pc) (cond (Nat.beq pc 49) (some (.if_icmp .lt 6, 3)) none) (cond (Nat.beq pc 47) (some (.bipush 7, 2)) none)) (cond (Nat.beq pc 44) (some (.getfield 71, 3)) none)) (cond (Nat.ble 41 pc) (cond (Nat.beq pc 41) (some (.getfield 47, 3)) none) (cond (Nat.beq pc 40) (some (.aload_n 0, 1)) none))))) (cond (Nat.ble 17 pc) (cond (Nat.ble 29 pc) (cond (Nat.ble 34 pc) (cond (Nat.ble 37 pc) (cond (Nat.ble 39 pc) (cond (Nat.beq pc 39) (some (.ireturn, 1)) none) (cond (Nat.beq pc 37) (some (.bipush (-2), 2)) none)) (cond (Nat.beq pc 34) (some (.ifCond .ne 6, 3)) none)) (cond (Nat.ble 31 pc) (cond (Nat.beq pc 31) (some (.invokestatic 67, 3)) none) (cond (Nat.beq pc 29) (some (.iload 4, 2)) none))) (cond (Nat.ble 22 pc) (cond (Nat.ble 23 pc) (cond (Nat.ble 26 pc) (cond (Nat.beq pc 26) (some (.ifCond .eq 11, 3)) none) (cond (Nat.beq pc 23) (some (.invokestatic 67, 3)) none)) (cond (Nat.beq pc 22) (some (.iload_n 3, 1)) none)) (cond (Nat.ble 19 pc) (cond (Nat.beq pc 19) (some (.if_icmp .ge 18, 3)) none) (cond (Nat.beq pc 17) (some (.bipush 10, 2)) none)))) (cond (Nat.ble 10 pc) (cond (Nat.ble 12 pc) (cond (Nat.ble 13 pc) (cond (Nat.ble 16 pc) (cond (Nat.beq pc 16) (some (.iload_n 2, 1)) none) (cond (Nat.beq pc 13) (some (.ifCond .lt 24, 3)) none)) (cond (Nat.beq pc 12) (some (.iload_n 2, 1)) none)) (cond (Nat.ble 11 pc) (cond (Nat.beq pc 11) (some (.ireturn, 1)) none) (cond (Nat.beq pc 10) (some (.iconst (-1), 1)) none))) (cond (Nat.ble 4 pc) (cond (Nat.ble 5 pc) (cond (Nat.ble 7 pc) (cond (Nat.beq pc 7) (some (.if_icmp .lt 5, 3)) none) (cond (Nat.beq pc 5) (some (.bipush 7, 2)) none)) (cond (Nat.beq pc 4) (some (.iload_n 1, 1)) none)) (cond (Nat.ble 1 pc) (cond (Nat.beq pc 1) (some (.ifCond .lt 9, 3)) none) (cond (Nat.beq pc 0) (some (.iload_n 1, 1)) none)))))
def m_X6_person : jM := (6, yX6_person, cX6_person, 5, (some .int), fun pc => cond (Nat.ble 77 pc) none (jt_X6_person pc))
set_option maxRecDepth 100000 in
theorem dk_X6_person : ∀ pc q, m_X6_person.2.2.2.2.2 pc = some q → decode cX6_person pc = .ok q := jk_sound (N := 77) (t := jt_X6_person) (by decide +kernel)
set_option maxRecDepth 100000 in
theorem ok_X6_person : jok m_X6_person := ⟨dk_X6_person, jG_in 381 rfl rfl, jG_in 87 rfl rfl, by decide +kernel, by decide +kernel, by decide⟩
set_option maxRecDepth 100000 in
theorem vi_X6_person : jvirt m_X6_person := ⟨jG_in 379 rfl rfl, jG_in 380 rfl rfl⟩
def jt_X6_of : Nat → Option (Instr × Nat) := fun pc => cond (Nat.ble 120 pc) (cond (Nat.ble 151 pc) (cond (Nat.ble 167 pc) (cond (Nat.ble 178 pc) (cond (Nat.ble 180 pc) (cond (Nat.ble 181 pc) (cond (Nat.ble 183 pc) (cond (Nat.beq pc 183) (some (.ireturn, 1)) none) (cond (Nat.beq pc 181) (some (.ldc 82, 2)) none)) (cond (Nat.beq pc 180) (some (.ireturn, 1)) none)) (cond (Nat.ble 179 pc) (cond (Nat.beq pc 179) (some (.iaload, 1)) none) (cond (Nat.beq pc 178) (some (.iload_n 1, 1)) none))) (cond (Nat.ble 171 pc) (cond (Nat.ble 172 pc) (cond (Nat.ble 175 pc) (cond (Nat.beq pc 175) (some (.getfield 121, 3)) none) (cond (Nat.beq pc 172) (some (.getfield 47, 3)) none)) (cond (Nat.beq pc 171) (some (.aload_n 0, 1)) none)) (cond (Nat.ble 170 pc) (cond (Nat.beq pc 170) (some (.ireturn, 1)) none) (cond (Nat.beq pc 167) (some (.invokevirtual 117, 3)) none)))) (cond (Nat.ble 160 pc) (cond (Nat.ble 162 pc) (cond (Nat.ble 165 pc) (cond (Nat.ble 166 pc) (cond (Nat.beq pc 166) (some (.iload_n 3, 1)) none) (cond (Nat.beq pc 165) (some (.iload_n 1, 1)) none)) (cond (Nat.beq pc 162) (some (.getfield 62, 3)) none)) (cond (Nat.ble 161 pc) (cond (Nat.beq pc 161) (some (.aload_n 0, 1)) none) (cond (Nat.beq pc 160) (some (.ireturn, 1)) none))) (cond (Nat.ble 153 pc) (cond (Nat.ble 156 pc) (cond (Nat.ble 157 pc) (cond (Nat.beq pc 157) (some (.invokevirtual 113, 3)) none) (cond (Nat.beq pc 156) (some (.iload_n 1, 1)) none)) (cond (Nat.beq pc 153) (some (.getfield 62, 3)) none)) (cond (Nat.ble 152 pc) (cond (Nat.beq pc 152) (some (.aload_n 0, 1)) none) (cond (Nat.beq pc 151) (some (.ireturn, 1)) none))))) (cond (Nat.ble 133 pc) (cond (Nat.ble 144 pc) (cond (Nat.ble 148 pc) (cond (Nat.ble 149 pc) (cond (Nat.ble 150 pc) (cond (Nat.beq pc 150) (some (.iload_n 3, 1)) none) (cond (Nat.beq pc 149) (some (.ireturn, 1)) none)) (cond (Nat.beq pc 148) (some (.iconst 0, 1)) none)) (cond (Nat.ble 145 pc) (cond (Nat.beq pc 145) (some (.goto 4, 3)) none) (cond (Nat.beq pc 144) (some (.iconst 1, 1)) none))) (cond (Nat.ble 139 pc) (cond (Nat.ble 140 pc) (cond (Nat.ble 141 pc) (cond (Nat.beq pc 141) (some (.ifCond .eq 7, 3)) none) (cond (Nat.beq pc 140) (some (.baload, 1)) none)) (cond (Nat.beq pc 139) (some (.iload_n 1, 1)) none)) (cond (Nat.ble 136 pc) (cond (Nat.beq pc 136) (some (.getfield 109, 3)) none) (cond (Nat.beq pc 133) (some (.getfield 47, 3)) none)))) (cond (Nat.ble 126 pc) (cond (Nat.ble 130 pc) (cond (Nat.ble 131 pc) (cond (Nat.ble 132 pc) (cond (Nat.beq pc 132) (some (.aload_n 0, 1)) none) (cond (Nat.beq pc 131) (some (.ireturn, 1)) none)) (cond (Nat.beq pc 130) (some (.iaload, 1)) none)) (cond (Nat.ble 129 pc) (cond (Nat.beq pc 129) (some (.iload_n 1, 1)) none) (cond (Nat.beq pc 126) (some (.getfield 106, 3)) none))) (cond (Nat.ble 122 pc) (cond (Nat.ble 123 pc) (cond (Nat.beq pc 123) (some (.getfield 47, 3)) none) (cond (Nat.beq pc 122) (some (.aload_n 0, 1)) none)) (cond (Nat.ble 121 pc) (cond (Nat.beq pc 121) (some (.ireturn, 1)) none) (cond (Nat.beq pc 120) (some (.iaload, 1)) none)))))) (cond (Nat.ble 40 pc) (cond (Nat.ble 102 pc) (cond (Nat.ble 111 pc) (cond (Nat.ble 113 pc) (cond (Nat.ble 116 pc) (cond (Nat.ble 119 pc) (cond (Nat.beq pc 119) (some (.iload_n 1, 1)) none) (cond (Nat.beq pc 116) (some (.getfield 103, 3)) none)) (cond (Nat.beq pc 113) (some (.getfield 47, 3)) none)) (cond (Nat.ble 112 pc) (cond (Nat.beq pc 112) (some (.aload_n 0, 1)) none) (cond (Nat.beq pc 111) (some (.ireturn, 1)) none))) (cond (Nat.ble 106 pc) (cond (Nat.ble 109 pc) (cond (Nat.ble 110 pc) (cond (Nat.beq pc 110) (some (.iaload, 1)) none) (cond (Nat.beq pc 109) (some (.iload_n 1, 1)) none)) (cond (Nat.beq pc 106) (some (.getfield 100, 3)) none)) (cond (Nat.ble 103 pc) (cond (Nat.beq pc 103) (some (.getfield 47, 3)) none) (cond (Nat.beq pc 102) (some (.aload_n 0, 1)) none)))) (cond (Nat.ble 93 pc) (cond (Nat.ble 99 pc) (cond (Nat.ble 100 pc) (cond (Nat.ble 101 pc) (cond (Nat.beq pc 101) (some (.ireturn, 1)) none) (cond (Nat.beq pc 100) (some (.iaload, 1)) none)) (cond (Nat.beq pc 99) (some (.iload_n 1, 1)) none)) (cond (Nat.ble 96 pc) (cond (Nat.beq pc 96) (some (.getfield 97, 3)) none) (cond (Nat.beq pc 93) (some (.getfield 47, 3)) none))) (cond (Nat.ble 42 pc) (cond (Nat.ble 43 pc) (cond (Nat.ble 92 pc) (cond (Nat.beq pc 92) (some (.aload_n 0, 1)) none) (cond (Nat.beq pc 43) (some (.tableswitch 138 0 8 #[49, 59, 69, 79, 89, 107, 109, 118, 128], 49)) none)) (cond (Nat.beq pc 42) (some (.iload_n 2, 1)) none)) (cond (Nat.ble 41 pc) (cond (Nat.beq pc 41) (some (.istore_n 3, 1)) none) (cond (Nat.beq pc 40) (some (.iaload, 1)) none))))) (cond (Nat.ble 16 pc) (cond (Nat.ble 29 pc) (cond (Nat.ble 33 pc) (cond (Nat.ble 36 pc) (cond (Nat.ble 39 pc) (cond (Nat.beq pc 39) (some (.iload_n 1, 1)) none) (cond (Nat.beq pc 36) (some (.getfield 94, 3)) none)) (cond (Nat.beq pc 33) (some (.getfield 62, 3)) none)) (cond (Nat.ble 32 pc) (cond (Nat.beq pc 32) (some (.aload_n 0, 1)) none) (cond (Nat.beq pc 29) (some (.invokevirtual 90, 3)) none))) (cond (Nat.ble 20 pc) (cond (Nat.ble 23 pc) (cond (Nat.ble 26 pc) (cond (Nat.beq pc 26) (some (.getfield 87, 3)) none) (cond (Nat.beq pc 23) (some (.getfield 83, 3)) none)) (cond (Nat.beq pc 20) (some (.getfield 47, 3)) none)) (cond (Nat.ble 19 pc) (cond (Nat.beq pc 19) (some (.aload_n 0, 1)) none) (cond (Nat.beq pc 16) (some (.getfield 47, 3)) none)))) (cond (Nat.ble 8 pc) (cond (Nat.ble 11 pc) (cond (Nat.ble 12 pc) (cond (Nat.ble 15 pc) (cond (Nat.beq pc 15) (some (.aload_n 0, 1)) none) (cond (Nat.beq pc 12) (some (.getfield 62, 3)) none)) (cond (Nat.beq pc 11) (some (.aload_n 0, 1)) none)) (cond (Nat.ble 10 pc) (cond (Nat.beq pc 10) (some (.ireturn, 1)) none) (cond (Nat.beq pc 8) (some (.ldc 82, 2)) none))) (cond (Nat.ble 2 pc) (cond (Nat.ble 5 pc) (cond (Nat.beq pc 5) (some (.ifCond .ne 6, 3)) none) (cond (Nat.beq pc 2) (some (.invokevirtual 79, 3)) none)) (cond (Nat.ble 1 pc) (cond (Nat.beq pc 1) (some (.iload_n 1, 1)) none) (cond (Nat.beq pc 0) (some (.aload_n 0, 1)) none))))))
def m_X6_of : jM := (6, yX6_of, cX6_of, 4, (some .int), fun pc => cond (Nat.ble 184 pc) none (jt_X6_of pc))
set_option maxRecDepth 100000 in
theorem dk_X6_of : ∀ pc q, m_X6_of.2.2.2.2.2 pc = some q → decode cX6_of pc = .ok q := jk_sound (N := 184) (t := jt_X6_of) (by decide +kernel)
set_option maxRecDepth 100000 in
theorem ok_X6_of : jok m_X6_of := ⟨dk_X6_of, jG_in 392 rfl rfl, jG_in 87 rfl rfl, by decide +kernel, by decide +kernel, by decide⟩
set_option maxRecDepth 100000 in
theorem vi_X6_of : jvirt m_X6_of := ⟨jG_in 390 rfl rfl, jG_in 391 rfl rfl⟩
def jt_X6_set : Nat → Option (Instr × Nat) := fun pc => cond (Nat.ble 33 pc) (cond (Nat.ble 54 pc) (cond (Nat.ble 60 pc) (cond (Nat.ble 62 pc) (cond (Nat.ble 63 pc) (cond (Nat.ble 65 pc) (cond (Nat.beq pc 65) (some (.ireturn, 1)) none) (cond (Nat.beq pc 63) (some (.iload 5, 2)) none)) (cond (Nat.beq pc 62) (some (.iastore, 1)) none)) (cond (Nat.ble 61 pc) (cond (Nat.beq pc 61) (some (.iload_n 3, 1)) none) (cond (Nat.beq pc 60) (some (.iload_n 1, 1)) none))) (cond (Nat.ble 56 pc) (cond (Nat.ble 58 pc) (cond (Nat.beq pc 58) (some (.aload 4, 2)) none) (cond (Nat.beq pc 56) (some (.istore 5, 2)) none)) (cond (Nat.ble 55 pc) (cond (Nat.beq pc 55) (some (.iaload, 1)) none) (cond (Nat.beq pc 54) (some (.iload_n 1, 1)) none)))) (cond (Nat.ble 43 pc) (cond (Nat.ble 47 pc) (cond (Nat.ble 50 pc) (cond (Nat.ble 52 pc) (cond (Nat.beq pc 52) (some (.aload 4, 2)) none) (cond (Nat.beq pc 50) (some (.astore 4, 2)) none)) (cond (Nat.beq pc 47) (some (.getfield 106, 3)) none)) (cond (Nat.ble 44 pc) (cond (Nat.beq pc 44) (some (.getfield 47, 3)) none) (cond (Nat.beq pc 43) (some (.aload_n 0, 1)) none))) (cond (Nat.ble 37 pc) (cond (Nat.ble 40 pc) (cond (Nat.beq pc 40) (some (.goto 10, 3)) none) (cond (Nat.beq pc 37) (some (.getfield 103, 3)) none)) (cond (Nat.ble 34 pc) (cond (Nat.beq pc 34) (some (.getfield 47, 3)) none) (cond (Nat.beq pc 33) (some (.aload_n 0, 1)) none))))) (cond (Nat.ble 17 pc) (cond (Nat.ble 23 pc) (cond (Nat.ble 28 pc) (cond (Nat.ble 29 pc) (cond (Nat.ble 30 pc) (cond (Nat.beq pc 30) (some (.ifCond .ne 13, 3)) none) (cond (Nat.beq pc 29) (some (.iload_n 2, 1)) none)) (cond (Nat.beq pc 28) (some (.ireturn, 1)) none)) (cond (Nat.ble 26 pc) (cond (Nat.beq pc 26) (some (.bipush (-2), 2)) none) (cond (Nat.beq pc 23) (some (.ifCond .ne 6, 3)) none))) (cond (Nat.ble 19 pc) (cond (Nat.ble 20 pc) (cond (Nat.beq pc 20) (some (.invokestatic 67, 3)) none) (cond (Nat.beq pc 19) (some (.iload_n 3, 1)) none)) (cond (Nat.ble 18 pc) (cond (Nat.beq pc 18) (some (.ireturn, 1)) none) (cond (Nat.beq pc 17) (some (.iconst (-1), 1)) none)))) (cond (Nat.ble 8 pc) (cond (Nat.ble 12 pc) (cond (Nat.ble 13 pc) (cond (Nat.ble 14 pc) (cond (Nat.beq pc 14) (some (.if_icmp .le 5, 3)) none) (cond (Nat.beq pc 13) (some (.iconst 1, 1)) none)) (cond (Nat.beq pc 12) (some (.iload_n 2, 1)) none)) (cond (Nat.ble 9 pc) (cond (Nat.beq pc 9) (some (.ifCond .lt 8, 3)) none) (cond (Nat.beq pc 8) (some (.iload_n 2, 1)) none))) (cond (Nat.ble 2 pc) (cond (Nat.ble 5 pc) (cond (Nat.beq pc 5) (some (.ifCond .eq 12, 3)) none) (cond (Nat.beq pc 2) (some (.invokevirtual 79, 3)) none)) (cond (Nat.ble 1 pc) (cond (Nat.beq pc 1) (some (.iload_n 1, 1)) none) (cond (Nat.beq pc 0) (some (.aload_n 0, 1)) none)))))
def m_X6_set : jM := (6, yX6_set, cX6_set, 6, (some .int), fun pc => cond (Nat.ble 66 pc) none (jt_X6_set pc))
set_option maxRecDepth 100000 in
theorem dk_X6_set : ∀ pc q, m_X6_set.2.2.2.2.2 pc = some q → decode cX6_set pc = .ok q := jk_sound (N := 66) (t := jt_X6_set) (by decide +kernel)
set_option maxRecDepth 100000 in
theorem ok_X6_set : jok m_X6_set := ⟨dk_X6_set, jG_in 433 rfl rfl, jG_in 87 rfl rfl, by decide +kernel, by decide +kernel, by decide⟩
set_option maxRecDepth 100000 in
theorem vi_X6_set : jvirt m_X6_set := ⟨jG_in 431 rfl rfl, jG_in 432 rfl rfl⟩
def jt_X6_there : Nat → Option (Instr × Nat) := fun pc => cond (Nat.ble 20 pc) (cond (Nat.ble 30 pc) (cond (Nat.ble 35 pc) (cond (Nat.ble 38 pc) (cond (Nat.ble 39 pc) (cond (Nat.beq pc 39) (some (.ireturn, 1)) none) (cond (Nat.beq pc 38) (some (.iconst 0, 1)) none)) (cond (Nat.beq pc 35) (some (.goto 4, 3)) none)) (cond (Nat.ble 31 pc) (cond (Nat.ble 34 pc) (cond (Nat.beq pc 34) (some (.iconst 1, 1)) none) (cond (Nat.beq pc 31) (some (.ifCond .eq 7, 3)) none)) (cond (Nat.beq pc 30) (some (.iload_n 3, 1)) none))) (cond (Nat.ble 27 pc) (cond (Nat.ble 28 pc) (cond (Nat.ble 29 pc) (cond (Nat.beq pc 29) (some (.bastore, 1)) none) (cond (Nat.beq pc 28) (some (.iload_n 2, 1)) none)) (cond (Nat.beq pc 27) (some (.iload_n 1, 1)) none)) (cond (Nat.ble 21 pc) (cond (Nat.ble 24 pc) (cond (Nat.beq pc 24) (some (.getfield 109, 3)) none) (cond (Nat.beq pc 21) (some (.getfield 47, 3)) none)) (cond (Nat.beq pc 20) (some (.aload_n 0, 1)) none)))) (cond (Nat.ble 10 pc) (cond (Nat.ble 17 pc) (cond (Nat.ble 18 pc) (cond (Nat.ble 19 pc) (cond (Nat.beq pc 19) (some (.istore_n 3, 1)) none) (cond (Nat.beq pc 18) (some (.baload, 1)) none)) (cond (Nat.beq pc 17) (some (.iload_n 1, 1)) none)) (cond (Nat.ble 11 pc) (cond (Nat.ble 14 pc) (cond (Nat.beq pc 14) (some (.getfield 109, 3)) none) (cond (Nat.beq pc 11) (some (.getfield 47, 3)) none)) (cond (Nat.beq pc 10) (some (.aload_n 0, 1)) none))) (cond (Nat.ble 5 pc) (cond (Nat.ble 8 pc) (cond (Nat.ble 9 pc) (cond (Nat.beq pc 9) (some (.ireturn, 1)) none) (cond (Nat.beq pc 8) (some (.iconst (-1), 1)) none)) (cond (Nat.beq pc 5) (some (.ifCond .ne 5, 3)) none)) (cond (Nat.ble 1 pc) (cond (Nat.ble 2 pc) (cond (Nat.beq pc 2) (some (.invokevirtual 79, 3)) none) (cond (Nat.beq pc 1) (some (.iload_n 1, 1)) none)) (cond (Nat.beq pc 0) (some (.aload_n 0, 1)) none))))
def m_X6_there : jM := (6, yX6_there, cX6_there, 4, (some .int), fun pc => cond (Nat.ble 40 pc) none (jt_X6_there pc))
set_option maxRecDepth 100000 in
theorem dk_X6_there : ∀ pc q, m_X6_there.2.2.2.2.2 pc = some q → decode cX6_there pc = .ok q := jk_sound (N := 40) (t := jt_X6_there) (by decide +kernel)
set_option maxRecDepth 100000 in
theorem ok_X6_there : jok m_X6_there := ⟨dk_X6_there, jG_in 437 rfl rfl, jG_in 87 rfl rfl, by decide +kernel, by decide +kernel, by decide⟩
set_option maxRecDepth 100000 in
theorem vi_X6_there : jvirt m_X6_there := ⟨jG_in 435 rfl rfl, jG_in 436 rfl rfl⟩
def jt_X6_row : Nat → Option (Instr × Nat) := fun pc => cond (Nat.ble 40 pc) (cond (Nat.ble 57 pc) (cond (Nat.ble 69 pc) (cond (Nat.ble 75 pc) (cond (Nat.ble 76 pc) (cond (Nat.ble 78 pc) (cond (Nat.beq pc 78) (some (.ireturn, 1)) none) (cond (Nat.beq pc 76) (some (.iload 5, 2)) none)) (cond (Nat.beq pc 75) (some (.iastore, 1)) none)) (cond (Nat.ble 72 pc) (cond (Nat.ble 74 pc) (cond (Nat.beq pc 74) (some (.iload_n 3, 1)) none) (cond (Nat.beq pc 72) (some (.iload 4, 2)) none)) (cond (Nat.beq pc 69) (some (.getfield 124, 3)) none))) (cond (Nat.ble 63 pc) (cond (Nat.ble 65 pc) (cond (Nat.ble 66 pc) (cond (Nat.beq pc 66) (some (.getfield 47, 3)) none) (cond (Nat.beq pc 65) (some (.aload_n 0, 1)) none)) (cond (Nat.beq pc 63) (some (.istore 5, 2)) none)) (cond (Nat.ble 60 pc) (cond (Nat.ble 62 pc) (cond (Nat.beq pc 62) (some (.iaload, 1)) none) (cond (Nat.beq pc 60) (some (.iload 4, 2)) none)) (cond (Nat.beq pc 57) (some (.getfield 124, 3)) none)))) (cond (Nat.ble 48 pc) (cond (Nat.ble 51 pc) (cond (Nat.ble 53 pc) (cond (Nat.ble 54 pc) (cond (Nat.beq pc 54) (some (.getfield 47, 3)) none) (cond (Nat.beq pc 53) (some (.aload_n 0, 1)) none)) (cond (Nat.beq pc 51) (some (.istore 4, 2)) none)) (cond (Nat.ble 49 pc) (cond (Nat.ble 50 pc) (cond (Nat.beq pc 50) (some (.iadd, 1)) none) (cond (Nat.beq pc 49) (some (.iload_n 2, 1)) none)) (cond (Nat.beq pc 48) (some (.imul, 1)) none))) (cond (Nat.ble 45 pc) (cond (Nat.ble 46 pc) (cond (Nat.ble 47 pc) (cond (Nat.beq pc 47) (some (.iconst 4, 1)) none) (cond (Nat.beq pc 46) (some (.iload_n 1, 1)) none)) (cond (Nat.beq pc 45) (some (.ireturn, 1)) none)) (cond (Nat.ble 43 pc) (cond (Nat.beq pc 43) (some (.bipush (-3), 2)) none) (cond (Nat.beq pc 40) (some (.if_icmp .eq 6, 3)) none))))) (cond (Nat.ble 19 pc) (cond (Nat.ble 29 pc) (cond (Nat.ble 36 pc) (cond (Nat.ble 37 pc) (cond (Nat.ble 38 pc) (cond (Nat.beq pc 38) (some (.bipush 6, 2)) none) (cond (Nat.beq pc 37) (some (.iaload, 1)) none)) (cond (Nat.beq pc 36) (some (.iload_n 1, 1)) none)) (cond (Nat.ble 30 pc) (cond (Nat.ble 33 pc) (cond (Nat.beq pc 33) (some (.getfield 97, 3)) none) (cond (Nat.beq pc 30) (some (.getfield 47, 3)) none)) (cond (Nat.beq pc 29) (some (.aload_n 0, 1)) none))) (cond (Nat.ble 23 pc) (cond (Nat.ble 26 pc) (cond (Nat.ble 28 pc) (cond (Nat.beq pc 28) (some (.ireturn, 1)) none) (cond (Nat.beq pc 26) (some (.bipush (-2), 2)) none)) (cond (Nat.beq pc 23) (some (.ifCond .ne 6, 3)) none)) (cond (Nat.ble 20 pc) (cond (Nat.beq pc 20) (some (.invokestatic 67, 3)) none) (cond (Nat.beq pc 19) (some (.iload_n 3, 1)) none)))) (cond (Nat.ble 9 pc) (cond (Nat.ble 14 pc) (cond (Nat.ble 17 pc) (cond (Nat.ble 18 pc) (cond (Nat.beq pc 18) (some (.ireturn, 1)) none) (cond (Nat.beq pc 17) (some (.iconst (-1), 1)) none)) (cond (Nat.beq pc 14) (some (.if_icmp .lt 5, 3)) none)) (cond (Nat.ble 12 pc) (cond (Nat.ble 13 pc) (cond (Nat.beq pc 13) (some (.iconst 4, 1)) none) (cond (Nat.beq pc 12) (some (.iload_n 2, 1)) none)) (cond (Nat.beq pc 9) (some (.ifCond .lt 8, 3)) none))) (cond (Nat.ble 2 pc) (cond (Nat.ble 5 pc) (cond (Nat.ble 8 pc) (cond (Nat.beq pc 8) (some (.iload_n 2, 1)) none) (cond (Nat.beq pc 5) (some (.ifCond .eq 12, 3)) none)) (cond (Nat.beq pc 2) (some (.invokevirtual 79, 3)) none)) (cond (Nat.ble 1 pc) (cond (Nat.beq pc 1) (some (.iload_n 1, 1)) none) (cond (Nat.beq pc 0) (some (.aload_n 0, 1)) none)))))
def m_X6_row : jM := (6, yX6_row, cX6_row, 6, (some .int), fun pc => cond (Nat.ble 79 pc) none (jt_X6_row pc))
set_option maxRecDepth 100000 in
theorem dk_X6_row : ∀ pc q, m_X6_row.2.2.2.2.2 pc = some q → decode cX6_row pc = .ok q := jk_sound (N := 79) (t := jt_X6_row) (by decide +kernel)
set_option maxRecDepth 100000 in
theorem ok_X6_row : jok m_X6_row := ⟨dk_X6_row, jG_in 441 rfl rfl, jG_in 87 rfl rfl, by decide +kernel, by decide +kernel, by decide⟩
set_option maxRecDepth 100000 in
theorem vi_X6_row : jvirt m_X6_row := ⟨jG_in 439 rfl rfl, jG_in 440 rfl rfl⟩
def jt_X6_feed : Nat → Option (Instr × Nat) := fun pc => cond (Nat.ble 36 pc) (cond (Nat.ble 50 pc) (cond (Nat.ble 56 pc) (cond (Nat.ble 60 pc) (cond (Nat.ble 63 pc) (cond (Nat.ble 66 pc) (cond (Nat.beq pc 66) (some (.ireturn, 1)) none) (cond (Nat.beq pc 63) (some (.getfield 127, 3)) none)) (cond (Nat.beq pc 60) (some (.getfield 18, 3)) none)) (cond (Nat.ble 59 pc) (cond (Nat.beq pc 59) (some (.aload_n 0, 1)) none) (cond (Nat.beq pc 56) (some (.putfield 127, 3)) none))) (cond (Nat.ble 54 pc) (cond (Nat.ble 55 pc) (cond (Nat.beq pc 55) (some (.iadd, 1)) none) (cond (Nat.beq pc 54) (some (.iconst 1, 1)) none)) (cond (Nat.ble 51 pc) (cond (Nat.beq pc 51) (some (.getfield 127, 3)) none) (cond (Nat.beq pc 50) (some (.dup, 1)) none)))) (cond (Nat.ble 44 pc) (cond (Nat.ble 46 pc) (cond (Nat.ble 47 pc) (cond (Nat.beq pc 47) (some (.getfield 18, 3)) none) (cond (Nat.beq pc 46) (some (.aload_n 0, 1)) none)) (cond (Nat.ble 45 pc) (cond (Nat.beq pc 45) (some (.bastore, 1)) none) (cond (Nat.beq pc 44) (some (.i2b, 1)) none))) (cond (Nat.ble 40 pc) (cond (Nat.ble 43 pc) (cond (Nat.beq pc 43) (some (.iload_n 1, 1)) none) (cond (Nat.beq pc 40) (some (.getfield 127, 3)) none)) (cond (Nat.ble 37 pc) (cond (Nat.beq pc 37) (some (.getfield 18, 3)) none) (cond (Nat.beq pc 36) (some (.aload_n 0, 1)) none))))) (cond (Nat.ble 15 pc) (cond (Nat.ble 26 pc) (cond (Nat.ble 29 pc) (cond (Nat.ble 30 pc) (cond (Nat.ble 33 pc) (cond (Nat.beq pc 33) (some (.getfield 130, 3)) none) (cond (Nat.beq pc 30) (some (.getfield 18, 3)) none)) (cond (Nat.beq pc 29) (some (.aload_n 0, 1)) none)) (cond (Nat.ble 28 pc) (cond (Nat.beq pc 28) (some (.ireturn, 1)) none) (cond (Nat.beq pc 26) (some (.bipush (-4), 2)) none))) (cond (Nat.ble 21 pc) (cond (Nat.ble 23 pc) (cond (Nat.beq pc 23) (some (.if_icmp .lt 6, 3)) none) (cond (Nat.beq pc 21) (some (.bipush 100, 2)) none)) (cond (Nat.ble 18 pc) (cond (Nat.beq pc 18) (some (.getfield 127, 3)) none) (cond (Nat.beq pc 15) (some (.getfield 18, 3)) none)))) (cond (Nat.ble 8 pc) (cond (Nat.ble 13 pc) (cond (Nat.ble 14 pc) (cond (Nat.beq pc 14) (some (.aload_n 0, 1)) none) (cond (Nat.beq pc 13) (some (.ireturn, 1)) none)) (cond (Nat.ble 11 pc) (cond (Nat.beq pc 11) (some (.bipush (-2), 2)) none) (cond (Nat.beq pc 8) (some (.if_icmp .lt 6, 3)) none))) (cond (Nat.ble 4 pc) (cond (Nat.ble 5 pc) (cond (Nat.beq pc 5) (some (.sipush 128, 3)) none) (cond (Nat.beq pc 4) (some (.iload_n 1, 1)) none)) (cond (Nat.ble 1 pc) (cond (Nat.beq pc 1) (some (.ifCond .lt 10, 3)) none) (cond (Nat.beq pc 0) (some (.iload_n 1, 1)) none)))))
def m_X6_feed : jM := (6, yX6_feed, cX6_feed, 2, (some .int), fun pc => cond (Nat.ble 67 pc) none (jt_X6_feed pc))
set_option maxRecDepth 100000 in
theorem dk_X6_feed : ∀ pc q, m_X6_feed.2.2.2.2.2 pc = some q → decode cX6_feed pc = .ok q := jk_sound (N := 67) (t := jt_X6_feed) (by decide +kernel)
set_option maxRecDepth 100000 in
theorem ok_X6_feed : jok m_X6_feed := ⟨dk_X6_feed, jG_in 445 rfl rfl, jG_in 87 rfl rfl, by decide +kernel, by decide +kernel, by decide⟩
set_option maxRecDepth 100000 in
theorem vi_X6_feed : jvirt m_X6_feed := ⟨jG_in 443 rfl rfl, jG_in 444 rfl rfl⟩
def jt_X6_town : Nat → Option (Instr × Nat) := fun pc => cond (Nat.ble 40 pc) (cond (Nat.ble 62 pc) (cond (Nat.ble 69 pc) (cond (Nat.ble 76 pc) (cond (Nat.ble 77 pc) (cond (Nat.ble 78 pc) (cond (Nat.beq pc 78) (some (.ireturn, 1)) none) (cond (Nat.beq pc 77) (some (.isub, 1)) none)) (cond (Nat.beq pc 76) (some (.iconst 1, 1)) none)) (cond (Nat.ble 72 pc) (cond (Nat.ble 73 pc) (cond (Nat.beq pc 73) (some (.getfield 134, 3)) none) (cond (Nat.beq pc 72) (some (.aload_n 0, 1)) none)) (cond (Nat.beq pc 69) (some (.putfield 134, 3)) none))) (cond (Nat.ble 64 pc) (cond (Nat.ble 67 pc) (cond (Nat.ble 68 pc) (cond (Nat.beq pc 68) (some (.iadd, 1)) none) (cond (Nat.beq pc 67) (some (.iconst 1, 1)) none)) (cond (Nat.beq pc 64) (some (.getfield 134, 3)) none)) (cond (Nat.ble 63 pc) (cond (Nat.beq pc 63) (some (.dup, 1)) none) (cond (Nat.beq pc 62) (some (.aload_n 0, 1)) none)))) (cond (Nat.ble 52 pc) (cond (Nat.ble 55 pc) (cond (Nat.ble 58 pc) (cond (Nat.ble 59 pc) (cond (Nat.beq pc 59) (some (.putfield 83, 3)) none) (cond (Nat.beq pc 58) (some (.aload_n 1, 1)) none)) (cond (Nat.beq pc 55) (some (.getfield 47, 3)) none)) (cond (Nat.ble 53 pc) (cond (Nat.ble 54 pc) (cond (Nat.beq pc 54) (some (.aload_n 0, 1)) none) (cond (Nat.beq pc 53) (some (.ireturn, 1)) none)) (cond (Nat.beq pc 52) (some (.isub, 1)) none))) (cond (Nat.ble 45 pc) (cond (Nat.ble 46 pc) (cond (Nat.ble 49 pc) (cond (Nat.beq pc 49) (some (.getfield 141, 3)) none) (cond (Nat.beq pc 46) (some (.getfield 18, 3)) none)) (cond (Nat.beq pc 45) (some (.aload_n 0, 1)) none)) (cond (Nat.ble 43 pc) (cond (Nat.beq pc 43) (some (.bipush (-10), 2)) none) (cond (Nat.beq pc 40) (some (.ifCond .ne 14, 3)) none))))) (cond (Nat.ble 21 pc) (cond (Nat.ble 30 pc) (cond (Nat.ble 35 pc) (cond (Nat.ble 36 pc) (cond (Nat.ble 39 pc) (cond (Nat.beq pc 39) (some (.iload_n 2, 1)) none) (cond (Nat.beq pc 36) (some (.putfield 127, 3)) none)) (cond (Nat.beq pc 35) (some (.iconst 0, 1)) none)) (cond (Nat.ble 31 pc) (cond (Nat.ble 32 pc) (cond (Nat.beq pc 32) (some (.getfield 18, 3)) none) (cond (Nat.beq pc 31) (some (.aload_n 0, 1)) none)) (cond (Nat.beq pc 30) (some (.istore_n 2, 1)) none))) (cond (Nat.ble 23 pc) (cond (Nat.ble 26 pc) (cond (Nat.ble 27 pc) (cond (Nat.beq pc 27) (some (.invokevirtual 137, 3)) none) (cond (Nat.beq pc 26) (some (.aload_n 1, 1)) none)) (cond (Nat.beq pc 23) (some (.getfield 18, 3)) none)) (cond (Nat.ble 22 pc) (cond (Nat.beq pc 22) (some (.aload_n 0, 1)) none) (cond (Nat.beq pc 21) (some (.astore_n 1, 1)) none)))) (cond (Nat.ble 11 pc) (cond (Nat.ble 16 pc) (cond (Nat.ble 17 pc) (cond (Nat.ble 20 pc) (cond (Nat.beq pc 20) (some (.aaload, 1)) none) (cond (Nat.beq pc 17) (some (.getfield 134, 3)) none)) (cond (Nat.beq pc 16) (some (.aload_n 0, 1)) none)) (cond (Nat.ble 12 pc) (cond (Nat.ble 13 pc) (cond (Nat.beq pc 13) (some (.getfield 24, 3)) none) (cond (Nat.beq pc 12) (some (.aload_n 0, 1)) none)) (cond (Nat.beq pc 11) (some (.ireturn, 1)) none))) (cond (Nat.ble 4 pc) (cond (Nat.ble 6 pc) (cond (Nat.ble 9 pc) (cond (Nat.beq pc 9) (some (.bipush (-4), 2)) none) (cond (Nat.beq pc 6) (some (.if_icmp .lt 6, 3)) none)) (cond (Nat.beq pc 4) (some (.bipush 6, 2)) none)) (cond (Nat.ble 1 pc) (cond (Nat.beq pc 1) (some (.getfield 134, 3)) none) (cond (Nat.beq pc 0) (some (.aload_n 0, 1)) none)))))
def m_X6_town : jM := (6, yX6_town, cX6_town, 3, (some .int), fun pc => cond (Nat.ble 79 pc) none (jt_X6_town pc))
set_option maxRecDepth 100000 in
theorem dk_X6_town : ∀ pc q, m_X6_town.2.2.2.2.2 pc = some q → decode cX6_town pc = .ok q := jk_sound (N := 79) (t := jt_X6_town) (by decide +kernel)
set_option maxRecDepth 100000 in
theorem ok_X6_town : jok m_X6_town := ⟨dk_X6_town, jG_in 449 rfl rfl, jG_in 87 rfl rfl, by decide +kernel, by decide +kernel, by decide⟩
set_option maxRecDepth 100000 in
theorem vi_X6_town : jvirt m_X6_town := ⟨jG_in 447 rfl rfl, jG_in 448 rfl rfl⟩
def jt_X6_told : Nat → Option (Instr × Nat) := fun pc => cond (Nat.ble 81 pc) (cond (Nat.ble 112 pc) (cond (Nat.ble 125 pc) (cond (Nat.ble 130 pc) (cond (Nat.ble 134 pc) (cond (Nat.ble 136 pc) (cond (Nat.beq pc 136) (some (.ireturn, 1)) none) (cond (Nat.beq pc 134) (some (.ldc 82, 2)) none)) (cond (Nat.ble 133 pc) (cond (Nat.beq pc 133) (some (.ireturn, 1)) none) (cond (Nat.beq pc 130) (some (.invokevirtual 162, 3)) none))) (cond (Nat.ble 128 pc) (cond (Nat.ble 129 pc) (cond (Nat.beq pc 129) (some (.aload_n 0, 1)) none) (cond (Nat.beq pc 128) (some (.ireturn, 1)) none)) (cond (Nat.beq pc 125) (some (.getfield 159, 3)) none))) (cond (Nat.ble 117 pc) (cond (Nat.ble 121 pc) (cond (Nat.ble 122 pc) (cond (Nat.beq pc 122) (some (.getfield 47, 3)) none) (cond (Nat.beq pc 121) (some (.aload_n 0, 1)) none)) (cond (Nat.ble 120 pc) (cond (Nat.beq pc 120) (some (.ireturn, 1)) none) (cond (Nat.beq pc 117) (some (.getfield 156, 3)) none))) (cond (Nat.ble 113 pc) (cond (Nat.ble 114 pc) (cond (Nat.beq pc 114) (some (.getfield 47, 3)) none) (cond (Nat.beq pc 113) (some (.aload_n 0, 1)) none)) (cond (Nat.beq pc 112) (some (.ireturn, 1)) none)))) (cond (Nat.ble 95 pc) (cond (Nat.ble 102 pc) (cond (Nat.ble 106 pc) (cond (Nat.ble 109 pc) (cond (Nat.beq pc 109) (some (.getfield 153, 3)) none) (cond (Nat.beq pc 106) (some (.getfield 83, 3)) none)) (cond (Nat.ble 103 pc) (cond (Nat.beq pc 103) (some (.getfield 47, 3)) none) (cond (Nat.beq pc 102) (some (.aload_n 0, 1)) none))) (cond (Nat.ble 98 pc) (cond (Nat.ble 101 pc) (cond (Nat.beq pc 101) (some (.ireturn, 1)) none) (cond (Nat.beq pc 98) (some (.getfield 150, 3)) none)) (cond (Nat.beq pc 95) (some (.getfield 83, 3)) none))) (cond (Nat.ble 90 pc) (cond (Nat.ble 91 pc) (cond (Nat.ble 92 pc) (cond (Nat.beq pc 92) (some (.getfield 47, 3)) none) (cond (Nat.beq pc 91) (some (.aload_n 0, 1)) none)) (cond (Nat.beq pc 90) (some (.ireturn, 1)) none)) (cond (Nat.ble 84 pc) (cond (Nat.ble 87 pc) (cond (Nat.beq pc 87) (some (.getfield 87, 3)) none) (cond (Nat.beq pc 84) (some (.getfield 83, 3)) none)) (cond (Nat.beq pc 81) (some (.getfield 47, 3)) none))))) (cond (Nat.ble 22 pc) (cond (Nat.ble 35 pc) (cond (Nat.ble 41 pc) (cond (Nat.ble 43 pc) (cond (Nat.ble 80 pc) (cond (Nat.beq pc 80) (some (.aload_n 0, 1)) none) (cond (Nat.beq pc 43) (some (.tableswitch 91 0 5 #[37, 48, 59, 70, 78, 86], 37)) none)) (cond (Nat.ble 42 pc) (cond (Nat.beq pc 42) (some (.iload_n 1, 1)) none) (cond (Nat.beq pc 41) (some (.ireturn, 1)) none))) (cond (Nat.ble 37 pc) (cond (Nat.ble 38 pc) (cond (Nat.beq pc 38) (some (.invokevirtual 147, 3)) none) (cond (Nat.beq pc 37) (some (.isub, 1)) none)) (cond (Nat.beq pc 35) (some (.bipush 30, 2)) none))) (cond (Nat.ble 28 pc) (cond (Nat.ble 33 pc) (cond (Nat.ble 34 pc) (cond (Nat.beq pc 34) (some (.iload_n 1, 1)) none) (cond (Nat.beq pc 33) (some (.aload_n 0, 1)) none)) (cond (Nat.ble 30 pc) (cond (Nat.beq pc 30) (some (.if_icmp .ge 12, 3)) none) (cond (Nat.beq pc 28) (some (.bipush 42, 2)) none))) (cond (Nat.ble 24 pc) (cond (Nat.ble 27 pc) (cond (Nat.beq pc 27) (some (.iload_n 1, 1)) none) (cond (Nat.beq pc 24) (some (.if_icmp .lt 18, 3)) none)) (cond (Nat.beq pc 22) (some (.bipush 30, 2)) none)))) (cond (Nat.ble 12 pc) (cond (Nat.ble 16 pc) (cond (Nat.ble 20 pc) (cond (Nat.ble 21 pc) (cond (Nat.beq pc 21) (some (.iload_n 1, 1)) none) (cond (Nat.beq pc 20) (some (.ireturn, 1)) none)) (cond (Nat.ble 17 pc) (cond (Nat.beq pc 17) (some (.invokevirtual 144, 3)) none) (cond (Nat.beq pc 16) (some (.isub, 1)) none))) (cond (Nat.ble 13 pc) (cond (Nat.ble 14 pc) (cond (Nat.beq pc 14) (some (.bipush 10, 2)) none) (cond (Nat.beq pc 13) (some (.iload_n 1, 1)) none)) (cond (Nat.beq pc 12) (some (.aload_n 0, 1)) none))) (cond (Nat.ble 6 pc) (cond (Nat.ble 7 pc) (cond (Nat.ble 9 pc) (cond (Nat.beq pc 9) (some (.if_icmp .ge 12, 3)) none) (cond (Nat.beq pc 7) (some (.bipush 22, 2)) none)) (cond (Nat.beq pc 6) (some (.iload_n 1, 1)) none)) (cond (Nat.ble 1 pc) (cond (Nat.ble 3 pc) (cond (Nat.beq pc 3) (some (.if_icmp .lt 18, 3)) none) (cond (Nat.beq pc 1) (some (.bipush 10, 2)) none)) (cond (Nat.beq pc 0) (some (.iload_n 1, 1)) none)))))
def m_X6_told : jM := (6, yX6_told, cX6_told, 2, (some .int), fun pc => cond (Nat.ble 137 pc) none (jt_X6_told pc))
set_option maxRecDepth 100000 in
theorem dk_X6_told : ∀ pc q, m_X6_told.2.2.2.2.2 pc = some q → decode cX6_told pc = .ok q := jk_sound (N := 137) (t := jt_X6_told) (by decide +kernel)
set_option maxRecDepth 100000 in
theorem ok_X6_told : jok m_X6_told := ⟨dk_X6_told, jG_in 557 rfl rfl, jG_in 87 rfl rfl, by decide +kernel, by decide +kernel, by decide⟩
set_option maxRecDepth 100000 in
theorem vi_X6_told : jvirt m_X6_told := ⟨jG_in 555 rfl rfl, jG_in 556 rfl rfl⟩
def jt_X6_day : Nat → Option (Instr × Nat) := fun pc => cond (Nat.ble 67 pc) (cond (Nat.ble 97 pc) (cond (Nat.ble 115 pc) (cond (Nat.ble 125 pc) (cond (Nat.ble 129 pc) (cond (Nat.ble 132 pc) (cond (Nat.beq pc 132) (some (.ireturn, 1)) none) (cond (Nat.beq pc 129) (some (.getfield 175, 3)) none)) (cond (Nat.ble 126 pc) (cond (Nat.beq pc 126) (some (.getfield 62, 3)) none) (cond (Nat.beq pc 125) (some (.aload_n 0, 1)) none))) (cond (Nat.ble 119 pc) (cond (Nat.ble 122 pc) (cond (Nat.beq pc 122) (some (.putfield 159, 3)) none) (cond (Nat.beq pc 119) (some (.getfield 174, 3)) none)) (cond (Nat.ble 116 pc) (cond (Nat.beq pc 116) (some (.getfield 62, 3)) none) (cond (Nat.beq pc 115) (some (.aload_n 0, 1)) none)))) (cond (Nat.ble 105 pc) (cond (Nat.ble 111 pc) (cond (Nat.ble 112 pc) (cond (Nat.beq pc 112) (some (.getfield 47, 3)) none) (cond (Nat.beq pc 111) (some (.aload_n 0, 1)) none)) (cond (Nat.ble 108 pc) (cond (Nat.beq pc 108) (some (.putfield 156, 3)) none) (cond (Nat.beq pc 105) (some (.getfield 173, 3)) none))) (cond (Nat.ble 101 pc) (cond (Nat.ble 102 pc) (cond (Nat.beq pc 102) (some (.getfield 62, 3)) none) (cond (Nat.beq pc 101) (some (.aload_n 0, 1)) none)) (cond (Nat.ble 98 pc) (cond (Nat.beq pc 98) (some (.getfield 47, 3)) none) (cond (Nat.beq pc 97) (some (.aload_n 0, 1)) none))))) (cond (Nat.ble 81 pc) (cond (Nat.ble 89 pc) (cond (Nat.ble 91 pc) (cond (Nat.ble 94 pc) (cond (Nat.beq pc 94) (some (.goto (-35), 3)) none) (cond (Nat.beq pc 91) (some (.iinc 1 1, 3)) none)) (cond (Nat.ble 90 pc) (cond (Nat.beq pc 90) (some (.iastore, 1)) none) (cond (Nat.beq pc 89) (some (.iadd, 1)) none))) (cond (Nat.ble 87 pc) (cond (Nat.ble 88 pc) (cond (Nat.beq pc 88) (some (.iaload, 1)) none) (cond (Nat.beq pc 87) (some (.iload_n 1, 1)) none)) (cond (Nat.ble 84 pc) (cond (Nat.beq pc 84) (some (.getfield 170, 3)) none) (cond (Nat.beq pc 81) (some (.getfield 62, 3)) none)))) (cond (Nat.ble 77 pc) (cond (Nat.ble 79 pc) (cond (Nat.ble 80 pc) (cond (Nat.beq pc 80) (some (.aload_n 0, 1)) none) (cond (Nat.beq pc 79) (some (.iaload, 1)) none)) (cond (Nat.ble 78 pc) (cond (Nat.beq pc 78) (some (.dup2, 1)) none) (cond (Nat.beq pc 77) (some (.iload_n 1, 1)) none))) (cond (Nat.ble 71 pc) (cond (Nat.ble 74 pc) (cond (Nat.beq pc 74) (some (.getfield 121, 3)) none) (cond (Nat.beq pc 71) (some (.getfield 47, 3)) none)) (cond (Nat.ble 70 pc) (cond (Nat.beq pc 70) (some (.aload_n 0, 1)) none) (cond (Nat.beq pc 67) (some (.if_icmp .ge 30, 3)) none)))))) (cond (Nat.ble 33 pc) (cond (Nat.ble 53 pc) (cond (Nat.ble 59 pc) (cond (Nat.ble 61 pc) (cond (Nat.ble 64 pc) (cond (Nat.beq pc 64) (some (.getfield 71, 3)) none) (cond (Nat.beq pc 61) (some (.getfield 47, 3)) none)) (cond (Nat.ble 60 pc) (cond (Nat.beq pc 60) (some (.aload_n 0, 1)) none) (cond (Nat.beq pc 59) (some (.iload_n 1, 1)) none))) (cond (Nat.ble 57 pc) (cond (Nat.ble 58 pc) (cond (Nat.beq pc 58) (some (.istore_n 1, 1)) none) (cond (Nat.beq pc 57) (some (.iconst 0, 1)) none)) (cond (Nat.ble 54 pc) (cond (Nat.beq pc 54) (some (.invokevirtual 166, 3)) none) (cond (Nat.beq pc 53) (some (.iconst 1, 1)) none)))) (cond (Nat.ble 43 pc) (cond (Nat.ble 49 pc) (cond (Nat.ble 50 pc) (cond (Nat.beq pc 50) (some (.getfield 62, 3)) none) (cond (Nat.beq pc 49) (some (.aload_n 0, 1)) none)) (cond (Nat.ble 46 pc) (cond (Nat.beq pc 46) (some (.invokevirtual 90, 3)) none) (cond (Nat.beq pc 43) (some (.getfield 87, 3)) none))) (cond (Nat.ble 37 pc) (cond (Nat.ble 40 pc) (cond (Nat.beq pc 40) (some (.getfield 83, 3)) none) (cond (Nat.beq pc 37) (some (.getfield 47, 3)) none)) (cond (Nat.ble 36 pc) (cond (Nat.beq pc 36) (some (.aload_n 0, 1)) none) (cond (Nat.beq pc 33) (some (.getfield 47, 3)) none))))) (cond (Nat.ble 16 pc) (cond (Nat.ble 27 pc) (cond (Nat.ble 29 pc) (cond (Nat.ble 32 pc) (cond (Nat.beq pc 32) (some (.aload_n 0, 1)) none) (cond (Nat.beq pc 29) (some (.getfield 62, 3)) none)) (cond (Nat.ble 28 pc) (cond (Nat.beq pc 28) (some (.aload_n 0, 1)) none) (cond (Nat.beq pc 27) (some (.ireturn, 1)) none))) (cond (Nat.ble 22 pc) (cond (Nat.ble 25 pc) (cond (Nat.beq pc 25) (some (.bipush (-3), 2)) none) (cond (Nat.beq pc 22) (some (.if_icmp .lt 6, 3)) none)) (cond (Nat.ble 19 pc) (cond (Nat.beq pc 19) (some (.sipush 999, 3)) none) (cond (Nat.beq pc 16) (some (.getfield 159, 3)) none)))) (cond (Nat.ble 7 pc) (cond (Nat.ble 12 pc) (cond (Nat.ble 13 pc) (cond (Nat.beq pc 13) (some (.getfield 47, 3)) none) (cond (Nat.beq pc 12) (some (.aload_n 0, 1)) none)) (cond (Nat.ble 9 pc) (cond (Nat.beq pc 9) (some (.if_icmp .ne 19, 3)) none) (cond (Nat.beq pc 7) (some (.bipush 11, 2)) none))) (cond (Nat.ble 1 pc) (cond (Nat.ble 4 pc) (cond (Nat.beq pc 4) (some (.getfield 156, 3)) none) (cond (Nat.beq pc 1) (some (.getfield 47, 3)) none)) (cond (Nat.beq pc 0) (some (.aload_n 0, 1)) none)))))
def m_X6_day : jM := (6, yX6_day, cX6_day, 2, (some .int), fun pc => cond (Nat.ble 133 pc) none (jt_X6_day pc))
set_option maxRecDepth 100000 in
theorem dk_X6_day : ∀ pc q, m_X6_day.2.2.2.2.2 pc = some q → decode cX6_day pc = .ok q := jk_sound (N := 133) (t := jt_X6_day) (by decide +kernel)
set_option maxRecDepth 100000 in
theorem ok_X6_day : jok m_X6_day := ⟨dk_X6_day, jG_in 573 rfl rfl, jG_in 87 rfl rfl, by decide +kernel, by decide +kernel, by decide⟩
set_option maxRecDepth 100000 in
theorem vi_X6_day : jvirt m_X6_day := ⟨jG_in 571 rfl rfl, jG_in 572 rfl rfl⟩
def jt_X6_by : Nat → Option (Instr × Nat) := fun pc => cond (Nat.ble 48 pc) (cond (Nat.ble 75 pc) (cond (Nat.ble 85 pc) (cond (Nat.ble 92 pc) (cond (Nat.ble 96 pc) (cond (Nat.ble 97 pc) (cond (Nat.beq pc 97) (some (.ireturn, 1)) none) (cond (Nat.beq pc 96) (some (.iaload, 1)) none)) (cond (Nat.ble 95 pc) (cond (Nat.beq pc 95) (some (.iload_n 1, 1)) none) (cond (Nat.beq pc 92) (some (.getfield 179, 3)) none))) (cond (Nat.ble 88 pc) (cond (Nat.ble 89 pc) (cond (Nat.beq pc 89) (some (.getfield 62, 3)) none) (cond (Nat.beq pc 88) (some (.aload_n 0, 1)) none)) (cond (Nat.beq pc 85) (some (.goto 12, 3)) none))) (cond (Nat.ble 82 pc) (cond (Nat.ble 83 pc) (cond (Nat.ble 84 pc) (cond (Nat.beq pc 84) (some (.iadd, 1)) none) (cond (Nat.beq pc 83) (some (.iaload, 1)) none)) (cond (Nat.beq pc 82) (some (.iload_n 1, 1)) none)) (cond (Nat.ble 76 pc) (cond (Nat.ble 79 pc) (cond (Nat.beq pc 79) (some (.getfield 170, 3)) none) (cond (Nat.beq pc 76) (some (.getfield 62, 3)) none)) (cond (Nat.beq pc 75) (some (.aload_n 0, 1)) none)))) (cond (Nat.ble 62 pc) (cond (Nat.ble 67 pc) (cond (Nat.ble 73 pc) (cond (Nat.ble 74 pc) (cond (Nat.beq pc 74) (some (.iaload, 1)) none) (cond (Nat.beq pc 73) (some (.iload_n 1, 1)) none)) (cond (Nat.ble 70 pc) (cond (Nat.beq pc 70) (some (.getfield 121, 3)) none) (cond (Nat.beq pc 67) (some (.getfield 47, 3)) none))) (cond (Nat.ble 63 pc) (cond (Nat.ble 66 pc) (cond (Nat.beq pc 66) (some (.aload_n 0, 1)) none) (cond (Nat.beq pc 63) (some (.ifCond .ne 25, 3)) none)) (cond (Nat.beq pc 62) (some (.iload_n 3, 1)) none))) (cond (Nat.ble 55 pc) (cond (Nat.ble 58 pc) (cond (Nat.ble 59 pc) (cond (Nat.beq pc 59) (some (.invokevirtual 166, 3)) none) (cond (Nat.beq pc 58) (some (.iload_n 2, 1)) none)) (cond (Nat.beq pc 55) (some (.getfield 62, 3)) none)) (cond (Nat.ble 51 pc) (cond (Nat.ble 54 pc) (cond (Nat.beq pc 54) (some (.aload_n 0, 1)) none) (cond (Nat.beq pc 51) (some (.invokevirtual 90, 3)) none)) (cond (Nat.beq pc 48) (some (.getfield 87, 3)) none))))) (cond (Nat.ble 21 pc) (cond (Nat.ble 33 pc) (cond (Nat.ble 38 pc) (cond (Nat.ble 42 pc) (cond (Nat.ble 45 pc) (cond (Nat.beq pc 45) (some (.getfield 83, 3)) none) (cond (Nat.beq pc 42) (some (.getfield 47, 3)) none)) (cond (Nat.ble 41 pc) (cond (Nat.beq pc 41) (some (.aload_n 0, 1)) none) (cond (Nat.beq pc 38) (some (.getfield 47, 3)) none))) (cond (Nat.ble 34 pc) (cond (Nat.ble 37 pc) (cond (Nat.beq pc 37) (some (.aload_n 0, 1)) none) (cond (Nat.beq pc 34) (some (.getfield 62, 3)) none)) (cond (Nat.beq pc 33) (some (.aload_n 0, 1)) none))) (cond (Nat.ble 27 pc) (cond (Nat.ble 30 pc) (cond (Nat.ble 32 pc) (cond (Nat.beq pc 32) (some (.ireturn, 1)) none) (cond (Nat.beq pc 30) (some (.ldc 178, 2)) none)) (cond (Nat.beq pc 27) (some (.if_icmp .le 6, 3)) none)) (cond (Nat.ble 24 pc) (cond (Nat.ble 25 pc) (cond (Nat.beq pc 25) (some (.bipush 60, 2)) none) (cond (Nat.beq pc 24) (some (.iload_n 2, 1)) none)) (cond (Nat.beq pc 21) (some (.ifCond .lt 9, 3)) none)))) (cond (Nat.ble 12 pc) (cond (Nat.ble 17 pc) (cond (Nat.ble 19 pc) (cond (Nat.ble 20 pc) (cond (Nat.beq pc 20) (some (.iload_n 2, 1)) none) (cond (Nat.beq pc 19) (some (.ireturn, 1)) none)) (cond (Nat.beq pc 17) (some (.ldc 82, 2)) none)) (cond (Nat.ble 13 pc) (cond (Nat.ble 14 pc) (cond (Nat.beq pc 14) (some (.if_icmp .le 6, 3)) none) (cond (Nat.beq pc 13) (some (.iconst 1, 1)) none)) (cond (Nat.beq pc 12) (some (.iload_n 3, 1)) none))) (cond (Nat.ble 5 pc) (cond (Nat.ble 8 pc) (cond (Nat.ble 9 pc) (cond (Nat.beq pc 9) (some (.ifCond .lt 8, 3)) none) (cond (Nat.beq pc 8) (some (.iload_n 3, 1)) none)) (cond (Nat.beq pc 5) (some (.ifCond .eq 12, 3)) none)) (cond (Nat.ble 1 pc) (cond (Nat.ble 2 pc) (cond (Nat.beq pc 2) (some (.invokevirtual 79, 3)) none) (cond (Nat.beq pc 1) (some (.iload_n 1, 1)) none)) (cond (Nat.beq pc 0) (some (.aload_n 0, 1)) none)))))
def m_X6_by : jM := (6, yX6_by, cX6_by, 4, (some .int), fun pc => cond (Nat.ble 98 pc) none (jt_X6_by pc))
set_option maxRecDepth 100000 in
theorem dk_X6_by : ∀ pc q, m_X6_by.2.2.2.2.2 pc = some q → decode cX6_by pc = .ok q := jk_sound (N := 98) (t := jt_X6_by) (by decide +kernel)
set_option maxRecDepth 100000 in
theorem ok_X6_by : jok m_X6_by := ⟨dk_X6_by, jG_in 591 rfl rfl, jG_in 87 rfl rfl, by decide +kernel, by decide +kernel, by decide⟩
set_option maxRecDepth 100000 in
theorem vi_X6_by : jvirt m_X6_by := ⟨jG_in 589 rfl rfl, jG_in 590 rfl rfl⟩
def jt_X6_years : Nat → Option (Instr × Nat) := fun pc => cond (Nat.ble 17 pc) (cond (Nat.ble 30 pc) (cond (Nat.ble 36 pc) (cond (Nat.ble 37 pc) (cond (Nat.ble 38 pc) (cond (Nat.beq pc 38) (some (.ireturn, 1)) none) (cond (Nat.beq pc 37) (some (.iaload, 1)) none)) (cond (Nat.beq pc 36) (some (.iload_n 1, 1)) none)) (cond (Nat.ble 33 pc) (cond (Nat.beq pc 33) (some (.getfield 170, 3)) none) (cond (Nat.beq pc 30) (some (.getfield 62, 3)) none))) (cond (Nat.ble 23 pc) (cond (Nat.ble 26 pc) (cond (Nat.ble 29 pc) (cond (Nat.beq pc 29) (some (.aload_n 0, 1)) none) (cond (Nat.beq pc 26) (some (.invokevirtual 182, 3)) none)) (cond (Nat.beq pc 23) (some (.getfield 87, 3)) none)) (cond (Nat.ble 20 pc) (cond (Nat.beq pc 20) (some (.getfield 83, 3)) none) (cond (Nat.beq pc 17) (some (.getfield 47, 3)) none)))) (cond (Nat.ble 10 pc) (cond (Nat.ble 12 pc) (cond (Nat.ble 13 pc) (cond (Nat.ble 16 pc) (cond (Nat.beq pc 16) (some (.aload_n 0, 1)) none) (cond (Nat.beq pc 13) (some (.getfield 47, 3)) none)) (cond (Nat.beq pc 12) (some (.aload_n 0, 1)) none)) (cond (Nat.ble 11 pc) (cond (Nat.beq pc 11) (some (.aload_n 0, 1)) none) (cond (Nat.beq pc 10) (some (.ireturn, 1)) none))) (cond (Nat.ble 2 pc) (cond (Nat.ble 5 pc) (cond (Nat.ble 8 pc) (cond (Nat.beq pc 8) (some (.ldc 82, 2)) none) (cond (Nat.beq pc 5) (some (.ifCond .ne 6, 3)) none)) (cond (Nat.beq pc 2) (some (.invokevirtual 79, 3)) none)) (cond (Nat.ble 1 pc) (cond (Nat.beq pc 1) (some (.iload_n 1, 1)) none) (cond (Nat.beq pc 0) (some (.aload_n 0, 1)) none))))
def m_X6_years : jM := (6, yX6_years, cX6_years, 2, (some .int), fun pc => cond (Nat.ble 39 pc) none (jt_X6_years pc))
set_option maxRecDepth 100000 in
theorem dk_X6_years : ∀ pc q, m_X6_years.2.2.2.2.2 pc = some q → decode cX6_years pc = .ok q := jk_sound (N := 39) (t := jt_X6_years) (by decide +kernel)
set_option maxRecDepth 100000 in
theorem ok_X6_years : jok m_X6_years := ⟨dk_X6_years, jG_in 596 rfl rfl, jG_in 87 rfl rfl, by decide +kernel, by decide +kernel, by decide⟩
set_option maxRecDepth 100000 in
theorem vi_X6_years : jvirt m_X6_years := ⟨jG_in 594 rfl rfl, jG_in 595 rfl rfl⟩
def jt_X6_birth : Nat → Option (Instr × Nat) := fun pc => cond (Nat.ble 21 pc) (cond (Nat.ble 33 pc) (cond (Nat.ble 40 pc) (cond (Nat.ble 41 pc) (cond (Nat.ble 44 pc) (cond (Nat.beq pc 44) (some (.ireturn, 1)) none) (cond (Nat.beq pc 41) (some (.invokevirtual 188, 3)) none)) (cond (Nat.beq pc 40) (some (.iload_n 2, 1)) none)) (cond (Nat.ble 36 pc) (cond (Nat.ble 39 pc) (cond (Nat.beq pc 39) (some (.iload_n 1, 1)) none) (cond (Nat.beq pc 36) (some (.getfield 103, 3)) none)) (cond (Nat.beq pc 33) (some (.getfield 54, 3)) none))) (cond (Nat.ble 28 pc) (cond (Nat.ble 31 pc) (cond (Nat.ble 32 pc) (cond (Nat.beq pc 32) (some (.aload_n 0, 1)) none) (cond (Nat.beq pc 31) (some (.aload_n 0, 1)) none)) (cond (Nat.beq pc 28) (some (.invokevirtual 185, 3)) none)) (cond (Nat.ble 24 pc) (cond (Nat.ble 25 pc) (cond (Nat.beq pc 25) (some (.getfield 47, 3)) none) (cond (Nat.beq pc 24) (some (.aload_n 0, 1)) none)) (cond (Nat.beq pc 21) (some (.getfield 54, 3)) none)))) (cond (Nat.ble 12 pc) (cond (Nat.ble 17 pc) (cond (Nat.ble 19 pc) (cond (Nat.ble 20 pc) (cond (Nat.beq pc 20) (some (.aload_n 0, 1)) none) (cond (Nat.beq pc 19) (some (.ireturn, 1)) none)) (cond (Nat.beq pc 17) (some (.ldc 82, 2)) none)) (cond (Nat.ble 13 pc) (cond (Nat.ble 14 pc) (cond (Nat.beq pc 14) (some (.if_icmp .le 6, 3)) none) (cond (Nat.beq pc 13) (some (.iconst 1, 1)) none)) (cond (Nat.beq pc 12) (some (.iload_n 2, 1)) none))) (cond (Nat.ble 5 pc) (cond (Nat.ble 8 pc) (cond (Nat.ble 9 pc) (cond (Nat.beq pc 9) (some (.ifCond .lt 8, 3)) none) (cond (Nat.beq pc 8) (some (.iload_n 2, 1)) none)) (cond (Nat.beq pc 5) (some (.ifCond .eq 12, 3)) none)) (cond (Nat.ble 1 pc) (cond (Nat.ble 2 pc) (cond (Nat.beq pc 2) (some (.invokevirtual 79, 3)) none) (cond (Nat.beq pc 1) (some (.iload_n 1, 1)) none)) (cond (Nat.beq pc 0) (some (.aload_n 0, 1)) none))))
def m_X6_birth : jM := (6, yX6_birth, cX6_birth, 3, (some .int), fun pc => cond (Nat.ble 45 pc) none (jt_X6_birth pc))
set_option maxRecDepth 100000 in
theorem dk_X6_birth : ∀ pc q, m_X6_birth.2.2.2.2.2 pc = some q → decode cX6_birth pc = .ok q := jk_sound (N := 45) (t := jt_X6_birth) (by decide +kernel)
set_option maxRecDepth 100000 in
theorem ok_X6_birth : jok m_X6_birth := ⟨dk_X6_birth, jG_in 604 rfl rfl, jG_in 87 rfl rfl, by decide +kernel, by decide +kernel, by decide⟩
set_option maxRecDepth 100000 in
theorem vi_X6_birth : jvirt m_X6_birth := ⟨jG_in 602 rfl rfl, jG_in 603 rfl rfl⟩
def jt_X6_plan : Nat → Option (Instr × Nat) := fun pc => cond (Nat.ble 21 pc) (cond (Nat.ble 33 pc) (cond (Nat.ble 40 pc) (cond (Nat.ble 41 pc) (cond (Nat.ble 44 pc) (cond (Nat.beq pc 44) (some (.ireturn, 1)) none) (cond (Nat.beq pc 41) (some (.invokevirtual 188, 3)) none)) (cond (Nat.beq pc 40) (some (.iload_n 2, 1)) none)) (cond (Nat.ble 36 pc) (cond (Nat.ble 39 pc) (cond (Nat.beq pc 39) (some (.iload_n 1, 1)) none) (cond (Nat.beq pc 36) (some (.getfield 106, 3)) none)) (cond (Nat.beq pc 33) (some (.getfield 54, 3)) none))) (cond (Nat.ble 28 pc) (cond (Nat.ble 31 pc) (cond (Nat.ble 32 pc) (cond (Nat.beq pc 32) (some (.aload_n 0, 1)) none) (cond (Nat.beq pc 31) (some (.aload_n 0, 1)) none)) (cond (Nat.beq pc 28) (some (.invokevirtual 185, 3)) none)) (cond (Nat.ble 24 pc) (cond (Nat.ble 25 pc) (cond (Nat.beq pc 25) (some (.getfield 47, 3)) none) (cond (Nat.beq pc 24) (some (.aload_n 0, 1)) none)) (cond (Nat.beq pc 21) (some (.getfield 54, 3)) none)))) (cond (Nat.ble 12 pc) (cond (Nat.ble 17 pc) (cond (Nat.ble 19 pc) (cond (Nat.ble 20 pc) (cond (Nat.beq pc 20) (some (.aload_n 0, 1)) none) (cond (Nat.beq pc 19) (some (.ireturn, 1)) none)) (cond (Nat.beq pc 17) (some (.ldc 82, 2)) none)) (cond (Nat.ble 13 pc) (cond (Nat.ble 14 pc) (cond (Nat.beq pc 14) (some (.if_icmp .le 6, 3)) none) (cond (Nat.beq pc 13) (some (.iconst 1, 1)) none)) (cond (Nat.beq pc 12) (some (.iload_n 2, 1)) none))) (cond (Nat.ble 5 pc) (cond (Nat.ble 8 pc) (cond (Nat.ble 9 pc) (cond (Nat.beq pc 9) (some (.ifCond .lt 8, 3)) none) (cond (Nat.beq pc 8) (some (.iload_n 2, 1)) none)) (cond (Nat.beq pc 5) (some (.ifCond .eq 12, 3)) none)) (cond (Nat.ble 1 pc) (cond (Nat.ble 2 pc) (cond (Nat.beq pc 2) (some (.invokevirtual 79, 3)) none) (cond (Nat.beq pc 1) (some (.iload_n 1, 1)) none)) (cond (Nat.beq pc 0) (some (.aload_n 0, 1)) none))))
def m_X6_plan : jM := (6, yX6_plan, cX6_plan, 3, (some .int), fun pc => cond (Nat.ble 45 pc) none (jt_X6_plan pc))
set_option maxRecDepth 100000 in
theorem dk_X6_plan : ∀ pc q, m_X6_plan.2.2.2.2.2 pc = some q → decode cX6_plan pc = .ok q := jk_sound (N := 45) (t := jt_X6_plan) (by decide +kernel)
set_option maxRecDepth 100000 in
theorem ok_X6_plan : jok m_X6_plan := ⟨dk_X6_plan, jG_in 627 rfl rfl, jG_in 87 rfl rfl, by decide +kernel, by decide +kernel, by decide⟩
set_option maxRecDepth 100000 in
theorem vi_X6_plan : jvirt m_X6_plan := ⟨jG_in 625 rfl rfl, jG_in 626 rfl rfl⟩
def jt_X6_quiet : Nat → Option (Instr × Nat) := fun pc => cond (Nat.ble 42 pc) (cond (Nat.ble 60 pc) (cond (Nat.ble 65 pc) (cond (Nat.ble 69 pc) (cond (Nat.ble 72 pc) (cond (Nat.ble 73 pc) (cond (Nat.beq pc 73) (some (.ireturn, 1)) none) (cond (Nat.beq pc 72) (some (.iload_n 1, 1)) none)) (cond (Nat.beq pc 69) (some (.goto (-42), 3)) none)) (cond (Nat.ble 66 pc) (cond (Nat.beq pc 66) (some (.iinc 2 1, 3)) none) (cond (Nat.beq pc 65) (some (.istore_n 1, 1)) none))) (cond (Nat.ble 62 pc) (cond (Nat.ble 63 pc) (cond (Nat.ble 64 pc) (cond (Nat.beq pc 64) (some (.iand, 1)) none) (cond (Nat.beq pc 63) (some (.ixor, 1)) none)) (cond (Nat.beq pc 62) (some (.iconst (-1), 1)) none)) (cond (Nat.ble 61 pc) (cond (Nat.beq pc 61) (some (.ishl, 1)) none) (cond (Nat.beq pc 60) (some (.iaload, 1)) none)))) (cond (Nat.ble 51 pc) (cond (Nat.ble 53 pc) (cond (Nat.ble 56 pc) (cond (Nat.ble 59 pc) (cond (Nat.beq pc 59) (some (.iload_n 2, 1)) none) (cond (Nat.beq pc 56) (some (.getfield 94, 3)) none)) (cond (Nat.beq pc 53) (some (.getfield 62, 3)) none)) (cond (Nat.ble 52 pc) (cond (Nat.beq pc 52) (some (.aload_n 0, 1)) none) (cond (Nat.beq pc 51) (some (.iconst 1, 1)) none))) (cond (Nat.ble 46 pc) (cond (Nat.ble 47 pc) (cond (Nat.ble 50 pc) (cond (Nat.beq pc 50) (some (.iload_n 1, 1)) none) (cond (Nat.beq pc 47) (some (.ifCond .eq 19, 3)) none)) (cond (Nat.beq pc 46) (some (.baload, 1)) none)) (cond (Nat.ble 45 pc) (cond (Nat.beq pc 45) (some (.iload_n 2, 1)) none) (cond (Nat.beq pc 42) (some (.getfield 109, 3)) none))))) (cond (Nat.ble 24 pc) (cond (Nat.ble 29 pc) (cond (Nat.ble 35 pc) (cond (Nat.ble 38 pc) (cond (Nat.ble 39 pc) (cond (Nat.beq pc 39) (some (.getfield 47, 3)) none) (cond (Nat.beq pc 38) (some (.aload_n 0, 1)) none)) (cond (Nat.beq pc 35) (some (.if_icmp .ge 37, 3)) none)) (cond (Nat.ble 32 pc) (cond (Nat.beq pc 32) (some (.getfield 71, 3)) none) (cond (Nat.beq pc 29) (some (.getfield 47, 3)) none))) (cond (Nat.ble 26 pc) (cond (Nat.ble 27 pc) (cond (Nat.ble 28 pc) (cond (Nat.beq pc 28) (some (.aload_n 0, 1)) none) (cond (Nat.beq pc 27) (some (.iload_n 2, 1)) none)) (cond (Nat.beq pc 26) (some (.istore_n 2, 1)) none)) (cond (Nat.ble 25 pc) (cond (Nat.beq pc 25) (some (.iconst 0, 1)) none) (cond (Nat.beq pc 24) (some (.istore_n 1, 1)) none)))) (cond (Nat.ble 9 pc) (cond (Nat.ble 15 pc) (cond (Nat.ble 18 pc) (cond (Nat.ble 21 pc) (cond (Nat.beq pc 21) (some (.sipush 4095, 3)) none) (cond (Nat.beq pc 18) (some (.invokevirtual 90, 3)) none)) (cond (Nat.beq pc 15) (some (.getfield 87, 3)) none)) (cond (Nat.ble 12 pc) (cond (Nat.beq pc 12) (some (.getfield 83, 3)) none) (cond (Nat.beq pc 9) (some (.getfield 47, 3)) none))) (cond (Nat.ble 4 pc) (cond (Nat.ble 5 pc) (cond (Nat.ble 8 pc) (cond (Nat.beq pc 8) (some (.aload_n 0, 1)) none) (cond (Nat.beq pc 5) (some (.getfield 47, 3)) none)) (cond (Nat.beq pc 4) (some (.aload_n 0, 1)) none)) (cond (Nat.ble 1 pc) (cond (Nat.beq pc 1) (some (.getfield 62, 3)) none) (cond (Nat.beq pc 0) (some (.aload_n 0, 1)) none)))))
def m_X6_quiet : jM := (6, yX6_quiet, cX6_quiet, 3, (some .int), fun pc => cond (Nat.ble 74 pc) none (jt_X6_quiet pc))
set_option maxRecDepth 100000 in
theorem dk_X6_quiet : ∀ pc q, m_X6_quiet.2.2.2.2.2 pc = some q → decode cX6_quiet pc = .ok q := jk_sound (N := 74) (t := jt_X6_quiet) (by decide +kernel)
set_option maxRecDepth 100000 in
theorem ok_X6_quiet : jok m_X6_quiet := ⟨dk_X6_quiet, jG_in 631 rfl rfl, jG_in 87 rfl rfl, by decide +kernel, by decide +kernel, by decide⟩
set_option maxRecDepth 100000 in
theorem vi_X6_quiet : jvirt m_X6_quiet := ⟨jG_in 629 rfl rfl, jG_in 630 rfl rfl⟩
def jt_X6_foundling : Nat → Option (Instr × Nat) := fun pc => cond (Nat.ble 41 pc) (cond (Nat.ble 60 pc) (cond (Nat.ble 71 pc) (cond (Nat.ble 76 pc) (cond (Nat.ble 77 pc) (cond (Nat.ble 80 pc) (cond (Nat.beq pc 80) (some (.ireturn, 1)) none) (cond (Nat.beq pc 77) (some (.invokevirtual 188, 3)) none)) (cond (Nat.beq pc 76) (some (.iload_n 2, 1)) none)) (cond (Nat.ble 74 pc) (cond (Nat.ble 75 pc) (cond (Nat.beq pc 75) (some (.isub, 1)) none) (cond (Nat.beq pc 74) (some (.iconst 1, 1)) none)) (cond (Nat.beq pc 71) (some (.getfield 71, 3)) none))) (cond (Nat.ble 64 pc) (cond (Nat.ble 67 pc) (cond (Nat.ble 68 pc) (cond (Nat.beq pc 68) (some (.getfield 54, 3)) none) (cond (Nat.beq pc 67) (some (.aload_n 0, 1)) none)) (cond (Nat.beq pc 64) (some (.getfield 103, 3)) none)) (cond (Nat.ble 61 pc) (cond (Nat.beq pc 61) (some (.getfield 54, 3)) none) (cond (Nat.beq pc 60) (some (.aload_n 0, 1)) none)))) (cond (Nat.ble 52 pc) (cond (Nat.ble 55 pc) (cond (Nat.ble 56 pc) (cond (Nat.ble 59 pc) (cond (Nat.beq pc 59) (some (.aload_n 0, 1)) none) (cond (Nat.beq pc 56) (some (.invokevirtual 75, 3)) none)) (cond (Nat.beq pc 55) (some (.iload_n 1, 1)) none)) (cond (Nat.ble 53 pc) (cond (Nat.ble 54 pc) (cond (Nat.beq pc 54) (some (.iconst 0, 1)) none) (cond (Nat.beq pc 53) (some (.iconst 0, 1)) none)) (cond (Nat.beq pc 52) (some (.iconst 0, 1)) none))) (cond (Nat.ble 45 pc) (cond (Nat.ble 48 pc) (cond (Nat.ble 49 pc) (cond (Nat.beq pc 49) (some (.getfield 54, 3)) none) (cond (Nat.beq pc 48) (some (.aload_n 0, 1)) none)) (cond (Nat.beq pc 45) (some (.invokevirtual 185, 3)) none)) (cond (Nat.ble 42 pc) (cond (Nat.beq pc 42) (some (.getfield 47, 3)) none) (cond (Nat.beq pc 41) (some (.aload_n 0, 1)) none))))) (cond (Nat.ble 19 pc) (cond (Nat.ble 29 pc) (cond (Nat.ble 36 pc) (cond (Nat.ble 37 pc) (cond (Nat.ble 38 pc) (cond (Nat.beq pc 38) (some (.getfield 54, 3)) none) (cond (Nat.beq pc 37) (some (.aload_n 0, 1)) none)) (cond (Nat.beq pc 36) (some (.ireturn, 1)) none)) (cond (Nat.ble 31 pc) (cond (Nat.ble 34 pc) (cond (Nat.beq pc 34) (some (.bipush (-9), 2)) none) (cond (Nat.beq pc 31) (some (.if_icmp .lt 6, 3)) none)) (cond (Nat.beq pc 29) (some (.bipush 7, 2)) none))) (cond (Nat.ble 22 pc) (cond (Nat.ble 23 pc) (cond (Nat.ble 26 pc) (cond (Nat.beq pc 26) (some (.getfield 71, 3)) none) (cond (Nat.beq pc 23) (some (.getfield 47, 3)) none)) (cond (Nat.beq pc 22) (some (.aload_n 0, 1)) none)) (cond (Nat.ble 21 pc) (cond (Nat.beq pc 21) (some (.ireturn, 1)) none) (cond (Nat.beq pc 19) (some (.ldc 178, 2)) none)))) (cond (Nat.ble 9 pc) (cond (Nat.ble 12 pc) (cond (Nat.ble 13 pc) (cond (Nat.ble 16 pc) (cond (Nat.beq pc 16) (some (.ifCond .ne 6, 3)) none) (cond (Nat.beq pc 13) (some (.invokestatic 67, 3)) none)) (cond (Nat.beq pc 12) (some (.iload_n 1, 1)) none)) (cond (Nat.ble 11 pc) (cond (Nat.beq pc 11) (some (.ireturn, 1)) none) (cond (Nat.beq pc 9) (some (.ldc 82, 2)) none))) (cond (Nat.ble 4 pc) (cond (Nat.ble 5 pc) (cond (Nat.ble 6 pc) (cond (Nat.beq pc 6) (some (.if_icmp .le 6, 3)) none) (cond (Nat.beq pc 5) (some (.iconst 1, 1)) none)) (cond (Nat.beq pc 4) (some (.iload_n 2, 1)) none)) (cond (Nat.ble 1 pc) (cond (Nat.beq pc 1) (some (.ifCond .lt 8, 3)) none) (cond (Nat.beq pc 0) (some (.iload_n 2, 1)) none)))))
def m_X6_foundling : jM := (6, yX6_foundling, cX6_foundling, 3, (some .int), fun pc => cond (Nat.ble 81 pc) none (jt_X6_foundling pc))
set_option maxRecDepth 100000 in
theorem dk_X6_foundling : ∀ pc q, m_X6_foundling.2.2.2.2.2 pc = some q → decode cX6_foundling pc = .ok q := jk_sound (N := 81) (t := jt_X6_foundling) (by decide +kernel)
set_option maxRecDepth 100000 in
theorem ok_X6_foundling : jok m_X6_foundling := ⟨dk_X6_foundling, jG_in 635 rfl rfl, jG_in 87 rfl rfl, by decide +kernel, by decide +kernel, by decide⟩
set_option maxRecDepth 100000 in
theorem vi_X6_foundling : jvirt m_X6_foundling := ⟨jG_in 633 rfl rfl, jG_in 634 rfl rfl⟩
def jt_X6_forged : Nat → Option (Instr × Nat) := fun pc => cond (Nat.ble 60 pc) (cond (Nat.ble 86 pc) (cond (Nat.ble 96 pc) (cond (Nat.ble 104 pc) (cond (Nat.ble 110 pc) (cond (Nat.ble 112 pc) (cond (Nat.beq pc 112) (some (.ireturn, 1)) none) (cond (Nat.beq pc 110) (some (.bipush (-5), 2)) none)) (cond (Nat.ble 107 pc) (cond (Nat.beq pc 107) (some (.goto (-80), 3)) none) (cond (Nat.beq pc 104) (some (.iinc 2 1, 3)) none))) (cond (Nat.ble 98 pc) (cond (Nat.ble 101 pc) (cond (Nat.beq pc 101) (some (.goto (-39), 3)) none) (cond (Nat.beq pc 98) (some (.iinc 3 1, 3)) none)) (cond (Nat.ble 97 pc) (cond (Nat.beq pc 97) (some (.ireturn, 1)) none) (cond (Nat.beq pc 96) (some (.iadd, 1)) none)))) (cond (Nat.ble 91 pc) (cond (Nat.ble 94 pc) (cond (Nat.ble 95 pc) (cond (Nat.beq pc 95) (some (.iload_n 3, 1)) none) (cond (Nat.beq pc 94) (some (.imul, 1)) none)) (cond (Nat.ble 93 pc) (cond (Nat.beq pc 93) (some (.iload_n 2, 1)) none) (cond (Nat.beq pc 91) (some (.bipush 100, 2)) none))) (cond (Nat.ble 87 pc) (cond (Nat.ble 88 pc) (cond (Nat.beq pc 88) (some (.if_icmp .ne 10, 3)) none) (cond (Nat.beq pc 87) (some (.iload_n 1, 1)) none)) (cond (Nat.beq pc 86) (some (.iaload, 1)) none)))) (cond (Nat.ble 70 pc) (cond (Nat.ble 78 pc) (cond (Nat.ble 82 pc) (cond (Nat.ble 85 pc) (cond (Nat.beq pc 85) (some (.iload_n 3, 1)) none) (cond (Nat.beq pc 82) (some (.getfield 11, 3)) none)) (cond (Nat.ble 81 pc) (cond (Nat.beq pc 81) (some (.aload_n 0, 1)) none) (cond (Nat.beq pc 78) (some (.if_icmp .eq 20, 3)) none))) (cond (Nat.ble 76 pc) (cond (Nat.ble 77 pc) (cond (Nat.beq pc 77) (some (.iaload, 1)) none) (cond (Nat.beq pc 76) (some (.iload_n 2, 1)) none)) (cond (Nat.ble 73 pc) (cond (Nat.beq pc 73) (some (.getfield 103, 3)) none) (cond (Nat.beq pc 70) (some (.getfield 47, 3)) none)))) (cond (Nat.ble 63 pc) (cond (Nat.ble 68 pc) (cond (Nat.ble 69 pc) (cond (Nat.beq pc 69) (some (.aload_n 0, 1)) none) (cond (Nat.beq pc 68) (some (.iload_n 3, 1)) none)) (cond (Nat.ble 65 pc) (cond (Nat.beq pc 65) (some (.if_icmp .ge 39, 3)) none) (cond (Nat.beq pc 63) (some (.bipush 12, 2)) none))) (cond (Nat.ble 61 pc) (cond (Nat.ble 62 pc) (cond (Nat.beq pc 62) (some (.iload_n 3, 1)) none) (cond (Nat.beq pc 61) (some (.istore_n 3, 1)) none)) (cond (Nat.beq pc 60) (some (.iconst 0, 1)) none))))) (cond (Nat.ble 27 pc) (cond (Nat.ble 40 pc) (cond (Nat.ble 48 pc) (cond (Nat.ble 54 pc) (cond (Nat.ble 57 pc) (cond (Nat.beq pc 57) (some (.invokevirtual 192, 3)) none) (cond (Nat.beq pc 54) (some (.getfield 87, 3)) none)) (cond (Nat.ble 51 pc) (cond (Nat.beq pc 51) (some (.getfield 83, 3)) none) (cond (Nat.beq pc 48) (some (.getfield 47, 3)) none))) (cond (Nat.ble 46 pc) (cond (Nat.ble 47 pc) (cond (Nat.beq pc 47) (some (.aload_n 0, 1)) none) (cond (Nat.beq pc 46) (some (.iload_n 2, 1)) none)) (cond (Nat.ble 43 pc) (cond (Nat.beq pc 43) (some (.getfield 103, 3)) none) (cond (Nat.beq pc 40) (some (.getfield 54, 3)) none)))) (cond (Nat.ble 32 pc) (cond (Nat.ble 38 pc) (cond (Nat.ble 39 pc) (cond (Nat.beq pc 39) (some (.aload_n 0, 1)) none) (cond (Nat.beq pc 38) (some (.aload_n 0, 1)) none)) (cond (Nat.ble 35 pc) (cond (Nat.beq pc 35) (some (.if_icmp .ge 75, 3)) none) (cond (Nat.beq pc 32) (some (.getfield 71, 3)) none))) (cond (Nat.ble 28 pc) (cond (Nat.ble 29 pc) (cond (Nat.beq pc 29) (some (.getfield 47, 3)) none) (cond (Nat.beq pc 28) (some (.aload_n 0, 1)) none)) (cond (Nat.beq pc 27) (some (.iload_n 2, 1)) none)))) (cond (Nat.ble 14 pc) (cond (Nat.ble 19 pc) (cond (Nat.ble 25 pc) (cond (Nat.ble 26 pc) (cond (Nat.beq pc 26) (some (.istore_n 2, 1)) none) (cond (Nat.beq pc 25) (some (.iconst 0, 1)) none)) (cond (Nat.ble 22 pc) (cond (Nat.beq pc 22) (some (.invokevirtual 185, 3)) none) (cond (Nat.beq pc 19) (some (.getfield 47, 3)) none))) (cond (Nat.ble 15 pc) (cond (Nat.ble 18 pc) (cond (Nat.beq pc 18) (some (.aload_n 0, 1)) none) (cond (Nat.beq pc 15) (some (.getfield 54, 3)) none)) (cond (Nat.beq pc 14) (some (.aload_n 0, 1)) none))) (cond (Nat.ble 5 pc) (cond (Nat.ble 11 pc) (cond (Nat.ble 13 pc) (cond (Nat.beq pc 13) (some (.ireturn, 1)) none) (cond (Nat.beq pc 11) (some (.bipush (-2), 2)) none)) (cond (Nat.ble 8 pc) (cond (Nat.beq pc 8) (some (.if_icmp .le 6, 3)) none) (cond (Nat.beq pc 5) (some (.sipush 10000, 3)) none))) (cond (Nat.ble 1 pc) (cond (Nat.ble 4 pc) (cond (Nat.beq pc 4) (some (.iload_n 1, 1)) none) (cond (Nat.beq pc 1) (some (.ifCond .lt 10, 3)) none)) (cond (Nat.beq pc 0) (some (.iload_n 1, 1)) none)))))
def m_X6_forged : jM := (6, yX6_forged, cX6_forged, 4, (some .int), fun pc => cond (Nat.ble 113 pc) none (jt_X6_forged pc))
set_option maxRecDepth 100000 in
theorem dk_X6_forged : ∀ pc q, m_X6_forged.2.2.2.2.2 pc = some q → decode cX6_forged pc = .ok q := jk_sound (N := 113) (t := jt_X6_forged) (by decide +kernel)
set_option maxRecDepth 100000 in
theorem ok_X6_forged : jok m_X6_forged := ⟨dk_X6_forged, jG_in 639 rfl rfl, jG_in 87 rfl rfl, by decide +kernel, by decide +kernel, by decide⟩
set_option maxRecDepth 100000 in
theorem vi_X6_forged : jvirt m_X6_forged := ⟨jG_in 637 rfl rfl, jG_in 638 rfl rfl⟩
def jt_X6_change : Nat → Option (Instr × Nat) := fun pc => cond (Nat.ble 24 pc) (cond (Nat.ble 43 pc) (cond (Nat.ble 48 pc) (cond (Nat.ble 52 pc) (cond (Nat.ble 53 pc) (cond (Nat.beq pc 53) (some (.ireturn, 1)) none) (cond (Nat.beq pc 52) (some (.iconst 0, 1)) none)) (cond (Nat.ble 49 pc) (cond (Nat.beq pc 49) (some (.goto 4, 3)) none) (cond (Nat.beq pc 48) (some (.iconst 1, 1)) none))) (cond (Nat.ble 44 pc) (cond (Nat.ble 45 pc) (cond (Nat.beq pc 45) (some (.if_icmp .eq 7, 3)) none) (cond (Nat.beq pc 44) (some (.iaload, 1)) none)) (cond (Nat.beq pc 43) (some (.iload_n 1, 1)) none))) (cond (Nat.ble 33 pc) (cond (Nat.ble 37 pc) (cond (Nat.ble 40 pc) (cond (Nat.beq pc 40) (some (.getfield 106, 3)) none) (cond (Nat.beq pc 37) (some (.getfield 47, 3)) none)) (cond (Nat.ble 36 pc) (cond (Nat.beq pc 36) (some (.aload_n 0, 1)) none) (cond (Nat.beq pc 33) (some (.invokevirtual 196, 3)) none))) (cond (Nat.ble 27 pc) (cond (Nat.ble 30 pc) (cond (Nat.beq pc 30) (some (.getfield 87, 3)) none) (cond (Nat.beq pc 27) (some (.getfield 83, 3)) none)) (cond (Nat.beq pc 24) (some (.getfield 47, 3)) none)))) (cond (Nat.ble 11 pc) (cond (Nat.ble 18 pc) (cond (Nat.ble 22 pc) (cond (Nat.ble 23 pc) (cond (Nat.beq pc 23) (some (.aload_n 0, 1)) none) (cond (Nat.beq pc 22) (some (.iload_n 1, 1)) none)) (cond (Nat.ble 21 pc) (cond (Nat.beq pc 21) (some (.aload_n 0, 1)) none) (cond (Nat.beq pc 18) (some (.invokevirtual 185, 3)) none))) (cond (Nat.ble 14 pc) (cond (Nat.ble 15 pc) (cond (Nat.beq pc 15) (some (.getfield 47, 3)) none) (cond (Nat.beq pc 14) (some (.aload_n 0, 1)) none)) (cond (Nat.beq pc 11) (some (.getfield 54, 3)) none))) (cond (Nat.ble 5 pc) (cond (Nat.ble 9 pc) (cond (Nat.ble 10 pc) (cond (Nat.beq pc 10) (some (.aload_n 0, 1)) none) (cond (Nat.beq pc 9) (some (.ireturn, 1)) none)) (cond (Nat.ble 8 pc) (cond (Nat.beq pc 8) (some (.iconst (-1), 1)) none) (cond (Nat.beq pc 5) (some (.ifCond .ne 5, 3)) none))) (cond (Nat.ble 1 pc) (cond (Nat.ble 2 pc) (cond (Nat.beq pc 2) (some (.invokevirtual 79, 3)) none) (cond (Nat.beq pc 1) (some (.iload_n 1, 1)) none)) (cond (Nat.beq pc 0) (some (.aload_n 0, 1)) none))))
def m_X6_change : jM := (6, yX6_change, cX6_change, 2, (some .int), fun pc => cond (Nat.ble 54 pc) none (jt_X6_change pc))
set_option maxRecDepth 100000 in
theorem dk_X6_change : ∀ pc q, m_X6_change.2.2.2.2.2 pc = some q → decode cX6_change pc = .ok q := jk_sound (N := 54) (t := jt_X6_change) (by decide +kernel)
set_option maxRecDepth 100000 in
theorem ok_X6_change : jok m_X6_change := ⟨dk_X6_change, jG_in 643 rfl rfl, jG_in 87 rfl rfl, by decide +kernel, by decide +kernel, by decide⟩
set_option maxRecDepth 100000 in
theorem vi_X6_change : jvirt m_X6_change := ⟨jG_in 641 rfl rfl, jG_in 642 rfl rfl⟩
end
section
def jt_X6_rest : Nat → Option (Instr × Nat) := fun pc => cond (Nat.ble 88 pc) (cond (Nat.ble 142 pc) (cond (Nat.ble 167 pc) (cond (Nat.ble 179 pc) (cond (Nat.ble 185 pc) (cond (Nat.ble 186 pc) (cond (Nat.ble 187 pc) (cond (Nat.beq pc 187) (some (.ireturn, 1)) none) (cond (Nat.beq pc 186) (some (.iaload, 1)) none)) (cond (Nat.beq pc 185) (some (.isub, 1)) none)) (cond (Nat.ble 182 pc) (cond (Nat.ble 183 pc) (cond (Nat.beq pc 183) (some (.bipush 10, 2)) none) (cond (Nat.beq pc 182) (some (.iload_n 1, 1)) none)) (cond (Nat.beq pc 179) (some (.getfield 106, 3)) none))) (cond (Nat.ble 172 pc) (cond (Nat.ble 175 pc) (cond (Nat.ble 176 pc) (cond (Nat.beq pc 176) (some (.getfield 54, 3)) none) (cond (Nat.beq pc 175) (some (.aload_n 0, 1)) none)) (cond (Nat.beq pc 172) (some (.goto 15, 3)) none)) (cond (Nat.ble 168 pc) (cond (Nat.ble 171 pc) (cond (Nat.beq pc 171) (some (.iload_n 2, 1)) none) (cond (Nat.beq pc 168) (some (.ifCond .ne 7, 3)) none)) (cond (Nat.beq pc 167) (some (.iload_n 1, 1)) none)))) (cond (Nat.ble 154 pc) (cond (Nat.ble 161 pc) (cond (Nat.ble 164 pc) (cond (Nat.ble 166 pc) (cond (Nat.beq pc 166) (some (.ireturn, 1)) none) (cond (Nat.beq pc 164) (some (.bipush (-5), 2)) none)) (cond (Nat.beq pc 161) (some (.ifCond .ne 6, 3)) none)) (cond (Nat.ble 157 pc) (cond (Nat.ble 160 pc) (cond (Nat.beq pc 160) (some (.iload_n 3, 1)) none) (cond (Nat.beq pc 157) (some (.goto (-113), 3)) none)) (cond (Nat.beq pc 154) (some (.iinc 4 1, 3)) none))) (cond (Nat.ble 147 pc) (cond (Nat.ble 148 pc) (cond (Nat.ble 151 pc) (cond (Nat.beq pc 151) (some (.goto (-91), 3)) none) (cond (Nat.beq pc 148) (some (.iinc 5 1, 3)) none)) (cond (Nat.beq pc 147) (some (.istore_n 3, 1)) none)) (cond (Nat.ble 143 pc) (cond (Nat.ble 146 pc) (cond (Nat.beq pc 146) (some (.iconst 0, 1)) none) (cond (Nat.beq pc 143) (some (.iinc 2 1, 3)) none)) (cond (Nat.beq pc 142) (some (.iastore, 1)) none))))) (cond (Nat.ble 116 pc) (cond (Nat.ble 128 pc) (cond (Nat.ble 135 pc) (cond (Nat.ble 138 pc) (cond (Nat.ble 140 pc) (cond (Nat.beq pc 140) (some (.iload 6, 2)) none) (cond (Nat.beq pc 138) (some (.iload 5, 2)) none)) (cond (Nat.beq pc 135) (some (.getfield 106, 3)) none)) (cond (Nat.ble 131 pc) (cond (Nat.ble 132 pc) (cond (Nat.beq pc 132) (some (.getfield 54, 3)) none) (cond (Nat.beq pc 131) (some (.aload_n 0, 1)) none)) (cond (Nat.beq pc 128) (some (.if_icmp .eq 20, 3)) none))) (cond (Nat.ble 122 pc) (cond (Nat.ble 125 pc) (cond (Nat.ble 127 pc) (cond (Nat.beq pc 127) (some (.iaload, 1)) none) (cond (Nat.beq pc 125) (some (.iload 5, 2)) none)) (cond (Nat.beq pc 122) (some (.getfield 106, 3)) none)) (cond (Nat.ble 118 pc) (cond (Nat.ble 119 pc) (cond (Nat.beq pc 119) (some (.getfield 54, 3)) none) (cond (Nat.beq pc 118) (some (.aload_n 0, 1)) none)) (cond (Nat.beq pc 116) (some (.iload 6, 2)) none)))) (cond (Nat.ble 104 pc) (cond (Nat.ble 111 pc) (cond (Nat.ble 113 pc) (cond (Nat.ble 114 pc) (cond (Nat.beq pc 114) (some (.istore 6, 2)) none) (cond (Nat.beq pc 113) (some (.iaload, 1)) none)) (cond (Nat.beq pc 111) (some (.iload 5, 2)) none)) (cond (Nat.ble 105 pc) (cond (Nat.ble 108 pc) (cond (Nat.beq pc 108) (some (.getfield 106, 3)) none) (cond (Nat.beq pc 105) (some (.getfield 54, 3)) none)) (cond (Nat.beq pc 104) (some (.aload_n 0, 1)) none))) (cond (Nat.ble 95 pc) (cond (Nat.ble 98 pc) (cond (Nat.ble 101 pc) (cond (Nat.beq pc 101) (some (.goto 13, 3)) none) (cond (Nat.beq pc 98) (some (.invokevirtual 196, 3)) none)) (cond (Nat.beq pc 95) (some (.getfield 87, 3)) none)) (cond (Nat.ble 89 pc) (cond (Nat.ble 92 pc) (cond (Nat.beq pc 92) (some (.getfield 83, 3)) none) (cond (Nat.beq pc 89) (some (.getfield 54, 3)) none)) (cond (Nat.beq pc 88) (some (.aload_n 0, 1)) none)))))) (cond (Nat.ble 41 pc) (cond (Nat.ble 62 pc) (cond (Nat.ble 76 pc) (cond (Nat.ble 82 pc) (cond (Nat.ble 85 pc) (cond (Nat.ble 86 pc) (cond (Nat.beq pc 86) (some (.iload 5, 2)) none) (cond (Nat.beq pc 85) (some (.aload_n 0, 1)) none)) (cond (Nat.beq pc 82) (some (.ifCond .eq 22, 3)) none)) (cond (Nat.ble 79 pc) (cond (Nat.ble 81 pc) (cond (Nat.beq pc 81) (some (.baload, 1)) none) (cond (Nat.beq pc 79) (some (.iload 5, 2)) none)) (cond (Nat.beq pc 76) (some (.getfield 109, 3)) none))) (cond (Nat.ble 69 pc) (cond (Nat.ble 72 pc) (cond (Nat.ble 73 pc) (cond (Nat.beq pc 73) (some (.getfield 54, 3)) none) (cond (Nat.beq pc 72) (some (.aload_n 0, 1)) none)) (cond (Nat.beq pc 69) (some (.if_icmp .ge 85, 3)) none)) (cond (Nat.ble 63 pc) (cond (Nat.ble 66 pc) (cond (Nat.beq pc 66) (some (.getfield 71, 3)) none) (cond (Nat.beq pc 63) (some (.getfield 54, 3)) none)) (cond (Nat.beq pc 62) (some (.aload_n 0, 1)) none)))) (cond (Nat.ble 52 pc) (cond (Nat.ble 57 pc) (cond (Nat.ble 58 pc) (cond (Nat.ble 60 pc) (cond (Nat.beq pc 60) (some (.iload 5, 2)) none) (cond (Nat.beq pc 58) (some (.istore 5, 2)) none)) (cond (Nat.beq pc 57) (some (.iconst 0, 1)) none)) (cond (Nat.ble 55 pc) (cond (Nat.ble 56 pc) (cond (Nat.beq pc 56) (some (.istore_n 3, 1)) none) (cond (Nat.beq pc 55) (some (.iconst 1, 1)) none)) (cond (Nat.beq pc 52) (some (.ifCond .ne 108, 3)) none))) (cond (Nat.ble 46 pc) (cond (Nat.ble 48 pc) (cond (Nat.ble 51 pc) (cond (Nat.beq pc 51) (some (.iload_n 3, 1)) none) (cond (Nat.beq pc 48) (some (.if_icmp .ge 112, 3)) none)) (cond (Nat.beq pc 46) (some (.bipush 8, 2)) none)) (cond (Nat.ble 42 pc) (cond (Nat.ble 44 pc) (cond (Nat.beq pc 44) (some (.iload 4, 2)) none) (cond (Nat.beq pc 42) (some (.istore 4, 2)) none)) (cond (Nat.beq pc 41) (some (.iconst 0, 1)) none))))) (cond (Nat.ble 21 pc) (cond (Nat.ble 29 pc) (cond (Nat.ble 34 pc) (cond (Nat.ble 35 pc) (cond (Nat.ble 38 pc) (cond (Nat.beq pc 38) (some (.invokevirtual 185, 3)) none) (cond (Nat.beq pc 35) (some (.getfield 47, 3)) none)) (cond (Nat.beq pc 34) (some (.aload_n 0, 1)) none)) (cond (Nat.ble 30 pc) (cond (Nat.ble 31 pc) (cond (Nat.beq pc 31) (some (.getfield 54, 3)) none) (cond (Nat.beq pc 30) (some (.aload_n 0, 1)) none)) (cond (Nat.beq pc 29) (some (.istore_n 3, 1)) none))) (cond (Nat.ble 26 pc) (cond (Nat.ble 27 pc) (cond (Nat.ble 28 pc) (cond (Nat.beq pc 28) (some (.iconst 0, 1)) none) (cond (Nat.beq pc 27) (some (.istore_n 2, 1)) none)) (cond (Nat.beq pc 26) (some (.iconst 0, 1)) none)) (cond (Nat.ble 24 pc) (cond (Nat.ble 25 pc) (cond (Nat.beq pc 25) (some (.ireturn, 1)) none) (cond (Nat.beq pc 24) (some (.iconst (-1), 1)) none)) (cond (Nat.beq pc 21) (some (.if_icmp .lt 5, 3)) none)))) (cond (Nat.ble 10 pc) (cond (Nat.ble 14 pc) (cond (Nat.ble 15 pc) (cond (Nat.ble 18 pc) (cond (Nat.beq pc 18) (some (.getfield 71, 3)) none) (cond (Nat.beq pc 15) (some (.getfield 47, 3)) none)) (cond (Nat.beq pc 14) (some (.aload_n 0, 1)) none)) (cond (Nat.ble 11 pc) (cond (Nat.ble 13 pc) (cond (Nat.beq pc 13) (some (.isub, 1)) none) (cond (Nat.beq pc 11) (some (.bipush 10, 2)) none)) (cond (Nat.beq pc 10) (some (.iload_n 1, 1)) none))) (cond (Nat.ble 4 pc) (cond (Nat.ble 5 pc) (cond (Nat.ble 7 pc) (cond (Nat.beq pc 7) (some (.if_icmp .lt 17, 3)) none) (cond (Nat.beq pc 5) (some (.bipush 10, 2)) none)) (cond (Nat.beq pc 4) (some (.iload_n 1, 1)) none)) (cond (Nat.ble 1 pc) (cond (Nat.beq pc 1) (some (.ifCond .eq 25, 3)) none) (cond (Nat.beq pc 0) (some (.iload_n 1, 1)) none))))))
def m_X6_rest : jM := (6, yX6_rest, cX6_rest, 7, (some .int), fun pc => cond (Nat.ble 188 pc) none (jt_X6_rest pc))
set_option maxRecDepth 100000 in
theorem dk_X6_rest : ∀ pc q, m_X6_rest.2.2.2.2.2 pc = some q → decode cX6_rest pc = .ok q := jk_sound (N := 188) (t := jt_X6_rest) (by decide +kernel)
set_option maxRecDepth 100000 in
theorem ok_X6_rest : jok m_X6_rest := ⟨dk_X6_rest, jG_in 651 rfl rfl, jG_in 87 rfl rfl, by decide +kernel, by decide +kernel, by decide⟩
set_option maxRecDepth 100000 in
theorem vi_X6_rest : jvirt m_X6_rest := ⟨jG_in 649 rfl rfl, jG_in 650 rfl rfl⟩
def jt_X6_reckoning : Nat → Option (Instr × Nat) := fun pc => cond (Nat.ble 62 pc) (cond (Nat.ble 91 pc) (cond (Nat.ble 109 pc) (cond (Nat.ble 115 pc) (cond (Nat.ble 119 pc) (cond (Nat.ble 120 pc) (cond (Nat.beq pc 120) (some (.ireturn, 1)) none) (cond (Nat.beq pc 119) (some (.isub, 1)) none)) (cond (Nat.ble 118 pc) (cond (Nat.beq pc 118) (some (.iload_n 2, 1)) none) (cond (Nat.beq pc 115) (some (.invokevirtual 199, 3)) none))) (cond (Nat.ble 111 pc) (cond (Nat.ble 114 pc) (cond (Nat.beq pc 114) (some (.iconst (-1), 1)) none) (cond (Nat.beq pc 111) (some (.getfield 54, 3)) none)) (cond (Nat.ble 110 pc) (cond (Nat.beq pc 110) (some (.aload_n 0, 1)) none) (cond (Nat.beq pc 109) (some (.aload_n 0, 1)) none)))) (cond (Nat.ble 97 pc) (cond (Nat.ble 103 pc) (cond (Nat.ble 106 pc) (cond (Nat.beq pc 106) (some (.invokevirtual 182, 3)) none) (cond (Nat.beq pc 103) (some (.getfield 87, 3)) none)) (cond (Nat.ble 100 pc) (cond (Nat.beq pc 100) (some (.getfield 83, 3)) none) (cond (Nat.beq pc 97) (some (.getfield 54, 3)) none))) (cond (Nat.ble 93 pc) (cond (Nat.ble 96 pc) (cond (Nat.beq pc 96) (some (.aload_n 0, 1)) none) (cond (Nat.beq pc 93) (some (.getfield 54, 3)) none)) (cond (Nat.ble 92 pc) (cond (Nat.beq pc 92) (some (.aload_n 0, 1)) none) (cond (Nat.beq pc 91) (some (.aload_n 0, 1)) none))))) (cond (Nat.ble 78 pc) (cond (Nat.ble 83 pc) (cond (Nat.ble 85 pc) (cond (Nat.ble 88 pc) (cond (Nat.beq pc 88) (some (.goto (-37), 3)) none) (cond (Nat.beq pc 85) (some (.iinc 3 1, 3)) none)) (cond (Nat.ble 84 pc) (cond (Nat.beq pc 84) (some (.iastore, 1)) none) (cond (Nat.beq pc 83) (some (.irem, 1)) none))) (cond (Nat.ble 80 pc) (cond (Nat.ble 81 pc) (cond (Nat.beq pc 81) (some (.bipush 12, 2)) none) (cond (Nat.beq pc 80) (some (.iadd, 1)) none)) (cond (Nat.ble 79 pc) (cond (Nat.beq pc 79) (some (.iload_n 1, 1)) none) (cond (Nat.beq pc 78) (some (.iaload, 1)) none)))) (cond (Nat.ble 70 pc) (cond (Nat.ble 74 pc) (cond (Nat.ble 77 pc) (cond (Nat.beq pc 77) (some (.iload_n 3, 1)) none) (cond (Nat.beq pc 74) (some (.getfield 106, 3)) none)) (cond (Nat.ble 71 pc) (cond (Nat.beq pc 71) (some (.getfield 54, 3)) none) (cond (Nat.beq pc 70) (some (.aload_n 0, 1)) none))) (cond (Nat.ble 66 pc) (cond (Nat.ble 69 pc) (cond (Nat.beq pc 69) (some (.iload_n 3, 1)) none) (cond (Nat.beq pc 66) (some (.getfield 106, 3)) none)) (cond (Nat.ble 63 pc) (cond (Nat.beq pc 63) (some (.getfield 54, 3)) none) (cond (Nat.beq pc 62) (some (.aload_n 0, 1)) none)))))) (cond (Nat.ble 30 pc) (cond (Nat.ble 46 pc) (cond (Nat.ble 52 pc) (cond (Nat.ble 56 pc) (cond (Nat.ble 59 pc) (cond (Nat.beq pc 59) (some (.if_icmp .ge 32, 3)) none) (cond (Nat.beq pc 56) (some (.getfield 71, 3)) none)) (cond (Nat.ble 53 pc) (cond (Nat.beq pc 53) (some (.getfield 54, 3)) none) (cond (Nat.beq pc 52) (some (.aload_n 0, 1)) none))) (cond (Nat.ble 50 pc) (cond (Nat.ble 51 pc) (cond (Nat.beq pc 51) (some (.iload_n 3, 1)) none) (cond (Nat.beq pc 50) (some (.istore_n 3, 1)) none)) (cond (Nat.ble 49 pc) (cond (Nat.beq pc 49) (some (.iconst 0, 1)) none) (cond (Nat.beq pc 46) (some (.invokevirtual 185, 3)) none)))) (cond (Nat.ble 38 pc) (cond (Nat.ble 42 pc) (cond (Nat.ble 43 pc) (cond (Nat.beq pc 43) (some (.getfield 47, 3)) none) (cond (Nat.beq pc 42) (some (.aload_n 0, 1)) none)) (cond (Nat.ble 39 pc) (cond (Nat.beq pc 39) (some (.getfield 54, 3)) none) (cond (Nat.beq pc 38) (some (.aload_n 0, 1)) none))) (cond (Nat.ble 34 pc) (cond (Nat.ble 37 pc) (cond (Nat.beq pc 37) (some (.istore_n 2, 1)) none) (cond (Nat.beq pc 34) (some (.invokevirtual 199, 3)) none)) (cond (Nat.ble 33 pc) (cond (Nat.beq pc 33) (some (.iconst (-1), 1)) none) (cond (Nat.beq pc 30) (some (.getfield 47, 3)) none))))) (cond (Nat.ble 12 pc) (cond (Nat.ble 22 pc) (cond (Nat.ble 28 pc) (cond (Nat.ble 29 pc) (cond (Nat.beq pc 29) (some (.aload_n 0, 1)) none) (cond (Nat.beq pc 28) (some (.aload_n 0, 1)) none)) (cond (Nat.ble 25 pc) (cond (Nat.beq pc 25) (some (.invokevirtual 182, 3)) none) (cond (Nat.beq pc 22) (some (.getfield 87, 3)) none))) (cond (Nat.ble 16 pc) (cond (Nat.ble 19 pc) (cond (Nat.beq pc 19) (some (.getfield 83, 3)) none) (cond (Nat.beq pc 16) (some (.getfield 47, 3)) none)) (cond (Nat.ble 15 pc) (cond (Nat.beq pc 15) (some (.aload_n 0, 1)) none) (cond (Nat.beq pc 12) (some (.getfield 47, 3)) none)))) (cond (Nat.ble 7 pc) (cond (Nat.ble 10 pc) (cond (Nat.ble 11 pc) (cond (Nat.beq pc 11) (some (.aload_n 0, 1)) none) (cond (Nat.beq pc 10) (some (.aload_n 0, 1)) none)) (cond (Nat.ble 9 pc) (cond (Nat.beq pc 9) (some (.ireturn, 1)) none) (cond (Nat.beq pc 7) (some (.ldc 178, 2)) none))) (cond (Nat.ble 1 pc) (cond (Nat.ble 4 pc) (cond (Nat.beq pc 4) (some (.ifCond .ne 6, 3)) none) (cond (Nat.beq pc 1) (some (.invokestatic 67, 3)) none)) (cond (Nat.beq pc 0) (some (.iload_n 1, 1)) none)))))
def m_X6_reckoning : jM := (6, yX6_reckoning, cX6_reckoning, 4, (some .int), fun pc => cond (Nat.ble 121 pc) none (jt_X6_reckoning pc))
set_option maxRecDepth 100000 in
theorem dk_X6_reckoning : ∀ pc q, m_X6_reckoning.2.2.2.2.2 pc = some q → decode cX6_reckoning pc = .ok q := jk_sound (N := 121) (t := jt_X6_reckoning) (by decide +kernel)
set_option maxRecDepth 100000 in
theorem ok_X6_reckoning : jok m_X6_reckoning := ⟨dk_X6_reckoning, jG_in 655 rfl rfl, jG_in 87 rfl rfl, by decide +kernel, by decide +kernel, by decide⟩
set_option maxRecDepth 100000 in
theorem vi_X6_reckoning : jvirt m_X6_reckoning := ⟨jG_in 653 rfl rfl, jG_in 654 rfl rfl⟩
def jt_X6_high : Nat → Option (Instr × Nat) := fun pc => cond (Nat.ble 29 pc) (cond (Nat.ble 43 pc) (cond (Nat.ble 49 pc) (cond (Nat.ble 55 pc) (cond (Nat.ble 57 pc) (cond (Nat.beq pc 57) (some (.ireturn, 1)) none) (cond (Nat.beq pc 55) (some (.bipush (-5), 2)) none)) (cond (Nat.ble 52 pc) (cond (Nat.beq pc 52) (some (.goto (-29), 3)) none) (cond (Nat.beq pc 49) (some (.iinc 2 5, 3)) none))) (cond (Nat.ble 47 pc) (cond (Nat.ble 48 pc) (cond (Nat.beq pc 48) (some (.ireturn, 1)) none) (cond (Nat.beq pc 47) (some (.iload_n 2, 1)) none)) (cond (Nat.ble 44 pc) (cond (Nat.beq pc 44) (some (.if_icmp .eq 5, 3)) none) (cond (Nat.beq pc 43) (some (.iaload, 1)) none)))) (cond (Nat.ble 35 pc) (cond (Nat.ble 39 pc) (cond (Nat.ble 42 pc) (cond (Nat.beq pc 42) (some (.iload_n 1, 1)) none) (cond (Nat.beq pc 39) (some (.getfield 106, 3)) none)) (cond (Nat.ble 36 pc) (cond (Nat.beq pc 36) (some (.getfield 47, 3)) none) (cond (Nat.beq pc 35) (some (.aload_n 0, 1)) none))) (cond (Nat.ble 31 pc) (cond (Nat.ble 32 pc) (cond (Nat.beq pc 32) (some (.invokevirtual 196, 3)) none) (cond (Nat.beq pc 31) (some (.iload_n 2, 1)) none)) (cond (Nat.ble 30 pc) (cond (Nat.beq pc 30) (some (.iload_n 1, 1)) none) (cond (Nat.beq pc 29) (some (.aload_n 0, 1)) none))))) (cond (Nat.ble 14 pc) (cond (Nat.ble 22 pc) (cond (Nat.ble 24 pc) (cond (Nat.ble 26 pc) (cond (Nat.beq pc 26) (some (.if_icmp .ge 29, 3)) none) (cond (Nat.beq pc 24) (some (.bipush 100, 2)) none)) (cond (Nat.ble 23 pc) (cond (Nat.beq pc 23) (some (.iload_n 2, 1)) none) (cond (Nat.beq pc 22) (some (.istore_n 2, 1)) none))) (cond (Nat.ble 18 pc) (cond (Nat.ble 21 pc) (cond (Nat.beq pc 21) (some (.iconst 0, 1)) none) (cond (Nat.beq pc 18) (some (.invokevirtual 185, 3)) none)) (cond (Nat.ble 15 pc) (cond (Nat.beq pc 15) (some (.getfield 47, 3)) none) (cond (Nat.beq pc 14) (some (.aload_n 0, 1)) none)))) (cond (Nat.ble 8 pc) (cond (Nat.ble 10 pc) (cond (Nat.ble 11 pc) (cond (Nat.beq pc 11) (some (.getfield 54, 3)) none) (cond (Nat.beq pc 10) (some (.aload_n 0, 1)) none)) (cond (Nat.ble 9 pc) (cond (Nat.beq pc 9) (some (.ireturn, 1)) none) (cond (Nat.beq pc 8) (some (.iconst (-1), 1)) none))) (cond (Nat.ble 2 pc) (cond (Nat.ble 5 pc) (cond (Nat.beq pc 5) (some (.ifCond .ne 5, 3)) none) (cond (Nat.beq pc 2) (some (.invokevirtual 79, 3)) none)) (cond (Nat.ble 1 pc) (cond (Nat.beq pc 1) (some (.iload_n 1, 1)) none) (cond (Nat.beq pc 0) (some (.aload_n 0, 1)) none)))))
def m_X6_high : jM := (6, yX6_high, cX6_high, 3, (some .int), fun pc => cond (Nat.ble 58 pc) none (jt_X6_high pc))
set_option maxRecDepth 100000 in
theorem dk_X6_high : ∀ pc q, m_X6_high.2.2.2.2.2 pc = some q → decode cX6_high pc = .ok q := jk_sound (N := 58) (t := jt_X6_high) (by decide +kernel)
set_option maxRecDepth 100000 in
theorem ok_X6_high : jok m_X6_high := ⟨dk_X6_high, jG_in 663 rfl rfl, jG_in 87 rfl rfl, by decide +kernel, by decide +kernel, by decide⟩
set_option maxRecDepth 100000 in
theorem vi_X6_high : jvirt m_X6_high := ⟨jG_in 661 rfl rfl, jG_in 662 rfl rfl⟩
def jt_X6_last : Nat → Option (Instr × Nat) := fun pc => cond (Nat.ble 44 pc) (cond (Nat.ble 66 pc) (cond (Nat.ble 80 pc) (cond (Nat.ble 85 pc) (cond (Nat.ble 88 pc) (cond (Nat.ble 89 pc) (cond (Nat.beq pc 89) (some (.ireturn, 1)) none) (cond (Nat.beq pc 88) (some (.isub, 1)) none)) (cond (Nat.beq pc 85) (some (.invokevirtual 199, 3)) none)) (cond (Nat.ble 81 pc) (cond (Nat.ble 84 pc) (cond (Nat.beq pc 84) (some (.iload_n 1, 1)) none) (cond (Nat.beq pc 81) (some (.getfield 54, 3)) none)) (cond (Nat.beq pc 80) (some (.aload_n 0, 1)) none))) (cond (Nat.ble 75 pc) (cond (Nat.ble 78 pc) (cond (Nat.ble 79 pc) (cond (Nat.beq pc 79) (some (.aload_n 0, 1)) none) (cond (Nat.beq pc 78) (some (.iload_n 2, 1)) none)) (cond (Nat.beq pc 75) (some (.invokevirtual 182, 3)) none)) (cond (Nat.ble 69 pc) (cond (Nat.ble 72 pc) (cond (Nat.beq pc 72) (some (.getfield 87, 3)) none) (cond (Nat.beq pc 69) (some (.getfield 83, 3)) none)) (cond (Nat.beq pc 66) (some (.getfield 54, 3)) none)))) (cond (Nat.ble 58 pc) (cond (Nat.ble 61 pc) (cond (Nat.ble 62 pc) (cond (Nat.ble 65 pc) (cond (Nat.beq pc 65) (some (.aload_n 0, 1)) none) (cond (Nat.beq pc 62) (some (.getfield 54, 3)) none)) (cond (Nat.beq pc 61) (some (.aload_n 0, 1)) none)) (cond (Nat.ble 59 pc) (cond (Nat.ble 60 pc) (cond (Nat.beq pc 60) (some (.aload_n 0, 1)) none) (cond (Nat.beq pc 59) (some (.bastore, 1)) none)) (cond (Nat.beq pc 58) (some (.iconst 0, 1)) none))) (cond (Nat.ble 51 pc) (cond (Nat.ble 54 pc) (cond (Nat.ble 57 pc) (cond (Nat.beq pc 57) (some (.iload_n 1, 1)) none) (cond (Nat.beq pc 54) (some (.getfield 109, 3)) none)) (cond (Nat.beq pc 51) (some (.getfield 54, 3)) none)) (cond (Nat.ble 47 pc) (cond (Nat.ble 50 pc) (cond (Nat.beq pc 50) (some (.aload_n 0, 1)) none) (cond (Nat.beq pc 47) (some (.invokevirtual 185, 3)) none)) (cond (Nat.beq pc 44) (some (.getfield 47, 3)) none))))) (cond (Nat.ble 20 pc) (cond (Nat.ble 34 pc) (cond (Nat.ble 39 pc) (cond (Nat.ble 40 pc) (cond (Nat.ble 43 pc) (cond (Nat.beq pc 43) (some (.aload_n 0, 1)) none) (cond (Nat.beq pc 40) (some (.getfield 54, 3)) none)) (cond (Nat.beq pc 39) (some (.aload_n 0, 1)) none)) (cond (Nat.ble 35 pc) (cond (Nat.ble 38 pc) (cond (Nat.beq pc 38) (some (.istore_n 2, 1)) none) (cond (Nat.beq pc 35) (some (.invokevirtual 199, 3)) none)) (cond (Nat.beq pc 34) (some (.iload_n 1, 1)) none))) (cond (Nat.ble 29 pc) (cond (Nat.ble 30 pc) (cond (Nat.ble 31 pc) (cond (Nat.beq pc 31) (some (.getfield 47, 3)) none) (cond (Nat.beq pc 30) (some (.aload_n 0, 1)) none)) (cond (Nat.beq pc 29) (some (.aload_n 0, 1)) none)) (cond (Nat.ble 23 pc) (cond (Nat.ble 26 pc) (cond (Nat.beq pc 26) (some (.invokevirtual 182, 3)) none) (cond (Nat.beq pc 23) (some (.getfield 87, 3)) none)) (cond (Nat.beq pc 20) (some (.getfield 83, 3)) none)))) (cond (Nat.ble 10 pc) (cond (Nat.ble 13 pc) (cond (Nat.ble 16 pc) (cond (Nat.ble 17 pc) (cond (Nat.beq pc 17) (some (.getfield 47, 3)) none) (cond (Nat.beq pc 16) (some (.aload_n 0, 1)) none)) (cond (Nat.beq pc 13) (some (.getfield 47, 3)) none)) (cond (Nat.ble 11 pc) (cond (Nat.ble 12 pc) (cond (Nat.beq pc 12) (some (.aload_n 0, 1)) none) (cond (Nat.beq pc 11) (some (.aload_n 0, 1)) none)) (cond (Nat.beq pc 10) (some (.ireturn, 1)) none))) (cond (Nat.ble 2 pc) (cond (Nat.ble 5 pc) (cond (Nat.ble 8 pc) (cond (Nat.beq pc 8) (some (.ldc 82, 2)) none) (cond (Nat.beq pc 5) (some (.ifCond .ne 6, 3)) none)) (cond (Nat.beq pc 2) (some (.invokevirtual 79, 3)) none)) (cond (Nat.ble 1 pc) (cond (Nat.beq pc 1) (some (.iload_n 1, 1)) none) (cond (Nat.beq pc 0) (some (.aload_n 0, 1)) none)))))
def m_X6_last : jM := (6, yX6_last, cX6_last, 3, (some .int), fun pc => cond (Nat.ble 90 pc) none (jt_X6_last pc))
set_option maxRecDepth 100000 in
theorem dk_X6_last : ∀ pc q, m_X6_last.2.2.2.2.2 pc = some q → decode cX6_last pc = .ok q := jk_sound (N := 90) (t := jt_X6_last) (by decide +kernel)
set_option maxRecDepth 100000 in
theorem ok_X6_last : jok m_X6_last := ⟨dk_X6_last, jG_in 667 rfl rfl, jG_in 87 rfl rfl, by decide +kernel, by decide +kernel, by decide⟩
set_option maxRecDepth 100000 in
theorem vi_X6_last : jvirt m_X6_last := ⟨jG_in 665 rfl rfl, jG_in 666 rfl rfl⟩
def jt_X6_odds : Nat → Option (Instr × Nat) := fun pc => cond (Nat.ble 52 pc) (cond (Nat.ble 73 pc) (cond (Nat.ble 87 pc) (cond (Nat.ble 94 pc) (cond (Nat.ble 95 pc) (cond (Nat.ble 98 pc) (cond (Nat.beq pc 98) (some (.lreturn, 1)) none) (cond (Nat.beq pc 95) (some (.invokestatic 205, 3)) none)) (cond (Nat.beq pc 94) (some (.iload_n 3, 1)) none)) (cond (Nat.ble 90 pc) (cond (Nat.ble 92 pc) (cond (Nat.beq pc 92) (some (.bipush 12, 2)) none) (cond (Nat.beq pc 90) (some (.iload 4, 2)) none)) (cond (Nat.beq pc 87) (some (.goto (-29), 3)) none))) (cond (Nat.ble 78 pc) (cond (Nat.ble 81 pc) (cond (Nat.ble 84 pc) (cond (Nat.beq pc 84) (some (.iinc 5 1, 3)) none) (cond (Nat.beq pc 81) (some (.iinc 4 1, 3)) none)) (cond (Nat.beq pc 78) (some (.if_icmp .lt 6, 3)) none)) (cond (Nat.ble 76 pc) (cond (Nat.ble 77 pc) (cond (Nat.beq pc 77) (some (.iaload, 1)) none) (cond (Nat.beq pc 76) (some (.iload_n 2, 1)) none)) (cond (Nat.beq pc 73) (some (.getfield 11, 3)) none)))) (cond (Nat.ble 62 pc) (cond (Nat.ble 69 pc) (cond (Nat.ble 71 pc) (cond (Nat.ble 72 pc) (cond (Nat.beq pc 72) (some (.aload_n 0, 1)) none) (cond (Nat.beq pc 71) (some (.iaload, 1)) none)) (cond (Nat.beq pc 69) (some (.iload 5, 2)) none)) (cond (Nat.ble 65 pc) (cond (Nat.ble 66 pc) (cond (Nat.beq pc 66) (some (.getfield 11, 3)) none) (cond (Nat.beq pc 65) (some (.aload_n 0, 1)) none)) (cond (Nat.beq pc 62) (some (.if_icmp .ge 28, 3)) none))) (cond (Nat.ble 56 pc) (cond (Nat.ble 58 pc) (cond (Nat.ble 60 pc) (cond (Nat.beq pc 60) (some (.bipush 12, 2)) none) (cond (Nat.beq pc 58) (some (.iload 5, 2)) none)) (cond (Nat.beq pc 56) (some (.istore 5, 2)) none)) (cond (Nat.ble 53 pc) (cond (Nat.ble 55 pc) (cond (Nat.beq pc 55) (some (.iconst 0, 1)) none) (cond (Nat.beq pc 53) (some (.istore 4, 2)) none)) (cond (Nat.beq pc 52) (some (.iconst 0, 1)) none))))) (cond (Nat.ble 24 pc) (cond (Nat.ble 38 pc) (cond (Nat.ble 43 pc) (cond (Nat.ble 46 pc) (cond (Nat.ble 49 pc) (cond (Nat.beq pc 49) (some (.invokevirtual 192, 3)) none) (cond (Nat.beq pc 46) (some (.getfield 87, 3)) none)) (cond (Nat.beq pc 43) (some (.getfield 83, 3)) none)) (cond (Nat.ble 39 pc) (cond (Nat.ble 40 pc) (cond (Nat.beq pc 40) (some (.getfield 47, 3)) none) (cond (Nat.beq pc 39) (some (.aload_n 0, 1)) none)) (cond (Nat.beq pc 38) (some (.iload_n 1, 1)) none))) (cond (Nat.ble 31 pc) (cond (Nat.ble 32 pc) (cond (Nat.ble 35 pc) (cond (Nat.beq pc 35) (some (.getfield 103, 3)) none) (cond (Nat.beq pc 32) (some (.getfield 54, 3)) none)) (cond (Nat.beq pc 31) (some (.aload_n 0, 1)) none)) (cond (Nat.ble 27 pc) (cond (Nat.ble 30 pc) (cond (Nat.beq pc 30) (some (.aload_n 0, 1)) none) (cond (Nat.beq pc 27) (some (.invokevirtual 185, 3)) none)) (cond (Nat.beq pc 24) (some (.getfield 47, 3)) none)))) (cond (Nat.ble 12 pc) (cond (Nat.ble 19 pc) (cond (Nat.ble 20 pc) (cond (Nat.ble 23 pc) (cond (Nat.beq pc 23) (some (.aload_n 0, 1)) none) (cond (Nat.beq pc 20) (some (.getfield 54, 3)) none)) (cond (Nat.beq pc 19) (some (.aload_n 0, 1)) none)) (cond (Nat.ble 15 pc) (cond (Nat.ble 18 pc) (cond (Nat.beq pc 18) (some (.lreturn, 1)) none) (cond (Nat.beq pc 15) (some (.ldc2_w 203, 3)) none)) (cond (Nat.beq pc 12) (some (.ifCond .ne 7, 3)) none))) (cond (Nat.ble 5 pc) (cond (Nat.ble 8 pc) (cond (Nat.ble 9 pc) (cond (Nat.beq pc 9) (some (.invokestatic 67, 3)) none) (cond (Nat.beq pc 8) (some (.iload_n 2, 1)) none)) (cond (Nat.beq pc 5) (some (.ifCond .eq 10, 3)) none)) (cond (Nat.ble 1 pc) (cond (Nat.ble 2 pc) (cond (Nat.beq pc 2) (some (.invokevirtual 79, 3)) none) (cond (Nat.beq pc 1) (some (.iload_n 1, 1)) none)) (cond (Nat.beq pc 0) (some (.aload_n 0, 1)) none)))))
def m_X6_odds : jM := (6, yX6_odds, cX6_odds, 6, (some .long), fun pc => cond (Nat.ble 99 pc) none (jt_X6_odds pc))
set_option maxRecDepth 100000 in
theorem dk_X6_odds : ∀ pc q, m_X6_odds.2.2.2.2.2 pc = some q → decode cX6_odds pc = .ok q := jk_sound (N := 99) (t := jt_X6_odds) (by decide +kernel)
set_option maxRecDepth 100000 in
theorem ok_X6_odds : jok m_X6_odds := ⟨dk_X6_odds, jG_in 671 rfl rfl, jG_in 87 rfl rfl, by decide +kernel, by decide +kernel, by decide⟩
set_option maxRecDepth 100000 in
theorem vi_X6_odds : jvirt m_X6_odds := ⟨jG_in 669 rfl rfl, jG_in 670 rfl rfl⟩
def jt_X6_mean : Nat → Option (Instr × Nat) := fun pc => cond (Nat.ble 33 pc) (cond (Nat.ble 54 pc) (cond (Nat.ble 60 pc) (cond (Nat.ble 64 pc) (cond (Nat.ble 65 pc) (cond (Nat.ble 68 pc) (cond (Nat.beq pc 68) (some (.lreturn, 1)) none) (cond (Nat.beq pc 65) (some (.invokestatic 205, 3)) none)) (cond (Nat.beq pc 64) (some (.iload_n 1, 1)) none)) (cond (Nat.ble 63 pc) (cond (Nat.beq pc 63) (some (.iload_n 2, 1)) none) (cond (Nat.beq pc 60) (some (.invokevirtual 199, 3)) none))) (cond (Nat.ble 56 pc) (cond (Nat.ble 59 pc) (cond (Nat.beq pc 59) (some (.iconst (-1), 1)) none) (cond (Nat.beq pc 56) (some (.getfield 47, 3)) none)) (cond (Nat.ble 55 pc) (cond (Nat.beq pc 55) (some (.aload_n 0, 1)) none) (cond (Nat.beq pc 54) (some (.aload_n 0, 1)) none)))) (cond (Nat.ble 41 pc) (cond (Nat.ble 45 pc) (cond (Nat.ble 48 pc) (cond (Nat.ble 51 pc) (cond (Nat.beq pc 51) (some (.invokevirtual 182, 3)) none) (cond (Nat.beq pc 48) (some (.getfield 87, 3)) none)) (cond (Nat.beq pc 45) (some (.getfield 83, 3)) none)) (cond (Nat.ble 42 pc) (cond (Nat.beq pc 42) (some (.getfield 47, 3)) none) (cond (Nat.beq pc 41) (some (.aload_n 0, 1)) none))) (cond (Nat.ble 37 pc) (cond (Nat.ble 38 pc) (cond (Nat.beq pc 38) (some (.getfield 47, 3)) none) (cond (Nat.beq pc 37) (some (.aload_n 0, 1)) none)) (cond (Nat.ble 36 pc) (cond (Nat.beq pc 36) (some (.aload_n 0, 1)) none) (cond (Nat.beq pc 33) (some (.goto (-29), 3)) none))))) (cond (Nat.ble 12 pc) (cond (Nat.ble 22 pc) (cond (Nat.ble 24 pc) (cond (Nat.ble 27 pc) (cond (Nat.ble 30 pc) (cond (Nat.beq pc 30) (some (.iinc 3 1, 3)) none) (cond (Nat.beq pc 27) (some (.iinc 2 1, 3)) none)) (cond (Nat.beq pc 24) (some (.ifCond .eq 6, 3)) none)) (cond (Nat.ble 23 pc) (cond (Nat.beq pc 23) (some (.baload, 1)) none) (cond (Nat.beq pc 22) (some (.iload_n 3, 1)) none))) (cond (Nat.ble 16 pc) (cond (Nat.ble 19 pc) (cond (Nat.beq pc 19) (some (.getfield 109, 3)) none) (cond (Nat.beq pc 16) (some (.getfield 47, 3)) none)) (cond (Nat.ble 15 pc) (cond (Nat.beq pc 15) (some (.aload_n 0, 1)) none) (cond (Nat.beq pc 12) (some (.if_icmp .ge 24, 3)) none)))) (cond (Nat.ble 4 pc) (cond (Nat.ble 6 pc) (cond (Nat.ble 9 pc) (cond (Nat.beq pc 9) (some (.getfield 71, 3)) none) (cond (Nat.beq pc 6) (some (.getfield 47, 3)) none)) (cond (Nat.ble 5 pc) (cond (Nat.beq pc 5) (some (.aload_n 0, 1)) none) (cond (Nat.beq pc 4) (some (.iload_n 3, 1)) none))) (cond (Nat.ble 2 pc) (cond (Nat.ble 3 pc) (cond (Nat.beq pc 3) (some (.istore_n 3, 1)) none) (cond (Nat.beq pc 2) (some (.iconst 0, 1)) none)) (cond (Nat.ble 1 pc) (cond (Nat.beq pc 1) (some (.istore_n 2, 1)) none) (cond (Nat.beq pc 0) (some (.iconst 0, 1)) none)))))
def m_X6_mean : jM := (6, yX6_mean, cX6_mean, 4, (some .long), fun pc => cond (Nat.ble 69 pc) none (jt_X6_mean pc))
set_option maxRecDepth 100000 in
theorem dk_X6_mean : ∀ pc q, m_X6_mean.2.2.2.2.2 pc = some q → decode cX6_mean pc = .ok q := jk_sound (N := 69) (t := jt_X6_mean) (by decide +kernel)
set_option maxRecDepth 100000 in
theorem ok_X6_mean : jok m_X6_mean := ⟨dk_X6_mean, jG_in 679 rfl rfl, jG_in 87 rfl rfl, by decide +kernel, by decide +kernel, by decide⟩
set_option maxRecDepth 100000 in
theorem vi_X6_mean : jvirt m_X6_mean := ⟨jG_in 677 rfl rfl, jG_in 678 rfl rfl⟩
def jt_X6_book : Nat → Option (Instr × Nat) := fun pc => cond (Nat.ble 43 pc) (cond (Nat.ble 65 pc) (cond (Nat.ble 74 pc) (cond (Nat.ble 79 pc) (cond (Nat.ble 82 pc) (cond (Nat.ble 85 pc) (cond (Nat.beq pc 85) (some (.ireturn, 1)) none) (cond (Nat.beq pc 82) (some (.getfield 209, 3)) none)) (cond (Nat.beq pc 79) (some (.getfield 47, 3)) none)) (cond (Nat.ble 75 pc) (cond (Nat.ble 78 pc) (cond (Nat.beq pc 78) (some (.aload_n 0, 1)) none) (cond (Nat.beq pc 75) (some (.putfield 209, 3)) none)) (cond (Nat.beq pc 74) (some (.iadd, 1)) none))) (cond (Nat.ble 69 pc) (cond (Nat.ble 70 pc) (cond (Nat.ble 73 pc) (cond (Nat.beq pc 73) (some (.iconst 1, 1)) none) (cond (Nat.beq pc 70) (some (.getfield 209, 3)) none)) (cond (Nat.beq pc 69) (some (.dup, 1)) none)) (cond (Nat.ble 66 pc) (cond (Nat.beq pc 66) (some (.getfield 47, 3)) none) (cond (Nat.beq pc 65) (some (.aload_n 0, 1)) none)))) (cond (Nat.ble 53 pc) (cond (Nat.ble 60 pc) (cond (Nat.ble 63 pc) (cond (Nat.ble 64 pc) (cond (Nat.beq pc 64) (some (.iastore, 1)) none) (cond (Nat.beq pc 63) (some (.iload_n 1, 1)) none)) (cond (Nat.beq pc 60) (some (.getfield 209, 3)) none)) (cond (Nat.ble 56 pc) (cond (Nat.ble 57 pc) (cond (Nat.beq pc 57) (some (.getfield 47, 3)) none) (cond (Nat.beq pc 56) (some (.aload_n 0, 1)) none)) (cond (Nat.beq pc 53) (some (.getfield 212, 3)) none))) (cond (Nat.ble 48 pc) (cond (Nat.ble 49 pc) (cond (Nat.ble 50 pc) (cond (Nat.beq pc 50) (some (.getfield 47, 3)) none) (cond (Nat.beq pc 49) (some (.aload_n 0, 1)) none)) (cond (Nat.beq pc 48) (some (.ireturn, 1)) none)) (cond (Nat.ble 46 pc) (cond (Nat.beq pc 46) (some (.bipush (-4), 2)) none) (cond (Nat.beq pc 43) (some (.if_icmp .lt 6, 3)) none))))) (cond (Nat.ble 18 pc) (cond (Nat.ble 31 pc) (cond (Nat.ble 35 pc) (cond (Nat.ble 38 pc) (cond (Nat.ble 41 pc) (cond (Nat.beq pc 41) (some (.bipush 12, 2)) none) (cond (Nat.beq pc 38) (some (.getfield 209, 3)) none)) (cond (Nat.beq pc 35) (some (.getfield 47, 3)) none)) (cond (Nat.ble 33 pc) (cond (Nat.ble 34 pc) (cond (Nat.beq pc 34) (some (.aload_n 0, 1)) none) (cond (Nat.beq pc 33) (some (.ireturn, 1)) none)) (cond (Nat.beq pc 31) (some (.bipush (-2), 2)) none))) (cond (Nat.ble 24 pc) (cond (Nat.ble 25 pc) (cond (Nat.ble 28 pc) (cond (Nat.beq pc 28) (some (.if_icmp .le 6, 3)) none) (cond (Nat.beq pc 25) (some (.sipush 9999, 3)) none)) (cond (Nat.beq pc 24) (some (.iload_n 1, 1)) none)) (cond (Nat.ble 21 pc) (cond (Nat.beq pc 21) (some (.if_icmp .lt 10, 3)) none) (cond (Nat.beq pc 18) (some (.sipush (-9999), 3)) none)))) (cond (Nat.ble 11 pc) (cond (Nat.ble 15 pc) (cond (Nat.ble 16 pc) (cond (Nat.ble 17 pc) (cond (Nat.beq pc 17) (some (.iload_n 1, 1)) none) (cond (Nat.beq pc 16) (some (.ireturn, 1)) none)) (cond (Nat.beq pc 15) (some (.iconst 0, 1)) none)) (cond (Nat.ble 12 pc) (cond (Nat.beq pc 12) (some (.putfield 209, 3)) none) (cond (Nat.beq pc 11) (some (.iconst 0, 1)) none))) (cond (Nat.ble 4 pc) (cond (Nat.ble 7 pc) (cond (Nat.ble 8 pc) (cond (Nat.beq pc 8) (some (.getfield 47, 3)) none) (cond (Nat.beq pc 7) (some (.aload_n 0, 1)) none)) (cond (Nat.beq pc 4) (some (.if_icmp .ne 13, 3)) none)) (cond (Nat.ble 1 pc) (cond (Nat.beq pc 1) (some (.sipush (-10000), 3)) none) (cond (Nat.beq pc 0) (some (.iload_n 1, 1)) none)))))
def m_X6_book : jM := (6, yX6_book, cX6_book, 2, (some .int), fun pc => cond (Nat.ble 86 pc) none (jt_X6_book pc))
set_option maxRecDepth 100000 in
theorem dk_X6_book : ∀ pc q, m_X6_book.2.2.2.2.2 pc = some q → decode cX6_book pc = .ok q := jk_sound (N := 86) (t := jt_X6_book) (by decide +kernel)
set_option maxRecDepth 100000 in
theorem ok_X6_book : jok m_X6_book := ⟨dk_X6_book, jG_in 683 rfl rfl, jG_in 87 rfl rfl, by decide +kernel, by decide +kernel, by decide⟩
set_option maxRecDepth 100000 in
theorem vi_X6_book : jvirt m_X6_book := ⟨jG_in 681 rfl rfl, jG_in 682 rfl rfl⟩
def jt_X6_looked : Nat → Option (Instr × Nat) := fun pc => cond (Nat.ble 60 pc) (cond (Nat.ble 87 pc) (cond (Nat.ble 100 pc) (cond (Nat.ble 106 pc) (cond (Nat.ble 112 pc) (cond (Nat.ble 114 pc) (cond (Nat.beq pc 114) (some (.ireturn, 1)) none) (cond (Nat.beq pc 112) (some (.bipush (-5), 2)) none)) (cond (Nat.ble 109 pc) (cond (Nat.beq pc 109) (some (.goto (-60), 3)) none) (cond (Nat.beq pc 106) (some (.iinc 2 1, 3)) none))) (cond (Nat.ble 104 pc) (cond (Nat.ble 105 pc) (cond (Nat.beq pc 105) (some (.ireturn, 1)) none) (cond (Nat.beq pc 104) (some (.iload_n 2, 1)) none)) (cond (Nat.ble 101 pc) (cond (Nat.beq pc 101) (some (.if_icmp .le 5, 3)) none) (cond (Nat.beq pc 100) (some (.iload_n 1, 1)) none)))) (cond (Nat.ble 94 pc) (cond (Nat.ble 96 pc) (cond (Nat.ble 97 pc) (cond (Nat.beq pc 97) (some (.invokestatic 215, 3)) none) (cond (Nat.beq pc 96) (some (.isub, 1)) none)) (cond (Nat.ble 95 pc) (cond (Nat.beq pc 95) (some (.iaload, 1)) none) (cond (Nat.beq pc 94) (some (.iconst 0, 1)) none))) (cond (Nat.ble 88 pc) (cond (Nat.ble 91 pc) (cond (Nat.beq pc 91) (some (.getfield 170, 3)) none) (cond (Nat.beq pc 88) (some (.getfield 62, 3)) none)) (cond (Nat.beq pc 87) (some (.aload_n 0, 1)) none)))) (cond (Nat.ble 75 pc) (cond (Nat.ble 81 pc) (cond (Nat.ble 85 pc) (cond (Nat.ble 86 pc) (cond (Nat.beq pc 86) (some (.isub, 1)) none) (cond (Nat.beq pc 85) (some (.iaload, 1)) none)) (cond (Nat.ble 84 pc) (cond (Nat.beq pc 84) (some (.iconst 0, 1)) none) (cond (Nat.beq pc 81) (some (.getfield 121, 3)) none))) (cond (Nat.ble 77 pc) (cond (Nat.ble 78 pc) (cond (Nat.beq pc 78) (some (.getfield 47, 3)) none) (cond (Nat.beq pc 77) (some (.aload_n 0, 1)) none)) (cond (Nat.ble 76 pc) (cond (Nat.beq pc 76) (some (.iaload, 1)) none) (cond (Nat.beq pc 75) (some (.iload_n 2, 1)) none)))) (cond (Nat.ble 65 pc) (cond (Nat.ble 69 pc) (cond (Nat.ble 72 pc) (cond (Nat.beq pc 72) (some (.getfield 212, 3)) none) (cond (Nat.beq pc 69) (some (.getfield 47, 3)) none)) (cond (Nat.ble 68 pc) (cond (Nat.beq pc 68) (some (.aload_n 0, 1)) none) (cond (Nat.beq pc 65) (some (.invokevirtual 166, 3)) none))) (cond (Nat.ble 61 pc) (cond (Nat.ble 64 pc) (cond (Nat.beq pc 64) (some (.iconst 1, 1)) none) (cond (Nat.beq pc 61) (some (.getfield 62, 3)) none)) (cond (Nat.beq pc 60) (some (.aload_n 0, 1)) none))))) (cond (Nat.ble 27 pc) (cond (Nat.ble 44 pc) (cond (Nat.ble 50 pc) (cond (Nat.ble 54 pc) (cond (Nat.ble 57 pc) (cond (Nat.beq pc 57) (some (.if_icmp .ge 55, 3)) none) (cond (Nat.beq pc 54) (some (.getfield 209, 3)) none)) (cond (Nat.ble 51 pc) (cond (Nat.beq pc 51) (some (.getfield 47, 3)) none) (cond (Nat.beq pc 50) (some (.aload_n 0, 1)) none))) (cond (Nat.ble 48 pc) (cond (Nat.ble 49 pc) (cond (Nat.beq pc 49) (some (.iload_n 2, 1)) none) (cond (Nat.beq pc 48) (some (.istore_n 2, 1)) none)) (cond (Nat.ble 47 pc) (cond (Nat.beq pc 47) (some (.iconst 0, 1)) none) (cond (Nat.beq pc 44) (some (.invokevirtual 90, 3)) none)))) (cond (Nat.ble 34 pc) (cond (Nat.ble 38 pc) (cond (Nat.ble 41 pc) (cond (Nat.beq pc 41) (some (.getfield 87, 3)) none) (cond (Nat.beq pc 38) (some (.getfield 83, 3)) none)) (cond (Nat.ble 35 pc) (cond (Nat.beq pc 35) (some (.getfield 47, 3)) none) (cond (Nat.beq pc 34) (some (.aload_n 0, 1)) none))) (cond (Nat.ble 30 pc) (cond (Nat.ble 31 pc) (cond (Nat.beq pc 31) (some (.getfield 47, 3)) none) (cond (Nat.beq pc 30) (some (.aload_n 0, 1)) none)) (cond (Nat.beq pc 27) (some (.getfield 62, 3)) none)))) (cond (Nat.ble 13 pc) (cond (Nat.ble 20 pc) (cond (Nat.ble 25 pc) (cond (Nat.ble 26 pc) (cond (Nat.beq pc 26) (some (.aload_n 0, 1)) none) (cond (Nat.beq pc 25) (some (.ireturn, 1)) none)) (cond (Nat.ble 23 pc) (cond (Nat.beq pc 23) (some (.bipush (-3), 2)) none) (cond (Nat.beq pc 20) (some (.ifCond .ne 6, 3)) none))) (cond (Nat.ble 14 pc) (cond (Nat.ble 17 pc) (cond (Nat.beq pc 17) (some (.getfield 71, 3)) none) (cond (Nat.beq pc 14) (some (.getfield 47, 3)) none)) (cond (Nat.beq pc 13) (some (.aload_n 0, 1)) none))) (cond (Nat.ble 5 pc) (cond (Nat.ble 10 pc) (cond (Nat.ble 12 pc) (cond (Nat.beq pc 12) (some (.ireturn, 1)) none) (cond (Nat.beq pc 10) (some (.bipush (-2), 2)) none)) (cond (Nat.ble 7 pc) (cond (Nat.beq pc 7) (some (.if_icmp .le 6, 3)) none) (cond (Nat.beq pc 5) (some (.bipush 99, 2)) none))) (cond (Nat.ble 1 pc) (cond (Nat.ble 4 pc) (cond (Nat.beq pc 4) (some (.iload_n 1, 1)) none) (cond (Nat.beq pc 1) (some (.ifCond .lt 9, 3)) none)) (cond (Nat.beq pc 0) (some (.iload_n 1, 1)) none)))))
def m_X6_looked : jM := (6, yX6_looked, cX6_looked, 3, (some .int), fun pc => cond (Nat.ble 115 pc) none (jt_X6_looked pc))
set_option maxRecDepth 100000 in
theorem dk_X6_looked : ∀ pc q, m_X6_looked.2.2.2.2.2 pc = some q → decode cX6_looked pc = .ok q := jk_sound (N := 115) (t := jt_X6_looked) (by decide +kernel)
set_option maxRecDepth 100000 in
theorem ok_X6_looked : jok m_X6_looked := ⟨dk_X6_looked, jG_in 687 rfl rfl, jG_in 87 rfl rfl, by decide +kernel, by decide +kernel, by decide⟩
set_option maxRecDepth 100000 in
theorem vi_X6_looked : jvirt m_X6_looked := ⟨jG_in 685 rfl rfl, jG_in 686 rfl rfl⟩
def jt_X6_judge : Nat → Option (Instr × Nat) := fun pc => cond (Nat.ble 54 pc) (cond (Nat.ble 79 pc) (cond (Nat.ble 91 pc) (cond (Nat.ble 98 pc) (cond (Nat.ble 104 pc) (cond (Nat.ble 106 pc) (cond (Nat.beq pc 106) (some (.ireturn, 1)) none) (cond (Nat.beq pc 104) (some (.bipush (-5), 2)) none)) (cond (Nat.ble 101 pc) (cond (Nat.beq pc 101) (some (.goto (-63), 3)) none) (cond (Nat.beq pc 98) (some (.iinc 4 1, 3)) none))) (cond (Nat.ble 95 pc) (cond (Nat.ble 97 pc) (cond (Nat.beq pc 97) (some (.ireturn, 1)) none) (cond (Nat.beq pc 95) (some (.iload 4, 2)) none)) (cond (Nat.ble 92 pc) (cond (Nat.beq pc 92) (some (.ifCond .eq 6, 3)) none) (cond (Nat.beq pc 91) (some (.lcmp, 1)) none)))) (cond (Nat.ble 84 pc) (cond (Nat.ble 89 pc) (cond (Nat.ble 90 pc) (cond (Nat.beq pc 90) (some (.i2l, 1)) none) (cond (Nat.beq pc 89) (some (.iaload, 1)) none)) (cond (Nat.ble 87 pc) (cond (Nat.beq pc 87) (some (.iload 4, 2)) none) (cond (Nat.beq pc 84) (some (.getfield 121, 3)) none))) (cond (Nat.ble 80 pc) (cond (Nat.ble 81 pc) (cond (Nat.beq pc 81) (some (.getfield 47, 3)) none) (cond (Nat.beq pc 80) (some (.aload_n 0, 1)) none)) (cond (Nat.beq pc 79) (some (.laload, 1)) none)))) (cond (Nat.ble 67 pc) (cond (Nat.ble 72 pc) (cond (Nat.ble 76 pc) (cond (Nat.ble 78 pc) (cond (Nat.beq pc 78) (some (.iadd, 1)) none) (cond (Nat.beq pc 76) (some (.iload 4, 2)) none)) (cond (Nat.ble 75 pc) (cond (Nat.beq pc 75) (some (.iload_n 2, 1)) none) (cond (Nat.beq pc 72) (some (.getfield 227, 3)) none))) (cond (Nat.ble 70 pc) (cond (Nat.ble 71 pc) (cond (Nat.beq pc 71) (some (.aload_n 3, 1)) none) (cond (Nat.beq pc 70) (some (.ireturn, 1)) none)) (cond (Nat.ble 69 pc) (cond (Nat.beq pc 69) (some (.iadd, 1)) none) (cond (Nat.beq pc 67) (some (.iload 4, 2)) none)))) (cond (Nat.ble 59 pc) (cond (Nat.ble 62 pc) (cond (Nat.ble 65 pc) (cond (Nat.beq pc 65) (some (.bipush 100, 2)) none) (cond (Nat.beq pc 62) (some (.if_icmp .lt 9, 3)) none)) (cond (Nat.ble 61 pc) (cond (Nat.beq pc 61) (some (.isub, 1)) none) (cond (Nat.beq pc 59) (some (.iload 4, 2)) none))) (cond (Nat.ble 55 pc) (cond (Nat.ble 56 pc) (cond (Nat.beq pc 56) (some (.getfield 226, 3)) none) (cond (Nat.beq pc 55) (some (.aload_n 3, 1)) none)) (cond (Nat.beq pc 54) (some (.iload_n 2, 1)) none))))) (cond (Nat.ble 24 pc) (cond (Nat.ble 36 pc) (cond (Nat.ble 44 pc) (cond (Nat.ble 50 pc) (cond (Nat.ble 51 pc) (cond (Nat.beq pc 51) (some (.ifCond .lt 14, 3)) none) (cond (Nat.beq pc 50) (some (.iload_n 2, 1)) none)) (cond (Nat.ble 47 pc) (cond (Nat.beq pc 47) (some (.if_icmp .ge 57, 3)) none) (cond (Nat.beq pc 44) (some (.getfield 71, 3)) none))) (cond (Nat.ble 40 pc) (cond (Nat.ble 41 pc) (cond (Nat.beq pc 41) (some (.getfield 47, 3)) none) (cond (Nat.beq pc 40) (some (.aload_n 0, 1)) none)) (cond (Nat.ble 38 pc) (cond (Nat.beq pc 38) (some (.iload 4, 2)) none) (cond (Nat.beq pc 36) (some (.istore 4, 2)) none)))) (cond (Nat.ble 29 pc) (cond (Nat.ble 34 pc) (cond (Nat.ble 35 pc) (cond (Nat.beq pc 35) (some (.iconst 0, 1)) none) (cond (Nat.beq pc 34) (some (.ireturn, 1)) none)) (cond (Nat.ble 32 pc) (cond (Nat.beq pc 32) (some (.bipush (-12), 2)) none) (cond (Nat.beq pc 29) (some (.if_icmp .eq 6, 3)) none))) (cond (Nat.ble 25 pc) (cond (Nat.ble 28 pc) (cond (Nat.beq pc 28) (some (.iconst 3, 1)) none) (cond (Nat.beq pc 25) (some (.getfield 223, 3)) none)) (cond (Nat.beq pc 24) (some (.aload_n 3, 1)) none)))) (cond (Nat.ble 13 pc) (cond (Nat.ble 16 pc) (cond (Nat.ble 20 pc) (cond (Nat.ble 21 pc) (cond (Nat.beq pc 21) (some (.if_icmp .eq 14, 3)) none) (cond (Nat.beq pc 20) (some (.iconst (-1), 1)) none)) (cond (Nat.ble 17 pc) (cond (Nat.beq pc 17) (some (.getfield 223, 3)) none) (cond (Nat.beq pc 16) (some (.aload_n 3, 1)) none))) (cond (Nat.ble 14 pc) (cond (Nat.ble 15 pc) (cond (Nat.beq pc 15) (some (.astore_n 3, 1)) none) (cond (Nat.beq pc 14) (some (.aaload, 1)) none)) (cond (Nat.beq pc 13) (some (.iload_n 1, 1)) none))) (cond (Nat.ble 7 pc) (cond (Nat.ble 9 pc) (cond (Nat.ble 10 pc) (cond (Nat.beq pc 10) (some (.getfield 37, 3)) none) (cond (Nat.beq pc 9) (some (.aload_n 0, 1)) none)) (cond (Nat.ble 8 pc) (cond (Nat.beq pc 8) (some (.ireturn, 1)) none) (cond (Nat.beq pc 7) (some (.iconst (-1), 1)) none))) (cond (Nat.ble 1 pc) (cond (Nat.ble 4 pc) (cond (Nat.beq pc 4) (some (.ifCond .ne 5, 3)) none) (cond (Nat.beq pc 1) (some (.invokestatic 220, 3)) none)) (cond (Nat.beq pc 0) (some (.iload_n 1, 1)) none)))))
def m_X6_judge : jM := (6, yX6_judge, cX6_judge, 5, (some .int), fun pc => cond (Nat.ble 107 pc) none (jt_X6_judge pc))
set_option maxRecDepth 100000 in
theorem dk_X6_judge : ∀ pc q, m_X6_judge.2.2.2.2.2 pc = some q → decode cX6_judge pc = .ok q := jk_sound (N := 107) (t := jt_X6_judge) (by decide +kernel)
set_option maxRecDepth 100000 in
theorem ok_X6_judge : jok m_X6_judge := ⟨dk_X6_judge, jG_in 694 rfl rfl, jG_in 87 rfl rfl, by decide +kernel, by decide +kernel, by decide⟩
set_option maxRecDepth 100000 in
theorem vi_X6_judge : jvirt m_X6_judge := ⟨jG_in 692 rfl rfl, jG_in 693 rfl rfl⟩
def jt_X6_image : Nat → Option (Instr × Nat) := fun pc => cond (Nat.ble 12 pc) (cond (Nat.ble 17 pc) (cond (Nat.ble 20 pc) (cond (Nat.ble 23 pc) (cond (Nat.beq pc 23) (some (.ireturn, 1)) none) (cond (Nat.beq pc 20) (some (.getfield 71, 3)) none)) (cond (Nat.beq pc 17) (some (.getfield 51, 3)) none)) (cond (Nat.ble 13 pc) (cond (Nat.ble 16 pc) (cond (Nat.beq pc 16) (some (.aload_n 0, 1)) none) (cond (Nat.beq pc 13) (some (.putfield 231, 3)) none)) (cond (Nat.beq pc 12) (some (.iconst 1, 1)) none))) (cond (Nat.ble 5 pc) (cond (Nat.ble 8 pc) (cond (Nat.ble 11 pc) (cond (Nat.beq pc 11) (some (.aload_n 0, 1)) none) (cond (Nat.beq pc 8) (some (.invokevirtual 185, 3)) none)) (cond (Nat.beq pc 5) (some (.getfield 47, 3)) none)) (cond (Nat.ble 1 pc) (cond (Nat.ble 4 pc) (cond (Nat.beq pc 4) (some (.aload_n 0, 1)) none) (cond (Nat.beq pc 1) (some (.getfield 51, 3)) none)) (cond (Nat.beq pc 0) (some (.aload_n 0, 1)) none)))
def m_X6_image : jM := (6, yX6_image, cX6_image, 1, (some .int), fun pc => cond (Nat.ble 24 pc) none (jt_X6_image pc))
set_option maxRecDepth 100000 in
theorem dk_X6_image : ∀ pc q, m_X6_image.2.2.2.2.2 pc = some q → decode cX6_image pc = .ok q := jk_sound (N := 24) (t := jt_X6_image) (by decide +kernel)
set_option maxRecDepth 100000 in
theorem ok_X6_image : jok m_X6_image := ⟨dk_X6_image, jG_in 701 rfl rfl, jG_in 87 rfl rfl, by decide +kernel, by decide +kernel, by decide⟩
set_option maxRecDepth 100000 in
theorem vi_X6_image : jvirt m_X6_image := ⟨jG_in 699 rfl rfl, jG_in 700 rfl rfl⟩
def jt_X6_undo : Nat → Option (Instr × Nat) := fun pc => cond (Nat.ble 14 pc) (cond (Nat.ble 21 pc) (cond (Nat.ble 25 pc) (cond (Nat.ble 28 pc) (cond (Nat.beq pc 28) (some (.ireturn, 1)) none) (cond (Nat.beq pc 25) (some (.getfield 71, 3)) none)) (cond (Nat.ble 22 pc) (cond (Nat.beq pc 22) (some (.getfield 47, 3)) none) (cond (Nat.beq pc 21) (some (.aload_n 0, 1)) none))) (cond (Nat.ble 15 pc) (cond (Nat.ble 18 pc) (cond (Nat.beq pc 18) (some (.invokevirtual 185, 3)) none) (cond (Nat.beq pc 15) (some (.getfield 51, 3)) none)) (cond (Nat.beq pc 14) (some (.aload_n 0, 1)) none))) (cond (Nat.ble 7 pc) (cond (Nat.ble 10 pc) (cond (Nat.ble 11 pc) (cond (Nat.beq pc 11) (some (.getfield 47, 3)) none) (cond (Nat.beq pc 10) (some (.aload_n 0, 1)) none)) (cond (Nat.ble 9 pc) (cond (Nat.beq pc 9) (some (.ireturn, 1)) none) (cond (Nat.beq pc 7) (some (.bipush (-3), 2)) none))) (cond (Nat.ble 1 pc) (cond (Nat.ble 4 pc) (cond (Nat.beq pc 4) (some (.ifCond .ne 6, 3)) none) (cond (Nat.beq pc 1) (some (.getfield 231, 3)) none)) (cond (Nat.beq pc 0) (some (.aload_n 0, 1)) none)))
def m_X6_undo : jM := (6, yX6_undo, cX6_undo, 1, (some .int), fun pc => cond (Nat.ble 29 pc) none (jt_X6_undo pc))
set_option maxRecDepth 100000 in
theorem dk_X6_undo : ∀ pc q, m_X6_undo.2.2.2.2.2 pc = some q → decode cX6_undo pc = .ok q := jk_sound (N := 29) (t := jt_X6_undo) (by decide +kernel)
set_option maxRecDepth 100000 in
theorem ok_X6_undo : jok m_X6_undo := ⟨dk_X6_undo, jG_in 705 rfl rfl, jG_in 87 rfl rfl, by decide +kernel, by decide +kernel, by decide⟩
set_option maxRecDepth 100000 in
theorem vi_X6_undo : jvirt m_X6_undo := ⟨jG_in 703 rfl rfl, jG_in 704 rfl rfl⟩
def jt_X6_act : Nat → Option (Instr × Nat) := fun pc => cond (Nat.ble 27 pc) (cond (Nat.ble 40 pc) (cond (Nat.ble 48 pc) (cond (Nat.ble 50 pc) (cond (Nat.ble 53 pc) (cond (Nat.beq pc 53) (some (.ireturn, 1)) none) (cond (Nat.beq pc 50) (some (.invokevirtual 242, 3)) none)) (cond (Nat.ble 49 pc) (cond (Nat.beq pc 49) (some (.iload_n 3, 1)) none) (cond (Nat.beq pc 48) (some (.iload_n 2, 1)) none))) (cond (Nat.ble 44 pc) (cond (Nat.ble 45 pc) (cond (Nat.beq pc 45) (some (.getfield 31, 3)) none) (cond (Nat.beq pc 44) (some (.aload_n 0, 1)) none)) (cond (Nat.ble 41 pc) (cond (Nat.beq pc 41) (some (.invokevirtual 238, 3)) none) (cond (Nat.beq pc 40) (some (.iaload, 1)) none)))) (cond (Nat.ble 32 pc) (cond (Nat.ble 36 pc) (cond (Nat.ble 39 pc) (cond (Nat.beq pc 39) (some (.iload_n 1, 1)) none) (cond (Nat.beq pc 36) (some (.getfield 100, 3)) none)) (cond (Nat.ble 33 pc) (cond (Nat.beq pc 33) (some (.getfield 47, 3)) none) (cond (Nat.beq pc 32) (some (.aload_n 0, 1)) none))) (cond (Nat.ble 30 pc) (cond (Nat.ble 31 pc) (cond (Nat.beq pc 31) (some (.iaload, 1)) none) (cond (Nat.beq pc 30) (some (.iload_n 1, 1)) none)) (cond (Nat.beq pc 27) (some (.getfield 97, 3)) none)))) (cond (Nat.ble 13 pc) (cond (Nat.ble 19 pc) (cond (Nat.ble 23 pc) (cond (Nat.ble 24 pc) (cond (Nat.beq pc 24) (some (.getfield 47, 3)) none) (cond (Nat.beq pc 23) (some (.aload_n 0, 1)) none)) (cond (Nat.ble 22 pc) (cond (Nat.beq pc 22) (some (.iload_n 1, 1)) none) (cond (Nat.beq pc 19) (some (.getfield 31, 3)) none))) (cond (Nat.ble 17 pc) (cond (Nat.ble 18 pc) (cond (Nat.beq pc 18) (some (.aload_n 0, 1)) none) (cond (Nat.beq pc 17) (some (.ireturn, 1)) none)) (cond (Nat.ble 16 pc) (cond (Nat.beq pc 16) (some (.iconst 0, 1)) none) (cond (Nat.beq pc 13) (some (.ifCond .ne 5, 3)) none)))) (cond (Nat.ble 5 pc) (cond (Nat.ble 9 pc) (cond (Nat.ble 10 pc) (cond (Nat.beq pc 10) (some (.invokevirtual 79, 3)) none) (cond (Nat.beq pc 9) (some (.iload_n 1, 1)) none)) (cond (Nat.ble 8 pc) (cond (Nat.beq pc 8) (some (.aload_n 0, 1)) none) (cond (Nat.beq pc 5) (some (.putfield 235, 3)) none))) (cond (Nat.ble 1 pc) (cond (Nat.ble 4 pc) (cond (Nat.beq pc 4) (some (.iconst 0, 1)) none) (cond (Nat.beq pc 1) (some (.getfield 31, 3)) none)) (cond (Nat.beq pc 0) (some (.aload_n 0, 1)) none))))
def m_X6_act : jM := (6, yX6_act, cX6_act, 4, (some .int), fun pc => cond (Nat.ble 54 pc) none (jt_X6_act pc))
set_option maxRecDepth 100000 in
theorem dk_X6_act : ∀ pc q, m_X6_act.2.2.2.2.2 pc = some q → decode cX6_act pc = .ok q := jk_sound (N := 54) (t := jt_X6_act) (by decide +kernel)
set_option maxRecDepth 100000 in
theorem ok_X6_act : jok m_X6_act := ⟨dk_X6_act, jG_in 709 rfl rfl, jG_in 87 rfl rfl, by decide +kernel, by decide +kernel, by decide⟩
set_option maxRecDepth 100000 in
theorem vi_X6_act : jvirt m_X6_act := ⟨jG_in 707 rfl rfl, jG_in 708 rfl rfl⟩
def jt_X6_trace : Nat → Option (Instr × Nat) := fun pc => cond (Nat.ble 18 pc) (cond (Nat.ble 26 pc) (cond (Nat.ble 32 pc) (cond (Nat.ble 33 pc) (cond (Nat.ble 34 pc) (cond (Nat.beq pc 34) (some (.ireturn, 1)) none) (cond (Nat.beq pc 33) (some (.iaload, 1)) none)) (cond (Nat.beq pc 32) (some (.iload_n 1, 1)) none)) (cond (Nat.ble 29 pc) (cond (Nat.beq pc 29) (some (.getfield 245, 3)) none) (cond (Nat.beq pc 26) (some (.getfield 31, 3)) none))) (cond (Nat.ble 22 pc) (cond (Nat.ble 25 pc) (cond (Nat.beq pc 25) (some (.aload_n 0, 1)) none) (cond (Nat.beq pc 22) (some (.goto 12, 3)) none)) (cond (Nat.ble 21 pc) (cond (Nat.beq pc 21) (some (.iconst (-1), 1)) none) (cond (Nat.beq pc 18) (some (.if_icmp .lt 7, 3)) none)))) (cond (Nat.ble 6 pc) (cond (Nat.ble 12 pc) (cond (Nat.ble 15 pc) (cond (Nat.ble 16 pc) (cond (Nat.beq pc 16) (some (.bipush 20, 2)) none) (cond (Nat.beq pc 15) (some (.iload_n 1, 1)) none)) (cond (Nat.beq pc 12) (some (.if_icmp .ge 9, 3)) none)) (cond (Nat.ble 9 pc) (cond (Nat.beq pc 9) (some (.getfield 235, 3)) none) (cond (Nat.beq pc 6) (some (.getfield 31, 3)) none))) (cond (Nat.ble 4 pc) (cond (Nat.ble 5 pc) (cond (Nat.beq pc 5) (some (.aload_n 0, 1)) none) (cond (Nat.beq pc 4) (some (.iload_n 1, 1)) none)) (cond (Nat.ble 1 pc) (cond (Nat.beq pc 1) (some (.ifCond .lt 20, 3)) none) (cond (Nat.beq pc 0) (some (.iload_n 1, 1)) none))))
def m_X6_trace : jM := (6, yX6_trace, cX6_trace, 2, (some .int), fun pc => cond (Nat.ble 35 pc) none (jt_X6_trace pc))
set_option maxRecDepth 100000 in
theorem dk_X6_trace : ∀ pc q, m_X6_trace.2.2.2.2.2 pc = some q → decode cX6_trace pc = .ok q := jk_sound (N := 35) (t := jt_X6_trace) (by decide +kernel)
set_option maxRecDepth 100000 in
theorem ok_X6_trace : jok m_X6_trace := ⟨dk_X6_trace, jG_in 737 rfl rfl, jG_in 87 rfl rfl, by decide +kernel, by decide +kernel, by decide⟩
set_option maxRecDepth 100000 in
theorem vi_X6_trace : jvirt m_X6_trace := ⟨jG_in 735 rfl rfl, jG_in 736 rfl rfl⟩
def jt_X6_taken : Nat → Option (Instr × Nat) := fun pc => cond (Nat.ble 34 pc) (cond (Nat.ble 52 pc) (cond (Nat.ble 61 pc) (cond (Nat.ble 65 pc) (cond (Nat.ble 68 pc) (cond (Nat.ble 70 pc) (cond (Nat.beq pc 70) (some (.ireturn, 1)) none) (cond (Nat.beq pc 68) (some (.bipush (-12), 2)) none)) (cond (Nat.beq pc 65) (some (.goto 5, 3)) none)) (cond (Nat.ble 64 pc) (cond (Nat.beq pc 64) (some (.iload_n 3, 1)) none) (cond (Nat.beq pc 61) (some (.ifCond .eq 7, 3)) none))) (cond (Nat.ble 56 pc) (cond (Nat.ble 57 pc) (cond (Nat.ble 59 pc) (cond (Nat.beq pc 59) (some (.iload 4, 2)) none) (cond (Nat.beq pc 57) (some (.istore 4, 2)) none)) (cond (Nat.beq pc 56) (some (.iconst 0, 1)) none)) (cond (Nat.ble 53 pc) (cond (Nat.beq pc 53) (some (.goto 4, 3)) none) (cond (Nat.beq pc 52) (some (.iconst 1, 1)) none)))) (cond (Nat.ble 43 pc) (cond (Nat.ble 45 pc) (cond (Nat.ble 48 pc) (cond (Nat.ble 49 pc) (cond (Nat.beq pc 49) (some (.ifCond .ne 7, 3)) none) (cond (Nat.beq pc 48) (some (.iload_n 2, 1)) none)) (cond (Nat.beq pc 45) (some (.if_icmp .eq 7, 3)) none)) (cond (Nat.ble 44 pc) (cond (Nat.beq pc 44) (some (.iload_n 2, 1)) none) (cond (Nat.beq pc 43) (some (.iaload, 1)) none))) (cond (Nat.ble 36 pc) (cond (Nat.ble 39 pc) (cond (Nat.ble 42 pc) (cond (Nat.beq pc 42) (some (.iload_n 3, 1)) none) (cond (Nat.beq pc 39) (some (.getstatic 248, 3)) none)) (cond (Nat.beq pc 36) (some (.if_icmp .eq 16, 3)) none)) (cond (Nat.ble 35 pc) (cond (Nat.beq pc 35) (some (.iload_n 2, 1)) none) (cond (Nat.beq pc 34) (some (.iload_n 3, 1)) none))))) (cond (Nat.ble 15 pc) (cond (Nat.ble 25 pc) (cond (Nat.ble 31 pc) (cond (Nat.ble 32 pc) (cond (Nat.ble 33 pc) (cond (Nat.beq pc 33) (some (.istore_n 3, 1)) none) (cond (Nat.beq pc 32) (some (.iaload, 1)) none)) (cond (Nat.beq pc 31) (some (.iload_n 1, 1)) none)) (cond (Nat.ble 28 pc) (cond (Nat.beq pc 28) (some (.getfield 97, 3)) none) (cond (Nat.beq pc 25) (some (.getfield 47, 3)) none))) (cond (Nat.ble 21 pc) (cond (Nat.ble 23 pc) (cond (Nat.ble 24 pc) (cond (Nat.beq pc 24) (some (.aload_n 0, 1)) none) (cond (Nat.beq pc 23) (some (.ireturn, 1)) none)) (cond (Nat.beq pc 21) (some (.bipush (-11), 2)) none)) (cond (Nat.ble 18 pc) (cond (Nat.beq pc 18) (some (.ifCond .ne 6, 3)) none) (cond (Nat.beq pc 15) (some (.invokevirtual 79, 3)) none)))) (cond (Nat.ble 7 pc) (cond (Nat.ble 12 pc) (cond (Nat.ble 13 pc) (cond (Nat.ble 14 pc) (cond (Nat.beq pc 14) (some (.iload_n 1, 1)) none) (cond (Nat.beq pc 13) (some (.aload_n 0, 1)) none)) (cond (Nat.beq pc 12) (some (.ireturn, 1)) none)) (cond (Nat.ble 10 pc) (cond (Nat.beq pc 10) (some (.bipush (-2), 2)) none) (cond (Nat.beq pc 7) (some (.if_icmp .lt 6, 3)) none))) (cond (Nat.ble 4 pc) (cond (Nat.ble 5 pc) (cond (Nat.beq pc 5) (some (.bipush 7, 2)) none) (cond (Nat.beq pc 4) (some (.iload_n 2, 1)) none)) (cond (Nat.ble 1 pc) (cond (Nat.beq pc 1) (some (.ifCond .lt 9, 3)) none) (cond (Nat.beq pc 0) (some (.iload_n 2, 1)) none)))))
def m_X6_taken : jM := (6, yX6_taken, cX6_taken, 5, (some .int), fun pc => cond (Nat.ble 71 pc) none (jt_X6_taken pc))
set_option maxRecDepth 100000 in
theorem dk_X6_taken : ∀ pc q, m_X6_taken.2.2.2.2.2 pc = some q → decode cX6_taken pc = .ok q := jk_sound (N := 71) (t := jt_X6_taken) (by decide +kernel)
set_option maxRecDepth 100000 in
theorem ok_X6_taken : jok m_X6_taken := ⟨dk_X6_taken, jG_in 741 rfl rfl, jG_in 87 rfl rfl, by decide +kernel, by decide +kernel, by decide⟩
set_option maxRecDepth 100000 in
theorem vi_X6_taken : jvirt m_X6_taken := ⟨jG_in 739 rfl rfl, jG_in 740 rfl rfl⟩
def jt_X6_count : Nat → Option (Instr × Nat) := fun pc => cond (Nat.ble 53 pc) (cond (Nat.ble 65 pc) (cond (Nat.ble 72 pc) (cond (Nat.ble 73 pc) (cond (Nat.ble 75 pc) (cond (Nat.beq pc 75) (some (.ireturn, 1)) none) (cond (Nat.beq pc 73) (some (.bipush (-2), 2)) none)) (cond (Nat.beq pc 72) (some (.ireturn, 1)) none)) (cond (Nat.ble 66 pc) (cond (Nat.ble 69 pc) (cond (Nat.beq pc 69) (some (.getfield 235, 3)) none) (cond (Nat.beq pc 66) (some (.getfield 31, 3)) none)) (cond (Nat.beq pc 65) (some (.aload_n 0, 1)) none))) (cond (Nat.ble 58 pc) (cond (Nat.ble 61 pc) (cond (Nat.ble 64 pc) (cond (Nat.beq pc 64) (some (.ireturn, 1)) none) (cond (Nat.beq pc 61) (some (.getfield 127, 3)) none)) (cond (Nat.beq pc 58) (some (.getfield 18, 3)) none)) (cond (Nat.ble 56 pc) (cond (Nat.ble 57 pc) (cond (Nat.beq pc 57) (some (.aload_n 0, 1)) none) (cond (Nat.beq pc 56) (some (.ireturn, 1)) none)) (cond (Nat.beq pc 53) (some (.getfield 209, 3)) none)))) (cond (Nat.ble 43 pc) (cond (Nat.ble 48 pc) (cond (Nat.ble 49 pc) (cond (Nat.ble 50 pc) (cond (Nat.beq pc 50) (some (.getfield 47, 3)) none) (cond (Nat.beq pc 49) (some (.aload_n 0, 1)) none)) (cond (Nat.beq pc 48) (some (.ireturn, 1)) none)) (cond (Nat.ble 44 pc) (cond (Nat.ble 45 pc) (cond (Nat.beq pc 45) (some (.getfield 134, 3)) none) (cond (Nat.beq pc 44) (some (.aload_n 0, 1)) none)) (cond (Nat.beq pc 43) (some (.ireturn, 1)) none))) (cond (Nat.ble 36 pc) (cond (Nat.ble 37 pc) (cond (Nat.ble 40 pc) (cond (Nat.beq pc 40) (some (.getfield 71, 3)) none) (cond (Nat.beq pc 37) (some (.getfield 47, 3)) none)) (cond (Nat.beq pc 36) (some (.aload_n 0, 1)) none)) (cond (Nat.ble 1 pc) (cond (Nat.beq pc 1) (some (.tableswitch 72 0 4 #[35, 43, 48, 56, 64], 35)) none) (cond (Nat.beq pc 0) (some (.iload_n 1, 1)) none))))
def m_X6_count : jM := (6, yX6_count, cX6_count, 2, (some .int), fun pc => cond (Nat.ble 76 pc) none (jt_X6_count pc))
set_option maxRecDepth 100000 in
theorem dk_X6_count : ∀ pc q, m_X6_count.2.2.2.2.2 pc = some q → decode cX6_count pc = .ok q := jk_sound (N := 76) (t := jt_X6_count) (by decide +kernel)
set_option maxRecDepth 100000 in
theorem ok_X6_count : jok m_X6_count := ⟨dk_X6_count, jG_in 747 rfl rfl, jG_in 87 rfl rfl, by decide +kernel, by decide +kernel, by decide⟩
set_option maxRecDepth 100000 in
theorem vi_X6_count : jvirt m_X6_count := ⟨jG_in 745 rfl rfl, jG_in 746 rfl rfl⟩
def jt_X6_tape : Nat → Option (Instr × Nat) := fun pc => cond (Nat.ble 32 pc) (cond (Nat.ble 51 pc) (cond (Nat.ble 58 pc) (cond (Nat.ble 60 pc) (cond (Nat.ble 63 pc) (cond (Nat.ble 64 pc) (cond (Nat.beq pc 64) (some (.ireturn, 1)) none) (cond (Nat.beq pc 63) (some (.iconst 1, 1)) none)) (cond (Nat.beq pc 60) (some (.invokevirtual 251, 3)) none)) (cond (Nat.ble 59 pc) (cond (Nat.beq pc 59) (some (.iload_n 3, 1)) none) (cond (Nat.beq pc 58) (some (.iload_n 2, 1)) none))) (cond (Nat.ble 53 pc) (cond (Nat.ble 56 pc) (cond (Nat.ble 57 pc) (cond (Nat.beq pc 57) (some (.aaload, 1)) none) (cond (Nat.beq pc 56) (some (.iload_n 1, 1)) none)) (cond (Nat.beq pc 53) (some (.getfield 37, 3)) none)) (cond (Nat.ble 52 pc) (cond (Nat.beq pc 52) (some (.aload_n 0, 1)) none) (cond (Nat.beq pc 51) (some (.ireturn, 1)) none)))) (cond (Nat.ble 42 pc) (cond (Nat.ble 45 pc) (cond (Nat.ble 46 pc) (cond (Nat.ble 49 pc) (cond (Nat.beq pc 49) (some (.bipush (-14), 2)) none) (cond (Nat.beq pc 46) (some (.ifCond .ge 6, 3)) none)) (cond (Nat.beq pc 45) (some (.iload_n 3, 1)) none)) (cond (Nat.ble 44 pc) (cond (Nat.beq pc 44) (some (.ireturn, 1)) none) (cond (Nat.beq pc 42) (some (.bipush (-2), 2)) none))) (cond (Nat.ble 36 pc) (cond (Nat.ble 37 pc) (cond (Nat.ble 39 pc) (cond (Nat.beq pc 39) (some (.if_icmp .le 6, 3)) none) (cond (Nat.beq pc 37) (some (.bipush 60, 2)) none)) (cond (Nat.beq pc 36) (some (.iload_n 3, 1)) none)) (cond (Nat.ble 33 pc) (cond (Nat.beq pc 33) (some (.if_icmp .gt 9, 3)) none) (cond (Nat.beq pc 32) (some (.iconst 4, 1)) none))))) (cond (Nat.ble 18 pc) (cond (Nat.ble 25 pc) (cond (Nat.ble 27 pc) (cond (Nat.ble 28 pc) (cond (Nat.ble 31 pc) (cond (Nat.beq pc 31) (some (.iload_n 2, 1)) none) (cond (Nat.beq pc 28) (some (.ifCond .lt 14, 3)) none)) (cond (Nat.beq pc 27) (some (.iload_n 2, 1)) none)) (cond (Nat.ble 26 pc) (cond (Nat.beq pc 26) (some (.ireturn, 1)) none) (cond (Nat.beq pc 25) (some (.iconst 1, 1)) none))) (cond (Nat.ble 20 pc) (cond (Nat.ble 21 pc) (cond (Nat.ble 22 pc) (cond (Nat.beq pc 22) (some (.invokevirtual 251, 3)) none) (cond (Nat.beq pc 21) (some (.iconst 0, 1)) none)) (cond (Nat.beq pc 20) (some (.iconst (-1), 1)) none)) (cond (Nat.ble 19 pc) (cond (Nat.beq pc 19) (some (.aaload, 1)) none) (cond (Nat.beq pc 18) (some (.iload_n 1, 1)) none)))) (cond (Nat.ble 9 pc) (cond (Nat.ble 11 pc) (cond (Nat.ble 14 pc) (cond (Nat.ble 15 pc) (cond (Nat.beq pc 15) (some (.getfield 37, 3)) none) (cond (Nat.beq pc 14) (some (.aload_n 0, 1)) none)) (cond (Nat.beq pc 11) (some (.if_icmp .ne 16, 3)) none)) (cond (Nat.ble 10 pc) (cond (Nat.beq pc 10) (some (.iconst (-1), 1)) none) (cond (Nat.beq pc 9) (some (.iload_n 2, 1)) none))) (cond (Nat.ble 4 pc) (cond (Nat.ble 7 pc) (cond (Nat.ble 8 pc) (cond (Nat.beq pc 8) (some (.ireturn, 1)) none) (cond (Nat.beq pc 7) (some (.iconst (-1), 1)) none)) (cond (Nat.beq pc 4) (some (.ifCond .ne 5, 3)) none)) (cond (Nat.ble 1 pc) (cond (Nat.beq pc 1) (some (.invokestatic 220, 3)) none) (cond (Nat.beq pc 0) (some (.iload_n 1, 1)) none)))))
def m_X6_tape : jM := (6, yX6_tape, cX6_tape, 4, (some .int), fun pc => cond (Nat.ble 65 pc) none (jt_X6_tape pc))
set_option maxRecDepth 100000 in
theorem dk_X6_tape : ∀ pc q, m_X6_tape.2.2.2.2.2 pc = some q → decode cX6_tape pc = .ok q := jk_sound (N := 65) (t := jt_X6_tape) (by decide +kernel)
set_option maxRecDepth 100000 in
theorem ok_X6_tape : jok m_X6_tape := ⟨dk_X6_tape, jG_in 751 rfl rfl, jG_in 87 rfl rfl, by decide +kernel, by decide +kernel, by decide⟩
set_option maxRecDepth 100000 in
theorem vi_X6_tape : jvirt m_X6_tape := ⟨jG_in 749 rfl rfl, jG_in 750 rfl rfl⟩
def jt_X6_item : Nat → Option (Instr × Nat) := fun pc => cond (Nat.ble 29 pc) (cond (Nat.ble 45 pc) (cond (Nat.ble 53 pc) (cond (Nat.ble 57 pc) (cond (Nat.ble 58 pc) (cond (Nat.ble 59 pc) (cond (Nat.beq pc 59) (some (.ireturn, 1)) none) (cond (Nat.beq pc 58) (some (.iconst 1, 1)) none)) (cond (Nat.beq pc 57) (some (.lastore, 1)) none)) (cond (Nat.ble 54 pc) (cond (Nat.beq pc 54) (some (.invokevirtual 255, 3)) none) (cond (Nat.beq pc 53) (some (.lload_n 3, 1)) none))) (cond (Nat.ble 50 pc) (cond (Nat.ble 51 pc) (cond (Nat.beq pc 51) (some (.aload 5, 2)) none) (cond (Nat.beq pc 50) (some (.iload_n 2, 1)) none)) (cond (Nat.ble 47 pc) (cond (Nat.beq pc 47) (some (.getfield 227, 3)) none) (cond (Nat.beq pc 45) (some (.aload 5, 2)) none)))) (cond (Nat.ble 36 pc) (cond (Nat.ble 42 pc) (cond (Nat.ble 44 pc) (cond (Nat.beq pc 44) (some (.ireturn, 1)) none) (cond (Nat.beq pc 42) (some (.bipush (-13), 2)) none)) (cond (Nat.ble 39 pc) (cond (Nat.beq pc 39) (some (.if_icmp .lt 6, 3)) none) (cond (Nat.beq pc 36) (some (.getfield 226, 3)) none))) (cond (Nat.ble 33 pc) (cond (Nat.ble 34 pc) (cond (Nat.beq pc 34) (some (.aload 5, 2)) none) (cond (Nat.beq pc 33) (some (.iload_n 2, 1)) none)) (cond (Nat.ble 30 pc) (cond (Nat.beq pc 30) (some (.ifCond .lt 12, 3)) none) (cond (Nat.beq pc 29) (some (.iload_n 2, 1)) none))))) (cond (Nat.ble 14 pc) (cond (Nat.ble 22 pc) (cond (Nat.ble 26 pc) (cond (Nat.ble 28 pc) (cond (Nat.beq pc 28) (some (.ireturn, 1)) none) (cond (Nat.beq pc 26) (some (.bipush (-11), 2)) none)) (cond (Nat.ble 23 pc) (cond (Nat.beq pc 23) (some (.if_icmp .ne 6, 3)) none) (cond (Nat.beq pc 22) (some (.iconst (-1), 1)) none))) (cond (Nat.ble 17 pc) (cond (Nat.ble 19 pc) (cond (Nat.beq pc 19) (some (.getfield 223, 3)) none) (cond (Nat.beq pc 17) (some (.aload 5, 2)) none)) (cond (Nat.ble 15 pc) (cond (Nat.beq pc 15) (some (.astore 5, 2)) none) (cond (Nat.beq pc 14) (some (.aaload, 1)) none)))) (cond (Nat.ble 8 pc) (cond (Nat.ble 10 pc) (cond (Nat.ble 13 pc) (cond (Nat.beq pc 13) (some (.iload_n 1, 1)) none) (cond (Nat.beq pc 10) (some (.getfield 37, 3)) none)) (cond (Nat.ble 9 pc) (cond (Nat.beq pc 9) (some (.aload_n 0, 1)) none) (cond (Nat.beq pc 8) (some (.ireturn, 1)) none))) (cond (Nat.ble 4 pc) (cond (Nat.ble 7 pc) (cond (Nat.beq pc 7) (some (.iconst (-1), 1)) none) (cond (Nat.beq pc 4) (some (.ifCond .ne 5, 3)) none)) (cond (Nat.ble 1 pc) (cond (Nat.beq pc 1) (some (.invokestatic 220, 3)) none) (cond (Nat.beq pc 0) (some (.iload_n 1, 1)) none)))))
def m_X6_item : jM := (6, yX6_item, cX6_item, 6, (some .int), fun pc => cond (Nat.ble 60 pc) none (jt_X6_item pc))
set_option maxRecDepth 100000 in
theorem dk_X6_item : ∀ pc q, m_X6_item.2.2.2.2.2 pc = some q → decode cX6_item pc = .ok q := jk_sound (N := 60) (t := jt_X6_item) (by decide +kernel)
set_option maxRecDepth 100000 in
theorem ok_X6_item : jok m_X6_item := ⟨dk_X6_item, jG_in 759 rfl rfl, jG_in 87 rfl rfl, by decide +kernel, by decide +kernel, by decide⟩
set_option maxRecDepth 100000 in
theorem vi_X6_item : jvirt m_X6_item := ⟨jG_in 757 rfl rfl, jG_in 758 rfl rfl⟩
def jt_X6_read : Nat → Option (Instr × Nat) := fun pc => cond (Nat.ble 19 pc) (cond (Nat.ble 33 pc) (cond (Nat.ble 40 pc) (cond (Nat.ble 41 pc) (cond (Nat.ble 42 pc) (cond (Nat.beq pc 42) (some (.lreturn, 1)) none) (cond (Nat.beq pc 41) (some (.laload, 1)) none)) (cond (Nat.beq pc 40) (some (.iload_n 2, 1)) none)) (cond (Nat.ble 36 pc) (cond (Nat.ble 37 pc) (cond (Nat.beq pc 37) (some (.getfield 227, 3)) none) (cond (Nat.beq pc 36) (some (.aload_n 3, 1)) none)) (cond (Nat.beq pc 33) (some (.goto 9, 3)) none))) (cond (Nat.ble 24 pc) (cond (Nat.ble 27 pc) (cond (Nat.ble 30 pc) (cond (Nat.beq pc 30) (some (.ldc2_w 203, 3)) none) (cond (Nat.beq pc 27) (some (.if_icmp .lt 9, 3)) none)) (cond (Nat.beq pc 24) (some (.getfield 226, 3)) none)) (cond (Nat.ble 22 pc) (cond (Nat.ble 23 pc) (cond (Nat.beq pc 23) (some (.aload_n 3, 1)) none) (cond (Nat.beq pc 22) (some (.iload_n 2, 1)) none)) (cond (Nat.beq pc 19) (some (.ifCond .lt 11, 3)) none)))) (cond (Nat.ble 11 pc) (cond (Nat.ble 16 pc) (cond (Nat.ble 17 pc) (cond (Nat.ble 18 pc) (cond (Nat.beq pc 18) (some (.iload_n 2, 1)) none) (cond (Nat.beq pc 17) (some (.astore_n 3, 1)) none)) (cond (Nat.beq pc 16) (some (.aaload, 1)) none)) (cond (Nat.ble 12 pc) (cond (Nat.ble 15 pc) (cond (Nat.beq pc 15) (some (.iload_n 1, 1)) none) (cond (Nat.beq pc 12) (some (.getfield 37, 3)) none)) (cond (Nat.beq pc 11) (some (.aload_n 0, 1)) none))) (cond (Nat.ble 4 pc) (cond (Nat.ble 7 pc) (cond (Nat.ble 10 pc) (cond (Nat.beq pc 10) (some (.lreturn, 1)) none) (cond (Nat.beq pc 7) (some (.ldc2_w 203, 3)) none)) (cond (Nat.beq pc 4) (some (.ifCond .ne 7, 3)) none)) (cond (Nat.ble 1 pc) (cond (Nat.beq pc 1) (some (.invokestatic 220, 3)) none) (cond (Nat.beq pc 0) (some (.iload_n 1, 1)) none))))
def m_X6_read : jM := (6, yX6_read, cX6_read, 4, (some .long), fun pc => cond (Nat.ble 43 pc) none (jt_X6_read pc))
set_option maxRecDepth 100000 in
theorem dk_X6_read : ∀ pc q, m_X6_read.2.2.2.2.2 pc = some q → decode cX6_read pc = .ok q := jk_sound (N := 43) (t := jt_X6_read) (by decide +kernel)
set_option maxRecDepth 100000 in
theorem ok_X6_read : jok m_X6_read := ⟨dk_X6_read, jG_in 767 rfl rfl, jG_in 87 rfl rfl, by decide +kernel, by decide +kernel, by decide⟩
set_option maxRecDepth 100000 in
theorem vi_X6_read : jvirt m_X6_read := ⟨jG_in 765 rfl rfl, jG_in 766 rfl rfl⟩
def jt_X6_shift : Nat → Option (Instr × Nat) := fun pc => cond (Nat.ble 53 pc) (cond (Nat.ble 84 pc) (cond (Nat.ble 100 pc) (cond (Nat.ble 108 pc) (cond (Nat.ble 113 pc) (cond (Nat.ble 115 pc) (cond (Nat.beq pc 115) (some (.ireturn, 1)) none) (cond (Nat.beq pc 113) (some (.iload 5, 2)) none)) (cond (Nat.ble 110 pc) (cond (Nat.beq pc 110) (some (.invokestatic 263, 3)) none) (cond (Nat.beq pc 108) (some (.iload 5, 2)) none))) (cond (Nat.ble 103 pc) (cond (Nat.ble 106 pc) (cond (Nat.beq pc 106) (some (.iload 4, 2)) none) (cond (Nat.beq pc 103) (some (.getfield 227, 3)) none)) (cond (Nat.ble 101 pc) (cond (Nat.beq pc 101) (some (.aload 7, 2)) none) (cond (Nat.beq pc 100) (some (.iload_n 2, 1)) none)))) (cond (Nat.ble 92 pc) (cond (Nat.ble 95 pc) (cond (Nat.ble 97 pc) (cond (Nat.beq pc 97) (some (.getfield 227, 3)) none) (cond (Nat.beq pc 95) (some (.aload 6, 2)) none)) (cond (Nat.ble 94 pc) (cond (Nat.beq pc 94) (some (.ireturn, 1)) none) (cond (Nat.beq pc 92) (some (.bipush (-13), 2)) none))) (cond (Nat.ble 86 pc) (cond (Nat.ble 89 pc) (cond (Nat.beq pc 89) (some (.ifCond .ne 6, 3)) none) (cond (Nat.beq pc 86) (some (.invokevirtual 259, 3)) none)) (cond (Nat.beq pc 84) (some (.iload 5, 2)) none)))) (cond (Nat.ble 69 pc) (cond (Nat.ble 74 pc) (cond (Nat.ble 80 pc) (cond (Nat.ble 82 pc) (cond (Nat.beq pc 82) (some (.iload 4, 2)) none) (cond (Nat.beq pc 80) (some (.aload 7, 2)) none)) (cond (Nat.ble 77 pc) (cond (Nat.beq pc 77) (some (.ifCond .eq 15, 3)) none) (cond (Nat.beq pc 74) (some (.invokevirtual 259, 3)) none))) (cond (Nat.ble 71 pc) (cond (Nat.ble 72 pc) (cond (Nat.beq pc 72) (some (.iload 5, 2)) none) (cond (Nat.beq pc 71) (some (.iload_n 2, 1)) none)) (cond (Nat.beq pc 69) (some (.aload 6, 2)) none))) (cond (Nat.ble 60 pc) (cond (Nat.ble 66 pc) (cond (Nat.ble 68 pc) (cond (Nat.beq pc 68) (some (.ireturn, 1)) none) (cond (Nat.beq pc 66) (some (.bipush (-12), 2)) none)) (cond (Nat.ble 63 pc) (cond (Nat.beq pc 63) (some (.if_icmp .eq 6, 3)) none) (cond (Nat.beq pc 60) (some (.getfield 223, 3)) none))) (cond (Nat.ble 55 pc) (cond (Nat.ble 58 pc) (cond (Nat.beq pc 58) (some (.aload 7, 2)) none) (cond (Nat.beq pc 55) (some (.getfield 223, 3)) none)) (cond (Nat.beq pc 53) (some (.aload 6, 2)) none))))) (cond (Nat.ble 25 pc) (cond (Nat.ble 38 pc) (cond (Nat.ble 46 pc) (cond (Nat.ble 50 pc) (cond (Nat.ble 52 pc) (cond (Nat.beq pc 52) (some (.ireturn, 1)) none) (cond (Nat.beq pc 50) (some (.bipush (-11), 2)) none)) (cond (Nat.ble 47 pc) (cond (Nat.beq pc 47) (some (.if_icmp .ne 6, 3)) none) (cond (Nat.beq pc 46) (some (.iconst (-1), 1)) none))) (cond (Nat.ble 41 pc) (cond (Nat.ble 43 pc) (cond (Nat.beq pc 43) (some (.getfield 223, 3)) none) (cond (Nat.beq pc 41) (some (.aload 7, 2)) none)) (cond (Nat.beq pc 38) (some (.if_icmp .eq 12, 3)) none))) (cond (Nat.ble 30 pc) (cond (Nat.ble 34 pc) (cond (Nat.ble 37 pc) (cond (Nat.beq pc 37) (some (.iconst (-1), 1)) none) (cond (Nat.beq pc 34) (some (.getfield 223, 3)) none)) (cond (Nat.ble 32 pc) (cond (Nat.beq pc 32) (some (.aload 6, 2)) none) (cond (Nat.beq pc 30) (some (.astore 7, 2)) none))) (cond (Nat.ble 28 pc) (cond (Nat.ble 29 pc) (cond (Nat.beq pc 29) (some (.aaload, 1)) none) (cond (Nat.beq pc 28) (some (.iload_n 3, 1)) none)) (cond (Nat.beq pc 25) (some (.getfield 37, 3)) none)))) (cond (Nat.ble 15 pc) (cond (Nat.ble 20 pc) (cond (Nat.ble 22 pc) (cond (Nat.ble 24 pc) (cond (Nat.beq pc 24) (some (.aload_n 0, 1)) none) (cond (Nat.beq pc 22) (some (.astore 6, 2)) none)) (cond (Nat.ble 21 pc) (cond (Nat.beq pc 21) (some (.aaload, 1)) none) (cond (Nat.beq pc 20) (some (.iload_n 1, 1)) none))) (cond (Nat.ble 16 pc) (cond (Nat.ble 17 pc) (cond (Nat.beq pc 17) (some (.getfield 37, 3)) none) (cond (Nat.beq pc 16) (some (.aload_n 0, 1)) none)) (cond (Nat.beq pc 15) (some (.ireturn, 1)) none))) (cond (Nat.ble 7 pc) (cond (Nat.ble 11 pc) (cond (Nat.ble 14 pc) (cond (Nat.beq pc 14) (some (.iconst (-1), 1)) none) (cond (Nat.beq pc 11) (some (.ifCond .ne 5, 3)) none)) (cond (Nat.ble 8 pc) (cond (Nat.beq pc 8) (some (.invokestatic 220, 3)) none) (cond (Nat.beq pc 7) (some (.iload_n 3, 1)) none))) (cond (Nat.ble 1 pc) (cond (Nat.ble 4 pc) (cond (Nat.beq pc 4) (some (.ifCond .eq 10, 3)) none) (cond (Nat.beq pc 1) (some (.invokestatic 220, 3)) none)) (cond (Nat.beq pc 0) (some (.iload_n 1, 1)) none)))))
def m_X6_shift : jM := (6, yX6_shift, cX6_shift, 8, (some .int), fun pc => cond (Nat.ble 116 pc) none (jt_X6_shift pc))
set_option maxRecDepth 100000 in
theorem dk_X6_shift : ∀ pc q, m_X6_shift.2.2.2.2.2 pc = some q → decode cX6_shift pc = .ok q := jk_sound (N := 116) (t := jt_X6_shift) (by decide +kernel)
set_option maxRecDepth 100000 in
theorem ok_X6_shift : jok m_X6_shift := ⟨dk_X6_shift, jG_in 771 rfl rfl, jG_in 87 rfl rfl, by decide +kernel, by decide +kernel, by decide⟩
set_option maxRecDepth 100000 in
theorem vi_X6_shift : jvirt m_X6_shift := ⟨jG_in 769 rfl rfl, jG_in 770 rfl rfl⟩
def jt_X6_isDay : Nat → Option (Instr × Nat) := fun pc => cond (Nat.ble 7 pc) (cond (Nat.ble 11 pc) (cond (Nat.ble 14 pc) (cond (Nat.ble 15 pc) (cond (Nat.beq pc 15) (some (.ireturn, 1)) none) (cond (Nat.beq pc 14) (some (.iconst 0, 1)) none)) (cond (Nat.beq pc 11) (some (.goto 4, 3)) none)) (cond (Nat.ble 10 pc) (cond (Nat.beq pc 10) (some (.iconst 1, 1)) none) (cond (Nat.beq pc 7) (some (.if_icmp .ge 7, 3)) none))) (cond (Nat.ble 4 pc) (cond (Nat.ble 5 pc) (cond (Nat.beq pc 5) (some (.bipush 12, 2)) none) (cond (Nat.beq pc 4) (some (.iload_n 0, 1)) none)) (cond (Nat.ble 1 pc) (cond (Nat.beq pc 1) (some (.ifCond .lt 13, 3)) none) (cond (Nat.beq pc 0) (some (.iload_n 0, 1)) none)))
def m_X6_isDay : jM := (6, yX6_isDay, cX6_isDay, 1, (some .boolean), fun pc => cond (Nat.ble 16 pc) none (jt_X6_isDay pc))
set_option maxRecDepth 100000 in
theorem dk_X6_isDay : ∀ pc q, m_X6_isDay.2.2.2.2.2 pc = some q → decode cX6_isDay pc = .ok q := jk_sound (N := 16) (t := jt_X6_isDay) (by decide +kernel)
set_option maxRecDepth 100000 in
theorem ok_X6_isDay : jok m_X6_isDay := ⟨dk_X6_isDay, jG_in 384 rfl rfl, jG_in 87 rfl rfl, by decide +kernel, by decide +kernel, by decide⟩
set_option maxRecDepth 100000 in
theorem st_X6_isDay : jstat m_X6_isDay := jG_in 383 rfl rfl
def jt_X6_isTape : Nat → Option (Instr × Nat) := fun pc => cond (Nat.ble 7 pc) (cond (Nat.ble 11 pc) (cond (Nat.ble 14 pc) (cond (Nat.ble 15 pc) (cond (Nat.beq pc 15) (some (.ireturn, 1)) none) (cond (Nat.beq pc 14) (some (.iconst 0, 1)) none)) (cond (Nat.beq pc 11) (some (.goto 4, 3)) none)) (cond (Nat.ble 10 pc) (cond (Nat.beq pc 10) (some (.iconst 1, 1)) none) (cond (Nat.beq pc 7) (some (.if_icmp .ge 7, 3)) none))) (cond (Nat.ble 4 pc) (cond (Nat.ble 5 pc) (cond (Nat.beq pc 5) (some (.bipush 6, 2)) none) (cond (Nat.beq pc 4) (some (.iload_n 0, 1)) none)) (cond (Nat.ble 1 pc) (cond (Nat.beq pc 1) (some (.ifCond .lt 13, 3)) none) (cond (Nat.beq pc 0) (some (.iload_n 0, 1)) none)))
def m_X6_isTape : jM := (6, yX6_isTape, cX6_isTape, 1, (some .boolean), fun pc => cond (Nat.ble 16 pc) none (jt_X6_isTape pc))
set_option maxRecDepth 100000 in
theorem dk_X6_isTape : ∀ pc q, m_X6_isTape.2.2.2.2.2 pc = some q → decode cX6_isTape pc = .ok q := jk_sound (N := 16) (t := jt_X6_isTape) (by decide +kernel)
set_option maxRecDepth 100000 in
theorem ok_X6_isTape : jok m_X6_isTape := ⟨dk_X6_isTape, jG_in 697 rfl rfl, jG_in 87 rfl rfl, by decide +kernel, by decide +kernel, by decide⟩
set_option maxRecDepth 100000 in
theorem st_X6_isTape : jstat m_X6_isTape := jG_in 696 rfl rfl
def jt_X6_isPerson : Nat → Option (Instr × Nat) := fun pc => cond (Nat.ble 9 pc) (cond (Nat.ble 16 pc) (cond (Nat.ble 19 pc) (cond (Nat.ble 20 pc) (cond (Nat.beq pc 20) (some (.ireturn, 1)) none) (cond (Nat.beq pc 19) (some (.iconst 0, 1)) none)) (cond (Nat.beq pc 16) (some (.goto 4, 3)) none)) (cond (Nat.ble 12 pc) (cond (Nat.ble 15 pc) (cond (Nat.beq pc 15) (some (.iconst 1, 1)) none) (cond (Nat.beq pc 12) (some (.if_icmp .ge 7, 3)) none)) (cond (Nat.beq pc 9) (some (.getfield 71, 3)) none))) (cond (Nat.ble 4 pc) (cond (Nat.ble 5 pc) (cond (Nat.ble 6 pc) (cond (Nat.beq pc 6) (some (.getfield 47, 3)) none) (cond (Nat.beq pc 5) (some (.aload_n 0, 1)) none)) (cond (Nat.beq pc 4) (some (.iload_n 1, 1)) none)) (cond (Nat.ble 1 pc) (cond (Nat.beq pc 1) (some (.ifCond .lt 18, 3)) none) (cond (Nat.beq pc 0) (some (.iload_n 1, 1)) none)))
def m_X6_isPerson : jM := (6, yX6_isPerson, cX6_isPerson, 2, (some .boolean), fun pc => cond (Nat.ble 21 pc) none (jt_X6_isPerson pc))
set_option maxRecDepth 100000 in
theorem dk_X6_isPerson : ∀ pc q, m_X6_isPerson.2.2.2.2.2 pc = some q → decode cX6_isPerson pc = .ok q := jk_sound (N := 21) (t := jt_X6_isPerson) (by decide +kernel)
set_option maxRecDepth 100000 in
theorem ok_X6_isPerson : jok m_X6_isPerson := ⟨dk_X6_isPerson, jG_in 396 rfl rfl, jG_in 87 rfl rfl, by decide +kernel, by decide +kernel, by decide⟩
set_option maxRecDepth 100000 in
theorem vi_X6_isPerson : jvirt m_X6_isPerson := ⟨jG_in 395 rfl rfl, jG_in 0 rfl rfl⟩
def jt_X6_bornOn : Nat → Option (Instr × Nat) := fun pc => cond (Nat.ble 28 pc) (cond (Nat.ble 42 pc) (cond (Nat.ble 46 pc) (cond (Nat.ble 52 pc) (cond (Nat.ble 53 pc) (cond (Nat.beq pc 53) (some (.ireturn, 1)) none) (cond (Nat.beq pc 52) (some (.iload_n 2, 1)) none)) (cond (Nat.ble 49 pc) (cond (Nat.beq pc 49) (some (.goto (-45), 3)) none) (cond (Nat.beq pc 46) (some (.iinc 3 1, 3)) none))) (cond (Nat.ble 44 pc) (cond (Nat.ble 45 pc) (cond (Nat.beq pc 45) (some (.istore_n 2, 1)) none) (cond (Nat.beq pc 44) (some (.ior, 1)) none)) (cond (Nat.ble 43 pc) (cond (Nat.beq pc 43) (some (.ishl, 1)) none) (cond (Nat.beq pc 42) (some (.iload_n 3, 1)) none)))) (cond (Nat.ble 36 pc) (cond (Nat.ble 40 pc) (cond (Nat.ble 41 pc) (cond (Nat.beq pc 41) (some (.iconst 1, 1)) none) (cond (Nat.beq pc 40) (some (.iload_n 2, 1)) none)) (cond (Nat.ble 37 pc) (cond (Nat.beq pc 37) (some (.if_icmp .ne 9, 3)) none) (cond (Nat.beq pc 36) (some (.iload_n 1, 1)) none))) (cond (Nat.ble 34 pc) (cond (Nat.ble 35 pc) (cond (Nat.beq pc 35) (some (.iaload, 1)) none) (cond (Nat.beq pc 34) (some (.iload_n 3, 1)) none)) (cond (Nat.ble 31 pc) (cond (Nat.beq pc 31) (some (.getfield 103, 3)) none) (cond (Nat.beq pc 28) (some (.getfield 47, 3)) none))))) (cond (Nat.ble 12 pc) (cond (Nat.ble 22 pc) (cond (Nat.ble 24 pc) (cond (Nat.ble 27 pc) (cond (Nat.beq pc 27) (some (.aload_n 0, 1)) none) (cond (Nat.beq pc 24) (some (.ifCond .eq 22, 3)) none)) (cond (Nat.ble 23 pc) (cond (Nat.beq pc 23) (some (.baload, 1)) none) (cond (Nat.beq pc 22) (some (.iload_n 3, 1)) none))) (cond (Nat.ble 16 pc) (cond (Nat.ble 19 pc) (cond (Nat.beq pc 19) (some (.getfield 109, 3)) none) (cond (Nat.beq pc 16) (some (.getfield 47, 3)) none)) (cond (Nat.ble 15 pc) (cond (Nat.beq pc 15) (some (.aload_n 0, 1)) none) (cond (Nat.beq pc 12) (some (.if_icmp .ge 40, 3)) none)))) (cond (Nat.ble 4 pc) (cond (Nat.ble 6 pc) (cond (Nat.ble 9 pc) (cond (Nat.beq pc 9) (some (.getfield 71, 3)) none) (cond (Nat.beq pc 6) (some (.getfield 47, 3)) none)) (cond (Nat.ble 5 pc) (cond (Nat.beq pc 5) (some (.aload_n 0, 1)) none) (cond (Nat.beq pc 4) (some (.iload_n 3, 1)) none))) (cond (Nat.ble 2 pc) (cond (Nat.ble 3 pc) (cond (Nat.beq pc 3) (some (.istore_n 3, 1)) none) (cond (Nat.beq pc 2) (some (.iconst 0, 1)) none)) (cond (Nat.ble 1 pc) (cond (Nat.beq pc 1) (some (.istore_n 2, 1)) none) (cond (Nat.beq pc 0) (some (.iconst 0, 1)) none)))))
def m_X6_bornOn : jM := (6, yX6_bornOn, cX6_bornOn, 4, (some .int), fun pc => cond (Nat.ble 54 pc) none (jt_X6_bornOn pc))
set_option maxRecDepth 100000 in
theorem dk_X6_bornOn : ∀ pc q, m_X6_bornOn.2.2.2.2.2 pc = some q → decode cX6_bornOn pc = .ok q := jk_sound (N := 54) (t := jt_X6_bornOn) (by decide +kernel)
set_option maxRecDepth 100000 in
theorem ok_X6_bornOn : jok m_X6_bornOn := ⟨dk_X6_bornOn, jG_in 561 rfl rfl, jG_in 87 rfl rfl, by decide +kernel, by decide +kernel, by decide⟩
set_option maxRecDepth 100000 in
theorem vi_X6_bornOn : jvirt m_X6_bornOn := ⟨jG_in 560 rfl rfl, jG_in 13 rfl rfl⟩
def jt_X6_sellingOn : Nat → Option (Instr × Nat) := fun pc => cond (Nat.ble 33 pc) (cond (Nat.ble 50 pc) (cond (Nat.ble 54 pc) (cond (Nat.ble 58 pc) (cond (Nat.ble 61 pc) (cond (Nat.ble 62 pc) (cond (Nat.beq pc 62) (some (.ireturn, 1)) none) (cond (Nat.beq pc 61) (some (.iload_n 2, 1)) none)) (cond (Nat.beq pc 58) (some (.goto (-33), 3)) none)) (cond (Nat.ble 55 pc) (cond (Nat.beq pc 55) (some (.iinc 3 1, 3)) none) (cond (Nat.beq pc 54) (some (.istore_n 2, 1)) none))) (cond (Nat.ble 52 pc) (cond (Nat.ble 53 pc) (cond (Nat.beq pc 53) (some (.ior, 1)) none) (cond (Nat.beq pc 52) (some (.ishl, 1)) none)) (cond (Nat.ble 51 pc) (cond (Nat.beq pc 51) (some (.iload_n 3, 1)) none) (cond (Nat.beq pc 50) (some (.iconst 1, 1)) none)))) (cond (Nat.ble 43 pc) (cond (Nat.ble 45 pc) (cond (Nat.ble 46 pc) (cond (Nat.ble 49 pc) (cond (Nat.beq pc 49) (some (.iload_n 2, 1)) none) (cond (Nat.beq pc 46) (some (.if_icmp .ne 9, 3)) none)) (cond (Nat.beq pc 45) (some (.iload_n 1, 1)) none)) (cond (Nat.ble 44 pc) (cond (Nat.beq pc 44) (some (.iaload, 1)) none) (cond (Nat.beq pc 43) (some (.iload_n 3, 1)) none))) (cond (Nat.ble 37 pc) (cond (Nat.ble 40 pc) (cond (Nat.beq pc 40) (some (.getfield 94, 3)) none) (cond (Nat.beq pc 37) (some (.getfield 62, 3)) none)) (cond (Nat.ble 36 pc) (cond (Nat.beq pc 36) (some (.aload_n 0, 1)) none) (cond (Nat.beq pc 33) (some (.if_icmp .ge 28, 3)) none))))) (cond (Nat.ble 18 pc) (cond (Nat.ble 24 pc) (cond (Nat.ble 26 pc) (cond (Nat.ble 27 pc) (cond (Nat.ble 30 pc) (cond (Nat.beq pc 30) (some (.getfield 71, 3)) none) (cond (Nat.beq pc 27) (some (.getfield 47, 3)) none)) (cond (Nat.beq pc 26) (some (.aload_n 0, 1)) none)) (cond (Nat.ble 25 pc) (cond (Nat.beq pc 25) (some (.iload_n 3, 1)) none) (cond (Nat.beq pc 24) (some (.istore_n 3, 1)) none))) (cond (Nat.ble 22 pc) (cond (Nat.ble 23 pc) (cond (Nat.beq pc 23) (some (.iconst 0, 1)) none) (cond (Nat.beq pc 22) (some (.istore_n 2, 1)) none)) (cond (Nat.ble 21 pc) (cond (Nat.beq pc 21) (some (.iconst 0, 1)) none) (cond (Nat.beq pc 18) (some (.invokevirtual 90, 3)) none)))) (cond (Nat.ble 8 pc) (cond (Nat.ble 12 pc) (cond (Nat.ble 15 pc) (cond (Nat.beq pc 15) (some (.getfield 87, 3)) none) (cond (Nat.beq pc 12) (some (.getfield 83, 3)) none)) (cond (Nat.ble 9 pc) (cond (Nat.beq pc 9) (some (.getfield 47, 3)) none) (cond (Nat.beq pc 8) (some (.aload_n 0, 1)) none))) (cond (Nat.ble 4 pc) (cond (Nat.ble 5 pc) (cond (Nat.beq pc 5) (some (.getfield 47, 3)) none) (cond (Nat.beq pc 4) (some (.aload_n 0, 1)) none)) (cond (Nat.ble 1 pc) (cond (Nat.beq pc 1) (some (.getfield 62, 3)) none) (cond (Nat.beq pc 0) (some (.aload_n 0, 1)) none)))))
def m_X6_sellingOn : jM := (6, yX6_sellingOn, cX6_sellingOn, 4, (some .int), fun pc => cond (Nat.ble 63 pc) none (jt_X6_sellingOn pc))
set_option maxRecDepth 100000 in
theorem dk_X6_sellingOn : ∀ pc q, m_X6_sellingOn.2.2.2.2.2 pc = some q → decode cX6_sellingOn pc = .ok q := jk_sound (N := 63) (t := jt_X6_sellingOn) (by decide +kernel)
set_option maxRecDepth 100000 in
theorem ok_X6_sellingOn : jok m_X6_sellingOn := ⟨dk_X6_sellingOn, jG_in 565 rfl rfl, jG_in 87 rfl rfl, by decide +kernel, by decide +kernel, by decide⟩
set_option maxRecDepth 100000 in
theorem vi_X6_sellingOn : jvirt m_X6_sellingOn := ⟨jG_in 564 rfl rfl, jG_in 14 rfl rfl⟩
def jt_X6_allPurses : Nat → Option (Instr × Nat) := fun pc => cond (Nat.ble 16 pc) (cond (Nat.ble 25 pc) (cond (Nat.ble 30 pc) (cond (Nat.ble 33 pc) (cond (Nat.ble 34 pc) (cond (Nat.beq pc 34) (some (.ireturn, 1)) none) (cond (Nat.beq pc 33) (some (.iload_n 1, 1)) none)) (cond (Nat.beq pc 30) (some (.goto (-26), 3)) none)) (cond (Nat.ble 26 pc) (cond (Nat.ble 27 pc) (cond (Nat.beq pc 27) (some (.iinc 2 1, 3)) none) (cond (Nat.beq pc 26) (some (.istore_n 1, 1)) none)) (cond (Nat.beq pc 25) (some (.iadd, 1)) none))) (cond (Nat.ble 20 pc) (cond (Nat.ble 23 pc) (cond (Nat.ble 24 pc) (cond (Nat.beq pc 24) (some (.iaload, 1)) none) (cond (Nat.beq pc 23) (some (.iload_n 2, 1)) none)) (cond (Nat.beq pc 20) (some (.getfield 121, 3)) none)) (cond (Nat.ble 17 pc) (cond (Nat.beq pc 17) (some (.getfield 47, 3)) none) (cond (Nat.beq pc 16) (some (.aload_n 0, 1)) none)))) (cond (Nat.ble 5 pc) (cond (Nat.ble 9 pc) (cond (Nat.ble 12 pc) (cond (Nat.ble 15 pc) (cond (Nat.beq pc 15) (some (.iload_n 1, 1)) none) (cond (Nat.beq pc 12) (some (.if_icmp .ge 21, 3)) none)) (cond (Nat.beq pc 9) (some (.getfield 71, 3)) none)) (cond (Nat.ble 6 pc) (cond (Nat.beq pc 6) (some (.getfield 47, 3)) none) (cond (Nat.beq pc 5) (some (.aload_n 0, 1)) none))) (cond (Nat.ble 2 pc) (cond (Nat.ble 3 pc) (cond (Nat.ble 4 pc) (cond (Nat.beq pc 4) (some (.iload_n 2, 1)) none) (cond (Nat.beq pc 3) (some (.istore_n 2, 1)) none)) (cond (Nat.beq pc 2) (some (.iconst 0, 1)) none)) (cond (Nat.ble 1 pc) (cond (Nat.beq pc 1) (some (.istore_n 1, 1)) none) (cond (Nat.beq pc 0) (some (.iconst 0, 1)) none))))
def m_X6_allPurses : jM := (6, yX6_allPurses, cX6_allPurses, 3, (some .int), fun pc => cond (Nat.ble 35 pc) none (jt_X6_allPurses pc))
set_option maxRecDepth 100000 in
theorem dk_X6_allPurses : ∀ pc q, m_X6_allPurses.2.2.2.2.2 pc = some q → decode cX6_allPurses pc = .ok q := jk_sound (N := 35) (t := jt_X6_allPurses) (by decide +kernel)
set_option maxRecDepth 100000 in
theorem ok_X6_allPurses : jok m_X6_allPurses := ⟨dk_X6_allPurses, jG_in 569 rfl rfl, jG_in 87 rfl rfl, by decide +kernel, by decide +kernel, by decide⟩
set_option maxRecDepth 100000 in
theorem vi_X6_allPurses : jvirt m_X6_allPurses := ⟨jG_in 568 rfl rfl, jG_in 15 rfl rfl⟩
def jt_X6_goYear : Nat → Option (Instr × Nat) := fun pc => cond (Nat.ble 9 pc) (cond (Nat.ble 13 pc) (cond (Nat.ble 15 pc) (cond (Nat.ble 18 pc) (cond (Nat.beq pc 18) (some (.return_, 1)) none) (cond (Nat.beq pc 15) (some (.invokevirtual 166, 3)) none)) (cond (Nat.beq pc 13) (some (.bipush 12, 2)) none)) (cond (Nat.ble 10 pc) (cond (Nat.beq pc 10) (some (.getfield 62, 3)) none) (cond (Nat.beq pc 9) (some (.aload_n 0, 1)) none))) (cond (Nat.ble 4 pc) (cond (Nat.ble 5 pc) (cond (Nat.ble 6 pc) (cond (Nat.beq pc 6) (some (.invokevirtual 90, 3)) none) (cond (Nat.beq pc 5) (some (.iload_n 2, 1)) none)) (cond (Nat.beq pc 4) (some (.aload_n 1, 1)) none)) (cond (Nat.ble 1 pc) (cond (Nat.beq pc 1) (some (.getfield 62, 3)) none) (cond (Nat.beq pc 0) (some (.aload_n 0, 1)) none)))
def m_X6_goYear : jM := (6, yX6_goYear, cX6_goYear, 3, none, fun pc => cond (Nat.ble 19 pc) none (jt_X6_goYear pc))
set_option maxRecDepth 100000 in
theorem dk_X6_goYear : ∀ pc q, m_X6_goYear.2.2.2.2.2 pc = some q → decode cX6_goYear pc = .ok q := jk_sound (N := 19) (t := jt_X6_goYear) (by decide +kernel)
set_option maxRecDepth 100000 in
theorem ok_X6_goYear : jok m_X6_goYear := ⟨dk_X6_goYear, jG_in 600 rfl rfl, jG_in 87 rfl rfl, by decide +kernel, by decide +kernel, by decide⟩
set_option maxRecDepth 100000 in
theorem vi_X6_goYear : jvirt m_X6_goYear := ⟨jG_in 599 rfl rfl, jG_in 18 rfl rfl⟩
def jt_X6_gainOfOthers : Nat → Option (Instr × Nat) := fun pc => cond (Nat.ble 26 pc) (cond (Nat.ble 40 pc) (cond (Nat.ble 43 pc) (cond (Nat.ble 49 pc) (cond (Nat.ble 50 pc) (cond (Nat.beq pc 50) (some (.ireturn, 1)) none) (cond (Nat.beq pc 49) (some (.iload_n 3, 1)) none)) (cond (Nat.ble 46 pc) (cond (Nat.beq pc 46) (some (.goto (-41), 3)) none) (cond (Nat.beq pc 43) (some (.iinc 4 1, 3)) none))) (cond (Nat.ble 41 pc) (cond (Nat.ble 42 pc) (cond (Nat.beq pc 42) (some (.istore_n 3, 1)) none) (cond (Nat.beq pc 41) (some (.iadd, 1)) none)) (cond (Nat.beq pc 40) (some (.iaload, 1)) none))) (cond (Nat.ble 31 pc) (cond (Nat.ble 35 pc) (cond (Nat.ble 38 pc) (cond (Nat.beq pc 38) (some (.iload 4, 2)) none) (cond (Nat.beq pc 35) (some (.getfield 170, 3)) none)) (cond (Nat.ble 32 pc) (cond (Nat.beq pc 32) (some (.getfield 62, 3)) none) (cond (Nat.beq pc 31) (some (.aload_n 0, 1)) none))) (cond (Nat.ble 27 pc) (cond (Nat.ble 30 pc) (cond (Nat.beq pc 30) (some (.iload_n 3, 1)) none) (cond (Nat.beq pc 27) (some (.ifCond .eq 16, 3)) none)) (cond (Nat.beq pc 26) (some (.baload, 1)) none)))) (cond (Nat.ble 11 pc) (cond (Nat.ble 17 pc) (cond (Nat.ble 21 pc) (cond (Nat.ble 24 pc) (cond (Nat.beq pc 24) (some (.iload 4, 2)) none) (cond (Nat.beq pc 21) (some (.getfield 109, 3)) none)) (cond (Nat.ble 20 pc) (cond (Nat.beq pc 20) (some (.aload_n 1, 1)) none) (cond (Nat.beq pc 17) (some (.if_icmp .eq 26, 3)) none))) (cond (Nat.ble 14 pc) (cond (Nat.ble 16 pc) (cond (Nat.beq pc 16) (some (.iload_n 2, 1)) none) (cond (Nat.beq pc 14) (some (.iload 4, 2)) none)) (cond (Nat.beq pc 11) (some (.if_icmp .ge 38, 3)) none))) (cond (Nat.ble 3 pc) (cond (Nat.ble 7 pc) (cond (Nat.ble 8 pc) (cond (Nat.beq pc 8) (some (.getfield 71, 3)) none) (cond (Nat.beq pc 7) (some (.aload_n 1, 1)) none)) (cond (Nat.ble 5 pc) (cond (Nat.beq pc 5) (some (.iload 4, 2)) none) (cond (Nat.beq pc 3) (some (.istore 4, 2)) none))) (cond (Nat.ble 1 pc) (cond (Nat.ble 2 pc) (cond (Nat.beq pc 2) (some (.iconst 0, 1)) none) (cond (Nat.beq pc 1) (some (.istore_n 3, 1)) none)) (cond (Nat.beq pc 0) (some (.iconst 0, 1)) none))))
def m_X6_gainOfOthers : jM := (6, yX6_gainOfOthers, cX6_gainOfOthers, 5, (some .int), fun pc => cond (Nat.ble 51 pc) none (jt_X6_gainOfOthers pc))
set_option maxRecDepth 100000 in
theorem dk_X6_gainOfOthers : ∀ pc q, m_X6_gainOfOthers.2.2.2.2.2 pc = some q → decode cX6_gainOfOthers pc = .ok q := jk_sound (N := 51) (t := jt_X6_gainOfOthers) (by decide +kernel)
set_option maxRecDepth 100000 in
theorem ok_X6_gainOfOthers : jok m_X6_gainOfOthers := ⟨dk_X6_gainOfOthers, jG_in 659 rfl rfl, jG_in 87 rfl rfl, by decide +kernel, by decide +kernel, by decide⟩
set_option maxRecDepth 100000 in
theorem vi_X6_gainOfOthers : jvirt m_X6_gainOfOthers := ⟨jG_in 658 rfl rfl, jG_in 23 rfl rfl⟩
def jt_X6_tryDays : Nat → Option (Instr × Nat) := fun pc => cond (Nat.ble 32 pc) (cond (Nat.ble 54 pc) (cond (Nat.ble 63 pc) (cond (Nat.ble 65 pc) (cond (Nat.ble 67 pc) (cond (Nat.ble 68 pc) (cond (Nat.beq pc 68) (some (.return_, 1)) none) (cond (Nat.beq pc 67) (some (.iastore, 1)) none)) (cond (Nat.beq pc 65) (some (.iload 4, 2)) none)) (cond (Nat.ble 64 pc) (cond (Nat.beq pc 64) (some (.iload_n 2, 1)) none) (cond (Nat.beq pc 63) (some (.aload_n 1, 1)) none))) (cond (Nat.ble 56 pc) (cond (Nat.ble 57 pc) (cond (Nat.ble 60 pc) (cond (Nat.beq pc 60) (some (.goto (-52), 3)) none) (cond (Nat.beq pc 57) (some (.iinc 5 1, 3)) none)) (cond (Nat.beq pc 56) (some (.iastore, 1)) none)) (cond (Nat.ble 55 pc) (cond (Nat.beq pc 55) (some (.iaload, 1)) none) (cond (Nat.beq pc 54) (some (.iload_n 2, 1)) none)))) (cond (Nat.ble 42 pc) (cond (Nat.ble 47 pc) (cond (Nat.ble 48 pc) (cond (Nat.ble 51 pc) (cond (Nat.beq pc 51) (some (.getfield 170, 3)) none) (cond (Nat.beq pc 48) (some (.getfield 62, 3)) none)) (cond (Nat.beq pc 47) (some (.aload_n 0, 1)) none)) (cond (Nat.ble 45 pc) (cond (Nat.beq pc 45) (some (.iload 5, 2)) none) (cond (Nat.beq pc 42) (some (.getfield 11, 3)) none))) (cond (Nat.ble 36 pc) (cond (Nat.ble 38 pc) (cond (Nat.ble 41 pc) (cond (Nat.beq pc 41) (some (.aload_n 0, 1)) none) (cond (Nat.beq pc 38) (some (.invokevirtual 166, 3)) none)) (cond (Nat.beq pc 36) (some (.bipush 12, 2)) none)) (cond (Nat.ble 33 pc) (cond (Nat.beq pc 33) (some (.getfield 62, 3)) none) (cond (Nat.beq pc 32) (some (.aload_n 0, 1)) none))))) (cond (Nat.ble 15 pc) (cond (Nat.ble 21 pc) (cond (Nat.ble 25 pc) (cond (Nat.ble 28 pc) (cond (Nat.ble 29 pc) (cond (Nat.beq pc 29) (some (.invokevirtual 90, 3)) none) (cond (Nat.beq pc 28) (some (.iload_n 3, 1)) none)) (cond (Nat.beq pc 25) (some (.getfield 54, 3)) none)) (cond (Nat.ble 24 pc) (cond (Nat.beq pc 24) (some (.aload_n 0, 1)) none) (cond (Nat.beq pc 21) (some (.getfield 62, 3)) none))) (cond (Nat.ble 17 pc) (cond (Nat.ble 19 pc) (cond (Nat.ble 20 pc) (cond (Nat.beq pc 20) (some (.aload_n 0, 1)) none) (cond (Nat.beq pc 19) (some (.iastore, 1)) none)) (cond (Nat.beq pc 17) (some (.iload 5, 2)) none)) (cond (Nat.ble 16 pc) (cond (Nat.beq pc 16) (some (.iload_n 2, 1)) none) (cond (Nat.beq pc 15) (some (.aload_n 1, 1)) none)))) (cond (Nat.ble 5 pc) (cond (Nat.ble 8 pc) (cond (Nat.ble 10 pc) (cond (Nat.ble 12 pc) (cond (Nat.beq pc 12) (some (.if_icmp .ge 51, 3)) none) (cond (Nat.beq pc 10) (some (.bipush 12, 2)) none)) (cond (Nat.beq pc 8) (some (.iload 5, 2)) none)) (cond (Nat.ble 6 pc) (cond (Nat.beq pc 6) (some (.istore 5, 2)) none) (cond (Nat.beq pc 5) (some (.iconst 0, 1)) none))) (cond (Nat.ble 2 pc) (cond (Nat.ble 3 pc) (cond (Nat.beq pc 3) (some (.istore 4, 2)) none) (cond (Nat.beq pc 2) (some (.iaload, 1)) none)) (cond (Nat.ble 1 pc) (cond (Nat.beq pc 1) (some (.iload_n 2, 1)) none) (cond (Nat.beq pc 0) (some (.aload_n 1, 1)) none)))))
def m_X6_tryDays : jM := (6, yX6_tryDays, cX6_tryDays, 6, none, fun pc => cond (Nat.ble 69 pc) none (jt_X6_tryDays pc))
set_option maxRecDepth 100000 in
theorem dk_X6_tryDays : ∀ pc q, m_X6_tryDays.2.2.2.2.2 pc = some q → decode cX6_tryDays pc = .ok q := jk_sound (N := 69) (t := jt_X6_tryDays) (by decide +kernel)
set_option maxRecDepth 100000 in
theorem ok_X6_tryDays : jok m_X6_tryDays := ⟨dk_X6_tryDays, jG_in 619 rfl rfl, jG_in 87 rfl rfl, by decide +kernel, by decide +kernel, by decide⟩
set_option maxRecDepth 100000 in
theorem vi_X6_tryDays : jvirt m_X6_tryDays := ⟨jG_in 618 rfl rfl, jG_in 20 rfl rfl⟩
def jt_X6_firstMost : Nat → Option (Instr × Nat) := fun pc => cond (Nat.ble 16 pc) (cond (Nat.ble 25 pc) (cond (Nat.ble 30 pc) (cond (Nat.ble 33 pc) (cond (Nat.ble 34 pc) (cond (Nat.beq pc 34) (some (.ireturn, 1)) none) (cond (Nat.beq pc 33) (some (.iload_n 1, 1)) none)) (cond (Nat.beq pc 30) (some (.goto (-26), 3)) none)) (cond (Nat.ble 26 pc) (cond (Nat.ble 27 pc) (cond (Nat.beq pc 27) (some (.iinc 2 1, 3)) none) (cond (Nat.beq pc 26) (some (.istore_n 1, 1)) none)) (cond (Nat.beq pc 25) (some (.iload_n 2, 1)) none))) (cond (Nat.ble 20 pc) (cond (Nat.ble 21 pc) (cond (Nat.ble 22 pc) (cond (Nat.beq pc 22) (some (.if_icmp .le 5, 3)) none) (cond (Nat.beq pc 21) (some (.iaload, 1)) none)) (cond (Nat.beq pc 20) (some (.iload_n 1, 1)) none)) (cond (Nat.ble 17 pc) (cond (Nat.beq pc 17) (some (.getfield 11, 3)) none) (cond (Nat.beq pc 16) (some (.aload_n 0, 1)) none)))) (cond (Nat.ble 5 pc) (cond (Nat.ble 11 pc) (cond (Nat.ble 14 pc) (cond (Nat.ble 15 pc) (cond (Nat.beq pc 15) (some (.iaload, 1)) none) (cond (Nat.beq pc 14) (some (.iload_n 2, 1)) none)) (cond (Nat.beq pc 11) (some (.getfield 11, 3)) none)) (cond (Nat.ble 7 pc) (cond (Nat.ble 10 pc) (cond (Nat.beq pc 10) (some (.aload_n 0, 1)) none) (cond (Nat.beq pc 7) (some (.if_icmp .ge 26, 3)) none)) (cond (Nat.beq pc 5) (some (.bipush 12, 2)) none))) (cond (Nat.ble 2 pc) (cond (Nat.ble 3 pc) (cond (Nat.ble 4 pc) (cond (Nat.beq pc 4) (some (.iload_n 2, 1)) none) (cond (Nat.beq pc 3) (some (.istore_n 2, 1)) none)) (cond (Nat.beq pc 2) (some (.iconst 1, 1)) none)) (cond (Nat.ble 1 pc) (cond (Nat.beq pc 1) (some (.istore_n 1, 1)) none) (cond (Nat.beq pc 0) (some (.iconst 0, 1)) none))))
def m_X6_firstMost : jM := (6, yX6_firstMost, cX6_firstMost, 3, (some .int), fun pc => cond (Nat.ble 35 pc) none (jt_X6_firstMost pc))
set_option maxRecDepth 100000 in
theorem dk_X6_firstMost : ∀ pc q, m_X6_firstMost.2.2.2.2.2 pc = some q → decode cX6_firstMost pc = .ok q := jk_sound (N := 35) (t := jt_X6_firstMost) (by decide +kernel)
set_option maxRecDepth 100000 in
theorem ok_X6_firstMost : jok m_X6_firstMost := ⟨dk_X6_firstMost, jG_in 623 rfl rfl, jG_in 87 rfl rfl, by decide +kernel, by decide +kernel, by decide⟩
set_option maxRecDepth 100000 in
theorem vi_X6_firstMost : jvirt m_X6_firstMost := ⟨jG_in 622 rfl rfl, jG_in 21 rfl rfl⟩
def jt_X6_bestOf : Nat → Option (Instr × Nat) := fun pc => cond (Nat.ble 20 pc) (cond (Nat.ble 31 pc) (cond (Nat.ble 35 pc) (cond (Nat.ble 37 pc) (cond (Nat.ble 38 pc) (cond (Nat.beq pc 38) (some (.ireturn, 1)) none) (cond (Nat.beq pc 37) (some (.iaload, 1)) none)) (cond (Nat.beq pc 35) (some (.iload 4, 2)) none)) (cond (Nat.ble 32 pc) (cond (Nat.beq pc 32) (some (.getfield 11, 3)) none) (cond (Nat.beq pc 31) (some (.aload_n 0, 1)) none))) (cond (Nat.ble 23 pc) (cond (Nat.ble 26 pc) (cond (Nat.ble 28 pc) (cond (Nat.beq pc 28) (some (.goto 10, 3)) none) (cond (Nat.beq pc 26) (some (.iload 4, 2)) none)) (cond (Nat.beq pc 23) (some (.ifCond .ne 8, 3)) none)) (cond (Nat.ble 22 pc) (cond (Nat.beq pc 22) (some (.iload_n 3, 1)) none) (cond (Nat.beq pc 20) (some (.istore 4, 2)) none)))) (cond (Nat.ble 7 pc) (cond (Nat.ble 13 pc) (cond (Nat.ble 16 pc) (cond (Nat.ble 17 pc) (cond (Nat.beq pc 17) (some (.invokevirtual 269, 3)) none) (cond (Nat.beq pc 16) (some (.aload_n 0, 1)) none)) (cond (Nat.beq pc 13) (some (.invokevirtual 192, 3)) none)) (cond (Nat.ble 10 pc) (cond (Nat.beq pc 10) (some (.getfield 87, 3)) none) (cond (Nat.beq pc 7) (some (.getfield 83, 3)) none))) (cond (Nat.ble 2 pc) (cond (Nat.ble 3 pc) (cond (Nat.ble 4 pc) (cond (Nat.beq pc 4) (some (.getfield 54, 3)) none) (cond (Nat.beq pc 3) (some (.aload_n 0, 1)) none)) (cond (Nat.beq pc 2) (some (.iload_n 2, 1)) none)) (cond (Nat.ble 1 pc) (cond (Nat.beq pc 1) (some (.aload_n 1, 1)) none) (cond (Nat.beq pc 0) (some (.aload_n 0, 1)) none))))
def m_X6_bestOf : jM := (6, yX6_bestOf, cX6_bestOf, 5, (some .int), fun pc => cond (Nat.ble 39 pc) none (jt_X6_bestOf pc))
set_option maxRecDepth 100000 in
theorem dk_X6_bestOf : ∀ pc q, m_X6_bestOf.2.2.2.2.2 pc = some q → decode cX6_bestOf pc = .ok q := jk_sound (N := 39) (t := jt_X6_bestOf) (by decide +kernel)
set_option maxRecDepth 100000 in
theorem ok_X6_bestOf : jok m_X6_bestOf := ⟨dk_X6_bestOf, jG_in 615 rfl rfl, jG_in 87 rfl rfl, by decide +kernel, by decide +kernel, by decide⟩
set_option maxRecDepth 100000 in
theorem vi_X6_bestOf : jvirt m_X6_bestOf := ⟨jG_in 614 rfl rfl, jG_in 19 rfl rfl⟩
def jt_X6_betterPlan : Nat → Option (Instr × Nat) := fun pc => cond (Nat.ble 26 pc) (cond (Nat.ble 36 pc) (cond (Nat.ble 45 pc) (cond (Nat.ble 49 pc) (cond (Nat.ble 51 pc) (cond (Nat.beq pc 51) (some (.ireturn, 1)) none) (cond (Nat.beq pc 49) (some (.iload 4, 2)) none)) (cond (Nat.ble 46 pc) (cond (Nat.beq pc 46) (some (.goto 5, 3)) none) (cond (Nat.beq pc 45) (some (.iload_n 3, 1)) none))) (cond (Nat.ble 41 pc) (cond (Nat.ble 42 pc) (cond (Nat.beq pc 42) (some (.if_icmp .le 7, 3)) none) (cond (Nat.beq pc 41) (some (.iaload, 1)) none)) (cond (Nat.ble 39 pc) (cond (Nat.beq pc 39) (some (.iload 4, 2)) none) (cond (Nat.beq pc 36) (some (.getfield 11, 3)) none)))) (cond (Nat.ble 30 pc) (cond (Nat.ble 34 pc) (cond (Nat.ble 35 pc) (cond (Nat.beq pc 35) (some (.aload_n 0, 1)) none) (cond (Nat.beq pc 34) (some (.iaload, 1)) none)) (cond (Nat.ble 33 pc) (cond (Nat.beq pc 33) (some (.iload_n 3, 1)) none) (cond (Nat.beq pc 30) (some (.getfield 11, 3)) none))) (cond (Nat.ble 27 pc) (cond (Nat.ble 29 pc) (cond (Nat.beq pc 29) (some (.aload_n 0, 1)) none) (cond (Nat.beq pc 27) (some (.istore 4, 2)) none)) (cond (Nat.beq pc 26) (some (.iaload, 1)) none)))) (cond (Nat.ble 13 pc) (cond (Nat.ble 18 pc) (cond (Nat.ble 22 pc) (cond (Nat.ble 25 pc) (cond (Nat.beq pc 25) (some (.iload_n 1, 1)) none) (cond (Nat.beq pc 22) (some (.getfield 106, 3)) none)) (cond (Nat.ble 19 pc) (cond (Nat.beq pc 19) (some (.getfield 54, 3)) none) (cond (Nat.beq pc 18) (some (.aload_n 0, 1)) none))) (cond (Nat.ble 14 pc) (cond (Nat.ble 17 pc) (cond (Nat.beq pc 17) (some (.istore_n 3, 1)) none) (cond (Nat.beq pc 14) (some (.invokevirtual 269, 3)) none)) (cond (Nat.beq pc 13) (some (.aload_n 0, 1)) none))) (cond (Nat.ble 5 pc) (cond (Nat.ble 9 pc) (cond (Nat.ble 10 pc) (cond (Nat.beq pc 10) (some (.invokevirtual 192, 3)) none) (cond (Nat.beq pc 9) (some (.iload_n 2, 1)) none)) (cond (Nat.ble 8 pc) (cond (Nat.beq pc 8) (some (.iload_n 1, 1)) none) (cond (Nat.beq pc 5) (some (.getfield 106, 3)) none))) (cond (Nat.ble 1 pc) (cond (Nat.ble 2 pc) (cond (Nat.beq pc 2) (some (.getfield 54, 3)) none) (cond (Nat.beq pc 1) (some (.aload_n 0, 1)) none)) (cond (Nat.beq pc 0) (some (.aload_n 0, 1)) none))))
def m_X6_betterPlan : jM := (6, yX6_betterPlan, cX6_betterPlan, 5, (some .int), fun pc => cond (Nat.ble 52 pc) none (jt_X6_betterPlan pc))
set_option maxRecDepth 100000 in
theorem dk_X6_betterPlan : ∀ pc q, m_X6_betterPlan.2.2.2.2.2 pc = some q → decode cX6_betterPlan pc = .ok q := jk_sound (N := 52) (t := jt_X6_betterPlan) (by decide +kernel)
set_option maxRecDepth 100000 in
theorem ok_X6_betterPlan : jok m_X6_betterPlan := ⟨dk_X6_betterPlan, jG_in 647 rfl rfl, jG_in 87 rfl rfl, by decide +kernel, by decide +kernel, by decide⟩
set_option maxRecDepth 100000 in
theorem vi_X6_betterPlan : jvirt m_X6_betterPlan := ⟨jG_in 646 rfl rfl, jG_in 22 rfl rfl⟩
def jt_X6_fraction : Nat → Option (Instr × Nat) := fun pc => cond (Nat.ble 26 pc) (cond (Nat.ble 42 pc) (cond (Nat.ble 50 pc) (cond (Nat.ble 52 pc) (cond (Nat.ble 53 pc) (cond (Nat.ble 54 pc) (cond (Nat.beq pc 54) (some (.lreturn, 1)) none) (cond (Nat.beq pc 53) (some (.i2l, 1)) none)) (cond (Nat.beq pc 52) (some (.idiv, 1)) none)) (cond (Nat.ble 51 pc) (cond (Nat.beq pc 51) (some (.iload_n 3, 1)) none) (cond (Nat.beq pc 50) (some (.iload_n 1, 1)) none))) (cond (Nat.ble 46 pc) (cond (Nat.ble 47 pc) (cond (Nat.beq pc 47) (some (.goto 4, 3)) none) (cond (Nat.beq pc 46) (some (.iload_n 0, 1)) none)) (cond (Nat.ble 43 pc) (cond (Nat.beq pc 43) (some (.ifCond .ne 7, 3)) none) (cond (Nat.beq pc 42) (some (.iload_n 2, 1)) none)))) (cond (Nat.ble 32 pc) (cond (Nat.ble 36 pc) (cond (Nat.ble 39 pc) (cond (Nat.beq pc 39) (some (.goto (-20), 3)) none) (cond (Nat.beq pc 36) (some (.iinc 3 (-1), 3)) none)) (cond (Nat.ble 33 pc) (cond (Nat.beq pc 33) (some (.ifCond .eq 9, 3)) none) (cond (Nat.beq pc 32) (some (.irem, 1)) none))) (cond (Nat.ble 30 pc) (cond (Nat.ble 31 pc) (cond (Nat.beq pc 31) (some (.iload_n 3, 1)) none) (cond (Nat.beq pc 30) (some (.iload_n 1, 1)) none)) (cond (Nat.ble 27 pc) (cond (Nat.beq pc 27) (some (.ifCond .ne 9, 3)) none) (cond (Nat.beq pc 26) (some (.irem, 1)) none))))) (cond (Nat.ble 16 pc) (cond (Nat.ble 20 pc) (cond (Nat.ble 24 pc) (cond (Nat.ble 25 pc) (cond (Nat.beq pc 25) (some (.iload_n 3, 1)) none) (cond (Nat.beq pc 24) (some (.iload_n 0, 1)) none)) (cond (Nat.ble 21 pc) (cond (Nat.beq pc 21) (some (.if_icmp .le 21, 3)) none) (cond (Nat.beq pc 20) (some (.iconst 1, 1)) none))) (cond (Nat.ble 18 pc) (cond (Nat.ble 19 pc) (cond (Nat.beq pc 19) (some (.iload_n 3, 1)) none) (cond (Nat.beq pc 18) (some (.istore_n 3, 1)) none)) (cond (Nat.ble 17 pc) (cond (Nat.beq pc 17) (some (.iload_n 1, 1)) none) (cond (Nat.beq pc 16) (some (.lreturn, 1)) none)))) (cond (Nat.ble 8 pc) (cond (Nat.ble 10 pc) (cond (Nat.ble 13 pc) (cond (Nat.beq pc 13) (some (.ldc2_w 203, 3)) none) (cond (Nat.beq pc 10) (some (.if_icmp .le 7, 3)) none)) (cond (Nat.ble 9 pc) (cond (Nat.beq pc 9) (some (.iconst 1, 1)) none) (cond (Nat.beq pc 8) (some (.iload_n 2, 1)) none))) (cond (Nat.ble 4 pc) (cond (Nat.ble 5 pc) (cond (Nat.beq pc 5) (some (.ifCond .lt 8, 3)) none) (cond (Nat.beq pc 4) (some (.iload_n 2, 1)) none)) (cond (Nat.ble 1 pc) (cond (Nat.beq pc 1) (some (.ifCond .le 12, 3)) none) (cond (Nat.beq pc 0) (some (.iload_n 1, 1)) none)))))
def m_X6_fraction : jM := (6, yX6_fraction, cX6_fraction, 4, (some .long), fun pc => cond (Nat.ble 55 pc) none (jt_X6_fraction pc))
set_option maxRecDepth 100000 in
theorem dk_X6_fraction : ∀ pc q, m_X6_fraction.2.2.2.2.2 pc = some q → decode cX6_fraction pc = .ok q := jk_sound (N := 55) (t := jt_X6_fraction) (by decide +kernel)
set_option maxRecDepth 100000 in
theorem ok_X6_fraction : jok m_X6_fraction := ⟨dk_X6_fraction, jG_in 675 rfl rfl, jG_in 87 rfl rfl, by decide +kernel, by decide +kernel, by decide⟩
set_option maxRecDepth 100000 in
theorem st_X6_fraction : jstat m_X6_fraction := jG_in 674 rfl rfl
end
section
theorem jk_soundC {bytes : ByteArray} {N : Nat} {t : Nat → Option (Instr × Nat)} (h : ∀ pc, pc < N → (match t pc with | some q => decide (decode bytes pc = .ok q) | none => true) = true) : ∀ pc q, (cond (Nat.ble N pc) none (t pc)) = some q → decode bytes pc = .ok q := by
  intro pc q hq
  cases hb : Nat.ble N pc with
  | true => rw [hb] at hq; cases hq
  | false =>
    rw [hb] at hq
    have hlt : pc < N := by
      rcases Nat.lt_or_ge pc N with h1 | h1
      · exact h1
      · rw [Nat.ble_eq_true_of_le h1] at hb; cases hb
    have h1 := h pc hlt
    rw [show t pc = some q from hq] at h1
    exact of_decide_eq_true h1
theorem jk_chunk {P : Nat → Bool} {a n : Nat} (h : (List.range' a n).all P = true) {pc : Nat} (h1 : a ≤ pc) (h2 : pc < a + n) : P pc = true := List.all_eq_true.mp h pc (List.mem_range'_1.mpr ⟨h1, h2⟩)
def jt_X7_init : Nat → Option (Instr × Nat) := fun pc => cond (Nat.ble 262 pc) (cond (Nat.ble 399 pc) (cond (Nat.ble 474 pc) (cond (Nat.ble 494 pc) (cond (Nat.ble 508 pc) (cond (Nat.ble 520 pc) (cond (Nat.ble 523 pc) (cond (Nat.ble 525 pc) (cond (Nat.ble 528 pc) (cond (Nat.beq pc 528) (some (.return_, 1)) none) (cond (Nat.beq pc 525) (some (.putfield 191, 3)) none)) (cond (Nat.beq pc 523) (some (.newarray .long, 2)) none)) (cond (Nat.ble 521 pc) (cond (Nat.beq pc 521) (some (.bipush 60, 2)) none) (cond (Nat.beq pc 520) (some (.aload_n 0, 1)) none))) (cond (Nat.ble 512 pc) (cond (Nat.ble 515 pc) (cond (Nat.ble 517 pc) (cond (Nat.beq pc 517) (some (.putfield 187, 3)) none) (cond (Nat.beq pc 515) (some (.newarray .long, 2)) none)) (cond (Nat.beq pc 512) (some (.sipush 360, 3)) none)) (cond (Nat.ble 511 pc) (cond (Nat.beq pc 511) (some (.aload_n 0, 1)) none) (cond (Nat.beq pc 508) (some (.putfield 184, 3)) none)))) (cond (Nat.ble 499 pc) (cond (Nat.ble 503 pc) (cond (Nat.ble 504 pc) (cond (Nat.ble 506 pc) (cond (Nat.beq pc 506) (some (.newarray .int, 2)) none) (cond (Nat.beq pc 504) (some (.bipush 6, 2)) none)) (cond (Nat.beq pc 503) (some (.aload_n 0, 1)) none)) (cond (Nat.ble 500 pc) (cond (Nat.beq pc 500) (some (.putfield 181, 3)) none) (cond (Nat.beq pc 499) (some (.iastore, 1)) none))) (cond (Nat.ble 496 pc) (cond (Nat.ble 497 pc) (cond (Nat.ble 498 pc) (cond (Nat.beq pc 498) (some (.iconst (-1), 1)) none) (cond (Nat.beq pc 497) (some (.iconst 5, 1)) none)) (cond (Nat.beq pc 496) (some (.dup, 1)) none)) (cond (Nat.ble 495 pc) (cond (Nat.beq pc 495) (some (.iastore, 1)) none) (cond (Nat.beq pc 494) (some (.iconst (-1), 1)) none))))) (cond (Nat.ble 484 pc) (cond (Nat.ble 489 pc) (cond (Nat.ble 491 pc) (cond (Nat.ble 492 pc) (cond (Nat.ble 493 pc) (cond (Nat.beq pc 493) (some (.iconst 4, 1)) none) (cond (Nat.beq pc 492) (some (.dup, 1)) none)) (cond (Nat.beq pc 491) (some (.iastore, 1)) none)) (cond (Nat.ble 490 pc) (cond (Nat.beq pc 490) (some (.iconst (-1), 1)) none) (cond (Nat.beq pc 489) (some (.iconst 3, 1)) none))) (cond (Nat.ble 486 pc) (cond (Nat.ble 487 pc) (cond (Nat.ble 488 pc) (cond (Nat.beq pc 488) (some (.dup, 1)) none) (cond (Nat.beq pc 487) (some (.iastore, 1)) none)) (cond (Nat.beq pc 486) (some (.iconst (-1), 1)) none)) (cond (Nat.ble 485 pc) (cond (Nat.beq pc 485) (some (.iconst 2, 1)) none) (cond (Nat.beq pc 484) (some (.dup, 1)) none)))) (cond (Nat.ble 479 pc) (cond (Nat.ble 481 pc) (cond (Nat.ble 482 pc) (cond (Nat.ble 483 pc) (cond (Nat.beq pc 483) (some (.iastore, 1)) none) (cond (Nat.beq pc 482) (some (.iconst (-1), 1)) none)) (cond (Nat.beq pc 481) (some (.iconst 1, 1)) none)) (cond (Nat.ble 480 pc) (cond (Nat.beq pc 480) (some (.dup, 1)) none) (cond (Nat.beq pc 479) (some (.iastore, 1)) none))) (cond (Nat.ble 477 pc) (cond (Nat.ble 478 pc) (cond (Nat.beq pc 478) (some (.iconst (-1), 1)) none) (cond (Nat.beq pc 477) (some (.iconst 0, 1)) none)) (cond (Nat.ble 476 pc) (cond (Nat.beq pc 476) (some (.dup, 1)) none) (cond (Nat.beq pc 474) (some (.newarray .int, 2)) none)))))) (cond (Nat.ble 437 pc) (cond (Nat.ble 455 pc) (cond (Nat.ble 464 pc) (cond (Nat.ble 468 pc) (cond (Nat.ble 471 pc) (cond (Nat.ble 472 pc) (cond (Nat.beq pc 472) (some (.bipush 6, 2)) none) (cond (Nat.beq pc 471) (some (.aload_n 0, 1)) none)) (cond (Nat.beq pc 468) (some (.putfield 178, 3)) none)) (cond (Nat.ble 466 pc) (cond (Nat.beq pc 466) (some (.newarray .int, 2)) none) (cond (Nat.beq pc 464) (some (.bipush 20, 2)) none))) (cond (Nat.ble 459 pc) (cond (Nat.ble 460 pc) (cond (Nat.ble 463 pc) (cond (Nat.beq pc 463) (some (.aload_n 0, 1)) none) (cond (Nat.beq pc 460) (some (.putfield 175, 3)) none)) (cond (Nat.beq pc 459) (some (.iconst 0, 1)) none)) (cond (Nat.ble 458 pc) (cond (Nat.beq pc 458) (some (.aload_n 0, 1)) none) (cond (Nat.beq pc 455) (some (.putfield 172, 3)) none)))) (cond (Nat.ble 445 pc) (cond (Nat.ble 450 pc) (cond (Nat.ble 451 pc) (cond (Nat.ble 453 pc) (cond (Nat.beq pc 453) (some (.newarray .boolean, 2)) none) (cond (Nat.beq pc 451) (some (.bipush 7, 2)) none)) (cond (Nat.beq pc 450) (some (.aload_n 0, 1)) none)) (cond (Nat.ble 447 pc) (cond (Nat.beq pc 447) (some (.putfield 169, 3)) none) (cond (Nat.beq pc 445) (some (.newarray .int, 2)) none))) (cond (Nat.ble 442 pc) (cond (Nat.ble 443 pc) (cond (Nat.beq pc 443) (some (.bipush 12, 2)) none) (cond (Nat.beq pc 442) (some (.aload_n 0, 1)) none)) (cond (Nat.ble 439 pc) (cond (Nat.beq pc 439) (some (.putfield 166, 3)) none) (cond (Nat.beq pc 437) (some (.newarray .int, 2)) none))))) (cond (Nat.ble 418 pc) (cond (Nat.ble 427 pc) (cond (Nat.ble 431 pc) (cond (Nat.ble 434 pc) (cond (Nat.ble 435 pc) (cond (Nat.beq pc 435) (some (.bipush 28, 2)) none) (cond (Nat.beq pc 434) (some (.aload_n 0, 1)) none)) (cond (Nat.beq pc 431) (some (.putfield 163, 3)) none)) (cond (Nat.ble 429 pc) (cond (Nat.beq pc 429) (some (.newarray .int, 2)) none) (cond (Nat.beq pc 427) (some (.bipush 7, 2)) none))) (cond (Nat.ble 421 pc) (cond (Nat.ble 423 pc) (cond (Nat.ble 426 pc) (cond (Nat.beq pc 426) (some (.aload_n 0, 1)) none) (cond (Nat.beq pc 423) (some (.putfield 160, 3)) none)) (cond (Nat.beq pc 421) (some (.newarray .int, 2)) none)) (cond (Nat.ble 419 pc) (cond (Nat.beq pc 419) (some (.bipush 7, 2)) none) (cond (Nat.beq pc 418) (some (.aload_n 0, 1)) none)))) (cond (Nat.ble 407 pc) (cond (Nat.ble 411 pc) (cond (Nat.ble 413 pc) (cond (Nat.ble 415 pc) (cond (Nat.beq pc 415) (some (.putfield 157, 3)) none) (cond (Nat.beq pc 413) (some (.newarray .int, 2)) none)) (cond (Nat.beq pc 411) (some (.bipush 7, 2)) none)) (cond (Nat.ble 410 pc) (cond (Nat.beq pc 410) (some (.aload_n 0, 1)) none) (cond (Nat.beq pc 407) (some (.putfield 154, 3)) none))) (cond (Nat.ble 403 pc) (cond (Nat.ble 405 pc) (cond (Nat.beq pc 405) (some (.newarray .int, 2)) none) (cond (Nat.beq pc 403) (some (.bipush 7, 2)) none)) (cond (Nat.ble 402 pc) (cond (Nat.beq pc 402) (some (.aload_n 0, 1)) none) (cond (Nat.beq pc 399) (some (.putfield 151, 3)) none))))))) (cond (Nat.ble 330 pc) (cond (Nat.ble 365 pc) (cond (Nat.ble 381 pc) (cond (Nat.ble 390 pc) (cond (Nat.ble 394 pc) (cond (Nat.ble 395 pc) (cond (Nat.ble 397 pc) (cond (Nat.beq pc 397) (some (.newarray .int, 2)) none) (cond (Nat.beq pc 395) (some (.bipush 7, 2)) none)) (cond (Nat.beq pc 394) (some (.aload_n 0, 1)) none)) (cond (Nat.ble 391 pc) (cond (Nat.beq pc 391) (some (.putfield 148, 3)) none) (cond (Nat.beq pc 390) (some (.iconst 0, 1)) none))) (cond (Nat.ble 385 pc) (cond (Nat.ble 386 pc) (cond (Nat.ble 389 pc) (cond (Nat.beq pc 389) (some (.aload_n 0, 1)) none) (cond (Nat.beq pc 386) (some (.putfield 145, 3)) none)) (cond (Nat.beq pc 385) (some (.iconst 0, 1)) none)) (cond (Nat.ble 384 pc) (cond (Nat.beq pc 384) (some (.aload_n 0, 1)) none) (cond (Nat.beq pc 381) (some (.putfield 142, 3)) none)))) (cond (Nat.ble 374 pc) (cond (Nat.ble 376 pc) (cond (Nat.ble 379 pc) (cond (Nat.ble 380 pc) (cond (Nat.beq pc 380) (some (.iconst 0, 1)) none) (cond (Nat.beq pc 379) (some (.aload_n 0, 1)) none)) (cond (Nat.beq pc 376) (some (.putfield 139, 3)) none)) (cond (Nat.ble 375 pc) (cond (Nat.beq pc 375) (some (.iconst 0, 1)) none) (cond (Nat.beq pc 374) (some (.aload_n 0, 1)) none))) (cond (Nat.ble 369 pc) (cond (Nat.ble 370 pc) (cond (Nat.ble 371 pc) (cond (Nat.beq pc 371) (some (.putfield 136, 3)) none) (cond (Nat.beq pc 370) (some (.iconst (-1), 1)) none)) (cond (Nat.beq pc 369) (some (.aload_n 0, 1)) none)) (cond (Nat.ble 366 pc) (cond (Nat.beq pc 366) (some (.putfield 132, 3)) none) (cond (Nat.beq pc 365) (some (.iconst 0, 1)) none))))) (cond (Nat.ble 346 pc) (cond (Nat.ble 356 pc) (cond (Nat.ble 359 pc) (cond (Nat.ble 361 pc) (cond (Nat.ble 364 pc) (cond (Nat.beq pc 364) (some (.aload_n 0, 1)) none) (cond (Nat.beq pc 361) (some (.putfield 129, 3)) none)) (cond (Nat.beq pc 359) (some (.newarray .int, 2)) none)) (cond (Nat.ble 357 pc) (cond (Nat.beq pc 357) (some (.bipush 12, 2)) none) (cond (Nat.beq pc 356) (some (.aload_n 0, 1)) none))) (cond (Nat.ble 351 pc) (cond (Nat.ble 352 pc) (cond (Nat.ble 353 pc) (cond (Nat.beq pc 353) (some (.putfield 126, 3)) none) (cond (Nat.beq pc 352) (some (.iconst 0, 1)) none)) (cond (Nat.beq pc 351) (some (.aload_n 0, 1)) none)) (cond (Nat.ble 348 pc) (cond (Nat.beq pc 348) (some (.putfield 123, 3)) none) (cond (Nat.beq pc 346) (some (.newarray .int, 2)) none)))) (cond (Nat.ble 336 pc) (cond (Nat.ble 340 pc) (cond (Nat.ble 343 pc) (cond (Nat.ble 344 pc) (cond (Nat.beq pc 344) (some (.bipush 7, 2)) none) (cond (Nat.beq pc 343) (some (.aload_n 0, 1)) none)) (cond (Nat.beq pc 340) (some (.putfield 120, 3)) none)) (cond (Nat.ble 338 pc) (cond (Nat.beq pc 338) (some (.newarray .int, 2)) none) (cond (Nat.beq pc 336) (some (.bipush 7, 2)) none))) (cond (Nat.ble 332 pc) (cond (Nat.ble 335 pc) (cond (Nat.beq pc 335) (some (.aload_n 0, 1)) none) (cond (Nat.beq pc 332) (some (.putfield 117, 3)) none)) (cond (Nat.ble 331 pc) (cond (Nat.beq pc 331) (some (.iconst 0, 1)) none) (cond (Nat.beq pc 330) (some (.aload_n 0, 1)) none)))))) (cond (Nat.ble 294 pc) (cond (Nat.ble 312 pc) (cond (Nat.ble 320 pc) (cond (Nat.ble 325 pc) (cond (Nat.ble 326 pc) (cond (Nat.ble 327 pc) (cond (Nat.beq pc 327) (some (.putfield 114, 3)) none) (cond (Nat.beq pc 326) (some (.iconst 0, 1)) none)) (cond (Nat.beq pc 325) (some (.aload_n 0, 1)) none)) (cond (Nat.ble 322 pc) (cond (Nat.beq pc 322) (some (.putfield 111, 3)) none) (cond (Nat.beq pc 320) (some (.newarray .int, 2)) none))) (cond (Nat.ble 314 pc) (cond (Nat.ble 317 pc) (cond (Nat.ble 318 pc) (cond (Nat.beq pc 318) (some (.bipush 7, 2)) none) (cond (Nat.beq pc 317) (some (.aload_n 0, 1)) none)) (cond (Nat.beq pc 314) (some (.putfield 108, 3)) none)) (cond (Nat.ble 313 pc) (cond (Nat.beq pc 313) (some (.iconst 0, 1)) none) (cond (Nat.beq pc 312) (some (.aload_n 0, 1)) none)))) (cond (Nat.ble 302 pc) (cond (Nat.ble 307 pc) (cond (Nat.ble 308 pc) (cond (Nat.ble 309 pc) (cond (Nat.beq pc 309) (some (.putfield 105, 3)) none) (cond (Nat.beq pc 308) (some (.iconst 0, 1)) none)) (cond (Nat.beq pc 307) (some (.aload_n 0, 1)) none)) (cond (Nat.ble 304 pc) (cond (Nat.beq pc 304) (some (.putfield 102, 3)) none) (cond (Nat.beq pc 302) (some (.newarray .int, 2)) none))) (cond (Nat.ble 299 pc) (cond (Nat.ble 300 pc) (cond (Nat.beq pc 300) (some (.bipush 7, 2)) none) (cond (Nat.beq pc 299) (some (.aload_n 0, 1)) none)) (cond (Nat.ble 296 pc) (cond (Nat.beq pc 296) (some (.putfield 99, 3)) none) (cond (Nat.beq pc 294) (some (.newarray .int, 2)) none))))) (cond (Nat.ble 275 pc) (cond (Nat.ble 284 pc) (cond (Nat.ble 288 pc) (cond (Nat.ble 291 pc) (cond (Nat.ble 292 pc) (cond (Nat.beq pc 292) (some (.bipush 7, 2)) none) (cond (Nat.beq pc 291) (some (.aload_n 0, 1)) none)) (cond (Nat.beq pc 288) (some (.putfield 96, 3)) none)) (cond (Nat.ble 286 pc) (cond (Nat.beq pc 286) (some (.newarray .boolean, 2)) none) (cond (Nat.beq pc 284) (some (.bipush 100, 2)) none))) (cond (Nat.ble 279 pc) (cond (Nat.ble 280 pc) (cond (Nat.ble 283 pc) (cond (Nat.beq pc 283) (some (.aload_n 0, 1)) none) (cond (Nat.beq pc 280) (some (.putfield 93, 3)) none)) (cond (Nat.beq pc 279) (some (.iconst (-1), 1)) none)) (cond (Nat.ble 278 pc) (cond (Nat.beq pc 278) (some (.aload_n 0, 1)) none) (cond (Nat.beq pc 275) (some (.putfield 90, 3)) none)))) (cond (Nat.ble 268 pc) (cond (Nat.ble 270 pc) (cond (Nat.ble 272 pc) (cond (Nat.ble 274 pc) (cond (Nat.beq pc 274) (some (.iastore, 1)) none) (cond (Nat.beq pc 272) (some (.bipush 116, 2)) none)) (cond (Nat.beq pc 270) (some (.bipush 15, 2)) none)) (cond (Nat.ble 269 pc) (cond (Nat.beq pc 269) (some (.dup, 1)) none) (cond (Nat.beq pc 268) (some (.iastore, 1)) none))) (cond (Nat.ble 264 pc) (cond (Nat.ble 266 pc) (cond (Nat.beq pc 266) (some (.bipush 115, 2)) none) (cond (Nat.beq pc 264) (some (.bipush 14, 2)) none)) (cond (Nat.ble 263 pc) (cond (Nat.beq pc 263) (some (.dup, 1)) none) (cond (Nat.beq pc 262) (some (.iastore, 1)) none)))))))) (cond (Nat.ble 143 pc) (cond (Nat.ble 205 pc) (cond (Nat.ble 232 pc) (cond (Nat.ble 246 pc) (cond (Nat.ble 254 pc) (cond (Nat.ble 257 pc) (cond (Nat.ble 258 pc) (cond (Nat.ble 260 pc) (cond (Nat.beq pc 260) (some (.bipush 97, 2)) none) (cond (Nat.beq pc 258) (some (.bipush 13, 2)) none)) (cond (Nat.beq pc 257) (some (.dup, 1)) none)) (cond (Nat.ble 256 pc) (cond (Nat.beq pc 256) (some (.iastore, 1)) none) (cond (Nat.beq pc 254) (some (.bipush 101, 2)) none))) (cond (Nat.ble 250 pc) (cond (Nat.ble 251 pc) (cond (Nat.ble 252 pc) (cond (Nat.beq pc 252) (some (.bipush 12, 2)) none) (cond (Nat.beq pc 251) (some (.dup, 1)) none)) (cond (Nat.beq pc 250) (some (.iastore, 1)) none)) (cond (Nat.ble 248 pc) (cond (Nat.beq pc 248) (some (.bipush 102, 2)) none) (cond (Nat.beq pc 246) (some (.bipush 11, 2)) none)))) (cond (Nat.ble 239 pc) (cond (Nat.ble 242 pc) (cond (Nat.ble 244 pc) (cond (Nat.ble 245 pc) (cond (Nat.beq pc 245) (some (.dup, 1)) none) (cond (Nat.beq pc 244) (some (.iastore, 1)) none)) (cond (Nat.beq pc 242) (some (.bipush 116, 2)) none)) (cond (Nat.ble 240 pc) (cond (Nat.beq pc 240) (some (.bipush 10, 2)) none) (cond (Nat.beq pc 239) (some (.dup, 1)) none))) (cond (Nat.ble 234 pc) (cond (Nat.ble 236 pc) (cond (Nat.ble 238 pc) (cond (Nat.beq pc 238) (some (.iastore, 1)) none) (cond (Nat.beq pc 236) (some (.bipush 115, 2)) none)) (cond (Nat.beq pc 234) (some (.bipush 9, 2)) none)) (cond (Nat.ble 233 pc) (cond (Nat.beq pc 233) (some (.dup, 1)) none) (cond (Nat.beq pc 232) (some (.iastore, 1)) none))))) (cond (Nat.ble 216 pc) (cond (Nat.ble 224 pc) (cond (Nat.ble 227 pc) (cond (Nat.ble 228 pc) (cond (Nat.ble 230 pc) (cond (Nat.beq pc 230) (some (.bipush 111, 2)) none) (cond (Nat.beq pc 228) (some (.bipush 8, 2)) none)) (cond (Nat.beq pc 227) (some (.dup, 1)) none)) (cond (Nat.ble 226 pc) (cond (Nat.beq pc 226) (some (.iastore, 1)) none) (cond (Nat.beq pc 224) (some (.bipush 99, 2)) none))) (cond (Nat.ble 220 pc) (cond (Nat.ble 221 pc) (cond (Nat.ble 222 pc) (cond (Nat.beq pc 222) (some (.bipush 7, 2)) none) (cond (Nat.beq pc 221) (some (.dup, 1)) none)) (cond (Nat.beq pc 220) (some (.iastore, 1)) none)) (cond (Nat.ble 218 pc) (cond (Nat.beq pc 218) (some (.bipush 101, 2)) none) (cond (Nat.beq pc 216) (some (.bipush 6, 2)) none)))) (cond (Nat.ble 210 pc) (cond (Nat.ble 212 pc) (cond (Nat.ble 214 pc) (cond (Nat.ble 215 pc) (cond (Nat.beq pc 215) (some (.dup, 1)) none) (cond (Nat.beq pc 214) (some (.iastore, 1)) none)) (cond (Nat.beq pc 212) (some (.bipush 117, 2)) none)) (cond (Nat.ble 211 pc) (cond (Nat.beq pc 211) (some (.iconst 5, 1)) none) (cond (Nat.beq pc 210) (some (.dup, 1)) none))) (cond (Nat.ble 207 pc) (cond (Nat.ble 209 pc) (cond (Nat.beq pc 209) (some (.iastore, 1)) none) (cond (Nat.beq pc 207) (some (.bipush 100, 2)) none)) (cond (Nat.ble 206 pc) (cond (Nat.beq pc 206) (some (.iconst 4, 1)) none) (cond (Nat.beq pc 205) (some (.dup, 1)) none)))))) (cond (Nat.ble 180 pc) (cond (Nat.ble 192 pc) (cond (Nat.ble 199 pc) (cond (Nat.ble 201 pc) (cond (Nat.ble 202 pc) (cond (Nat.ble 204 pc) (cond (Nat.beq pc 204) (some (.iastore, 1)) none) (cond (Nat.beq pc 202) (some (.bipush 101, 2)) none)) (cond (Nat.beq pc 201) (some (.iconst 3, 1)) none)) (cond (Nat.ble 200 pc) (cond (Nat.beq pc 200) (some (.dup, 1)) none) (cond (Nat.beq pc 199) (some (.iastore, 1)) none))) (cond (Nat.ble 195 pc) (cond (Nat.ble 196 pc) (cond (Nat.ble 197 pc) (cond (Nat.beq pc 197) (some (.bipush 107, 2)) none) (cond (Nat.beq pc 196) (some (.iconst 2, 1)) none)) (cond (Nat.beq pc 195) (some (.dup, 1)) none)) (cond (Nat.ble 194 pc) (cond (Nat.beq pc 194) (some (.iastore, 1)) none) (cond (Nat.beq pc 192) (some (.bipush 97, 2)) none)))) (cond (Nat.ble 186 pc) (cond (Nat.ble 189 pc) (cond (Nat.ble 190 pc) (cond (Nat.ble 191 pc) (cond (Nat.beq pc 191) (some (.iconst 1, 1)) none) (cond (Nat.beq pc 190) (some (.dup, 1)) none)) (cond (Nat.beq pc 189) (some (.iastore, 1)) none)) (cond (Nat.ble 187 pc) (cond (Nat.beq pc 187) (some (.bipush 116, 2)) none) (cond (Nat.beq pc 186) (some (.iconst 0, 1)) none))) (cond (Nat.ble 183 pc) (cond (Nat.ble 185 pc) (cond (Nat.beq pc 185) (some (.dup, 1)) none) (cond (Nat.beq pc 183) (some (.newarray .int, 2)) none)) (cond (Nat.ble 181 pc) (cond (Nat.beq pc 181) (some (.bipush 16, 2)) none) (cond (Nat.beq pc 180) (some (.aload_n 0, 1)) none))))) (cond (Nat.ble 162 pc) (cond (Nat.ble 171 pc) (cond (Nat.ble 175 pc) (cond (Nat.ble 176 pc) (cond (Nat.ble 177 pc) (cond (Nat.beq pc 177) (some (.putfield 87, 3)) none) (cond (Nat.beq pc 176) (some (.iconst 0, 1)) none)) (cond (Nat.beq pc 175) (some (.aload_n 0, 1)) none)) (cond (Nat.ble 172 pc) (cond (Nat.beq pc 172) (some (.putfield 84, 3)) none) (cond (Nat.beq pc 171) (some (.iconst 0, 1)) none))) (cond (Nat.ble 166 pc) (cond (Nat.ble 167 pc) (cond (Nat.ble 170 pc) (cond (Nat.beq pc 170) (some (.aload_n 0, 1)) none) (cond (Nat.beq pc 167) (some (.putfield 81, 3)) none)) (cond (Nat.beq pc 166) (some (.iconst 0, 1)) none)) (cond (Nat.ble 165 pc) (cond (Nat.beq pc 165) (some (.aload_n 0, 1)) none) (cond (Nat.beq pc 162) (some (.putfield 78, 3)) none)))) (cond (Nat.ble 152 pc) (cond (Nat.ble 157 pc) (cond (Nat.ble 158 pc) (cond (Nat.ble 160 pc) (cond (Nat.beq pc 160) (some (.newarray .int, 2)) none) (cond (Nat.beq pc 158) (some (.bipush 101, 2)) none)) (cond (Nat.beq pc 157) (some (.aload_n 0, 1)) none)) (cond (Nat.ble 154 pc) (cond (Nat.beq pc 154) (some (.putfield 75, 3)) none) (cond (Nat.beq pc 152) (some (.newarray .int, 2)) none))) (cond (Nat.ble 148 pc) (cond (Nat.ble 149 pc) (cond (Nat.beq pc 149) (some (.sipush 600, 3)) none) (cond (Nat.beq pc 148) (some (.aload_n 0, 1)) none)) (cond (Nat.ble 145 pc) (cond (Nat.beq pc 145) (some (.putfield 72, 3)) none) (cond (Nat.beq pc 143) (some (.newarray .int, 2)) none))))))) (cond (Nat.ble 72 pc) (cond (Nat.ble 105 pc) (cond (Nat.ble 124 pc) (cond (Nat.ble 133 pc) (cond (Nat.ble 137 pc) (cond (Nat.ble 140 pc) (cond (Nat.ble 141 pc) (cond (Nat.beq pc 141) (some (.bipush 60, 2)) none) (cond (Nat.beq pc 140) (some (.aload_n 0, 1)) none)) (cond (Nat.beq pc 137) (some (.putfield 69, 3)) none)) (cond (Nat.ble 135 pc) (cond (Nat.beq pc 135) (some (.newarray .int, 2)) none) (cond (Nat.beq pc 133) (some (.bipush 60, 2)) none))) (cond (Nat.ble 127 pc) (cond (Nat.ble 129 pc) (cond (Nat.ble 132 pc) (cond (Nat.beq pc 132) (some (.aload_n 0, 1)) none) (cond (Nat.beq pc 129) (some (.putfield 66, 3)) none)) (cond (Nat.beq pc 127) (some (.newarray .int, 2)) none)) (cond (Nat.ble 125 pc) (cond (Nat.beq pc 125) (some (.bipush 60, 2)) none) (cond (Nat.beq pc 124) (some (.aload_n 0, 1)) none)))) (cond (Nat.ble 113 pc) (cond (Nat.ble 117 pc) (cond (Nat.ble 119 pc) (cond (Nat.ble 121 pc) (cond (Nat.beq pc 121) (some (.putfield 63, 3)) none) (cond (Nat.beq pc 119) (some (.newarray .int, 2)) none)) (cond (Nat.beq pc 117) (some (.bipush 60, 2)) none)) (cond (Nat.ble 116 pc) (cond (Nat.beq pc 116) (some (.aload_n 0, 1)) none) (cond (Nat.beq pc 113) (some (.putfield 60, 3)) none))) (cond (Nat.ble 109 pc) (cond (Nat.ble 111 pc) (cond (Nat.beq pc 111) (some (.newarray .int, 2)) none) (cond (Nat.beq pc 109) (some (.bipush 6, 2)) none)) (cond (Nat.ble 108 pc) (cond (Nat.beq pc 108) (some (.aload_n 0, 1)) none) (cond (Nat.beq pc 105) (some (.putfield 57, 3)) none))))) (cond (Nat.ble 87 pc) (cond (Nat.ble 96 pc) (cond (Nat.ble 100 pc) (cond (Nat.ble 101 pc) (cond (Nat.ble 103 pc) (cond (Nat.beq pc 103) (some (.newarray .int, 2)) none) (cond (Nat.beq pc 101) (some (.bipush 100, 2)) none)) (cond (Nat.beq pc 100) (some (.aload_n 0, 1)) none)) (cond (Nat.ble 97 pc) (cond (Nat.beq pc 97) (some (.putfield 54, 3)) none) (cond (Nat.beq pc 96) (some (.iconst 0, 1)) none))) (cond (Nat.ble 91 pc) (cond (Nat.ble 92 pc) (cond (Nat.ble 95 pc) (cond (Nat.beq pc 95) (some (.aload_n 0, 1)) none) (cond (Nat.beq pc 92) (some (.putfield 51, 3)) none)) (cond (Nat.beq pc 91) (some (.iconst 0, 1)) none)) (cond (Nat.ble 90 pc) (cond (Nat.beq pc 90) (some (.aload_n 0, 1)) none) (cond (Nat.beq pc 87) (some (.putfield 48, 3)) none)))) (cond (Nat.ble 80 pc) (cond (Nat.ble 82 pc) (cond (Nat.ble 85 pc) (cond (Nat.ble 86 pc) (cond (Nat.beq pc 86) (some (.iconst 0, 1)) none) (cond (Nat.beq pc 85) (some (.aload_n 0, 1)) none)) (cond (Nat.beq pc 82) (some (.putfield 45, 3)) none)) (cond (Nat.ble 81 pc) (cond (Nat.beq pc 81) (some (.iconst (-1), 1)) none) (cond (Nat.beq pc 80) (some (.aload_n 0, 1)) none))) (cond (Nat.ble 76 pc) (cond (Nat.ble 77 pc) (cond (Nat.beq pc 77) (some (.putfield 42, 3)) none) (cond (Nat.beq pc 76) (some (.iconst 0, 1)) none)) (cond (Nat.ble 75 pc) (cond (Nat.beq pc 75) (some (.aload_n 0, 1)) none) (cond (Nat.beq pc 72) (some (.putfield 38, 3)) none)))))) (cond (Nat.ble 35 pc) (cond (Nat.ble 52 pc) (cond (Nat.ble 62 pc) (cond (Nat.ble 67 pc) (cond (Nat.ble 68 pc) (cond (Nat.ble 70 pc) (cond (Nat.beq pc 70) (some (.newarray .boolean, 2)) none) (cond (Nat.beq pc 68) (some (.bipush 7, 2)) none)) (cond (Nat.beq pc 67) (some (.aload_n 0, 1)) none)) (cond (Nat.ble 64 pc) (cond (Nat.beq pc 64) (some (.putfield 35, 3)) none) (cond (Nat.beq pc 62) (some (.newarray .int, 2)) none))) (cond (Nat.ble 56 pc) (cond (Nat.ble 59 pc) (cond (Nat.ble 60 pc) (cond (Nat.beq pc 60) (some (.bipush 28, 2)) none) (cond (Nat.beq pc 59) (some (.aload_n 0, 1)) none)) (cond (Nat.beq pc 56) (some (.putfield 32, 3)) none)) (cond (Nat.ble 54 pc) (cond (Nat.beq pc 54) (some (.newarray .int, 2)) none) (cond (Nat.beq pc 52) (some (.bipush 7, 2)) none)))) (cond (Nat.ble 43 pc) (cond (Nat.ble 46 pc) (cond (Nat.ble 48 pc) (cond (Nat.ble 51 pc) (cond (Nat.beq pc 51) (some (.aload_n 0, 1)) none) (cond (Nat.beq pc 48) (some (.putfield 29, 3)) none)) (cond (Nat.beq pc 46) (some (.newarray .int, 2)) none)) (cond (Nat.ble 44 pc) (cond (Nat.beq pc 44) (some (.bipush 7, 2)) none) (cond (Nat.beq pc 43) (some (.aload_n 0, 1)) none))) (cond (Nat.ble 38 pc) (cond (Nat.ble 40 pc) (cond (Nat.beq pc 40) (some (.putfield 26, 3)) none) (cond (Nat.beq pc 38) (some (.newarray .int, 2)) none)) (cond (Nat.ble 36 pc) (cond (Nat.beq pc 36) (some (.bipush 7, 2)) none) (cond (Nat.beq pc 35) (some (.aload_n 0, 1)) none))))) (cond (Nat.ble 15 pc) (cond (Nat.ble 24 pc) (cond (Nat.ble 28 pc) (cond (Nat.ble 30 pc) (cond (Nat.ble 32 pc) (cond (Nat.beq pc 32) (some (.putfield 23, 3)) none) (cond (Nat.beq pc 30) (some (.newarray .int, 2)) none)) (cond (Nat.beq pc 28) (some (.bipush 7, 2)) none)) (cond (Nat.ble 27 pc) (cond (Nat.beq pc 27) (some (.aload_n 0, 1)) none) (cond (Nat.beq pc 24) (some (.putfield 19, 3)) none))) (cond (Nat.ble 19 pc) (cond (Nat.ble 20 pc) (cond (Nat.ble 22 pc) (cond (Nat.beq pc 22) (some (.newarray .int, 2)) none) (cond (Nat.beq pc 20) (some (.bipush 7, 2)) none)) (cond (Nat.beq pc 19) (some (.aload_n 0, 1)) none)) (cond (Nat.ble 16 pc) (cond (Nat.beq pc 16) (some (.putfield 16, 3)) none) (cond (Nat.beq pc 15) (some (.iconst 0, 1)) none)))) (cond (Nat.ble 6 pc) (cond (Nat.ble 10 pc) (cond (Nat.ble 11 pc) (cond (Nat.ble 14 pc) (cond (Nat.beq pc 14) (some (.aload_n 0, 1)) none) (cond (Nat.beq pc 11) (some (.putfield 13, 3)) none)) (cond (Nat.beq pc 10) (some (.iconst 0, 1)) none)) (cond (Nat.ble 9 pc) (cond (Nat.beq pc 9) (some (.aload_n 0, 1)) none) (cond (Nat.beq pc 6) (some (.putfield 7, 3)) none))) (cond (Nat.ble 4 pc) (cond (Nat.ble 5 pc) (cond (Nat.beq pc 5) (some (.iconst 0, 1)) none) (cond (Nat.beq pc 4) (some (.aload_n 0, 1)) none)) (cond (Nat.ble 1 pc) (cond (Nat.beq pc 1) (some (.invokespecial 1, 3)) none) (cond (Nat.beq pc 0) (some (.aload_n 0, 1)) none))))))))
def m_X7_init : jM := (7, yX7_init, cX7_init, 1, none, fun pc => cond (Nat.ble 529 pc) none (jt_X7_init pc))
def jb_X7_init : Nat → Bool := fun pc => match jt_X7_init pc with | some q => decide (decode cX7_init pc = .ok q) | none => true
set_option maxRecDepth 100000 in
theorem dc_X7_init_0 : (List.range' 0 60).all jb_X7_init = true := by decide +kernel
set_option maxRecDepth 100000 in
theorem dc_X7_init_60 : (List.range' 60 60).all jb_X7_init = true := by decide +kernel
set_option maxRecDepth 100000 in
theorem dc_X7_init_120 : (List.range' 120 60).all jb_X7_init = true := by decide +kernel
set_option maxRecDepth 100000 in
theorem dc_X7_init_180 : (List.range' 180 60).all jb_X7_init = true := by decide +kernel
set_option maxRecDepth 100000 in
theorem dc_X7_init_240 : (List.range' 240 60).all jb_X7_init = true := by decide +kernel
set_option maxRecDepth 100000 in
theorem dc_X7_init_300 : (List.range' 300 60).all jb_X7_init = true := by decide +kernel
set_option maxRecDepth 100000 in
theorem dc_X7_init_360 : (List.range' 360 60).all jb_X7_init = true := by decide +kernel
set_option maxRecDepth 100000 in
theorem dc_X7_init_420 : (List.range' 420 60).all jb_X7_init = true := by decide +kernel
set_option maxRecDepth 100000 in
theorem dc_X7_init_480 : (List.range' 480 49).all jb_X7_init = true := by decide +kernel
theorem dk_X7_init : ∀ pc q, m_X7_init.2.2.2.2.2 pc = some q → decode cX7_init pc = .ok q := jk_soundC (N := 529) (t := jt_X7_init) (fun pc hp => by
  rcases Nat.lt_or_ge pc 60 with h0 | h0
  · exact jk_chunk dc_X7_init_0 (by omega) (by omega)
  rcases Nat.lt_or_ge pc 120 with h60 | h60
  · exact jk_chunk dc_X7_init_60 (by omega) (by omega)
  rcases Nat.lt_or_ge pc 180 with h120 | h120
  · exact jk_chunk dc_X7_init_120 (by omega) (by omega)
  rcases Nat.lt_or_ge pc 240 with h180 | h180
  · exact jk_chunk dc_X7_init_180 (by omega) (by omega)
  rcases Nat.lt_or_ge pc 300 with h240 | h240
  · exact jk_chunk dc_X7_init_240 (by omega) (by omega)
  rcases Nat.lt_or_ge pc 360 with h300 | h300
  · exact jk_chunk dc_X7_init_300 (by omega) (by omega)
  rcases Nat.lt_or_ge pc 420 with h360 | h360
  · exact jk_chunk dc_X7_init_360 (by omega) (by omega)
  rcases Nat.lt_or_ge pc 480 with h420 | h420
  · exact jk_chunk dc_X7_init_420 (by omega) (by omega)
  exact jk_chunk dc_X7_init_480 (by omega) (by omega))
set_option maxRecDepth 100000 in
theorem ok_X7_init : jok m_X7_init := ⟨dk_X7_init, jG_in 781 rfl rfl, jG_in 94 rfl rfl, by decide +kernel, by decide +kernel, by decide⟩
set_option maxRecDepth 100000 in
theorem in_X7_init : jinit m_X7_init := ⟨rfl, jG_in 780 rfl rfl, rfl⟩
def jt_X7_in : Nat → Option (Instr × Nat) := fun pc => cond (Nat.ble 7 pc) (cond (Nat.ble 11 pc) (cond (Nat.ble 14 pc) (cond (Nat.ble 15 pc) (cond (Nat.beq pc 15) (some (.ireturn, 1)) none) (cond (Nat.beq pc 14) (some (.iconst 0, 1)) none)) (cond (Nat.beq pc 11) (some (.goto 4, 3)) none)) (cond (Nat.ble 10 pc) (cond (Nat.beq pc 10) (some (.iconst 1, 1)) none) (cond (Nat.beq pc 7) (some (.if_icmp .gt 7, 3)) none))) (cond (Nat.ble 2 pc) (cond (Nat.ble 5 pc) (cond (Nat.ble 6 pc) (cond (Nat.beq pc 6) (some (.iload_n 3, 1)) none) (cond (Nat.beq pc 5) (some (.iload_n 1, 1)) none)) (cond (Nat.beq pc 2) (some (.if_icmp .lt 12, 3)) none)) (cond (Nat.ble 1 pc) (cond (Nat.beq pc 1) (some (.iload_n 2, 1)) none) (cond (Nat.beq pc 0) (some (.iload_n 1, 1)) none)))
def m_X7_in : jM := (7, yX7_in, cX7_in, 4, (some .boolean), fun pc => cond (Nat.ble 16 pc) none (jt_X7_in pc))
set_option maxRecDepth 100000 in
theorem dk_X7_in : ∀ pc q, m_X7_in.2.2.2.2.2 pc = some q → decode cX7_in pc = .ok q := jk_sound (N := 16) (t := jt_X7_in) (by decide +kernel)
set_option maxRecDepth 100000 in
theorem ok_X7_in : jok m_X7_in := ⟨dk_X7_in, jG_in 971 rfl rfl, jG_in 94 rfl rfl, by decide +kernel, by decide +kernel, by decide⟩
set_option maxRecDepth 100000 in
theorem vi_X7_in : jvirt m_X7_in := ⟨jG_in 970 rfl rfl, jG_in 28 rfl rfl⟩
def jt_X7_isPerson : Nat → Option (Instr × Nat) := fun pc => cond (Nat.ble 4 pc) (cond (Nat.ble 8 pc) (cond (Nat.ble 9 pc) (cond (Nat.ble 12 pc) (cond (Nat.beq pc 12) (some (.ireturn, 1)) none) (cond (Nat.beq pc 9) (some (.invokevirtual 194, 3)) none)) (cond (Nat.beq pc 8) (some (.isub, 1)) none)) (cond (Nat.ble 7 pc) (cond (Nat.beq pc 7) (some (.iconst 1, 1)) none) (cond (Nat.beq pc 4) (some (.getfield 7, 3)) none))) (cond (Nat.ble 2 pc) (cond (Nat.ble 3 pc) (cond (Nat.beq pc 3) (some (.aload_n 0, 1)) none) (cond (Nat.beq pc 2) (some (.iconst 0, 1)) none)) (cond (Nat.ble 1 pc) (cond (Nat.beq pc 1) (some (.iload_n 1, 1)) none) (cond (Nat.beq pc 0) (some (.aload_n 0, 1)) none)))
def m_X7_isPerson : jM := (7, yX7_isPerson, cX7_isPerson, 2, (some .boolean), fun pc => cond (Nat.ble 13 pc) none (jt_X7_isPerson pc))
set_option maxRecDepth 100000 in
theorem dk_X7_isPerson : ∀ pc q, m_X7_isPerson.2.2.2.2.2 pc = some q → decode cX7_isPerson pc = .ok q := jk_sound (N := 13) (t := jt_X7_isPerson) (by decide +kernel)
set_option maxRecDepth 100000 in
theorem ok_X7_isPerson : jok m_X7_isPerson := ⟨dk_X7_isPerson, jG_in 987 rfl rfl, jG_in 94 rfl rfl, by decide +kernel, by decide +kernel, by decide⟩
set_option maxRecDepth 100000 in
theorem vi_X7_isPerson : jvirt m_X7_isPerson := ⟨jG_in 986 rfl rfl, jG_in 31 rfl rfl⟩
def jt_X7_isDay : Nat → Option (Instr × Nat) := fun pc => cond (Nat.ble 3 pc) (cond (Nat.ble 5 pc) (cond (Nat.ble 8 pc) (cond (Nat.beq pc 8) (some (.ireturn, 1)) none) (cond (Nat.beq pc 5) (some (.invokevirtual 194, 3)) none)) (cond (Nat.beq pc 3) (some (.bipush 11, 2)) none)) (cond (Nat.ble 1 pc) (cond (Nat.ble 2 pc) (cond (Nat.beq pc 2) (some (.iconst 0, 1)) none) (cond (Nat.beq pc 1) (some (.iload_n 1, 1)) none)) (cond (Nat.beq pc 0) (some (.aload_n 0, 1)) none))
def m_X7_isDay : jM := (7, yX7_isDay, cX7_isDay, 2, (some .boolean), fun pc => cond (Nat.ble 9 pc) none (jt_X7_isDay pc))
set_option maxRecDepth 100000 in
theorem dk_X7_isDay : ∀ pc q, m_X7_isDay.2.2.2.2.2 pc = some q → decode cX7_isDay pc = .ok q := jk_sound (N := 9) (t := jt_X7_isDay) (by decide +kernel)
set_option maxRecDepth 100000 in
theorem ok_X7_isDay : jok m_X7_isDay := ⟨dk_X7_isDay, jG_in 975 rfl rfl, jG_in 94 rfl rfl, by decide +kernel, by decide +kernel, by decide⟩
set_option maxRecDepth 100000 in
theorem vi_X7_isDay : jvirt m_X7_isDay := ⟨jG_in 974 rfl rfl, jG_in 29 rfl rfl⟩
def jt_X7_lay : Nat → Option (Instr × Nat) := fun pc => cond (Nat.ble 35 pc) (cond (Nat.ble 53 pc) (cond (Nat.ble 62 pc) (cond (Nat.ble 65 pc) (cond (Nat.ble 68 pc) (cond (Nat.ble 71 pc) (cond (Nat.beq pc 71) (some (.return_, 1)) none) (cond (Nat.beq pc 68) (some (.goto (-21), 3)) none)) (cond (Nat.beq pc 65) (some (.iinc 6 1, 3)) none)) (cond (Nat.ble 63 pc) (cond (Nat.ble 64 pc) (cond (Nat.beq pc 64) (some (.iastore, 1)) none) (cond (Nat.beq pc 63) (some (.iconst 0, 1)) none)) (cond (Nat.beq pc 62) (some (.iadd, 1)) none))) (cond (Nat.ble 58 pc) (cond (Nat.ble 59 pc) (cond (Nat.ble 60 pc) (cond (Nat.beq pc 60) (some (.iload 6, 2)) none) (cond (Nat.beq pc 59) (some (.imul, 1)) none)) (cond (Nat.beq pc 58) (some (.iload_n 1, 1)) none)) (cond (Nat.ble 54 pc) (cond (Nat.ble 57 pc) (cond (Nat.beq pc 57) (some (.iconst 4, 1)) none) (cond (Nat.beq pc 54) (some (.getfield 35, 3)) none)) (cond (Nat.beq pc 53) (some (.aload_n 0, 1)) none)))) (cond (Nat.ble 43 pc) (cond (Nat.ble 47 pc) (cond (Nat.ble 49 pc) (cond (Nat.ble 50 pc) (cond (Nat.beq pc 50) (some (.if_icmp .ge 21, 3)) none) (cond (Nat.beq pc 49) (some (.iconst 4, 1)) none)) (cond (Nat.beq pc 47) (some (.iload 6, 2)) none)) (cond (Nat.ble 44 pc) (cond (Nat.ble 45 pc) (cond (Nat.beq pc 45) (some (.istore 6, 2)) none) (cond (Nat.beq pc 44) (some (.iconst 0, 1)) none)) (cond (Nat.beq pc 43) (some (.bastore, 1)) none))) (cond (Nat.ble 38 pc) (cond (Nat.ble 41 pc) (cond (Nat.ble 42 pc) (cond (Nat.beq pc 42) (some (.iconst 1, 1)) none) (cond (Nat.beq pc 41) (some (.iload_n 1, 1)) none)) (cond (Nat.beq pc 38) (some (.getfield 38, 3)) none)) (cond (Nat.ble 36 pc) (cond (Nat.ble 37 pc) (cond (Nat.beq pc 37) (some (.aload_n 0, 1)) none) (cond (Nat.beq pc 36) (some (.iastore, 1)) none)) (cond (Nat.beq pc 35) (some (.iconst 0, 1)) none))))) (cond (Nat.ble 15 pc) (cond (Nat.ble 26 pc) (cond (Nat.ble 30 pc) (cond (Nat.ble 31 pc) (cond (Nat.ble 34 pc) (cond (Nat.beq pc 34) (some (.iload_n 1, 1)) none) (cond (Nat.beq pc 31) (some (.getfield 32, 3)) none)) (cond (Nat.beq pc 30) (some (.aload_n 0, 1)) none)) (cond (Nat.ble 27 pc) (cond (Nat.ble 29 pc) (cond (Nat.beq pc 29) (some (.iastore, 1)) none) (cond (Nat.beq pc 27) (some (.iload 5, 2)) none)) (cond (Nat.beq pc 26) (some (.iload_n 1, 1)) none))) (cond (Nat.ble 21 pc) (cond (Nat.ble 22 pc) (cond (Nat.ble 23 pc) (cond (Nat.beq pc 23) (some (.getfield 29, 3)) none) (cond (Nat.beq pc 22) (some (.aload_n 0, 1)) none)) (cond (Nat.beq pc 21) (some (.iastore, 1)) none)) (cond (Nat.ble 18 pc) (cond (Nat.ble 19 pc) (cond (Nat.beq pc 19) (some (.iload 4, 2)) none) (cond (Nat.beq pc 18) (some (.iload_n 1, 1)) none)) (cond (Nat.beq pc 15) (some (.getfield 26, 3)) none)))) (cond (Nat.ble 7 pc) (cond (Nat.ble 12 pc) (cond (Nat.ble 13 pc) (cond (Nat.ble 14 pc) (cond (Nat.beq pc 14) (some (.aload_n 0, 1)) none) (cond (Nat.beq pc 13) (some (.iastore, 1)) none)) (cond (Nat.beq pc 12) (some (.iload_n 3, 1)) none)) (cond (Nat.ble 8 pc) (cond (Nat.ble 11 pc) (cond (Nat.beq pc 11) (some (.iload_n 1, 1)) none) (cond (Nat.beq pc 8) (some (.getfield 23, 3)) none)) (cond (Nat.beq pc 7) (some (.aload_n 0, 1)) none))) (cond (Nat.ble 4 pc) (cond (Nat.ble 5 pc) (cond (Nat.ble 6 pc) (cond (Nat.beq pc 6) (some (.iastore, 1)) none) (cond (Nat.beq pc 5) (some (.iload_n 2, 1)) none)) (cond (Nat.beq pc 4) (some (.iload_n 1, 1)) none)) (cond (Nat.ble 1 pc) (cond (Nat.beq pc 1) (some (.getfield 19, 3)) none) (cond (Nat.beq pc 0) (some (.aload_n 0, 1)) none)))))
def m_X7_lay : jM := (7, yX7_lay, cX7_lay, 7, none, fun pc => cond (Nat.ble 72 pc) none (jt_X7_lay pc))
set_option maxRecDepth 100000 in
theorem dk_X7_lay : ∀ pc q, m_X7_lay.2.2.2.2.2 pc = some q → decode cX7_lay pc = .ok q := jk_sound (N := 72) (t := jt_X7_lay) (by decide +kernel)
set_option maxRecDepth 100000 in
theorem ok_X7_lay : jok m_X7_lay := ⟨dk_X7_lay, jG_in 979 rfl rfl, jG_in 94 rfl rfl, by decide +kernel, by decide +kernel, by decide⟩
set_option maxRecDepth 100000 in
theorem vi_X7_lay : jvirt m_X7_lay := ⟨jG_in 978 rfl rfl, jG_in 30 rfl rfl⟩
def jt_X7_person : Nat → Option (Instr × Nat) := fun pc => cond (Nat.ble 44 pc) (cond (Nat.ble 64 pc) (cond (Nat.ble 75 pc) (cond (Nat.ble 80 pc) (cond (Nat.ble 84 pc) (cond (Nat.ble 85 pc) (cond (Nat.beq pc 85) (some (.ireturn, 1)) none) (cond (Nat.beq pc 84) (some (.isub, 1)) none)) (cond (Nat.ble 83 pc) (cond (Nat.beq pc 83) (some (.iconst 1, 1)) none) (cond (Nat.beq pc 80) (some (.getfield 7, 3)) none))) (cond (Nat.ble 76 pc) (cond (Nat.ble 79 pc) (cond (Nat.beq pc 79) (some (.aload_n 0, 1)) none) (cond (Nat.beq pc 76) (some (.putfield 7, 3)) none)) (cond (Nat.beq pc 75) (some (.iadd, 1)) none))) (cond (Nat.ble 70 pc) (cond (Nat.ble 71 pc) (cond (Nat.ble 74 pc) (cond (Nat.beq pc 74) (some (.iconst 1, 1)) none) (cond (Nat.beq pc 71) (some (.getfield 7, 3)) none)) (cond (Nat.beq pc 70) (some (.dup, 1)) none)) (cond (Nat.ble 66 pc) (cond (Nat.ble 69 pc) (cond (Nat.beq pc 69) (some (.aload_n 0, 1)) none) (cond (Nat.beq pc 66) (some (.invokevirtual 202, 3)) none)) (cond (Nat.beq pc 64) (some (.iload 4, 2)) none)))) (cond (Nat.ble 56 pc) (cond (Nat.ble 61 pc) (cond (Nat.ble 62 pc) (cond (Nat.ble 63 pc) (cond (Nat.beq pc 63) (some (.iload_n 3, 1)) none) (cond (Nat.beq pc 62) (some (.iload_n 2, 1)) none)) (cond (Nat.beq pc 61) (some (.iload_n 1, 1)) none)) (cond (Nat.ble 57 pc) (cond (Nat.ble 58 pc) (cond (Nat.beq pc 58) (some (.getfield 7, 3)) none) (cond (Nat.beq pc 57) (some (.aload_n 0, 1)) none)) (cond (Nat.beq pc 56) (some (.aload_n 0, 1)) none))) (cond (Nat.ble 50 pc) (cond (Nat.ble 53 pc) (cond (Nat.ble 55 pc) (cond (Nat.beq pc 55) (some (.ireturn, 1)) none) (cond (Nat.beq pc 53) (some (.bipush (-4), 2)) none)) (cond (Nat.beq pc 50) (some (.if_icmp .ne 6, 3)) none)) (cond (Nat.ble 45 pc) (cond (Nat.ble 48 pc) (cond (Nat.beq pc 48) (some (.bipush 7, 2)) none) (cond (Nat.beq pc 45) (some (.getfield 7, 3)) none)) (cond (Nat.beq pc 44) (some (.aload_n 0, 1)) none))))) (cond (Nat.ble 18 pc) (cond (Nat.ble 32 pc) (cond (Nat.ble 38 pc) (cond (Nat.ble 41 pc) (cond (Nat.ble 43 pc) (cond (Nat.beq pc 43) (some (.ireturn, 1)) none) (cond (Nat.beq pc 41) (some (.bipush (-2), 2)) none)) (cond (Nat.beq pc 38) (some (.ifCond .ne 6, 3)) none)) (cond (Nat.ble 33 pc) (cond (Nat.ble 35 pc) (cond (Nat.beq pc 35) (some (.invokevirtual 198, 3)) none) (cond (Nat.beq pc 33) (some (.iload 4, 2)) none)) (cond (Nat.beq pc 32) (some (.aload_n 0, 1)) none))) (cond (Nat.ble 25 pc) (cond (Nat.ble 26 pc) (cond (Nat.ble 29 pc) (cond (Nat.beq pc 29) (some (.ifCond .eq 12, 3)) none) (cond (Nat.beq pc 26) (some (.invokevirtual 198, 3)) none)) (cond (Nat.beq pc 25) (some (.iload_n 3, 1)) none)) (cond (Nat.ble 21 pc) (cond (Nat.ble 24 pc) (cond (Nat.beq pc 24) (some (.aload_n 0, 1)) none) (cond (Nat.beq pc 21) (some (.ifCond .eq 20, 3)) none)) (cond (Nat.beq pc 18) (some (.invokevirtual 194, 3)) none)))) (cond (Nat.ble 11 pc) (cond (Nat.ble 14 pc) (cond (Nat.ble 15 pc) (cond (Nat.ble 16 pc) (cond (Nat.beq pc 16) (some (.bipush 9, 2)) none) (cond (Nat.beq pc 15) (some (.iconst 0, 1)) none)) (cond (Nat.beq pc 14) (some (.iload_n 2, 1)) none)) (cond (Nat.ble 12 pc) (cond (Nat.ble 13 pc) (cond (Nat.beq pc 13) (some (.aload_n 0, 1)) none) (cond (Nat.beq pc 12) (some (.ireturn, 1)) none)) (cond (Nat.beq pc 11) (some (.iconst (-1), 1)) none))) (cond (Nat.ble 3 pc) (cond (Nat.ble 5 pc) (cond (Nat.ble 8 pc) (cond (Nat.beq pc 8) (some (.ifCond .ne 5, 3)) none) (cond (Nat.beq pc 5) (some (.invokevirtual 194, 3)) none)) (cond (Nat.beq pc 3) (some (.bipush 6, 2)) none)) (cond (Nat.ble 1 pc) (cond (Nat.ble 2 pc) (cond (Nat.beq pc 2) (some (.iconst 0, 1)) none) (cond (Nat.beq pc 1) (some (.iload_n 1, 1)) none)) (cond (Nat.beq pc 0) (some (.aload_n 0, 1)) none)))))
def m_X7_person : jM := (7, yX7_person, cX7_person, 5, (some .int), fun pc => cond (Nat.ble 86 pc) none (jt_X7_person pc))
set_option maxRecDepth 100000 in
theorem dk_X7_person : ∀ pc q, m_X7_person.2.2.2.2.2 pc = some q → decode cX7_person pc = .ok q := jk_sound (N := 86) (t := jt_X7_person) (by decide +kernel)
set_option maxRecDepth 100000 in
theorem ok_X7_person : jok m_X7_person := ⟨dk_X7_person, jG_in 967 rfl rfl, jG_in 94 rfl rfl, by decide +kernel, by decide +kernel, by decide⟩
set_option maxRecDepth 100000 in
theorem vi_X7_person : jvirt m_X7_person := ⟨jG_in 965 rfl rfl, jG_in 966 rfl rfl⟩
def jt_X7_set : Nat → Option (Instr × Nat) := fun pc => cond (Nat.ble 39 pc) (cond (Nat.ble 57 pc) (cond (Nat.ble 67 pc) (cond (Nat.ble 72 pc) (cond (Nat.ble 73 pc) (cond (Nat.ble 75 pc) (cond (Nat.beq pc 75) (some (.ireturn, 1)) none) (cond (Nat.beq pc 73) (some (.iload 4, 2)) none)) (cond (Nat.beq pc 72) (some (.iastore, 1)) none)) (cond (Nat.ble 70 pc) (cond (Nat.ble 71 pc) (cond (Nat.beq pc 71) (some (.iload_n 3, 1)) none) (cond (Nat.beq pc 70) (some (.iload_n 1, 1)) none)) (cond (Nat.beq pc 67) (some (.getfield 29, 3)) none))) (cond (Nat.ble 62 pc) (cond (Nat.ble 63 pc) (cond (Nat.ble 66 pc) (cond (Nat.beq pc 66) (some (.aload_n 0, 1)) none) (cond (Nat.beq pc 63) (some (.goto 10, 3)) none)) (cond (Nat.beq pc 62) (some (.iastore, 1)) none)) (cond (Nat.ble 60 pc) (cond (Nat.ble 61 pc) (cond (Nat.beq pc 61) (some (.iload_n 3, 1)) none) (cond (Nat.beq pc 60) (some (.iload_n 1, 1)) none)) (cond (Nat.beq pc 57) (some (.getfield 26, 3)) none)))) (cond (Nat.ble 48 pc) (cond (Nat.ble 52 pc) (cond (Nat.ble 53 pc) (cond (Nat.ble 56 pc) (cond (Nat.beq pc 56) (some (.aload_n 0, 1)) none) (cond (Nat.beq pc 53) (some (.ifCond .ne 13, 3)) none)) (cond (Nat.beq pc 52) (some (.iload_n 2, 1)) none)) (cond (Nat.ble 49 pc) (cond (Nat.ble 50 pc) (cond (Nat.beq pc 50) (some (.istore 4, 2)) none) (cond (Nat.beq pc 49) (some (.iaload, 1)) none)) (cond (Nat.beq pc 48) (some (.iload_n 1, 1)) none))) (cond (Nat.ble 41 pc) (cond (Nat.ble 44 pc) (cond (Nat.ble 45 pc) (cond (Nat.beq pc 45) (some (.getfield 29, 3)) none) (cond (Nat.beq pc 44) (some (.aload_n 0, 1)) none)) (cond (Nat.beq pc 41) (some (.goto 9, 3)) none)) (cond (Nat.ble 40 pc) (cond (Nat.beq pc 40) (some (.iaload, 1)) none) (cond (Nat.beq pc 39) (some (.iload_n 1, 1)) none))))) (cond (Nat.ble 19 pc) (cond (Nat.ble 28 pc) (cond (Nat.ble 32 pc) (cond (Nat.ble 35 pc) (cond (Nat.ble 36 pc) (cond (Nat.beq pc 36) (some (.getfield 26, 3)) none) (cond (Nat.beq pc 35) (some (.aload_n 0, 1)) none)) (cond (Nat.beq pc 32) (some (.ifCond .ne 12, 3)) none)) (cond (Nat.ble 30 pc) (cond (Nat.ble 31 pc) (cond (Nat.beq pc 31) (some (.iload_n 2, 1)) none) (cond (Nat.beq pc 30) (some (.ireturn, 1)) none)) (cond (Nat.beq pc 28) (some (.bipush (-2), 2)) none))) (cond (Nat.ble 21 pc) (cond (Nat.ble 22 pc) (cond (Nat.ble 25 pc) (cond (Nat.beq pc 25) (some (.ifCond .ne 6, 3)) none) (cond (Nat.beq pc 22) (some (.invokevirtual 198, 3)) none)) (cond (Nat.beq pc 21) (some (.iload_n 3, 1)) none)) (cond (Nat.ble 20 pc) (cond (Nat.beq pc 20) (some (.aload_n 0, 1)) none) (cond (Nat.beq pc 19) (some (.ireturn, 1)) none)))) (cond (Nat.ble 9 pc) (cond (Nat.ble 12 pc) (cond (Nat.ble 15 pc) (cond (Nat.ble 18 pc) (cond (Nat.beq pc 18) (some (.iconst (-1), 1)) none) (cond (Nat.beq pc 15) (some (.ifCond .ne 5, 3)) none)) (cond (Nat.beq pc 12) (some (.invokevirtual 194, 3)) none)) (cond (Nat.ble 10 pc) (cond (Nat.ble 11 pc) (cond (Nat.beq pc 11) (some (.iconst 1, 1)) none) (cond (Nat.beq pc 10) (some (.iconst 0, 1)) none)) (cond (Nat.beq pc 9) (some (.iload_n 2, 1)) none))) (cond (Nat.ble 2 pc) (cond (Nat.ble 5 pc) (cond (Nat.ble 8 pc) (cond (Nat.beq pc 8) (some (.aload_n 0, 1)) none) (cond (Nat.beq pc 5) (some (.ifCond .eq 13, 3)) none)) (cond (Nat.beq pc 2) (some (.invokevirtual 206, 3)) none)) (cond (Nat.ble 1 pc) (cond (Nat.beq pc 1) (some (.iload_n 1, 1)) none) (cond (Nat.beq pc 0) (some (.aload_n 0, 1)) none)))))
def m_X7_set : jM := (7, yX7_set, cX7_set, 5, (some .int), fun pc => cond (Nat.ble 76 pc) none (jt_X7_set pc))
set_option maxRecDepth 100000 in
theorem dk_X7_set : ∀ pc q, m_X7_set.2.2.2.2.2 pc = some q → decode cX7_set pc = .ok q := jk_sound (N := 76) (t := jt_X7_set) (by decide +kernel)
set_option maxRecDepth 100000 in
theorem ok_X7_set : jok m_X7_set := ⟨dk_X7_set, jG_in 983 rfl rfl, jG_in 94 rfl rfl, by decide +kernel, by decide +kernel, by decide⟩
set_option maxRecDepth 100000 in
theorem vi_X7_set : jvirt m_X7_set := ⟨jG_in 981 rfl rfl, jG_in 982 rfl rfl⟩
def jt_X7_there : Nat → Option (Instr × Nat) := fun pc => cond (Nat.ble 19 pc) (cond (Nat.ble 26 pc) (cond (Nat.ble 31 pc) (cond (Nat.ble 32 pc) (cond (Nat.ble 33 pc) (cond (Nat.beq pc 33) (some (.ireturn, 1)) none) (cond (Nat.beq pc 32) (some (.iload_n 3, 1)) none)) (cond (Nat.beq pc 31) (some (.bastore, 1)) none)) (cond (Nat.ble 29 pc) (cond (Nat.ble 30 pc) (cond (Nat.beq pc 30) (some (.iload_n 2, 1)) none) (cond (Nat.beq pc 29) (some (.iload_n 1, 1)) none)) (cond (Nat.beq pc 26) (some (.getfield 38, 3)) none))) (cond (Nat.ble 23 pc) (cond (Nat.ble 24 pc) (cond (Nat.ble 25 pc) (cond (Nat.beq pc 25) (some (.aload_n 0, 1)) none) (cond (Nat.beq pc 24) (some (.istore_n 3, 1)) none)) (cond (Nat.beq pc 23) (some (.iconst 0, 1)) none)) (cond (Nat.ble 20 pc) (cond (Nat.beq pc 20) (some (.goto 4, 3)) none) (cond (Nat.beq pc 19) (some (.iconst 1, 1)) none)))) (cond (Nat.ble 9 pc) (cond (Nat.ble 14 pc) (cond (Nat.ble 15 pc) (cond (Nat.ble 16 pc) (cond (Nat.beq pc 16) (some (.ifCond .eq 7, 3)) none) (cond (Nat.beq pc 15) (some (.baload, 1)) none)) (cond (Nat.beq pc 14) (some (.iload_n 1, 1)) none)) (cond (Nat.ble 10 pc) (cond (Nat.ble 11 pc) (cond (Nat.beq pc 11) (some (.getfield 38, 3)) none) (cond (Nat.beq pc 10) (some (.aload_n 0, 1)) none)) (cond (Nat.beq pc 9) (some (.ireturn, 1)) none))) (cond (Nat.ble 2 pc) (cond (Nat.ble 5 pc) (cond (Nat.ble 8 pc) (cond (Nat.beq pc 8) (some (.iconst (-1), 1)) none) (cond (Nat.beq pc 5) (some (.ifCond .ne 5, 3)) none)) (cond (Nat.beq pc 2) (some (.invokevirtual 206, 3)) none)) (cond (Nat.ble 1 pc) (cond (Nat.beq pc 1) (some (.iload_n 1, 1)) none) (cond (Nat.beq pc 0) (some (.aload_n 0, 1)) none))))
def m_X7_there : jM := (7, yX7_there, cX7_there, 4, (some .int), fun pc => cond (Nat.ble 34 pc) none (jt_X7_there pc))
set_option maxRecDepth 100000 in
theorem dk_X7_there : ∀ pc q, m_X7_there.2.2.2.2.2 pc = some q → decode cX7_there pc = .ok q := jk_sound (N := 34) (t := jt_X7_there) (by decide +kernel)
set_option maxRecDepth 100000 in
theorem ok_X7_there : jok m_X7_there := ⟨dk_X7_there, jG_in 991 rfl rfl, jG_in 94 rfl rfl, by decide +kernel, by decide +kernel, by decide⟩
set_option maxRecDepth 100000 in
theorem vi_X7_there : jvirt m_X7_there := ⟨jG_in 989 rfl rfl, jG_in 990 rfl rfl⟩
def jt_X7_row : Nat → Option (Instr × Nat) := fun pc => cond (Nat.ble 39 pc) (cond (Nat.ble 55 pc) (cond (Nat.ble 64 pc) (cond (Nat.ble 67 pc) (cond (Nat.ble 68 pc) (cond (Nat.ble 70 pc) (cond (Nat.beq pc 70) (some (.ireturn, 1)) none) (cond (Nat.beq pc 68) (some (.iload 4, 2)) none)) (cond (Nat.beq pc 67) (some (.iastore, 1)) none)) (cond (Nat.ble 65 pc) (cond (Nat.ble 66 pc) (cond (Nat.beq pc 66) (some (.iload_n 3, 1)) none) (cond (Nat.beq pc 65) (some (.iadd, 1)) none)) (cond (Nat.beq pc 64) (some (.iload_n 2, 1)) none))) (cond (Nat.ble 61 pc) (cond (Nat.ble 62 pc) (cond (Nat.ble 63 pc) (cond (Nat.beq pc 63) (some (.imul, 1)) none) (cond (Nat.beq pc 62) (some (.iload_n 1, 1)) none)) (cond (Nat.beq pc 61) (some (.iconst 4, 1)) none)) (cond (Nat.ble 57 pc) (cond (Nat.ble 58 pc) (cond (Nat.beq pc 58) (some (.getfield 35, 3)) none) (cond (Nat.beq pc 57) (some (.aload_n 0, 1)) none)) (cond (Nat.beq pc 55) (some (.istore 4, 2)) none)))) (cond (Nat.ble 49 pc) (cond (Nat.ble 52 pc) (cond (Nat.ble 53 pc) (cond (Nat.ble 54 pc) (cond (Nat.beq pc 54) (some (.iaload, 1)) none) (cond (Nat.beq pc 53) (some (.iadd, 1)) none)) (cond (Nat.beq pc 52) (some (.iload_n 2, 1)) none)) (cond (Nat.ble 50 pc) (cond (Nat.ble 51 pc) (cond (Nat.beq pc 51) (some (.imul, 1)) none) (cond (Nat.beq pc 50) (some (.iload_n 1, 1)) none)) (cond (Nat.beq pc 49) (some (.iconst 4, 1)) none))) (cond (Nat.ble 44 pc) (cond (Nat.ble 45 pc) (cond (Nat.ble 46 pc) (cond (Nat.beq pc 46) (some (.getfield 35, 3)) none) (cond (Nat.beq pc 45) (some (.aload_n 0, 1)) none)) (cond (Nat.beq pc 44) (some (.ireturn, 1)) none)) (cond (Nat.ble 42 pc) (cond (Nat.beq pc 42) (some (.bipush (-3), 2)) none) (cond (Nat.beq pc 39) (some (.if_icmp .eq 6, 3)) none))))) (cond (Nat.ble 19 pc) (cond (Nat.ble 30 pc) (cond (Nat.ble 35 pc) (cond (Nat.ble 36 pc) (cond (Nat.ble 37 pc) (cond (Nat.beq pc 37) (some (.bipush 6, 2)) none) (cond (Nat.beq pc 36) (some (.iaload, 1)) none)) (cond (Nat.beq pc 35) (some (.iload_n 1, 1)) none)) (cond (Nat.ble 31 pc) (cond (Nat.ble 32 pc) (cond (Nat.beq pc 32) (some (.getfield 19, 3)) none) (cond (Nat.beq pc 31) (some (.aload_n 0, 1)) none)) (cond (Nat.beq pc 30) (some (.ireturn, 1)) none))) (cond (Nat.ble 22 pc) (cond (Nat.ble 25 pc) (cond (Nat.ble 28 pc) (cond (Nat.beq pc 28) (some (.bipush (-2), 2)) none) (cond (Nat.beq pc 25) (some (.ifCond .ne 6, 3)) none)) (cond (Nat.beq pc 22) (some (.invokevirtual 198, 3)) none)) (cond (Nat.ble 20 pc) (cond (Nat.ble 21 pc) (cond (Nat.beq pc 21) (some (.iload_n 3, 1)) none) (cond (Nat.beq pc 20) (some (.aload_n 0, 1)) none)) (cond (Nat.beq pc 19) (some (.ireturn, 1)) none)))) (cond (Nat.ble 9 pc) (cond (Nat.ble 12 pc) (cond (Nat.ble 15 pc) (cond (Nat.ble 18 pc) (cond (Nat.beq pc 18) (some (.iconst (-1), 1)) none) (cond (Nat.beq pc 15) (some (.ifCond .ne 5, 3)) none)) (cond (Nat.beq pc 12) (some (.invokevirtual 194, 3)) none)) (cond (Nat.ble 10 pc) (cond (Nat.ble 11 pc) (cond (Nat.beq pc 11) (some (.iconst 3, 1)) none) (cond (Nat.beq pc 10) (some (.iconst 0, 1)) none)) (cond (Nat.beq pc 9) (some (.iload_n 2, 1)) none))) (cond (Nat.ble 2 pc) (cond (Nat.ble 5 pc) (cond (Nat.ble 8 pc) (cond (Nat.beq pc 8) (some (.aload_n 0, 1)) none) (cond (Nat.beq pc 5) (some (.ifCond .eq 13, 3)) none)) (cond (Nat.beq pc 2) (some (.invokevirtual 206, 3)) none)) (cond (Nat.ble 1 pc) (cond (Nat.beq pc 1) (some (.iload_n 1, 1)) none) (cond (Nat.beq pc 0) (some (.aload_n 0, 1)) none)))))
def m_X7_row : jM := (7, yX7_row, cX7_row, 5, (some .int), fun pc => cond (Nat.ble 71 pc) none (jt_X7_row pc))
set_option maxRecDepth 100000 in
theorem dk_X7_row : ∀ pc q, m_X7_row.2.2.2.2.2 pc = some q → decode cX7_row pc = .ok q := jk_sound (N := 71) (t := jt_X7_row) (by decide +kernel)
set_option maxRecDepth 100000 in
theorem ok_X7_row : jok m_X7_row := ⟨dk_X7_row, jG_in 995 rfl rfl, jG_in 94 rfl rfl, by decide +kernel, by decide +kernel, by decide⟩
set_option maxRecDepth 100000 in
theorem vi_X7_row : jvirt m_X7_row := ⟨jG_in 993 rfl rfl, jG_in 994 rfl rfl⟩
def jt_X7_feed : Nat → Option (Instr × Nat) := fun pc => cond (Nat.ble 26 pc) (cond (Nat.ble 37 pc) (cond (Nat.ble 43 pc) (cond (Nat.ble 47 pc) (cond (Nat.ble 50 pc) (cond (Nat.beq pc 50) (some (.ireturn, 1)) none) (cond (Nat.beq pc 47) (some (.getfield 48, 3)) none)) (cond (Nat.ble 46 pc) (cond (Nat.beq pc 46) (some (.aload_n 0, 1)) none) (cond (Nat.beq pc 43) (some (.putfield 48, 3)) none))) (cond (Nat.ble 41 pc) (cond (Nat.ble 42 pc) (cond (Nat.beq pc 42) (some (.iadd, 1)) none) (cond (Nat.beq pc 41) (some (.iconst 1, 1)) none)) (cond (Nat.ble 38 pc) (cond (Nat.beq pc 38) (some (.getfield 48, 3)) none) (cond (Nat.beq pc 37) (some (.dup, 1)) none)))) (cond (Nat.ble 31 pc) (cond (Nat.ble 35 pc) (cond (Nat.ble 36 pc) (cond (Nat.beq pc 36) (some (.aload_n 0, 1)) none) (cond (Nat.beq pc 35) (some (.iastore, 1)) none)) (cond (Nat.ble 34 pc) (cond (Nat.beq pc 34) (some (.iload_n 1, 1)) none) (cond (Nat.beq pc 31) (some (.getfield 48, 3)) none))) (cond (Nat.ble 27 pc) (cond (Nat.ble 30 pc) (cond (Nat.beq pc 30) (some (.aload_n 0, 1)) none) (cond (Nat.beq pc 27) (some (.getfield 57, 3)) none)) (cond (Nat.beq pc 26) (some (.aload_n 0, 1)) none)))) (cond (Nat.ble 13 pc) (cond (Nat.ble 18 pc) (cond (Nat.ble 23 pc) (cond (Nat.ble 25 pc) (cond (Nat.beq pc 25) (some (.ireturn, 1)) none) (cond (Nat.beq pc 23) (some (.bipush (-4), 2)) none)) (cond (Nat.ble 20 pc) (cond (Nat.beq pc 20) (some (.if_icmp .ne 6, 3)) none) (cond (Nat.beq pc 18) (some (.bipush 100, 2)) none))) (cond (Nat.ble 14 pc) (cond (Nat.ble 15 pc) (cond (Nat.beq pc 15) (some (.getfield 48, 3)) none) (cond (Nat.beq pc 14) (some (.aload_n 0, 1)) none)) (cond (Nat.beq pc 13) (some (.ireturn, 1)) none))) (cond (Nat.ble 3 pc) (cond (Nat.ble 8 pc) (cond (Nat.ble 11 pc) (cond (Nat.beq pc 11) (some (.bipush (-2), 2)) none) (cond (Nat.beq pc 8) (some (.ifCond .ne 6, 3)) none)) (cond (Nat.ble 5 pc) (cond (Nat.beq pc 5) (some (.invokevirtual 194, 3)) none) (cond (Nat.beq pc 3) (some (.bipush 127, 2)) none))) (cond (Nat.ble 1 pc) (cond (Nat.ble 2 pc) (cond (Nat.beq pc 2) (some (.iconst 0, 1)) none) (cond (Nat.beq pc 1) (some (.iload_n 1, 1)) none)) (cond (Nat.beq pc 0) (some (.aload_n 0, 1)) none))))
def m_X7_feed : jM := (7, yX7_feed, cX7_feed, 2, (some .int), fun pc => cond (Nat.ble 51 pc) none (jt_X7_feed pc))
set_option maxRecDepth 100000 in
theorem dk_X7_feed : ∀ pc q, m_X7_feed.2.2.2.2.2 pc = some q → decode cX7_feed pc = .ok q := jk_sound (N := 51) (t := jt_X7_feed) (by decide +kernel)
set_option maxRecDepth 100000 in
theorem ok_X7_feed : jok m_X7_feed := ⟨dk_X7_feed, jG_in 999 rfl rfl, jG_in 94 rfl rfl, by decide +kernel, by decide +kernel, by decide⟩
set_option maxRecDepth 100000 in
theorem vi_X7_feed : jvirt m_X7_feed := ⟨jG_in 997 rfl rfl, jG_in 998 rfl rfl⟩
def jt_X7_next : Nat → Option (Instr × Nat) := fun pc => cond (Nat.ble 12 pc) (cond (Nat.ble 19 pc) (cond (Nat.ble 23 pc) (cond (Nat.ble 24 pc) (cond (Nat.beq pc 24) (some (.ireturn, 1)) none) (cond (Nat.beq pc 23) (some (.iconst (-1), 1)) none)) (cond (Nat.ble 20 pc) (cond (Nat.beq pc 20) (some (.goto 4, 3)) none) (cond (Nat.beq pc 19) (some (.iaload, 1)) none))) (cond (Nat.ble 15 pc) (cond (Nat.ble 16 pc) (cond (Nat.beq pc 16) (some (.getfield 51, 3)) none) (cond (Nat.beq pc 15) (some (.aload_n 0, 1)) none)) (cond (Nat.beq pc 12) (some (.getfield 57, 3)) none))) (cond (Nat.ble 5 pc) (cond (Nat.ble 8 pc) (cond (Nat.ble 11 pc) (cond (Nat.beq pc 11) (some (.aload_n 0, 1)) none) (cond (Nat.beq pc 8) (some (.if_icmp .ge 15, 3)) none)) (cond (Nat.beq pc 5) (some (.getfield 48, 3)) none)) (cond (Nat.ble 1 pc) (cond (Nat.ble 4 pc) (cond (Nat.beq pc 4) (some (.aload_n 0, 1)) none) (cond (Nat.beq pc 1) (some (.getfield 51, 3)) none)) (cond (Nat.beq pc 0) (some (.aload_n 0, 1)) none)))
def m_X7_next : jM := (7, yX7_next, cX7_next, 1, (some .int), fun pc => cond (Nat.ble 25 pc) none (jt_X7_next pc))
set_option maxRecDepth 100000 in
theorem dk_X7_next : ∀ pc q, m_X7_next.2.2.2.2.2 pc = some q → decode cX7_next pc = .ok q := jk_sound (N := 25) (t := jt_X7_next) (by decide +kernel)
set_option maxRecDepth 100000 in
theorem ok_X7_next : jok m_X7_next := ⟨dk_X7_next, jG_in 1019 rfl rfl, jG_in 94 rfl rfl, by decide +kernel, by decide +kernel, by decide⟩
set_option maxRecDepth 100000 in
theorem vi_X7_next : jvirt m_X7_next := ⟨jG_in 1018 rfl rfl, jG_in 35 rfl rfl⟩
def jt_X7_takes : Nat → Option (Instr × Nat) := fun pc => cond (Nat.ble 11 pc) (cond (Nat.ble 16 pc) (cond (Nat.ble 20 pc) (cond (Nat.ble 21 pc) (cond (Nat.beq pc 21) (some (.ireturn, 1)) none) (cond (Nat.beq pc 20) (some (.iconst 1, 1)) none)) (cond (Nat.ble 17 pc) (cond (Nat.beq pc 17) (some (.putfield 51, 3)) none) (cond (Nat.beq pc 16) (some (.iadd, 1)) none))) (cond (Nat.ble 12 pc) (cond (Nat.ble 15 pc) (cond (Nat.beq pc 15) (some (.iconst 1, 1)) none) (cond (Nat.beq pc 12) (some (.getfield 51, 3)) none)) (cond (Nat.beq pc 11) (some (.dup, 1)) none))) (cond (Nat.ble 5 pc) (cond (Nat.ble 9 pc) (cond (Nat.ble 10 pc) (cond (Nat.beq pc 10) (some (.aload_n 0, 1)) none) (cond (Nat.beq pc 9) (some (.ireturn, 1)) none)) (cond (Nat.ble 8 pc) (cond (Nat.beq pc 8) (some (.iconst 0, 1)) none) (cond (Nat.beq pc 5) (some (.if_icmp .eq 5, 3)) none))) (cond (Nat.ble 1 pc) (cond (Nat.ble 4 pc) (cond (Nat.beq pc 4) (some (.iload_n 1, 1)) none) (cond (Nat.beq pc 1) (some (.invokevirtual 209, 3)) none)) (cond (Nat.beq pc 0) (some (.aload_n 0, 1)) none)))
def m_X7_takes : jM := (7, yX7_takes, cX7_takes, 2, (some .boolean), fun pc => cond (Nat.ble 22 pc) none (jt_X7_takes pc))
set_option maxRecDepth 100000 in
theorem dk_X7_takes : ∀ pc q, m_X7_takes.2.2.2.2.2 pc = some q → decode cX7_takes pc = .ok q := jk_sound (N := 22) (t := jt_X7_takes) (by decide +kernel)
set_option maxRecDepth 100000 in
theorem ok_X7_takes : jok m_X7_takes := ⟨dk_X7_takes, jG_in 1027 rfl rfl, jG_in 94 rfl rfl, by decide +kernel, by decide +kernel, by decide⟩
set_option maxRecDepth 100000 in
theorem vi_X7_takes : jvirt m_X7_takes := ⟨jG_in 1026 rfl rfl, jG_in 37 rfl rfl⟩
def jt_X7_takesWord : Nat → Option (Instr × Nat) := fun pc => cond (Nat.ble 15 pc) (cond (Nat.ble 24 pc) (cond (Nat.ble 31 pc) (cond (Nat.ble 33 pc) (cond (Nat.ble 36 pc) (cond (Nat.beq pc 36) (some (.ireturn, 1)) none) (cond (Nat.beq pc 33) (some (.invokevirtual 213, 3)) none)) (cond (Nat.beq pc 31) (some (.bipush 32, 2)) none)) (cond (Nat.ble 27 pc) (cond (Nat.ble 30 pc) (cond (Nat.beq pc 30) (some (.aload_n 0, 1)) none) (cond (Nat.beq pc 27) (some (.goto (-25), 3)) none)) (cond (Nat.beq pc 24) (some (.iinc 3 1, 3)) none))) (cond (Nat.ble 19 pc) (cond (Nat.ble 22 pc) (cond (Nat.ble 23 pc) (cond (Nat.beq pc 23) (some (.ireturn, 1)) none) (cond (Nat.beq pc 22) (some (.iconst 0, 1)) none)) (cond (Nat.beq pc 19) (some (.ifCond .ne 5, 3)) none)) (cond (Nat.ble 16 pc) (cond (Nat.beq pc 16) (some (.invokevirtual 213, 3)) none) (cond (Nat.beq pc 15) (some (.iaload, 1)) none)))) (cond (Nat.ble 7 pc) (cond (Nat.ble 12 pc) (cond (Nat.ble 13 pc) (cond (Nat.ble 14 pc) (cond (Nat.beq pc 14) (some (.iadd, 1)) none) (cond (Nat.beq pc 13) (some (.iload_n 3, 1)) none)) (cond (Nat.beq pc 12) (some (.iload_n 1, 1)) none)) (cond (Nat.ble 8 pc) (cond (Nat.ble 9 pc) (cond (Nat.beq pc 9) (some (.getfield 90, 3)) none) (cond (Nat.beq pc 8) (some (.aload_n 0, 1)) none)) (cond (Nat.beq pc 7) (some (.aload_n 0, 1)) none))) (cond (Nat.ble 2 pc) (cond (Nat.ble 3 pc) (cond (Nat.ble 4 pc) (cond (Nat.beq pc 4) (some (.if_icmp .ge 26, 3)) none) (cond (Nat.beq pc 3) (some (.iload_n 2, 1)) none)) (cond (Nat.beq pc 2) (some (.iload_n 3, 1)) none)) (cond (Nat.ble 1 pc) (cond (Nat.beq pc 1) (some (.istore_n 3, 1)) none) (cond (Nat.beq pc 0) (some (.iconst 0, 1)) none))))
def m_X7_takesWord : jM := (7, yX7_takesWord, cX7_takesWord, 4, (some .boolean), fun pc => cond (Nat.ble 37 pc) none (jt_X7_takesWord pc))
set_option maxRecDepth 100000 in
theorem dk_X7_takesWord : ∀ pc q, m_X7_takesWord.2.2.2.2.2 pc = some q → decode cX7_takesWord pc = .ok q := jk_sound (N := 37) (t := jt_X7_takesWord) (by decide +kernel)
set_option maxRecDepth 100000 in
theorem ok_X7_takesWord : jok m_X7_takesWord := ⟨dk_X7_takesWord, jG_in 1023 rfl rfl, jG_in 94 rfl rfl, by decide +kernel, by decide +kernel, by decide⟩
set_option maxRecDepth 100000 in
theorem vi_X7_takesWord : jvirt m_X7_takesWord := ⟨jG_in 1022 rfl rfl, jG_in 36 rfl rfl⟩
def jt_X7_isDigit : Nat → Option (Instr × Nat) := fun pc => cond (Nat.ble 5 pc) (cond (Nat.ble 9 pc) (cond (Nat.ble 12 pc) (cond (Nat.beq pc 12) (some (.ireturn, 1)) none) (cond (Nat.beq pc 9) (some (.invokevirtual 194, 3)) none)) (cond (Nat.ble 7 pc) (cond (Nat.beq pc 7) (some (.bipush 57, 2)) none) (cond (Nat.beq pc 5) (some (.bipush 48, 2)) none))) (cond (Nat.ble 1 pc) (cond (Nat.ble 2 pc) (cond (Nat.beq pc 2) (some (.invokevirtual 209, 3)) none) (cond (Nat.beq pc 1) (some (.aload_n 0, 1)) none)) (cond (Nat.beq pc 0) (some (.aload_n 0, 1)) none))
def m_X7_isDigit : jM := (7, yX7_isDigit, cX7_isDigit, 1, (some .boolean), fun pc => cond (Nat.ble 13 pc) none (jt_X7_isDigit pc))
set_option maxRecDepth 100000 in
theorem dk_X7_isDigit : ∀ pc q, m_X7_isDigit.2.2.2.2.2 pc = some q → decode cX7_isDigit pc = .ok q := jk_sound (N := 13) (t := jt_X7_isDigit) (by decide +kernel)
set_option maxRecDepth 100000 in
theorem ok_X7_isDigit : jok m_X7_isDigit := ⟨dk_X7_isDigit, jG_in 1035 rfl rfl, jG_in 94 rfl rfl, by decide +kernel, by decide +kernel, by decide⟩
set_option maxRecDepth 100000 in
theorem vi_X7_isDigit : jvirt m_X7_isDigit := ⟨jG_in 1034 rfl rfl, jG_in 39 rfl rfl⟩
def jt_X7_takesNumber : Nat → Option (Instr × Nat) := fun pc => cond (Nat.ble 31 pc) (cond (Nat.ble 47 pc) (cond (Nat.ble 54 pc) (cond (Nat.ble 60 pc) (cond (Nat.ble 63 pc) (cond (Nat.ble 64 pc) (cond (Nat.beq pc 64) (some (.ireturn, 1)) none) (cond (Nat.beq pc 63) (some (.iconst 1, 1)) none)) (cond (Nat.beq pc 60) (some (.goto (-44), 3)) none)) (cond (Nat.ble 57 pc) (cond (Nat.beq pc 57) (some (.iinc 1 1, 3)) none) (cond (Nat.beq pc 54) (some (.putfield 51, 3)) none))) (cond (Nat.ble 49 pc) (cond (Nat.ble 52 pc) (cond (Nat.ble 53 pc) (cond (Nat.beq pc 53) (some (.iadd, 1)) none) (cond (Nat.beq pc 52) (some (.iconst 1, 1)) none)) (cond (Nat.beq pc 49) (some (.getfield 51, 3)) none)) (cond (Nat.ble 48 pc) (cond (Nat.beq pc 48) (some (.dup, 1)) none) (cond (Nat.beq pc 47) (some (.aload_n 0, 1)) none)))) (cond (Nat.ble 37 pc) (cond (Nat.ble 41 pc) (cond (Nat.ble 43 pc) (cond (Nat.ble 44 pc) (cond (Nat.beq pc 44) (some (.putfield 54, 3)) none) (cond (Nat.beq pc 43) (some (.isub, 1)) none)) (cond (Nat.beq pc 41) (some (.bipush 48, 2)) none)) (cond (Nat.ble 40 pc) (cond (Nat.beq pc 40) (some (.iadd, 1)) none) (cond (Nat.beq pc 37) (some (.invokevirtual 209, 3)) none))) (cond (Nat.ble 35 pc) (cond (Nat.ble 36 pc) (cond (Nat.beq pc 36) (some (.aload_n 0, 1)) none) (cond (Nat.beq pc 35) (some (.imul, 1)) none)) (cond (Nat.ble 32 pc) (cond (Nat.beq pc 32) (some (.getfield 54, 3)) none) (cond (Nat.beq pc 31) (some (.aload_n 0, 1)) none))))) (cond (Nat.ble 15 pc) (cond (Nat.ble 21 pc) (cond (Nat.ble 25 pc) (cond (Nat.ble 28 pc) (cond (Nat.ble 29 pc) (cond (Nat.beq pc 29) (some (.bipush 10, 2)) none) (cond (Nat.beq pc 28) (some (.aload_n 0, 1)) none)) (cond (Nat.beq pc 25) (some (.ifCond .eq 38, 3)) none)) (cond (Nat.ble 22 pc) (cond (Nat.beq pc 22) (some (.invokevirtual 216, 3)) none) (cond (Nat.beq pc 21) (some (.aload_n 0, 1)) none))) (cond (Nat.ble 17 pc) (cond (Nat.ble 18 pc) (cond (Nat.beq pc 18) (some (.if_icmp .ge 45, 3)) none) (cond (Nat.beq pc 17) (some (.iconst 2, 1)) none)) (cond (Nat.ble 16 pc) (cond (Nat.beq pc 16) (some (.iload_n 1, 1)) none) (cond (Nat.beq pc 15) (some (.istore_n 1, 1)) none)))) (cond (Nat.ble 8 pc) (cond (Nat.ble 10 pc) (cond (Nat.ble 11 pc) (cond (Nat.ble 14 pc) (cond (Nat.beq pc 14) (some (.iconst 0, 1)) none) (cond (Nat.beq pc 11) (some (.putfield 54, 3)) none)) (cond (Nat.beq pc 10) (some (.iconst 0, 1)) none)) (cond (Nat.ble 9 pc) (cond (Nat.beq pc 9) (some (.aload_n 0, 1)) none) (cond (Nat.beq pc 8) (some (.ireturn, 1)) none))) (cond (Nat.ble 4 pc) (cond (Nat.ble 7 pc) (cond (Nat.beq pc 7) (some (.iconst 0, 1)) none) (cond (Nat.beq pc 4) (some (.ifCond .ne 5, 3)) none)) (cond (Nat.ble 1 pc) (cond (Nat.beq pc 1) (some (.invokevirtual 216, 3)) none) (cond (Nat.beq pc 0) (some (.aload_n 0, 1)) none)))))
def m_X7_takesNumber : jM := (7, yX7_takesNumber, cX7_takesNumber, 2, (some .boolean), fun pc => cond (Nat.ble 65 pc) none (jt_X7_takesNumber pc))
set_option maxRecDepth 100000 in
theorem dk_X7_takesNumber : ∀ pc q, m_X7_takesNumber.2.2.2.2.2 pc = some q → decode cX7_takesNumber pc = .ok q := jk_sound (N := 65) (t := jt_X7_takesNumber) (by decide +kernel)
set_option maxRecDepth 100000 in
theorem ok_X7_takesNumber : jok m_X7_takesNumber := ⟨dk_X7_takesNumber, jG_in 1031 rfl rfl, jG_in 94 rfl rfl, by decide +kernel, by decide +kernel, by decide⟩
set_option maxRecDepth 100000 in
theorem vi_X7_takesNumber : jvirt m_X7_takesNumber := ⟨jG_in 1030 rfl rfl, jG_in 38 rfl rfl⟩
def jt_X7_emits : Nat → Option (Instr × Nat) := fun pc => cond (Nat.ble 10 pc) (cond (Nat.ble 15 pc) (cond (Nat.ble 17 pc) (cond (Nat.ble 20 pc) (cond (Nat.beq pc 20) (some (.return_, 1)) none) (cond (Nat.beq pc 17) (some (.putfield 81, 3)) none)) (cond (Nat.ble 16 pc) (cond (Nat.beq pc 16) (some (.iadd, 1)) none) (cond (Nat.beq pc 15) (some (.iconst 1, 1)) none))) (cond (Nat.ble 11 pc) (cond (Nat.ble 12 pc) (cond (Nat.beq pc 12) (some (.getfield 81, 3)) none) (cond (Nat.beq pc 11) (some (.dup, 1)) none)) (cond (Nat.beq pc 10) (some (.aload_n 0, 1)) none))) (cond (Nat.ble 5 pc) (cond (Nat.ble 8 pc) (cond (Nat.ble 9 pc) (cond (Nat.beq pc 9) (some (.iastore, 1)) none) (cond (Nat.beq pc 8) (some (.iload_n 1, 1)) none)) (cond (Nat.beq pc 5) (some (.getfield 81, 3)) none)) (cond (Nat.ble 1 pc) (cond (Nat.ble 4 pc) (cond (Nat.beq pc 4) (some (.aload_n 0, 1)) none) (cond (Nat.beq pc 1) (some (.getfield 75, 3)) none)) (cond (Nat.beq pc 0) (some (.aload_n 0, 1)) none)))
def m_X7_emits : jM := (7, yX7_emits, cX7_emits, 2, none, fun pc => cond (Nat.ble 21 pc) none (jt_X7_emits pc))
set_option maxRecDepth 100000 in
theorem dk_X7_emits : ∀ pc q, m_X7_emits.2.2.2.2.2 pc = some q → decode cX7_emits pc = .ok q := jk_sound (N := 21) (t := jt_X7_emits) (by decide +kernel)
set_option maxRecDepth 100000 in
theorem ok_X7_emits : jok m_X7_emits := ⟨dk_X7_emits, jG_in 1051 rfl rfl, jG_in 94 rfl rfl, by decide +kernel, by decide +kernel, by decide⟩
set_option maxRecDepth 100000 in
theorem vi_X7_emits : jvirt m_X7_emits := ⟨jG_in 1050 rfl rfl, jG_in 43 rfl rfl⟩
def jt_X7_whole : Nat → Option (Instr × Nat) := fun pc => cond (Nat.ble 26 pc) (cond (Nat.ble 39 pc) (cond (Nat.ble 45 pc) (cond (Nat.ble 49 pc) (cond (Nat.ble 52 pc) (cond (Nat.beq pc 52) (some (.return_, 1)) none) (cond (Nat.beq pc 49) (some (.goto (-49), 3)) none)) (cond (Nat.ble 46 pc) (cond (Nat.beq pc 46) (some (.putfield 87, 3)) none) (cond (Nat.beq pc 45) (some (.isub, 1)) none))) (cond (Nat.ble 41 pc) (cond (Nat.ble 44 pc) (cond (Nat.beq pc 44) (some (.iconst 1, 1)) none) (cond (Nat.beq pc 41) (some (.getfield 87, 3)) none)) (cond (Nat.ble 40 pc) (cond (Nat.beq pc 40) (some (.dup, 1)) none) (cond (Nat.beq pc 39) (some (.aload_n 0, 1)) none)))) (cond (Nat.ble 31 pc) (cond (Nat.ble 35 pc) (cond (Nat.ble 36 pc) (cond (Nat.beq pc 36) (some (.putfield 84, 3)) none) (cond (Nat.beq pc 35) (some (.isub, 1)) none)) (cond (Nat.ble 34 pc) (cond (Nat.beq pc 34) (some (.iconst 1, 1)) none) (cond (Nat.beq pc 31) (some (.getfield 84, 3)) none))) (cond (Nat.ble 29 pc) (cond (Nat.ble 30 pc) (cond (Nat.beq pc 30) (some (.dup, 1)) none) (cond (Nat.beq pc 29) (some (.aload_n 0, 1)) none)) (cond (Nat.beq pc 26) (some (.invokevirtual 220, 3)) none)))) (cond (Nat.ble 15 pc) (cond (Nat.ble 18 pc) (cond (Nat.ble 23 pc) (cond (Nat.ble 24 pc) (cond (Nat.beq pc 24) (some (.bipush (-33), 2)) none) (cond (Nat.beq pc 23) (some (.aload_n 0, 1)) none)) (cond (Nat.ble 20 pc) (cond (Nat.beq pc 20) (some (.if_icmp .ne 32, 3)) none) (cond (Nat.beq pc 18) (some (.bipush 33, 2)) none))) (cond (Nat.ble 16 pc) (cond (Nat.ble 17 pc) (cond (Nat.beq pc 17) (some (.iaload, 1)) none) (cond (Nat.beq pc 16) (some (.isub, 1)) none)) (cond (Nat.beq pc 15) (some (.iconst 1, 1)) none))) (cond (Nat.ble 7 pc) (cond (Nat.ble 11 pc) (cond (Nat.ble 12 pc) (cond (Nat.beq pc 12) (some (.getfield 84, 3)) none) (cond (Nat.beq pc 11) (some (.aload_n 0, 1)) none)) (cond (Nat.ble 8 pc) (cond (Nat.beq pc 8) (some (.getfield 78, 3)) none) (cond (Nat.beq pc 7) (some (.aload_n 0, 1)) none))) (cond (Nat.ble 1 pc) (cond (Nat.ble 4 pc) (cond (Nat.beq pc 4) (some (.ifCond .le 48, 3)) none) (cond (Nat.beq pc 1) (some (.getfield 84, 3)) none)) (cond (Nat.beq pc 0) (some (.aload_n 0, 1)) none))))
def m_X7_whole : jM := (7, yX7_whole, cX7_whole, 1, none, fun pc => cond (Nat.ble 53 pc) none (jt_X7_whole pc))
set_option maxRecDepth 100000 in
theorem dk_X7_whole : ∀ pc q, m_X7_whole.2.2.2.2.2 pc = some q → decode cX7_whole pc = .ok q := jk_sound (N := 53) (t := jt_X7_whole) (by decide +kernel)
set_option maxRecDepth 100000 in
theorem ok_X7_whole : jok m_X7_whole := ⟨dk_X7_whole, jG_in 1055 rfl rfl, jG_in 94 rfl rfl, by decide +kernel, by decide +kernel, by decide⟩
set_option maxRecDepth 100000 in
theorem vi_X7_whole : jvirt m_X7_whole := ⟨jG_in 1054 rfl rfl, jG_in 44 rfl rfl⟩
def jt_X7_settle : Nat → Option (Instr × Nat) := fun pc => cond (Nat.ble 36 pc) (cond (Nat.ble 55 pc) (cond (Nat.ble 64 pc) (cond (Nat.ble 66 pc) (cond (Nat.ble 69 pc) (cond (Nat.ble 72 pc) (cond (Nat.beq pc 72) (some (.return_, 1)) none) (cond (Nat.beq pc 69) (some (.goto (-69), 3)) none)) (cond (Nat.beq pc 66) (some (.invokevirtual 220, 3)) none)) (cond (Nat.ble 65 pc) (cond (Nat.beq pc 65) (some (.ineg, 1)) none) (cond (Nat.beq pc 64) (some (.iaload, 1)) none))) (cond (Nat.ble 57 pc) (cond (Nat.ble 60 pc) (cond (Nat.ble 61 pc) (cond (Nat.beq pc 61) (some (.getfield 84, 3)) none) (cond (Nat.beq pc 60) (some (.aload_n 0, 1)) none)) (cond (Nat.beq pc 57) (some (.getfield 78, 3)) none)) (cond (Nat.ble 56 pc) (cond (Nat.beq pc 56) (some (.aload_n 0, 1)) none) (cond (Nat.beq pc 55) (some (.aload_n 0, 1)) none)))) (cond (Nat.ble 46 pc) (cond (Nat.ble 50 pc) (cond (Nat.ble 51 pc) (cond (Nat.ble 52 pc) (cond (Nat.beq pc 52) (some (.putfield 84, 3)) none) (cond (Nat.beq pc 51) (some (.isub, 1)) none)) (cond (Nat.beq pc 50) (some (.iconst 1, 1)) none)) (cond (Nat.ble 47 pc) (cond (Nat.beq pc 47) (some (.getfield 84, 3)) none) (cond (Nat.beq pc 46) (some (.dup, 1)) none))) (cond (Nat.ble 40 pc) (cond (Nat.ble 42 pc) (cond (Nat.ble 45 pc) (cond (Nat.beq pc 45) (some (.aload_n 0, 1)) none) (cond (Nat.beq pc 42) (some (.if_icmp .eq 30, 3)) none)) (cond (Nat.beq pc 40) (some (.bipush 38, 2)) none)) (cond (Nat.ble 39 pc) (cond (Nat.beq pc 39) (some (.iload_n 1, 1)) none) (cond (Nat.beq pc 36) (some (.if_icmp .ne 36, 3)) none))))) (cond (Nat.ble 18 pc) (cond (Nat.ble 28 pc) (cond (Nat.ble 32 pc) (cond (Nat.ble 33 pc) (cond (Nat.ble 34 pc) (cond (Nat.beq pc 34) (some (.bipush 124, 2)) none) (cond (Nat.beq pc 33) (some (.iaload, 1)) none)) (cond (Nat.beq pc 32) (some (.isub, 1)) none)) (cond (Nat.ble 31 pc) (cond (Nat.beq pc 31) (some (.iconst 1, 1)) none) (cond (Nat.beq pc 28) (some (.getfield 84, 3)) none))) (cond (Nat.ble 23 pc) (cond (Nat.ble 24 pc) (cond (Nat.ble 27 pc) (cond (Nat.beq pc 27) (some (.aload_n 0, 1)) none) (cond (Nat.beq pc 24) (some (.getfield 78, 3)) none)) (cond (Nat.beq pc 23) (some (.aload_n 0, 1)) none)) (cond (Nat.ble 20 pc) (cond (Nat.beq pc 20) (some (.if_icmp .eq 25, 3)) none) (cond (Nat.beq pc 18) (some (.bipush 38, 2)) none)))) (cond (Nat.ble 11 pc) (cond (Nat.ble 15 pc) (cond (Nat.ble 16 pc) (cond (Nat.ble 17 pc) (cond (Nat.beq pc 17) (some (.iaload, 1)) none) (cond (Nat.beq pc 16) (some (.isub, 1)) none)) (cond (Nat.beq pc 15) (some (.iconst 1, 1)) none)) (cond (Nat.ble 12 pc) (cond (Nat.beq pc 12) (some (.getfield 84, 3)) none) (cond (Nat.beq pc 11) (some (.aload_n 0, 1)) none))) (cond (Nat.ble 4 pc) (cond (Nat.ble 7 pc) (cond (Nat.ble 8 pc) (cond (Nat.beq pc 8) (some (.getfield 78, 3)) none) (cond (Nat.beq pc 7) (some (.aload_n 0, 1)) none)) (cond (Nat.beq pc 4) (some (.ifCond .le 68, 3)) none)) (cond (Nat.ble 1 pc) (cond (Nat.beq pc 1) (some (.getfield 84, 3)) none) (cond (Nat.beq pc 0) (some (.aload_n 0, 1)) none)))))
def m_X7_settle : jM := (7, yX7_settle, cX7_settle, 2, none, fun pc => cond (Nat.ble 73 pc) none (jt_X7_settle pc))
set_option maxRecDepth 100000 in
theorem dk_X7_settle : ∀ pc q, m_X7_settle.2.2.2.2.2 pc = some q → decode cX7_settle pc = .ok q := jk_sound (N := 73) (t := jt_X7_settle) (by decide +kernel)
set_option maxRecDepth 100000 in
theorem ok_X7_settle : jok m_X7_settle := ⟨dk_X7_settle, jG_in 1059 rfl rfl, jG_in 94 rfl rfl, by decide +kernel, by decide +kernel, by decide⟩
set_option maxRecDepth 100000 in
theorem vi_X7_settle : jvirt m_X7_settle := ⟨jG_in 1058 rfl rfl, jG_in 45 rfl rfl⟩
def jt_X7_place : Nat → Option (Instr × Nat) := fun pc => cond (Nat.ble 66 pc) (cond (Nat.ble 70 pc) (cond (Nat.ble 72 pc) (cond (Nat.ble 73 pc) (cond (Nat.beq pc 73) (some (.ireturn, 1)) none) (cond (Nat.beq pc 72) (some (.iconst (-1), 1)) none)) (cond (Nat.ble 71 pc) (cond (Nat.beq pc 71) (some (.ireturn, 1)) none) (cond (Nat.beq pc 70) (some (.iconst 5, 1)) none))) (cond (Nat.ble 68 pc) (cond (Nat.ble 69 pc) (cond (Nat.beq pc 69) (some (.ireturn, 1)) none) (cond (Nat.beq pc 68) (some (.iconst 4, 1)) none)) (cond (Nat.ble 67 pc) (cond (Nat.beq pc 67) (some (.ireturn, 1)) none) (cond (Nat.beq pc 66) (some (.iconst 3, 1)) none)))) (cond (Nat.ble 62 pc) (cond (Nat.ble 64 pc) (cond (Nat.ble 65 pc) (cond (Nat.beq pc 65) (some (.ireturn, 1)) none) (cond (Nat.beq pc 64) (some (.iconst 2, 1)) none)) (cond (Nat.ble 63 pc) (cond (Nat.beq pc 63) (some (.ireturn, 1)) none) (cond (Nat.beq pc 62) (some (.iconst 1, 1)) none))) (cond (Nat.ble 60 pc) (cond (Nat.ble 61 pc) (cond (Nat.beq pc 61) (some (.ireturn, 1)) none) (cond (Nat.beq pc 60) (some (.iconst 0, 1)) none)) (cond (Nat.ble 1 pc) (cond (Nat.beq pc 1) (some (.lookupswitch 71 #[(98, 69), (99, 65), (100, 63), (107, 61), (112, 59), (121, 67)], 59)) none) (cond (Nat.beq pc 0) (some (.iload_n 1, 1)) none))))
def m_X7_place : jM := (7, yX7_place, cX7_place, 2, (some .int), fun pc => cond (Nat.ble 74 pc) none (jt_X7_place pc))
set_option maxRecDepth 100000 in
theorem dk_X7_place : ∀ pc q, m_X7_place.2.2.2.2.2 pc = some q → decode cX7_place pc = .ok q := jk_sound (N := 74) (t := jt_X7_place) (by decide +kernel)
set_option maxRecDepth 100000 in
theorem ok_X7_place : jok m_X7_place := ⟨dk_X7_place, jG_in 1047 rfl rfl, jG_in 94 rfl rfl, by decide +kernel, by decide +kernel, by decide⟩
set_option maxRecDepth 100000 in
theorem vi_X7_place : jvirt m_X7_place := ⟨jG_in 1046 rfl rfl, jG_in 42 rfl rfl⟩
def jt_X7_takesTest : Nat → Option (Instr × Nat) := fun pc => cond (Nat.ble 45 pc) (cond (Nat.ble 69 pc) (cond (Nat.ble 78 pc) (cond (Nat.ble 85 pc) (cond (Nat.ble 89 pc) (cond (Nat.ble 90 pc) (cond (Nat.beq pc 90) (some (.ireturn, 1)) none) (cond (Nat.beq pc 89) (some (.iconst 1, 1)) none)) (cond (Nat.ble 86 pc) (cond (Nat.beq pc 86) (some (.invokevirtual 231, 3)) none) (cond (Nat.beq pc 85) (some (.aload_n 0, 1)) none))) (cond (Nat.ble 81 pc) (cond (Nat.ble 82 pc) (cond (Nat.beq pc 82) (some (.invokevirtual 220, 3)) none) (cond (Nat.beq pc 81) (some (.iadd, 1)) none)) (cond (Nat.beq pc 78) (some (.getfield 54, 3)) none))) (cond (Nat.ble 74 pc) (cond (Nat.ble 76 pc) (cond (Nat.ble 77 pc) (cond (Nat.beq pc 77) (some (.aload_n 0, 1)) none) (cond (Nat.beq pc 76) (some (.iadd, 1)) none)) (cond (Nat.ble 75 pc) (cond (Nat.beq pc 75) (some (.imul, 1)) none) (cond (Nat.beq pc 74) (some (.isub, 1)) none))) (cond (Nat.ble 71 pc) (cond (Nat.ble 72 pc) (cond (Nat.beq pc 72) (some (.bipush 60, 2)) none) (cond (Nat.beq pc 71) (some (.iload_n 2, 1)) none)) (cond (Nat.beq pc 69) (some (.bipush 100, 2)) none)))) (cond (Nat.ble 58 pc) (cond (Nat.ble 63 pc) (cond (Nat.ble 67 pc) (cond (Nat.ble 68 pc) (cond (Nat.beq pc 68) (some (.imul, 1)) none) (cond (Nat.beq pc 67) (some (.iload_n 1, 1)) none)) (cond (Nat.ble 64 pc) (cond (Nat.beq pc 64) (some (.sipush 1000, 3)) none) (cond (Nat.beq pc 63) (some (.aload_n 0, 1)) none))) (cond (Nat.ble 61 pc) (cond (Nat.ble 62 pc) (cond (Nat.beq pc 62) (some (.ireturn, 1)) none) (cond (Nat.beq pc 61) (some (.iconst 0, 1)) none)) (cond (Nat.beq pc 58) (some (.ifCond .ne 5, 3)) none))) (cond (Nat.ble 50 pc) (cond (Nat.ble 54 pc) (cond (Nat.ble 55 pc) (cond (Nat.beq pc 55) (some (.invokevirtual 228, 3)) none) (cond (Nat.beq pc 54) (some (.aload_n 0, 1)) none)) (cond (Nat.ble 51 pc) (cond (Nat.beq pc 51) (some (.putfield 51, 3)) none) (cond (Nat.beq pc 50) (some (.iadd, 1)) none))) (cond (Nat.ble 46 pc) (cond (Nat.ble 49 pc) (cond (Nat.beq pc 49) (some (.iconst 1, 1)) none) (cond (Nat.beq pc 46) (some (.getfield 51, 3)) none)) (cond (Nat.beq pc 45) (some (.dup, 1)) none))))) (cond (Nat.ble 21 pc) (cond (Nat.ble 32 pc) (cond (Nat.ble 39 pc) (cond (Nat.ble 43 pc) (cond (Nat.ble 44 pc) (cond (Nat.beq pc 44) (some (.aload_n 0, 1)) none) (cond (Nat.beq pc 43) (some (.ireturn, 1)) none)) (cond (Nat.ble 42 pc) (cond (Nat.beq pc 42) (some (.iconst 0, 1)) none) (cond (Nat.beq pc 39) (some (.ifCond .ne 5, 3)) none))) (cond (Nat.ble 34 pc) (cond (Nat.ble 36 pc) (cond (Nat.beq pc 36) (some (.invokevirtual 194, 3)) none) (cond (Nat.beq pc 34) (some (.bipush 62, 2)) none)) (cond (Nat.beq pc 32) (some (.bipush 60, 2)) none))) (cond (Nat.ble 26 pc) (cond (Nat.ble 30 pc) (cond (Nat.ble 31 pc) (cond (Nat.beq pc 31) (some (.iload_n 2, 1)) none) (cond (Nat.beq pc 30) (some (.aload_n 0, 1)) none)) (cond (Nat.ble 29 pc) (cond (Nat.beq pc 29) (some (.istore_n 2, 1)) none) (cond (Nat.beq pc 26) (some (.invokevirtual 209, 3)) none))) (cond (Nat.ble 22 pc) (cond (Nat.ble 25 pc) (cond (Nat.beq pc 25) (some (.aload_n 0, 1)) none) (cond (Nat.beq pc 22) (some (.putfield 51, 3)) none)) (cond (Nat.beq pc 21) (some (.iadd, 1)) none)))) (cond (Nat.ble 10 pc) (cond (Nat.ble 15 pc) (cond (Nat.ble 17 pc) (cond (Nat.ble 20 pc) (cond (Nat.beq pc 20) (some (.iconst 1, 1)) none) (cond (Nat.beq pc 17) (some (.getfield 51, 3)) none)) (cond (Nat.ble 16 pc) (cond (Nat.beq pc 16) (some (.dup, 1)) none) (cond (Nat.beq pc 15) (some (.aload_n 0, 1)) none))) (cond (Nat.ble 13 pc) (cond (Nat.ble 14 pc) (cond (Nat.beq pc 14) (some (.ireturn, 1)) none) (cond (Nat.beq pc 13) (some (.iconst 0, 1)) none)) (cond (Nat.beq pc 10) (some (.ifCond .ge 5, 3)) none))) (cond (Nat.ble 5 pc) (cond (Nat.ble 8 pc) (cond (Nat.ble 9 pc) (cond (Nat.beq pc 9) (some (.iload_n 1, 1)) none) (cond (Nat.beq pc 8) (some (.istore_n 1, 1)) none)) (cond (Nat.beq pc 5) (some (.invokevirtual 224, 3)) none)) (cond (Nat.ble 1 pc) (cond (Nat.ble 2 pc) (cond (Nat.beq pc 2) (some (.invokevirtual 209, 3)) none) (cond (Nat.beq pc 1) (some (.aload_n 0, 1)) none)) (cond (Nat.beq pc 0) (some (.aload_n 0, 1)) none)))))
def m_X7_takesTest : jM := (7, yX7_takesTest, cX7_takesTest, 3, (some .boolean), fun pc => cond (Nat.ble 91 pc) none (jt_X7_takesTest pc))
set_option maxRecDepth 100000 in
theorem dk_X7_takesTest : ∀ pc q, m_X7_takesTest.2.2.2.2.2 pc = some q → decode cX7_takesTest pc = .ok q := jk_sound (N := 91) (t := jt_X7_takesTest) (by decide +kernel)
set_option maxRecDepth 100000 in
theorem ok_X7_takesTest : jok m_X7_takesTest := ⟨dk_X7_takesTest, jG_in 1043 rfl rfl, jG_in 94 rfl rfl, by decide +kernel, by decide +kernel, by decide⟩
set_option maxRecDepth 100000 in
theorem vi_X7_takesTest : jvirt m_X7_takesTest := ⟨jG_in 1042 rfl rfl, jG_in 41 rfl rfl⟩
def jt_X7_takesE : Nat → Option (Instr × Nat) := fun pc => cond (Nat.ble 116 pc) (cond (Nat.ble 173 pc) (cond (Nat.ble 201 pc) (cond (Nat.ble 215 pc) (cond (Nat.ble 221 pc) (cond (Nat.ble 225 pc) (cond (Nat.ble 226 pc) (cond (Nat.ble 229 pc) (cond (Nat.beq pc 229) (some (.goto (-207), 3)) none) (cond (Nat.beq pc 226) (some (.invokevirtual 231, 3)) none)) (cond (Nat.beq pc 225) (some (.aload_n 0, 1)) none)) (cond (Nat.ble 222 pc) (cond (Nat.beq pc 222) (some (.putfield 51, 3)) none) (cond (Nat.beq pc 221) (some (.iadd, 1)) none))) (cond (Nat.ble 217 pc) (cond (Nat.ble 220 pc) (cond (Nat.beq pc 220) (some (.iconst 1, 1)) none) (cond (Nat.beq pc 217) (some (.getfield 51, 3)) none)) (cond (Nat.ble 216 pc) (cond (Nat.beq pc 216) (some (.dup, 1)) none) (cond (Nat.beq pc 215) (some (.aload_n 0, 1)) none)))) (cond (Nat.ble 207 pc) (cond (Nat.ble 211 pc) (cond (Nat.ble 212 pc) (cond (Nat.beq pc 212) (some (.putfield 87, 3)) none) (cond (Nat.beq pc 211) (some (.isub, 1)) none)) (cond (Nat.ble 210 pc) (cond (Nat.beq pc 210) (some (.iconst 1, 1)) none) (cond (Nat.beq pc 207) (some (.getfield 87, 3)) none))) (cond (Nat.ble 205 pc) (cond (Nat.ble 206 pc) (cond (Nat.beq pc 206) (some (.dup, 1)) none) (cond (Nat.beq pc 205) (some (.aload_n 0, 1)) none)) (cond (Nat.ble 202 pc) (cond (Nat.beq pc 202) (some (.putfield 84, 3)) none) (cond (Nat.beq pc 201) (some (.isub, 1)) none))))) (cond (Nat.ble 187 pc) (cond (Nat.ble 194 pc) (cond (Nat.ble 196 pc) (cond (Nat.ble 197 pc) (cond (Nat.ble 200 pc) (cond (Nat.beq pc 200) (some (.iconst 1, 1)) none) (cond (Nat.beq pc 197) (some (.getfield 84, 3)) none)) (cond (Nat.beq pc 196) (some (.dup, 1)) none)) (cond (Nat.ble 195 pc) (cond (Nat.beq pc 195) (some (.aload_n 0, 1)) none) (cond (Nat.beq pc 194) (some (.ireturn, 1)) none))) (cond (Nat.ble 190 pc) (cond (Nat.ble 193 pc) (cond (Nat.beq pc 193) (some (.iconst 0, 1)) none) (cond (Nat.beq pc 190) (some (.if_icmp .eq 5, 3)) none)) (cond (Nat.ble 188 pc) (cond (Nat.beq pc 188) (some (.bipush 41, 2)) none) (cond (Nat.beq pc 187) (some (.iload_n 3, 1)) none)))) (cond (Nat.ble 179 pc) (cond (Nat.ble 185 pc) (cond (Nat.ble 186 pc) (cond (Nat.beq pc 186) (some (.ireturn, 1)) none) (cond (Nat.beq pc 185) (some (.iconst 1, 1)) none)) (cond (Nat.ble 182 pc) (cond (Nat.beq pc 182) (some (.ifCond .ne 5, 3)) none) (cond (Nat.beq pc 179) (some (.getfield 84, 3)) none))) (cond (Nat.ble 177 pc) (cond (Nat.ble 178 pc) (cond (Nat.beq pc 178) (some (.aload_n 0, 1)) none) (cond (Nat.beq pc 177) (some (.iastore, 1)) none)) (cond (Nat.ble 174 pc) (cond (Nat.beq pc 174) (some (.getfield 81, 3)) none) (cond (Nat.beq pc 173) (some (.aload_n 0, 1)) none)))))) (cond (Nat.ble 143 pc) (cond (Nat.ble 155 pc) (cond (Nat.ble 163 pc) (cond (Nat.ble 168 pc) (cond (Nat.ble 169 pc) (cond (Nat.ble 172 pc) (cond (Nat.beq pc 172) (some (.iload_n 1, 1)) none) (cond (Nat.beq pc 169) (some (.getfield 72, 3)) none)) (cond (Nat.beq pc 168) (some (.aload_n 0, 1)) none)) (cond (Nat.ble 165 pc) (cond (Nat.beq pc 165) (some (.invokevirtual 237, 3)) none) (cond (Nat.beq pc 163) (some (.bipush 124, 2)) none))) (cond (Nat.ble 159 pc) (cond (Nat.ble 162 pc) (cond (Nat.beq pc 162) (some (.aload_n 0, 1)) none) (cond (Nat.beq pc 159) (some (.goto (-137), 3)) none)) (cond (Nat.ble 156 pc) (cond (Nat.beq pc 156) (some (.putfield 51, 3)) none) (cond (Nat.beq pc 155) (some (.iadd, 1)) none)))) (cond (Nat.ble 149 pc) (cond (Nat.ble 151 pc) (cond (Nat.ble 154 pc) (cond (Nat.beq pc 154) (some (.iconst 1, 1)) none) (cond (Nat.beq pc 151) (some (.getfield 51, 3)) none)) (cond (Nat.ble 150 pc) (cond (Nat.beq pc 150) (some (.dup, 1)) none) (cond (Nat.beq pc 149) (some (.aload_n 0, 1)) none))) (cond (Nat.ble 147 pc) (cond (Nat.ble 148 pc) (cond (Nat.beq pc 148) (some (.istore_n 2, 1)) none) (cond (Nat.beq pc 147) (some (.iconst 1, 1)) none)) (cond (Nat.ble 144 pc) (cond (Nat.beq pc 144) (some (.putfield 84, 3)) none) (cond (Nat.beq pc 143) (some (.iadd, 1)) none))))) (cond (Nat.ble 131 pc) (cond (Nat.ble 137 pc) (cond (Nat.ble 139 pc) (cond (Nat.ble 142 pc) (cond (Nat.beq pc 142) (some (.iconst 1, 1)) none) (cond (Nat.beq pc 139) (some (.getfield 84, 3)) none)) (cond (Nat.ble 138 pc) (cond (Nat.beq pc 138) (some (.dup, 1)) none) (cond (Nat.beq pc 137) (some (.aload_n 0, 1)) none))) (cond (Nat.ble 135 pc) (cond (Nat.ble 136 pc) (cond (Nat.beq pc 136) (some (.iastore, 1)) none) (cond (Nat.beq pc 135) (some (.iload_n 3, 1)) none)) (cond (Nat.ble 132 pc) (cond (Nat.beq pc 132) (some (.getfield 84, 3)) none) (cond (Nat.beq pc 131) (some (.aload_n 0, 1)) none)))) (cond (Nat.ble 123 pc) (cond (Nat.ble 127 pc) (cond (Nat.ble 128 pc) (cond (Nat.beq pc 128) (some (.getfield 78, 3)) none) (cond (Nat.beq pc 127) (some (.aload_n 0, 1)) none)) (cond (Nat.ble 124 pc) (cond (Nat.beq pc 124) (some (.invokevirtual 237, 3)) none) (cond (Nat.beq pc 123) (some (.iload_n 3, 1)) none))) (cond (Nat.ble 119 pc) (cond (Nat.ble 122 pc) (cond (Nat.beq pc 122) (some (.aload_n 0, 1)) none) (cond (Nat.beq pc 119) (some (.if_icmp .ne 43, 3)) none)) (cond (Nat.ble 117 pc) (cond (Nat.beq pc 117) (some (.bipush 124, 2)) none) (cond (Nat.beq pc 116) (some (.iload_n 3, 1)) none))))))) (cond (Nat.ble 55 pc) (cond (Nat.ble 84 pc) (cond (Nat.ble 100 pc) (cond (Nat.ble 108 pc) (cond (Nat.ble 110 pc) (cond (Nat.ble 111 pc) (cond (Nat.ble 113 pc) (cond (Nat.beq pc 113) (some (.if_icmp .eq 9, 3)) none) (cond (Nat.beq pc 111) (some (.bipush 38, 2)) none)) (cond (Nat.beq pc 110) (some (.iload_n 3, 1)) none)) (cond (Nat.ble 109 pc) (cond (Nat.beq pc 109) (some (.ireturn, 1)) none) (cond (Nat.beq pc 108) (some (.iconst 0, 1)) none))) (cond (Nat.ble 104 pc) (cond (Nat.ble 105 pc) (cond (Nat.beq pc 105) (some (.goto (-83), 3)) none) (cond (Nat.beq pc 104) (some (.istore_n 2, 1)) none)) (cond (Nat.ble 103 pc) (cond (Nat.beq pc 103) (some (.iconst 0, 1)) none) (cond (Nat.beq pc 100) (some (.ifCond .eq 8, 3)) none)))) (cond (Nat.ble 90 pc) (cond (Nat.ble 96 pc) (cond (Nat.ble 97 pc) (cond (Nat.beq pc 97) (some (.invokevirtual 234, 3)) none) (cond (Nat.beq pc 96) (some (.aload_n 0, 1)) none)) (cond (Nat.ble 93 pc) (cond (Nat.beq pc 93) (some (.goto (-71), 3)) none) (cond (Nat.beq pc 90) (some (.putfield 51, 3)) none))) (cond (Nat.ble 88 pc) (cond (Nat.ble 89 pc) (cond (Nat.beq pc 89) (some (.iadd, 1)) none) (cond (Nat.beq pc 88) (some (.iconst 1, 1)) none)) (cond (Nat.ble 85 pc) (cond (Nat.beq pc 85) (some (.getfield 51, 3)) none) (cond (Nat.beq pc 84) (some (.dup, 1)) none))))) (cond (Nat.ble 71 pc) (cond (Nat.ble 75 pc) (cond (Nat.ble 79 pc) (cond (Nat.ble 80 pc) (cond (Nat.ble 83 pc) (cond (Nat.beq pc 83) (some (.aload_n 0, 1)) none) (cond (Nat.beq pc 80) (some (.putfield 84, 3)) none)) (cond (Nat.beq pc 79) (some (.iadd, 1)) none)) (cond (Nat.ble 78 pc) (cond (Nat.beq pc 78) (some (.iconst 1, 1)) none) (cond (Nat.beq pc 75) (some (.getfield 84, 3)) none))) (cond (Nat.ble 73 pc) (cond (Nat.ble 74 pc) (cond (Nat.beq pc 74) (some (.dup, 1)) none) (cond (Nat.beq pc 73) (some (.aload_n 0, 1)) none)) (cond (Nat.ble 72 pc) (cond (Nat.beq pc 72) (some (.iastore, 1)) none) (cond (Nat.beq pc 71) (some (.iload_n 3, 1)) none)))) (cond (Nat.ble 63 pc) (cond (Nat.ble 67 pc) (cond (Nat.ble 68 pc) (cond (Nat.beq pc 68) (some (.getfield 84, 3)) none) (cond (Nat.beq pc 67) (some (.aload_n 0, 1)) none)) (cond (Nat.ble 64 pc) (cond (Nat.beq pc 64) (some (.getfield 78, 3)) none) (cond (Nat.beq pc 63) (some (.aload_n 0, 1)) none))) (cond (Nat.ble 59 pc) (cond (Nat.ble 60 pc) (cond (Nat.beq pc 60) (some (.putfield 87, 3)) none) (cond (Nat.beq pc 59) (some (.iadd, 1)) none)) (cond (Nat.ble 58 pc) (cond (Nat.beq pc 58) (some (.iconst 1, 1)) none) (cond (Nat.beq pc 55) (some (.getfield 87, 3)) none)))))) (cond (Nat.ble 26 pc) (cond (Nat.ble 40 pc) (cond (Nat.ble 48 pc) (cond (Nat.ble 52 pc) (cond (Nat.ble 53 pc) (cond (Nat.ble 54 pc) (cond (Nat.beq pc 54) (some (.dup, 1)) none) (cond (Nat.beq pc 53) (some (.aload_n 0, 1)) none)) (cond (Nat.beq pc 52) (some (.ireturn, 1)) none)) (cond (Nat.ble 51 pc) (cond (Nat.beq pc 51) (some (.iconst 0, 1)) none) (cond (Nat.beq pc 48) (some (.if_icmp .ne 5, 3)) none))) (cond (Nat.ble 44 pc) (cond (Nat.ble 47 pc) (cond (Nat.beq pc 47) (some (.iconst 4, 1)) none) (cond (Nat.beq pc 44) (some (.getfield 87, 3)) none)) (cond (Nat.ble 43 pc) (cond (Nat.beq pc 43) (some (.aload_n 0, 1)) none) (cond (Nat.beq pc 40) (some (.if_icmp .ne 56, 3)) none)))) (cond (Nat.ble 32 pc) (cond (Nat.ble 37 pc) (cond (Nat.ble 38 pc) (cond (Nat.beq pc 38) (some (.bipush 40, 2)) none) (cond (Nat.beq pc 37) (some (.iload_n 3, 1)) none)) (cond (Nat.ble 34 pc) (cond (Nat.beq pc 34) (some (.if_icmp .eq 9, 3)) none) (cond (Nat.beq pc 32) (some (.bipush 33, 2)) none))) (cond (Nat.ble 28 pc) (cond (Nat.ble 31 pc) (cond (Nat.beq pc 31) (some (.iload_n 3, 1)) none) (cond (Nat.beq pc 28) (some (.ifCond .eq 82, 3)) none)) (cond (Nat.ble 27 pc) (cond (Nat.beq pc 27) (some (.iload_n 2, 1)) none) (cond (Nat.beq pc 26) (some (.istore_n 3, 1)) none))))) (cond (Nat.ble 14 pc) (cond (Nat.ble 20 pc) (cond (Nat.ble 22 pc) (cond (Nat.ble 23 pc) (cond (Nat.beq pc 23) (some (.invokevirtual 209, 3)) none) (cond (Nat.beq pc 22) (some (.aload_n 0, 1)) none)) (cond (Nat.ble 21 pc) (cond (Nat.beq pc 21) (some (.istore_n 2, 1)) none) (cond (Nat.beq pc 20) (some (.iconst 1, 1)) none))) (cond (Nat.ble 16 pc) (cond (Nat.ble 19 pc) (cond (Nat.beq pc 19) (some (.iastore, 1)) none) (cond (Nat.beq pc 16) (some (.getfield 81, 3)) none)) (cond (Nat.ble 15 pc) (cond (Nat.beq pc 15) (some (.aload_n 0, 1)) none) (cond (Nat.beq pc 14) (some (.iload_n 1, 1)) none)))) (cond (Nat.ble 6 pc) (cond (Nat.ble 10 pc) (cond (Nat.ble 11 pc) (cond (Nat.beq pc 11) (some (.getfield 69, 3)) none) (cond (Nat.beq pc 10) (some (.aload_n 0, 1)) none)) (cond (Nat.ble 7 pc) (cond (Nat.beq pc 7) (some (.putfield 87, 3)) none) (cond (Nat.beq pc 6) (some (.iconst 0, 1)) none))) (cond (Nat.ble 2 pc) (cond (Nat.ble 5 pc) (cond (Nat.beq pc 5) (some (.aload_n 0, 1)) none) (cond (Nat.beq pc 2) (some (.putfield 84, 3)) none)) (cond (Nat.ble 1 pc) (cond (Nat.beq pc 1) (some (.iconst 0, 1)) none) (cond (Nat.beq pc 0) (some (.aload_n 0, 1)) none)))))))
def m_X7_takesE : jM := (7, yX7_takesE, cX7_takesE, 4, (some .boolean), fun pc => cond (Nat.ble 232 pc) none (jt_X7_takesE pc))
set_option maxRecDepth 100000 in
theorem dk_X7_takesE : ∀ pc q, m_X7_takesE.2.2.2.2.2 pc = some q → decode cX7_takesE pc = .ok q := jk_sound (N := 232) (t := jt_X7_takesE) (by decide +kernel)
set_option maxRecDepth 100000 in
theorem ok_X7_takesE : jok m_X7_takesE := ⟨dk_X7_takesE, jG_in 1039 rfl rfl, jG_in 94 rfl rfl, by decide +kernel, by decide +kernel, by decide⟩
set_option maxRecDepth 100000 in
theorem vi_X7_takesE : jvirt m_X7_takesE := ⟨jG_in 1038 rfl rfl, jG_in 40 rfl rfl⟩
def jt_X7_takesHead : Nat → Option (Instr × Nat) := fun pc => cond (Nat.ble 64 pc) (cond (Nat.ble 82 pc) (cond (Nat.ble 89 pc) (cond (Nat.ble 93 pc) (cond (Nat.ble 94 pc) (cond (Nat.ble 97 pc) (cond (Nat.beq pc 97) (some (.ireturn, 1)) none) (cond (Nat.beq pc 94) (some (.invokevirtual 240, 3)) none)) (cond (Nat.beq pc 93) (some (.iconst 5, 1)) none)) (cond (Nat.ble 90 pc) (cond (Nat.ble 91 pc) (cond (Nat.beq pc 91) (some (.bipush 11, 2)) none) (cond (Nat.beq pc 90) (some (.aload_n 0, 1)) none)) (cond (Nat.beq pc 89) (some (.iastore, 1)) none))) (cond (Nat.ble 84 pc) (cond (Nat.ble 87 pc) (cond (Nat.ble 88 pc) (cond (Nat.beq pc 88) (some (.iconst 3, 1)) none) (cond (Nat.beq pc 87) (some (.iload_n 1, 1)) none)) (cond (Nat.beq pc 84) (some (.getfield 63, 3)) none)) (cond (Nat.ble 83 pc) (cond (Nat.beq pc 83) (some (.aload_n 0, 1)) none) (cond (Nat.beq pc 82) (some (.ireturn, 1)) none)))) (cond (Nat.ble 73 pc) (cond (Nat.ble 76 pc) (cond (Nat.ble 78 pc) (cond (Nat.ble 79 pc) (cond (Nat.beq pc 79) (some (.invokevirtual 240, 3)) none) (cond (Nat.beq pc 78) (some (.iconst 4, 1)) none)) (cond (Nat.beq pc 76) (some (.bipush 7, 2)) none)) (cond (Nat.ble 74 pc) (cond (Nat.ble 75 pc) (cond (Nat.beq pc 75) (some (.aload_n 0, 1)) none) (cond (Nat.beq pc 74) (some (.iastore, 1)) none)) (cond (Nat.beq pc 73) (some (.iconst 2, 1)) none))) (cond (Nat.ble 68 pc) (cond (Nat.ble 69 pc) (cond (Nat.ble 72 pc) (cond (Nat.beq pc 72) (some (.iload_n 1, 1)) none) (cond (Nat.beq pc 69) (some (.getfield 63, 3)) none)) (cond (Nat.beq pc 68) (some (.aload_n 0, 1)) none)) (cond (Nat.ble 67 pc) (cond (Nat.beq pc 67) (some (.ireturn, 1)) none) (cond (Nat.beq pc 64) (some (.invokevirtual 240, 3)) none))))) (cond (Nat.ble 49 pc) (cond (Nat.ble 58 pc) (cond (Nat.ble 61 pc) (cond (Nat.ble 62 pc) (cond (Nat.ble 63 pc) (cond (Nat.beq pc 63) (some (.iconst 3, 1)) none) (cond (Nat.beq pc 62) (some (.iconst 4, 1)) none)) (cond (Nat.beq pc 61) (some (.aload_n 0, 1)) none)) (cond (Nat.ble 59 pc) (cond (Nat.ble 60 pc) (cond (Nat.beq pc 60) (some (.iastore, 1)) none) (cond (Nat.beq pc 59) (some (.iconst 1, 1)) none)) (cond (Nat.beq pc 58) (some (.iload_n 1, 1)) none))) (cond (Nat.ble 53 pc) (cond (Nat.ble 54 pc) (cond (Nat.ble 55 pc) (cond (Nat.beq pc 55) (some (.getfield 63, 3)) none) (cond (Nat.beq pc 54) (some (.aload_n 0, 1)) none)) (cond (Nat.beq pc 53) (some (.ireturn, 1)) none)) (cond (Nat.ble 50 pc) (cond (Nat.beq pc 50) (some (.invokevirtual 240, 3)) none) (cond (Nat.beq pc 49) (some (.iconst 4, 1)) none)))) (cond (Nat.ble 44 pc) (cond (Nat.ble 46 pc) (cond (Nat.ble 47 pc) (cond (Nat.ble 48 pc) (cond (Nat.beq pc 48) (some (.iconst 0, 1)) none) (cond (Nat.beq pc 47) (some (.aload_n 0, 1)) none)) (cond (Nat.beq pc 46) (some (.iastore, 1)) none)) (cond (Nat.ble 45 pc) (cond (Nat.beq pc 45) (some (.iconst 0, 1)) none) (cond (Nat.beq pc 44) (some (.iload_n 1, 1)) none))) (cond (Nat.ble 4 pc) (cond (Nat.ble 40 pc) (cond (Nat.ble 41 pc) (cond (Nat.beq pc 41) (some (.getfield 63, 3)) none) (cond (Nat.beq pc 40) (some (.aload_n 0, 1)) none)) (cond (Nat.beq pc 4) (some (.lookupswitch 79 #[(99, 64), (100, 50), (116, 36)], 36)) none)) (cond (Nat.ble 1 pc) (cond (Nat.beq pc 1) (some (.invokevirtual 209, 3)) none) (cond (Nat.beq pc 0) (some (.aload_n 0, 1)) none)))))
def m_X7_takesHead : jM := (7, yX7_takesHead, cX7_takesHead, 2, (some .boolean), fun pc => cond (Nat.ble 98 pc) none (jt_X7_takesHead pc))
set_option maxRecDepth 100000 in
theorem dk_X7_takesHead : ∀ pc q, m_X7_takesHead.2.2.2.2.2 pc = some q → decode cX7_takesHead pc = .ok q := jk_sound (N := 98) (t := jt_X7_takesHead) (by decide +kernel)
set_option maxRecDepth 100000 in
theorem ok_X7_takesHead : jok m_X7_takesHead := ⟨dk_X7_takesHead, jG_in 1015 rfl rfl, jG_in 94 rfl rfl, by decide +kernel, by decide +kernel, by decide⟩
set_option maxRecDepth 100000 in
theorem vi_X7_takesHead : jvirt m_X7_takesHead := ⟨jG_in 1014 rfl rfl, jG_in 34 rfl rfl⟩
def jt_X7_takesClause : Nat → Option (Instr × Nat) := fun pc => cond (Nat.ble 28 pc) (cond (Nat.ble 45 pc) (cond (Nat.ble 53 pc) (cond (Nat.ble 57 pc) (cond (Nat.ble 58 pc) (cond (Nat.beq pc 58) (some (.ireturn, 1)) none) (cond (Nat.beq pc 57) (some (.iconst 0, 1)) none)) (cond (Nat.ble 54 pc) (cond (Nat.beq pc 54) (some (.goto 4, 3)) none) (cond (Nat.beq pc 53) (some (.iconst 1, 1)) none))) (cond (Nat.ble 47 pc) (cond (Nat.ble 50 pc) (cond (Nat.beq pc 50) (some (.ifCond .eq 7, 3)) none) (cond (Nat.beq pc 47) (some (.invokevirtual 247, 3)) none)) (cond (Nat.ble 46 pc) (cond (Nat.beq pc 46) (some (.iload_n 1, 1)) none) (cond (Nat.beq pc 45) (some (.aload_n 0, 1)) none)))) (cond (Nat.ble 36 pc) (cond (Nat.ble 39 pc) (cond (Nat.ble 42 pc) (cond (Nat.beq pc 42) (some (.ifCond .eq 15, 3)) none) (cond (Nat.beq pc 39) (some (.invokevirtual 213, 3)) none)) (cond (Nat.ble 37 pc) (cond (Nat.beq pc 37) (some (.bipush 32, 2)) none) (cond (Nat.beq pc 36) (some (.aload_n 0, 1)) none))) (cond (Nat.ble 32 pc) (cond (Nat.ble 33 pc) (cond (Nat.beq pc 33) (some (.ifCond .gt 20, 3)) none) (cond (Nat.beq pc 32) (some (.iaload, 1)) none)) (cond (Nat.ble 31 pc) (cond (Nat.beq pc 31) (some (.iload_n 1, 1)) none) (cond (Nat.beq pc 28) (some (.getfield 63, 3)) none))))) (cond (Nat.ble 16 pc) (cond (Nat.ble 22 pc) (cond (Nat.ble 26 pc) (cond (Nat.ble 27 pc) (cond (Nat.beq pc 27) (some (.aload_n 0, 1)) none) (cond (Nat.beq pc 26) (some (.iastore, 1)) none)) (cond (Nat.ble 23 pc) (cond (Nat.beq pc 23) (some (.getfield 54, 3)) none) (cond (Nat.beq pc 22) (some (.aload_n 0, 1)) none))) (cond (Nat.ble 18 pc) (cond (Nat.ble 21 pc) (cond (Nat.beq pc 21) (some (.iload_n 1, 1)) none) (cond (Nat.beq pc 18) (some (.getfield 66, 3)) none)) (cond (Nat.ble 17 pc) (cond (Nat.beq pc 17) (some (.aload_n 0, 1)) none) (cond (Nat.beq pc 16) (some (.ireturn, 1)) none)))) (cond (Nat.ble 8 pc) (cond (Nat.ble 12 pc) (cond (Nat.ble 15 pc) (cond (Nat.beq pc 15) (some (.iconst 0, 1)) none) (cond (Nat.beq pc 12) (some (.ifCond .ne 5, 3)) none)) (cond (Nat.ble 9 pc) (cond (Nat.beq pc 9) (some (.invokevirtual 228, 3)) none) (cond (Nat.beq pc 8) (some (.aload_n 0, 1)) none))) (cond (Nat.ble 2 pc) (cond (Nat.ble 5 pc) (cond (Nat.beq pc 5) (some (.ifCond .eq 10, 3)) none) (cond (Nat.beq pc 2) (some (.invokevirtual 244, 3)) none)) (cond (Nat.ble 1 pc) (cond (Nat.beq pc 1) (some (.iload_n 1, 1)) none) (cond (Nat.beq pc 0) (some (.aload_n 0, 1)) none)))))
def m_X7_takesClause : jM := (7, yX7_takesClause, cX7_takesClause, 2, (some .boolean), fun pc => cond (Nat.ble 59 pc) none (jt_X7_takesClause pc))
set_option maxRecDepth 100000 in
theorem dk_X7_takesClause : ∀ pc q, m_X7_takesClause.2.2.2.2.2 pc = some q → decode cX7_takesClause pc = .ok q := jk_sound (N := 59) (t := jt_X7_takesClause) (by decide +kernel)
set_option maxRecDepth 100000 in
theorem ok_X7_takesClause : jok m_X7_takesClause := ⟨dk_X7_takesClause, jG_in 1011 rfl rfl, jG_in 94 rfl rfl, by decide +kernel, by decide +kernel, by decide⟩
set_option maxRecDepth 100000 in
theorem vi_X7_takesClause : jvirt m_X7_takesClause := ⟨jG_in 1010 rfl rfl, jG_in 33 rfl rfl⟩
def jt_X7_goesText : Nat → Option (Instr × Nat) := fun pc => cond (Nat.ble 33 pc) (cond (Nat.ble 51 pc) (cond (Nat.ble 59 pc) (cond (Nat.ble 65 pc) (cond (Nat.ble 68 pc) (cond (Nat.ble 69 pc) (cond (Nat.beq pc 69) (some (.ireturn, 1)) none) (cond (Nat.beq pc 68) (some (.iconst 0, 1)) none)) (cond (Nat.beq pc 65) (some (.ifCond .ne (-50), 3)) none)) (cond (Nat.ble 60 pc) (cond (Nat.ble 62 pc) (cond (Nat.beq pc 62) (some (.invokevirtual 213, 3)) none) (cond (Nat.beq pc 60) (some (.bipush 59, 2)) none)) (cond (Nat.beq pc 59) (some (.aload_n 0, 1)) none))) (cond (Nat.ble 53 pc) (cond (Nat.ble 54 pc) (cond (Nat.ble 56 pc) (cond (Nat.beq pc 56) (some (.if_icmp .eq 12, 3)) none) (cond (Nat.beq pc 54) (some (.bipush 10, 2)) none)) (cond (Nat.beq pc 53) (some (.iload_n 2, 1)) none)) (cond (Nat.ble 52 pc) (cond (Nat.beq pc 52) (some (.ireturn, 1)) none) (cond (Nat.beq pc 51) (some (.iconst 1, 1)) none)))) (cond (Nat.ble 40 pc) (cond (Nat.ble 44 pc) (cond (Nat.ble 45 pc) (cond (Nat.ble 48 pc) (cond (Nat.beq pc 48) (some (.if_icmp .ne 5, 3)) none) (cond (Nat.beq pc 45) (some (.getfield 48, 3)) none)) (cond (Nat.beq pc 44) (some (.aload_n 0, 1)) none)) (cond (Nat.ble 41 pc) (cond (Nat.beq pc 41) (some (.getfield 51, 3)) none) (cond (Nat.beq pc 40) (some (.aload_n 0, 1)) none))) (cond (Nat.ble 37 pc) (cond (Nat.ble 38 pc) (cond (Nat.ble 39 pc) (cond (Nat.beq pc 39) (some (.iastore, 1)) none) (cond (Nat.beq pc 38) (some (.iload_n 2, 1)) none)) (cond (Nat.beq pc 37) (some (.iload_n 1, 1)) none)) (cond (Nat.ble 34 pc) (cond (Nat.beq pc 34) (some (.getfield 60, 3)) none) (cond (Nat.beq pc 33) (some (.aload_n 0, 1)) none))))) (cond (Nat.ble 15 pc) (cond (Nat.ble 21 pc) (cond (Nat.ble 28 pc) (cond (Nat.ble 29 pc) (cond (Nat.ble 30 pc) (cond (Nat.beq pc 30) (some (.iinc 2 1, 3)) none) (cond (Nat.beq pc 29) (some (.ireturn, 1)) none)) (cond (Nat.beq pc 28) (some (.iconst 0, 1)) none)) (cond (Nat.ble 22 pc) (cond (Nat.ble 25 pc) (cond (Nat.beq pc 25) (some (.ifCond .ne 5, 3)) none) (cond (Nat.beq pc 22) (some (.invokevirtual 250, 3)) none)) (cond (Nat.beq pc 21) (some (.iadd, 1)) none))) (cond (Nat.ble 18 pc) (cond (Nat.ble 19 pc) (cond (Nat.ble 20 pc) (cond (Nat.beq pc 20) (some (.iload_n 2, 1)) none) (cond (Nat.beq pc 19) (some (.imul, 1)) none)) (cond (Nat.beq pc 18) (some (.iload_n 1, 1)) none)) (cond (Nat.ble 16 pc) (cond (Nat.beq pc 16) (some (.bipush 10, 2)) none) (cond (Nat.beq pc 15) (some (.aload_n 0, 1)) none)))) (cond (Nat.ble 8 pc) (cond (Nat.ble 10 pc) (cond (Nat.ble 13 pc) (cond (Nat.ble 14 pc) (cond (Nat.beq pc 14) (some (.istore_n 2, 1)) none) (cond (Nat.beq pc 13) (some (.iconst 0, 1)) none)) (cond (Nat.beq pc 10) (some (.putfield 81, 3)) none)) (cond (Nat.ble 9 pc) (cond (Nat.beq pc 9) (some (.imul, 1)) none) (cond (Nat.beq pc 8) (some (.iload_n 1, 1)) none))) (cond (Nat.ble 2 pc) (cond (Nat.ble 5 pc) (cond (Nat.ble 6 pc) (cond (Nat.beq pc 6) (some (.bipush 100, 2)) none) (cond (Nat.beq pc 5) (some (.aload_n 0, 1)) none)) (cond (Nat.beq pc 2) (some (.putfield 51, 3)) none)) (cond (Nat.ble 1 pc) (cond (Nat.beq pc 1) (some (.iconst 0, 1)) none) (cond (Nat.beq pc 0) (some (.aload_n 0, 1)) none)))))
def m_X7_goesText : jM := (7, yX7_goesText, cX7_goesText, 3, (some .boolean), fun pc => cond (Nat.ble 70 pc) none (jt_X7_goesText pc))
set_option maxRecDepth 100000 in
theorem dk_X7_goesText : ∀ pc q, m_X7_goesText.2.2.2.2.2 pc = some q → decode cX7_goesText pc = .ok q := jk_sound (N := 70) (t := jt_X7_goesText) (by decide +kernel)
set_option maxRecDepth 100000 in
theorem ok_X7_goesText : jok m_X7_goesText := ⟨dk_X7_goesText, jG_in 1007 rfl rfl, jG_in 94 rfl rfl, by decide +kernel, by decide +kernel, by decide⟩
set_option maxRecDepth 100000 in
theorem vi_X7_goesText : jvirt m_X7_goesText := ⟨jG_in 1006 rfl rfl, jG_in 32 rfl rfl⟩
def jt_X7_town : Nat → Option (Instr × Nat) := fun pc => cond (Nat.ble 32 pc) (cond (Nat.ble 46 pc) (cond (Nat.ble 52 pc) (cond (Nat.ble 56 pc) (cond (Nat.ble 57 pc) (cond (Nat.ble 60 pc) (cond (Nat.beq pc 60) (some (.ireturn, 1)) none) (cond (Nat.beq pc 57) (some (.getfield 45, 3)) none)) (cond (Nat.beq pc 56) (some (.aload_n 0, 1)) none)) (cond (Nat.ble 53 pc) (cond (Nat.beq pc 53) (some (.putfield 42, 3)) none) (cond (Nat.beq pc 52) (some (.iadd, 1)) none))) (cond (Nat.ble 48 pc) (cond (Nat.ble 51 pc) (cond (Nat.beq pc 51) (some (.iconst 1, 1)) none) (cond (Nat.beq pc 48) (some (.getfield 42, 3)) none)) (cond (Nat.ble 47 pc) (cond (Nat.beq pc 47) (some (.dup, 1)) none) (cond (Nat.beq pc 46) (some (.aload_n 0, 1)) none)))) (cond (Nat.ble 38 pc) (cond (Nat.ble 40 pc) (cond (Nat.ble 43 pc) (cond (Nat.beq pc 43) (some (.putfield 45, 3)) none) (cond (Nat.beq pc 40) (some (.getfield 42, 3)) none)) (cond (Nat.ble 39 pc) (cond (Nat.beq pc 39) (some (.aload_n 0, 1)) none) (cond (Nat.beq pc 38) (some (.aload_n 0, 1)) none))) (cond (Nat.ble 36 pc) (cond (Nat.ble 37 pc) (cond (Nat.beq pc 37) (some (.ireturn, 1)) none) (cond (Nat.beq pc 36) (some (.isub, 1)) none)) (cond (Nat.ble 33 pc) (cond (Nat.beq pc 33) (some (.getfield 51, 3)) none) (cond (Nat.beq pc 32) (some (.aload_n 0, 1)) none))))) (cond (Nat.ble 14 pc) (cond (Nat.ble 22 pc) (cond (Nat.ble 26 pc) (cond (Nat.ble 27 pc) (cond (Nat.ble 30 pc) (cond (Nat.beq pc 30) (some (.bipush (-10), 2)) none) (cond (Nat.beq pc 27) (some (.ifCond .ne 11, 3)) none)) (cond (Nat.beq pc 26) (some (.iload_n 1, 1)) none)) (cond (Nat.ble 23 pc) (cond (Nat.beq pc 23) (some (.putfield 48, 3)) none) (cond (Nat.beq pc 22) (some (.iconst 0, 1)) none))) (cond (Nat.ble 20 pc) (cond (Nat.ble 21 pc) (cond (Nat.beq pc 21) (some (.aload_n 0, 1)) none) (cond (Nat.beq pc 20) (some (.istore_n 1, 1)) none)) (cond (Nat.ble 17 pc) (cond (Nat.beq pc 17) (some (.invokevirtual 253, 3)) none) (cond (Nat.beq pc 14) (some (.getfield 42, 3)) none)))) (cond (Nat.ble 9 pc) (cond (Nat.ble 12 pc) (cond (Nat.ble 13 pc) (cond (Nat.beq pc 13) (some (.aload_n 0, 1)) none) (cond (Nat.beq pc 12) (some (.aload_n 0, 1)) none)) (cond (Nat.ble 11 pc) (cond (Nat.beq pc 11) (some (.ireturn, 1)) none) (cond (Nat.beq pc 9) (some (.bipush (-4), 2)) none))) (cond (Nat.ble 4 pc) (cond (Nat.ble 6 pc) (cond (Nat.beq pc 6) (some (.if_icmp .ne 6, 3)) none) (cond (Nat.beq pc 4) (some (.bipush 6, 2)) none)) (cond (Nat.ble 1 pc) (cond (Nat.beq pc 1) (some (.getfield 42, 3)) none) (cond (Nat.beq pc 0) (some (.aload_n 0, 1)) none)))))
def m_X7_town : jM := (7, yX7_town, cX7_town, 2, (some .int), fun pc => cond (Nat.ble 61 pc) none (jt_X7_town pc))
set_option maxRecDepth 100000 in
theorem dk_X7_town : ∀ pc q, m_X7_town.2.2.2.2.2 pc = some q → decode cX7_town pc = .ok q := jk_sound (N := 61) (t := jt_X7_town) (by decide +kernel)
set_option maxRecDepth 100000 in
theorem ok_X7_town : jok m_X7_town := ⟨dk_X7_town, jG_in 1003 rfl rfl, jG_in 94 rfl rfl, by decide +kernel, by decide +kernel, by decide⟩
set_option maxRecDepth 100000 in
theorem vi_X7_town : jvirt m_X7_town := ⟨jG_in 1001 rfl rfl, jG_in 1002 rfl rfl⟩
def jt_X7_clauseFrom : Nat → Option (Instr × Nat) := fun pc => cond (Nat.ble 11 pc) (cond (Nat.ble 14 pc) (cond (Nat.ble 17 pc) (cond (Nat.ble 18 pc) (cond (Nat.beq pc 18) (some (.ireturn, 1)) none) (cond (Nat.beq pc 17) (some (.imul, 1)) none)) (cond (Nat.beq pc 14) (some (.getfield 45, 3)) none)) (cond (Nat.ble 13 pc) (cond (Nat.beq pc 13) (some (.aload_n 0, 1)) none) (cond (Nat.beq pc 11) (some (.bipush 10, 2)) none))) (cond (Nat.ble 4 pc) (cond (Nat.ble 7 pc) (cond (Nat.ble 8 pc) (cond (Nat.beq pc 8) (some (.goto 10, 3)) none) (cond (Nat.beq pc 7) (some (.iconst 0, 1)) none)) (cond (Nat.beq pc 4) (some (.ifCond .ge 7, 3)) none)) (cond (Nat.ble 1 pc) (cond (Nat.beq pc 1) (some (.getfield 45, 3)) none) (cond (Nat.beq pc 0) (some (.aload_n 0, 1)) none)))
def m_X7_clauseFrom : jM := (7, yX7_clauseFrom, cX7_clauseFrom, 1, (some .int), fun pc => cond (Nat.ble 19 pc) none (jt_X7_clauseFrom pc))
set_option maxRecDepth 100000 in
theorem dk_X7_clauseFrom : ∀ pc q, m_X7_clauseFrom.2.2.2.2.2 pc = some q → decode cX7_clauseFrom pc = .ok q := jk_sound (N := 19) (t := jt_X7_clauseFrom) (by decide +kernel)
set_option maxRecDepth 100000 in
theorem ok_X7_clauseFrom : jok m_X7_clauseFrom := ⟨dk_X7_clauseFrom, jG_in 1096 rfl rfl, jG_in 94 rfl rfl, by decide +kernel, by decide +kernel, by decide⟩
set_option maxRecDepth 100000 in
theorem vi_X7_clauseFrom : jvirt m_X7_clauseFrom := ⟨jG_in 1095 rfl rfl, jG_in 53 rfl rfl⟩
def jt_X7_clauseTo : Nat → Option (Instr × Nat) := fun pc => cond (Nat.ble 17 pc) (cond (Nat.ble 23 pc) (cond (Nat.ble 27 pc) (cond (Nat.ble 28 pc) (cond (Nat.beq pc 28) (some (.ireturn, 1)) none) (cond (Nat.beq pc 27) (some (.iadd, 1)) none)) (cond (Nat.ble 26 pc) (cond (Nat.beq pc 26) (some (.iaload, 1)) none) (cond (Nat.beq pc 23) (some (.getfield 45, 3)) none))) (cond (Nat.ble 19 pc) (cond (Nat.ble 22 pc) (cond (Nat.beq pc 22) (some (.aload_n 0, 1)) none) (cond (Nat.beq pc 19) (some (.getfield 60, 3)) none)) (cond (Nat.ble 18 pc) (cond (Nat.beq pc 18) (some (.aload_n 0, 1)) none) (cond (Nat.beq pc 17) (some (.imul, 1)) none)))) (cond (Nat.ble 8 pc) (cond (Nat.ble 13 pc) (cond (Nat.ble 14 pc) (cond (Nat.beq pc 14) (some (.getfield 45, 3)) none) (cond (Nat.beq pc 13) (some (.aload_n 0, 1)) none)) (cond (Nat.ble 11 pc) (cond (Nat.beq pc 11) (some (.bipush 10, 2)) none) (cond (Nat.beq pc 8) (some (.goto 20, 3)) none))) (cond (Nat.ble 4 pc) (cond (Nat.ble 7 pc) (cond (Nat.beq pc 7) (some (.iconst 0, 1)) none) (cond (Nat.beq pc 4) (some (.ifCond .ge 7, 3)) none)) (cond (Nat.ble 1 pc) (cond (Nat.beq pc 1) (some (.getfield 45, 3)) none) (cond (Nat.beq pc 0) (some (.aload_n 0, 1)) none))))
def m_X7_clauseTo : jM := (7, yX7_clauseTo, cX7_clauseTo, 1, (some .int), fun pc => cond (Nat.ble 29 pc) none (jt_X7_clauseTo pc))
set_option maxRecDepth 100000 in
theorem dk_X7_clauseTo : ∀ pc q, m_X7_clauseTo.2.2.2.2.2 pc = some q → decode cX7_clauseTo pc = .ok q := jk_sound (N := 29) (t := jt_X7_clauseTo) (by decide +kernel)
set_option maxRecDepth 100000 in
theorem ok_X7_clauseTo : jok m_X7_clauseTo := ⟨dk_X7_clauseTo, jG_in 1100 rfl rfl, jG_in 94 rfl rfl, by decide +kernel, by decide +kernel, by decide⟩
set_option maxRecDepth 100000 in
theorem vi_X7_clauseTo : jvirt m_X7_clauseTo := ⟨jG_in 1099 rfl rfl, jG_in 54 rfl rfl⟩
def jt_X7_lastOf : Nat → Option (Instr × Nat) := fun pc => cond (Nat.ble 24 pc) (cond (Nat.ble 35 pc) (cond (Nat.ble 40 pc) (cond (Nat.ble 46 pc) (cond (Nat.ble 47 pc) (cond (Nat.beq pc 47) (some (.ireturn, 1)) none) (cond (Nat.beq pc 46) (some (.iload_n 3, 1)) none)) (cond (Nat.ble 43 pc) (cond (Nat.beq pc 43) (some (.goto (-35), 3)) none) (cond (Nat.beq pc 40) (some (.iinc 4 1, 3)) none))) (cond (Nat.ble 38 pc) (cond (Nat.ble 39 pc) (cond (Nat.beq pc 39) (some (.istore_n 3, 1)) none) (cond (Nat.beq pc 38) (some (.iload_n 3, 1)) none)) (cond (Nat.beq pc 35) (some (.goto 4, 3)) none))) (cond (Nat.ble 29 pc) (cond (Nat.ble 32 pc) (cond (Nat.ble 34 pc) (cond (Nat.beq pc 34) (some (.iaload, 1)) none) (cond (Nat.beq pc 32) (some (.iload 4, 2)) none)) (cond (Nat.beq pc 29) (some (.getfield 66, 3)) none)) (cond (Nat.ble 25 pc) (cond (Nat.ble 28 pc) (cond (Nat.beq pc 28) (some (.aload_n 0, 1)) none) (cond (Nat.beq pc 25) (some (.if_icmp .ne 13, 3)) none)) (cond (Nat.beq pc 24) (some (.iload_n 1, 1)) none)))) (cond (Nat.ble 10 pc) (cond (Nat.ble 17 pc) (cond (Nat.ble 21 pc) (cond (Nat.ble 23 pc) (cond (Nat.beq pc 23) (some (.iaload, 1)) none) (cond (Nat.beq pc 21) (some (.iload 4, 2)) none)) (cond (Nat.ble 18 pc) (cond (Nat.beq pc 18) (some (.getfield 63, 3)) none) (cond (Nat.beq pc 17) (some (.aload_n 0, 1)) none))) (cond (Nat.ble 11 pc) (cond (Nat.ble 14 pc) (cond (Nat.beq pc 14) (some (.if_icmp .ge 32, 3)) none) (cond (Nat.beq pc 11) (some (.invokevirtual 259, 3)) none)) (cond (Nat.beq pc 10) (some (.aload_n 0, 1)) none))) (cond (Nat.ble 3 pc) (cond (Nat.ble 6 pc) (cond (Nat.ble 8 pc) (cond (Nat.beq pc 8) (some (.iload 4, 2)) none) (cond (Nat.beq pc 6) (some (.istore 4, 2)) none)) (cond (Nat.beq pc 3) (some (.invokevirtual 256, 3)) none)) (cond (Nat.ble 1 pc) (cond (Nat.ble 2 pc) (cond (Nat.beq pc 2) (some (.aload_n 0, 1)) none) (cond (Nat.beq pc 1) (some (.istore_n 3, 1)) none)) (cond (Nat.beq pc 0) (some (.iload_n 2, 1)) none))))
def m_X7_lastOf : jM := (7, yX7_lastOf, cX7_lastOf, 5, (some .int), fun pc => cond (Nat.ble 48 pc) none (jt_X7_lastOf pc))
set_option maxRecDepth 100000 in
theorem dk_X7_lastOf : ∀ pc q, m_X7_lastOf.2.2.2.2.2 pc = some q → decode cX7_lastOf pc = .ok q := jk_sound (N := 48) (t := jt_X7_lastOf) (by decide +kernel)
set_option maxRecDepth 100000 in
theorem ok_X7_lastOf : jok m_X7_lastOf := ⟨dk_X7_lastOf, jG_in 1092 rfl rfl, jG_in 94 rfl rfl, by decide +kernel, by decide +kernel, by decide⟩
set_option maxRecDepth 100000 in
theorem vi_X7_lastOf : jvirt m_X7_lastOf := ⟨jG_in 1091 rfl rfl, jG_in 52 rfl rfl⟩
def jt_X7_dueNow : Nat → Option (Instr × Nat) := fun pc => cond (Nat.ble 9 pc) (cond (Nat.ble 17 pc) (cond (Nat.ble 18 pc) (cond (Nat.ble 21 pc) (cond (Nat.beq pc 21) (some (.ireturn, 1)) none) (cond (Nat.beq pc 18) (some (.getfield 93, 3)) none)) (cond (Nat.beq pc 17) (some (.aload_n 0, 1)) none)) (cond (Nat.ble 11 pc) (cond (Nat.ble 14 pc) (cond (Nat.beq pc 14) (some (.goto 7, 3)) none) (cond (Nat.beq pc 11) (some (.invokevirtual 262, 3)) none)) (cond (Nat.beq pc 9) (some (.bipush 10, 2)) none))) (cond (Nat.ble 4 pc) (cond (Nat.ble 7 pc) (cond (Nat.ble 8 pc) (cond (Nat.beq pc 8) (some (.iconst 1, 1)) none) (cond (Nat.beq pc 7) (some (.aload_n 0, 1)) none)) (cond (Nat.beq pc 4) (some (.ifCond .ge 13, 3)) none)) (cond (Nat.ble 1 pc) (cond (Nat.beq pc 1) (some (.getfield 93, 3)) none) (cond (Nat.beq pc 0) (some (.aload_n 0, 1)) none)))
def m_X7_dueNow : jM := (7, yX7_dueNow, cX7_dueNow, 1, (some .int), fun pc => cond (Nat.ble 22 pc) none (jt_X7_dueNow pc))
set_option maxRecDepth 100000 in
theorem dk_X7_dueNow : ∀ pc q, m_X7_dueNow.2.2.2.2.2 pc = some q → decode cX7_dueNow pc = .ok q := jk_sound (N := 22) (t := jt_X7_dueNow) (by decide +kernel)
set_option maxRecDepth 100000 in
theorem ok_X7_dueNow : jok m_X7_dueNow := ⟨dk_X7_dueNow, jG_in 1132 rfl rfl, jG_in 94 rfl rfl, by decide +kernel, by decide +kernel, by decide⟩
set_option maxRecDepth 100000 in
theorem vi_X7_dueNow : jvirt m_X7_dueNow := ⟨jG_in 1131 rfl rfl, jG_in 61 rfl rfl⟩
def jt_X7_manyBorn : Nat → Option (Instr × Nat) := fun pc => cond (Nat.ble 22 pc) (cond (Nat.ble 33 pc) (cond (Nat.ble 39 pc) (cond (Nat.ble 45 pc) (cond (Nat.ble 46 pc) (cond (Nat.beq pc 46) (some (.ireturn, 1)) none) (cond (Nat.beq pc 45) (some (.iload_n 2, 1)) none)) (cond (Nat.ble 42 pc) (cond (Nat.beq pc 42) (some (.goto (-38), 3)) none) (cond (Nat.beq pc 39) (some (.iinc 3 1, 3)) none))) (cond (Nat.ble 37 pc) (cond (Nat.ble 38 pc) (cond (Nat.beq pc 38) (some (.istore_n 2, 1)) none) (cond (Nat.beq pc 37) (some (.iadd, 1)) none)) (cond (Nat.ble 36 pc) (cond (Nat.beq pc 36) (some (.iconst 0, 1)) none) (cond (Nat.beq pc 33) (some (.goto 4, 3)) none)))) (cond (Nat.ble 27 pc) (cond (Nat.ble 29 pc) (cond (Nat.ble 32 pc) (cond (Nat.beq pc 32) (some (.iconst 1, 1)) none) (cond (Nat.beq pc 29) (some (.if_icmp .ne 7, 3)) none)) (cond (Nat.ble 28 pc) (cond (Nat.beq pc 28) (some (.iload_n 1, 1)) none) (cond (Nat.beq pc 27) (some (.iaload, 1)) none))) (cond (Nat.ble 23 pc) (cond (Nat.ble 26 pc) (cond (Nat.beq pc 26) (some (.iload_n 3, 1)) none) (cond (Nat.beq pc 23) (some (.getfield 26, 3)) none)) (cond (Nat.beq pc 22) (some (.aload_n 0, 1)) none)))) (cond (Nat.ble 9 pc) (cond (Nat.ble 14 pc) (cond (Nat.ble 18 pc) (cond (Nat.ble 19 pc) (cond (Nat.beq pc 19) (some (.ifCond .eq 17, 3)) none) (cond (Nat.beq pc 18) (some (.baload, 1)) none)) (cond (Nat.ble 17 pc) (cond (Nat.beq pc 17) (some (.iload_n 3, 1)) none) (cond (Nat.beq pc 14) (some (.getfield 38, 3)) none))) (cond (Nat.ble 12 pc) (cond (Nat.ble 13 pc) (cond (Nat.beq pc 13) (some (.aload_n 0, 1)) none) (cond (Nat.beq pc 12) (some (.iload_n 2, 1)) none)) (cond (Nat.beq pc 9) (some (.if_icmp .ge 36, 3)) none))) (cond (Nat.ble 3 pc) (cond (Nat.ble 5 pc) (cond (Nat.ble 6 pc) (cond (Nat.beq pc 6) (some (.getfield 7, 3)) none) (cond (Nat.beq pc 5) (some (.aload_n 0, 1)) none)) (cond (Nat.ble 4 pc) (cond (Nat.beq pc 4) (some (.iload_n 3, 1)) none) (cond (Nat.beq pc 3) (some (.istore_n 3, 1)) none))) (cond (Nat.ble 1 pc) (cond (Nat.ble 2 pc) (cond (Nat.beq pc 2) (some (.iconst 0, 1)) none) (cond (Nat.beq pc 1) (some (.istore_n 2, 1)) none)) (cond (Nat.beq pc 0) (some (.iconst 0, 1)) none))))
def m_X7_manyBorn : jM := (7, yX7_manyBorn, cX7_manyBorn, 4, (some .int), fun pc => cond (Nat.ble 47 pc) none (jt_X7_manyBorn pc))
set_option maxRecDepth 100000 in
theorem dk_X7_manyBorn : ∀ pc q, m_X7_manyBorn.2.2.2.2.2 pc = some q → decode cX7_manyBorn pc = .ok q := jk_sound (N := 47) (t := jt_X7_manyBorn) (by decide +kernel)
set_option maxRecDepth 100000 in
theorem ok_X7_manyBorn : jok m_X7_manyBorn := ⟨dk_X7_manyBorn, jG_in 1088 rfl rfl, jG_in 94 rfl rfl, by decide +kernel, by decide +kernel, by decide⟩
set_option maxRecDepth 100000 in
theorem vi_X7_manyBorn : jvirt m_X7_manyBorn := ⟨jG_in 1087 rfl rfl, jG_in 51 rfl rfl⟩
end
section
def jt_X7_factOf : Nat → Option (Instr × Nat) := fun pc => cond (Nat.ble 48 pc) (cond (Nat.ble 59 pc) (cond (Nat.ble 62 pc) (cond (Nat.ble 66 pc) (cond (Nat.ble 67 pc) (cond (Nat.beq pc 67) (some (.ireturn, 1)) none) (cond (Nat.beq pc 66) (some (.iaload, 1)) none)) (cond (Nat.ble 65 pc) (cond (Nat.beq pc 65) (some (.iload_n 2, 1)) none) (cond (Nat.beq pc 62) (some (.getfield 26, 3)) none))) (cond (Nat.ble 60 pc) (cond (Nat.ble 61 pc) (cond (Nat.beq pc 61) (some (.aload_n 0, 1)) none) (cond (Nat.beq pc 60) (some (.ireturn, 1)) none)) (cond (Nat.beq pc 59) (some (.irem, 1)) none))) (cond (Nat.ble 53 pc) (cond (Nat.ble 54 pc) (cond (Nat.ble 57 pc) (cond (Nat.beq pc 57) (some (.bipush 10, 2)) none) (cond (Nat.beq pc 54) (some (.getfield 16, 3)) none)) (cond (Nat.beq pc 53) (some (.aload_n 0, 1)) none)) (cond (Nat.ble 49 pc) (cond (Nat.ble 52 pc) (cond (Nat.beq pc 52) (some (.ireturn, 1)) none) (cond (Nat.beq pc 49) (some (.invokevirtual 266, 3)) none)) (cond (Nat.beq pc 48) (some (.iload_n 3, 1)) none)))) (cond (Nat.ble 42 pc) (cond (Nat.ble 45 pc) (cond (Nat.ble 46 pc) (cond (Nat.ble 47 pc) (cond (Nat.beq pc 47) (some (.aload_n 0, 1)) none) (cond (Nat.beq pc 46) (some (.ireturn, 1)) none)) (cond (Nat.beq pc 45) (some (.iload_n 3, 1)) none)) (cond (Nat.ble 43 pc) (cond (Nat.ble 44 pc) (cond (Nat.beq pc 44) (some (.ireturn, 1)) none) (cond (Nat.beq pc 43) (some (.iaload, 1)) none)) (cond (Nat.beq pc 42) (some (.iload_n 2, 1)) none))) (cond (Nat.ble 37 pc) (cond (Nat.ble 38 pc) (cond (Nat.ble 39 pc) (cond (Nat.beq pc 39) (some (.getfield 19, 3)) none) (cond (Nat.beq pc 38) (some (.aload_n 0, 1)) none)) (cond (Nat.beq pc 37) (some (.ireturn, 1)) none)) (cond (Nat.ble 1 pc) (cond (Nat.ble 36 pc) (cond (Nat.beq pc 36) (some (.iload_n 2, 1)) none) (cond (Nat.beq pc 1) (some (.tableswitch 60 0 4 #[35, 37, 44, 46, 52], 35)) none)) (cond (Nat.beq pc 0) (some (.iload_n 1, 1)) none))))
def m_X7_factOf : jM := (7, yX7_factOf, cX7_factOf, 4, (some .int), fun pc => cond (Nat.ble 68 pc) none (jt_X7_factOf pc))
set_option maxRecDepth 100000 in
theorem dk_X7_factOf : ∀ pc q, m_X7_factOf.2.2.2.2.2 pc = some q → decode cX7_factOf pc = .ok q := jk_sound (N := 68) (t := jt_X7_factOf) (by decide +kernel)
set_option maxRecDepth 100000 in
theorem ok_X7_factOf : jok m_X7_factOf := ⟨dk_X7_factOf, jG_in 1116 rfl rfl, jG_in 94 rfl rfl, by decide +kernel, by decide +kernel, by decide⟩
set_option maxRecDepth 100000 in
theorem vi_X7_factOf : jvirt m_X7_factOf := ⟨jG_in 1115 rfl rfl, jG_in 58 rfl rfl⟩
def jt_X7_holds : Nat → Option (Instr × Nat) := fun pc => cond (Nat.ble 127 pc) (cond (Nat.ble 192 pc) (cond (Nat.ble 225 pc) (cond (Nat.ble 243 pc) (cond (Nat.ble 253 pc) (cond (Nat.ble 257 pc) (cond (Nat.ble 258 pc) (cond (Nat.ble 259 pc) (cond (Nat.beq pc 259) (some (.ireturn, 1)) none) (cond (Nat.beq pc 258) (some (.baload, 1)) none)) (cond (Nat.beq pc 257) (some (.iconst 0, 1)) none)) (cond (Nat.ble 254 pc) (cond (Nat.beq pc 254) (some (.getfield 96, 3)) none) (cond (Nat.beq pc 253) (some (.aload_n 0, 1)) none))) (cond (Nat.ble 247 pc) (cond (Nat.ble 250 pc) (cond (Nat.beq pc 250) (some (.goto (-239), 3)) none) (cond (Nat.beq pc 247) (some (.iinc 5 1, 3)) none)) (cond (Nat.ble 244 pc) (cond (Nat.beq pc 244) (some (.iinc 4 1, 3)) none) (cond (Nat.beq pc 243) (some (.bastore, 1)) none)))) (cond (Nat.ble 234 pc) (cond (Nat.ble 238 pc) (cond (Nat.ble 239 pc) (cond (Nat.ble 242 pc) (cond (Nat.beq pc 242) (some (.iconst 0, 1)) none) (cond (Nat.beq pc 239) (some (.goto 4, 3)) none)) (cond (Nat.beq pc 238) (some (.iconst 1, 1)) none)) (cond (Nat.ble 235 pc) (cond (Nat.beq pc 235) (some (.if_icmp .le 7, 3)) none) (cond (Nat.beq pc 234) (some (.irem, 1)) none))) (cond (Nat.ble 230 pc) (cond (Nat.ble 232 pc) (cond (Nat.beq pc 232) (some (.bipush 100, 2)) none) (cond (Nat.beq pc 230) (some (.iload 6, 2)) none)) (cond (Nat.ble 228 pc) (cond (Nat.beq pc 228) (some (.iload 7, 2)) none) (cond (Nat.beq pc 225) (some (.goto 18, 3)) none))))) (cond (Nat.ble 207 pc) (cond (Nat.ble 216 pc) (cond (Nat.ble 220 pc) (cond (Nat.ble 221 pc) (cond (Nat.ble 224 pc) (cond (Nat.beq pc 224) (some (.iconst 0, 1)) none) (cond (Nat.beq pc 221) (some (.goto 22, 3)) none)) (cond (Nat.beq pc 220) (some (.iconst 1, 1)) none)) (cond (Nat.ble 217 pc) (cond (Nat.beq pc 217) (some (.if_icmp .ne 7, 3)) none) (cond (Nat.beq pc 216) (some (.irem, 1)) none))) (cond (Nat.ble 212 pc) (cond (Nat.ble 214 pc) (cond (Nat.beq pc 214) (some (.bipush 100, 2)) none) (cond (Nat.beq pc 212) (some (.iload 6, 2)) none)) (cond (Nat.ble 210 pc) (cond (Nat.beq pc 210) (some (.iload 7, 2)) none) (cond (Nat.beq pc 207) (some (.if_icmp .ne 21, 3)) none)))) (cond (Nat.ble 200 pc) (cond (Nat.ble 204 pc) (cond (Nat.ble 206 pc) (cond (Nat.beq pc 206) (some (.iconst 1, 1)) none) (cond (Nat.beq pc 204) (some (.iload 8, 2)) none)) (cond (Nat.ble 201 pc) (cond (Nat.beq pc 201) (some (.goto 42, 3)) none) (cond (Nat.beq pc 200) (some (.iconst 0, 1)) none))) (cond (Nat.ble 196 pc) (cond (Nat.ble 197 pc) (cond (Nat.beq pc 197) (some (.goto 46, 3)) none) (cond (Nat.beq pc 196) (some (.iconst 1, 1)) none)) (cond (Nat.ble 193 pc) (cond (Nat.beq pc 193) (some (.if_icmp .ge 7, 3)) none) (cond (Nat.beq pc 192) (some (.irem, 1)) none)))))) (cond (Nat.ble 158 pc) (cond (Nat.ble 173 pc) (cond (Nat.ble 181 pc) (cond (Nat.ble 186 pc) (cond (Nat.ble 188 pc) (cond (Nat.ble 190 pc) (cond (Nat.beq pc 190) (some (.bipush 100, 2)) none) (cond (Nat.beq pc 188) (some (.iload 6, 2)) none)) (cond (Nat.beq pc 186) (some (.iload 7, 2)) none)) (cond (Nat.ble 183 pc) (cond (Nat.beq pc 183) (some (.ifCond .ne 21, 3)) none) (cond (Nat.beq pc 181) (some (.iload 8, 2)) none))) (cond (Nat.ble 176 pc) (cond (Nat.ble 179 pc) (cond (Nat.beq pc 179) (some (.iload 4, 2)) none) (cond (Nat.beq pc 176) (some (.getfield 96, 3)) none)) (cond (Nat.ble 175 pc) (cond (Nat.beq pc 175) (some (.aload_n 0, 1)) none) (cond (Nat.beq pc 173) (some (.istore 8, 2)) none)))) (cond (Nat.ble 165 pc) (cond (Nat.ble 169 pc) (cond (Nat.ble 170 pc) (cond (Nat.ble 172 pc) (cond (Nat.beq pc 172) (some (.irem, 1)) none) (cond (Nat.beq pc 170) (some (.bipush 10, 2)) none)) (cond (Nat.beq pc 169) (some (.idiv, 1)) none)) (cond (Nat.ble 167 pc) (cond (Nat.beq pc 167) (some (.bipush 100, 2)) none) (cond (Nat.beq pc 165) (some (.iload 6, 2)) none))) (cond (Nat.ble 160 pc) (cond (Nat.ble 163 pc) (cond (Nat.beq pc 163) (some (.istore 7, 2)) none) (cond (Nat.beq pc 160) (some (.invokevirtual 269, 3)) none)) (cond (Nat.ble 159 pc) (cond (Nat.beq pc 159) (some (.iload_n 3, 1)) none) (cond (Nat.beq pc 158) (some (.iload_n 2, 1)) none))))) (cond (Nat.ble 142 pc) (cond (Nat.ble 148 pc) (cond (Nat.ble 152 pc) (cond (Nat.ble 154 pc) (cond (Nat.ble 157 pc) (cond (Nat.beq pc 157) (some (.idiv, 1)) none) (cond (Nat.beq pc 154) (some (.sipush 1000, 3)) none)) (cond (Nat.beq pc 152) (some (.iload 6, 2)) none)) (cond (Nat.ble 151 pc) (cond (Nat.beq pc 151) (some (.aload_n 0, 1)) none) (cond (Nat.beq pc 148) (some (.goto 99, 3)) none))) (cond (Nat.ble 146 pc) (cond (Nat.ble 147 pc) (cond (Nat.beq pc 147) (some (.bastore, 1)) none) (cond (Nat.beq pc 146) (some (.iconst 0, 1)) none)) (cond (Nat.ble 143 pc) (cond (Nat.beq pc 143) (some (.goto 4, 3)) none) (cond (Nat.beq pc 142) (some (.iconst 1, 1)) none)))) (cond (Nat.ble 133 pc) (cond (Nat.ble 138 pc) (cond (Nat.ble 139 pc) (cond (Nat.beq pc 139) (some (.ifCond .eq 7, 3)) none) (cond (Nat.beq pc 138) (some (.baload, 1)) none)) (cond (Nat.ble 136 pc) (cond (Nat.beq pc 136) (some (.iload 4, 2)) none) (cond (Nat.beq pc 133) (some (.getfield 96, 3)) none))) (cond (Nat.ble 129 pc) (cond (Nat.ble 132 pc) (cond (Nat.beq pc 132) (some (.aload_n 0, 1)) none) (cond (Nat.beq pc 129) (some (.ifCond .ne 13, 3)) none)) (cond (Nat.ble 128 pc) (cond (Nat.beq pc 128) (some (.baload, 1)) none) (cond (Nat.beq pc 127) (some (.isub, 1)) none))))))) (cond (Nat.ble 59 pc) (cond (Nat.ble 94 pc) (cond (Nat.ble 109 pc) (cond (Nat.ble 117 pc) (cond (Nat.ble 121 pc) (cond (Nat.ble 124 pc) (cond (Nat.ble 126 pc) (cond (Nat.beq pc 126) (some (.iconst 1, 1)) none) (cond (Nat.beq pc 124) (some (.iload 4, 2)) none)) (cond (Nat.beq pc 121) (some (.getfield 96, 3)) none)) (cond (Nat.ble 120 pc) (cond (Nat.beq pc 120) (some (.aload_n 0, 1)) none) (cond (Nat.beq pc 117) (some (.goto 30, 3)) none))) (cond (Nat.ble 113 pc) (cond (Nat.ble 116 pc) (cond (Nat.beq pc 116) (some (.iconst 0, 1)) none) (cond (Nat.beq pc 113) (some (.goto 34, 3)) none)) (cond (Nat.ble 112 pc) (cond (Nat.beq pc 112) (some (.iconst 1, 1)) none) (cond (Nat.beq pc 109) (some (.ifCond .eq 7, 3)) none)))) (cond (Nat.ble 99 pc) (cond (Nat.ble 103 pc) (cond (Nat.ble 106 pc) (cond (Nat.ble 108 pc) (cond (Nat.beq pc 108) (some (.baload, 1)) none) (cond (Nat.beq pc 106) (some (.iload 4, 2)) none)) (cond (Nat.beq pc 103) (some (.getfield 96, 3)) none)) (cond (Nat.ble 102 pc) (cond (Nat.beq pc 102) (some (.aload_n 0, 1)) none) (cond (Nat.beq pc 99) (some (.ifCond .eq 17, 3)) none))) (cond (Nat.ble 97 pc) (cond (Nat.ble 98 pc) (cond (Nat.beq pc 98) (some (.baload, 1)) none) (cond (Nat.beq pc 97) (some (.isub, 1)) none)) (cond (Nat.ble 96 pc) (cond (Nat.beq pc 96) (some (.iconst 1, 1)) none) (cond (Nat.beq pc 94) (some (.iload 4, 2)) none))))) (cond (Nat.ble 76 pc) (cond (Nat.ble 83 pc) (cond (Nat.ble 87 pc) (cond (Nat.ble 90 pc) (cond (Nat.ble 91 pc) (cond (Nat.beq pc 91) (some (.getfield 96, 3)) none) (cond (Nat.beq pc 90) (some (.aload_n 0, 1)) none)) (cond (Nat.beq pc 87) (some (.if_icmp .ne 33, 3)) none)) (cond (Nat.ble 85 pc) (cond (Nat.beq pc 85) (some (.bipush (-38), 2)) none) (cond (Nat.beq pc 83) (some (.iload 6, 2)) none))) (cond (Nat.ble 81 pc) (cond (Nat.ble 82 pc) (cond (Nat.beq pc 82) (some (.isub, 1)) none) (cond (Nat.beq pc 81) (some (.iconst 1, 1)) none)) (cond (Nat.ble 79 pc) (cond (Nat.beq pc 79) (some (.iload 4, 2)) none) (cond (Nat.beq pc 76) (some (.getfield 96, 3)) none)))) (cond (Nat.ble 67 pc) (cond (Nat.ble 72 pc) (cond (Nat.ble 75 pc) (cond (Nat.beq pc 75) (some (.aload_n 0, 1)) none) (cond (Nat.beq pc 72) (some (.iinc 4 (-1), 3)) none)) (cond (Nat.ble 69 pc) (cond (Nat.beq pc 69) (some (.ifCond .ge 82, 3)) none) (cond (Nat.beq pc 67) (some (.iload 6, 2)) none))) (cond (Nat.ble 63 pc) (cond (Nat.ble 64 pc) (cond (Nat.beq pc 64) (some (.goto 183, 3)) none) (cond (Nat.beq pc 63) (some (.bastore, 1)) none)) (cond (Nat.ble 62 pc) (cond (Nat.beq pc 62) (some (.iconst 0, 1)) none) (cond (Nat.beq pc 59) (some (.goto 4, 3)) none)))))) (cond (Nat.ble 29 pc) (cond (Nat.ble 45 pc) (cond (Nat.ble 52 pc) (cond (Nat.ble 54 pc) (cond (Nat.ble 55 pc) (cond (Nat.ble 58 pc) (cond (Nat.beq pc 58) (some (.iconst 1, 1)) none) (cond (Nat.beq pc 55) (some (.ifCond .ne 7, 3)) none)) (cond (Nat.beq pc 54) (some (.baload, 1)) none)) (cond (Nat.ble 53 pc) (cond (Nat.beq pc 53) (some (.isub, 1)) none) (cond (Nat.beq pc 52) (some (.iconst 1, 1)) none))) (cond (Nat.ble 47 pc) (cond (Nat.ble 50 pc) (cond (Nat.beq pc 50) (some (.iload 4, 2)) none) (cond (Nat.beq pc 47) (some (.getfield 96, 3)) none)) (cond (Nat.ble 46 pc) (cond (Nat.beq pc 46) (some (.aload_n 0, 1)) none) (cond (Nat.beq pc 45) (some (.isub, 1)) none)))) (cond (Nat.ble 38 pc) (cond (Nat.ble 42 pc) (cond (Nat.ble 44 pc) (cond (Nat.beq pc 44) (some (.iconst 1, 1)) none) (cond (Nat.beq pc 42) (some (.iload 4, 2)) none)) (cond (Nat.ble 39 pc) (cond (Nat.beq pc 39) (some (.getfield 96, 3)) none) (cond (Nat.beq pc 38) (some (.aload_n 0, 1)) none))) (cond (Nat.ble 33 pc) (cond (Nat.ble 35 pc) (cond (Nat.beq pc 35) (some (.if_icmp .ne 32, 3)) none) (cond (Nat.beq pc 33) (some (.bipush (-33), 2)) none)) (cond (Nat.ble 31 pc) (cond (Nat.beq pc 31) (some (.iload 6, 2)) none) (cond (Nat.beq pc 29) (some (.istore 6, 2)) none))))) (cond (Nat.ble 13 pc) (cond (Nat.ble 19 pc) (cond (Nat.ble 23 pc) (cond (Nat.ble 26 pc) (cond (Nat.ble 28 pc) (cond (Nat.beq pc 28) (some (.iaload, 1)) none) (cond (Nat.beq pc 26) (some (.iload 5, 2)) none)) (cond (Nat.beq pc 23) (some (.getfield 75, 3)) none)) (cond (Nat.ble 22 pc) (cond (Nat.beq pc 22) (some (.aload_n 0, 1)) none) (cond (Nat.beq pc 19) (some (.if_icmp .ge 234, 3)) none))) (cond (Nat.ble 17 pc) (cond (Nat.ble 18 pc) (cond (Nat.beq pc 18) (some (.iaload, 1)) none) (cond (Nat.beq pc 17) (some (.iload_n 1, 1)) none)) (cond (Nat.ble 14 pc) (cond (Nat.beq pc 14) (some (.getfield 72, 3)) none) (cond (Nat.beq pc 13) (some (.aload_n 0, 1)) none)))) (cond (Nat.ble 7 pc) (cond (Nat.ble 9 pc) (cond (Nat.ble 11 pc) (cond (Nat.beq pc 11) (some (.iload 5, 2)) none) (cond (Nat.beq pc 9) (some (.istore 5, 2)) none)) (cond (Nat.ble 8 pc) (cond (Nat.beq pc 8) (some (.iaload, 1)) none) (cond (Nat.beq pc 7) (some (.iload_n 1, 1)) none))) (cond (Nat.ble 3 pc) (cond (Nat.ble 4 pc) (cond (Nat.beq pc 4) (some (.getfield 69, 3)) none) (cond (Nat.beq pc 3) (some (.aload_n 0, 1)) none)) (cond (Nat.ble 1 pc) (cond (Nat.beq pc 1) (some (.istore 4, 2)) none) (cond (Nat.beq pc 0) (some (.iconst 0, 1)) none)))))))
def m_X7_holds : jM := (7, yX7_holds, cX7_holds, 9, (some .boolean), fun pc => cond (Nat.ble 260 pc) none (jt_X7_holds pc))
set_option maxRecDepth 100000 in
theorem dk_X7_holds : ∀ pc q, m_X7_holds.2.2.2.2.2 pc = some q → decode cX7_holds pc = .ok q := jk_sound (N := 260) (t := jt_X7_holds) (by decide +kernel)
set_option maxRecDepth 100000 in
theorem ok_X7_holds : jok m_X7_holds := ⟨dk_X7_holds, jG_in 1112 rfl rfl, jG_in 94 rfl rfl, by decide +kernel, by decide +kernel, by decide⟩
set_option maxRecDepth 100000 in
theorem vi_X7_holds : jvirt m_X7_holds := ⟨jG_in 1111 rfl rfl, jG_in 57 rfl rfl⟩
def jt_X7_takesOf : Nat → Option (Instr × Nat) := fun pc => cond (Nat.ble 40 pc) (cond (Nat.ble 60 pc) (cond (Nat.ble 72 pc) (cond (Nat.ble 76 pc) (cond (Nat.ble 79 pc) (cond (Nat.ble 81 pc) (cond (Nat.beq pc 81) (some (.ireturn, 1)) none) (cond (Nat.beq pc 79) (some (.bipush 100, 2)) none)) (cond (Nat.beq pc 76) (some (.goto 5, 3)) none)) (cond (Nat.ble 74 pc) (cond (Nat.ble 75 pc) (cond (Nat.beq pc 75) (some (.imul, 1)) none) (cond (Nat.beq pc 74) (some (.iload_n 3, 1)) none)) (cond (Nat.beq pc 72) (some (.bipush 10, 2)) none))) (cond (Nat.ble 64 pc) (cond (Nat.ble 67 pc) (cond (Nat.ble 69 pc) (cond (Nat.beq pc 69) (some (.ifCond .eq 10, 3)) none) (cond (Nat.beq pc 67) (some (.iload 4, 2)) none)) (cond (Nat.beq pc 64) (some (.goto (-53), 3)) none)) (cond (Nat.ble 61 pc) (cond (Nat.beq pc 61) (some (.iinc 5 1, 3)) none) (cond (Nat.beq pc 60) (some (.istore_n 3, 1)) none)))) (cond (Nat.ble 49 pc) (cond (Nat.ble 55 pc) (cond (Nat.ble 58 pc) (cond (Nat.ble 59 pc) (cond (Nat.beq pc 59) (some (.iadd, 1)) none) (cond (Nat.beq pc 58) (some (.iconst 0, 1)) none)) (cond (Nat.beq pc 55) (some (.goto 4, 3)) none)) (cond (Nat.ble 52 pc) (cond (Nat.ble 54 pc) (cond (Nat.beq pc 54) (some (.iaload, 1)) none) (cond (Nat.beq pc 52) (some (.iload 5, 2)) none)) (cond (Nat.beq pc 49) (some (.getfield 66, 3)) none))) (cond (Nat.ble 42 pc) (cond (Nat.ble 45 pc) (cond (Nat.ble 48 pc) (cond (Nat.beq pc 48) (some (.aload_n 0, 1)) none) (cond (Nat.beq pc 45) (some (.ifCond .eq 13, 3)) none)) (cond (Nat.beq pc 42) (some (.invokevirtual 273, 3)) none)) (cond (Nat.ble 41 pc) (cond (Nat.beq pc 41) (some (.iload_n 2, 1)) none) (cond (Nat.beq pc 40) (some (.iload_n 1, 1)) none))))) (cond (Nat.ble 20 pc) (cond (Nat.ble 30 pc) (cond (Nat.ble 36 pc) (cond (Nat.ble 37 pc) (cond (Nat.ble 38 pc) (cond (Nat.beq pc 38) (some (.iload 5, 2)) none) (cond (Nat.beq pc 37) (some (.aload_n 0, 1)) none)) (cond (Nat.beq pc 36) (some (.iload_n 3, 1)) none)) (cond (Nat.ble 33 pc) (cond (Nat.ble 34 pc) (cond (Nat.beq pc 34) (some (.istore 4, 2)) none) (cond (Nat.beq pc 33) (some (.iconst 1, 1)) none)) (cond (Nat.beq pc 30) (some (.goto 31, 3)) none))) (cond (Nat.ble 24 pc) (cond (Nat.ble 26 pc) (cond (Nat.ble 27 pc) (cond (Nat.beq pc 27) (some (.ifCond .eq 6, 3)) none) (cond (Nat.beq pc 26) (some (.iaload, 1)) none)) (cond (Nat.beq pc 24) (some (.iload 5, 2)) none)) (cond (Nat.ble 21 pc) (cond (Nat.beq pc 21) (some (.getfield 63, 3)) none) (cond (Nat.beq pc 20) (some (.aload_n 0, 1)) none)))) (cond (Nat.ble 6 pc) (cond (Nat.ble 13 pc) (cond (Nat.ble 14 pc) (cond (Nat.ble 17 pc) (cond (Nat.beq pc 17) (some (.if_icmp .ge 50, 3)) none) (cond (Nat.beq pc 14) (some (.invokevirtual 259, 3)) none)) (cond (Nat.beq pc 13) (some (.aload_n 0, 1)) none)) (cond (Nat.ble 9 pc) (cond (Nat.ble 11 pc) (cond (Nat.beq pc 11) (some (.iload 5, 2)) none) (cond (Nat.beq pc 9) (some (.istore 5, 2)) none)) (cond (Nat.beq pc 6) (some (.invokevirtual 256, 3)) none))) (cond (Nat.ble 2 pc) (cond (Nat.ble 3 pc) (cond (Nat.ble 5 pc) (cond (Nat.beq pc 5) (some (.aload_n 0, 1)) none) (cond (Nat.beq pc 3) (some (.istore 4, 2)) none)) (cond (Nat.beq pc 2) (some (.iconst 0, 1)) none)) (cond (Nat.ble 1 pc) (cond (Nat.beq pc 1) (some (.istore_n 3, 1)) none) (cond (Nat.beq pc 0) (some (.iconst 0, 1)) none)))))
def m_X7_takesOf : jM := (7, yX7_takesOf, cX7_takesOf, 6, (some .int), fun pc => cond (Nat.ble 82 pc) none (jt_X7_takesOf pc))
set_option maxRecDepth 100000 in
theorem dk_X7_takesOf : ∀ pc q, m_X7_takesOf.2.2.2.2.2 pc = some q → decode cX7_takesOf pc = .ok q := jk_sound (N := 82) (t := jt_X7_takesOf) (by decide +kernel)
set_option maxRecDepth 100000 in
theorem ok_X7_takesOf : jok m_X7_takesOf := ⟨dk_X7_takesOf, jG_in 1108 rfl rfl, jG_in 94 rfl rfl, by decide +kernel, by decide +kernel, by decide⟩
set_option maxRecDepth 100000 in
theorem vi_X7_takesOf : jvirt m_X7_takesOf := ⟨jG_in 1107 rfl rfl, jG_in 56 rfl rfl⟩
def jt_X7_thatOne : Nat → Option (Instr × Nat) := fun pc => cond (Nat.ble 6 pc) (cond (Nat.ble 10 pc) (cond (Nat.ble 11 pc) (cond (Nat.beq pc 11) (some (.ireturn, 1)) none) (cond (Nat.beq pc 10) (some (.irem, 1)) none)) (cond (Nat.ble 7 pc) (cond (Nat.beq pc 7) (some (.getfield 7, 3)) none) (cond (Nat.beq pc 6) (some (.aload_n 0, 1)) none))) (cond (Nat.ble 4 pc) (cond (Nat.ble 5 pc) (cond (Nat.beq pc 5) (some (.iaload, 1)) none) (cond (Nat.beq pc 4) (some (.iload_n 1, 1)) none)) (cond (Nat.ble 1 pc) (cond (Nat.beq pc 1) (some (.getfield 23, 3)) none) (cond (Nat.beq pc 0) (some (.aload_n 0, 1)) none)))
def m_X7_thatOne : jM := (7, yX7_thatOne, cX7_thatOne, 2, (some .int), fun pc => cond (Nat.ble 12 pc) none (jt_X7_thatOne pc))
set_option maxRecDepth 100000 in
theorem dk_X7_thatOne : ∀ pc q, m_X7_thatOne.2.2.2.2.2 pc = some q → decode cX7_thatOne pc = .ok q := jk_sound (N := 12) (t := jt_X7_thatOne) (by decide +kernel)
set_option maxRecDepth 100000 in
theorem ok_X7_thatOne : jok m_X7_thatOne := ⟨dk_X7_thatOne, jG_in 1080 rfl rfl, jG_in 94 rfl rfl, by decide +kernel, by decide +kernel, by decide⟩
set_option maxRecDepth 100000 in
theorem vi_X7_thatOne : jvirt m_X7_thatOne := ⟨jG_in 1079 rfl rfl, jG_in 49 rfl rfl⟩
def jt_X7_behindHated : Nat → Option (Instr × Nat) := fun pc => cond (Nat.ble 20 pc) (cond (Nat.ble 29 pc) (cond (Nat.ble 34 pc) (cond (Nat.ble 38 pc) (cond (Nat.ble 39 pc) (cond (Nat.beq pc 39) (some (.ireturn, 1)) none) (cond (Nat.beq pc 38) (some (.iaload, 1)) none)) (cond (Nat.ble 37 pc) (cond (Nat.beq pc 37) (some (.iload_n 1, 1)) none) (cond (Nat.beq pc 34) (some (.getfield 29, 3)) none))) (cond (Nat.ble 30 pc) (cond (Nat.ble 33 pc) (cond (Nat.beq pc 33) (some (.aload_n 0, 1)) none) (cond (Nat.beq pc 30) (some (.goto 9, 3)) none)) (cond (Nat.beq pc 29) (some (.irem, 1)) none))) (cond (Nat.ble 25 pc) (cond (Nat.ble 26 pc) (cond (Nat.ble 27 pc) (cond (Nat.beq pc 27) (some (.bipush 12, 2)) none) (cond (Nat.beq pc 26) (some (.iadd, 1)) none)) (cond (Nat.beq pc 25) (some (.iconst 1, 1)) none)) (cond (Nat.ble 23 pc) (cond (Nat.ble 24 pc) (cond (Nat.beq pc 24) (some (.iaload, 1)) none) (cond (Nat.beq pc 23) (some (.iload_n 1, 1)) none)) (cond (Nat.beq pc 20) (some (.getfield 29, 3)) none)))) (cond (Nat.ble 10 pc) (cond (Nat.ble 15 pc) (cond (Nat.ble 16 pc) (cond (Nat.ble 19 pc) (cond (Nat.beq pc 19) (some (.aload_n 0, 1)) none) (cond (Nat.beq pc 16) (some (.if_icmp .ne 17, 3)) none)) (cond (Nat.beq pc 15) (some (.iaload, 1)) none)) (cond (Nat.ble 11 pc) (cond (Nat.ble 14 pc) (cond (Nat.beq pc 14) (some (.iload_n 1, 1)) none) (cond (Nat.beq pc 11) (some (.getfield 29, 3)) none)) (cond (Nat.beq pc 10) (some (.aload_n 0, 1)) none))) (cond (Nat.ble 5 pc) (cond (Nat.ble 6 pc) (cond (Nat.ble 9 pc) (cond (Nat.beq pc 9) (some (.iaload, 1)) none) (cond (Nat.beq pc 6) (some (.invokevirtual 276, 3)) none)) (cond (Nat.beq pc 5) (some (.iload_n 1, 1)) none)) (cond (Nat.ble 1 pc) (cond (Nat.ble 4 pc) (cond (Nat.beq pc 4) (some (.aload_n 0, 1)) none) (cond (Nat.beq pc 1) (some (.getfield 26, 3)) none)) (cond (Nat.beq pc 0) (some (.aload_n 0, 1)) none))))
def m_X7_behindHated : jM := (7, yX7_behindHated, cX7_behindHated, 2, (some .int), fun pc => cond (Nat.ble 40 pc) none (jt_X7_behindHated pc))
set_option maxRecDepth 100000 in
theorem dk_X7_behindHated : ∀ pc q, m_X7_behindHated.2.2.2.2.2 pc = some q → decode cX7_behindHated pc = .ok q := jk_sound (N := 40) (t := jt_X7_behindHated) (by decide +kernel)
set_option maxRecDepth 100000 in
theorem ok_X7_behindHated : jok m_X7_behindHated := ⟨dk_X7_behindHated, jG_in 1076 rfl rfl, jG_in 94 rfl rfl, by decide +kernel, by decide +kernel, by decide⟩
set_option maxRecDepth 100000 in
theorem vi_X7_behindHated : jvirt m_X7_behindHated := ⟨jG_in 1075 rfl rfl, jG_in 48 rfl rfl⟩
def jt_X7_shunned : Nat → Option (Instr × Nat) := fun pc => cond (Nat.ble 25 pc) (cond (Nat.ble 40 pc) (cond (Nat.ble 48 pc) (cond (Nat.ble 52 pc) (cond (Nat.ble 53 pc) (cond (Nat.ble 56 pc) (cond (Nat.beq pc 56) (some (.ireturn, 1)) none) (cond (Nat.beq pc 53) (some (.invokevirtual 279, 3)) none)) (cond (Nat.beq pc 52) (some (.iload_n 1, 1)) none)) (cond (Nat.ble 51 pc) (cond (Nat.beq pc 51) (some (.aload_n 0, 1)) none) (cond (Nat.beq pc 48) (some (.goto (-46), 3)) none))) (cond (Nat.ble 44 pc) (cond (Nat.ble 45 pc) (cond (Nat.beq pc 45) (some (.iinc 2 1, 3)) none) (cond (Nat.beq pc 44) (some (.ireturn, 1)) none)) (cond (Nat.ble 43 pc) (cond (Nat.beq pc 43) (some (.iload_n 3, 1)) none) (cond (Nat.beq pc 40) (some (.if_icmp .ge 5, 3)) none)))) (cond (Nat.ble 31 pc) (cond (Nat.ble 35 pc) (cond (Nat.ble 36 pc) (cond (Nat.ble 39 pc) (cond (Nat.beq pc 39) (some (.iconst 2, 1)) none) (cond (Nat.beq pc 36) (some (.invokevirtual 266, 3)) none)) (cond (Nat.beq pc 35) (some (.iload_n 3, 1)) none)) (cond (Nat.ble 34 pc) (cond (Nat.beq pc 34) (some (.aload_n 0, 1)) none) (cond (Nat.beq pc 31) (some (.if_icmp .eq 14, 3)) none))) (cond (Nat.ble 29 pc) (cond (Nat.ble 30 pc) (cond (Nat.beq pc 30) (some (.iload_n 3, 1)) none) (cond (Nat.beq pc 29) (some (.iaload, 1)) none)) (cond (Nat.ble 26 pc) (cond (Nat.beq pc 26) (some (.invokevirtual 276, 3)) none) (cond (Nat.beq pc 25) (some (.iload_n 1, 1)) none))))) (cond (Nat.ble 13 pc) (cond (Nat.ble 18 pc) (cond (Nat.ble 20 pc) (cond (Nat.ble 21 pc) (cond (Nat.ble 24 pc) (cond (Nat.beq pc 24) (some (.aload_n 0, 1)) none) (cond (Nat.beq pc 21) (some (.getfield 26, 3)) none)) (cond (Nat.beq pc 20) (some (.aload_n 0, 1)) none)) (cond (Nat.ble 19 pc) (cond (Nat.beq pc 19) (some (.istore_n 3, 1)) none) (cond (Nat.beq pc 18) (some (.irem, 1)) none))) (cond (Nat.ble 15 pc) (cond (Nat.ble 16 pc) (cond (Nat.beq pc 16) (some (.bipush 12, 2)) none) (cond (Nat.beq pc 15) (some (.iadd, 1)) none)) (cond (Nat.ble 14 pc) (cond (Nat.beq pc 14) (some (.iload_n 2, 1)) none) (cond (Nat.beq pc 13) (some (.iaload, 1)) none)))) (cond (Nat.ble 5 pc) (cond (Nat.ble 9 pc) (cond (Nat.ble 12 pc) (cond (Nat.beq pc 12) (some (.iload_n 1, 1)) none) (cond (Nat.beq pc 9) (some (.getfield 29, 3)) none)) (cond (Nat.ble 8 pc) (cond (Nat.beq pc 8) (some (.aload_n 0, 1)) none) (cond (Nat.beq pc 5) (some (.if_icmp .ge 46, 3)) none))) (cond (Nat.ble 2 pc) (cond (Nat.ble 3 pc) (cond (Nat.beq pc 3) (some (.bipush 12, 2)) none) (cond (Nat.beq pc 2) (some (.iload_n 2, 1)) none)) (cond (Nat.ble 1 pc) (cond (Nat.beq pc 1) (some (.istore_n 2, 1)) none) (cond (Nat.beq pc 0) (some (.iconst 0, 1)) none)))))
def m_X7_shunned : jM := (7, yX7_shunned, cX7_shunned, 4, (some .int), fun pc => cond (Nat.ble 57 pc) none (jt_X7_shunned pc))
set_option maxRecDepth 100000 in
theorem dk_X7_shunned : ∀ pc q, m_X7_shunned.2.2.2.2.2 pc = some q → decode cX7_shunned pc = .ok q := jk_sound (N := 57) (t := jt_X7_shunned) (by decide +kernel)
set_option maxRecDepth 100000 in
theorem ok_X7_shunned : jok m_X7_shunned := ⟨dk_X7_shunned, jG_in 1084 rfl rfl, jG_in 94 rfl rfl, by decide +kernel, by decide +kernel, by decide⟩
set_option maxRecDepth 100000 in
theorem vi_X7_shunned : jvirt m_X7_shunned := ⟨jG_in 1083 rfl rfl, jG_in 50 rfl rfl⟩
def jt_X7_wishedDay : Nat → Option (Instr × Nat) := fun pc => cond (Nat.ble 88 pc) (cond (Nat.ble 117 pc) (cond (Nat.ble 129 pc) (cond (Nat.ble 133 pc) (cond (Nat.ble 137 pc) (cond (Nat.ble 138 pc) (cond (Nat.ble 139 pc) (cond (Nat.beq pc 139) (some (.ireturn, 1)) none) (cond (Nat.beq pc 138) (some (.iaload, 1)) none)) (cond (Nat.beq pc 137) (some (.iload_n 1, 1)) none)) (cond (Nat.ble 134 pc) (cond (Nat.beq pc 134) (some (.getfield 29, 3)) none) (cond (Nat.beq pc 133) (some (.aload_n 0, 1)) none))) (cond (Nat.ble 131 pc) (cond (Nat.ble 132 pc) (cond (Nat.beq pc 132) (some (.ireturn, 1)) none) (cond (Nat.beq pc 131) (some (.iaload, 1)) none)) (cond (Nat.ble 130 pc) (cond (Nat.beq pc 130) (some (.iadd, 1)) none) (cond (Nat.beq pc 129) (some (.irem, 1)) none)))) (cond (Nat.ble 123 pc) (cond (Nat.ble 125 pc) (cond (Nat.ble 128 pc) (cond (Nat.beq pc 128) (some (.iconst 4, 1)) none) (cond (Nat.beq pc 125) (some (.getfield 16, 3)) none)) (cond (Nat.ble 124 pc) (cond (Nat.beq pc 124) (some (.aload_n 0, 1)) none) (cond (Nat.beq pc 123) (some (.imul, 1)) none))) (cond (Nat.ble 121 pc) (cond (Nat.ble 122 pc) (cond (Nat.beq pc 122) (some (.iload_n 1, 1)) none) (cond (Nat.beq pc 121) (some (.iconst 4, 1)) none)) (cond (Nat.ble 118 pc) (cond (Nat.beq pc 118) (some (.getfield 35, 3)) none) (cond (Nat.beq pc 117) (some (.aload_n 0, 1)) none))))) (cond (Nat.ble 102 pc) (cond (Nat.ble 110 pc) (cond (Nat.ble 114 pc) (cond (Nat.ble 115 pc) (cond (Nat.ble 116 pc) (cond (Nat.beq pc 116) (some (.ireturn, 1)) none) (cond (Nat.beq pc 115) (some (.iaload, 1)) none)) (cond (Nat.beq pc 114) (some (.iload_n 1, 1)) none)) (cond (Nat.ble 111 pc) (cond (Nat.beq pc 111) (some (.getfield 29, 3)) none) (cond (Nat.beq pc 110) (some (.aload_n 0, 1)) none))) (cond (Nat.ble 106 pc) (cond (Nat.ble 107 pc) (cond (Nat.beq pc 107) (some (.goto 9, 3)) none) (cond (Nat.beq pc 106) (some (.iaload, 1)) none)) (cond (Nat.ble 103 pc) (cond (Nat.beq pc 103) (some (.invokevirtual 276, 3)) none) (cond (Nat.beq pc 102) (some (.iload_n 1, 1)) none)))) (cond (Nat.ble 94 pc) (cond (Nat.ble 98 pc) (cond (Nat.ble 101 pc) (cond (Nat.beq pc 101) (some (.aload_n 0, 1)) none) (cond (Nat.beq pc 98) (some (.getfield 26, 3)) none)) (cond (Nat.ble 97 pc) (cond (Nat.beq pc 97) (some (.aload_n 0, 1)) none) (cond (Nat.beq pc 94) (some (.ifCond .eq 16, 3)) none))) (cond (Nat.ble 90 pc) (cond (Nat.ble 93 pc) (cond (Nat.beq pc 93) (some (.baload, 1)) none) (cond (Nat.beq pc 90) (some (.invokevirtual 276, 3)) none)) (cond (Nat.ble 89 pc) (cond (Nat.beq pc 89) (some (.iload_n 1, 1)) none) (cond (Nat.beq pc 88) (some (.aload_n 0, 1)) none)))))) (cond (Nat.ble 62 pc) (cond (Nat.ble 74 pc) (cond (Nat.ble 79 pc) (cond (Nat.ble 83 pc) (cond (Nat.ble 84 pc) (cond (Nat.ble 85 pc) (cond (Nat.beq pc 85) (some (.getfield 38, 3)) none) (cond (Nat.beq pc 84) (some (.aload_n 0, 1)) none)) (cond (Nat.beq pc 83) (some (.ireturn, 1)) none)) (cond (Nat.ble 80 pc) (cond (Nat.beq pc 80) (some (.invokevirtual 282, 3)) none) (cond (Nat.beq pc 79) (some (.iload_n 1, 1)) none))) (cond (Nat.ble 77 pc) (cond (Nat.ble 78 pc) (cond (Nat.beq pc 78) (some (.aload_n 0, 1)) none) (cond (Nat.beq pc 77) (some (.ireturn, 1)) none)) (cond (Nat.ble 76 pc) (cond (Nat.beq pc 76) (some (.irem, 1)) none) (cond (Nat.beq pc 74) (some (.bipush 12, 2)) none)))) (cond (Nat.ble 68 pc) (cond (Nat.ble 72 pc) (cond (Nat.ble 73 pc) (cond (Nat.beq pc 73) (some (.iadd, 1)) none) (cond (Nat.beq pc 72) (some (.iaload, 1)) none)) (cond (Nat.ble 71 pc) (cond (Nat.beq pc 71) (some (.iload_n 1, 1)) none) (cond (Nat.beq pc 68) (some (.getfield 23, 3)) none))) (cond (Nat.ble 66 pc) (cond (Nat.ble 67 pc) (cond (Nat.beq pc 67) (some (.aload_n 0, 1)) none) (cond (Nat.beq pc 66) (some (.iaload, 1)) none)) (cond (Nat.ble 65 pc) (cond (Nat.beq pc 65) (some (.iload_n 1, 1)) none) (cond (Nat.beq pc 62) (some (.getfield 29, 3)) none))))) (cond (Nat.ble 49 pc) (cond (Nat.ble 55 pc) (cond (Nat.ble 59 pc) (cond (Nat.ble 60 pc) (cond (Nat.ble 61 pc) (cond (Nat.beq pc 61) (some (.aload_n 0, 1)) none) (cond (Nat.beq pc 60) (some (.ireturn, 1)) none)) (cond (Nat.beq pc 59) (some (.iaload, 1)) none)) (cond (Nat.ble 56 pc) (cond (Nat.beq pc 56) (some (.invokevirtual 276, 3)) none) (cond (Nat.beq pc 55) (some (.iload_n 1, 1)) none))) (cond (Nat.ble 51 pc) (cond (Nat.ble 54 pc) (cond (Nat.beq pc 54) (some (.aload_n 0, 1)) none) (cond (Nat.beq pc 51) (some (.getfield 26, 3)) none)) (cond (Nat.ble 50 pc) (cond (Nat.beq pc 50) (some (.aload_n 0, 1)) none) (cond (Nat.beq pc 49) (some (.ireturn, 1)) none)))) (cond (Nat.ble 6 pc) (cond (Nat.ble 45 pc) (cond (Nat.ble 46 pc) (cond (Nat.beq pc 46) (some (.invokevirtual 279, 3)) none) (cond (Nat.beq pc 45) (some (.iload_n 1, 1)) none)) (cond (Nat.ble 44 pc) (cond (Nat.beq pc 44) (some (.aload_n 0, 1)) none) (cond (Nat.beq pc 6) (some (.tableswitch 127 1 6 #[38, 44, 55, 72, 78, 111], 38)) none))) (cond (Nat.ble 4 pc) (cond (Nat.ble 5 pc) (cond (Nat.beq pc 5) (some (.iaload, 1)) none) (cond (Nat.beq pc 4) (some (.iload_n 1, 1)) none)) (cond (Nat.ble 1 pc) (cond (Nat.beq pc 1) (some (.getfield 19, 3)) none) (cond (Nat.beq pc 0) (some (.aload_n 0, 1)) none))))))
def m_X7_wishedDay : jM := (7, yX7_wishedDay, cX7_wishedDay, 2, (some .int), fun pc => cond (Nat.ble 140 pc) none (jt_X7_wishedDay pc))
set_option maxRecDepth 100000 in
theorem dk_X7_wishedDay : ∀ pc q, m_X7_wishedDay.2.2.2.2.2 pc = some q → decode cX7_wishedDay pc = .ok q := jk_sound (N := 140) (t := jt_X7_wishedDay) (by decide +kernel)
set_option maxRecDepth 100000 in
theorem ok_X7_wishedDay : jok m_X7_wishedDay := ⟨dk_X7_wishedDay, jG_in 1072 rfl rfl, jG_in 94 rfl rfl, by decide +kernel, by decide +kernel, by decide⟩
set_option maxRecDepth 100000 in
theorem vi_X7_wishedDay : jvirt m_X7_wishedDay := ⟨jG_in 1071 rfl rfl, jG_in 47 rfl rfl⟩
def jt_X7_sells : Nat → Option (Instr × Nat) := fun pc => cond (Nat.ble 14 pc) (cond (Nat.ble 20 pc) (cond (Nat.ble 23 pc) (cond (Nat.ble 26 pc) (cond (Nat.ble 27 pc) (cond (Nat.beq pc 27) (some (.ireturn, 1)) none) (cond (Nat.beq pc 26) (some (.iload_n 2, 1)) none)) (cond (Nat.beq pc 23) (some (.goto 4, 3)) none)) (cond (Nat.ble 22 pc) (cond (Nat.beq pc 22) (some (.irem, 1)) none) (cond (Nat.beq pc 20) (some (.bipush 12, 2)) none))) (cond (Nat.ble 18 pc) (cond (Nat.ble 19 pc) (cond (Nat.beq pc 19) (some (.iadd, 1)) none) (cond (Nat.beq pc 18) (some (.iconst 1, 1)) none)) (cond (Nat.ble 17 pc) (cond (Nat.beq pc 17) (some (.iload_n 2, 1)) none) (cond (Nat.beq pc 14) (some (.if_icmp .ne 12, 3)) none)))) (cond (Nat.ble 6 pc) (cond (Nat.ble 8 pc) (cond (Nat.ble 9 pc) (cond (Nat.ble 11 pc) (cond (Nat.beq pc 11) (some (.invokevirtual 262, 3)) none) (cond (Nat.beq pc 9) (some (.bipush 99, 2)) none)) (cond (Nat.beq pc 8) (some (.iconst 3, 1)) none)) (cond (Nat.ble 7 pc) (cond (Nat.beq pc 7) (some (.aload_n 0, 1)) none) (cond (Nat.beq pc 6) (some (.iload_n 2, 1)) none))) (cond (Nat.ble 2 pc) (cond (Nat.ble 5 pc) (cond (Nat.beq pc 5) (some (.istore_n 2, 1)) none) (cond (Nat.beq pc 2) (some (.invokevirtual 285, 3)) none)) (cond (Nat.ble 1 pc) (cond (Nat.beq pc 1) (some (.iload_n 1, 1)) none) (cond (Nat.beq pc 0) (some (.aload_n 0, 1)) none))))
def m_X7_sells : jM := (7, yX7_sells, cX7_sells, 3, (some .int), fun pc => cond (Nat.ble 28 pc) none (jt_X7_sells pc))
set_option maxRecDepth 100000 in
theorem dk_X7_sells : ∀ pc q, m_X7_sells.2.2.2.2.2 pc = some q → decode cX7_sells pc = .ok q := jk_sound (N := 28) (t := jt_X7_sells) (by decide +kernel)
set_option maxRecDepth 100000 in
theorem ok_X7_sells : jok m_X7_sells := ⟨dk_X7_sells, jG_in 1068 rfl rfl, jG_in 94 rfl rfl, by decide +kernel, by decide +kernel, by decide⟩
set_option maxRecDepth 100000 in
theorem vi_X7_sells : jvirt m_X7_sells := ⟨jG_in 1067 rfl rfl, jG_in 46 rfl rfl⟩
def jt_X7_putOff : Nat → Option (Instr × Nat) := fun pc => cond (Nat.ble 10 pc) (cond (Nat.ble 14 pc) (cond (Nat.ble 17 pc) (cond (Nat.ble 18 pc) (cond (Nat.beq pc 18) (some (.ireturn, 1)) none) (cond (Nat.beq pc 17) (some (.irem, 1)) none)) (cond (Nat.ble 15 pc) (cond (Nat.beq pc 15) (some (.bipush 12, 2)) none) (cond (Nat.beq pc 14) (some (.iadd, 1)) none))) (cond (Nat.ble 11 pc) (cond (Nat.ble 12 pc) (cond (Nat.beq pc 12) (some (.bipush 12, 2)) none) (cond (Nat.beq pc 11) (some (.isub, 1)) none)) (cond (Nat.beq pc 10) (some (.iaload, 1)) none))) (cond (Nat.ble 5 pc) (cond (Nat.ble 6 pc) (cond (Nat.ble 9 pc) (cond (Nat.beq pc 9) (some (.iload_n 1, 1)) none) (cond (Nat.beq pc 6) (some (.getfield 29, 3)) none)) (cond (Nat.beq pc 5) (some (.aload_n 0, 1)) none)) (cond (Nat.ble 1 pc) (cond (Nat.ble 2 pc) (cond (Nat.beq pc 2) (some (.invokevirtual 288, 3)) none) (cond (Nat.beq pc 1) (some (.iload_n 1, 1)) none)) (cond (Nat.beq pc 0) (some (.aload_n 0, 1)) none)))
def m_X7_putOff : jM := (7, yX7_putOff, cX7_putOff, 2, (some .int), fun pc => cond (Nat.ble 19 pc) none (jt_X7_putOff pc))
set_option maxRecDepth 100000 in
theorem dk_X7_putOff : ∀ pc q, m_X7_putOff.2.2.2.2.2 pc = some q → decode cX7_putOff pc = .ok q := jk_sound (N := 19) (t := jt_X7_putOff) (by decide +kernel)
set_option maxRecDepth 100000 in
theorem ok_X7_putOff : jok m_X7_putOff := ⟨dk_X7_putOff, jG_in 1104 rfl rfl, jG_in 94 rfl rfl, by decide +kernel, by decide +kernel, by decide⟩
set_option maxRecDepth 100000 in
theorem vi_X7_putOff : jvirt m_X7_putOff := ⟨jG_in 1103 rfl rfl, jG_in 55 rfl rfl⟩
def jt_X7_of : Nat → Option (Instr × Nat) := fun pc => cond (Nat.ble 93 pc) (cond (Nat.ble 118 pc) (cond (Nat.ble 129 pc) (cond (Nat.ble 135 pc) (cond (Nat.ble 137 pc) (cond (Nat.ble 140 pc) (cond (Nat.beq pc 140) (some (.ireturn, 1)) none) (cond (Nat.beq pc 137) (some (.ldc_w 291, 3)) none)) (cond (Nat.ble 136 pc) (cond (Nat.beq pc 136) (some (.ireturn, 1)) none) (cond (Nat.beq pc 135) (some (.iaload, 1)) none))) (cond (Nat.ble 131 pc) (cond (Nat.ble 134 pc) (cond (Nat.beq pc 134) (some (.iload_n 1, 1)) none) (cond (Nat.beq pc 131) (some (.getfield 32, 3)) none)) (cond (Nat.ble 130 pc) (cond (Nat.beq pc 130) (some (.aload_n 0, 1)) none) (cond (Nat.beq pc 129) (some (.ireturn, 1)) none)))) (cond (Nat.ble 121 pc) (cond (Nat.ble 123 pc) (cond (Nat.ble 126 pc) (cond (Nat.beq pc 126) (some (.invokevirtual 295, 3)) none) (cond (Nat.beq pc 123) (some (.invokevirtual 288, 3)) none)) (cond (Nat.ble 122 pc) (cond (Nat.beq pc 122) (some (.iload_n 1, 1)) none) (cond (Nat.beq pc 121) (some (.aload_n 0, 1)) none))) (cond (Nat.ble 119 pc) (cond (Nat.ble 120 pc) (cond (Nat.beq pc 120) (some (.iload_n 1, 1)) none) (cond (Nat.beq pc 119) (some (.aload_n 0, 1)) none)) (cond (Nat.beq pc 118) (some (.ireturn, 1)) none)))) (cond (Nat.ble 106 pc) (cond (Nat.ble 112 pc) (cond (Nat.ble 114 pc) (cond (Nat.ble 115 pc) (cond (Nat.beq pc 115) (some (.invokevirtual 292, 3)) none) (cond (Nat.beq pc 114) (some (.iload_n 1, 1)) none)) (cond (Nat.ble 113 pc) (cond (Nat.beq pc 113) (some (.aload_n 0, 1)) none) (cond (Nat.beq pc 112) (some (.ireturn, 1)) none))) (cond (Nat.ble 108 pc) (cond (Nat.ble 109 pc) (cond (Nat.beq pc 109) (some (.invokevirtual 288, 3)) none) (cond (Nat.beq pc 108) (some (.iload_n 1, 1)) none)) (cond (Nat.ble 107 pc) (cond (Nat.beq pc 107) (some (.aload_n 0, 1)) none) (cond (Nat.beq pc 106) (some (.ireturn, 1)) none)))) (cond (Nat.ble 98 pc) (cond (Nat.ble 102 pc) (cond (Nat.ble 105 pc) (cond (Nat.beq pc 105) (some (.iconst 0, 1)) none) (cond (Nat.beq pc 102) (some (.goto 4, 3)) none)) (cond (Nat.ble 101 pc) (cond (Nat.beq pc 101) (some (.iconst 1, 1)) none) (cond (Nat.beq pc 98) (some (.ifCond .eq 7, 3)) none))) (cond (Nat.ble 96 pc) (cond (Nat.ble 97 pc) (cond (Nat.beq pc 97) (some (.baload, 1)) none) (cond (Nat.beq pc 96) (some (.iload_n 1, 1)) none)) (cond (Nat.beq pc 93) (some (.getfield 38, 3)) none))))) (cond (Nat.ble 72 pc) (cond (Nat.ble 83 pc) (cond (Nat.ble 89 pc) (cond (Nat.ble 91 pc) (cond (Nat.ble 92 pc) (cond (Nat.beq pc 92) (some (.aload_n 0, 1)) none) (cond (Nat.beq pc 91) (some (.ireturn, 1)) none)) (cond (Nat.ble 90 pc) (cond (Nat.beq pc 90) (some (.iaload, 1)) none) (cond (Nat.beq pc 89) (some (.iload_n 1, 1)) none))) (cond (Nat.ble 85 pc) (cond (Nat.ble 86 pc) (cond (Nat.beq pc 86) (some (.getfield 29, 3)) none) (cond (Nat.beq pc 85) (some (.aload_n 0, 1)) none)) (cond (Nat.ble 84 pc) (cond (Nat.beq pc 84) (some (.ireturn, 1)) none) (cond (Nat.beq pc 83) (some (.iaload, 1)) none)))) (cond (Nat.ble 77 pc) (cond (Nat.ble 79 pc) (cond (Nat.ble 82 pc) (cond (Nat.beq pc 82) (some (.iload_n 1, 1)) none) (cond (Nat.beq pc 79) (some (.getfield 26, 3)) none)) (cond (Nat.ble 78 pc) (cond (Nat.beq pc 78) (some (.aload_n 0, 1)) none) (cond (Nat.beq pc 77) (some (.ireturn, 1)) none))) (cond (Nat.ble 75 pc) (cond (Nat.ble 76 pc) (cond (Nat.beq pc 76) (some (.iaload, 1)) none) (cond (Nat.beq pc 75) (some (.iload_n 1, 1)) none)) (cond (Nat.beq pc 72) (some (.getfield 23, 3)) none)))) (cond (Nat.ble 13 pc) (cond (Nat.ble 68 pc) (cond (Nat.ble 70 pc) (cond (Nat.ble 71 pc) (cond (Nat.beq pc 71) (some (.aload_n 0, 1)) none) (cond (Nat.beq pc 70) (some (.ireturn, 1)) none)) (cond (Nat.ble 69 pc) (cond (Nat.beq pc 69) (some (.iaload, 1)) none) (cond (Nat.beq pc 68) (some (.iload_n 1, 1)) none))) (cond (Nat.ble 64 pc) (cond (Nat.ble 65 pc) (cond (Nat.beq pc 65) (some (.getfield 19, 3)) none) (cond (Nat.beq pc 64) (some (.aload_n 0, 1)) none)) (cond (Nat.beq pc 13) (some (.tableswitch 124 0 8 #[51, 58, 65, 72, 79, 94, 100, 106, 117], 51)) none))) (cond (Nat.ble 5 pc) (cond (Nat.ble 11 pc) (cond (Nat.ble 12 pc) (cond (Nat.beq pc 12) (some (.iload_n 2, 1)) none) (cond (Nat.beq pc 11) (some (.ireturn, 1)) none)) (cond (Nat.ble 8 pc) (cond (Nat.beq pc 8) (some (.ldc_w 291, 3)) none) (cond (Nat.beq pc 5) (some (.ifCond .ne 7, 3)) none))) (cond (Nat.ble 1 pc) (cond (Nat.ble 2 pc) (cond (Nat.beq pc 2) (some (.invokevirtual 206, 3)) none) (cond (Nat.beq pc 1) (some (.iload_n 1, 1)) none)) (cond (Nat.beq pc 0) (some (.aload_n 0, 1)) none)))))
def m_X7_of : jM := (7, yX7_of, cX7_of, 3, (some .int), fun pc => cond (Nat.ble 141 pc) none (jt_X7_of pc))
set_option maxRecDepth 100000 in
theorem dk_X7_of : ∀ pc q, m_X7_of.2.2.2.2.2 pc = some q → decode cX7_of pc = .ok q := jk_sound (N := 141) (t := jt_X7_of) (by decide +kernel)
set_option maxRecDepth 100000 in
theorem ok_X7_of : jok m_X7_of := ⟨dk_X7_of, jG_in 1063 rfl rfl, jG_in 94 rfl rfl, by decide +kernel, by decide +kernel, by decide⟩
set_option maxRecDepth 100000 in
theorem vi_X7_of : jvirt m_X7_of := ⟨jG_in 1061 rfl rfl, jG_in 1062 rfl rfl⟩
def jt_X7_allPurses : Nat → Option (Instr × Nat) := fun pc => cond (Nat.ble 13 pc) (cond (Nat.ble 20 pc) (cond (Nat.ble 24 pc) (cond (Nat.ble 27 pc) (cond (Nat.ble 28 pc) (cond (Nat.beq pc 28) (some (.ireturn, 1)) none) (cond (Nat.beq pc 27) (some (.iload_n 1, 1)) none)) (cond (Nat.beq pc 24) (some (.goto (-20), 3)) none)) (cond (Nat.ble 21 pc) (cond (Nat.beq pc 21) (some (.iinc 2 1, 3)) none) (cond (Nat.beq pc 20) (some (.istore_n 1, 1)) none))) (cond (Nat.ble 17 pc) (cond (Nat.ble 18 pc) (cond (Nat.ble 19 pc) (cond (Nat.beq pc 19) (some (.iadd, 1)) none) (cond (Nat.beq pc 18) (some (.iaload, 1)) none)) (cond (Nat.beq pc 17) (some (.iload_n 2, 1)) none)) (cond (Nat.ble 14 pc) (cond (Nat.beq pc 14) (some (.getfield 32, 3)) none) (cond (Nat.beq pc 13) (some (.aload_n 0, 1)) none)))) (cond (Nat.ble 4 pc) (cond (Nat.ble 6 pc) (cond (Nat.ble 9 pc) (cond (Nat.ble 12 pc) (cond (Nat.beq pc 12) (some (.iload_n 1, 1)) none) (cond (Nat.beq pc 9) (some (.if_icmp .ge 18, 3)) none)) (cond (Nat.beq pc 6) (some (.getfield 7, 3)) none)) (cond (Nat.ble 5 pc) (cond (Nat.beq pc 5) (some (.aload_n 0, 1)) none) (cond (Nat.beq pc 4) (some (.iload_n 2, 1)) none))) (cond (Nat.ble 2 pc) (cond (Nat.ble 3 pc) (cond (Nat.beq pc 3) (some (.istore_n 2, 1)) none) (cond (Nat.beq pc 2) (some (.iconst 0, 1)) none)) (cond (Nat.ble 1 pc) (cond (Nat.beq pc 1) (some (.istore_n 1, 1)) none) (cond (Nat.beq pc 0) (some (.iconst 0, 1)) none))))
def m_X7_allPurses : jM := (7, yX7_allPurses, cX7_allPurses, 3, (some .int), fun pc => cond (Nat.ble 29 pc) none (jt_X7_allPurses pc))
set_option maxRecDepth 100000 in
theorem dk_X7_allPurses : ∀ pc q, m_X7_allPurses.2.2.2.2.2 pc = some q → decode cX7_allPurses pc = .ok q := jk_sound (N := 29) (t := jt_X7_allPurses) (by decide +kernel)
set_option maxRecDepth 100000 in
theorem ok_X7_allPurses : jok m_X7_allPurses := ⟨dk_X7_allPurses, jG_in 1136 rfl rfl, jG_in 94 rfl rfl, by decide +kernel, by decide +kernel, by decide⟩
set_option maxRecDepth 100000 in
theorem vi_X7_allPurses : jvirt m_X7_allPurses := ⟨jG_in 1135 rfl rfl, jG_in 62 rfl rfl⟩
def jt_X7_bornOn : Nat → Option (Instr × Nat) := fun pc => cond (Nat.ble 23 pc) (cond (Nat.ble 35 pc) (cond (Nat.ble 41 pc) (cond (Nat.ble 47 pc) (cond (Nat.ble 48 pc) (cond (Nat.beq pc 48) (some (.ireturn, 1)) none) (cond (Nat.beq pc 47) (some (.iload_n 2, 1)) none)) (cond (Nat.ble 44 pc) (cond (Nat.beq pc 44) (some (.goto (-40), 3)) none) (cond (Nat.beq pc 41) (some (.iinc 3 1, 3)) none))) (cond (Nat.ble 39 pc) (cond (Nat.ble 40 pc) (cond (Nat.beq pc 40) (some (.istore_n 2, 1)) none) (cond (Nat.beq pc 39) (some (.ior, 1)) none)) (cond (Nat.ble 38 pc) (cond (Nat.beq pc 38) (some (.iconst 0, 1)) none) (cond (Nat.beq pc 35) (some (.goto 4, 3)) none)))) (cond (Nat.ble 29 pc) (cond (Nat.ble 33 pc) (cond (Nat.ble 34 pc) (cond (Nat.beq pc 34) (some (.ishl, 1)) none) (cond (Nat.beq pc 33) (some (.iload_n 3, 1)) none)) (cond (Nat.ble 32 pc) (cond (Nat.beq pc 32) (some (.iconst 1, 1)) none) (cond (Nat.beq pc 29) (some (.if_icmp .ne 9, 3)) none))) (cond (Nat.ble 27 pc) (cond (Nat.ble 28 pc) (cond (Nat.beq pc 28) (some (.iload_n 1, 1)) none) (cond (Nat.beq pc 27) (some (.iaload, 1)) none)) (cond (Nat.ble 26 pc) (cond (Nat.beq pc 26) (some (.iload_n 3, 1)) none) (cond (Nat.beq pc 23) (some (.getfield 26, 3)) none))))) (cond (Nat.ble 9 pc) (cond (Nat.ble 17 pc) (cond (Nat.ble 19 pc) (cond (Nat.ble 22 pc) (cond (Nat.beq pc 22) (some (.aload_n 0, 1)) none) (cond (Nat.beq pc 19) (some (.ifCond .eq 19, 3)) none)) (cond (Nat.ble 18 pc) (cond (Nat.beq pc 18) (some (.baload, 1)) none) (cond (Nat.beq pc 17) (some (.iload_n 3, 1)) none))) (cond (Nat.ble 13 pc) (cond (Nat.ble 14 pc) (cond (Nat.beq pc 14) (some (.getfield 38, 3)) none) (cond (Nat.beq pc 13) (some (.aload_n 0, 1)) none)) (cond (Nat.ble 12 pc) (cond (Nat.beq pc 12) (some (.iload_n 2, 1)) none) (cond (Nat.beq pc 9) (some (.if_icmp .ge 38, 3)) none)))) (cond (Nat.ble 3 pc) (cond (Nat.ble 5 pc) (cond (Nat.ble 6 pc) (cond (Nat.beq pc 6) (some (.getfield 7, 3)) none) (cond (Nat.beq pc 5) (some (.aload_n 0, 1)) none)) (cond (Nat.ble 4 pc) (cond (Nat.beq pc 4) (some (.iload_n 3, 1)) none) (cond (Nat.beq pc 3) (some (.istore_n 3, 1)) none))) (cond (Nat.ble 1 pc) (cond (Nat.ble 2 pc) (cond (Nat.beq pc 2) (some (.iconst 0, 1)) none) (cond (Nat.beq pc 1) (some (.istore_n 2, 1)) none)) (cond (Nat.beq pc 0) (some (.iconst 0, 1)) none))))
def m_X7_bornOn : jM := (7, yX7_bornOn, cX7_bornOn, 4, (some .int), fun pc => cond (Nat.ble 49 pc) none (jt_X7_bornOn pc))
set_option maxRecDepth 100000 in
theorem dk_X7_bornOn : ∀ pc q, m_X7_bornOn.2.2.2.2.2 pc = some q → decode cX7_bornOn pc = .ok q := jk_sound (N := 49) (t := jt_X7_bornOn) (by decide +kernel)
set_option maxRecDepth 100000 in
theorem ok_X7_bornOn : jok m_X7_bornOn := ⟨dk_X7_bornOn, jG_in 1124 rfl rfl, jG_in 94 rfl rfl, by decide +kernel, by decide +kernel, by decide⟩
set_option maxRecDepth 100000 in
theorem vi_X7_bornOn : jvirt m_X7_bornOn := ⟨jG_in 1123 rfl rfl, jG_in 59 rfl rfl⟩
def jt_X7_sellOn : Nat → Option (Instr × Nat) := fun pc => cond (Nat.ble 23 pc) (cond (Nat.ble 34 pc) (cond (Nat.ble 40 pc) (cond (Nat.ble 46 pc) (cond (Nat.ble 47 pc) (cond (Nat.beq pc 47) (some (.ireturn, 1)) none) (cond (Nat.beq pc 46) (some (.iload_n 2, 1)) none)) (cond (Nat.ble 43 pc) (cond (Nat.beq pc 43) (some (.goto (-39), 3)) none) (cond (Nat.beq pc 40) (some (.iinc 3 1, 3)) none))) (cond (Nat.ble 38 pc) (cond (Nat.ble 39 pc) (cond (Nat.beq pc 39) (some (.istore_n 2, 1)) none) (cond (Nat.beq pc 38) (some (.ior, 1)) none)) (cond (Nat.ble 37 pc) (cond (Nat.beq pc 37) (some (.iconst 0, 1)) none) (cond (Nat.beq pc 34) (some (.goto 4, 3)) none)))) (cond (Nat.ble 28 pc) (cond (Nat.ble 32 pc) (cond (Nat.ble 33 pc) (cond (Nat.beq pc 33) (some (.ishl, 1)) none) (cond (Nat.beq pc 32) (some (.iload_n 3, 1)) none)) (cond (Nat.ble 31 pc) (cond (Nat.beq pc 31) (some (.iconst 1, 1)) none) (cond (Nat.beq pc 28) (some (.if_icmp .ne 9, 3)) none))) (cond (Nat.ble 24 pc) (cond (Nat.ble 27 pc) (cond (Nat.beq pc 27) (some (.iload_n 1, 1)) none) (cond (Nat.beq pc 24) (some (.invokevirtual 288, 3)) none)) (cond (Nat.beq pc 23) (some (.iload_n 3, 1)) none)))) (cond (Nat.ble 9 pc) (cond (Nat.ble 17 pc) (cond (Nat.ble 19 pc) (cond (Nat.ble 22 pc) (cond (Nat.beq pc 22) (some (.aload_n 0, 1)) none) (cond (Nat.beq pc 19) (some (.ifCond .eq 18, 3)) none)) (cond (Nat.ble 18 pc) (cond (Nat.beq pc 18) (some (.baload, 1)) none) (cond (Nat.beq pc 17) (some (.iload_n 3, 1)) none))) (cond (Nat.ble 13 pc) (cond (Nat.ble 14 pc) (cond (Nat.beq pc 14) (some (.getfield 38, 3)) none) (cond (Nat.beq pc 13) (some (.aload_n 0, 1)) none)) (cond (Nat.ble 12 pc) (cond (Nat.beq pc 12) (some (.iload_n 2, 1)) none) (cond (Nat.beq pc 9) (some (.if_icmp .ge 37, 3)) none)))) (cond (Nat.ble 3 pc) (cond (Nat.ble 5 pc) (cond (Nat.ble 6 pc) (cond (Nat.beq pc 6) (some (.getfield 7, 3)) none) (cond (Nat.beq pc 5) (some (.aload_n 0, 1)) none)) (cond (Nat.ble 4 pc) (cond (Nat.beq pc 4) (some (.iload_n 3, 1)) none) (cond (Nat.beq pc 3) (some (.istore_n 3, 1)) none))) (cond (Nat.ble 1 pc) (cond (Nat.ble 2 pc) (cond (Nat.beq pc 2) (some (.iconst 0, 1)) none) (cond (Nat.beq pc 1) (some (.istore_n 2, 1)) none)) (cond (Nat.beq pc 0) (some (.iconst 0, 1)) none))))
def m_X7_sellOn : jM := (7, yX7_sellOn, cX7_sellOn, 4, (some .int), fun pc => cond (Nat.ble 48 pc) none (jt_X7_sellOn pc))
set_option maxRecDepth 100000 in
theorem dk_X7_sellOn : ∀ pc q, m_X7_sellOn.2.2.2.2.2 pc = some q → decode cX7_sellOn pc = .ok q := jk_sound (N := 48) (t := jt_X7_sellOn) (by decide +kernel)
set_option maxRecDepth 100000 in
theorem ok_X7_sellOn : jok m_X7_sellOn := ⟨dk_X7_sellOn, jG_in 1128 rfl rfl, jG_in 94 rfl rfl, by decide +kernel, by decide +kernel, by decide⟩
set_option maxRecDepth 100000 in
theorem vi_X7_sellOn : jvirt m_X7_sellOn := ⟨jG_in 1127 rfl rfl, jG_in 60 rfl rfl⟩
def jt_X7_told : Nat → Option (Instr × Nat) := fun pc => cond (Nat.ble 43 pc) (cond (Nat.ble 96 pc) (cond (Nat.ble 106 pc) (cond (Nat.ble 111 pc) (cond (Nat.ble 115 pc) (cond (Nat.ble 118 pc) (cond (Nat.beq pc 118) (some (.ireturn, 1)) none) (cond (Nat.beq pc 115) (some (.ldc_w 291, 3)) none)) (cond (Nat.ble 114 pc) (cond (Nat.beq pc 114) (some (.ireturn, 1)) none) (cond (Nat.beq pc 111) (some (.invokevirtual 307, 3)) none))) (cond (Nat.ble 109 pc) (cond (Nat.ble 110 pc) (cond (Nat.beq pc 110) (some (.aload_n 0, 1)) none) (cond (Nat.beq pc 109) (some (.ireturn, 1)) none)) (cond (Nat.beq pc 106) (some (.getfield 16, 3)) none))) (cond (Nat.ble 101 pc) (cond (Nat.ble 104 pc) (cond (Nat.ble 105 pc) (cond (Nat.beq pc 105) (some (.aload_n 0, 1)) none) (cond (Nat.beq pc 104) (some (.ireturn, 1)) none)) (cond (Nat.beq pc 101) (some (.getfield 13, 3)) none)) (cond (Nat.ble 99 pc) (cond (Nat.ble 100 pc) (cond (Nat.beq pc 100) (some (.aload_n 0, 1)) none) (cond (Nat.beq pc 99) (some (.ireturn, 1)) none)) (cond (Nat.beq pc 96) (some (.invokevirtual 262, 3)) none)))) (cond (Nat.ble 87 pc) (cond (Nat.ble 92 pc) (cond (Nat.ble 93 pc) (cond (Nat.ble 94 pc) (cond (Nat.beq pc 94) (some (.bipush 99, 2)) none) (cond (Nat.beq pc 93) (some (.iconst 3, 1)) none)) (cond (Nat.beq pc 92) (some (.aload_n 0, 1)) none)) (cond (Nat.ble 88 pc) (cond (Nat.ble 91 pc) (cond (Nat.beq pc 91) (some (.ireturn, 1)) none) (cond (Nat.beq pc 88) (some (.invokevirtual 262, 3)) none)) (cond (Nat.beq pc 87) (some (.iconst 1, 1)) none))) (cond (Nat.ble 84 pc) (cond (Nat.ble 85 pc) (cond (Nat.ble 86 pc) (cond (Nat.beq pc 86) (some (.iconst 2, 1)) none) (cond (Nat.beq pc 85) (some (.aload_n 0, 1)) none)) (cond (Nat.beq pc 84) (some (.ireturn, 1)) none)) (cond (Nat.ble 80 pc) (cond (Nat.ble 81 pc) (cond (Nat.beq pc 81) (some (.invokevirtual 304, 3)) none) (cond (Nat.beq pc 80) (some (.aload_n 0, 1)) none)) (cond (Nat.beq pc 43) (some (.tableswitch 72 0 5 #[37, 42, 49, 57, 62, 67], 37)) none))))) (cond (Nat.ble 21 pc) (cond (Nat.ble 33 pc) (cond (Nat.ble 37 pc) (cond (Nat.ble 41 pc) (cond (Nat.ble 42 pc) (cond (Nat.beq pc 42) (some (.iload_n 1, 1)) none) (cond (Nat.beq pc 41) (some (.ireturn, 1)) none)) (cond (Nat.ble 38 pc) (cond (Nat.beq pc 38) (some (.invokevirtual 301, 3)) none) (cond (Nat.beq pc 37) (some (.isub, 1)) none))) (cond (Nat.ble 34 pc) (cond (Nat.ble 35 pc) (cond (Nat.beq pc 35) (some (.bipush 30, 2)) none) (cond (Nat.beq pc 34) (some (.iload_n 1, 1)) none)) (cond (Nat.beq pc 33) (some (.aload_n 0, 1)) none))) (cond (Nat.ble 25 pc) (cond (Nat.ble 27 pc) (cond (Nat.ble 30 pc) (cond (Nat.beq pc 30) (some (.ifCond .eq 12, 3)) none) (cond (Nat.beq pc 27) (some (.invokevirtual 194, 3)) none)) (cond (Nat.beq pc 25) (some (.bipush 41, 2)) none)) (cond (Nat.ble 22 pc) (cond (Nat.ble 23 pc) (cond (Nat.beq pc 23) (some (.bipush 30, 2)) none) (cond (Nat.beq pc 22) (some (.iload_n 1, 1)) none)) (cond (Nat.beq pc 21) (some (.aload_n 0, 1)) none)))) (cond (Nat.ble 12 pc) (cond (Nat.ble 16 pc) (cond (Nat.ble 17 pc) (cond (Nat.ble 20 pc) (cond (Nat.beq pc 20) (some (.ireturn, 1)) none) (cond (Nat.beq pc 17) (some (.invokevirtual 298, 3)) none)) (cond (Nat.beq pc 16) (some (.isub, 1)) none)) (cond (Nat.ble 13 pc) (cond (Nat.ble 14 pc) (cond (Nat.beq pc 14) (some (.bipush 10, 2)) none) (cond (Nat.beq pc 13) (some (.iload_n 1, 1)) none)) (cond (Nat.beq pc 12) (some (.aload_n 0, 1)) none))) (cond (Nat.ble 4 pc) (cond (Nat.ble 6 pc) (cond (Nat.ble 9 pc) (cond (Nat.beq pc 9) (some (.ifCond .eq 12, 3)) none) (cond (Nat.beq pc 6) (some (.invokevirtual 194, 3)) none)) (cond (Nat.beq pc 4) (some (.bipush 21, 2)) none)) (cond (Nat.ble 1 pc) (cond (Nat.ble 2 pc) (cond (Nat.beq pc 2) (some (.bipush 10, 2)) none) (cond (Nat.beq pc 1) (some (.iload_n 1, 1)) none)) (cond (Nat.beq pc 0) (some (.aload_n 0, 1)) none)))))
def m_X7_told : jM := (7, yX7_told, cX7_told, 2, (some .int), fun pc => cond (Nat.ble 119 pc) none (jt_X7_told pc))
set_option maxRecDepth 100000 in
theorem dk_X7_told : ∀ pc q, m_X7_told.2.2.2.2.2 pc = some q → decode cX7_told pc = .ok q := jk_sound (N := 119) (t := jt_X7_told) (by decide +kernel)
set_option maxRecDepth 100000 in
theorem ok_X7_told : jok m_X7_told := ⟨dk_X7_told, jG_in 1120 rfl rfl, jG_in 94 rfl rfl, by decide +kernel, by decide +kernel, by decide⟩
set_option maxRecDepth 100000 in
theorem vi_X7_told : jvirt m_X7_told := ⟨jG_in 1118 rfl rfl, jG_in 1119 rfl rfl⟩
def jt_X7_goDay : Nat → Option (Instr × Nat) := fun pc => cond (Nat.ble 123 pc) (cond (Nat.ble 184 pc) (cond (Nat.ble 209 pc) (cond (Nat.ble 227 pc) (cond (Nat.ble 233 pc) (cond (Nat.ble 236 pc) (cond (Nat.ble 239 pc) (cond (Nat.ble 240 pc) (cond (Nat.beq pc 240) (some (.ireturn, 1)) none) (cond (Nat.beq pc 239) (some (.iload_n 2, 1)) none)) (cond (Nat.beq pc 236) (some (.putfield 13, 3)) none)) (cond (Nat.ble 235 pc) (cond (Nat.beq pc 235) (some (.irem, 1)) none) (cond (Nat.beq pc 233) (some (.bipush 12, 2)) none))) (cond (Nat.ble 231 pc) (cond (Nat.ble 232 pc) (cond (Nat.beq pc 232) (some (.iadd, 1)) none) (cond (Nat.beq pc 231) (some (.iconst 1, 1)) none)) (cond (Nat.ble 228 pc) (cond (Nat.beq pc 228) (some (.getfield 13, 3)) none) (cond (Nat.beq pc 227) (some (.aload_n 0, 1)) none)))) (cond (Nat.ble 218 pc) (cond (Nat.ble 222 pc) (cond (Nat.ble 223 pc) (cond (Nat.ble 226 pc) (cond (Nat.beq pc 226) (some (.aload_n 0, 1)) none) (cond (Nat.beq pc 223) (some (.putfield 16, 3)) none)) (cond (Nat.beq pc 222) (some (.iadd, 1)) none)) (cond (Nat.ble 221 pc) (cond (Nat.beq pc 221) (some (.iconst 0, 1)) none) (cond (Nat.beq pc 218) (some (.goto 4, 3)) none))) (cond (Nat.ble 214 pc) (cond (Nat.ble 217 pc) (cond (Nat.beq pc 217) (some (.iconst 1, 1)) none) (cond (Nat.beq pc 214) (some (.if_icmp .ne 7, 3)) none)) (cond (Nat.ble 212 pc) (cond (Nat.beq pc 212) (some (.bipush 11, 2)) none) (cond (Nat.beq pc 209) (some (.getfield 13, 3)) none))))) (cond (Nat.ble 194 pc) (cond (Nat.ble 200 pc) (cond (Nat.ble 204 pc) (cond (Nat.ble 205 pc) (cond (Nat.ble 208 pc) (cond (Nat.beq pc 208) (some (.aload_n 0, 1)) none) (cond (Nat.beq pc 205) (some (.getfield 16, 3)) none)) (cond (Nat.beq pc 204) (some (.dup, 1)) none)) (cond (Nat.ble 203 pc) (cond (Nat.beq pc 203) (some (.aload_n 0, 1)) none) (cond (Nat.beq pc 200) (some (.goto (-71), 3)) none))) (cond (Nat.ble 196 pc) (cond (Nat.ble 197 pc) (cond (Nat.beq pc 197) (some (.iinc 4 1, 3)) none) (cond (Nat.beq pc 196) (some (.istore_n 3, 1)) none)) (cond (Nat.ble 195 pc) (cond (Nat.beq pc 195) (some (.iconst 0, 1)) none) (cond (Nat.beq pc 194) (some (.iastore, 1)) none)))) (cond (Nat.ble 189 pc) (cond (Nat.ble 191 pc) (cond (Nat.ble 192 pc) (cond (Nat.ble 193 pc) (cond (Nat.beq pc 193) (some (.iadd, 1)) none) (cond (Nat.beq pc 192) (some (.iadd, 1)) none)) (cond (Nat.beq pc 191) (some (.iload_n 3, 1)) none)) (cond (Nat.ble 190 pc) (cond (Nat.beq pc 190) (some (.idiv, 1)) none) (cond (Nat.beq pc 189) (some (.iload_n 1, 1)) none))) (cond (Nat.ble 187 pc) (cond (Nat.ble 188 pc) (cond (Nat.beq pc 188) (some (.iload_n 2, 1)) none) (cond (Nat.beq pc 187) (some (.iaload, 1)) none)) (cond (Nat.ble 186 pc) (cond (Nat.beq pc 186) (some (.dup2, 1)) none) (cond (Nat.beq pc 184) (some (.iload 4, 2)) none)))))) (cond (Nat.ble 155 pc) (cond (Nat.ble 173 pc) (cond (Nat.ble 177 pc) (cond (Nat.ble 179 pc) (cond (Nat.ble 180 pc) (cond (Nat.ble 181 pc) (cond (Nat.beq pc 181) (some (.getfield 99, 3)) none) (cond (Nat.beq pc 180) (some (.aload_n 0, 1)) none)) (cond (Nat.beq pc 179) (some (.iastore, 1)) none)) (cond (Nat.ble 178 pc) (cond (Nat.beq pc 178) (some (.iadd, 1)) none) (cond (Nat.beq pc 177) (some (.iadd, 1)) none))) (cond (Nat.ble 175 pc) (cond (Nat.ble 176 pc) (cond (Nat.beq pc 176) (some (.iload_n 3, 1)) none) (cond (Nat.beq pc 175) (some (.idiv, 1)) none)) (cond (Nat.ble 174 pc) (cond (Nat.beq pc 174) (some (.iload_n 1, 1)) none) (cond (Nat.beq pc 173) (some (.iload_n 2, 1)) none)))) (cond (Nat.ble 165 pc) (cond (Nat.ble 169 pc) (cond (Nat.ble 171 pc) (cond (Nat.ble 172 pc) (cond (Nat.beq pc 172) (some (.iaload, 1)) none) (cond (Nat.beq pc 171) (some (.dup2, 1)) none)) (cond (Nat.beq pc 169) (some (.iload 4, 2)) none)) (cond (Nat.ble 166 pc) (cond (Nat.beq pc 166) (some (.getfield 32, 3)) none) (cond (Nat.beq pc 165) (some (.aload_n 0, 1)) none))) (cond (Nat.ble 159 pc) (cond (Nat.ble 162 pc) (cond (Nat.beq pc 162) (some (.goto 35, 3)) none) (cond (Nat.beq pc 159) (some (.if_icmp .eq 6, 3)) none)) (cond (Nat.ble 156 pc) (cond (Nat.beq pc 156) (some (.getfield 13, 3)) none) (cond (Nat.beq pc 155) (some (.aload_n 0, 1)) none))))) (cond (Nat.ble 138 pc) (cond (Nat.ble 145 pc) (cond (Nat.ble 149 pc) (cond (Nat.ble 152 pc) (cond (Nat.ble 154 pc) (cond (Nat.beq pc 154) (some (.iaload, 1)) none) (cond (Nat.beq pc 152) (some (.iload 4, 2)) none)) (cond (Nat.beq pc 149) (some (.getfield 26, 3)) none)) (cond (Nat.ble 148 pc) (cond (Nat.beq pc 148) (some (.aload_n 0, 1)) none) (cond (Nat.beq pc 145) (some (.ifCond .eq 52, 3)) none))) (cond (Nat.ble 142 pc) (cond (Nat.ble 144 pc) (cond (Nat.beq pc 144) (some (.baload, 1)) none) (cond (Nat.beq pc 142) (some (.iload 4, 2)) none)) (cond (Nat.ble 139 pc) (cond (Nat.beq pc 139) (some (.getfield 38, 3)) none) (cond (Nat.beq pc 138) (some (.aload_n 0, 1)) none)))) (cond (Nat.ble 127 pc) (cond (Nat.ble 131 pc) (cond (Nat.ble 132 pc) (cond (Nat.ble 135 pc) (cond (Nat.beq pc 135) (some (.if_icmp .ge 68, 3)) none) (cond (Nat.beq pc 132) (some (.getfield 7, 3)) none)) (cond (Nat.beq pc 131) (some (.aload_n 0, 1)) none)) (cond (Nat.ble 129 pc) (cond (Nat.beq pc 129) (some (.iload 4, 2)) none) (cond (Nat.beq pc 127) (some (.istore 4, 2)) none))) (cond (Nat.ble 125 pc) (cond (Nat.ble 126 pc) (cond (Nat.beq pc 126) (some (.iconst 0, 1)) none) (cond (Nat.beq pc 125) (some (.istore_n 3, 1)) none)) (cond (Nat.ble 124 pc) (cond (Nat.beq pc 124) (some (.irem, 1)) none) (cond (Nat.beq pc 123) (some (.iload_n 1, 1)) none))))))) (cond (Nat.ble 65 pc) (cond (Nat.ble 93 pc) (cond (Nat.ble 106 pc) (cond (Nat.ble 114 pc) (cond (Nat.ble 118 pc) (cond (Nat.ble 119 pc) (cond (Nat.ble 122 pc) (cond (Nat.beq pc 122) (some (.iload_n 2, 1)) none) (cond (Nat.beq pc 119) (some (.goto 6, 3)) none)) (cond (Nat.beq pc 118) (some (.iconst 0, 1)) none)) (cond (Nat.ble 115 pc) (cond (Nat.beq pc 115) (some (.ifCond .ne 7, 3)) none) (cond (Nat.beq pc 114) (some (.iload_n 1, 1)) none))) (cond (Nat.ble 108 pc) (cond (Nat.ble 111 pc) (cond (Nat.beq pc 111) (some (.goto (-98), 3)) none) (cond (Nat.beq pc 108) (some (.iinc 3 1, 3)) none)) (cond (Nat.ble 107 pc) (cond (Nat.beq pc 107) (some (.istore_n 2, 1)) none) (cond (Nat.beq pc 106) (some (.iadd, 1)) none)))) (cond (Nat.ble 100 pc) (cond (Nat.ble 102 pc) (cond (Nat.ble 103 pc) (cond (Nat.ble 104 pc) (cond (Nat.beq pc 104) (some (.iload 5, 2)) none) (cond (Nat.beq pc 103) (some (.iload_n 2, 1)) none)) (cond (Nat.beq pc 102) (some (.iastore, 1)) none)) (cond (Nat.ble 101 pc) (cond (Nat.beq pc 101) (some (.iadd, 1)) none) (cond (Nat.beq pc 100) (some (.isub, 1)) none))) (cond (Nat.ble 97 pc) (cond (Nat.ble 98 pc) (cond (Nat.beq pc 98) (some (.iload 5, 2)) none) (cond (Nat.beq pc 97) (some (.isub, 1)) none)) (cond (Nat.ble 96 pc) (cond (Nat.beq pc 96) (some (.imul, 1)) none) (cond (Nat.beq pc 93) (some (.invokevirtual 292, 3)) none))))) (cond (Nat.ble 81 pc) (cond (Nat.ble 86 pc) (cond (Nat.ble 88 pc) (cond (Nat.ble 91 pc) (cond (Nat.ble 92 pc) (cond (Nat.beq pc 92) (some (.iload_n 3, 1)) none) (cond (Nat.beq pc 91) (some (.aload_n 0, 1)) none)) (cond (Nat.beq pc 88) (some (.invokevirtual 262, 3)) none)) (cond (Nat.ble 87 pc) (cond (Nat.beq pc 87) (some (.iconst 1, 1)) none) (cond (Nat.beq pc 86) (some (.iconst 2, 1)) none))) (cond (Nat.ble 83 pc) (cond (Nat.ble 85 pc) (cond (Nat.beq pc 85) (some (.aload_n 0, 1)) none) (cond (Nat.beq pc 83) (some (.iload 4, 2)) none)) (cond (Nat.ble 82 pc) (cond (Nat.beq pc 82) (some (.iaload, 1)) none) (cond (Nat.beq pc 81) (some (.dup2, 1)) none)))) (cond (Nat.ble 73 pc) (cond (Nat.ble 76 pc) (cond (Nat.ble 77 pc) (cond (Nat.ble 80 pc) (cond (Nat.beq pc 80) (some (.iload_n 3, 1)) none) (cond (Nat.beq pc 77) (some (.getfield 32, 3)) none)) (cond (Nat.beq pc 76) (some (.aload_n 0, 1)) none)) (cond (Nat.ble 74 pc) (cond (Nat.beq pc 74) (some (.istore 5, 2)) none) (cond (Nat.beq pc 73) (some (.idiv, 1)) none))) (cond (Nat.ble 70 pc) (cond (Nat.ble 71 pc) (cond (Nat.beq pc 71) (some (.bipush 100, 2)) none) (cond (Nat.beq pc 70) (some (.imul, 1)) none)) (cond (Nat.ble 68 pc) (cond (Nat.beq pc 68) (some (.iload 4, 2)) none) (cond (Nat.beq pc 65) (some (.invokevirtual 304, 3)) none)))))) (cond (Nat.ble 30 pc) (cond (Nat.ble 47 pc) (cond (Nat.ble 56 pc) (cond (Nat.ble 60 pc) (cond (Nat.ble 61 pc) (cond (Nat.ble 64 pc) (cond (Nat.beq pc 64) (some (.aload_n 0, 1)) none) (cond (Nat.beq pc 61) (some (.goto 13, 3)) none)) (cond (Nat.beq pc 60) (some (.iconst 0, 1)) none)) (cond (Nat.ble 57 pc) (cond (Nat.beq pc 57) (some (.ifCond .ne 7, 3)) none) (cond (Nat.beq pc 56) (some (.iload_n 1, 1)) none))) (cond (Nat.ble 51 pc) (cond (Nat.ble 54 pc) (cond (Nat.beq pc 54) (some (.istore 4, 2)) none) (cond (Nat.beq pc 51) (some (.invokevirtual 295, 3)) none)) (cond (Nat.ble 48 pc) (cond (Nat.beq pc 48) (some (.getfield 13, 3)) none) (cond (Nat.beq pc 47) (some (.aload_n 0, 1)) none)))) (cond (Nat.ble 36 pc) (cond (Nat.ble 42 pc) (cond (Nat.ble 45 pc) (cond (Nat.ble 46 pc) (cond (Nat.beq pc 46) (some (.iload_n 3, 1)) none) (cond (Nat.beq pc 45) (some (.aload_n 0, 1)) none)) (cond (Nat.beq pc 42) (some (.goto 66, 3)) none)) (cond (Nat.ble 39 pc) (cond (Nat.beq pc 39) (some (.if_icmp .eq 6, 3)) none) (cond (Nat.beq pc 36) (some (.getfield 13, 3)) none))) (cond (Nat.ble 32 pc) (cond (Nat.ble 35 pc) (cond (Nat.beq pc 35) (some (.aload_n 0, 1)) none) (cond (Nat.beq pc 32) (some (.invokevirtual 288, 3)) none)) (cond (Nat.ble 31 pc) (cond (Nat.beq pc 31) (some (.iload_n 3, 1)) none) (cond (Nat.beq pc 30) (some (.aload_n 0, 1)) none))))) (cond (Nat.ble 13 pc) (cond (Nat.ble 21 pc) (cond (Nat.ble 25 pc) (cond (Nat.ble 26 pc) (cond (Nat.ble 27 pc) (cond (Nat.beq pc 27) (some (.ifCond .eq 81, 3)) none) (cond (Nat.beq pc 26) (some (.baload, 1)) none)) (cond (Nat.beq pc 25) (some (.iload_n 3, 1)) none)) (cond (Nat.ble 22 pc) (cond (Nat.beq pc 22) (some (.getfield 38, 3)) none) (cond (Nat.beq pc 21) (some (.aload_n 0, 1)) none))) (cond (Nat.ble 15 pc) (cond (Nat.ble 18 pc) (cond (Nat.beq pc 18) (some (.if_icmp .ge 96, 3)) none) (cond (Nat.beq pc 15) (some (.getfield 7, 3)) none)) (cond (Nat.ble 14 pc) (cond (Nat.beq pc 14) (some (.aload_n 0, 1)) none) (cond (Nat.beq pc 13) (some (.iload_n 3, 1)) none)))) (cond (Nat.ble 8 pc) (cond (Nat.ble 10 pc) (cond (Nat.ble 11 pc) (cond (Nat.ble 12 pc) (cond (Nat.beq pc 12) (some (.istore_n 3, 1)) none) (cond (Nat.beq pc 11) (some (.iconst 0, 1)) none)) (cond (Nat.beq pc 10) (some (.istore_n 2, 1)) none)) (cond (Nat.ble 9 pc) (cond (Nat.beq pc 9) (some (.iconst 0, 1)) none) (cond (Nat.beq pc 8) (some (.istore_n 1, 1)) none))) (cond (Nat.ble 2 pc) (cond (Nat.ble 5 pc) (cond (Nat.beq pc 5) (some (.invokevirtual 266, 3)) none) (cond (Nat.beq pc 2) (some (.getfield 13, 3)) none)) (cond (Nat.ble 1 pc) (cond (Nat.beq pc 1) (some (.aload_n 0, 1)) none) (cond (Nat.beq pc 0) (some (.aload_n 0, 1)) none)))))))
def m_X7_goDay : jM := (7, yX7_goDay, cX7_goDay, 6, (some .int), fun pc => cond (Nat.ble 241 pc) none (jt_X7_goDay pc))
set_option maxRecDepth 100000 in
theorem dk_X7_goDay : ∀ pc q, m_X7_goDay.2.2.2.2.2 pc = some q → decode cX7_goDay pc = .ok q := jk_sound (N := 241) (t := jt_X7_goDay) (by decide +kernel)
set_option maxRecDepth 100000 in
theorem ok_X7_goDay : jok m_X7_goDay := ⟨dk_X7_goDay, jG_in 1144 rfl rfl, jG_in 94 rfl rfl, by decide +kernel, by decide +kernel, by decide⟩
set_option maxRecDepth 100000 in
theorem vi_X7_goDay : jvirt m_X7_goDay := ⟨jG_in 1143 rfl rfl, jG_in 63 rfl rfl⟩
def jt_X7_day : Nat → Option (Instr × Nat) := fun pc => cond (Nat.ble 13 pc) (cond (Nat.ble 21 pc) (cond (Nat.ble 25 pc) (cond (Nat.ble 28 pc) (cond (Nat.beq pc 28) (some (.ireturn, 1)) none) (cond (Nat.beq pc 25) (some (.invokevirtual 310, 3)) none)) (cond (Nat.ble 24 pc) (cond (Nat.beq pc 24) (some (.aload_n 0, 1)) none) (cond (Nat.beq pc 21) (some (.goto 7, 3)) none))) (cond (Nat.ble 16 pc) (cond (Nat.ble 19 pc) (cond (Nat.beq pc 19) (some (.bipush (-3), 2)) none) (cond (Nat.beq pc 16) (some (.if_icmp .ne 8, 3)) none)) (cond (Nat.beq pc 13) (some (.sipush 999, 3)) none))) (cond (Nat.ble 6 pc) (cond (Nat.ble 9 pc) (cond (Nat.ble 10 pc) (cond (Nat.beq pc 10) (some (.getfield 16, 3)) none) (cond (Nat.beq pc 9) (some (.aload_n 0, 1)) none)) (cond (Nat.beq pc 6) (some (.if_icmp .ne 18, 3)) none)) (cond (Nat.ble 1 pc) (cond (Nat.ble 4 pc) (cond (Nat.beq pc 4) (some (.bipush 11, 2)) none) (cond (Nat.beq pc 1) (some (.getfield 13, 3)) none)) (cond (Nat.beq pc 0) (some (.aload_n 0, 1)) none)))
def m_X7_day : jM := (7, yX7_day, cX7_day, 1, (some .int), fun pc => cond (Nat.ble 29 pc) none (jt_X7_day pc))
set_option maxRecDepth 100000 in
theorem dk_X7_day : ∀ pc q, m_X7_day.2.2.2.2.2 pc = some q → decode cX7_day pc = .ok q := jk_sound (N := 29) (t := jt_X7_day) (by decide +kernel)
set_option maxRecDepth 100000 in
theorem ok_X7_day : jok m_X7_day := ⟨dk_X7_day, jG_in 1140 rfl rfl, jG_in 94 rfl rfl, by decide +kernel, by decide +kernel, by decide⟩
set_option maxRecDepth 100000 in
theorem vi_X7_day : jvirt m_X7_day := ⟨jG_in 1138 rfl rfl, jG_in 1139 rfl rfl⟩
def jt_X7_keep : Nat → Option (Instr × Nat) := fun pc => cond (Nat.ble 21 pc) (cond (Nat.ble 34 pc) (cond (Nat.ble 42 pc) (cond (Nat.ble 46 pc) (cond (Nat.ble 49 pc) (cond (Nat.beq pc 49) (some (.return_, 1)) none) (cond (Nat.beq pc 46) (some (.putfield 108, 3)) none)) (cond (Nat.ble 43 pc) (cond (Nat.beq pc 43) (some (.getfield 16, 3)) none) (cond (Nat.beq pc 42) (some (.aload_n 0, 1)) none))) (cond (Nat.ble 38 pc) (cond (Nat.ble 41 pc) (cond (Nat.beq pc 41) (some (.aload_n 0, 1)) none) (cond (Nat.beq pc 38) (some (.putfield 105, 3)) none)) (cond (Nat.ble 35 pc) (cond (Nat.beq pc 35) (some (.getfield 13, 3)) none) (cond (Nat.beq pc 34) (some (.aload_n 0, 1)) none)))) (cond (Nat.ble 26 pc) (cond (Nat.ble 30 pc) (cond (Nat.ble 33 pc) (cond (Nat.beq pc 33) (some (.aload_n 0, 1)) none) (cond (Nat.beq pc 30) (some (.goto (-28), 3)) none)) (cond (Nat.ble 27 pc) (cond (Nat.beq pc 27) (some (.iinc 1 1, 3)) none) (cond (Nat.beq pc 26) (some (.iastore, 1)) none))) (cond (Nat.ble 24 pc) (cond (Nat.ble 25 pc) (cond (Nat.beq pc 25) (some (.iconst 0, 1)) none) (cond (Nat.beq pc 24) (some (.iload_n 1, 1)) none)) (cond (Nat.beq pc 21) (some (.getfield 99, 3)) none)))) (cond (Nat.ble 12 pc) (cond (Nat.ble 17 pc) (cond (Nat.ble 19 pc) (cond (Nat.ble 20 pc) (cond (Nat.beq pc 20) (some (.aload_n 0, 1)) none) (cond (Nat.beq pc 19) (some (.iastore, 1)) none)) (cond (Nat.ble 18 pc) (cond (Nat.beq pc 18) (some (.iaload, 1)) none) (cond (Nat.beq pc 17) (some (.iload_n 1, 1)) none))) (cond (Nat.ble 13 pc) (cond (Nat.ble 14 pc) (cond (Nat.beq pc 14) (some (.getfield 32, 3)) none) (cond (Nat.beq pc 13) (some (.aload_n 0, 1)) none)) (cond (Nat.beq pc 12) (some (.iload_n 1, 1)) none))) (cond (Nat.ble 3 pc) (cond (Nat.ble 8 pc) (cond (Nat.ble 9 pc) (cond (Nat.beq pc 9) (some (.getfield 102, 3)) none) (cond (Nat.beq pc 8) (some (.aload_n 0, 1)) none)) (cond (Nat.ble 5 pc) (cond (Nat.beq pc 5) (some (.if_icmp .ge 28, 3)) none) (cond (Nat.beq pc 3) (some (.bipush 7, 2)) none))) (cond (Nat.ble 1 pc) (cond (Nat.ble 2 pc) (cond (Nat.beq pc 2) (some (.iload_n 1, 1)) none) (cond (Nat.beq pc 1) (some (.istore_n 1, 1)) none)) (cond (Nat.beq pc 0) (some (.iconst 0, 1)) none))))
def m_X7_keep : jM := (7, yX7_keep, cX7_keep, 2, none, fun pc => cond (Nat.ble 50 pc) none (jt_X7_keep pc))
set_option maxRecDepth 100000 in
theorem dk_X7_keep : ∀ pc q, m_X7_keep.2.2.2.2.2 pc = some q → decode cX7_keep pc = .ok q := jk_sound (N := 50) (t := jt_X7_keep) (by decide +kernel)
set_option maxRecDepth 100000 in
theorem ok_X7_keep : jok m_X7_keep := ⟨dk_X7_keep, jG_in 1153 rfl rfl, jG_in 94 rfl rfl, by decide +kernel, by decide +kernel, by decide⟩
set_option maxRecDepth 100000 in
theorem vi_X7_keep : jvirt m_X7_keep := ⟨jG_in 1152 rfl rfl, jG_in 64 rfl rfl⟩
def jt_X7_putBack : Nat → Option (Instr × Nat) := fun pc => cond (Nat.ble 19 pc) (cond (Nat.ble 31 pc) (cond (Nat.ble 36 pc) (cond (Nat.ble 39 pc) (cond (Nat.ble 42 pc) (cond (Nat.beq pc 42) (some (.return_, 1)) none) (cond (Nat.beq pc 39) (some (.putfield 16, 3)) none)) (cond (Nat.beq pc 36) (some (.getfield 108, 3)) none)) (cond (Nat.ble 34 pc) (cond (Nat.ble 35 pc) (cond (Nat.beq pc 35) (some (.aload_n 0, 1)) none) (cond (Nat.beq pc 34) (some (.aload_n 0, 1)) none)) (cond (Nat.beq pc 31) (some (.putfield 13, 3)) none))) (cond (Nat.ble 26 pc) (cond (Nat.ble 27 pc) (cond (Nat.ble 28 pc) (cond (Nat.beq pc 28) (some (.getfield 105, 3)) none) (cond (Nat.beq pc 27) (some (.aload_n 0, 1)) none)) (cond (Nat.beq pc 26) (some (.aload_n 0, 1)) none)) (cond (Nat.ble 20 pc) (cond (Nat.ble 23 pc) (cond (Nat.beq pc 23) (some (.goto (-21), 3)) none) (cond (Nat.beq pc 20) (some (.iinc 1 1, 3)) none)) (cond (Nat.beq pc 19) (some (.iastore, 1)) none)))) (cond (Nat.ble 9 pc) (cond (Nat.ble 14 pc) (cond (Nat.ble 17 pc) (cond (Nat.ble 18 pc) (cond (Nat.beq pc 18) (some (.iaload, 1)) none) (cond (Nat.beq pc 17) (some (.iload_n 1, 1)) none)) (cond (Nat.beq pc 14) (some (.getfield 102, 3)) none)) (cond (Nat.ble 12 pc) (cond (Nat.ble 13 pc) (cond (Nat.beq pc 13) (some (.aload_n 0, 1)) none) (cond (Nat.beq pc 12) (some (.iload_n 1, 1)) none)) (cond (Nat.beq pc 9) (some (.getfield 32, 3)) none))) (cond (Nat.ble 3 pc) (cond (Nat.ble 5 pc) (cond (Nat.ble 8 pc) (cond (Nat.beq pc 8) (some (.aload_n 0, 1)) none) (cond (Nat.beq pc 5) (some (.if_icmp .ge 21, 3)) none)) (cond (Nat.beq pc 3) (some (.bipush 7, 2)) none)) (cond (Nat.ble 1 pc) (cond (Nat.ble 2 pc) (cond (Nat.beq pc 2) (some (.iload_n 1, 1)) none) (cond (Nat.beq pc 1) (some (.istore_n 1, 1)) none)) (cond (Nat.beq pc 0) (some (.iconst 0, 1)) none))))
def m_X7_putBack : jM := (7, yX7_putBack, cX7_putBack, 2, none, fun pc => cond (Nat.ble 43 pc) none (jt_X7_putBack pc))
set_option maxRecDepth 100000 in
theorem dk_X7_putBack : ∀ pc q, m_X7_putBack.2.2.2.2.2 pc = some q → decode cX7_putBack pc = .ok q := jk_sound (N := 43) (t := jt_X7_putBack) (by decide +kernel)
set_option maxRecDepth 100000 in
theorem ok_X7_putBack : jok m_X7_putBack := ⟨dk_X7_putBack, jG_in 1157 rfl rfl, jG_in 94 rfl rfl, by decide +kernel, by decide +kernel, by decide⟩
set_option maxRecDepth 100000 in
theorem vi_X7_putBack : jvirt m_X7_putBack := ⟨jG_in 1156 rfl rfl, jG_in 65 rfl rfl⟩
def jt_X7_by : Nat → Option (Instr × Nat) := fun pc => cond (Nat.ble 44 pc) (cond (Nat.ble 70 pc) (cond (Nat.ble 80 pc) (cond (Nat.ble 84 pc) (cond (Nat.ble 87 pc) (cond (Nat.ble 89 pc) (cond (Nat.beq pc 89) (some (.ireturn, 1)) none) (cond (Nat.beq pc 87) (some (.iload 4, 2)) none)) (cond (Nat.beq pc 84) (some (.invokevirtual 317, 3)) none)) (cond (Nat.ble 81 pc) (cond (Nat.ble 83 pc) (cond (Nat.beq pc 83) (some (.aload_n 0, 1)) none) (cond (Nat.beq pc 81) (some (.istore 4, 2)) none)) (cond (Nat.beq pc 80) (some (.iaload, 1)) none))) (cond (Nat.ble 75 pc) (cond (Nat.ble 76 pc) (cond (Nat.ble 79 pc) (cond (Nat.beq pc 79) (some (.iload_n 1, 1)) none) (cond (Nat.beq pc 76) (some (.getfield 99, 3)) none)) (cond (Nat.beq pc 75) (some (.aload_n 0, 1)) none)) (cond (Nat.ble 71 pc) (cond (Nat.ble 72 pc) (cond (Nat.beq pc 72) (some (.goto 9, 3)) none) (cond (Nat.beq pc 71) (some (.iaload, 1)) none)) (cond (Nat.beq pc 70) (some (.iload_n 1, 1)) none)))) (cond (Nat.ble 56 pc) (cond (Nat.ble 63 pc) (cond (Nat.ble 66 pc) (cond (Nat.ble 67 pc) (cond (Nat.beq pc 67) (some (.getfield 32, 3)) none) (cond (Nat.beq pc 66) (some (.aload_n 0, 1)) none)) (cond (Nat.beq pc 63) (some (.ifCond .ne 12, 3)) none)) (cond (Nat.ble 59 pc) (cond (Nat.ble 62 pc) (cond (Nat.beq pc 62) (some (.iload_n 3, 1)) none) (cond (Nat.beq pc 59) (some (.goto (-15), 3)) none)) (cond (Nat.beq pc 56) (some (.iinc 4 1, 3)) none))) (cond (Nat.ble 50 pc) (cond (Nat.ble 51 pc) (cond (Nat.ble 54 pc) (cond (Nat.beq pc 54) (some (.istore 5, 2)) none) (cond (Nat.beq pc 51) (some (.invokevirtual 310, 3)) none)) (cond (Nat.beq pc 50) (some (.aload_n 0, 1)) none)) (cond (Nat.ble 46 pc) (cond (Nat.ble 47 pc) (cond (Nat.beq pc 47) (some (.if_icmp .ge 15, 3)) none) (cond (Nat.beq pc 46) (some (.iload_n 2, 1)) none)) (cond (Nat.beq pc 44) (some (.iload 4, 2)) none))))) (cond (Nat.ble 22 pc) (cond (Nat.ble 33 pc) (cond (Nat.ble 38 pc) (cond (Nat.ble 41 pc) (cond (Nat.ble 42 pc) (cond (Nat.beq pc 42) (some (.istore 4, 2)) none) (cond (Nat.beq pc 41) (some (.iconst 0, 1)) none)) (cond (Nat.beq pc 38) (some (.invokevirtual 314, 3)) none)) (cond (Nat.ble 36 pc) (cond (Nat.ble 37 pc) (cond (Nat.beq pc 37) (some (.aload_n 0, 1)) none) (cond (Nat.beq pc 36) (some (.ireturn, 1)) none)) (cond (Nat.beq pc 33) (some (.ldc_w 313, 3)) none))) (cond (Nat.ble 25 pc) (cond (Nat.ble 27 pc) (cond (Nat.ble 30 pc) (cond (Nat.beq pc 30) (some (.ifCond .ne 7, 3)) none) (cond (Nat.beq pc 27) (some (.invokevirtual 194, 3)) none)) (cond (Nat.beq pc 25) (some (.bipush 60, 2)) none)) (cond (Nat.ble 23 pc) (cond (Nat.ble 24 pc) (cond (Nat.beq pc 24) (some (.iconst 0, 1)) none) (cond (Nat.beq pc 23) (some (.iload_n 2, 1)) none)) (cond (Nat.beq pc 22) (some (.aload_n 0, 1)) none)))) (cond (Nat.ble 10 pc) (cond (Nat.ble 15 pc) (cond (Nat.ble 18 pc) (cond (Nat.ble 21 pc) (cond (Nat.beq pc 21) (some (.ireturn, 1)) none) (cond (Nat.beq pc 18) (some (.ldc_w 291, 3)) none)) (cond (Nat.beq pc 15) (some (.ifCond .ne 7, 3)) none)) (cond (Nat.ble 11 pc) (cond (Nat.ble 12 pc) (cond (Nat.beq pc 12) (some (.invokevirtual 194, 3)) none) (cond (Nat.beq pc 11) (some (.iconst 1, 1)) none)) (cond (Nat.beq pc 10) (some (.iconst 0, 1)) none))) (cond (Nat.ble 5 pc) (cond (Nat.ble 8 pc) (cond (Nat.ble 9 pc) (cond (Nat.beq pc 9) (some (.iload_n 3, 1)) none) (cond (Nat.beq pc 8) (some (.aload_n 0, 1)) none)) (cond (Nat.beq pc 5) (some (.ifCond .eq 13, 3)) none)) (cond (Nat.ble 1 pc) (cond (Nat.ble 2 pc) (cond (Nat.beq pc 2) (some (.invokevirtual 206, 3)) none) (cond (Nat.beq pc 1) (some (.iload_n 1, 1)) none)) (cond (Nat.beq pc 0) (some (.aload_n 0, 1)) none)))))
def m_X7_by : jM := (7, yX7_by, cX7_by, 6, (some .int), fun pc => cond (Nat.ble 90 pc) none (jt_X7_by pc))
set_option maxRecDepth 100000 in
theorem dk_X7_by : ∀ pc q, m_X7_by.2.2.2.2.2 pc = some q → decode cX7_by pc = .ok q := jk_sound (N := 90) (t := jt_X7_by) (by decide +kernel)
set_option maxRecDepth 100000 in
theorem ok_X7_by : jok m_X7_by := ⟨dk_X7_by, jG_in 1148 rfl rfl, jG_in 94 rfl rfl, by decide +kernel, by decide +kernel, by decide⟩
set_option maxRecDepth 100000 in
theorem vi_X7_by : jvirt m_X7_by := ⟨jG_in 1146 rfl rfl, jG_in 1147 rfl rfl⟩
def jt_X7_layYear : Nat → Option (Instr × Nat) := fun pc => cond (Nat.ble 33 pc) (cond (Nat.ble 48 pc) (cond (Nat.ble 52 pc) (cond (Nat.ble 58 pc) (cond (Nat.ble 59 pc) (cond (Nat.ble 62 pc) (cond (Nat.beq pc 62) (some (.return_, 1)) none) (cond (Nat.beq pc 59) (some (.invokevirtual 317, 3)) none)) (cond (Nat.beq pc 58) (some (.aload_n 0, 1)) none)) (cond (Nat.ble 55 pc) (cond (Nat.beq pc 55) (some (.goto (-30), 3)) none) (cond (Nat.beq pc 52) (some (.iinc 1 1, 3)) none))) (cond (Nat.ble 50 pc) (cond (Nat.ble 51 pc) (cond (Nat.beq pc 51) (some (.iastore, 1)) none) (cond (Nat.beq pc 50) (some (.isub, 1)) none)) (cond (Nat.ble 49 pc) (cond (Nat.beq pc 49) (some (.iaload, 1)) none) (cond (Nat.beq pc 48) (some (.iload_n 1, 1)) none)))) (cond (Nat.ble 39 pc) (cond (Nat.ble 43 pc) (cond (Nat.ble 44 pc) (cond (Nat.ble 45 pc) (cond (Nat.beq pc 45) (some (.getfield 102, 3)) none) (cond (Nat.beq pc 44) (some (.aload_n 0, 1)) none)) (cond (Nat.beq pc 43) (some (.iaload, 1)) none)) (cond (Nat.ble 42 pc) (cond (Nat.beq pc 42) (some (.iload_n 1, 1)) none) (cond (Nat.beq pc 39) (some (.getfield 32, 3)) none))) (cond (Nat.ble 37 pc) (cond (Nat.ble 38 pc) (cond (Nat.beq pc 38) (some (.aload_n 0, 1)) none) (cond (Nat.beq pc 37) (some (.iload_n 1, 1)) none)) (cond (Nat.ble 34 pc) (cond (Nat.beq pc 34) (some (.getfield 111, 3)) none) (cond (Nat.beq pc 33) (some (.aload_n 0, 1)) none))))) (cond (Nat.ble 16 pc) (cond (Nat.ble 24 pc) (cond (Nat.ble 26 pc) (cond (Nat.ble 27 pc) (cond (Nat.ble 30 pc) (cond (Nat.beq pc 30) (some (.if_icmp .ge 28, 3)) none) (cond (Nat.beq pc 27) (some (.getfield 7, 3)) none)) (cond (Nat.beq pc 26) (some (.aload_n 0, 1)) none)) (cond (Nat.ble 25 pc) (cond (Nat.beq pc 25) (some (.iload_n 1, 1)) none) (cond (Nat.beq pc 24) (some (.istore_n 1, 1)) none))) (cond (Nat.ble 20 pc) (cond (Nat.ble 23 pc) (cond (Nat.beq pc 23) (some (.iconst 0, 1)) none) (cond (Nat.beq pc 20) (some (.goto (-14), 3)) none)) (cond (Nat.ble 17 pc) (cond (Nat.beq pc 17) (some (.iinc 1 1, 3)) none) (cond (Nat.beq pc 16) (some (.istore_n 2, 1)) none)))) (cond (Nat.ble 6 pc) (cond (Nat.ble 9 pc) (cond (Nat.ble 12 pc) (cond (Nat.ble 13 pc) (cond (Nat.beq pc 13) (some (.invokevirtual 310, 3)) none) (cond (Nat.beq pc 12) (some (.aload_n 0, 1)) none)) (cond (Nat.beq pc 9) (some (.if_icmp .ge 14, 3)) none)) (cond (Nat.ble 7 pc) (cond (Nat.beq pc 7) (some (.bipush 12, 2)) none) (cond (Nat.beq pc 6) (some (.iload_n 1, 1)) none))) (cond (Nat.ble 4 pc) (cond (Nat.ble 5 pc) (cond (Nat.beq pc 5) (some (.istore_n 1, 1)) none) (cond (Nat.beq pc 4) (some (.iconst 0, 1)) none)) (cond (Nat.ble 1 pc) (cond (Nat.beq pc 1) (some (.invokevirtual 314, 3)) none) (cond (Nat.beq pc 0) (some (.aload_n 0, 1)) none)))))
def m_X7_layYear : jM := (7, yX7_layYear, cX7_layYear, 3, none, fun pc => cond (Nat.ble 63 pc) none (jt_X7_layYear pc))
set_option maxRecDepth 100000 in
theorem dk_X7_layYear : ∀ pc q, m_X7_layYear.2.2.2.2.2 pc = some q → decode cX7_layYear pc = .ok q := jk_sound (N := 63) (t := jt_X7_layYear) (by decide +kernel)
set_option maxRecDepth 100000 in
theorem ok_X7_layYear : jok m_X7_layYear := ⟨dk_X7_layYear, jG_in 1169 rfl rfl, jG_in 94 rfl rfl, by decide +kernel, by decide +kernel, by decide⟩
set_option maxRecDepth 100000 in
theorem vi_X7_layYear : jvirt m_X7_layYear := ⟨jG_in 1168 rfl rfl, jG_in 67 rfl rfl⟩
def jt_X7_yearOf : Nat → Option (Instr × Nat) := fun pc => cond (Nat.ble 5 pc) (cond (Nat.ble 9 pc) (cond (Nat.ble 10 pc) (cond (Nat.beq pc 10) (some (.ireturn, 1)) none) (cond (Nat.beq pc 9) (some (.iaload, 1)) none)) (cond (Nat.ble 8 pc) (cond (Nat.beq pc 8) (some (.iload_n 1, 1)) none) (cond (Nat.beq pc 5) (some (.getfield 111, 3)) none))) (cond (Nat.ble 1 pc) (cond (Nat.ble 4 pc) (cond (Nat.beq pc 4) (some (.aload_n 0, 1)) none) (cond (Nat.beq pc 1) (some (.invokevirtual 320, 3)) none)) (cond (Nat.beq pc 0) (some (.aload_n 0, 1)) none))
def m_X7_yearOf : jM := (7, yX7_yearOf, cX7_yearOf, 2, (some .int), fun pc => cond (Nat.ble 11 pc) none (jt_X7_yearOf pc))
set_option maxRecDepth 100000 in
theorem dk_X7_yearOf : ∀ pc q, m_X7_yearOf.2.2.2.2.2 pc = some q → decode cX7_yearOf pc = .ok q := jk_sound (N := 11) (t := jt_X7_yearOf) (by decide +kernel)
set_option maxRecDepth 100000 in
theorem ok_X7_yearOf : jok m_X7_yearOf := ⟨dk_X7_yearOf, jG_in 1165 rfl rfl, jG_in 94 rfl rfl, by decide +kernel, by decide +kernel, by decide⟩
set_option maxRecDepth 100000 in
theorem vi_X7_yearOf : jvirt m_X7_yearOf := ⟨jG_in 1164 rfl rfl, jG_in 66 rfl rfl⟩
def jt_X7_years : Nat → Option (Instr × Nat) := fun pc => cond (Nat.ble 9 pc) (cond (Nat.ble 13 pc) (cond (Nat.ble 16 pc) (cond (Nat.ble 19 pc) (cond (Nat.beq pc 19) (some (.ireturn, 1)) none) (cond (Nat.beq pc 16) (some (.ldc_w 291, 3)) none)) (cond (Nat.beq pc 13) (some (.goto 6, 3)) none)) (cond (Nat.ble 10 pc) (cond (Nat.beq pc 10) (some (.invokevirtual 323, 3)) none) (cond (Nat.beq pc 9) (some (.iload_n 1, 1)) none))) (cond (Nat.ble 2 pc) (cond (Nat.ble 5 pc) (cond (Nat.ble 8 pc) (cond (Nat.beq pc 8) (some (.aload_n 0, 1)) none) (cond (Nat.beq pc 5) (some (.ifCond .eq 11, 3)) none)) (cond (Nat.beq pc 2) (some (.invokevirtual 206, 3)) none)) (cond (Nat.ble 1 pc) (cond (Nat.beq pc 1) (some (.iload_n 1, 1)) none) (cond (Nat.beq pc 0) (some (.aload_n 0, 1)) none)))
def m_X7_years : jM := (7, yX7_years, cX7_years, 2, (some .int), fun pc => cond (Nat.ble 20 pc) none (jt_X7_years pc))
set_option maxRecDepth 100000 in
theorem dk_X7_years : ∀ pc q, m_X7_years.2.2.2.2.2 pc = some q → decode cX7_years pc = .ok q := jk_sound (N := 20) (t := jt_X7_years) (by decide +kernel)
set_option maxRecDepth 100000 in
theorem ok_X7_years : jok m_X7_years := ⟨dk_X7_years, jG_in 1161 rfl rfl, jG_in 94 rfl rfl, by decide +kernel, by decide +kernel, by decide⟩
set_option maxRecDepth 100000 in
theorem vi_X7_years : jvirt m_X7_years := ⟨jG_in 1159 rfl rfl, jG_in 1160 rfl rfl⟩
def jt_X7_layBest : Nat → Option (Instr × Nat) := fun pc => cond (Nat.ble 54 pc) (cond (Nat.ble 89 pc) (cond (Nat.ble 105 pc) (cond (Nat.ble 113 pc) (cond (Nat.ble 115 pc) (cond (Nat.ble 116 pc) (cond (Nat.beq pc 116) (some (.return_, 1)) none) (cond (Nat.beq pc 115) (some (.iastore, 1)) none)) (cond (Nat.ble 114 pc) (cond (Nat.beq pc 114) (some (.iload_n 3, 1)) none) (cond (Nat.beq pc 113) (some (.iload_n 1, 1)) none))) (cond (Nat.ble 109 pc) (cond (Nat.ble 110 pc) (cond (Nat.beq pc 110) (some (.getfield 29, 3)) none) (cond (Nat.beq pc 109) (some (.aload_n 0, 1)) none)) (cond (Nat.ble 106 pc) (cond (Nat.beq pc 106) (some (.goto 10, 3)) none) (cond (Nat.beq pc 105) (some (.iastore, 1)) none)))) (cond (Nat.ble 99 pc) (cond (Nat.ble 103 pc) (cond (Nat.ble 104 pc) (cond (Nat.beq pc 104) (some (.iload_n 3, 1)) none) (cond (Nat.beq pc 103) (some (.iload_n 1, 1)) none)) (cond (Nat.ble 100 pc) (cond (Nat.beq pc 100) (some (.getfield 26, 3)) none) (cond (Nat.beq pc 99) (some (.aload_n 0, 1)) none))) (cond (Nat.ble 95 pc) (cond (Nat.ble 96 pc) (cond (Nat.beq pc 96) (some (.ifCond .eq 13, 3)) none) (cond (Nat.beq pc 95) (some (.iload_n 2, 1)) none)) (cond (Nat.ble 92 pc) (cond (Nat.beq pc 92) (some (.goto (-69), 3)) none) (cond (Nat.beq pc 89) (some (.iinc 4 1, 3)) none))))) (cond (Nat.ble 71 pc) (cond (Nat.ble 80 pc) (cond (Nat.ble 84 pc) (cond (Nat.ble 86 pc) (cond (Nat.beq pc 86) (some (.putfield 117, 3)) none) (cond (Nat.beq pc 84) (some (.iload 5, 2)) none)) (cond (Nat.ble 83 pc) (cond (Nat.beq pc 83) (some (.aload_n 0, 1)) none) (cond (Nat.beq pc 80) (some (.putfield 114, 3)) none))) (cond (Nat.ble 77 pc) (cond (Nat.ble 78 pc) (cond (Nat.beq pc 78) (some (.iload 4, 2)) none) (cond (Nat.beq pc 77) (some (.aload_n 0, 1)) none)) (cond (Nat.ble 74 pc) (cond (Nat.beq pc 74) (some (.goto 15, 3)) none) (cond (Nat.beq pc 71) (some (.if_icmp .gt 6, 3)) none)))) (cond (Nat.ble 62 pc) (cond (Nat.ble 67 pc) (cond (Nat.ble 68 pc) (cond (Nat.beq pc 68) (some (.getfield 117, 3)) none) (cond (Nat.beq pc 67) (some (.aload_n 0, 1)) none)) (cond (Nat.ble 65 pc) (cond (Nat.beq pc 65) (some (.iload 5, 2)) none) (cond (Nat.beq pc 62) (some (.ifCond .le 15, 3)) none))) (cond (Nat.ble 58 pc) (cond (Nat.ble 60 pc) (cond (Nat.beq pc 60) (some (.iload 4, 2)) none) (cond (Nat.beq pc 58) (some (.istore 5, 2)) none)) (cond (Nat.ble 55 pc) (cond (Nat.beq pc 55) (some (.invokevirtual 323, 3)) none) (cond (Nat.beq pc 54) (some (.iload_n 1, 1)) none)))))) (cond (Nat.ble 25 pc) (cond (Nat.ble 41 pc) (cond (Nat.ble 49 pc) (cond (Nat.ble 52 pc) (cond (Nat.ble 53 pc) (cond (Nat.beq pc 53) (some (.aload_n 0, 1)) none) (cond (Nat.beq pc 52) (some (.iastore, 1)) none)) (cond (Nat.ble 50 pc) (cond (Nat.beq pc 50) (some (.iload 4, 2)) none) (cond (Nat.beq pc 49) (some (.iload_n 1, 1)) none))) (cond (Nat.ble 45 pc) (cond (Nat.ble 46 pc) (cond (Nat.beq pc 46) (some (.getfield 29, 3)) none) (cond (Nat.beq pc 45) (some (.aload_n 0, 1)) none)) (cond (Nat.ble 42 pc) (cond (Nat.beq pc 42) (some (.goto 11, 3)) none) (cond (Nat.beq pc 41) (some (.iastore, 1)) none)))) (cond (Nat.ble 34 pc) (cond (Nat.ble 38 pc) (cond (Nat.ble 39 pc) (cond (Nat.beq pc 39) (some (.iload 4, 2)) none) (cond (Nat.beq pc 38) (some (.iload_n 1, 1)) none)) (cond (Nat.ble 35 pc) (cond (Nat.beq pc 35) (some (.getfield 26, 3)) none) (cond (Nat.beq pc 34) (some (.aload_n 0, 1)) none))) (cond (Nat.ble 30 pc) (cond (Nat.ble 31 pc) (cond (Nat.beq pc 31) (some (.ifCond .eq 14, 3)) none) (cond (Nat.beq pc 30) (some (.iload_n 2, 1)) none)) (cond (Nat.ble 27 pc) (cond (Nat.beq pc 27) (some (.if_icmp .ge 68, 3)) none) (cond (Nat.beq pc 25) (some (.bipush 12, 2)) none))))) (cond (Nat.ble 13 pc) (cond (Nat.ble 19 pc) (cond (Nat.ble 21 pc) (cond (Nat.ble 23 pc) (cond (Nat.beq pc 23) (some (.iload 4, 2)) none) (cond (Nat.beq pc 21) (some (.istore 4, 2)) none)) (cond (Nat.ble 20 pc) (cond (Nat.beq pc 20) (some (.iconst 0, 1)) none) (cond (Nat.beq pc 19) (some (.istore_n 3, 1)) none))) (cond (Nat.ble 17 pc) (cond (Nat.ble 18 pc) (cond (Nat.beq pc 18) (some (.iaload, 1)) none) (cond (Nat.beq pc 17) (some (.iload_n 1, 1)) none)) (cond (Nat.ble 14 pc) (cond (Nat.beq pc 14) (some (.getfield 29, 3)) none) (cond (Nat.beq pc 13) (some (.aload_n 0, 1)) none)))) (cond (Nat.ble 5 pc) (cond (Nat.ble 9 pc) (cond (Nat.ble 10 pc) (cond (Nat.beq pc 10) (some (.goto 9, 3)) none) (cond (Nat.beq pc 9) (some (.iaload, 1)) none)) (cond (Nat.ble 8 pc) (cond (Nat.beq pc 8) (some (.iload_n 1, 1)) none) (cond (Nat.beq pc 5) (some (.getfield 26, 3)) none))) (cond (Nat.ble 1 pc) (cond (Nat.ble 4 pc) (cond (Nat.beq pc 4) (some (.aload_n 0, 1)) none) (cond (Nat.beq pc 1) (some (.ifCond .eq 12, 3)) none)) (cond (Nat.beq pc 0) (some (.iload_n 2, 1)) none)))))
def m_X7_layBest : jM := (7, yX7_layBest, cX7_layBest, 6, none, fun pc => cond (Nat.ble 117 pc) none (jt_X7_layBest pc))
set_option maxRecDepth 100000 in
theorem dk_X7_layBest : ∀ pc q, m_X7_layBest.2.2.2.2.2 pc = some q → decode cX7_layBest pc = .ok q := jk_sound (N := 117) (t := jt_X7_layBest) (by decide +kernel)
set_option maxRecDepth 100000 in
theorem ok_X7_layBest : jok m_X7_layBest := ⟨dk_X7_layBest, jG_in 1177 rfl rfl, jG_in 94 rfl rfl, by decide +kernel, by decide +kernel, by decide⟩
set_option maxRecDepth 100000 in
theorem vi_X7_layBest : jvirt m_X7_layBest := ⟨jG_in 1176 rfl rfl, jG_in 68 rfl rfl⟩
def jt_X7_birth : Nat → Option (Instr × Nat) := fun pc => cond (Nat.ble 22 pc) (cond (Nat.ble 32 pc) (cond (Nat.ble 39 pc) (cond (Nat.ble 40 pc) (cond (Nat.ble 43 pc) (cond (Nat.beq pc 43) (some (.ireturn, 1)) none) (cond (Nat.beq pc 40) (some (.getfield 117, 3)) none)) (cond (Nat.beq pc 39) (some (.aload_n 0, 1)) none)) (cond (Nat.ble 33 pc) (cond (Nat.ble 36 pc) (cond (Nat.beq pc 36) (some (.goto 7, 3)) none) (cond (Nat.beq pc 33) (some (.getfield 114, 3)) none)) (cond (Nat.beq pc 32) (some (.aload_n 0, 1)) none))) (cond (Nat.ble 25 pc) (cond (Nat.ble 28 pc) (cond (Nat.ble 29 pc) (cond (Nat.beq pc 29) (some (.ifCond .ne 10, 3)) none) (cond (Nat.beq pc 28) (some (.iload_n 2, 1)) none)) (cond (Nat.beq pc 25) (some (.invokevirtual 326, 3)) none)) (cond (Nat.ble 23 pc) (cond (Nat.ble 24 pc) (cond (Nat.beq pc 24) (some (.iconst 1, 1)) none) (cond (Nat.beq pc 23) (some (.iload_n 1, 1)) none)) (cond (Nat.beq pc 22) (some (.aload_n 0, 1)) none)))) (cond (Nat.ble 10 pc) (cond (Nat.ble 15 pc) (cond (Nat.ble 18 pc) (cond (Nat.ble 21 pc) (cond (Nat.beq pc 21) (some (.ireturn, 1)) none) (cond (Nat.beq pc 18) (some (.ldc_w 291, 3)) none)) (cond (Nat.beq pc 15) (some (.ifCond .ne 7, 3)) none)) (cond (Nat.ble 11 pc) (cond (Nat.ble 12 pc) (cond (Nat.beq pc 12) (some (.invokevirtual 194, 3)) none) (cond (Nat.beq pc 11) (some (.iconst 1, 1)) none)) (cond (Nat.beq pc 10) (some (.iconst 0, 1)) none))) (cond (Nat.ble 5 pc) (cond (Nat.ble 8 pc) (cond (Nat.ble 9 pc) (cond (Nat.beq pc 9) (some (.iload_n 2, 1)) none) (cond (Nat.beq pc 8) (some (.aload_n 0, 1)) none)) (cond (Nat.beq pc 5) (some (.ifCond .eq 13, 3)) none)) (cond (Nat.ble 1 pc) (cond (Nat.ble 2 pc) (cond (Nat.beq pc 2) (some (.invokevirtual 206, 3)) none) (cond (Nat.beq pc 1) (some (.iload_n 1, 1)) none)) (cond (Nat.beq pc 0) (some (.aload_n 0, 1)) none))))
def m_X7_birth : jM := (7, yX7_birth, cX7_birth, 3, (some .int), fun pc => cond (Nat.ble 44 pc) none (jt_X7_birth pc))
set_option maxRecDepth 100000 in
theorem dk_X7_birth : ∀ pc q, m_X7_birth.2.2.2.2.2 pc = some q → decode cX7_birth pc = .ok q := jk_sound (N := 44) (t := jt_X7_birth) (by decide +kernel)
set_option maxRecDepth 100000 in
theorem ok_X7_birth : jok m_X7_birth := ⟨dk_X7_birth, jG_in 1173 rfl rfl, jG_in 94 rfl rfl, by decide +kernel, by decide +kernel, by decide⟩
set_option maxRecDepth 100000 in
theorem vi_X7_birth : jvirt m_X7_birth := ⟨jG_in 1171 rfl rfl, jG_in 1172 rfl rfl⟩
def jt_X7_plan : Nat → Option (Instr × Nat) := fun pc => cond (Nat.ble 22 pc) (cond (Nat.ble 32 pc) (cond (Nat.ble 39 pc) (cond (Nat.ble 40 pc) (cond (Nat.ble 43 pc) (cond (Nat.beq pc 43) (some (.ireturn, 1)) none) (cond (Nat.beq pc 40) (some (.getfield 117, 3)) none)) (cond (Nat.beq pc 39) (some (.aload_n 0, 1)) none)) (cond (Nat.ble 33 pc) (cond (Nat.ble 36 pc) (cond (Nat.beq pc 36) (some (.goto 7, 3)) none) (cond (Nat.beq pc 33) (some (.getfield 114, 3)) none)) (cond (Nat.beq pc 32) (some (.aload_n 0, 1)) none))) (cond (Nat.ble 25 pc) (cond (Nat.ble 28 pc) (cond (Nat.ble 29 pc) (cond (Nat.beq pc 29) (some (.ifCond .ne 10, 3)) none) (cond (Nat.beq pc 28) (some (.iload_n 2, 1)) none)) (cond (Nat.beq pc 25) (some (.invokevirtual 326, 3)) none)) (cond (Nat.ble 23 pc) (cond (Nat.ble 24 pc) (cond (Nat.beq pc 24) (some (.iconst 0, 1)) none) (cond (Nat.beq pc 23) (some (.iload_n 1, 1)) none)) (cond (Nat.beq pc 22) (some (.aload_n 0, 1)) none)))) (cond (Nat.ble 10 pc) (cond (Nat.ble 15 pc) (cond (Nat.ble 18 pc) (cond (Nat.ble 21 pc) (cond (Nat.beq pc 21) (some (.ireturn, 1)) none) (cond (Nat.beq pc 18) (some (.ldc_w 291, 3)) none)) (cond (Nat.beq pc 15) (some (.ifCond .ne 7, 3)) none)) (cond (Nat.ble 11 pc) (cond (Nat.ble 12 pc) (cond (Nat.beq pc 12) (some (.invokevirtual 194, 3)) none) (cond (Nat.beq pc 11) (some (.iconst 1, 1)) none)) (cond (Nat.beq pc 10) (some (.iconst 0, 1)) none))) (cond (Nat.ble 5 pc) (cond (Nat.ble 8 pc) (cond (Nat.ble 9 pc) (cond (Nat.beq pc 9) (some (.iload_n 2, 1)) none) (cond (Nat.beq pc 8) (some (.aload_n 0, 1)) none)) (cond (Nat.beq pc 5) (some (.ifCond .eq 13, 3)) none)) (cond (Nat.ble 1 pc) (cond (Nat.ble 2 pc) (cond (Nat.beq pc 2) (some (.invokevirtual 206, 3)) none) (cond (Nat.beq pc 1) (some (.iload_n 1, 1)) none)) (cond (Nat.beq pc 0) (some (.aload_n 0, 1)) none))))
def m_X7_plan : jM := (7, yX7_plan, cX7_plan, 3, (some .int), fun pc => cond (Nat.ble 44 pc) none (jt_X7_plan pc))
set_option maxRecDepth 100000 in
theorem dk_X7_plan : ∀ pc q, m_X7_plan.2.2.2.2.2 pc = some q → decode cX7_plan pc = .ok q := jk_sound (N := 44) (t := jt_X7_plan) (by decide +kernel)
set_option maxRecDepth 100000 in
theorem ok_X7_plan : jok m_X7_plan := ⟨dk_X7_plan, jG_in 1181 rfl rfl, jG_in 94 rfl rfl, by decide +kernel, by decide +kernel, by decide⟩
set_option maxRecDepth 100000 in
theorem vi_X7_plan : jvirt m_X7_plan := ⟨jG_in 1179 rfl rfl, jG_in 1180 rfl rfl⟩
def jt_X7_quiet : Nat → Option (Instr × Nat) := fun pc => cond (Nat.ble 16 pc) (cond (Nat.ble 26 pc) (cond (Nat.ble 31 pc) (cond (Nat.ble 34 pc) (cond (Nat.ble 35 pc) (cond (Nat.beq pc 35) (some (.ireturn, 1)) none) (cond (Nat.beq pc 34) (some (.iload_n 1, 1)) none)) (cond (Nat.beq pc 31) (some (.goto (-27), 3)) none)) (cond (Nat.ble 27 pc) (cond (Nat.ble 28 pc) (cond (Nat.beq pc 28) (some (.iinc 2 1, 3)) none) (cond (Nat.beq pc 27) (some (.istore_n 1, 1)) none)) (cond (Nat.beq pc 26) (some (.ior, 1)) none))) (cond (Nat.ble 21 pc) (cond (Nat.ble 22 pc) (cond (Nat.ble 25 pc) (cond (Nat.beq pc 25) (some (.iconst 0, 1)) none) (cond (Nat.beq pc 22) (some (.goto 4, 3)) none)) (cond (Nat.beq pc 21) (some (.ishl, 1)) none)) (cond (Nat.ble 19 pc) (cond (Nat.ble 20 pc) (cond (Nat.beq pc 20) (some (.iload_n 2, 1)) none) (cond (Nat.beq pc 19) (some (.iconst 1, 1)) none)) (cond (Nat.beq pc 16) (some (.ifCond .ne 9, 3)) none)))) (cond (Nat.ble 5 pc) (cond (Nat.ble 11 pc) (cond (Nat.ble 12 pc) (cond (Nat.ble 13 pc) (cond (Nat.beq pc 13) (some (.invokevirtual 301, 3)) none) (cond (Nat.beq pc 12) (some (.iload_n 2, 1)) none)) (cond (Nat.beq pc 11) (some (.aload_n 0, 1)) none)) (cond (Nat.ble 7 pc) (cond (Nat.ble 10 pc) (cond (Nat.beq pc 10) (some (.iload_n 1, 1)) none) (cond (Nat.beq pc 7) (some (.if_icmp .ge 27, 3)) none)) (cond (Nat.beq pc 5) (some (.bipush 12, 2)) none))) (cond (Nat.ble 2 pc) (cond (Nat.ble 3 pc) (cond (Nat.ble 4 pc) (cond (Nat.beq pc 4) (some (.iload_n 2, 1)) none) (cond (Nat.beq pc 3) (some (.istore_n 2, 1)) none)) (cond (Nat.beq pc 2) (some (.iconst 0, 1)) none)) (cond (Nat.ble 1 pc) (cond (Nat.beq pc 1) (some (.istore_n 1, 1)) none) (cond (Nat.beq pc 0) (some (.iconst 0, 1)) none))))
def m_X7_quiet : jM := (7, yX7_quiet, cX7_quiet, 3, (some .int), fun pc => cond (Nat.ble 36 pc) none (jt_X7_quiet pc))
set_option maxRecDepth 100000 in
theorem dk_X7_quiet : ∀ pc q, m_X7_quiet.2.2.2.2.2 pc = some q → decode cX7_quiet pc = .ok q := jk_sound (N := 36) (t := jt_X7_quiet) (by decide +kernel)
set_option maxRecDepth 100000 in
theorem ok_X7_quiet : jok m_X7_quiet := ⟨dk_X7_quiet, jG_in 1185 rfl rfl, jG_in 94 rfl rfl, by decide +kernel, by decide +kernel, by decide⟩
set_option maxRecDepth 100000 in
theorem vi_X7_quiet : jvirt m_X7_quiet := ⟨jG_in 1183 rfl rfl, jG_in 1184 rfl rfl⟩
def jt_X7_foundling : Nat → Option (Instr × Nat) := fun pc => cond (Nat.ble 47 pc) (cond (Nat.ble 71 pc) (cond (Nat.ble 82 pc) (cond (Nat.ble 89 pc) (cond (Nat.ble 93 pc) (cond (Nat.ble 96 pc) (cond (Nat.beq pc 96) (some (.ireturn, 1)) none) (cond (Nat.beq pc 93) (some (.getfield 117, 3)) none)) (cond (Nat.ble 92 pc) (cond (Nat.beq pc 92) (some (.aload_n 0, 1)) none) (cond (Nat.beq pc 89) (some (.goto 7, 3)) none))) (cond (Nat.ble 85 pc) (cond (Nat.ble 86 pc) (cond (Nat.beq pc 86) (some (.getfield 114, 3)) none) (cond (Nat.beq pc 85) (some (.aload_n 0, 1)) none)) (cond (Nat.beq pc 82) (some (.ifCond .ne 10, 3)) none))) (cond (Nat.ble 76 pc) (cond (Nat.ble 78 pc) (cond (Nat.ble 81 pc) (cond (Nat.beq pc 81) (some (.iload_n 2, 1)) none) (cond (Nat.beq pc 78) (some (.putfield 7, 3)) none)) (cond (Nat.ble 77 pc) (cond (Nat.beq pc 77) (some (.isub, 1)) none) (cond (Nat.beq pc 76) (some (.iconst 1, 1)) none))) (cond (Nat.ble 72 pc) (cond (Nat.ble 73 pc) (cond (Nat.beq pc 73) (some (.getfield 7, 3)) none) (cond (Nat.beq pc 72) (some (.dup, 1)) none)) (cond (Nat.beq pc 71) (some (.aload_n 0, 1)) none)))) (cond (Nat.ble 60 pc) (cond (Nat.ble 65 pc) (cond (Nat.ble 67 pc) (cond (Nat.ble 68 pc) (cond (Nat.beq pc 68) (some (.invokevirtual 326, 3)) none) (cond (Nat.beq pc 67) (some (.iconst 1, 1)) none)) (cond (Nat.ble 66 pc) (cond (Nat.beq pc 66) (some (.isub, 1)) none) (cond (Nat.beq pc 65) (some (.iconst 1, 1)) none))) (cond (Nat.ble 61 pc) (cond (Nat.ble 62 pc) (cond (Nat.beq pc 62) (some (.getfield 7, 3)) none) (cond (Nat.beq pc 61) (some (.aload_n 0, 1)) none)) (cond (Nat.beq pc 60) (some (.aload_n 0, 1)) none))) (cond (Nat.ble 52 pc) (cond (Nat.ble 56 pc) (cond (Nat.ble 57 pc) (cond (Nat.beq pc 57) (some (.putfield 7, 3)) none) (cond (Nat.beq pc 56) (some (.iadd, 1)) none)) (cond (Nat.ble 55 pc) (cond (Nat.beq pc 55) (some (.iconst 1, 1)) none) (cond (Nat.beq pc 52) (some (.getfield 7, 3)) none))) (cond (Nat.ble 50 pc) (cond (Nat.ble 51 pc) (cond (Nat.beq pc 51) (some (.dup, 1)) none) (cond (Nat.beq pc 50) (some (.aload_n 0, 1)) none)) (cond (Nat.beq pc 47) (some (.invokevirtual 202, 3)) none))))) (cond (Nat.ble 25 pc) (cond (Nat.ble 38 pc) (cond (Nat.ble 43 pc) (cond (Nat.ble 45 pc) (cond (Nat.ble 46 pc) (cond (Nat.beq pc 46) (some (.iload_n 1, 1)) none) (cond (Nat.beq pc 45) (some (.iconst 0, 1)) none)) (cond (Nat.ble 44 pc) (cond (Nat.beq pc 44) (some (.iconst 0, 1)) none) (cond (Nat.beq pc 43) (some (.iconst 0, 1)) none))) (cond (Nat.ble 39 pc) (cond (Nat.ble 40 pc) (cond (Nat.beq pc 40) (some (.getfield 7, 3)) none) (cond (Nat.beq pc 39) (some (.aload_n 0, 1)) none)) (cond (Nat.beq pc 38) (some (.aload_n 0, 1)) none))) (cond (Nat.ble 30 pc) (cond (Nat.ble 35 pc) (cond (Nat.ble 37 pc) (cond (Nat.beq pc 37) (some (.ireturn, 1)) none) (cond (Nat.beq pc 35) (some (.bipush (-9), 2)) none)) (cond (Nat.ble 32 pc) (cond (Nat.beq pc 32) (some (.if_icmp .ne 6, 3)) none) (cond (Nat.beq pc 30) (some (.bipush 7, 2)) none))) (cond (Nat.ble 26 pc) (cond (Nat.ble 27 pc) (cond (Nat.beq pc 27) (some (.getfield 7, 3)) none) (cond (Nat.beq pc 26) (some (.aload_n 0, 1)) none)) (cond (Nat.beq pc 25) (some (.ireturn, 1)) none)))) (cond (Nat.ble 10 pc) (cond (Nat.ble 15 pc) (cond (Nat.ble 19 pc) (cond (Nat.ble 22 pc) (cond (Nat.beq pc 22) (some (.ldc_w 313, 3)) none) (cond (Nat.beq pc 19) (some (.ifCond .ne 7, 3)) none)) (cond (Nat.ble 16 pc) (cond (Nat.beq pc 16) (some (.invokevirtual 198, 3)) none) (cond (Nat.beq pc 15) (some (.iload_n 1, 1)) none))) (cond (Nat.ble 13 pc) (cond (Nat.ble 14 pc) (cond (Nat.beq pc 14) (some (.aload_n 0, 1)) none) (cond (Nat.beq pc 13) (some (.ireturn, 1)) none)) (cond (Nat.beq pc 10) (some (.ldc_w 291, 3)) none))) (cond (Nat.ble 3 pc) (cond (Nat.ble 4 pc) (cond (Nat.ble 7 pc) (cond (Nat.beq pc 7) (some (.ifCond .ne 7, 3)) none) (cond (Nat.beq pc 4) (some (.invokevirtual 194, 3)) none)) (cond (Nat.beq pc 3) (some (.iconst 1, 1)) none)) (cond (Nat.ble 1 pc) (cond (Nat.ble 2 pc) (cond (Nat.beq pc 2) (some (.iconst 0, 1)) none) (cond (Nat.beq pc 1) (some (.iload_n 2, 1)) none)) (cond (Nat.beq pc 0) (some (.aload_n 0, 1)) none)))))
def m_X7_foundling : jM := (7, yX7_foundling, cX7_foundling, 3, (some .int), fun pc => cond (Nat.ble 97 pc) none (jt_X7_foundling pc))
set_option maxRecDepth 100000 in
theorem dk_X7_foundling : ∀ pc q, m_X7_foundling.2.2.2.2.2 pc = some q → decode cX7_foundling pc = .ok q := jk_sound (N := 97) (t := jt_X7_foundling) (by decide +kernel)
set_option maxRecDepth 100000 in
theorem ok_X7_foundling : jok m_X7_foundling := ⟨dk_X7_foundling, jG_in 1189 rfl rfl, jG_in 94 rfl rfl, by decide +kernel, by decide +kernel, by decide⟩
set_option maxRecDepth 100000 in
theorem vi_X7_foundling : jvirt m_X7_foundling := ⟨jG_in 1187 rfl rfl, jG_in 1188 rfl rfl⟩
def jt_X7_forged : Nat → Option (Instr × Nat) := fun pc => cond (Nat.ble 55 pc) (cond (Nat.ble 82 pc) (cond (Nat.ble 98 pc) (cond (Nat.ble 105 pc) (cond (Nat.ble 111 pc) (cond (Nat.ble 112 pc) (cond (Nat.beq pc 112) (some (.ireturn, 1)) none) (cond (Nat.beq pc 111) (some (.iload_n 2, 1)) none)) (cond (Nat.ble 108 pc) (cond (Nat.beq pc 108) (some (.goto (-88), 3)) none) (cond (Nat.beq pc 105) (some (.iinc 3 1, 3)) none))) (cond (Nat.ble 102 pc) (cond (Nat.ble 104 pc) (cond (Nat.beq pc 104) (some (.iastore, 1)) none) (cond (Nat.beq pc 102) (some (.iload 4, 2)) none)) (cond (Nat.ble 101 pc) (cond (Nat.beq pc 101) (some (.iload_n 3, 1)) none) (cond (Nat.beq pc 98) (some (.getfield 26, 3)) none)))) (cond (Nat.ble 90 pc) (cond (Nat.ble 94 pc) (cond (Nat.ble 97 pc) (cond (Nat.beq pc 97) (some (.aload_n 0, 1)) none) (cond (Nat.beq pc 94) (some (.goto (-51), 3)) none)) (cond (Nat.ble 91 pc) (cond (Nat.beq pc 91) (some (.iinc 5 1, 3)) none) (cond (Nat.beq pc 90) (some (.istore_n 2, 1)) none))) (cond (Nat.ble 85 pc) (cond (Nat.ble 88 pc) (cond (Nat.beq pc 88) (some (.bipush (-5), 2)) none) (cond (Nat.beq pc 85) (some (.goto 5, 3)) none)) (cond (Nat.ble 84 pc) (cond (Nat.beq pc 84) (some (.iadd, 1)) none) (cond (Nat.beq pc 82) (some (.iload 5, 2)) none))))) (cond (Nat.ble 69 pc) (cond (Nat.ble 75 pc) (cond (Nat.ble 80 pc) (cond (Nat.ble 81 pc) (cond (Nat.beq pc 81) (some (.imul, 1)) none) (cond (Nat.beq pc 80) (some (.iload_n 3, 1)) none)) (cond (Nat.ble 78 pc) (cond (Nat.beq pc 78) (some (.bipush 100, 2)) none) (cond (Nat.beq pc 75) (some (.if_icmp .ne 13, 3)) none))) (cond (Nat.ble 71 pc) (cond (Nat.ble 74 pc) (cond (Nat.beq pc 74) (some (.iload_n 1, 1)) none) (cond (Nat.beq pc 71) (some (.invokevirtual 323, 3)) none)) (cond (Nat.ble 70 pc) (cond (Nat.beq pc 70) (some (.iload_n 3, 1)) none) (cond (Nat.beq pc 69) (some (.aload_n 0, 1)) none)))) (cond (Nat.ble 61 pc) (cond (Nat.ble 64 pc) (cond (Nat.ble 66 pc) (cond (Nat.beq pc 66) (some (.if_icmp .eq 22, 3)) none) (cond (Nat.beq pc 64) (some (.iload 4, 2)) none)) (cond (Nat.ble 62 pc) (cond (Nat.beq pc 62) (some (.iload 5, 2)) none) (cond (Nat.beq pc 61) (some (.iastore, 1)) none))) (cond (Nat.ble 58 pc) (cond (Nat.ble 59 pc) (cond (Nat.beq pc 59) (some (.iload 5, 2)) none) (cond (Nat.beq pc 58) (some (.iload_n 3, 1)) none)) (cond (Nat.beq pc 55) (some (.getfield 26, 3)) none))))) (cond (Nat.ble 25 pc) (cond (Nat.ble 40 pc) (cond (Nat.ble 47 pc) (cond (Nat.ble 51 pc) (cond (Nat.ble 54 pc) (cond (Nat.beq pc 54) (some (.aload_n 0, 1)) none) (cond (Nat.beq pc 51) (some (.ifCond .ge 46, 3)) none)) (cond (Nat.ble 50 pc) (cond (Nat.beq pc 50) (some (.iload_n 2, 1)) none) (cond (Nat.beq pc 47) (some (.if_icmp .ge 50, 3)) none))) (cond (Nat.ble 43 pc) (cond (Nat.ble 45 pc) (cond (Nat.beq pc 45) (some (.bipush 12, 2)) none) (cond (Nat.beq pc 43) (some (.iload 5, 2)) none)) (cond (Nat.ble 41 pc) (cond (Nat.beq pc 41) (some (.istore 5, 2)) none) (cond (Nat.beq pc 40) (some (.iconst 0, 1)) none)))) (cond (Nat.ble 33 pc) (cond (Nat.ble 37 pc) (cond (Nat.ble 38 pc) (cond (Nat.beq pc 38) (some (.istore 4, 2)) none) (cond (Nat.beq pc 37) (some (.iaload, 1)) none)) (cond (Nat.ble 36 pc) (cond (Nat.beq pc 36) (some (.iload_n 3, 1)) none) (cond (Nat.beq pc 33) (some (.getfield 26, 3)) none))) (cond (Nat.ble 29 pc) (cond (Nat.ble 32 pc) (cond (Nat.beq pc 32) (some (.aload_n 0, 1)) none) (cond (Nat.beq pc 29) (some (.ifCond .ge 82, 3)) none)) (cond (Nat.ble 28 pc) (cond (Nat.beq pc 28) (some (.iload_n 2, 1)) none) (cond (Nat.beq pc 25) (some (.if_icmp .ge 86, 3)) none))))) (cond (Nat.ble 14 pc) (cond (Nat.ble 19 pc) (cond (Nat.ble 21 pc) (cond (Nat.ble 22 pc) (cond (Nat.beq pc 22) (some (.getfield 7, 3)) none) (cond (Nat.beq pc 21) (some (.aload_n 0, 1)) none)) (cond (Nat.ble 20 pc) (cond (Nat.beq pc 20) (some (.iload_n 3, 1)) none) (cond (Nat.beq pc 19) (some (.istore_n 3, 1)) none))) (cond (Nat.ble 17 pc) (cond (Nat.ble 18 pc) (cond (Nat.beq pc 18) (some (.iconst 0, 1)) none) (cond (Nat.beq pc 17) (some (.istore_n 2, 1)) none)) (cond (Nat.ble 15 pc) (cond (Nat.beq pc 15) (some (.bipush (-5), 2)) none) (cond (Nat.beq pc 14) (some (.ireturn, 1)) none)))) (cond (Nat.ble 3 pc) (cond (Nat.ble 9 pc) (cond (Nat.ble 12 pc) (cond (Nat.beq pc 12) (some (.bipush (-2), 2)) none) (cond (Nat.beq pc 9) (some (.ifCond .ne 6, 3)) none)) (cond (Nat.ble 6 pc) (cond (Nat.beq pc 6) (some (.invokevirtual 194, 3)) none) (cond (Nat.beq pc 3) (some (.sipush 10000, 3)) none))) (cond (Nat.ble 1 pc) (cond (Nat.ble 2 pc) (cond (Nat.beq pc 2) (some (.iconst 0, 1)) none) (cond (Nat.beq pc 1) (some (.iload_n 1, 1)) none)) (cond (Nat.beq pc 0) (some (.aload_n 0, 1)) none)))))
def m_X7_forged : jM := (7, yX7_forged, cX7_forged, 6, (some .int), fun pc => cond (Nat.ble 113 pc) none (jt_X7_forged pc))
set_option maxRecDepth 100000 in
theorem dk_X7_forged : ∀ pc q, m_X7_forged.2.2.2.2.2 pc = some q → decode cX7_forged pc = .ok q := jk_sound (N := 113) (t := jt_X7_forged) (by decide +kernel)
set_option maxRecDepth 100000 in
theorem ok_X7_forged : jok m_X7_forged := ⟨dk_X7_forged, jG_in 1193 rfl rfl, jG_in 94 rfl rfl, by decide +kernel, by decide +kernel, by decide⟩
set_option maxRecDepth 100000 in
theorem vi_X7_forged : jvirt m_X7_forged := ⟨jG_in 1191 rfl rfl, jG_in 1192 rfl rfl⟩
def jt_X7_wouldChange : Nat → Option (Instr × Nat) := fun pc => cond (Nat.ble 12 pc) (cond (Nat.ble 20 pc) (cond (Nat.ble 24 pc) (cond (Nat.ble 25 pc) (cond (Nat.beq pc 25) (some (.ireturn, 1)) none) (cond (Nat.beq pc 24) (some (.iconst 0, 1)) none)) (cond (Nat.ble 21 pc) (cond (Nat.beq pc 21) (some (.goto 4, 3)) none) (cond (Nat.beq pc 20) (some (.iconst 1, 1)) none))) (cond (Nat.ble 16 pc) (cond (Nat.ble 17 pc) (cond (Nat.beq pc 17) (some (.if_icmp .le 7, 3)) none) (cond (Nat.beq pc 16) (some (.iload_n 2, 1)) none)) (cond (Nat.ble 13 pc) (cond (Nat.beq pc 13) (some (.getfield 117, 3)) none) (cond (Nat.beq pc 12) (some (.aload_n 0, 1)) none)))) (cond (Nat.ble 6 pc) (cond (Nat.ble 8 pc) (cond (Nat.ble 9 pc) (cond (Nat.beq pc 9) (some (.invokevirtual 326, 3)) none) (cond (Nat.beq pc 8) (some (.iconst 0, 1)) none)) (cond (Nat.ble 7 pc) (cond (Nat.beq pc 7) (some (.iload_n 1, 1)) none) (cond (Nat.beq pc 6) (some (.aload_n 0, 1)) none))) (cond (Nat.ble 2 pc) (cond (Nat.ble 5 pc) (cond (Nat.beq pc 5) (some (.istore_n 2, 1)) none) (cond (Nat.beq pc 2) (some (.invokevirtual 323, 3)) none)) (cond (Nat.ble 1 pc) (cond (Nat.beq pc 1) (some (.iload_n 1, 1)) none) (cond (Nat.beq pc 0) (some (.aload_n 0, 1)) none))))
def m_X7_wouldChange : jM := (7, yX7_wouldChange, cX7_wouldChange, 3, (some .boolean), fun pc => cond (Nat.ble 26 pc) none (jt_X7_wouldChange pc))
set_option maxRecDepth 100000 in
theorem dk_X7_wouldChange : ∀ pc q, m_X7_wouldChange.2.2.2.2.2 pc = some q → decode cX7_wouldChange pc = .ok q := jk_sound (N := 26) (t := jt_X7_wouldChange) (by decide +kernel)
set_option maxRecDepth 100000 in
theorem ok_X7_wouldChange : jok m_X7_wouldChange := ⟨dk_X7_wouldChange, jG_in 1201 rfl rfl, jG_in 94 rfl rfl, by decide +kernel, by decide +kernel, by decide⟩
set_option maxRecDepth 100000 in
theorem vi_X7_wouldChange : jvirt m_X7_wouldChange := ⟨jG_in 1200 rfl rfl, jG_in 69 rfl rfl⟩
def jt_X7_change : Nat → Option (Instr × Nat) := fun pc => cond (Nat.ble 13 pc) (cond (Nat.ble 20 pc) (cond (Nat.ble 24 pc) (cond (Nat.ble 25 pc) (cond (Nat.beq pc 25) (some (.ireturn, 1)) none) (cond (Nat.beq pc 24) (some (.iconst 0, 1)) none)) (cond (Nat.ble 21 pc) (cond (Nat.beq pc 21) (some (.goto 4, 3)) none) (cond (Nat.beq pc 20) (some (.iconst 1, 1)) none))) (cond (Nat.ble 14 pc) (cond (Nat.ble 17 pc) (cond (Nat.beq pc 17) (some (.ifCond .eq 7, 3)) none) (cond (Nat.beq pc 14) (some (.invokevirtual 330, 3)) none)) (cond (Nat.beq pc 13) (some (.iload_n 1, 1)) none))) (cond (Nat.ble 5 pc) (cond (Nat.ble 9 pc) (cond (Nat.ble 12 pc) (cond (Nat.beq pc 12) (some (.aload_n 0, 1)) none) (cond (Nat.beq pc 9) (some (.goto 16, 3)) none)) (cond (Nat.ble 8 pc) (cond (Nat.beq pc 8) (some (.iconst (-1), 1)) none) (cond (Nat.beq pc 5) (some (.ifCond .ne 7, 3)) none))) (cond (Nat.ble 1 pc) (cond (Nat.ble 2 pc) (cond (Nat.beq pc 2) (some (.invokevirtual 206, 3)) none) (cond (Nat.beq pc 1) (some (.iload_n 1, 1)) none)) (cond (Nat.beq pc 0) (some (.aload_n 0, 1)) none)))
def m_X7_change : jM := (7, yX7_change, cX7_change, 2, (some .int), fun pc => cond (Nat.ble 26 pc) none (jt_X7_change pc))
set_option maxRecDepth 100000 in
theorem dk_X7_change : ∀ pc q, m_X7_change.2.2.2.2.2 pc = some q → decode cX7_change pc = .ok q := jk_sound (N := 26) (t := jt_X7_change) (by decide +kernel)
set_option maxRecDepth 100000 in
theorem ok_X7_change : jok m_X7_change := ⟨dk_X7_change, jG_in 1197 rfl rfl, jG_in 94 rfl rfl, by decide +kernel, by decide +kernel, by decide⟩
set_option maxRecDepth 100000 in
theorem vi_X7_change : jvirt m_X7_change := ⟨jG_in 1195 rfl rfl, jG_in 1196 rfl rfl⟩
end
section
def jt_X7_layRest : Nat → Option (Instr × Nat) := fun pc => cond (Nat.ble 88 pc) (cond (Nat.ble 130 pc) (cond (Nat.ble 154 pc) (cond (Nat.ble 167 pc) (cond (Nat.ble 173 pc) (cond (Nat.ble 178 pc) (cond (Nat.ble 179 pc) (cond (Nat.beq pc 179) (some (.ireturn, 1)) none) (cond (Nat.beq pc 178) (some (.iload_n 1, 1)) none)) (cond (Nat.ble 175 pc) (cond (Nat.beq pc 175) (some (.goto 4, 3)) none) (cond (Nat.beq pc 173) (some (.bipush (-5), 2)) none))) (cond (Nat.ble 168 pc) (cond (Nat.ble 170 pc) (cond (Nat.beq pc 170) (some (.if_icmp .le 8, 3)) none) (cond (Nat.beq pc 168) (some (.bipush 8, 2)) none)) (cond (Nat.beq pc 167) (some (.iload_n 1, 1)) none))) (cond (Nat.ble 160 pc) (cond (Nat.ble 161 pc) (cond (Nat.ble 164 pc) (cond (Nat.beq pc 164) (some (.goto (-38), 3)) none) (cond (Nat.beq pc 161) (some (.iinc 4 1, 3)) none)) (cond (Nat.beq pc 160) (some (.iastore, 1)) none)) (cond (Nat.ble 157 pc) (cond (Nat.ble 159 pc) (cond (Nat.beq pc 159) (some (.iaload, 1)) none) (cond (Nat.beq pc 157) (some (.iload 4, 2)) none)) (cond (Nat.beq pc 154) (some (.getfield 120, 3)) none)))) (cond (Nat.ble 143 pc) (cond (Nat.ble 147 pc) (cond (Nat.ble 151 pc) (cond (Nat.ble 153 pc) (cond (Nat.beq pc 153) (some (.aload_n 0, 1)) none) (cond (Nat.beq pc 151) (some (.iload 4, 2)) none)) (cond (Nat.ble 148 pc) (cond (Nat.beq pc 148) (some (.getfield 29, 3)) none) (cond (Nat.beq pc 147) (some (.aload_n 0, 1)) none))) (cond (Nat.ble 145 pc) (cond (Nat.ble 146 pc) (cond (Nat.beq pc 146) (some (.iastore, 1)) none) (cond (Nat.beq pc 145) (some (.iaload, 1)) none)) (cond (Nat.beq pc 143) (some (.iload 4, 2)) none))) (cond (Nat.ble 137 pc) (cond (Nat.ble 139 pc) (cond (Nat.ble 140 pc) (cond (Nat.beq pc 140) (some (.getfield 29, 3)) none) (cond (Nat.beq pc 139) (some (.aload_n 0, 1)) none)) (cond (Nat.beq pc 137) (some (.iload 4, 2)) none)) (cond (Nat.ble 133 pc) (cond (Nat.ble 134 pc) (cond (Nat.beq pc 134) (some (.getfield 123, 3)) none) (cond (Nat.beq pc 133) (some (.aload_n 0, 1)) none)) (cond (Nat.beq pc 130) (some (.if_icmp .ge 37, 3)) none))))) (cond (Nat.ble 110 pc) (cond (Nat.ble 118 pc) (cond (Nat.ble 123 pc) (cond (Nat.ble 126 pc) (cond (Nat.ble 128 pc) (cond (Nat.beq pc 128) (some (.bipush 7, 2)) none) (cond (Nat.beq pc 126) (some (.iload 4, 2)) none)) (cond (Nat.ble 124 pc) (cond (Nat.beq pc 124) (some (.istore 4, 2)) none) (cond (Nat.beq pc 123) (some (.iconst 0, 1)) none))) (cond (Nat.ble 119 pc) (cond (Nat.ble 120 pc) (cond (Nat.beq pc 120) (some (.goto (-88), 3)) none) (cond (Nat.beq pc 119) (some (.istore_n 3, 1)) none)) (cond (Nat.beq pc 118) (some (.irem, 1)) none))) (cond (Nat.ble 113 pc) (cond (Nat.ble 114 pc) (cond (Nat.ble 115 pc) (cond (Nat.beq pc 115) (some (.getfield 7, 3)) none) (cond (Nat.beq pc 114) (some (.aload_n 0, 1)) none)) (cond (Nat.beq pc 113) (some (.iadd, 1)) none)) (cond (Nat.ble 111 pc) (cond (Nat.ble 112 pc) (cond (Nat.beq pc 112) (some (.iconst 1, 1)) none) (cond (Nat.beq pc 111) (some (.iload_n 3, 1)) none)) (cond (Nat.beq pc 110) (some (.istore_n 2, 1)) none)))) (cond (Nat.ble 98 pc) (cond (Nat.ble 104 pc) (cond (Nat.ble 108 pc) (cond (Nat.ble 109 pc) (cond (Nat.beq pc 109) (some (.iadd, 1)) none) (cond (Nat.beq pc 108) (some (.iconst 1, 1)) none)) (cond (Nat.ble 107 pc) (cond (Nat.beq pc 107) (some (.iload_n 2, 1)) none) (cond (Nat.beq pc 104) (some (.goto 6, 3)) none))) (cond (Nat.ble 100 pc) (cond (Nat.ble 103 pc) (cond (Nat.beq pc 103) (some (.iconst 0, 1)) none) (cond (Nat.beq pc 100) (some (.ifCond .eq 7, 3)) none)) (cond (Nat.beq pc 98) (some (.iload 4, 2)) none))) (cond (Nat.ble 95 pc) (cond (Nat.ble 96 pc) (cond (Nat.ble 97 pc) (cond (Nat.beq pc 97) (some (.istore_n 1, 1)) none) (cond (Nat.beq pc 96) (some (.iadd, 1)) none)) (cond (Nat.beq pc 95) (some (.iconst 0, 1)) none)) (cond (Nat.ble 91 pc) (cond (Nat.ble 92 pc) (cond (Nat.beq pc 92) (some (.goto 4, 3)) none) (cond (Nat.beq pc 91) (some (.iconst 1, 1)) none)) (cond (Nat.beq pc 88) (some (.ifCond .eq 7, 3)) none)))))) (cond (Nat.ble 40 pc) (cond (Nat.ble 64 pc) (cond (Nat.ble 76 pc) (cond (Nat.ble 81 pc) (cond (Nat.ble 85 pc) (cond (Nat.ble 86 pc) (cond (Nat.beq pc 86) (some (.iload 4, 2)) none) (cond (Nat.beq pc 85) (some (.iload_n 1, 1)) none)) (cond (Nat.ble 84 pc) (cond (Nat.beq pc 84) (some (.iastore, 1)) none) (cond (Nat.beq pc 81) (some (.getfield 114, 3)) none))) (cond (Nat.ble 79 pc) (cond (Nat.ble 80 pc) (cond (Nat.beq pc 80) (some (.aload_n 0, 1)) none) (cond (Nat.beq pc 79) (some (.iload_n 3, 1)) none)) (cond (Nat.beq pc 76) (some (.getfield 29, 3)) none))) (cond (Nat.ble 70 pc) (cond (Nat.ble 72 pc) (cond (Nat.ble 75 pc) (cond (Nat.beq pc 75) (some (.aload_n 0, 1)) none) (cond (Nat.beq pc 72) (some (.ifCond .eq 13, 3)) none)) (cond (Nat.beq pc 70) (some (.iload 4, 2)) none)) (cond (Nat.ble 67 pc) (cond (Nat.ble 68 pc) (cond (Nat.beq pc 68) (some (.istore 4, 2)) none) (cond (Nat.beq pc 67) (some (.iconst 0, 1)) none)) (cond (Nat.beq pc 64) (some (.goto 4, 3)) none)))) (cond (Nat.ble 51 pc) (cond (Nat.ble 56 pc) (cond (Nat.ble 60 pc) (cond (Nat.ble 63 pc) (cond (Nat.beq pc 63) (some (.iconst 1, 1)) none) (cond (Nat.beq pc 60) (some (.ifCond .eq 7, 3)) none)) (cond (Nat.ble 57 pc) (cond (Nat.beq pc 57) (some (.invokevirtual 330, 3)) none) (cond (Nat.beq pc 56) (some (.iload_n 3, 1)) none))) (cond (Nat.ble 52 pc) (cond (Nat.ble 55 pc) (cond (Nat.beq pc 55) (some (.aload_n 0, 1)) none) (cond (Nat.beq pc 52) (some (.ifCond .eq 15, 3)) none)) (cond (Nat.beq pc 51) (some (.baload, 1)) none))) (cond (Nat.ble 46 pc) (cond (Nat.ble 47 pc) (cond (Nat.ble 50 pc) (cond (Nat.beq pc 50) (some (.iload_n 3, 1)) none) (cond (Nat.beq pc 47) (some (.getfield 38, 3)) none)) (cond (Nat.beq pc 46) (some (.aload_n 0, 1)) none)) (cond (Nat.ble 41 pc) (cond (Nat.ble 43 pc) (cond (Nat.beq pc 43) (some (.if_icmp .ge 80, 3)) none) (cond (Nat.beq pc 41) (some (.bipush 9, 2)) none)) (cond (Nat.beq pc 40) (some (.iload_n 1, 1)) none))))) (cond (Nat.ble 19 pc) (cond (Nat.ble 29 pc) (cond (Nat.ble 32 pc) (cond (Nat.ble 34 pc) (cond (Nat.ble 37 pc) (cond (Nat.beq pc 37) (some (.if_icmp .ge 86, 3)) none) (cond (Nat.beq pc 34) (some (.getfield 7, 3)) none)) (cond (Nat.ble 33 pc) (cond (Nat.beq pc 33) (some (.aload_n 0, 1)) none) (cond (Nat.beq pc 32) (some (.iload_n 2, 1)) none))) (cond (Nat.ble 30 pc) (cond (Nat.ble 31 pc) (cond (Nat.beq pc 31) (some (.istore_n 3, 1)) none) (cond (Nat.beq pc 30) (some (.iconst 0, 1)) none)) (cond (Nat.beq pc 29) (some (.istore_n 2, 1)) none))) (cond (Nat.ble 26 pc) (cond (Nat.ble 27 pc) (cond (Nat.ble 28 pc) (cond (Nat.beq pc 28) (some (.iconst 0, 1)) none) (cond (Nat.beq pc 27) (some (.istore_n 1, 1)) none)) (cond (Nat.beq pc 26) (some (.iconst 0, 1)) none)) (cond (Nat.ble 20 pc) (cond (Nat.ble 23 pc) (cond (Nat.beq pc 23) (some (.goto (-21), 3)) none) (cond (Nat.beq pc 20) (some (.iinc 1 1, 3)) none)) (cond (Nat.beq pc 19) (some (.iastore, 1)) none)))) (cond (Nat.ble 9 pc) (cond (Nat.ble 14 pc) (cond (Nat.ble 17 pc) (cond (Nat.ble 18 pc) (cond (Nat.beq pc 18) (some (.iaload, 1)) none) (cond (Nat.beq pc 17) (some (.iload_n 1, 1)) none)) (cond (Nat.beq pc 14) (some (.getfield 29, 3)) none)) (cond (Nat.ble 12 pc) (cond (Nat.ble 13 pc) (cond (Nat.beq pc 13) (some (.aload_n 0, 1)) none) (cond (Nat.beq pc 12) (some (.iload_n 1, 1)) none)) (cond (Nat.beq pc 9) (some (.getfield 120, 3)) none))) (cond (Nat.ble 3 pc) (cond (Nat.ble 5 pc) (cond (Nat.ble 8 pc) (cond (Nat.beq pc 8) (some (.aload_n 0, 1)) none) (cond (Nat.beq pc 5) (some (.if_icmp .ge 21, 3)) none)) (cond (Nat.beq pc 3) (some (.bipush 7, 2)) none)) (cond (Nat.ble 1 pc) (cond (Nat.ble 2 pc) (cond (Nat.beq pc 2) (some (.iload_n 1, 1)) none) (cond (Nat.beq pc 1) (some (.istore_n 1, 1)) none)) (cond (Nat.beq pc 0) (some (.iconst 0, 1)) none))))))
def m_X7_layRest : jM := (7, yX7_layRest, cX7_layRest, 5, (some .int), fun pc => cond (Nat.ble 180 pc) none (jt_X7_layRest pc))
set_option maxRecDepth 100000 in
theorem dk_X7_layRest : ∀ pc q, m_X7_layRest.2.2.2.2.2 pc = some q → decode cX7_layRest pc = .ok q := jk_sound (N := 180) (t := jt_X7_layRest) (by decide +kernel)
set_option maxRecDepth 100000 in
theorem ok_X7_layRest : jok m_X7_layRest := ⟨dk_X7_layRest, jG_in 1209 rfl rfl, jG_in 94 rfl rfl, by decide +kernel, by decide +kernel, by decide⟩
set_option maxRecDepth 100000 in
theorem vi_X7_layRest : jvirt m_X7_layRest := ⟨jG_in 1208 rfl rfl, jG_in 70 rfl rfl⟩
def jt_X7_rest : Nat → Option (Instr × Nat) := fun pc => cond (Nat.ble 24 pc) (cond (Nat.ble 37 pc) (cond (Nat.ble 45 pc) (cond (Nat.ble 48 pc) (cond (Nat.ble 49 pc) (cond (Nat.beq pc 49) (some (.ireturn, 1)) none) (cond (Nat.beq pc 48) (some (.iaload, 1)) none)) (cond (Nat.ble 47 pc) (cond (Nat.beq pc 47) (some (.isub, 1)) none) (cond (Nat.beq pc 45) (some (.bipush 10, 2)) none))) (cond (Nat.ble 41 pc) (cond (Nat.ble 44 pc) (cond (Nat.beq pc 44) (some (.iload_n 1, 1)) none) (cond (Nat.beq pc 41) (some (.getfield 123, 3)) none)) (cond (Nat.ble 40 pc) (cond (Nat.beq pc 40) (some (.aload_n 0, 1)) none) (cond (Nat.beq pc 37) (some (.goto 12, 3)) none)))) (cond (Nat.ble 29 pc) (cond (Nat.ble 33 pc) (cond (Nat.ble 36 pc) (cond (Nat.beq pc 36) (some (.iload_n 2, 1)) none) (cond (Nat.beq pc 33) (some (.ifCond .ge 7, 3)) none)) (cond (Nat.ble 32 pc) (cond (Nat.beq pc 32) (some (.iload_n 2, 1)) none) (cond (Nat.beq pc 29) (some (.ifCond .eq 7, 3)) none))) (cond (Nat.ble 27 pc) (cond (Nat.ble 28 pc) (cond (Nat.beq pc 28) (some (.iload_n 1, 1)) none) (cond (Nat.beq pc 27) (some (.istore_n 2, 1)) none)) (cond (Nat.beq pc 24) (some (.invokevirtual 333, 3)) none)))) (cond (Nat.ble 11 pc) (cond (Nat.ble 18 pc) (cond (Nat.ble 22 pc) (cond (Nat.ble 23 pc) (cond (Nat.beq pc 23) (some (.aload_n 0, 1)) none) (cond (Nat.beq pc 22) (some (.ireturn, 1)) none)) (cond (Nat.ble 21 pc) (cond (Nat.beq pc 21) (some (.iconst (-1), 1)) none) (cond (Nat.beq pc 18) (some (.ifCond .ne 5, 3)) none))) (cond (Nat.ble 14 pc) (cond (Nat.ble 15 pc) (cond (Nat.beq pc 15) (some (.invokevirtual 194, 3)) none) (cond (Nat.beq pc 14) (some (.iadd, 1)) none)) (cond (Nat.beq pc 11) (some (.getfield 7, 3)) none))) (cond (Nat.ble 5 pc) (cond (Nat.ble 8 pc) (cond (Nat.ble 10 pc) (cond (Nat.beq pc 10) (some (.aload_n 0, 1)) none) (cond (Nat.beq pc 8) (some (.bipush 9, 2)) none)) (cond (Nat.ble 6 pc) (cond (Nat.beq pc 6) (some (.bipush 10, 2)) none) (cond (Nat.beq pc 5) (some (.iload_n 1, 1)) none))) (cond (Nat.ble 1 pc) (cond (Nat.ble 4 pc) (cond (Nat.beq pc 4) (some (.aload_n 0, 1)) none) (cond (Nat.beq pc 1) (some (.ifCond .eq 22, 3)) none)) (cond (Nat.beq pc 0) (some (.iload_n 1, 1)) none))))
def m_X7_rest : jM := (7, yX7_rest, cX7_rest, 3, (some .int), fun pc => cond (Nat.ble 50 pc) none (jt_X7_rest pc))
set_option maxRecDepth 100000 in
theorem dk_X7_rest : ∀ pc q, m_X7_rest.2.2.2.2.2 pc = some q → decode cX7_rest pc = .ok q := jk_sound (N := 50) (t := jt_X7_rest) (by decide +kernel)
set_option maxRecDepth 100000 in
theorem ok_X7_rest : jok m_X7_rest := ⟨dk_X7_rest, jG_in 1205 rfl rfl, jG_in 94 rfl rfl, by decide +kernel, by decide +kernel, by decide⟩
set_option maxRecDepth 100000 in
theorem vi_X7_rest : jvirt m_X7_rest := ⟨jG_in 1203 rfl rfl, jG_in 1204 rfl rfl⟩
def jt_X7_allMore : Nat → Option (Instr × Nat) := fun pc => cond (Nat.ble 22 pc) (cond (Nat.ble 35 pc) (cond (Nat.ble 38 pc) (cond (Nat.ble 44 pc) (cond (Nat.ble 45 pc) (cond (Nat.beq pc 45) (some (.ireturn, 1)) none) (cond (Nat.beq pc 44) (some (.iload_n 1, 1)) none)) (cond (Nat.ble 41 pc) (cond (Nat.beq pc 41) (some (.goto (-33), 3)) none) (cond (Nat.beq pc 38) (some (.iinc 2 1, 3)) none))) (cond (Nat.ble 36 pc) (cond (Nat.ble 37 pc) (cond (Nat.beq pc 37) (some (.istore_n 1, 1)) none) (cond (Nat.beq pc 36) (some (.iadd, 1)) none)) (cond (Nat.beq pc 35) (some (.iconst 0, 1)) none))) (cond (Nat.ble 27 pc) (cond (Nat.ble 31 pc) (cond (Nat.ble 32 pc) (cond (Nat.beq pc 32) (some (.goto 4, 3)) none) (cond (Nat.beq pc 31) (some (.iaload, 1)) none)) (cond (Nat.ble 30 pc) (cond (Nat.beq pc 30) (some (.iload_n 2, 1)) none) (cond (Nat.beq pc 27) (some (.getfield 111, 3)) none))) (cond (Nat.ble 23 pc) (cond (Nat.ble 26 pc) (cond (Nat.beq pc 26) (some (.aload_n 0, 1)) none) (cond (Nat.beq pc 23) (some (.ifCond .eq 12, 3)) none)) (cond (Nat.beq pc 22) (some (.baload, 1)) none)))) (cond (Nat.ble 9 pc) (cond (Nat.ble 16 pc) (cond (Nat.ble 18 pc) (cond (Nat.ble 21 pc) (cond (Nat.beq pc 21) (some (.iload_n 2, 1)) none) (cond (Nat.beq pc 18) (some (.getfield 38, 3)) none)) (cond (Nat.ble 17 pc) (cond (Nat.beq pc 17) (some (.aload_n 0, 1)) none) (cond (Nat.beq pc 16) (some (.iload_n 1, 1)) none))) (cond (Nat.ble 10 pc) (cond (Nat.ble 13 pc) (cond (Nat.beq pc 13) (some (.if_icmp .ge 31, 3)) none) (cond (Nat.beq pc 10) (some (.getfield 7, 3)) none)) (cond (Nat.beq pc 9) (some (.aload_n 0, 1)) none))) (cond (Nat.ble 5 pc) (cond (Nat.ble 7 pc) (cond (Nat.ble 8 pc) (cond (Nat.beq pc 8) (some (.iload_n 2, 1)) none) (cond (Nat.beq pc 7) (some (.istore_n 2, 1)) none)) (cond (Nat.ble 6 pc) (cond (Nat.beq pc 6) (some (.iconst 0, 1)) none) (cond (Nat.beq pc 5) (some (.istore_n 1, 1)) none))) (cond (Nat.ble 1 pc) (cond (Nat.ble 4 pc) (cond (Nat.beq pc 4) (some (.iconst 0, 1)) none) (cond (Nat.beq pc 1) (some (.invokevirtual 320, 3)) none)) (cond (Nat.beq pc 0) (some (.aload_n 0, 1)) none))))
def m_X7_allMore : jM := (7, yX7_allMore, cX7_allMore, 3, (some .int), fun pc => cond (Nat.ble 46 pc) none (jt_X7_allMore pc))
set_option maxRecDepth 100000 in
theorem dk_X7_allMore : ∀ pc q, m_X7_allMore.2.2.2.2.2 pc = some q → decode cX7_allMore pc = .ok q := jk_sound (N := 46) (t := jt_X7_allMore) (by decide +kernel)
set_option maxRecDepth 100000 in
theorem ok_X7_allMore : jok m_X7_allMore := ⟨dk_X7_allMore, jG_in 1217 rfl rfl, jG_in 94 rfl rfl, by decide +kernel, by decide +kernel, by decide⟩
set_option maxRecDepth 100000 in
theorem vi_X7_allMore : jvirt m_X7_allMore := ⟨jG_in 1216 rfl rfl, jG_in 71 rfl rfl⟩
def jt_X7_reckoning : Nat → Option (Instr × Nat) := fun pc => cond (Nat.ble 50 pc) (cond (Nat.ble 80 pc) (cond (Nat.ble 90 pc) (cond (Nat.ble 98 pc) (cond (Nat.ble 100 pc) (cond (Nat.ble 101 pc) (cond (Nat.beq pc 101) (some (.ireturn, 1)) none) (cond (Nat.beq pc 100) (some (.isub, 1)) none)) (cond (Nat.ble 99 pc) (cond (Nat.beq pc 99) (some (.iload_n 2, 1)) none) (cond (Nat.beq pc 98) (some (.iload_n 3, 1)) none))) (cond (Nat.ble 92 pc) (cond (Nat.ble 95 pc) (cond (Nat.beq pc 95) (some (.goto (-34), 3)) none) (cond (Nat.beq pc 92) (some (.iinc 4 1, 3)) none)) (cond (Nat.ble 91 pc) (cond (Nat.beq pc 91) (some (.iastore, 1)) none) (cond (Nat.beq pc 90) (some (.irem, 1)) none)))) (cond (Nat.ble 85 pc) (cond (Nat.ble 87 pc) (cond (Nat.ble 88 pc) (cond (Nat.beq pc 88) (some (.bipush 12, 2)) none) (cond (Nat.beq pc 87) (some (.isub, 1)) none)) (cond (Nat.ble 86 pc) (cond (Nat.beq pc 86) (some (.iload_n 1, 1)) none) (cond (Nat.beq pc 85) (some (.iadd, 1)) none))) (cond (Nat.ble 82 pc) (cond (Nat.ble 83 pc) (cond (Nat.beq pc 83) (some (.bipush 12, 2)) none) (cond (Nat.beq pc 82) (some (.iaload, 1)) none)) (cond (Nat.beq pc 80) (some (.iload 4, 2)) none)))) (cond (Nat.ble 63 pc) (cond (Nat.ble 71 pc) (cond (Nat.ble 76 pc) (cond (Nat.ble 77 pc) (cond (Nat.beq pc 77) (some (.getfield 29, 3)) none) (cond (Nat.beq pc 76) (some (.aload_n 0, 1)) none)) (cond (Nat.ble 74 pc) (cond (Nat.beq pc 74) (some (.iload 4, 2)) none) (cond (Nat.beq pc 71) (some (.getfield 29, 3)) none))) (cond (Nat.ble 67 pc) (cond (Nat.ble 70 pc) (cond (Nat.beq pc 70) (some (.aload_n 0, 1)) none) (cond (Nat.beq pc 67) (some (.if_icmp .ge 31, 3)) none)) (cond (Nat.ble 64 pc) (cond (Nat.beq pc 64) (some (.getfield 7, 3)) none) (cond (Nat.beq pc 63) (some (.aload_n 0, 1)) none)))) (cond (Nat.ble 57 pc) (cond (Nat.ble 59 pc) (cond (Nat.ble 61 pc) (cond (Nat.beq pc 61) (some (.iload 4, 2)) none) (cond (Nat.beq pc 59) (some (.istore 4, 2)) none)) (cond (Nat.ble 58 pc) (cond (Nat.beq pc 58) (some (.iconst 0, 1)) none) (cond (Nat.beq pc 57) (some (.istore_n 3, 1)) none))) (cond (Nat.ble 53 pc) (cond (Nat.ble 54 pc) (cond (Nat.beq pc 54) (some (.invokevirtual 336, 3)) none) (cond (Nat.beq pc 53) (some (.aload_n 0, 1)) none)) (cond (Nat.beq pc 50) (some (.goto (-28), 3)) none))))) (cond (Nat.ble 24 pc) (cond (Nat.ble 39 pc) (cond (Nat.ble 43 pc) (cond (Nat.ble 46 pc) (cond (Nat.ble 47 pc) (cond (Nat.beq pc 47) (some (.iinc 3 1, 3)) none) (cond (Nat.beq pc 46) (some (.iastore, 1)) none)) (cond (Nat.ble 45 pc) (cond (Nat.beq pc 45) (some (.irem, 1)) none) (cond (Nat.beq pc 43) (some (.bipush 12, 2)) none))) (cond (Nat.ble 41 pc) (cond (Nat.ble 42 pc) (cond (Nat.beq pc 42) (some (.iadd, 1)) none) (cond (Nat.beq pc 41) (some (.iload_n 1, 1)) none)) (cond (Nat.ble 40 pc) (cond (Nat.beq pc 40) (some (.iaload, 1)) none) (cond (Nat.beq pc 39) (some (.iload_n 3, 1)) none)))) (cond (Nat.ble 31 pc) (cond (Nat.ble 35 pc) (cond (Nat.ble 36 pc) (cond (Nat.beq pc 36) (some (.getfield 29, 3)) none) (cond (Nat.beq pc 35) (some (.aload_n 0, 1)) none)) (cond (Nat.ble 34 pc) (cond (Nat.beq pc 34) (some (.iload_n 3, 1)) none) (cond (Nat.beq pc 31) (some (.getfield 29, 3)) none))) (cond (Nat.ble 27 pc) (cond (Nat.ble 30 pc) (cond (Nat.beq pc 30) (some (.aload_n 0, 1)) none) (cond (Nat.beq pc 27) (some (.if_icmp .ge 26, 3)) none)) (cond (Nat.beq pc 24) (some (.getfield 7, 3)) none)))) (cond (Nat.ble 14 pc) (cond (Nat.ble 20 pc) (cond (Nat.ble 22 pc) (cond (Nat.ble 23 pc) (cond (Nat.beq pc 23) (some (.aload_n 0, 1)) none) (cond (Nat.beq pc 22) (some (.iload_n 3, 1)) none)) (cond (Nat.ble 21 pc) (cond (Nat.beq pc 21) (some (.istore_n 3, 1)) none) (cond (Nat.beq pc 20) (some (.iconst 0, 1)) none))) (cond (Nat.ble 16 pc) (cond (Nat.ble 19 pc) (cond (Nat.beq pc 19) (some (.istore_n 2, 1)) none) (cond (Nat.beq pc 16) (some (.invokevirtual 336, 3)) none)) (cond (Nat.ble 15 pc) (cond (Nat.beq pc 15) (some (.aload_n 0, 1)) none) (cond (Nat.beq pc 14) (some (.ireturn, 1)) none)))) (cond (Nat.ble 3 pc) (cond (Nat.ble 8 pc) (cond (Nat.ble 11 pc) (cond (Nat.beq pc 11) (some (.ldc_w 313, 3)) none) (cond (Nat.beq pc 8) (some (.ifCond .ne 7, 3)) none)) (cond (Nat.ble 5 pc) (cond (Nat.beq pc 5) (some (.invokevirtual 194, 3)) none) (cond (Nat.beq pc 3) (some (.bipush 11, 2)) none))) (cond (Nat.ble 1 pc) (cond (Nat.ble 2 pc) (cond (Nat.beq pc 2) (some (.iconst 0, 1)) none) (cond (Nat.beq pc 1) (some (.iload_n 1, 1)) none)) (cond (Nat.beq pc 0) (some (.aload_n 0, 1)) none)))))
def m_X7_reckoning : jM := (7, yX7_reckoning, cX7_reckoning, 5, (some .int), fun pc => cond (Nat.ble 102 pc) none (jt_X7_reckoning pc))
set_option maxRecDepth 100000 in
theorem dk_X7_reckoning : ∀ pc q, m_X7_reckoning.2.2.2.2.2 pc = some q → decode cX7_reckoning pc = .ok q := jk_sound (N := 102) (t := jt_X7_reckoning) (by decide +kernel)
set_option maxRecDepth 100000 in
theorem ok_X7_reckoning : jok m_X7_reckoning := ⟨dk_X7_reckoning, jG_in 1213 rfl rfl, jG_in 94 rfl rfl, by decide +kernel, by decide +kernel, by decide⟩
set_option maxRecDepth 100000 in
theorem vi_X7_reckoning : jvirt m_X7_reckoning := ⟨jG_in 1211 rfl rfl, jG_in 1212 rfl rfl⟩
def jt_X7_high : Nat → Option (Instr × Nat) := fun pc => cond (Nat.ble 26 pc) (cond (Nat.ble 42 pc) (cond (Nat.ble 51 pc) (cond (Nat.ble 53 pc) (cond (Nat.ble 56 pc) (cond (Nat.ble 57 pc) (cond (Nat.beq pc 57) (some (.ireturn, 1)) none) (cond (Nat.beq pc 56) (some (.iload_n 2, 1)) none)) (cond (Nat.beq pc 53) (some (.putfield 93, 3)) none)) (cond (Nat.ble 52 pc) (cond (Nat.beq pc 52) (some (.iconst (-1), 1)) none) (cond (Nat.beq pc 51) (some (.aload_n 0, 1)) none))) (cond (Nat.ble 45 pc) (cond (Nat.ble 48 pc) (cond (Nat.beq pc 48) (some (.goto (-33), 3)) none) (cond (Nat.beq pc 45) (some (.iinc 3 5, 3)) none)) (cond (Nat.ble 44 pc) (cond (Nat.beq pc 44) (some (.istore_n 2, 1)) none) (cond (Nat.beq pc 42) (some (.bipush (-5), 2)) none)))) (cond (Nat.ble 32 pc) (cond (Nat.ble 38 pc) (cond (Nat.ble 39 pc) (cond (Nat.beq pc 39) (some (.goto 5, 3)) none) (cond (Nat.beq pc 38) (some (.iload_n 3, 1)) none)) (cond (Nat.ble 35 pc) (cond (Nat.beq pc 35) (some (.ifCond .eq 7, 3)) none) (cond (Nat.beq pc 32) (some (.invokevirtual 330, 3)) none))) (cond (Nat.ble 30 pc) (cond (Nat.ble 31 pc) (cond (Nat.beq pc 31) (some (.iload_n 1, 1)) none) (cond (Nat.beq pc 30) (some (.aload_n 0, 1)) none)) (cond (Nat.ble 27 pc) (cond (Nat.beq pc 27) (some (.putfield 93, 3)) none) (cond (Nat.beq pc 26) (some (.iload_n 3, 1)) none))))) (cond (Nat.ble 13 pc) (cond (Nat.ble 18 pc) (cond (Nat.ble 22 pc) (cond (Nat.ble 25 pc) (cond (Nat.beq pc 25) (some (.aload_n 0, 1)) none) (cond (Nat.beq pc 22) (some (.ifCond .ge 29, 3)) none)) (cond (Nat.ble 21 pc) (cond (Nat.beq pc 21) (some (.iload_n 2, 1)) none) (cond (Nat.beq pc 18) (some (.if_icmp .ge 33, 3)) none))) (cond (Nat.ble 15 pc) (cond (Nat.ble 16 pc) (cond (Nat.beq pc 16) (some (.bipush 100, 2)) none) (cond (Nat.beq pc 15) (some (.iload_n 3, 1)) none)) (cond (Nat.ble 14 pc) (cond (Nat.beq pc 14) (some (.istore_n 3, 1)) none) (cond (Nat.beq pc 13) (some (.iconst 0, 1)) none)))) (cond (Nat.ble 8 pc) (cond (Nat.ble 10 pc) (cond (Nat.ble 12 pc) (cond (Nat.beq pc 12) (some (.istore_n 2, 1)) none) (cond (Nat.beq pc 10) (some (.bipush (-5), 2)) none)) (cond (Nat.ble 9 pc) (cond (Nat.beq pc 9) (some (.ireturn, 1)) none) (cond (Nat.beq pc 8) (some (.iconst (-1), 1)) none))) (cond (Nat.ble 2 pc) (cond (Nat.ble 5 pc) (cond (Nat.beq pc 5) (some (.ifCond .ne 5, 3)) none) (cond (Nat.beq pc 2) (some (.invokevirtual 206, 3)) none)) (cond (Nat.ble 1 pc) (cond (Nat.beq pc 1) (some (.iload_n 1, 1)) none) (cond (Nat.beq pc 0) (some (.aload_n 0, 1)) none)))))
def m_X7_high : jM := (7, yX7_high, cX7_high, 4, (some .int), fun pc => cond (Nat.ble 58 pc) none (jt_X7_high pc))
set_option maxRecDepth 100000 in
theorem dk_X7_high : ∀ pc q, m_X7_high.2.2.2.2.2 pc = some q → decode cX7_high pc = .ok q := jk_sound (N := 58) (t := jt_X7_high) (by decide +kernel)
set_option maxRecDepth 100000 in
theorem ok_X7_high : jok m_X7_high := ⟨dk_X7_high, jG_in 1221 rfl rfl, jG_in 94 rfl rfl, by decide +kernel, by decide +kernel, by decide⟩
set_option maxRecDepth 100000 in
theorem vi_X7_high : jvirt m_X7_high := ⟨jG_in 1219 rfl rfl, jG_in 1220 rfl rfl⟩
def jt_X7_othersMore : Nat → Option (Instr × Nat) := fun pc => cond (Nat.ble 14 pc) (cond (Nat.ble 20 pc) (cond (Nat.ble 22 pc) (cond (Nat.ble 25 pc) (cond (Nat.ble 26 pc) (cond (Nat.beq pc 26) (some (.ireturn, 1)) none) (cond (Nat.beq pc 25) (some (.iload_n 2, 1)) none)) (cond (Nat.beq pc 22) (some (.goto 4, 3)) none)) (cond (Nat.ble 21 pc) (cond (Nat.beq pc 21) (some (.isub, 1)) none) (cond (Nat.beq pc 20) (some (.iaload, 1)) none))) (cond (Nat.ble 16 pc) (cond (Nat.ble 19 pc) (cond (Nat.beq pc 19) (some (.iload_n 1, 1)) none) (cond (Nat.beq pc 16) (some (.getfield 111, 3)) none)) (cond (Nat.ble 15 pc) (cond (Nat.beq pc 15) (some (.aload_n 0, 1)) none) (cond (Nat.beq pc 14) (some (.iload_n 2, 1)) none)))) (cond (Nat.ble 6 pc) (cond (Nat.ble 10 pc) (cond (Nat.ble 11 pc) (cond (Nat.beq pc 11) (some (.ifCond .eq 14, 3)) none) (cond (Nat.beq pc 10) (some (.baload, 1)) none)) (cond (Nat.ble 9 pc) (cond (Nat.beq pc 9) (some (.iload_n 1, 1)) none) (cond (Nat.beq pc 6) (some (.getfield 38, 3)) none))) (cond (Nat.ble 4 pc) (cond (Nat.ble 5 pc) (cond (Nat.beq pc 5) (some (.aload_n 0, 1)) none) (cond (Nat.beq pc 4) (some (.istore_n 2, 1)) none)) (cond (Nat.ble 1 pc) (cond (Nat.beq pc 1) (some (.invokevirtual 336, 3)) none) (cond (Nat.beq pc 0) (some (.aload_n 0, 1)) none))))
def m_X7_othersMore : jM := (7, yX7_othersMore, cX7_othersMore, 3, (some .int), fun pc => cond (Nat.ble 27 pc) none (jt_X7_othersMore pc))
set_option maxRecDepth 100000 in
theorem dk_X7_othersMore : ∀ pc q, m_X7_othersMore.2.2.2.2.2 pc = some q → decode cX7_othersMore pc = .ok q := jk_sound (N := 27) (t := jt_X7_othersMore) (by decide +kernel)
set_option maxRecDepth 100000 in
theorem ok_X7_othersMore : jok m_X7_othersMore := ⟨dk_X7_othersMore, jG_in 1229 rfl rfl, jG_in 94 rfl rfl, by decide +kernel, by decide +kernel, by decide⟩
set_option maxRecDepth 100000 in
theorem vi_X7_othersMore : jvirt m_X7_othersMore := ⟨jG_in 1228 rfl rfl, jG_in 72 rfl rfl⟩
def jt_X7_last : Nat → Option (Instr × Nat) := fun pc => cond (Nat.ble 26 pc) (cond (Nat.ble 39 pc) (cond (Nat.ble 45 pc) (cond (Nat.ble 47 pc) (cond (Nat.ble 49 pc) (cond (Nat.ble 50 pc) (cond (Nat.beq pc 50) (some (.ireturn, 1)) none) (cond (Nat.beq pc 49) (some (.isub, 1)) none)) (cond (Nat.beq pc 47) (some (.iload 4, 2)) none)) (cond (Nat.ble 46 pc) (cond (Nat.beq pc 46) (some (.iload_n 2, 1)) none) (cond (Nat.beq pc 45) (some (.bastore, 1)) none))) (cond (Nat.ble 43 pc) (cond (Nat.ble 44 pc) (cond (Nat.beq pc 44) (some (.iload_n 3, 1)) none) (cond (Nat.beq pc 43) (some (.iload_n 1, 1)) none)) (cond (Nat.ble 40 pc) (cond (Nat.beq pc 40) (some (.getfield 38, 3)) none) (cond (Nat.beq pc 39) (some (.aload_n 0, 1)) none)))) (cond (Nat.ble 32 pc) (cond (Nat.ble 34 pc) (cond (Nat.ble 37 pc) (cond (Nat.beq pc 37) (some (.istore 4, 2)) none) (cond (Nat.beq pc 34) (some (.invokevirtual 339, 3)) none)) (cond (Nat.ble 33 pc) (cond (Nat.beq pc 33) (some (.iload_n 1, 1)) none) (cond (Nat.beq pc 32) (some (.aload_n 0, 1)) none))) (cond (Nat.ble 30 pc) (cond (Nat.ble 31 pc) (cond (Nat.beq pc 31) (some (.bastore, 1)) none) (cond (Nat.beq pc 30) (some (.iconst 0, 1)) none)) (cond (Nat.ble 29 pc) (cond (Nat.beq pc 29) (some (.iload_n 1, 1)) none) (cond (Nat.beq pc 26) (some (.getfield 38, 3)) none))))) (cond (Nat.ble 14 pc) (cond (Nat.ble 22 pc) (cond (Nat.ble 24 pc) (cond (Nat.ble 25 pc) (cond (Nat.beq pc 25) (some (.aload_n 0, 1)) none) (cond (Nat.beq pc 24) (some (.istore_n 3, 1)) none)) (cond (Nat.ble 23 pc) (cond (Nat.beq pc 23) (some (.baload, 1)) none) (cond (Nat.beq pc 22) (some (.iload_n 1, 1)) none))) (cond (Nat.ble 18 pc) (cond (Nat.ble 19 pc) (cond (Nat.beq pc 19) (some (.getfield 38, 3)) none) (cond (Nat.beq pc 18) (some (.aload_n 0, 1)) none)) (cond (Nat.ble 17 pc) (cond (Nat.beq pc 17) (some (.istore_n 2, 1)) none) (cond (Nat.beq pc 14) (some (.invokevirtual 339, 3)) none)))) (cond (Nat.ble 8 pc) (cond (Nat.ble 12 pc) (cond (Nat.ble 13 pc) (cond (Nat.beq pc 13) (some (.iload_n 1, 1)) none) (cond (Nat.beq pc 12) (some (.aload_n 0, 1)) none)) (cond (Nat.ble 11 pc) (cond (Nat.beq pc 11) (some (.ireturn, 1)) none) (cond (Nat.beq pc 8) (some (.ldc_w 291, 3)) none))) (cond (Nat.ble 2 pc) (cond (Nat.ble 5 pc) (cond (Nat.beq pc 5) (some (.ifCond .ne 7, 3)) none) (cond (Nat.beq pc 2) (some (.invokevirtual 206, 3)) none)) (cond (Nat.ble 1 pc) (cond (Nat.beq pc 1) (some (.iload_n 1, 1)) none) (cond (Nat.beq pc 0) (some (.aload_n 0, 1)) none)))))
def m_X7_last : jM := (7, yX7_last, cX7_last, 5, (some .int), fun pc => cond (Nat.ble 51 pc) none (jt_X7_last pc))
set_option maxRecDepth 100000 in
theorem dk_X7_last : ∀ pc q, m_X7_last.2.2.2.2.2 pc = some q → decode cX7_last pc = .ok q := jk_sound (N := 51) (t := jt_X7_last) (by decide +kernel)
set_option maxRecDepth 100000 in
theorem ok_X7_last : jok m_X7_last := ⟨dk_X7_last, jG_in 1225 rfl rfl, jG_in 94 rfl rfl, by decide +kernel, by decide +kernel, by decide⟩
set_option maxRecDepth 100000 in
theorem vi_X7_last : jvirt m_X7_last := ⟨jG_in 1223 rfl rfl, jG_in 1224 rfl rfl⟩
def jt_X7_divisor : Nat → Option (Instr × Nat) := fun pc => cond (Nat.ble 19 pc) (cond (Nat.ble 27 pc) (cond (Nat.ble 32 pc) (cond (Nat.ble 35 pc) (cond (Nat.ble 36 pc) (cond (Nat.beq pc 36) (some (.ireturn, 1)) none) (cond (Nat.beq pc 35) (some (.iload_n 3, 1)) none)) (cond (Nat.beq pc 32) (some (.goto (-18), 3)) none)) (cond (Nat.ble 28 pc) (cond (Nat.ble 30 pc) (cond (Nat.beq pc 30) (some (.istore 4, 2)) none) (cond (Nat.beq pc 28) (some (.iload 5, 2)) none)) (cond (Nat.beq pc 27) (some (.istore_n 3, 1)) none))) (cond (Nat.ble 22 pc) (cond (Nat.ble 23 pc) (cond (Nat.ble 25 pc) (cond (Nat.beq pc 25) (some (.iload 4, 2)) none) (cond (Nat.beq pc 23) (some (.istore 5, 2)) none)) (cond (Nat.beq pc 22) (some (.irem, 1)) none)) (cond (Nat.ble 20 pc) (cond (Nat.beq pc 20) (some (.iload 4, 2)) none) (cond (Nat.beq pc 19) (some (.iload_n 3, 1)) none)))) (cond (Nat.ble 9 pc) (cond (Nat.ble 12 pc) (cond (Nat.ble 14 pc) (cond (Nat.ble 16 pc) (cond (Nat.beq pc 16) (some (.ifCond .eq 19, 3)) none) (cond (Nat.beq pc 14) (some (.iload 4, 2)) none)) (cond (Nat.beq pc 12) (some (.istore 4, 2)) none)) (cond (Nat.ble 10 pc) (cond (Nat.ble 11 pc) (cond (Nat.beq pc 11) (some (.iload_n 2, 1)) none) (cond (Nat.beq pc 10) (some (.istore_n 3, 1)) none)) (cond (Nat.beq pc 9) (some (.iload_n 1, 1)) none))) (cond (Nat.ble 4 pc) (cond (Nat.ble 5 pc) (cond (Nat.ble 6 pc) (cond (Nat.beq pc 6) (some (.goto 4, 3)) none) (cond (Nat.beq pc 5) (some (.ineg, 1)) none)) (cond (Nat.beq pc 4) (some (.iload_n 1, 1)) none)) (cond (Nat.ble 1 pc) (cond (Nat.beq pc 1) (some (.ifCond .ge 8, 3)) none) (cond (Nat.beq pc 0) (some (.iload_n 1, 1)) none))))
def m_X7_divisor : jM := (7, yX7_divisor, cX7_divisor, 6, (some .int), fun pc => cond (Nat.ble 37 pc) none (jt_X7_divisor pc))
set_option maxRecDepth 100000 in
theorem dk_X7_divisor : ∀ pc q, m_X7_divisor.2.2.2.2.2 pc = some q → decode cX7_divisor pc = .ok q := jk_sound (N := 37) (t := jt_X7_divisor) (by decide +kernel)
set_option maxRecDepth 100000 in
theorem ok_X7_divisor : jok m_X7_divisor := ⟨dk_X7_divisor, jG_in 1246 rfl rfl, jG_in 94 rfl rfl, by decide +kernel, by decide +kernel, by decide⟩
set_option maxRecDepth 100000 in
theorem vi_X7_divisor : jvirt m_X7_divisor := ⟨jG_in 1245 rfl rfl, jG_in 75 rfl rfl⟩
def jt_X7_lowest : Nat → Option (Instr × Nat) := fun pc => cond (Nat.ble 13 pc) (cond (Nat.ble 20 pc) (cond (Nat.ble 23 pc) (cond (Nat.ble 24 pc) (cond (Nat.ble 25 pc) (cond (Nat.beq pc 25) (some (.lreturn, 1)) none) (cond (Nat.beq pc 24) (some (.i2l, 1)) none)) (cond (Nat.beq pc 23) (some (.idiv, 1)) none)) (cond (Nat.ble 21 pc) (cond (Nat.beq pc 21) (some (.iload 4, 2)) none) (cond (Nat.beq pc 20) (some (.iload_n 2, 1)) none))) (cond (Nat.ble 16 pc) (cond (Nat.ble 17 pc) (cond (Nat.beq pc 17) (some (.goto 8, 3)) none) (cond (Nat.beq pc 16) (some (.i2l, 1)) none)) (cond (Nat.ble 15 pc) (cond (Nat.beq pc 15) (some (.idiv, 1)) none) (cond (Nat.beq pc 13) (some (.iload 4, 2)) none)))) (cond (Nat.ble 6 pc) (cond (Nat.ble 9 pc) (cond (Nat.ble 12 pc) (cond (Nat.beq pc 12) (some (.iload_n 1, 1)) none) (cond (Nat.beq pc 9) (some (.ifCond .ne 11, 3)) none)) (cond (Nat.ble 8 pc) (cond (Nat.beq pc 8) (some (.iload_n 3, 1)) none) (cond (Nat.beq pc 6) (some (.istore 4, 2)) none))) (cond (Nat.ble 2 pc) (cond (Nat.ble 3 pc) (cond (Nat.beq pc 3) (some (.invokevirtual 342, 3)) none) (cond (Nat.beq pc 2) (some (.iload_n 2, 1)) none)) (cond (Nat.ble 1 pc) (cond (Nat.beq pc 1) (some (.iload_n 1, 1)) none) (cond (Nat.beq pc 0) (some (.aload_n 0, 1)) none))))
def m_X7_lowest : jM := (7, yX7_lowest, cX7_lowest, 5, (some .long), fun pc => cond (Nat.ble 26 pc) none (jt_X7_lowest pc))
set_option maxRecDepth 100000 in
theorem dk_X7_lowest : ∀ pc q, m_X7_lowest.2.2.2.2.2 pc = some q → decode cX7_lowest pc = .ok q := jk_sound (N := 26) (t := jt_X7_lowest) (by decide +kernel)
set_option maxRecDepth 100000 in
theorem ok_X7_lowest : jok m_X7_lowest := ⟨dk_X7_lowest, jG_in 1242 rfl rfl, jG_in 94 rfl rfl, by decide +kernel, by decide +kernel, by decide⟩
set_option maxRecDepth 100000 in
theorem vi_X7_lowest : jvirt m_X7_lowest := ⟨jG_in 1241 rfl rfl, jG_in 74 rfl rfl⟩
def jt_X7_yearIf : Nat → Option (Instr × Nat) := fun pc => cond (Nat.ble 14 pc) (cond (Nat.ble 22 pc) (cond (Nat.ble 27 pc) (cond (Nat.ble 28 pc) (cond (Nat.ble 30 pc) (cond (Nat.beq pc 30) (some (.ireturn, 1)) none) (cond (Nat.beq pc 28) (some (.iload 4, 2)) none)) (cond (Nat.beq pc 27) (some (.iastore, 1)) none)) (cond (Nat.ble 25 pc) (cond (Nat.ble 26 pc) (cond (Nat.beq pc 26) (some (.iload_n 3, 1)) none) (cond (Nat.beq pc 25) (some (.iload_n 1, 1)) none)) (cond (Nat.beq pc 22) (some (.getfield 26, 3)) none))) (cond (Nat.ble 16 pc) (cond (Nat.ble 19 pc) (cond (Nat.ble 21 pc) (cond (Nat.beq pc 21) (some (.aload_n 0, 1)) none) (cond (Nat.beq pc 19) (some (.istore 4, 2)) none)) (cond (Nat.beq pc 16) (some (.invokevirtual 323, 3)) none)) (cond (Nat.ble 15 pc) (cond (Nat.beq pc 15) (some (.iload_n 1, 1)) none) (cond (Nat.beq pc 14) (some (.aload_n 0, 1)) none)))) (cond (Nat.ble 7 pc) (cond (Nat.ble 11 pc) (cond (Nat.ble 12 pc) (cond (Nat.ble 13 pc) (cond (Nat.beq pc 13) (some (.iastore, 1)) none) (cond (Nat.beq pc 12) (some (.iload_n 2, 1)) none)) (cond (Nat.beq pc 11) (some (.iload_n 1, 1)) none)) (cond (Nat.ble 8 pc) (cond (Nat.beq pc 8) (some (.getfield 26, 3)) none) (cond (Nat.beq pc 7) (some (.aload_n 0, 1)) none))) (cond (Nat.ble 4 pc) (cond (Nat.ble 5 pc) (cond (Nat.ble 6 pc) (cond (Nat.beq pc 6) (some (.istore_n 3, 1)) none) (cond (Nat.beq pc 5) (some (.iaload, 1)) none)) (cond (Nat.beq pc 4) (some (.iload_n 1, 1)) none)) (cond (Nat.ble 1 pc) (cond (Nat.beq pc 1) (some (.getfield 26, 3)) none) (cond (Nat.beq pc 0) (some (.aload_n 0, 1)) none))))
def m_X7_yearIf : jM := (7, yX7_yearIf, cX7_yearIf, 5, (some .int), fun pc => cond (Nat.ble 31 pc) none (jt_X7_yearIf pc))
set_option maxRecDepth 100000 in
theorem dk_X7_yearIf : ∀ pc q, m_X7_yearIf.2.2.2.2.2 pc = some q → decode cX7_yearIf pc = .ok q := jk_sound (N := 31) (t := jt_X7_yearIf) (by decide +kernel)
set_option maxRecDepth 100000 in
theorem ok_X7_yearIf : jok m_X7_yearIf := ⟨dk_X7_yearIf, jG_in 1238 rfl rfl, jG_in 94 rfl rfl, by decide +kernel, by decide +kernel, by decide⟩
set_option maxRecDepth 100000 in
theorem vi_X7_yearIf : jvirt m_X7_yearIf := ⟨jG_in 1237 rfl rfl, jG_in 73 rfl rfl⟩
def jt_X7_odds : Nat → Option (Instr × Nat) := fun pc => cond (Nat.ble 42 pc) (cond (Nat.ble 66 pc) (cond (Nat.ble 79 pc) (cond (Nat.ble 84 pc) (cond (Nat.ble 85 pc) (cond (Nat.ble 88 pc) (cond (Nat.beq pc 88) (some (.lreturn, 1)) none) (cond (Nat.beq pc 85) (some (.invokevirtual 350, 3)) none)) (cond (Nat.beq pc 84) (some (.iload_n 3, 1)) none)) (cond (Nat.ble 80 pc) (cond (Nat.ble 82 pc) (cond (Nat.beq pc 82) (some (.bipush 12, 2)) none) (cond (Nat.beq pc 80) (some (.iload 5, 2)) none)) (cond (Nat.beq pc 79) (some (.aload_n 0, 1)) none))) (cond (Nat.ble 71 pc) (cond (Nat.ble 73 pc) (cond (Nat.ble 76 pc) (cond (Nat.beq pc 76) (some (.goto (-32), 3)) none) (cond (Nat.beq pc 73) (some (.iinc 6 1, 3)) none)) (cond (Nat.beq pc 71) (some (.istore 5, 2)) none)) (cond (Nat.ble 69 pc) (cond (Nat.ble 70 pc) (cond (Nat.beq pc 70) (some (.iadd, 1)) none) (cond (Nat.beq pc 69) (some (.iconst 0, 1)) none)) (cond (Nat.beq pc 66) (some (.goto 4, 3)) none)))) (cond (Nat.ble 54 pc) (cond (Nat.ble 60 pc) (cond (Nat.ble 62 pc) (cond (Nat.ble 65 pc) (cond (Nat.beq pc 65) (some (.iconst 1, 1)) none) (cond (Nat.beq pc 62) (some (.if_icmp .lt 7, 3)) none)) (cond (Nat.beq pc 60) (some (.iload 4, 2)) none)) (cond (Nat.ble 55 pc) (cond (Nat.ble 57 pc) (cond (Nat.beq pc 57) (some (.invokevirtual 347, 3)) none) (cond (Nat.beq pc 55) (some (.iload 6, 2)) none)) (cond (Nat.beq pc 54) (some (.iload_n 1, 1)) none))) (cond (Nat.ble 48 pc) (cond (Nat.ble 51 pc) (cond (Nat.ble 53 pc) (cond (Nat.beq pc 53) (some (.aload_n 0, 1)) none) (cond (Nat.beq pc 51) (some (.iload 5, 2)) none)) (cond (Nat.beq pc 48) (some (.if_icmp .ge 31, 3)) none)) (cond (Nat.ble 44 pc) (cond (Nat.ble 46 pc) (cond (Nat.beq pc 46) (some (.bipush 12, 2)) none) (cond (Nat.beq pc 44) (some (.iload 6, 2)) none)) (cond (Nat.beq pc 42) (some (.istore 6, 2)) none))))) (cond (Nat.ble 20 pc) (cond (Nat.ble 32 pc) (cond (Nat.ble 38 pc) (cond (Nat.ble 39 pc) (cond (Nat.ble 41 pc) (cond (Nat.beq pc 41) (some (.iconst 0, 1)) none) (cond (Nat.beq pc 39) (some (.istore 5, 2)) none)) (cond (Nat.beq pc 38) (some (.iconst 0, 1)) none)) (cond (Nat.ble 33 pc) (cond (Nat.ble 36 pc) (cond (Nat.beq pc 36) (some (.istore 4, 2)) none) (cond (Nat.beq pc 33) (some (.invokevirtual 347, 3)) none)) (cond (Nat.beq pc 32) (some (.iload_n 2, 1)) none))) (cond (Nat.ble 29 pc) (cond (Nat.ble 30 pc) (cond (Nat.ble 31 pc) (cond (Nat.beq pc 31) (some (.iload_n 1, 1)) none) (cond (Nat.beq pc 30) (some (.aload_n 0, 1)) none)) (cond (Nat.beq pc 29) (some (.lreturn, 1)) none)) (cond (Nat.ble 23 pc) (cond (Nat.ble 26 pc) (cond (Nat.beq pc 26) (some (.ldc2_w 345, 3)) none) (cond (Nat.beq pc 23) (some (.ifCond .ne 7, 3)) none)) (cond (Nat.beq pc 20) (some (.invokevirtual 194, 3)) none)))) (cond (Nat.ble 10 pc) (cond (Nat.ble 17 pc) (cond (Nat.ble 18 pc) (cond (Nat.ble 19 pc) (cond (Nat.beq pc 19) (some (.iconst 1, 1)) none) (cond (Nat.beq pc 18) (some (.iconst 0, 1)) none)) (cond (Nat.beq pc 17) (some (.iload_n 3, 1)) none)) (cond (Nat.ble 13 pc) (cond (Nat.ble 16 pc) (cond (Nat.beq pc 16) (some (.aload_n 0, 1)) none) (cond (Nat.beq pc 13) (some (.ifCond .eq 13, 3)) none)) (cond (Nat.beq pc 10) (some (.invokevirtual 198, 3)) none))) (cond (Nat.ble 5 pc) (cond (Nat.ble 8 pc) (cond (Nat.ble 9 pc) (cond (Nat.beq pc 9) (some (.iload_n 2, 1)) none) (cond (Nat.beq pc 8) (some (.aload_n 0, 1)) none)) (cond (Nat.beq pc 5) (some (.ifCond .eq 21, 3)) none)) (cond (Nat.ble 1 pc) (cond (Nat.ble 2 pc) (cond (Nat.beq pc 2) (some (.invokevirtual 206, 3)) none) (cond (Nat.beq pc 1) (some (.iload_n 1, 1)) none)) (cond (Nat.beq pc 0) (some (.aload_n 0, 1)) none)))))
def m_X7_odds : jM := (7, yX7_odds, cX7_odds, 7, (some .long), fun pc => cond (Nat.ble 89 pc) none (jt_X7_odds pc))
set_option maxRecDepth 100000 in
theorem dk_X7_odds : ∀ pc q, m_X7_odds.2.2.2.2.2 pc = some q → decode cX7_odds pc = .ok q := jk_sound (N := 89) (t := jt_X7_odds) (by decide +kernel)
set_option maxRecDepth 100000 in
theorem ok_X7_odds : jok m_X7_odds := ⟨dk_X7_odds, jG_in 1233 rfl rfl, jG_in 94 rfl rfl, by decide +kernel, by decide +kernel, by decide⟩
set_option maxRecDepth 100000 in
theorem vi_X7_odds : jvirt m_X7_odds := ⟨jG_in 1231 rfl rfl, jG_in 1232 rfl rfl⟩
def jt_X7_mean : Nat → Option (Instr × Nat) := fun pc => cond (Nat.ble 32 pc) (cond (Nat.ble 50 pc) (cond (Nat.ble 61 pc) (cond (Nat.ble 65 pc) (cond (Nat.ble 66 pc) (cond (Nat.ble 69 pc) (cond (Nat.beq pc 69) (some (.lreturn, 1)) none) (cond (Nat.beq pc 66) (some (.invokevirtual 350, 3)) none)) (cond (Nat.beq pc 65) (some (.iload_n 1, 1)) none)) (cond (Nat.ble 64 pc) (cond (Nat.beq pc 64) (some (.iload_n 2, 1)) none) (cond (Nat.beq pc 61) (some (.invokevirtual 336, 3)) none))) (cond (Nat.ble 56 pc) (cond (Nat.ble 59 pc) (cond (Nat.ble 60 pc) (cond (Nat.beq pc 60) (some (.aload_n 0, 1)) none) (cond (Nat.beq pc 59) (some (.aload_n 0, 1)) none)) (cond (Nat.beq pc 56) (some (.goto 13, 3)) none)) (cond (Nat.ble 53 pc) (cond (Nat.beq pc 53) (some (.ldc2_w 345, 3)) none) (cond (Nat.beq pc 50) (some (.ifCond .ne 9, 3)) none)))) (cond (Nat.ble 41 pc) (cond (Nat.ble 43 pc) (cond (Nat.ble 46 pc) (cond (Nat.ble 49 pc) (cond (Nat.beq pc 49) (some (.iload_n 2, 1)) none) (cond (Nat.beq pc 46) (some (.goto (-28), 3)) none)) (cond (Nat.beq pc 43) (some (.iinc 3 1, 3)) none)) (cond (Nat.ble 42 pc) (cond (Nat.beq pc 42) (some (.istore_n 2, 1)) none) (cond (Nat.beq pc 41) (some (.iadd, 1)) none))) (cond (Nat.ble 36 pc) (cond (Nat.ble 37 pc) (cond (Nat.ble 40 pc) (cond (Nat.beq pc 40) (some (.iconst 0, 1)) none) (cond (Nat.beq pc 37) (some (.goto 4, 3)) none)) (cond (Nat.beq pc 36) (some (.iconst 1, 1)) none)) (cond (Nat.ble 33 pc) (cond (Nat.beq pc 33) (some (.ifCond .eq 7, 3)) none) (cond (Nat.beq pc 32) (some (.baload, 1)) none))))) (cond (Nat.ble 16 pc) (cond (Nat.ble 23 pc) (cond (Nat.ble 27 pc) (cond (Nat.ble 28 pc) (cond (Nat.ble 31 pc) (cond (Nat.beq pc 31) (some (.iload_n 3, 1)) none) (cond (Nat.beq pc 28) (some (.getfield 38, 3)) none)) (cond (Nat.beq pc 27) (some (.aload_n 0, 1)) none)) (cond (Nat.ble 26 pc) (cond (Nat.beq pc 26) (some (.iload_n 2, 1)) none) (cond (Nat.beq pc 23) (some (.if_icmp .ge 26, 3)) none))) (cond (Nat.ble 18 pc) (cond (Nat.ble 19 pc) (cond (Nat.ble 20 pc) (cond (Nat.beq pc 20) (some (.getfield 7, 3)) none) (cond (Nat.beq pc 19) (some (.aload_n 0, 1)) none)) (cond (Nat.beq pc 18) (some (.iload_n 3, 1)) none)) (cond (Nat.ble 17 pc) (cond (Nat.beq pc 17) (some (.istore_n 3, 1)) none) (cond (Nat.beq pc 16) (some (.iconst 0, 1)) none)))) (cond (Nat.ble 7 pc) (cond (Nat.ble 13 pc) (cond (Nat.ble 14 pc) (cond (Nat.ble 15 pc) (cond (Nat.beq pc 15) (some (.istore_n 2, 1)) none) (cond (Nat.beq pc 14) (some (.iconst 0, 1)) none)) (cond (Nat.beq pc 13) (some (.lreturn, 1)) none)) (cond (Nat.ble 10 pc) (cond (Nat.beq pc 10) (some (.ldc2_w 345, 3)) none) (cond (Nat.beq pc 7) (some (.ifCond .ne 7, 3)) none))) (cond (Nat.ble 2 pc) (cond (Nat.ble 3 pc) (cond (Nat.ble 4 pc) (cond (Nat.beq pc 4) (some (.invokevirtual 194, 3)) none) (cond (Nat.beq pc 3) (some (.iconst 1, 1)) none)) (cond (Nat.beq pc 2) (some (.iconst 0, 1)) none)) (cond (Nat.ble 1 pc) (cond (Nat.beq pc 1) (some (.iload_n 1, 1)) none) (cond (Nat.beq pc 0) (some (.aload_n 0, 1)) none)))))
def m_X7_mean : jM := (7, yX7_mean, cX7_mean, 4, (some .long), fun pc => cond (Nat.ble 70 pc) none (jt_X7_mean pc))
set_option maxRecDepth 100000 in
theorem dk_X7_mean : ∀ pc q, m_X7_mean.2.2.2.2.2 pc = some q → decode cX7_mean pc = .ok q := jk_sound (N := 70) (t := jt_X7_mean) (by decide +kernel)
set_option maxRecDepth 100000 in
theorem ok_X7_mean : jok m_X7_mean := ⟨dk_X7_mean, jG_in 1250 rfl rfl, jG_in 94 rfl rfl, by decide +kernel, by decide +kernel, by decide⟩
set_option maxRecDepth 100000 in
theorem vi_X7_mean : jvirt m_X7_mean := ⟨jG_in 1248 rfl rfl, jG_in 1249 rfl rfl⟩
def jt_X7_book : Nat → Option (Instr × Nat) := fun pc => cond (Nat.ble 35 pc) (cond (Nat.ble 52 pc) (cond (Nat.ble 59 pc) (cond (Nat.ble 63 pc) (cond (Nat.ble 64 pc) (cond (Nat.ble 67 pc) (cond (Nat.beq pc 67) (some (.ireturn, 1)) none) (cond (Nat.beq pc 64) (some (.getfield 126, 3)) none)) (cond (Nat.beq pc 63) (some (.aload_n 0, 1)) none)) (cond (Nat.ble 60 pc) (cond (Nat.beq pc 60) (some (.putfield 126, 3)) none) (cond (Nat.beq pc 59) (some (.iadd, 1)) none))) (cond (Nat.ble 54 pc) (cond (Nat.ble 55 pc) (cond (Nat.ble 58 pc) (cond (Nat.beq pc 58) (some (.iconst 1, 1)) none) (cond (Nat.beq pc 55) (some (.getfield 126, 3)) none)) (cond (Nat.beq pc 54) (some (.dup, 1)) none)) (cond (Nat.ble 53 pc) (cond (Nat.beq pc 53) (some (.aload_n 0, 1)) none) (cond (Nat.beq pc 52) (some (.iastore, 1)) none)))) (cond (Nat.ble 43 pc) (cond (Nat.ble 47 pc) (cond (Nat.ble 48 pc) (cond (Nat.ble 51 pc) (cond (Nat.beq pc 51) (some (.iload_n 1, 1)) none) (cond (Nat.beq pc 48) (some (.getfield 126, 3)) none)) (cond (Nat.beq pc 47) (some (.aload_n 0, 1)) none)) (cond (Nat.ble 44 pc) (cond (Nat.beq pc 44) (some (.getfield 129, 3)) none) (cond (Nat.beq pc 43) (some (.aload_n 0, 1)) none))) (cond (Nat.ble 40 pc) (cond (Nat.ble 42 pc) (cond (Nat.beq pc 42) (some (.ireturn, 1)) none) (cond (Nat.beq pc 40) (some (.bipush (-4), 2)) none)) (cond (Nat.ble 37 pc) (cond (Nat.beq pc 37) (some (.if_icmp .ne 6, 3)) none) (cond (Nat.beq pc 35) (some (.bipush 12, 2)) none))))) (cond (Nat.ble 15 pc) (cond (Nat.ble 25 pc) (cond (Nat.ble 30 pc) (cond (Nat.ble 31 pc) (cond (Nat.ble 32 pc) (cond (Nat.beq pc 32) (some (.getfield 126, 3)) none) (cond (Nat.beq pc 31) (some (.aload_n 0, 1)) none)) (cond (Nat.beq pc 30) (some (.ireturn, 1)) none)) (cond (Nat.ble 28 pc) (cond (Nat.beq pc 28) (some (.bipush (-2), 2)) none) (cond (Nat.beq pc 25) (some (.ifCond .ne 6, 3)) none))) (cond (Nat.ble 19 pc) (cond (Nat.ble 22 pc) (cond (Nat.beq pc 22) (some (.invokevirtual 194, 3)) none) (cond (Nat.beq pc 19) (some (.sipush 9999, 3)) none)) (cond (Nat.ble 16 pc) (cond (Nat.beq pc 16) (some (.sipush (-9999), 3)) none) (cond (Nat.beq pc 15) (some (.iload_n 1, 1)) none)))) (cond (Nat.ble 8 pc) (cond (Nat.ble 12 pc) (cond (Nat.ble 13 pc) (cond (Nat.ble 14 pc) (cond (Nat.beq pc 14) (some (.aload_n 0, 1)) none) (cond (Nat.beq pc 13) (some (.ireturn, 1)) none)) (cond (Nat.beq pc 12) (some (.iconst 0, 1)) none)) (cond (Nat.ble 9 pc) (cond (Nat.beq pc 9) (some (.putfield 126, 3)) none) (cond (Nat.beq pc 8) (some (.iconst 0, 1)) none))) (cond (Nat.ble 4 pc) (cond (Nat.ble 7 pc) (cond (Nat.beq pc 7) (some (.aload_n 0, 1)) none) (cond (Nat.beq pc 4) (some (.if_icmp .ne 10, 3)) none)) (cond (Nat.ble 1 pc) (cond (Nat.beq pc 1) (some (.sipush (-10000), 3)) none) (cond (Nat.beq pc 0) (some (.iload_n 1, 1)) none)))))
def m_X7_book : jM := (7, yX7_book, cX7_book, 2, (some .int), fun pc => cond (Nat.ble 68 pc) none (jt_X7_book pc))
set_option maxRecDepth 100000 in
theorem dk_X7_book : ∀ pc q, m_X7_book.2.2.2.2.2 pc = some q → decode cX7_book pc = .ok q := jk_sound (N := 68) (t := jt_X7_book) (by decide +kernel)
set_option maxRecDepth 100000 in
theorem ok_X7_book : jok m_X7_book := ⟨dk_X7_book, jG_in 1254 rfl rfl, jG_in 94 rfl rfl, by decide +kernel, by decide +kernel, by decide⟩
set_option maxRecDepth 100000 in
theorem vi_X7_book : jvirt m_X7_book := ⟨jG_in 1252 rfl rfl, jG_in 1253 rfl rfl⟩
def jt_X7_looked : Nat → Option (Instr × Nat) := fun pc => cond (Nat.ble 46 pc) (cond (Nat.ble 66 pc) (cond (Nat.ble 80 pc) (cond (Nat.ble 87 pc) (cond (Nat.ble 91 pc) (cond (Nat.ble 92 pc) (cond (Nat.beq pc 92) (some (.ireturn, 1)) none) (cond (Nat.beq pc 91) (some (.iload_n 2, 1)) none)) (cond (Nat.ble 88 pc) (cond (Nat.beq pc 88) (some (.invokevirtual 317, 3)) none) (cond (Nat.beq pc 87) (some (.aload_n 0, 1)) none))) (cond (Nat.ble 81 pc) (cond (Nat.ble 84 pc) (cond (Nat.beq pc 84) (some (.goto (-51), 3)) none) (cond (Nat.beq pc 81) (some (.iinc 3 1, 3)) none)) (cond (Nat.beq pc 80) (some (.istore_n 2, 1)) none))) (cond (Nat.ble 71 pc) (cond (Nat.ble 76 pc) (cond (Nat.ble 79 pc) (cond (Nat.beq pc 79) (some (.iload_n 3, 1)) none) (cond (Nat.beq pc 76) (some (.goto 4, 3)) none)) (cond (Nat.ble 74 pc) (cond (Nat.beq pc 74) (some (.bipush (-5), 2)) none) (cond (Nat.beq pc 71) (some (.ifCond .eq 8, 3)) none))) (cond (Nat.ble 67 pc) (cond (Nat.ble 68 pc) (cond (Nat.beq pc 68) (some (.invokevirtual 194, 3)) none) (cond (Nat.beq pc 67) (some (.iload_n 1, 1)) none)) (cond (Nat.beq pc 66) (some (.ineg, 1)) none)))) (cond (Nat.ble 57 pc) (cond (Nat.ble 62 pc) (cond (Nat.ble 64 pc) (cond (Nat.ble 65 pc) (cond (Nat.beq pc 65) (some (.iload_n 1, 1)) none) (cond (Nat.beq pc 64) (some (.isub, 1)) none)) (cond (Nat.ble 63 pc) (cond (Nat.beq pc 63) (some (.iaload, 1)) none) (cond (Nat.beq pc 62) (some (.iload_n 3, 1)) none))) (cond (Nat.ble 58 pc) (cond (Nat.ble 59 pc) (cond (Nat.beq pc 59) (some (.getfield 129, 3)) none) (cond (Nat.beq pc 58) (some (.aload_n 0, 1)) none)) (cond (Nat.beq pc 57) (some (.iaload, 1)) none))) (cond (Nat.ble 52 pc) (cond (Nat.ble 53 pc) (cond (Nat.ble 56 pc) (cond (Nat.beq pc 56) (some (.iconst 0, 1)) none) (cond (Nat.beq pc 53) (some (.getfield 32, 3)) none)) (cond (Nat.beq pc 52) (some (.aload_n 0, 1)) none)) (cond (Nat.ble 49 pc) (cond (Nat.ble 51 pc) (cond (Nat.beq pc 51) (some (.aload_n 0, 1)) none) (cond (Nat.beq pc 49) (some (.istore 4, 2)) none)) (cond (Nat.beq pc 46) (some (.invokevirtual 310, 3)) none))))) (cond (Nat.ble 24 pc) (cond (Nat.ble 33 pc) (cond (Nat.ble 38 pc) (cond (Nat.ble 42 pc) (cond (Nat.ble 45 pc) (cond (Nat.beq pc 45) (some (.aload_n 0, 1)) none) (cond (Nat.beq pc 42) (some (.ifCond .ge 45, 3)) none)) (cond (Nat.ble 41 pc) (cond (Nat.beq pc 41) (some (.iload_n 2, 1)) none) (cond (Nat.beq pc 38) (some (.if_icmp .ge 49, 3)) none))) (cond (Nat.ble 34 pc) (cond (Nat.ble 35 pc) (cond (Nat.beq pc 35) (some (.getfield 126, 3)) none) (cond (Nat.beq pc 34) (some (.aload_n 0, 1)) none)) (cond (Nat.beq pc 33) (some (.iload_n 3, 1)) none))) (cond (Nat.ble 30 pc) (cond (Nat.ble 31 pc) (cond (Nat.ble 32 pc) (cond (Nat.beq pc 32) (some (.istore_n 3, 1)) none) (cond (Nat.beq pc 31) (some (.iconst 0, 1)) none)) (cond (Nat.beq pc 30) (some (.istore_n 2, 1)) none)) (cond (Nat.ble 25 pc) (cond (Nat.ble 28 pc) (cond (Nat.beq pc 28) (some (.bipush (-5), 2)) none) (cond (Nat.beq pc 25) (some (.invokevirtual 314, 3)) none)) (cond (Nat.beq pc 24) (some (.aload_n 0, 1)) none)))) (cond (Nat.ble 11 pc) (cond (Nat.ble 15 pc) (cond (Nat.ble 21 pc) (cond (Nat.ble 23 pc) (cond (Nat.beq pc 23) (some (.ireturn, 1)) none) (cond (Nat.beq pc 21) (some (.bipush (-3), 2)) none)) (cond (Nat.ble 18 pc) (cond (Nat.beq pc 18) (some (.ifCond .ne 6, 3)) none) (cond (Nat.beq pc 15) (some (.getfield 7, 3)) none))) (cond (Nat.ble 13 pc) (cond (Nat.ble 14 pc) (cond (Nat.beq pc 14) (some (.aload_n 0, 1)) none) (cond (Nat.beq pc 13) (some (.ireturn, 1)) none)) (cond (Nat.beq pc 11) (some (.bipush (-2), 2)) none))) (cond (Nat.ble 3 pc) (cond (Nat.ble 5 pc) (cond (Nat.ble 8 pc) (cond (Nat.beq pc 8) (some (.ifCond .ne 6, 3)) none) (cond (Nat.beq pc 5) (some (.invokevirtual 194, 3)) none)) (cond (Nat.beq pc 3) (some (.bipush 99, 2)) none)) (cond (Nat.ble 1 pc) (cond (Nat.ble 2 pc) (cond (Nat.beq pc 2) (some (.iconst 0, 1)) none) (cond (Nat.beq pc 1) (some (.iload_n 1, 1)) none)) (cond (Nat.beq pc 0) (some (.aload_n 0, 1)) none)))))
def m_X7_looked : jM := (7, yX7_looked, cX7_looked, 5, (some .int), fun pc => cond (Nat.ble 93 pc) none (jt_X7_looked pc))
set_option maxRecDepth 100000 in
theorem dk_X7_looked : ∀ pc q, m_X7_looked.2.2.2.2.2 pc = some q → decode cX7_looked pc = .ok q := jk_sound (N := 93) (t := jt_X7_looked) (by decide +kernel)
set_option maxRecDepth 100000 in
theorem ok_X7_looked : jok m_X7_looked := ⟨dk_X7_looked, jG_in 1258 rfl rfl, jG_in 94 rfl rfl, by decide +kernel, by decide +kernel, by decide⟩
set_option maxRecDepth 100000 in
theorem vi_X7_looked : jvirt m_X7_looked := ⟨jG_in 1256 rfl rfl, jG_in 1257 rfl rfl⟩
def jt_X7_judge : Nat → Option (Instr × Nat) := fun pc => cond (Nat.ble 57 pc) (cond (Nat.ble 82 pc) (cond (Nat.ble 93 pc) (cond (Nat.ble 99 pc) (cond (Nat.ble 103 pc) (cond (Nat.ble 106 pc) (cond (Nat.ble 108 pc) (cond (Nat.beq pc 108) (some (.ireturn, 1)) none) (cond (Nat.beq pc 106) (some (.bipush (-5), 2)) none)) (cond (Nat.beq pc 103) (some (.goto (-69), 3)) none)) (cond (Nat.ble 100 pc) (cond (Nat.beq pc 100) (some (.iinc 3 1, 3)) none) (cond (Nat.beq pc 99) (some (.ireturn, 1)) none))) (cond (Nat.ble 95 pc) (cond (Nat.ble 98 pc) (cond (Nat.beq pc 98) (some (.iload_n 3, 1)) none) (cond (Nat.beq pc 95) (some (.ifCond .eq 5, 3)) none)) (cond (Nat.ble 94 pc) (cond (Nat.beq pc 94) (some (.lcmp, 1)) none) (cond (Nat.beq pc 93) (some (.i2l, 1)) none)))) (cond (Nat.ble 86 pc) (cond (Nat.ble 88 pc) (cond (Nat.ble 91 pc) (cond (Nat.ble 92 pc) (cond (Nat.beq pc 92) (some (.iaload, 1)) none) (cond (Nat.beq pc 91) (some (.iload_n 3, 1)) none)) (cond (Nat.beq pc 88) (some (.getfield 32, 3)) none)) (cond (Nat.ble 87 pc) (cond (Nat.beq pc 87) (some (.aload_n 0, 1)) none) (cond (Nat.beq pc 86) (some (.laload, 1)) none))) (cond (Nat.ble 84 pc) (cond (Nat.ble 85 pc) (cond (Nat.beq pc 85) (some (.iadd, 1)) none) (cond (Nat.beq pc 84) (some (.iload_n 3, 1)) none)) (cond (Nat.ble 83 pc) (cond (Nat.beq pc 83) (some (.iadd, 1)) none) (cond (Nat.beq pc 82) (some (.iload_n 2, 1)) none))))) (cond (Nat.ble 69 pc) (cond (Nat.ble 74 pc) (cond (Nat.ble 78 pc) (cond (Nat.ble 80 pc) (cond (Nat.ble 81 pc) (cond (Nat.beq pc 81) (some (.imul, 1)) none) (cond (Nat.beq pc 80) (some (.iload_n 1, 1)) none)) (cond (Nat.beq pc 78) (some (.bipush 60, 2)) none)) (cond (Nat.ble 75 pc) (cond (Nat.beq pc 75) (some (.getfield 187, 3)) none) (cond (Nat.beq pc 74) (some (.aload_n 0, 1)) none))) (cond (Nat.ble 72 pc) (cond (Nat.ble 73 pc) (cond (Nat.beq pc 73) (some (.ireturn, 1)) none) (cond (Nat.beq pc 72) (some (.iadd, 1)) none)) (cond (Nat.ble 71 pc) (cond (Nat.beq pc 71) (some (.iload_n 3, 1)) none) (cond (Nat.beq pc 69) (some (.bipush 100, 2)) none)))) (cond (Nat.ble 63 pc) (cond (Nat.ble 65 pc) (cond (Nat.ble 66 pc) (cond (Nat.beq pc 66) (some (.if_icmp .le 8, 3)) none) (cond (Nat.beq pc 65) (some (.isub, 1)) none)) (cond (Nat.ble 64 pc) (cond (Nat.beq pc 64) (some (.iconst 1, 1)) none) (cond (Nat.beq pc 63) (some (.isub, 1)) none))) (cond (Nat.ble 61 pc) (cond (Nat.ble 62 pc) (cond (Nat.beq pc 62) (some (.iload_n 3, 1)) none) (cond (Nat.beq pc 61) (some (.iaload, 1)) none)) (cond (Nat.ble 60 pc) (cond (Nat.beq pc 60) (some (.iload_n 1, 1)) none) (cond (Nat.beq pc 57) (some (.getfield 184, 3)) none)))))) (cond (Nat.ble 29 pc) (cond (Nat.ble 42 pc) (cond (Nat.ble 48 pc) (cond (Nat.ble 52 pc) (cond (Nat.ble 55 pc) (cond (Nat.ble 56 pc) (cond (Nat.beq pc 56) (some (.aload_n 0, 1)) none) (cond (Nat.beq pc 55) (some (.iload_n 2, 1)) none)) (cond (Nat.beq pc 52) (some (.ifCond .lt 17, 3)) none)) (cond (Nat.ble 51 pc) (cond (Nat.beq pc 51) (some (.iload_n 2, 1)) none) (cond (Nat.beq pc 48) (some (.ifCond .lt 21, 3)) none))) (cond (Nat.ble 46 pc) (cond (Nat.ble 47 pc) (cond (Nat.beq pc 47) (some (.iaload, 1)) none) (cond (Nat.beq pc 46) (some (.iload_n 1, 1)) none)) (cond (Nat.ble 43 pc) (cond (Nat.beq pc 43) (some (.getfield 181, 3)) none) (cond (Nat.beq pc 42) (some (.aload_n 0, 1)) none)))) (cond (Nat.ble 34 pc) (cond (Nat.ble 36 pc) (cond (Nat.ble 39 pc) (cond (Nat.beq pc 39) (some (.if_icmp .ge 67, 3)) none) (cond (Nat.beq pc 36) (some (.getfield 7, 3)) none)) (cond (Nat.ble 35 pc) (cond (Nat.beq pc 35) (some (.aload_n 0, 1)) none) (cond (Nat.beq pc 34) (some (.iload_n 3, 1)) none))) (cond (Nat.ble 32 pc) (cond (Nat.ble 33 pc) (cond (Nat.beq pc 33) (some (.istore_n 3, 1)) none) (cond (Nat.beq pc 32) (some (.iconst 0, 1)) none)) (cond (Nat.ble 31 pc) (cond (Nat.beq pc 31) (some (.ireturn, 1)) none) (cond (Nat.beq pc 29) (some (.bipush (-12), 2)) none))))) (cond (Nat.ble 14 pc) (cond (Nat.ble 20 pc) (cond (Nat.ble 24 pc) (cond (Nat.ble 25 pc) (cond (Nat.ble 26 pc) (cond (Nat.beq pc 26) (some (.if_icmp .eq 6, 3)) none) (cond (Nat.beq pc 25) (some (.iconst 3, 1)) none)) (cond (Nat.beq pc 24) (some (.iaload, 1)) none)) (cond (Nat.ble 23 pc) (cond (Nat.beq pc 23) (some (.iload_n 1, 1)) none) (cond (Nat.beq pc 20) (some (.getfield 181, 3)) none))) (cond (Nat.ble 16 pc) (cond (Nat.ble 19 pc) (cond (Nat.beq pc 19) (some (.aload_n 0, 1)) none) (cond (Nat.beq pc 16) (some (.ifCond .lt 16, 3)) none)) (cond (Nat.ble 15 pc) (cond (Nat.beq pc 15) (some (.iaload, 1)) none) (cond (Nat.beq pc 14) (some (.iload_n 1, 1)) none)))) (cond (Nat.ble 8 pc) (cond (Nat.ble 10 pc) (cond (Nat.ble 11 pc) (cond (Nat.beq pc 11) (some (.getfield 181, 3)) none) (cond (Nat.beq pc 10) (some (.aload_n 0, 1)) none)) (cond (Nat.ble 9 pc) (cond (Nat.beq pc 9) (some (.ireturn, 1)) none) (cond (Nat.beq pc 8) (some (.iconst (-1), 1)) none))) (cond (Nat.ble 2 pc) (cond (Nat.ble 5 pc) (cond (Nat.beq pc 5) (some (.ifCond .ne 5, 3)) none) (cond (Nat.beq pc 2) (some (.invokevirtual 354, 3)) none)) (cond (Nat.ble 1 pc) (cond (Nat.beq pc 1) (some (.iload_n 1, 1)) none) (cond (Nat.beq pc 0) (some (.aload_n 0, 1)) none))))))
def m_X7_judge : jM := (7, yX7_judge, cX7_judge, 4, (some .int), fun pc => cond (Nat.ble 109 pc) none (jt_X7_judge pc))
set_option maxRecDepth 100000 in
theorem dk_X7_judge : ∀ pc q, m_X7_judge.2.2.2.2.2 pc = some q → decode cX7_judge pc = .ok q := jk_sound (N := 109) (t := jt_X7_judge) (by decide +kernel)
set_option maxRecDepth 100000 in
theorem ok_X7_judge : jok m_X7_judge := ⟨dk_X7_judge, jG_in 1262 rfl rfl, jG_in 94 rfl rfl, by decide +kernel, by decide +kernel, by decide⟩
set_option maxRecDepth 100000 in
theorem vi_X7_judge : jvirt m_X7_judge := ⟨jG_in 1260 rfl rfl, jG_in 1261 rfl rfl⟩
def jt_X7_image : Nat → Option (Instr × Nat) := fun pc => cond (Nat.ble 94 pc) (cond (Nat.ble 139 pc) (cond (Nat.ble 162 pc) (cond (Nat.ble 175 pc) (cond (Nat.ble 180 pc) (cond (Nat.ble 184 pc) (cond (Nat.ble 187 pc) (cond (Nat.beq pc 187) (some (.ireturn, 1)) none) (cond (Nat.beq pc 184) (some (.getfield 7, 3)) none)) (cond (Nat.ble 183 pc) (cond (Nat.beq pc 183) (some (.aload_n 0, 1)) none) (cond (Nat.beq pc 180) (some (.goto (-21), 3)) none))) (cond (Nat.ble 176 pc) (cond (Nat.ble 177 pc) (cond (Nat.beq pc 177) (some (.iinc 1 1, 3)) none) (cond (Nat.beq pc 176) (some (.iastore, 1)) none)) (cond (Nat.beq pc 175) (some (.iaload, 1)) none))) (cond (Nat.ble 169 pc) (cond (Nat.ble 171 pc) (cond (Nat.ble 174 pc) (cond (Nat.beq pc 174) (some (.iload_n 1, 1)) none) (cond (Nat.beq pc 171) (some (.getfield 129, 3)) none)) (cond (Nat.ble 170 pc) (cond (Nat.beq pc 170) (some (.aload_n 0, 1)) none) (cond (Nat.beq pc 169) (some (.iload_n 1, 1)) none))) (cond (Nat.ble 165 pc) (cond (Nat.ble 166 pc) (cond (Nat.beq pc 166) (some (.getfield 169, 3)) none) (cond (Nat.beq pc 165) (some (.aload_n 0, 1)) none)) (cond (Nat.beq pc 162) (some (.if_icmp .ge 21, 3)) none)))) (cond (Nat.ble 150 pc) (cond (Nat.ble 157 pc) (cond (Nat.ble 159 pc) (cond (Nat.ble 160 pc) (cond (Nat.beq pc 160) (some (.bipush 12, 2)) none) (cond (Nat.beq pc 159) (some (.iload_n 1, 1)) none)) (cond (Nat.ble 158 pc) (cond (Nat.beq pc 158) (some (.istore_n 1, 1)) none) (cond (Nat.beq pc 157) (some (.iconst 0, 1)) none))) (cond (Nat.ble 151 pc) (cond (Nat.ble 154 pc) (cond (Nat.beq pc 154) (some (.goto (-21), 3)) none) (cond (Nat.beq pc 151) (some (.iinc 1 1, 3)) none)) (cond (Nat.beq pc 150) (some (.iastore, 1)) none))) (cond (Nat.ble 144 pc) (cond (Nat.ble 148 pc) (cond (Nat.ble 149 pc) (cond (Nat.beq pc 149) (some (.iaload, 1)) none) (cond (Nat.beq pc 148) (some (.iload_n 1, 1)) none)) (cond (Nat.ble 145 pc) (cond (Nat.beq pc 145) (some (.getfield 35, 3)) none) (cond (Nat.beq pc 144) (some (.aload_n 0, 1)) none))) (cond (Nat.ble 140 pc) (cond (Nat.ble 143 pc) (cond (Nat.beq pc 143) (some (.iload_n 1, 1)) none) (cond (Nat.beq pc 140) (some (.getfield 166, 3)) none)) (cond (Nat.beq pc 139) (some (.aload_n 0, 1)) none))))) (cond (Nat.ble 114 pc) (cond (Nat.ble 125 pc) (cond (Nat.ble 132 pc) (cond (Nat.ble 134 pc) (cond (Nat.ble 136 pc) (cond (Nat.beq pc 136) (some (.if_icmp .ge 21, 3)) none) (cond (Nat.beq pc 134) (some (.bipush 28, 2)) none)) (cond (Nat.ble 133 pc) (cond (Nat.beq pc 133) (some (.iload_n 1, 1)) none) (cond (Nat.beq pc 132) (some (.istore_n 1, 1)) none))) (cond (Nat.ble 128 pc) (cond (Nat.ble 131 pc) (cond (Nat.beq pc 131) (some (.iconst 0, 1)) none) (cond (Nat.beq pc 128) (some (.goto (-81), 3)) none)) (cond (Nat.beq pc 125) (some (.iinc 1 1, 3)) none))) (cond (Nat.ble 119 pc) (cond (Nat.ble 123 pc) (cond (Nat.ble 124 pc) (cond (Nat.beq pc 124) (some (.bastore, 1)) none) (cond (Nat.beq pc 123) (some (.baload, 1)) none)) (cond (Nat.ble 122 pc) (cond (Nat.beq pc 122) (some (.iload_n 1, 1)) none) (cond (Nat.beq pc 119) (some (.getfield 38, 3)) none))) (cond (Nat.ble 117 pc) (cond (Nat.ble 118 pc) (cond (Nat.beq pc 118) (some (.aload_n 0, 1)) none) (cond (Nat.beq pc 117) (some (.iload_n 1, 1)) none)) (cond (Nat.beq pc 114) (some (.getfield 172, 3)) none)))) (cond (Nat.ble 105 pc) (cond (Nat.ble 110 pc) (cond (Nat.ble 112 pc) (cond (Nat.ble 113 pc) (cond (Nat.beq pc 113) (some (.aload_n 0, 1)) none) (cond (Nat.beq pc 112) (some (.iastore, 1)) none)) (cond (Nat.ble 111 pc) (cond (Nat.beq pc 111) (some (.iaload, 1)) none) (cond (Nat.beq pc 110) (some (.iload_n 1, 1)) none))) (cond (Nat.ble 106 pc) (cond (Nat.ble 107 pc) (cond (Nat.beq pc 107) (some (.getfield 32, 3)) none) (cond (Nat.beq pc 106) (some (.aload_n 0, 1)) none)) (cond (Nat.beq pc 105) (some (.iload_n 1, 1)) none))) (cond (Nat.ble 99 pc) (cond (Nat.ble 101 pc) (cond (Nat.ble 102 pc) (cond (Nat.beq pc 102) (some (.getfield 163, 3)) none) (cond (Nat.beq pc 101) (some (.aload_n 0, 1)) none)) (cond (Nat.ble 100 pc) (cond (Nat.beq pc 100) (some (.iastore, 1)) none) (cond (Nat.beq pc 99) (some (.iaload, 1)) none))) (cond (Nat.ble 95 pc) (cond (Nat.ble 98 pc) (cond (Nat.beq pc 98) (some (.iload_n 1, 1)) none) (cond (Nat.beq pc 95) (some (.getfield 29, 3)) none)) (cond (Nat.beq pc 94) (some (.aload_n 0, 1)) none)))))) (cond (Nat.ble 50 pc) (cond (Nat.ble 74 pc) (cond (Nat.ble 83 pc) (cond (Nat.ble 88 pc) (cond (Nat.ble 90 pc) (cond (Nat.ble 93 pc) (cond (Nat.beq pc 93) (some (.iload_n 1, 1)) none) (cond (Nat.beq pc 90) (some (.getfield 160, 3)) none)) (cond (Nat.ble 89 pc) (cond (Nat.beq pc 89) (some (.aload_n 0, 1)) none) (cond (Nat.beq pc 88) (some (.iastore, 1)) none))) (cond (Nat.ble 86 pc) (cond (Nat.ble 87 pc) (cond (Nat.beq pc 87) (some (.iaload, 1)) none) (cond (Nat.beq pc 86) (some (.iload_n 1, 1)) none)) (cond (Nat.beq pc 83) (some (.getfield 26, 3)) none))) (cond (Nat.ble 77 pc) (cond (Nat.ble 81 pc) (cond (Nat.ble 82 pc) (cond (Nat.beq pc 82) (some (.aload_n 0, 1)) none) (cond (Nat.beq pc 81) (some (.iload_n 1, 1)) none)) (cond (Nat.ble 78 pc) (cond (Nat.beq pc 78) (some (.getfield 157, 3)) none) (cond (Nat.beq pc 77) (some (.aload_n 0, 1)) none))) (cond (Nat.ble 75 pc) (cond (Nat.ble 76 pc) (cond (Nat.beq pc 76) (some (.iastore, 1)) none) (cond (Nat.beq pc 75) (some (.iaload, 1)) none)) (cond (Nat.beq pc 74) (some (.iload_n 1, 1)) none)))) (cond (Nat.ble 63 pc) (cond (Nat.ble 66 pc) (cond (Nat.ble 70 pc) (cond (Nat.ble 71 pc) (cond (Nat.beq pc 71) (some (.getfield 23, 3)) none) (cond (Nat.beq pc 70) (some (.aload_n 0, 1)) none)) (cond (Nat.ble 69 pc) (cond (Nat.beq pc 69) (some (.iload_n 1, 1)) none) (cond (Nat.beq pc 66) (some (.getfield 154, 3)) none))) (cond (Nat.ble 64 pc) (cond (Nat.ble 65 pc) (cond (Nat.beq pc 65) (some (.aload_n 0, 1)) none) (cond (Nat.beq pc 64) (some (.iastore, 1)) none)) (cond (Nat.beq pc 63) (some (.iaload, 1)) none))) (cond (Nat.ble 57 pc) (cond (Nat.ble 59 pc) (cond (Nat.ble 62 pc) (cond (Nat.beq pc 62) (some (.iload_n 1, 1)) none) (cond (Nat.beq pc 59) (some (.getfield 19, 3)) none)) (cond (Nat.ble 58 pc) (cond (Nat.beq pc 58) (some (.aload_n 0, 1)) none) (cond (Nat.beq pc 57) (some (.iload_n 1, 1)) none))) (cond (Nat.ble 53 pc) (cond (Nat.ble 54 pc) (cond (Nat.beq pc 54) (some (.getfield 151, 3)) none) (cond (Nat.beq pc 53) (some (.aload_n 0, 1)) none)) (cond (Nat.beq pc 50) (some (.if_icmp .ge 81, 3)) none))))) (cond (Nat.ble 23 pc) (cond (Nat.ble 38 pc) (cond (Nat.ble 45 pc) (cond (Nat.ble 47 pc) (cond (Nat.ble 48 pc) (cond (Nat.beq pc 48) (some (.bipush 7, 2)) none) (cond (Nat.beq pc 47) (some (.iload_n 1, 1)) none)) (cond (Nat.ble 46 pc) (cond (Nat.beq pc 46) (some (.istore_n 1, 1)) none) (cond (Nat.beq pc 45) (some (.iconst 0, 1)) none))) (cond (Nat.ble 39 pc) (cond (Nat.ble 42 pc) (cond (Nat.beq pc 42) (some (.putfield 148, 3)) none) (cond (Nat.beq pc 39) (some (.getfield 126, 3)) none)) (cond (Nat.beq pc 38) (some (.aload_n 0, 1)) none))) (cond (Nat.ble 30 pc) (cond (Nat.ble 34 pc) (cond (Nat.ble 37 pc) (cond (Nat.beq pc 37) (some (.aload_n 0, 1)) none) (cond (Nat.beq pc 34) (some (.putfield 145, 3)) none)) (cond (Nat.ble 31 pc) (cond (Nat.beq pc 31) (some (.getfield 16, 3)) none) (cond (Nat.beq pc 30) (some (.aload_n 0, 1)) none))) (cond (Nat.ble 26 pc) (cond (Nat.ble 29 pc) (cond (Nat.beq pc 29) (some (.aload_n 0, 1)) none) (cond (Nat.beq pc 26) (some (.putfield 142, 3)) none)) (cond (Nat.beq pc 23) (some (.getfield 13, 3)) none)))) (cond (Nat.ble 10 pc) (cond (Nat.ble 15 pc) (cond (Nat.ble 21 pc) (cond (Nat.ble 22 pc) (cond (Nat.beq pc 22) (some (.aload_n 0, 1)) none) (cond (Nat.beq pc 21) (some (.aload_n 0, 1)) none)) (cond (Nat.ble 18 pc) (cond (Nat.beq pc 18) (some (.putfield 139, 3)) none) (cond (Nat.beq pc 15) (some (.getfield 7, 3)) none))) (cond (Nat.ble 13 pc) (cond (Nat.ble 14 pc) (cond (Nat.beq pc 14) (some (.aload_n 0, 1)) none) (cond (Nat.beq pc 13) (some (.aload_n 0, 1)) none)) (cond (Nat.beq pc 10) (some (.putfield 136, 3)) none))) (cond (Nat.ble 5 pc) (cond (Nat.ble 6 pc) (cond (Nat.ble 7 pc) (cond (Nat.beq pc 7) (some (.getfield 45, 3)) none) (cond (Nat.beq pc 6) (some (.aload_n 0, 1)) none)) (cond (Nat.beq pc 5) (some (.aload_n 0, 1)) none)) (cond (Nat.ble 1 pc) (cond (Nat.ble 2 pc) (cond (Nat.beq pc 2) (some (.putfield 132, 3)) none) (cond (Nat.beq pc 1) (some (.iconst 1, 1)) none)) (cond (Nat.beq pc 0) (some (.aload_n 0, 1)) none))))))
def m_X7_image : jM := (7, yX7_image, cX7_image, 2, (some .int), fun pc => cond (Nat.ble 188 pc) none (jt_X7_image pc))
set_option maxRecDepth 100000 in
theorem dk_X7_image : ∀ pc q, m_X7_image.2.2.2.2.2 pc = some q → decode cX7_image pc = .ok q := jk_sound (N := 188) (t := jt_X7_image) (by decide +kernel)
set_option maxRecDepth 100000 in
theorem ok_X7_image : jok m_X7_image := ⟨dk_X7_image, jG_in 1270 rfl rfl, jG_in 94 rfl rfl, by decide +kernel, by decide +kernel, by decide⟩
set_option maxRecDepth 100000 in
theorem vi_X7_image : jvirt m_X7_image := ⟨jG_in 1268 rfl rfl, jG_in 1269 rfl rfl⟩
def jt_X7_undo : Nat → Option (Instr × Nat) := fun pc => cond (Nat.ble 98 pc) (cond (Nat.ble 141 pc) (cond (Nat.ble 165 pc) (cond (Nat.ble 179 pc) (cond (Nat.ble 185 pc) (cond (Nat.ble 189 pc) (cond (Nat.ble 192 pc) (cond (Nat.beq pc 192) (some (.ireturn, 1)) none) (cond (Nat.beq pc 189) (some (.getfield 7, 3)) none)) (cond (Nat.ble 188 pc) (cond (Nat.beq pc 188) (some (.aload_n 0, 1)) none) (cond (Nat.beq pc 185) (some (.goto (-21), 3)) none))) (cond (Nat.ble 181 pc) (cond (Nat.ble 182 pc) (cond (Nat.beq pc 182) (some (.iinc 1 1, 3)) none) (cond (Nat.beq pc 181) (some (.iastore, 1)) none)) (cond (Nat.ble 180 pc) (cond (Nat.beq pc 180) (some (.iaload, 1)) none) (cond (Nat.beq pc 179) (some (.iload_n 1, 1)) none)))) (cond (Nat.ble 171 pc) (cond (Nat.ble 175 pc) (cond (Nat.ble 176 pc) (cond (Nat.beq pc 176) (some (.getfield 169, 3)) none) (cond (Nat.beq pc 175) (some (.aload_n 0, 1)) none)) (cond (Nat.ble 174 pc) (cond (Nat.beq pc 174) (some (.iload_n 1, 1)) none) (cond (Nat.beq pc 171) (some (.getfield 129, 3)) none))) (cond (Nat.ble 167 pc) (cond (Nat.ble 170 pc) (cond (Nat.beq pc 170) (some (.aload_n 0, 1)) none) (cond (Nat.beq pc 167) (some (.if_icmp .ge 21, 3)) none)) (cond (Nat.beq pc 165) (some (.bipush 12, 2)) none)))) (cond (Nat.ble 154 pc) (cond (Nat.ble 159 pc) (cond (Nat.ble 163 pc) (cond (Nat.ble 164 pc) (cond (Nat.beq pc 164) (some (.iload_n 1, 1)) none) (cond (Nat.beq pc 163) (some (.istore_n 1, 1)) none)) (cond (Nat.ble 162 pc) (cond (Nat.beq pc 162) (some (.iconst 0, 1)) none) (cond (Nat.beq pc 159) (some (.goto (-21), 3)) none))) (cond (Nat.ble 155 pc) (cond (Nat.ble 156 pc) (cond (Nat.beq pc 156) (some (.iinc 1 1, 3)) none) (cond (Nat.beq pc 155) (some (.iastore, 1)) none)) (cond (Nat.beq pc 154) (some (.iaload, 1)) none))) (cond (Nat.ble 148 pc) (cond (Nat.ble 150 pc) (cond (Nat.ble 153 pc) (cond (Nat.beq pc 153) (some (.iload_n 1, 1)) none) (cond (Nat.beq pc 150) (some (.getfield 166, 3)) none)) (cond (Nat.ble 149 pc) (cond (Nat.beq pc 149) (some (.aload_n 0, 1)) none) (cond (Nat.beq pc 148) (some (.iload_n 1, 1)) none))) (cond (Nat.ble 144 pc) (cond (Nat.ble 145 pc) (cond (Nat.beq pc 145) (some (.getfield 35, 3)) none) (cond (Nat.beq pc 144) (some (.aload_n 0, 1)) none)) (cond (Nat.beq pc 141) (some (.if_icmp .ge 21, 3)) none))))) (cond (Nat.ble 118 pc) (cond (Nat.ble 129 pc) (cond (Nat.ble 136 pc) (cond (Nat.ble 138 pc) (cond (Nat.ble 139 pc) (cond (Nat.beq pc 139) (some (.bipush 28, 2)) none) (cond (Nat.beq pc 138) (some (.iload_n 1, 1)) none)) (cond (Nat.ble 137 pc) (cond (Nat.beq pc 137) (some (.istore_n 1, 1)) none) (cond (Nat.beq pc 136) (some (.iconst 0, 1)) none))) (cond (Nat.ble 130 pc) (cond (Nat.ble 133 pc) (cond (Nat.beq pc 133) (some (.goto (-81), 3)) none) (cond (Nat.beq pc 130) (some (.iinc 1 1, 3)) none)) (cond (Nat.beq pc 129) (some (.bastore, 1)) none))) (cond (Nat.ble 123 pc) (cond (Nat.ble 127 pc) (cond (Nat.ble 128 pc) (cond (Nat.beq pc 128) (some (.baload, 1)) none) (cond (Nat.beq pc 127) (some (.iload_n 1, 1)) none)) (cond (Nat.ble 124 pc) (cond (Nat.beq pc 124) (some (.getfield 172, 3)) none) (cond (Nat.beq pc 123) (some (.aload_n 0, 1)) none))) (cond (Nat.ble 119 pc) (cond (Nat.ble 122 pc) (cond (Nat.beq pc 122) (some (.iload_n 1, 1)) none) (cond (Nat.beq pc 119) (some (.getfield 38, 3)) none)) (cond (Nat.beq pc 118) (some (.aload_n 0, 1)) none)))) (cond (Nat.ble 107 pc) (cond (Nat.ble 112 pc) (cond (Nat.ble 116 pc) (cond (Nat.ble 117 pc) (cond (Nat.beq pc 117) (some (.iastore, 1)) none) (cond (Nat.beq pc 116) (some (.iaload, 1)) none)) (cond (Nat.ble 115 pc) (cond (Nat.beq pc 115) (some (.iload_n 1, 1)) none) (cond (Nat.beq pc 112) (some (.getfield 163, 3)) none))) (cond (Nat.ble 110 pc) (cond (Nat.ble 111 pc) (cond (Nat.beq pc 111) (some (.aload_n 0, 1)) none) (cond (Nat.beq pc 110) (some (.iload_n 1, 1)) none)) (cond (Nat.beq pc 107) (some (.getfield 32, 3)) none))) (cond (Nat.ble 103 pc) (cond (Nat.ble 105 pc) (cond (Nat.ble 106 pc) (cond (Nat.beq pc 106) (some (.aload_n 0, 1)) none) (cond (Nat.beq pc 105) (some (.iastore, 1)) none)) (cond (Nat.ble 104 pc) (cond (Nat.beq pc 104) (some (.iaload, 1)) none) (cond (Nat.beq pc 103) (some (.iload_n 1, 1)) none))) (cond (Nat.ble 99 pc) (cond (Nat.ble 100 pc) (cond (Nat.beq pc 100) (some (.getfield 160, 3)) none) (cond (Nat.beq pc 99) (some (.aload_n 0, 1)) none)) (cond (Nat.beq pc 98) (some (.iload_n 1, 1)) none)))))) (cond (Nat.ble 53 pc) (cond (Nat.ble 76 pc) (cond (Nat.ble 87 pc) (cond (Nat.ble 92 pc) (cond (Nat.ble 94 pc) (cond (Nat.ble 95 pc) (cond (Nat.beq pc 95) (some (.getfield 29, 3)) none) (cond (Nat.beq pc 94) (some (.aload_n 0, 1)) none)) (cond (Nat.ble 93 pc) (cond (Nat.beq pc 93) (some (.iastore, 1)) none) (cond (Nat.beq pc 92) (some (.iaload, 1)) none))) (cond (Nat.ble 88 pc) (cond (Nat.ble 91 pc) (cond (Nat.beq pc 91) (some (.iload_n 1, 1)) none) (cond (Nat.beq pc 88) (some (.getfield 157, 3)) none)) (cond (Nat.beq pc 87) (some (.aload_n 0, 1)) none))) (cond (Nat.ble 81 pc) (cond (Nat.ble 83 pc) (cond (Nat.ble 86 pc) (cond (Nat.beq pc 86) (some (.iload_n 1, 1)) none) (cond (Nat.beq pc 83) (some (.getfield 26, 3)) none)) (cond (Nat.ble 82 pc) (cond (Nat.beq pc 82) (some (.aload_n 0, 1)) none) (cond (Nat.beq pc 81) (some (.iastore, 1)) none))) (cond (Nat.ble 79 pc) (cond (Nat.ble 80 pc) (cond (Nat.beq pc 80) (some (.iaload, 1)) none) (cond (Nat.beq pc 79) (some (.iload_n 1, 1)) none)) (cond (Nat.beq pc 76) (some (.getfield 154, 3)) none)))) (cond (Nat.ble 67 pc) (cond (Nat.ble 70 pc) (cond (Nat.ble 74 pc) (cond (Nat.ble 75 pc) (cond (Nat.beq pc 75) (some (.aload_n 0, 1)) none) (cond (Nat.beq pc 74) (some (.iload_n 1, 1)) none)) (cond (Nat.ble 71 pc) (cond (Nat.beq pc 71) (some (.getfield 23, 3)) none) (cond (Nat.beq pc 70) (some (.aload_n 0, 1)) none))) (cond (Nat.ble 68 pc) (cond (Nat.ble 69 pc) (cond (Nat.beq pc 69) (some (.iastore, 1)) none) (cond (Nat.beq pc 68) (some (.iaload, 1)) none)) (cond (Nat.beq pc 67) (some (.iload_n 1, 1)) none))) (cond (Nat.ble 59 pc) (cond (Nat.ble 63 pc) (cond (Nat.ble 64 pc) (cond (Nat.beq pc 64) (some (.getfield 151, 3)) none) (cond (Nat.beq pc 63) (some (.aload_n 0, 1)) none)) (cond (Nat.ble 62 pc) (cond (Nat.beq pc 62) (some (.iload_n 1, 1)) none) (cond (Nat.beq pc 59) (some (.getfield 19, 3)) none))) (cond (Nat.ble 55 pc) (cond (Nat.ble 58 pc) (cond (Nat.beq pc 58) (some (.aload_n 0, 1)) none) (cond (Nat.beq pc 55) (some (.if_icmp .ge 81, 3)) none)) (cond (Nat.beq pc 53) (some (.bipush 7, 2)) none))))) (cond (Nat.ble 27 pc) (cond (Nat.ble 42 pc) (cond (Nat.ble 47 pc) (cond (Nat.ble 51 pc) (cond (Nat.ble 52 pc) (cond (Nat.beq pc 52) (some (.iload_n 1, 1)) none) (cond (Nat.beq pc 51) (some (.istore_n 1, 1)) none)) (cond (Nat.ble 50 pc) (cond (Nat.beq pc 50) (some (.iconst 0, 1)) none) (cond (Nat.beq pc 47) (some (.putfield 126, 3)) none))) (cond (Nat.ble 43 pc) (cond (Nat.ble 44 pc) (cond (Nat.beq pc 44) (some (.getfield 148, 3)) none) (cond (Nat.beq pc 43) (some (.aload_n 0, 1)) none)) (cond (Nat.beq pc 42) (some (.aload_n 0, 1)) none))) (cond (Nat.ble 34 pc) (cond (Nat.ble 36 pc) (cond (Nat.ble 39 pc) (cond (Nat.beq pc 39) (some (.putfield 16, 3)) none) (cond (Nat.beq pc 36) (some (.getfield 145, 3)) none)) (cond (Nat.ble 35 pc) (cond (Nat.beq pc 35) (some (.aload_n 0, 1)) none) (cond (Nat.beq pc 34) (some (.aload_n 0, 1)) none))) (cond (Nat.ble 28 pc) (cond (Nat.ble 31 pc) (cond (Nat.beq pc 31) (some (.putfield 13, 3)) none) (cond (Nat.beq pc 28) (some (.getfield 142, 3)) none)) (cond (Nat.beq pc 27) (some (.aload_n 0, 1)) none)))) (cond (Nat.ble 12 pc) (cond (Nat.ble 19 pc) (cond (Nat.ble 23 pc) (cond (Nat.ble 26 pc) (cond (Nat.beq pc 26) (some (.aload_n 0, 1)) none) (cond (Nat.beq pc 23) (some (.putfield 7, 3)) none)) (cond (Nat.ble 20 pc) (cond (Nat.beq pc 20) (some (.getfield 139, 3)) none) (cond (Nat.beq pc 19) (some (.aload_n 0, 1)) none))) (cond (Nat.ble 15 pc) (cond (Nat.ble 18 pc) (cond (Nat.beq pc 18) (some (.aload_n 0, 1)) none) (cond (Nat.beq pc 15) (some (.putfield 45, 3)) none)) (cond (Nat.beq pc 12) (some (.getfield 136, 3)) none))) (cond (Nat.ble 7 pc) (cond (Nat.ble 10 pc) (cond (Nat.ble 11 pc) (cond (Nat.beq pc 11) (some (.aload_n 0, 1)) none) (cond (Nat.beq pc 10) (some (.aload_n 0, 1)) none)) (cond (Nat.ble 9 pc) (cond (Nat.beq pc 9) (some (.ireturn, 1)) none) (cond (Nat.beq pc 7) (some (.bipush (-3), 2)) none))) (cond (Nat.ble 1 pc) (cond (Nat.ble 4 pc) (cond (Nat.beq pc 4) (some (.ifCond .ne 6, 3)) none) (cond (Nat.beq pc 1) (some (.getfield 132, 3)) none)) (cond (Nat.beq pc 0) (some (.aload_n 0, 1)) none))))))
def m_X7_undo : jM := (7, yX7_undo, cX7_undo, 2, (some .int), fun pc => cond (Nat.ble 193 pc) none (jt_X7_undo pc))
set_option maxRecDepth 100000 in
theorem dk_X7_undo : ∀ pc q, m_X7_undo.2.2.2.2.2 pc = some q → decode cX7_undo pc = .ok q := jk_sound (N := 193) (t := jt_X7_undo) (by decide +kernel)
set_option maxRecDepth 100000 in
theorem ok_X7_undo : jok m_X7_undo := ⟨dk_X7_undo, jG_in 1274 rfl rfl, jG_in 94 rfl rfl, by decide +kernel, by decide +kernel, by decide⟩
set_option maxRecDepth 100000 in
theorem vi_X7_undo : jvirt m_X7_undo := ⟨jG_in 1272 rfl rfl, jG_in 1273 rfl rfl⟩
def jt_X7_body : Nat → Option (Instr × Nat) := fun pc => cond (Nat.ble 17 pc) (cond (Nat.ble 21 pc) (cond (Nat.ble 25 pc) (cond (Nat.ble 26 pc) (cond (Nat.ble 29 pc) (cond (Nat.beq pc 29) (some (.return_, 1)) none) (cond (Nat.beq pc 26) (some (.putfield 175, 3)) none)) (cond (Nat.beq pc 25) (some (.iadd, 1)) none)) (cond (Nat.ble 24 pc) (cond (Nat.beq pc 24) (some (.iconst 1, 1)) none) (cond (Nat.beq pc 21) (some (.getfield 175, 3)) none))) (cond (Nat.ble 19 pc) (cond (Nat.ble 20 pc) (cond (Nat.beq pc 20) (some (.dup, 1)) none) (cond (Nat.beq pc 19) (some (.aload_n 0, 1)) none)) (cond (Nat.ble 18 pc) (cond (Nat.beq pc 18) (some (.iastore, 1)) none) (cond (Nat.beq pc 17) (some (.iload_n 1, 1)) none)))) (cond (Nat.ble 9 pc) (cond (Nat.ble 13 pc) (cond (Nat.ble 14 pc) (cond (Nat.beq pc 14) (some (.getfield 175, 3)) none) (cond (Nat.beq pc 13) (some (.aload_n 0, 1)) none)) (cond (Nat.ble 10 pc) (cond (Nat.beq pc 10) (some (.getfield 178, 3)) none) (cond (Nat.beq pc 9) (some (.aload_n 0, 1)) none))) (cond (Nat.ble 4 pc) (cond (Nat.ble 6 pc) (cond (Nat.beq pc 6) (some (.if_icmp .ge 13, 3)) none) (cond (Nat.beq pc 4) (some (.bipush 20, 2)) none)) (cond (Nat.ble 1 pc) (cond (Nat.beq pc 1) (some (.getfield 175, 3)) none) (cond (Nat.beq pc 0) (some (.aload_n 0, 1)) none))))
def m_X7_body : jM := (7, yX7_body, cX7_body, 2, none, fun pc => cond (Nat.ble 30 pc) none (jt_X7_body pc))
set_option maxRecDepth 100000 in
theorem dk_X7_body : ∀ pc q, m_X7_body.2.2.2.2.2 pc = some q → decode cX7_body pc = .ok q := jk_sound (N := 30) (t := jt_X7_body) (by decide +kernel)
set_option maxRecDepth 100000 in
theorem ok_X7_body : jok m_X7_body := ⟨dk_X7_body, jG_in 1286 rfl rfl, jG_in 94 rfl rfl, by decide +kernel, by decide +kernel, by decide⟩
set_option maxRecDepth 100000 in
theorem vi_X7_body : jvirt m_X7_body := ⟨jG_in 1285 rfl rfl, jG_in 78 rfl rfl⟩
def jt_X7_sellerSells : Nat → Option (Instr × Nat) := fun pc => cond (Nat.ble 6 pc) (cond (Nat.ble 8 pc) (cond (Nat.ble 9 pc) (cond (Nat.beq pc 9) (some (.ireturn, 1)) none) (cond (Nat.beq pc 8) (some (.iadd, 1)) none)) (cond (Nat.ble 7 pc) (cond (Nat.beq pc 7) (some (.iload_n 1, 1)) none) (cond (Nat.beq pc 6) (some (.iload_n 2, 1)) none))) (cond (Nat.ble 1 pc) (cond (Nat.ble 3 pc) (cond (Nat.beq pc 3) (some (.invokevirtual 357, 3)) none) (cond (Nat.beq pc 1) (some (.bipush 10, 2)) none)) (cond (Nat.beq pc 0) (some (.aload_n 0, 1)) none))
def m_X7_sellerSells : jM := (7, yX7_sellerSells, cX7_sellerSells, 3, (some .int), fun pc => cond (Nat.ble 10 pc) none (jt_X7_sellerSells pc))
set_option maxRecDepth 100000 in
theorem dk_X7_sellerSells : ∀ pc q, m_X7_sellerSells.2.2.2.2.2 pc = some q → decode cX7_sellerSells pc = .ok q := jk_sound (N := 10) (t := jt_X7_sellerSells) (by decide +kernel)
set_option maxRecDepth 100000 in
theorem ok_X7_sellerSells : jok m_X7_sellerSells := ⟨dk_X7_sellerSells, jG_in 1290 rfl rfl, jG_in 94 rfl rfl, by decide +kernel, by decide +kernel, by decide⟩
set_option maxRecDepth 100000 in
theorem vi_X7_sellerSells : jvirt m_X7_sellerSells := ⟨jG_in 1289 rfl rfl, jG_in 79 rfl rfl⟩
def jt_X7_sellsAct : Nat → Option (Instr × Nat) := fun pc => cond (Nat.ble 64 pc) (cond (Nat.ble 81 pc) (cond (Nat.ble 88 pc) (cond (Nat.ble 91 pc) (cond (Nat.ble 92 pc) (cond (Nat.ble 95 pc) (cond (Nat.beq pc 95) (some (.ireturn, 1)) none) (cond (Nat.beq pc 92) (some (.invokevirtual 360, 3)) none)) (cond (Nat.beq pc 91) (some (.iload_n 2, 1)) none)) (cond (Nat.ble 89 pc) (cond (Nat.ble 90 pc) (cond (Nat.beq pc 90) (some (.iload_n 1, 1)) none) (cond (Nat.beq pc 89) (some (.aload_n 0, 1)) none)) (cond (Nat.beq pc 88) (some (.ireturn, 1)) none))) (cond (Nat.ble 85 pc) (cond (Nat.ble 86 pc) (cond (Nat.ble 87 pc) (cond (Nat.beq pc 87) (some (.ixor, 1)) none) (cond (Nat.beq pc 86) (some (.iaload, 1)) none)) (cond (Nat.beq pc 85) (some (.iload_n 1, 1)) none)) (cond (Nat.ble 82 pc) (cond (Nat.beq pc 82) (some (.getfield 23, 3)) none) (cond (Nat.beq pc 81) (some (.aload_n 0, 1)) none)))) (cond (Nat.ble 72 pc) (cond (Nat.ble 76 pc) (cond (Nat.ble 77 pc) (cond (Nat.ble 78 pc) (cond (Nat.beq pc 78) (some (.invokevirtual 360, 3)) none) (cond (Nat.beq pc 77) (some (.iload_n 2, 1)) none)) (cond (Nat.beq pc 76) (some (.iload_n 1, 1)) none)) (cond (Nat.ble 75 pc) (cond (Nat.beq pc 75) (some (.aload_n 0, 1)) none) (cond (Nat.beq pc 72) (some (.invokevirtual 357, 3)) none))) (cond (Nat.ble 68 pc) (cond (Nat.ble 69 pc) (cond (Nat.ble 70 pc) (cond (Nat.beq pc 70) (some (.bipush 71, 2)) none) (cond (Nat.beq pc 69) (some (.aload_n 0, 1)) none)) (cond (Nat.beq pc 68) (some (.ireturn, 1)) none)) (cond (Nat.ble 67 pc) (cond (Nat.beq pc 67) (some (.ineg, 1)) none) (cond (Nat.beq pc 64) (some (.invokevirtual 360, 3)) none))))) (cond (Nat.ble 48 pc) (cond (Nat.ble 55 pc) (cond (Nat.ble 61 pc) (cond (Nat.ble 62 pc) (cond (Nat.ble 63 pc) (cond (Nat.beq pc 63) (some (.iload_n 2, 1)) none) (cond (Nat.beq pc 62) (some (.iload_n 1, 1)) none)) (cond (Nat.beq pc 61) (some (.aload_n 0, 1)) none)) (cond (Nat.ble 56 pc) (cond (Nat.ble 58 pc) (cond (Nat.beq pc 58) (some (.invokevirtual 357, 3)) none) (cond (Nat.beq pc 56) (some (.bipush 50, 2)) none)) (cond (Nat.beq pc 55) (some (.aload_n 0, 1)) none))) (cond (Nat.ble 50 pc) (cond (Nat.ble 51 pc) (cond (Nat.ble 54 pc) (cond (Nat.beq pc 54) (some (.ireturn, 1)) none) (cond (Nat.beq pc 51) (some (.invokevirtual 360, 3)) none)) (cond (Nat.beq pc 50) (some (.imul, 1)) none)) (cond (Nat.ble 49 pc) (cond (Nat.beq pc 49) (some (.iconst 3, 1)) none) (cond (Nat.beq pc 48) (some (.iload_n 2, 1)) none)))) (cond (Nat.ble 40 pc) (cond (Nat.ble 43 pc) (cond (Nat.ble 46 pc) (cond (Nat.ble 47 pc) (cond (Nat.beq pc 47) (some (.iload_n 1, 1)) none) (cond (Nat.beq pc 46) (some (.aload_n 0, 1)) none)) (cond (Nat.beq pc 43) (some (.invokevirtual 357, 3)) none)) (cond (Nat.ble 41 pc) (cond (Nat.beq pc 41) (some (.bipush 30, 2)) none) (cond (Nat.beq pc 40) (some (.aload_n 0, 1)) none))) (cond (Nat.ble 4 pc) (cond (Nat.ble 5 pc) (cond (Nat.ble 6 pc) (cond (Nat.beq pc 6) (some (.tableswitch 83 2 6 #[34, 83, 49, 34, 63], 34)) none) (cond (Nat.beq pc 5) (some (.iaload, 1)) none)) (cond (Nat.beq pc 4) (some (.iload_n 1, 1)) none)) (cond (Nat.ble 1 pc) (cond (Nat.beq pc 1) (some (.getfield 19, 3)) none) (cond (Nat.beq pc 0) (some (.aload_n 0, 1)) none)))))
def m_X7_sellsAct : jM := (7, yX7_sellsAct, cX7_sellsAct, 3, (some .int), fun pc => cond (Nat.ble 96 pc) none (jt_X7_sellsAct pc))
set_option maxRecDepth 100000 in
theorem dk_X7_sellsAct : ∀ pc q, m_X7_sellsAct.2.2.2.2.2 pc = some q → decode cX7_sellsAct pc = .ok q := jk_sound (N := 96) (t := jt_X7_sellsAct) (by decide +kernel)
set_option maxRecDepth 100000 in
theorem ok_X7_sellsAct : jok m_X7_sellsAct := ⟨dk_X7_sellsAct, jG_in 1282 rfl rfl, jG_in 94 rfl rfl, by decide +kernel, by decide +kernel, by decide⟩
set_option maxRecDepth 100000 in
theorem vi_X7_sellsAct : jvirt m_X7_sellsAct := ⟨jG_in 1281 rfl rfl, jG_in 77 rfl rfl⟩
def jt_X7_sellerGives : Nat → Option (Instr × Nat) := fun pc => cond (Nat.ble 9 pc) (cond (Nat.ble 16 pc) (cond (Nat.ble 18 pc) (cond (Nat.ble 19 pc) (cond (Nat.beq pc 19) (some (.ireturn, 1)) none) (cond (Nat.beq pc 18) (some (.isub, 1)) none)) (cond (Nat.ble 17 pc) (cond (Nat.beq pc 17) (some (.iaload, 1)) none) (cond (Nat.beq pc 16) (some (.iload_n 1, 1)) none))) (cond (Nat.ble 12 pc) (cond (Nat.ble 13 pc) (cond (Nat.beq pc 13) (some (.getfield 23, 3)) none) (cond (Nat.beq pc 12) (some (.aload_n 0, 1)) none)) (cond (Nat.beq pc 9) (some (.invokevirtual 363, 3)) none))) (cond (Nat.ble 6 pc) (cond (Nat.ble 7 pc) (cond (Nat.ble 8 pc) (cond (Nat.beq pc 8) (some (.iload_n 2, 1)) none) (cond (Nat.beq pc 7) (some (.iload_n 1, 1)) none)) (cond (Nat.beq pc 6) (some (.aload_n 0, 1)) none)) (cond (Nat.ble 1 pc) (cond (Nat.ble 3 pc) (cond (Nat.beq pc 3) (some (.invokevirtual 357, 3)) none) (cond (Nat.beq pc 1) (some (.bipush 11, 2)) none)) (cond (Nat.beq pc 0) (some (.aload_n 0, 1)) none)))
def m_X7_sellerGives : jM := (7, yX7_sellerGives, cX7_sellerGives, 3, (some .int), fun pc => cond (Nat.ble 20 pc) none (jt_X7_sellerGives pc))
set_option maxRecDepth 100000 in
theorem dk_X7_sellerGives : ∀ pc q, m_X7_sellerGives.2.2.2.2.2 pc = some q → decode cX7_sellerGives pc = .ok q := jk_sound (N := 20) (t := jt_X7_sellerGives) (by decide +kernel)
set_option maxRecDepth 100000 in
theorem ok_X7_sellerGives : jok m_X7_sellerGives := ⟨dk_X7_sellerGives, jG_in 1302 rfl rfl, jG_in 94 rfl rfl, by decide +kernel, by decide +kernel, by decide⟩
set_option maxRecDepth 100000 in
theorem vi_X7_sellerGives : jvirt m_X7_sellerGives := ⟨jG_in 1301 rfl rfl, jG_in 82 rfl rfl⟩
def jt_X7_haterGives : Nat → Option (Instr × Nat) := fun pc => cond (Nat.ble 8 pc) (cond (Nat.ble 12 pc) (cond (Nat.ble 14 pc) (cond (Nat.ble 15 pc) (cond (Nat.beq pc 15) (some (.ireturn, 1)) none) (cond (Nat.beq pc 14) (some (.ixor, 1)) none)) (cond (Nat.beq pc 12) (some (.bipush 6, 2)) none)) (cond (Nat.ble 9 pc) (cond (Nat.beq pc 9) (some (.invokevirtual 366, 3)) none) (cond (Nat.beq pc 8) (some (.iload_n 2, 1)) none))) (cond (Nat.ble 3 pc) (cond (Nat.ble 6 pc) (cond (Nat.ble 7 pc) (cond (Nat.beq pc 7) (some (.iload_n 1, 1)) none) (cond (Nat.beq pc 6) (some (.aload_n 0, 1)) none)) (cond (Nat.beq pc 3) (some (.invokevirtual 357, 3)) none)) (cond (Nat.ble 1 pc) (cond (Nat.beq pc 1) (some (.bipush 20, 2)) none) (cond (Nat.beq pc 0) (some (.aload_n 0, 1)) none)))
def m_X7_haterGives : jM := (7, yX7_haterGives, cX7_haterGives, 3, (some .int), fun pc => cond (Nat.ble 16 pc) none (jt_X7_haterGives pc))
set_option maxRecDepth 100000 in
theorem dk_X7_haterGives : ∀ pc q, m_X7_haterGives.2.2.2.2.2 pc = some q → decode cX7_haterGives pc = .ok q := jk_sound (N := 16) (t := jt_X7_haterGives) (by decide +kernel)
set_option maxRecDepth 100000 in
theorem ok_X7_haterGives : jok m_X7_haterGives := ⟨dk_X7_haterGives, jG_in 1298 rfl rfl, jG_in 94 rfl rfl, by decide +kernel, by decide +kernel, by decide⟩
set_option maxRecDepth 100000 in
theorem vi_X7_haterGives : jvirt m_X7_haterGives := ⟨jG_in 1297 rfl rfl, jG_in 81 rfl rfl⟩
def jt_X7_givesAct : Nat → Option (Instr × Nat) := fun pc => cond (Nat.ble 62 pc) (cond (Nat.ble 77 pc) (cond (Nat.ble 84 pc) (cond (Nat.ble 86 pc) (cond (Nat.ble 87 pc) (cond (Nat.ble 90 pc) (cond (Nat.beq pc 90) (some (.ireturn, 1)) none) (cond (Nat.beq pc 87) (some (.invokevirtual 366, 3)) none)) (cond (Nat.beq pc 86) (some (.iload_n 2, 1)) none)) (cond (Nat.ble 85 pc) (cond (Nat.beq pc 85) (some (.iload_n 1, 1)) none) (cond (Nat.beq pc 84) (some (.aload_n 0, 1)) none))) (cond (Nat.ble 79 pc) (cond (Nat.ble 82 pc) (cond (Nat.ble 83 pc) (cond (Nat.beq pc 83) (some (.ireturn, 1)) none) (cond (Nat.beq pc 82) (some (.iadd, 1)) none)) (cond (Nat.beq pc 79) (some (.invokevirtual 360, 3)) none)) (cond (Nat.ble 78 pc) (cond (Nat.beq pc 78) (some (.iconst 2, 1)) none) (cond (Nat.beq pc 77) (some (.iload_n 1, 1)) none)))) (cond (Nat.ble 70 pc) (cond (Nat.ble 74 pc) (cond (Nat.ble 75 pc) (cond (Nat.ble 76 pc) (cond (Nat.beq pc 76) (some (.aload_n 0, 1)) none) (cond (Nat.beq pc 75) (some (.iload_n 3, 1)) none)) (cond (Nat.beq pc 74) (some (.istore_n 3, 1)) none)) (cond (Nat.ble 71 pc) (cond (Nat.beq pc 71) (some (.invokevirtual 366, 3)) none) (cond (Nat.beq pc 70) (some (.iload_n 2, 1)) none))) (cond (Nat.ble 65 pc) (cond (Nat.ble 68 pc) (cond (Nat.ble 69 pc) (cond (Nat.beq pc 69) (some (.iload_n 1, 1)) none) (cond (Nat.beq pc 68) (some (.aload_n 0, 1)) none)) (cond (Nat.beq pc 65) (some (.invokevirtual 357, 3)) none)) (cond (Nat.ble 63 pc) (cond (Nat.beq pc 63) (some (.bipush 70, 2)) none) (cond (Nat.beq pc 62) (some (.aload_n 0, 1)) none))))) (cond (Nat.ble 47 pc) (cond (Nat.ble 55 pc) (cond (Nat.ble 57 pc) (cond (Nat.ble 58 pc) (cond (Nat.ble 61 pc) (cond (Nat.beq pc 61) (some (.ireturn, 1)) none) (cond (Nat.beq pc 58) (some (.invokevirtual 369, 3)) none)) (cond (Nat.beq pc 57) (some (.iadd, 1)) none)) (cond (Nat.ble 56 pc) (cond (Nat.beq pc 56) (some (.iconst 1, 1)) none) (cond (Nat.beq pc 55) (some (.iload_n 2, 1)) none))) (cond (Nat.ble 50 pc) (cond (Nat.ble 53 pc) (cond (Nat.ble 54 pc) (cond (Nat.beq pc 54) (some (.iload_n 1, 1)) none) (cond (Nat.beq pc 53) (some (.aload_n 0, 1)) none)) (cond (Nat.beq pc 50) (some (.invokevirtual 357, 3)) none)) (cond (Nat.ble 48 pc) (cond (Nat.beq pc 48) (some (.bipush 51, 2)) none) (cond (Nat.beq pc 47) (some (.aload_n 0, 1)) none)))) (cond (Nat.ble 40 pc) (cond (Nat.ble 42 pc) (cond (Nat.ble 43 pc) (cond (Nat.ble 46 pc) (cond (Nat.beq pc 46) (some (.ireturn, 1)) none) (cond (Nat.beq pc 43) (some (.invokevirtual 369, 3)) none)) (cond (Nat.beq pc 42) (some (.iload_n 2, 1)) none)) (cond (Nat.ble 41 pc) (cond (Nat.beq pc 41) (some (.iload_n 1, 1)) none) (cond (Nat.beq pc 40) (some (.aload_n 0, 1)) none))) (cond (Nat.ble 4 pc) (cond (Nat.ble 5 pc) (cond (Nat.ble 6 pc) (cond (Nat.beq pc 6) (some (.lookupswitch 78 #[(1, 34), (4, 41), (6, 56)], 34)) none) (cond (Nat.beq pc 5) (some (.iaload, 1)) none)) (cond (Nat.beq pc 4) (some (.iload_n 1, 1)) none)) (cond (Nat.ble 1 pc) (cond (Nat.beq pc 1) (some (.getfield 19, 3)) none) (cond (Nat.beq pc 0) (some (.aload_n 0, 1)) none)))))
def m_X7_givesAct : jM := (7, yX7_givesAct, cX7_givesAct, 4, (some .int), fun pc => cond (Nat.ble 91 pc) none (jt_X7_givesAct pc))
set_option maxRecDepth 100000 in
theorem dk_X7_givesAct : ∀ pc q, m_X7_givesAct.2.2.2.2.2 pc = some q → decode cX7_givesAct pc = .ok q := jk_sound (N := 91) (t := jt_X7_givesAct) (by decide +kernel)
set_option maxRecDepth 100000 in
theorem ok_X7_givesAct : jok m_X7_givesAct := ⟨dk_X7_givesAct, jG_in 1294 rfl rfl, jG_in 94 rfl rfl, by decide +kernel, by decide +kernel, by decide⟩
set_option maxRecDepth 100000 in
theorem vi_X7_givesAct : jvirt m_X7_givesAct := ⟨jG_in 1293 rfl rfl, jG_in 80 rfl rfl⟩
def jt_X7_sellerTells : Nat → Option (Instr × Nat) := fun pc => cond (Nat.ble 8 pc) (cond (Nat.ble 12 pc) (cond (Nat.ble 13 pc) (cond (Nat.ble 14 pc) (cond (Nat.beq pc 14) (some (.ireturn, 1)) none) (cond (Nat.beq pc 13) (some (.imul, 1)) none)) (cond (Nat.beq pc 12) (some (.iconst 2, 1)) none)) (cond (Nat.ble 9 pc) (cond (Nat.beq pc 9) (some (.invokevirtual 372, 3)) none) (cond (Nat.beq pc 8) (some (.iload_n 2, 1)) none))) (cond (Nat.ble 3 pc) (cond (Nat.ble 6 pc) (cond (Nat.ble 7 pc) (cond (Nat.beq pc 7) (some (.iload_n 1, 1)) none) (cond (Nat.beq pc 6) (some (.aload_n 0, 1)) none)) (cond (Nat.beq pc 3) (some (.invokevirtual 357, 3)) none)) (cond (Nat.ble 1 pc) (cond (Nat.beq pc 1) (some (.bipush 12, 2)) none) (cond (Nat.beq pc 0) (some (.aload_n 0, 1)) none)))
def m_X7_sellerTells : jM := (7, yX7_sellerTells, cX7_sellerTells, 3, (some .int), fun pc => cond (Nat.ble 15 pc) none (jt_X7_sellerTells pc))
set_option maxRecDepth 100000 in
theorem dk_X7_sellerTells : ∀ pc q, m_X7_sellerTells.2.2.2.2.2 pc = some q → decode cX7_sellerTells pc = .ok q := jk_sound (N := 15) (t := jt_X7_sellerTells) (by decide +kernel)
set_option maxRecDepth 100000 in
theorem ok_X7_sellerTells : jok m_X7_sellerTells := ⟨dk_X7_sellerTells, jG_in 1310 rfl rfl, jG_in 94 rfl rfl, by decide +kernel, by decide +kernel, by decide⟩
set_option maxRecDepth 100000 in
theorem vi_X7_sellerTells : jvirt m_X7_sellerTells := ⟨jG_in 1309 rfl rfl, jG_in 84 rfl rfl⟩
def jt_X7_tellsAct : Nat → Option (Instr × Nat) := fun pc => cond (Nat.ble 53 pc) (cond (Nat.ble 67 pc) (cond (Nat.ble 73 pc) (cond (Nat.ble 75 pc) (cond (Nat.ble 76 pc) (cond (Nat.ble 79 pc) (cond (Nat.beq pc 79) (some (.ireturn, 1)) none) (cond (Nat.beq pc 76) (some (.invokevirtual 375, 3)) none)) (cond (Nat.beq pc 75) (some (.iload_n 2, 1)) none)) (cond (Nat.ble 74 pc) (cond (Nat.beq pc 74) (some (.iload_n 1, 1)) none) (cond (Nat.beq pc 73) (some (.aload_n 0, 1)) none))) (cond (Nat.ble 69 pc) (cond (Nat.ble 72 pc) (cond (Nat.beq pc 72) (some (.ireturn, 1)) none) (cond (Nat.beq pc 69) (some (.invokevirtual 375, 3)) none)) (cond (Nat.ble 68 pc) (cond (Nat.beq pc 68) (some (.isub, 1)) none) (cond (Nat.beq pc 67) (some (.iload_n 1, 1)) none)))) (cond (Nat.ble 59 pc) (cond (Nat.ble 64 pc) (cond (Nat.ble 65 pc) (cond (Nat.ble 66 pc) (cond (Nat.beq pc 66) (some (.iload_n 2, 1)) none) (cond (Nat.beq pc 65) (some (.iload_n 1, 1)) none)) (cond (Nat.beq pc 64) (some (.aload_n 0, 1)) none)) (cond (Nat.ble 61 pc) (cond (Nat.beq pc 61) (some (.invokevirtual 357, 3)) none) (cond (Nat.beq pc 59) (some (.bipush 60, 2)) none))) (cond (Nat.ble 57 pc) (cond (Nat.ble 58 pc) (cond (Nat.beq pc 58) (some (.aload_n 0, 1)) none) (cond (Nat.beq pc 57) (some (.ireturn, 1)) none)) (cond (Nat.ble 56 pc) (cond (Nat.beq pc 56) (some (.iadd, 1)) none) (cond (Nat.beq pc 53) (some (.invokevirtual 372, 3)) none))))) (cond (Nat.ble 42 pc) (cond (Nat.ble 48 pc) (cond (Nat.ble 50 pc) (cond (Nat.ble 51 pc) (cond (Nat.ble 52 pc) (cond (Nat.beq pc 52) (some (.iconst 1, 1)) none) (cond (Nat.beq pc 51) (some (.iload_n 1, 1)) none)) (cond (Nat.beq pc 50) (some (.aload_n 0, 1)) none)) (cond (Nat.ble 49 pc) (cond (Nat.beq pc 49) (some (.iload_n 3, 1)) none) (cond (Nat.beq pc 48) (some (.istore_n 3, 1)) none))) (cond (Nat.ble 44 pc) (cond (Nat.ble 45 pc) (cond (Nat.beq pc 45) (some (.invokevirtual 375, 3)) none) (cond (Nat.beq pc 44) (some (.iload_n 2, 1)) none)) (cond (Nat.ble 43 pc) (cond (Nat.beq pc 43) (some (.iload_n 1, 1)) none) (cond (Nat.beq pc 42) (some (.aload_n 0, 1)) none)))) (cond (Nat.ble 6 pc) (cond (Nat.ble 37 pc) (cond (Nat.ble 39 pc) (cond (Nat.beq pc 39) (some (.invokevirtual 357, 3)) none) (cond (Nat.beq pc 37) (some (.bipush 40, 2)) none)) (cond (Nat.ble 36 pc) (cond (Nat.beq pc 36) (some (.aload_n 0, 1)) none) (cond (Nat.beq pc 6) (some (.tableswitch 67 3 6 #[30, 67, 52, 30], 30)) none))) (cond (Nat.ble 4 pc) (cond (Nat.ble 5 pc) (cond (Nat.beq pc 5) (some (.iaload, 1)) none) (cond (Nat.beq pc 4) (some (.iload_n 1, 1)) none)) (cond (Nat.ble 1 pc) (cond (Nat.beq pc 1) (some (.getfield 19, 3)) none) (cond (Nat.beq pc 0) (some (.aload_n 0, 1)) none)))))
def m_X7_tellsAct : jM := (7, yX7_tellsAct, cX7_tellsAct, 4, (some .int), fun pc => cond (Nat.ble 80 pc) none (jt_X7_tellsAct pc))
set_option maxRecDepth 100000 in
theorem dk_X7_tellsAct : ∀ pc q, m_X7_tellsAct.2.2.2.2.2 pc = some q → decode cX7_tellsAct pc = .ok q := jk_sound (N := 80) (t := jt_X7_tellsAct) (by decide +kernel)
set_option maxRecDepth 100000 in
theorem ok_X7_tellsAct : jok m_X7_tellsAct := ⟨dk_X7_tellsAct, jG_in 1306 rfl rfl, jG_in 94 rfl rfl, by decide +kernel, by decide +kernel, by decide⟩
set_option maxRecDepth 100000 in
theorem vi_X7_tellsAct : jvirt m_X7_tellsAct := ⟨jG_in 1305 rfl rfl, jG_in 83 rfl rfl⟩
def jt_X7_act : Nat → Option (Instr × Nat) := fun pc => cond (Nat.ble 29 pc) (cond (Nat.ble 44 pc) (cond (Nat.ble 52 pc) (cond (Nat.ble 54 pc) (cond (Nat.ble 55 pc) (cond (Nat.ble 58 pc) (cond (Nat.beq pc 58) (some (.ireturn, 1)) none) (cond (Nat.beq pc 55) (some (.invokevirtual 378, 3)) none)) (cond (Nat.beq pc 54) (some (.iload_n 3, 1)) none)) (cond (Nat.ble 53 pc) (cond (Nat.beq pc 53) (some (.iload_n 1, 1)) none) (cond (Nat.beq pc 52) (some (.aload_n 0, 1)) none))) (cond (Nat.ble 46 pc) (cond (Nat.ble 49 pc) (cond (Nat.beq pc 49) (some (.goto 9, 3)) none) (cond (Nat.beq pc 46) (some (.invokevirtual 372, 3)) none)) (cond (Nat.ble 45 pc) (cond (Nat.beq pc 45) (some (.iload_n 3, 1)) none) (cond (Nat.beq pc 44) (some (.iload_n 1, 1)) none)))) (cond (Nat.ble 35 pc) (cond (Nat.ble 39 pc) (cond (Nat.ble 40 pc) (cond (Nat.ble 43 pc) (cond (Nat.beq pc 43) (some (.aload_n 0, 1)) none) (cond (Nat.beq pc 40) (some (.if_icmp .ne 12, 3)) none)) (cond (Nat.beq pc 39) (some (.iconst 1, 1)) none)) (cond (Nat.ble 38 pc) (cond (Nat.beq pc 38) (some (.iload_n 2, 1)) none) (cond (Nat.beq pc 35) (some (.goto 23, 3)) none))) (cond (Nat.ble 31 pc) (cond (Nat.ble 32 pc) (cond (Nat.beq pc 32) (some (.invokevirtual 363, 3)) none) (cond (Nat.beq pc 31) (some (.iload_n 3, 1)) none)) (cond (Nat.ble 30 pc) (cond (Nat.beq pc 30) (some (.iload_n 1, 1)) none) (cond (Nat.beq pc 29) (some (.aload_n 0, 1)) none))))) (cond (Nat.ble 14 pc) (cond (Nat.ble 20 pc) (cond (Nat.ble 24 pc) (cond (Nat.ble 25 pc) (cond (Nat.ble 26 pc) (cond (Nat.beq pc 26) (some (.ifCond .ne 12, 3)) none) (cond (Nat.beq pc 25) (some (.iload_n 2, 1)) none)) (cond (Nat.beq pc 24) (some (.ireturn, 1)) none)) (cond (Nat.ble 23 pc) (cond (Nat.beq pc 23) (some (.iconst 0, 1)) none) (cond (Nat.beq pc 20) (some (.ifCond .ne 5, 3)) none))) (cond (Nat.ble 16 pc) (cond (Nat.ble 17 pc) (cond (Nat.beq pc 17) (some (.invokevirtual 194, 3)) none) (cond (Nat.beq pc 16) (some (.iconst 2, 1)) none)) (cond (Nat.ble 15 pc) (cond (Nat.beq pc 15) (some (.iconst 0, 1)) none) (cond (Nat.beq pc 14) (some (.iload_n 2, 1)) none)))) (cond (Nat.ble 6 pc) (cond (Nat.ble 10 pc) (cond (Nat.ble 13 pc) (cond (Nat.beq pc 13) (some (.aload_n 0, 1)) none) (cond (Nat.beq pc 10) (some (.ifCond .eq 13, 3)) none)) (cond (Nat.ble 7 pc) (cond (Nat.beq pc 7) (some (.invokevirtual 206, 3)) none) (cond (Nat.beq pc 6) (some (.iload_n 1, 1)) none))) (cond (Nat.ble 2 pc) (cond (Nat.ble 5 pc) (cond (Nat.beq pc 5) (some (.aload_n 0, 1)) none) (cond (Nat.beq pc 2) (some (.putfield 175, 3)) none)) (cond (Nat.ble 1 pc) (cond (Nat.beq pc 1) (some (.iconst 0, 1)) none) (cond (Nat.beq pc 0) (some (.aload_n 0, 1)) none)))))
def m_X7_act : jM := (7, yX7_act, cX7_act, 4, (some .int), fun pc => cond (Nat.ble 59 pc) none (jt_X7_act pc))
set_option maxRecDepth 100000 in
theorem dk_X7_act : ∀ pc q, m_X7_act.2.2.2.2.2 pc = some q → decode cX7_act pc = .ok q := jk_sound (N := 59) (t := jt_X7_act) (by decide +kernel)
set_option maxRecDepth 100000 in
theorem ok_X7_act : jok m_X7_act := ⟨dk_X7_act, jG_in 1278 rfl rfl, jG_in 94 rfl rfl, by decide +kernel, by decide +kernel, by decide⟩
set_option maxRecDepth 100000 in
theorem vi_X7_act : jvirt m_X7_act := ⟨jG_in 1276 rfl rfl, jG_in 1277 rfl rfl⟩
def jt_X7_trace : Nat → Option (Instr × Nat) := fun pc => cond (Nat.ble 13 pc) (cond (Nat.ble 23 pc) (cond (Nat.ble 25 pc) (cond (Nat.ble 28 pc) (cond (Nat.ble 29 pc) (cond (Nat.beq pc 29) (some (.ireturn, 1)) none) (cond (Nat.beq pc 28) (some (.iconst (-1), 1)) none)) (cond (Nat.beq pc 25) (some (.goto 4, 3)) none)) (cond (Nat.ble 24 pc) (cond (Nat.beq pc 24) (some (.iaload, 1)) none) (cond (Nat.beq pc 23) (some (.iload_n 1, 1)) none))) (cond (Nat.ble 19 pc) (cond (Nat.ble 20 pc) (cond (Nat.beq pc 20) (some (.getfield 178, 3)) none) (cond (Nat.beq pc 19) (some (.aload_n 0, 1)) none)) (cond (Nat.ble 16 pc) (cond (Nat.beq pc 16) (some (.if_icmp .ge 12, 3)) none) (cond (Nat.beq pc 13) (some (.getfield 175, 3)) none)))) (cond (Nat.ble 5 pc) (cond (Nat.ble 11 pc) (cond (Nat.ble 12 pc) (cond (Nat.beq pc 12) (some (.aload_n 0, 1)) none) (cond (Nat.beq pc 11) (some (.iload_n 1, 1)) none)) (cond (Nat.ble 8 pc) (cond (Nat.beq pc 8) (some (.ifCond .eq 20, 3)) none) (cond (Nat.beq pc 5) (some (.invokevirtual 194, 3)) none))) (cond (Nat.ble 2 pc) (cond (Nat.ble 3 pc) (cond (Nat.beq pc 3) (some (.bipush 19, 2)) none) (cond (Nat.beq pc 2) (some (.iconst 0, 1)) none)) (cond (Nat.ble 1 pc) (cond (Nat.beq pc 1) (some (.iload_n 1, 1)) none) (cond (Nat.beq pc 0) (some (.aload_n 0, 1)) none))))
def m_X7_trace : jM := (7, yX7_trace, cX7_trace, 2, (some .int), fun pc => cond (Nat.ble 30 pc) none (jt_X7_trace pc))
set_option maxRecDepth 100000 in
theorem dk_X7_trace : ∀ pc q, m_X7_trace.2.2.2.2.2 pc = some q → decode cX7_trace pc = .ok q := jk_sound (N := 30) (t := jt_X7_trace) (by decide +kernel)
set_option maxRecDepth 100000 in
theorem ok_X7_trace : jok m_X7_trace := ⟨dk_X7_trace, jG_in 1314 rfl rfl, jG_in 94 rfl rfl, by decide +kernel, by decide +kernel, by decide⟩
set_option maxRecDepth 100000 in
theorem vi_X7_trace : jvirt m_X7_trace := ⟨jG_in 1312 rfl rfl, jG_in 1313 rfl rfl⟩
def jt_X7_taken : Nat → Option (Instr × Nat) := fun pc => cond (Nat.ble 38 pc) (cond (Nat.ble 57 pc) (cond (Nat.ble 67 pc) (cond (Nat.ble 73 pc) (cond (Nat.ble 76 pc) (cond (Nat.ble 78 pc) (cond (Nat.beq pc 78) (some (.ireturn, 1)) none) (cond (Nat.beq pc 76) (some (.bipush (-12), 2)) none)) (cond (Nat.beq pc 73) (some (.goto 5, 3)) none)) (cond (Nat.ble 69 pc) (cond (Nat.ble 72 pc) (cond (Nat.beq pc 72) (some (.iload_n 3, 1)) none) (cond (Nat.beq pc 69) (some (.if_icmp .ne 7, 3)) none)) (cond (Nat.beq pc 67) (some (.bipush 6, 2)) none))) (cond (Nat.ble 62 pc) (cond (Nat.ble 63 pc) (cond (Nat.ble 66 pc) (cond (Nat.beq pc 66) (some (.iload_n 3, 1)) none) (cond (Nat.beq pc 63) (some (.if_icmp .ne 13, 3)) none)) (cond (Nat.beq pc 62) (some (.iconst 3, 1)) none)) (cond (Nat.ble 58 pc) (cond (Nat.ble 61 pc) (cond (Nat.beq pc 61) (some (.iload_n 2, 1)) none) (cond (Nat.beq pc 58) (some (.if_icmp .eq 14, 3)) none)) (cond (Nat.beq pc 57) (some (.iconst 5, 1)) none)))) (cond (Nat.ble 47 pc) (cond (Nat.ble 52 pc) (cond (Nat.ble 53 pc) (cond (Nat.ble 56 pc) (cond (Nat.beq pc 56) (some (.iload_n 3, 1)) none) (cond (Nat.beq pc 53) (some (.if_icmp .ne 8, 3)) none)) (cond (Nat.beq pc 52) (some (.iconst 2, 1)) none)) (cond (Nat.ble 48 pc) (cond (Nat.ble 51 pc) (cond (Nat.beq pc 51) (some (.iload_n 2, 1)) none) (cond (Nat.beq pc 48) (some (.if_icmp .eq 24, 3)) none)) (cond (Nat.beq pc 47) (some (.iconst 4, 1)) none))) (cond (Nat.ble 42 pc) (cond (Nat.ble 43 pc) (cond (Nat.ble 46 pc) (cond (Nat.beq pc 46) (some (.iload_n 3, 1)) none) (cond (Nat.beq pc 43) (some (.if_icmp .ne 8, 3)) none)) (cond (Nat.beq pc 42) (some (.iconst 1, 1)) none)) (cond (Nat.ble 41 pc) (cond (Nat.beq pc 41) (some (.iload_n 2, 1)) none) (cond (Nat.beq pc 38) (some (.if_icmp .eq 34, 3)) none))))) (cond (Nat.ble 19 pc) (cond (Nat.ble 30 pc) (cond (Nat.ble 33 pc) (cond (Nat.ble 36 pc) (cond (Nat.ble 37 pc) (cond (Nat.beq pc 37) (some (.iload_n 2, 1)) none) (cond (Nat.beq pc 36) (some (.iload_n 3, 1)) none)) (cond (Nat.beq pc 33) (some (.ifCond .eq 39, 3)) none)) (cond (Nat.ble 31 pc) (cond (Nat.ble 32 pc) (cond (Nat.beq pc 32) (some (.iload_n 2, 1)) none) (cond (Nat.beq pc 31) (some (.istore_n 3, 1)) none)) (cond (Nat.beq pc 30) (some (.iaload, 1)) none))) (cond (Nat.ble 25 pc) (cond (Nat.ble 26 pc) (cond (Nat.ble 29 pc) (cond (Nat.beq pc 29) (some (.iload_n 1, 1)) none) (cond (Nat.beq pc 26) (some (.getfield 19, 3)) none)) (cond (Nat.beq pc 25) (some (.aload_n 0, 1)) none)) (cond (Nat.ble 22 pc) (cond (Nat.ble 24 pc) (cond (Nat.beq pc 24) (some (.ireturn, 1)) none) (cond (Nat.beq pc 22) (some (.bipush (-11), 2)) none)) (cond (Nat.beq pc 19) (some (.ifCond .ne 6, 3)) none)))) (cond (Nat.ble 8 pc) (cond (Nat.ble 14 pc) (cond (Nat.ble 15 pc) (cond (Nat.ble 16 pc) (cond (Nat.beq pc 16) (some (.invokevirtual 206, 3)) none) (cond (Nat.beq pc 15) (some (.iload_n 1, 1)) none)) (cond (Nat.beq pc 14) (some (.aload_n 0, 1)) none)) (cond (Nat.ble 11 pc) (cond (Nat.ble 13 pc) (cond (Nat.beq pc 13) (some (.ireturn, 1)) none) (cond (Nat.beq pc 11) (some (.bipush (-2), 2)) none)) (cond (Nat.beq pc 8) (some (.ifCond .ne 6, 3)) none))) (cond (Nat.ble 2 pc) (cond (Nat.ble 3 pc) (cond (Nat.ble 5 pc) (cond (Nat.beq pc 5) (some (.invokevirtual 194, 3)) none) (cond (Nat.beq pc 3) (some (.bipush 6, 2)) none)) (cond (Nat.beq pc 2) (some (.iconst 0, 1)) none)) (cond (Nat.ble 1 pc) (cond (Nat.beq pc 1) (some (.iload_n 2, 1)) none) (cond (Nat.beq pc 0) (some (.aload_n 0, 1)) none)))))
def m_X7_taken : jM := (7, yX7_taken, cX7_taken, 4, (some .int), fun pc => cond (Nat.ble 79 pc) none (jt_X7_taken pc))
set_option maxRecDepth 100000 in
theorem dk_X7_taken : ∀ pc q, m_X7_taken.2.2.2.2.2 pc = some q → decode cX7_taken pc = .ok q := jk_sound (N := 79) (t := jt_X7_taken) (by decide +kernel)
set_option maxRecDepth 100000 in
theorem ok_X7_taken : jok m_X7_taken := ⟨dk_X7_taken, jG_in 1318 rfl rfl, jG_in 94 rfl rfl, by decide +kernel, by decide +kernel, by decide⟩
set_option maxRecDepth 100000 in
theorem vi_X7_taken : jvirt m_X7_taken := ⟨jG_in 1316 rfl rfl, jG_in 1317 rfl rfl⟩
def jt_X7_count : Nat → Option (Instr × Nat) := fun pc => cond (Nat.ble 47 pc) (cond (Nat.ble 56 pc) (cond (Nat.ble 60 pc) (cond (Nat.ble 61 pc) (cond (Nat.ble 63 pc) (cond (Nat.beq pc 63) (some (.ireturn, 1)) none) (cond (Nat.beq pc 61) (some (.bipush (-2), 2)) none)) (cond (Nat.beq pc 60) (some (.ireturn, 1)) none)) (cond (Nat.ble 57 pc) (cond (Nat.beq pc 57) (some (.getfield 175, 3)) none) (cond (Nat.beq pc 56) (some (.aload_n 0, 1)) none))) (cond (Nat.ble 51 pc) (cond (Nat.ble 52 pc) (cond (Nat.ble 55 pc) (cond (Nat.beq pc 55) (some (.ireturn, 1)) none) (cond (Nat.beq pc 52) (some (.getfield 48, 3)) none)) (cond (Nat.beq pc 51) (some (.aload_n 0, 1)) none)) (cond (Nat.ble 50 pc) (cond (Nat.beq pc 50) (some (.ireturn, 1)) none) (cond (Nat.beq pc 47) (some (.getfield 126, 3)) none)))) (cond (Nat.ble 40 pc) (cond (Nat.ble 42 pc) (cond (Nat.ble 45 pc) (cond (Nat.ble 46 pc) (cond (Nat.beq pc 46) (some (.aload_n 0, 1)) none) (cond (Nat.beq pc 45) (some (.ireturn, 1)) none)) (cond (Nat.beq pc 42) (some (.getfield 42, 3)) none)) (cond (Nat.ble 41 pc) (cond (Nat.beq pc 41) (some (.aload_n 0, 1)) none) (cond (Nat.beq pc 40) (some (.ireturn, 1)) none))) (cond (Nat.ble 36 pc) (cond (Nat.ble 37 pc) (cond (Nat.beq pc 37) (some (.getfield 7, 3)) none) (cond (Nat.beq pc 36) (some (.aload_n 0, 1)) none)) (cond (Nat.ble 1 pc) (cond (Nat.beq pc 1) (some (.tableswitch 60 0 4 #[35, 40, 45, 50, 55], 35)) none) (cond (Nat.beq pc 0) (some (.iload_n 1, 1)) none))))
def m_X7_count : jM := (7, yX7_count, cX7_count, 2, (some .int), fun pc => cond (Nat.ble 64 pc) none (jt_X7_count pc))
set_option maxRecDepth 100000 in
theorem dk_X7_count : ∀ pc q, m_X7_count.2.2.2.2.2 pc = some q → decode cX7_count pc = .ok q := jk_sound (N := 64) (t := jt_X7_count) (by decide +kernel)
set_option maxRecDepth 100000 in
theorem ok_X7_count : jok m_X7_count := ⟨dk_X7_count, jG_in 1322 rfl rfl, jG_in 94 rfl rfl, by decide +kernel, by decide +kernel, by decide⟩
set_option maxRecDepth 100000 in
theorem vi_X7_count : jvirt m_X7_count := ⟨jG_in 1320 rfl rfl, jG_in 1321 rfl rfl⟩
def jt_X7_isTape : Nat → Option (Instr × Nat) := fun pc => cond (Nat.ble 3 pc) (cond (Nat.ble 4 pc) (cond (Nat.ble 7 pc) (cond (Nat.beq pc 7) (some (.ireturn, 1)) none) (cond (Nat.beq pc 4) (some (.invokevirtual 194, 3)) none)) (cond (Nat.beq pc 3) (some (.iconst 5, 1)) none)) (cond (Nat.ble 1 pc) (cond (Nat.ble 2 pc) (cond (Nat.beq pc 2) (some (.iconst 0, 1)) none) (cond (Nat.beq pc 1) (some (.iload_n 1, 1)) none)) (cond (Nat.beq pc 0) (some (.aload_n 0, 1)) none))
def m_X7_isTape : jM := (7, yX7_isTape, cX7_isTape, 2, (some .boolean), fun pc => cond (Nat.ble 8 pc) none (jt_X7_isTape pc))
set_option maxRecDepth 100000 in
theorem dk_X7_isTape : ∀ pc q, m_X7_isTape.2.2.2.2.2 pc = some q → decode cX7_isTape pc = .ok q := jk_sound (N := 8) (t := jt_X7_isTape) (by decide +kernel)
set_option maxRecDepth 100000 in
theorem ok_X7_isTape : jok m_X7_isTape := ⟨dk_X7_isTape, jG_in 1266 rfl rfl, jG_in 94 rfl rfl, by decide +kernel, by decide +kernel, by decide⟩
set_option maxRecDepth 100000 in
theorem vi_X7_isTape : jvirt m_X7_isTape := ⟨jG_in 1265 rfl rfl, jG_in 76 rfl rfl⟩
def jt_X7_tape : Nat → Option (Instr × Nat) := fun pc => cond (Nat.ble 49 pc) (cond (Nat.ble 71 pc) (cond (Nat.ble 84 pc) (cond (Nat.ble 89 pc) (cond (Nat.ble 95 pc) (cond (Nat.ble 96 pc) (cond (Nat.beq pc 96) (some (.ireturn, 1)) none) (cond (Nat.beq pc 95) (some (.iconst 1, 1)) none)) (cond (Nat.ble 92 pc) (cond (Nat.beq pc 92) (some (.goto (-23), 3)) none) (cond (Nat.beq pc 89) (some (.iinc 4 1, 3)) none))) (cond (Nat.ble 87 pc) (cond (Nat.ble 88 pc) (cond (Nat.beq pc 88) (some (.lastore, 1)) none) (cond (Nat.beq pc 87) (some (.lconst 0, 1)) none)) (cond (Nat.ble 86 pc) (cond (Nat.beq pc 86) (some (.iadd, 1)) none) (cond (Nat.beq pc 84) (some (.iload 4, 2)) none)))) (cond (Nat.ble 77 pc) (cond (Nat.ble 82 pc) (cond (Nat.ble 83 pc) (cond (Nat.beq pc 83) (some (.imul, 1)) none) (cond (Nat.beq pc 82) (some (.iload_n 1, 1)) none)) (cond (Nat.ble 80 pc) (cond (Nat.beq pc 80) (some (.bipush 60, 2)) none) (cond (Nat.beq pc 77) (some (.getfield 187, 3)) none))) (cond (Nat.ble 73 pc) (cond (Nat.ble 76 pc) (cond (Nat.beq pc 76) (some (.aload_n 0, 1)) none) (cond (Nat.beq pc 73) (some (.if_icmp .ge 22, 3)) none)) (cond (Nat.beq pc 71) (some (.bipush 60, 2)) none)))) (cond (Nat.ble 60 pc) (cond (Nat.ble 65 pc) (cond (Nat.ble 67 pc) (cond (Nat.ble 69 pc) (cond (Nat.beq pc 69) (some (.iload 4, 2)) none) (cond (Nat.beq pc 67) (some (.istore 4, 2)) none)) (cond (Nat.ble 66 pc) (cond (Nat.beq pc 66) (some (.iconst 0, 1)) none) (cond (Nat.beq pc 65) (some (.iastore, 1)) none))) (cond (Nat.ble 61 pc) (cond (Nat.ble 64 pc) (cond (Nat.beq pc 64) (some (.iload_n 3, 1)) none) (cond (Nat.beq pc 61) (some (.goto 4, 3)) none)) (cond (Nat.beq pc 60) (some (.iconst 0, 1)) none))) (cond (Nat.ble 52 pc) (cond (Nat.ble 56 pc) (cond (Nat.ble 57 pc) (cond (Nat.beq pc 57) (some (.ifCond .ge 7, 3)) none) (cond (Nat.beq pc 56) (some (.iload_n 2, 1)) none)) (cond (Nat.ble 55 pc) (cond (Nat.beq pc 55) (some (.iload_n 1, 1)) none) (cond (Nat.beq pc 52) (some (.getfield 184, 3)) none))) (cond (Nat.ble 50 pc) (cond (Nat.ble 51 pc) (cond (Nat.beq pc 51) (some (.aload_n 0, 1)) none) (cond (Nat.beq pc 50) (some (.iastore, 1)) none)) (cond (Nat.beq pc 49) (some (.iload_n 2, 1)) none))))) (cond (Nat.ble 24 pc) (cond (Nat.ble 37 pc) (cond (Nat.ble 43 pc) (cond (Nat.ble 45 pc) (cond (Nat.ble 48 pc) (cond (Nat.beq pc 48) (some (.iload_n 1, 1)) none) (cond (Nat.beq pc 45) (some (.getfield 181, 3)) none)) (cond (Nat.ble 44 pc) (cond (Nat.beq pc 44) (some (.aload_n 0, 1)) none) (cond (Nat.beq pc 43) (some (.ireturn, 1)) none))) (cond (Nat.ble 38 pc) (cond (Nat.ble 41 pc) (cond (Nat.beq pc 41) (some (.bipush (-14), 2)) none) (cond (Nat.beq pc 38) (some (.ifCond .ge 6, 3)) none)) (cond (Nat.beq pc 37) (some (.iload_n 3, 1)) none))) (cond (Nat.ble 30 pc) (cond (Nat.ble 33 pc) (cond (Nat.ble 34 pc) (cond (Nat.beq pc 34) (some (.ifCond .lt 10, 3)) none) (cond (Nat.beq pc 33) (some (.iload_n 2, 1)) none)) (cond (Nat.ble 32 pc) (cond (Nat.beq pc 32) (some (.ireturn, 1)) none) (cond (Nat.beq pc 30) (some (.bipush (-2), 2)) none))) (cond (Nat.ble 25 pc) (cond (Nat.ble 27 pc) (cond (Nat.beq pc 27) (some (.if_icmp .le 6, 3)) none) (cond (Nat.beq pc 25) (some (.bipush 60, 2)) none)) (cond (Nat.beq pc 24) (some (.iload_n 3, 1)) none)))) (cond (Nat.ble 11 pc) (cond (Nat.ble 14 pc) (cond (Nat.ble 20 pc) (cond (Nat.ble 21 pc) (cond (Nat.beq pc 21) (some (.ifCond .lt 12, 3)) none) (cond (Nat.beq pc 20) (some (.iload_n 2, 1)) none)) (cond (Nat.ble 17 pc) (cond (Nat.beq pc 17) (some (.ifCond .eq 13, 3)) none) (cond (Nat.beq pc 14) (some (.invokevirtual 194, 3)) none))) (cond (Nat.ble 12 pc) (cond (Nat.ble 13 pc) (cond (Nat.beq pc 13) (some (.iconst 4, 1)) none) (cond (Nat.beq pc 12) (some (.iconst (-1), 1)) none)) (cond (Nat.beq pc 11) (some (.iload_n 2, 1)) none))) (cond (Nat.ble 5 pc) (cond (Nat.ble 9 pc) (cond (Nat.ble 10 pc) (cond (Nat.beq pc 10) (some (.aload_n 0, 1)) none) (cond (Nat.beq pc 9) (some (.ireturn, 1)) none)) (cond (Nat.ble 8 pc) (cond (Nat.beq pc 8) (some (.iconst (-1), 1)) none) (cond (Nat.beq pc 5) (some (.ifCond .ne 5, 3)) none))) (cond (Nat.ble 1 pc) (cond (Nat.ble 2 pc) (cond (Nat.beq pc 2) (some (.invokevirtual 354, 3)) none) (cond (Nat.beq pc 1) (some (.iload_n 1, 1)) none)) (cond (Nat.beq pc 0) (some (.aload_n 0, 1)) none)))))
def m_X7_tape : jM := (7, yX7_tape, cX7_tape, 5, (some .int), fun pc => cond (Nat.ble 97 pc) none (jt_X7_tape pc))
set_option maxRecDepth 100000 in
theorem dk_X7_tape : ∀ pc q, m_X7_tape.2.2.2.2.2 pc = some q → decode cX7_tape pc = .ok q := jk_sound (N := 97) (t := jt_X7_tape) (by decide +kernel)
set_option maxRecDepth 100000 in
theorem ok_X7_tape : jok m_X7_tape := ⟨dk_X7_tape, jG_in 1326 rfl rfl, jG_in 94 rfl rfl, by decide +kernel, by decide +kernel, by decide⟩
set_option maxRecDepth 100000 in
theorem vi_X7_tape : jvirt m_X7_tape := ⟨jG_in 1324 rfl rfl, jG_in 1325 rfl rfl⟩
end
section
/-! The links: of fields, calls, classes, constants. By program (wip/gen/emit.py). -/
/-- the word of a field's link: of class ci the k-th -/
def jFl (own : String) (idx ci k : Nat) : Prop := ∃ q : vw_C, vwCl[ci]? = some q ∧ k < q.2.2 ∧ Cond.fieldLink own idx (q.2.1 k).1 (q.2.1 k).2.1 (q.2.1 k).2.2.1 ∈ jG
set_option maxRecDepth 100000 in
theorem fl_4_9 : jFl RX4 9 4 0 := ⟨(RX4, TX4, 4), rfl, by decide, jG_in 115 rfl rfl⟩
set_option maxRecDepth 100000 in
theorem fl_6_130 : jFl RX6 130 4 0 := ⟨(RX4, TX4, 4), rfl, by decide, jG_in 116 rfl rfl⟩
set_option maxRecDepth 100000 in
theorem fl_4_32 : jFl RX4 32 4 1 := ⟨(RX4, TX4, 4), rfl, by decide, jG_in 117 rfl rfl⟩
set_option maxRecDepth 100000 in
theorem fl_6_127 : jFl RX6 127 4 1 := ⟨(RX4, TX4, 4), rfl, by decide, jG_in 118 rfl rfl⟩
set_option maxRecDepth 100000 in
theorem fl_4_20 : jFl RX4 20 4 2 := ⟨(RX4, TX4, 4), rfl, by decide, jG_in 119 rfl rfl⟩
set_option maxRecDepth 100000 in
theorem fl_6_141 : jFl RX6 141 4 2 := ⟨(RX4, TX4, 4), rfl, by decide, jG_in 120 rfl rfl⟩
set_option maxRecDepth 100000 in
theorem fl_4_24 : jFl RX4 24 4 3 := ⟨(RX4, TX4, 4), rfl, by decide, jG_in 121 rfl rfl⟩
set_option maxRecDepth 100000 in
theorem fl_0_9 : jFl RX0 9 0 0 := ⟨(RX0, TX0, 5), rfl, by decide, jG_in 141 rfl rfl⟩
set_option maxRecDepth 100000 in
theorem fl_6_245 : jFl RX6 245 0 0 := ⟨(RX0, TX0, 5), rfl, by decide, jG_in 142 rfl rfl⟩
set_option maxRecDepth 100000 in
theorem fl_0_35 : jFl RX0 35 0 1 := ⟨(RX0, TX0, 5), rfl, by decide, jG_in 143 rfl rfl⟩
set_option maxRecDepth 100000 in
theorem fl_6_235 : jFl RX6 235 0 1 := ⟨(RX0, TX0, 5), rfl, by decide, jG_in 144 rfl rfl⟩
set_option maxRecDepth 100000 in
theorem fl_0_19 : jFl RX0 19 0 2 := ⟨(RX0, TX0, 5), rfl, by decide, jG_in 145 rfl rfl⟩
set_option maxRecDepth 100000 in
theorem fl_0_15 : jFl RX0 15 0 3 := ⟨(RX0, TX0, 5), rfl, by decide, jG_in 146 rfl rfl⟩
set_option maxRecDepth 100000 in
theorem fl_0_22 : jFl RX0 22 0 4 := ⟨(RX0, TX0, 5), rfl, by decide, jG_in 147 rfl rfl⟩
set_option maxRecDepth 100000 in
theorem fl_5_30 : jFl RX5 30 5 0 := ⟨(RX5, TX5, 10), rfl, by decide, jG_in 170 rfl rfl⟩
set_option maxRecDepth 100000 in
theorem fl_6_87 : jFl RX6 87 5 0 := ⟨(RX5, TX5, 10), rfl, by decide, jG_in 171 rfl rfl⟩
set_option maxRecDepth 100000 in
theorem fl_4_70 : jFl RX4 70 5 0 := ⟨(RX5, TX5, 10), rfl, by decide, jG_in 172 rfl rfl⟩
set_option maxRecDepth 100000 in
theorem fl_5_34 : jFl RX5 34 5 1 := ⟨(RX5, TX5, 10), rfl, by decide, jG_in 173 rfl rfl⟩
set_option maxRecDepth 100000 in
theorem fl_1_72 : jFl RX1 72 5 1 := ⟨(RX5, TX5, 10), rfl, by decide, jG_in 174 rfl rfl⟩
set_option maxRecDepth 100000 in
theorem fl_4_75 : jFl RX4 75 5 1 := ⟨(RX5, TX5, 10), rfl, by decide, jG_in 175 rfl rfl⟩
set_option maxRecDepth 100000 in
theorem fl_6_150 : jFl RX6 150 5 1 := ⟨(RX5, TX5, 10), rfl, by decide, jG_in 176 rfl rfl⟩
set_option maxRecDepth 100000 in
theorem fl_5_37 : jFl RX5 37 5 2 := ⟨(RX5, TX5, 10), rfl, by decide, jG_in 177 rfl rfl⟩
set_option maxRecDepth 100000 in
theorem fl_1_84 : jFl RX1 84 5 2 := ⟨(RX5, TX5, 10), rfl, by decide, jG_in 178 rfl rfl⟩
set_option maxRecDepth 100000 in
theorem fl_4_80 : jFl RX4 80 5 2 := ⟨(RX5, TX5, 10), rfl, by decide, jG_in 179 rfl rfl⟩
set_option maxRecDepth 100000 in
theorem fl_6_153 : jFl RX6 153 5 2 := ⟨(RX5, TX5, 10), rfl, by decide, jG_in 180 rfl rfl⟩
set_option maxRecDepth 100000 in
theorem fl_5_40 : jFl RX5 40 5 3 := ⟨(RX5, TX5, 10), rfl, by decide, jG_in 181 rfl rfl⟩
set_option maxRecDepth 100000 in
theorem fl_1_103 : jFl RX1 103 5 3 := ⟨(RX5, TX5, 10), rfl, by decide, jG_in 182 rfl rfl⟩
set_option maxRecDepth 100000 in
theorem fl_5_43 : jFl RX5 43 5 4 := ⟨(RX5, TX5, 10), rfl, by decide, jG_in 183 rfl rfl⟩
set_option maxRecDepth 100000 in
theorem fl_5_9 : jFl RX5 9 5 5 := ⟨(RX5, TX5, 10), rfl, by decide, jG_in 184 rfl rfl⟩
set_option maxRecDepth 100000 in
theorem fl_1_115 : jFl RX1 115 5 5 := ⟨(RX5, TX5, 10), rfl, by decide, jG_in 185 rfl rfl⟩
set_option maxRecDepth 100000 in
theorem fl_5_15 : jFl RX5 15 5 6 := ⟨(RX5, TX5, 10), rfl, by decide, jG_in 186 rfl rfl⟩
set_option maxRecDepth 100000 in
theorem fl_1_124 : jFl RX1 124 5 6 := ⟨(RX5, TX5, 10), rfl, by decide, jG_in 187 rfl rfl⟩
set_option maxRecDepth 100000 in
theorem fl_5_18 : jFl RX5 18 5 7 := ⟨(RX5, TX5, 10), rfl, by decide, jG_in 188 rfl rfl⟩
set_option maxRecDepth 100000 in
theorem fl_1_121 : jFl RX1 121 5 7 := ⟨(RX5, TX5, 10), rfl, by decide, jG_in 189 rfl rfl⟩
set_option maxRecDepth 100000 in
theorem fl_5_21 : jFl RX5 21 5 8 := ⟨(RX5, TX5, 10), rfl, by decide, jG_in 190 rfl rfl⟩
set_option maxRecDepth 100000 in
theorem fl_1_112 : jFl RX1 112 5 8 := ⟨(RX5, TX5, 10), rfl, by decide, jG_in 191 rfl rfl⟩
set_option maxRecDepth 100000 in
theorem fl_5_24 : jFl RX5 24 5 9 := ⟨(RX5, TX5, 10), rfl, by decide, jG_in 192 rfl rfl⟩
set_option maxRecDepth 100000 in
theorem fl_1_105 : jFl RX1 105 5 9 := ⟨(RX5, TX5, 10), rfl, by decide, jG_in 193 rfl rfl⟩
set_option maxRecDepth 100000 in
theorem fl_2_41 : jFl RX2 41 2 0 := ⟨(RX2, TX2, 13), rfl, by decide, jG_in 221 rfl rfl⟩
set_option maxRecDepth 100000 in
theorem fl_6_71 : jFl RX6 71 2 0 := ⟨(RX2, TX2, 13), rfl, by decide, jG_in 222 rfl rfl⟩
set_option maxRecDepth 100000 in
theorem fl_1_42 : jFl RX1 42 2 0 := ⟨(RX2, TX2, 13), rfl, by decide, jG_in 223 rfl rfl⟩
set_option maxRecDepth 100000 in
theorem fl_1_32 : jFl RX1 32 2 1 := ⟨(RX2, TX2, 13), rfl, by decide, jG_in 224 rfl rfl⟩
set_option maxRecDepth 100000 in
theorem fl_2_45 : jFl RX2 45 2 1 := ⟨(RX2, TX2, 13), rfl, by decide, jG_in 225 rfl rfl⟩
set_option maxRecDepth 100000 in
theorem fl_6_156 : jFl RX6 156 2 1 := ⟨(RX2, TX2, 13), rfl, by decide, jG_in 226 rfl rfl⟩
set_option maxRecDepth 100000 in
theorem fl_1_38 : jFl RX1 38 2 2 := ⟨(RX2, TX2, 13), rfl, by decide, jG_in 227 rfl rfl⟩
set_option maxRecDepth 100000 in
theorem fl_2_48 : jFl RX2 48 2 2 := ⟨(RX2, TX2, 13), rfl, by decide, jG_in 228 rfl rfl⟩
set_option maxRecDepth 100000 in
theorem fl_6_159 : jFl RX6 159 2 2 := ⟨(RX2, TX2, 13), rfl, by decide, jG_in 229 rfl rfl⟩
set_option maxRecDepth 100000 in
theorem fl_2_51 : jFl RX2 51 2 3 := ⟨(RX2, TX2, 13), rfl, by decide, jG_in 230 rfl rfl⟩
set_option maxRecDepth 100000 in
theorem fl_6_209 : jFl RX6 209 2 3 := ⟨(RX2, TX2, 13), rfl, by decide, jG_in 231 rfl rfl⟩
set_option maxRecDepth 100000 in
theorem fl_2_37 : jFl RX2 37 2 4 := ⟨(RX2, TX2, 13), rfl, by decide, jG_in 232 rfl rfl⟩
set_option maxRecDepth 100000 in
theorem fl_6_83 : jFl RX6 83 2 4 := ⟨(RX2, TX2, 13), rfl, by decide, jG_in 233 rfl rfl⟩
set_option maxRecDepth 100000 in
theorem fl_1_68 : jFl RX1 68 2 4 := ⟨(RX2, TX2, 13), rfl, by decide, jG_in 234 rfl rfl⟩
set_option maxRecDepth 100000 in
theorem fl_2_9 : jFl RX2 9 2 5 := ⟨(RX2, TX2, 13), rfl, by decide, jG_in 235 rfl rfl⟩
set_option maxRecDepth 100000 in
theorem fl_6_97 : jFl RX6 97 2 5 := ⟨(RX2, TX2, 13), rfl, by decide, jG_in 236 rfl rfl⟩
set_option maxRecDepth 100000 in
theorem fl_1_93 : jFl RX1 93 2 5 := ⟨(RX2, TX2, 13), rfl, by decide, jG_in 237 rfl rfl⟩
set_option maxRecDepth 100000 in
theorem fl_2_15 : jFl RX2 15 2 6 := ⟨(RX2, TX2, 13), rfl, by decide, jG_in 238 rfl rfl⟩
set_option maxRecDepth 100000 in
theorem fl_6_100 : jFl RX6 100 2 6 := ⟨(RX2, TX2, 13), rfl, by decide, jG_in 239 rfl rfl⟩
set_option maxRecDepth 100000 in
theorem fl_1_90 : jFl RX1 90 2 6 := ⟨(RX2, TX2, 13), rfl, by decide, jG_in 240 rfl rfl⟩
set_option maxRecDepth 100000 in
theorem fl_2_18 : jFl RX2 18 2 7 := ⟨(RX2, TX2, 13), rfl, by decide, jG_in 241 rfl rfl⟩
set_option maxRecDepth 100000 in
theorem fl_1_49 : jFl RX1 49 2 7 := ⟨(RX2, TX2, 13), rfl, by decide, jG_in 242 rfl rfl⟩
set_option maxRecDepth 100000 in
theorem fl_6_103 : jFl RX6 103 2 7 := ⟨(RX2, TX2, 13), rfl, by decide, jG_in 243 rfl rfl⟩
set_option maxRecDepth 100000 in
theorem fl_2_21 : jFl RX2 21 2 8 := ⟨(RX2, TX2, 13), rfl, by decide, jG_in 244 rfl rfl⟩
set_option maxRecDepth 100000 in
theorem fl_6_106 : jFl RX6 106 2 8 := ⟨(RX2, TX2, 13), rfl, by decide, jG_in 245 rfl rfl⟩
set_option maxRecDepth 100000 in
theorem fl_1_87 : jFl RX1 87 2 8 := ⟨(RX2, TX2, 13), rfl, by decide, jG_in 246 rfl rfl⟩
set_option maxRecDepth 100000 in
theorem fl_2_24 : jFl RX2 24 2 9 := ⟨(RX2, TX2, 13), rfl, by decide, jG_in 247 rfl rfl⟩
set_option maxRecDepth 100000 in
theorem fl_6_121 : jFl RX6 121 2 9 := ⟨(RX2, TX2, 13), rfl, by decide, jG_in 248 rfl rfl⟩
set_option maxRecDepth 100000 in
theorem fl_2_27 : jFl RX2 27 2 10 := ⟨(RX2, TX2, 13), rfl, by decide, jG_in 249 rfl rfl⟩
set_option maxRecDepth 100000 in
theorem fl_1_45 : jFl RX1 45 2 10 := ⟨(RX2, TX2, 13), rfl, by decide, jG_in 250 rfl rfl⟩
set_option maxRecDepth 100000 in
theorem fl_6_109 : jFl RX6 109 2 10 := ⟨(RX2, TX2, 13), rfl, by decide, jG_in 251 rfl rfl⟩
set_option maxRecDepth 100000 in
theorem fl_2_31 : jFl RX2 31 2 11 := ⟨(RX2, TX2, 13), rfl, by decide, jG_in 252 rfl rfl⟩
set_option maxRecDepth 100000 in
theorem fl_6_124 : jFl RX6 124 2 11 := ⟨(RX2, TX2, 13), rfl, by decide, jG_in 253 rfl rfl⟩
set_option maxRecDepth 100000 in
theorem fl_1_100 : jFl RX1 100 2 11 := ⟨(RX2, TX2, 13), rfl, by decide, jG_in 254 rfl rfl⟩
set_option maxRecDepth 100000 in
theorem fl_2_34 : jFl RX2 34 2 12 := ⟨(RX2, TX2, 13), rfl, by decide, jG_in 255 rfl rfl⟩
set_option maxRecDepth 100000 in
theorem fl_6_212 : jFl RX6 212 2 12 := ⟨(RX2, TX2, 13), rfl, by decide, jG_in 256 rfl rfl⟩
set_option maxRecDepth 100000 in
theorem fl_1_24 : jFl RX1 24 1 0 := ⟨(RX1, TX1, 9), rfl, by decide, jG_in 291 rfl rfl⟩
set_option maxRecDepth 100000 in
theorem fl_1_28 : jFl RX1 28 1 1 := ⟨(RX1, TX1, 9), rfl, by decide, jG_in 292 rfl rfl⟩
set_option maxRecDepth 100000 in
theorem fl_1_37 : jFl RX1 37 1 2 := ⟨(RX1, TX1, 9), rfl, by decide, jG_in 293 rfl rfl⟩
set_option maxRecDepth 100000 in
theorem fl_6_173 : jFl RX6 173 1 2 := ⟨(RX1, TX1, 9), rfl, by decide, jG_in 294 rfl rfl⟩
set_option maxRecDepth 100000 in
theorem fl_1_41 : jFl RX1 41 1 3 := ⟨(RX1, TX1, 9), rfl, by decide, jG_in 295 rfl rfl⟩
set_option maxRecDepth 100000 in
theorem fl_6_174 : jFl RX6 174 1 3 := ⟨(RX1, TX1, 9), rfl, by decide, jG_in 296 rfl rfl⟩
set_option maxRecDepth 100000 in
theorem fl_1_61 : jFl RX1 61 1 4 := ⟨(RX1, TX1, 9), rfl, by decide, jG_in 297 rfl rfl⟩
set_option maxRecDepth 100000 in
theorem fl_6_175 : jFl RX6 175 1 4 := ⟨(RX1, TX1, 9), rfl, by decide, jG_in 298 rfl rfl⟩
set_option maxRecDepth 100000 in
theorem fl_1_9 : jFl RX1 9 1 5 := ⟨(RX1, TX1, 9), rfl, by decide, jG_in 299 rfl rfl⟩
set_option maxRecDepth 100000 in
theorem fl_6_170 : jFl RX6 170 1 5 := ⟨(RX1, TX1, 9), rfl, by decide, jG_in 300 rfl rfl⟩
set_option maxRecDepth 100000 in
theorem fl_1_15 : jFl RX1 15 1 6 := ⟨(RX1, TX1, 9), rfl, by decide, jG_in 301 rfl rfl⟩
set_option maxRecDepth 100000 in
theorem fl_6_179 : jFl RX6 179 1 6 := ⟨(RX1, TX1, 9), rfl, by decide, jG_in 302 rfl rfl⟩
set_option maxRecDepth 100000 in
theorem fl_1_18 : jFl RX1 18 1 7 := ⟨(RX1, TX1, 9), rfl, by decide, jG_in 303 rfl rfl⟩
set_option maxRecDepth 100000 in
theorem fl_6_94 : jFl RX6 94 1 7 := ⟨(RX1, TX1, 9), rfl, by decide, jG_in 304 rfl rfl⟩
set_option maxRecDepth 100000 in
theorem fl_1_21 : jFl RX1 21 1 8 := ⟨(RX1, TX1, 9), rfl, by decide, jG_in 305 rfl rfl⟩
set_option maxRecDepth 100000 in
theorem fl_3_9 : jFl RX3 9 3 0 := ⟨(RX3, TX3, 3), rfl, by decide, jG_in 330 rfl rfl⟩
set_option maxRecDepth 100000 in
theorem fl_6_223 : jFl RX6 223 3 0 := ⟨(RX3, TX3, 3), rfl, by decide, jG_in 331 rfl rfl⟩
set_option maxRecDepth 100000 in
theorem fl_3_19 : jFl RX3 19 3 1 := ⟨(RX3, TX3, 3), rfl, by decide, jG_in 332 rfl rfl⟩
set_option maxRecDepth 100000 in
theorem fl_6_226 : jFl RX6 226 3 1 := ⟨(RX3, TX3, 3), rfl, by decide, jG_in 333 rfl rfl⟩
set_option maxRecDepth 100000 in
theorem fl_3_15 : jFl RX3 15 3 2 := ⟨(RX3, TX3, 3), rfl, by decide, jG_in 334 rfl rfl⟩
set_option maxRecDepth 100000 in
theorem fl_6_227 : jFl RX6 227 3 2 := ⟨(RX3, TX3, 3), rfl, by decide, jG_in 335 rfl rfl⟩
set_option maxRecDepth 100000 in
theorem fl_6_47 : jFl RX6 47 6 0 := ⟨(RX6, TX6, 11), rfl, by decide, jG_in 344 rfl rfl⟩
set_option maxRecDepth 100000 in
theorem fl_6_51 : jFl RX6 51 6 1 := ⟨(RX6, TX6, 11), rfl, by decide, jG_in 345 rfl rfl⟩
set_option maxRecDepth 100000 in
theorem fl_6_54 : jFl RX6 54 6 2 := ⟨(RX6, TX6, 11), rfl, by decide, jG_in 346 rfl rfl⟩
set_option maxRecDepth 100000 in
theorem fl_6_231 : jFl RX6 231 6 3 := ⟨(RX6, TX6, 11), rfl, by decide, jG_in 347 rfl rfl⟩
set_option maxRecDepth 100000 in
theorem fl_6_62 : jFl RX6 62 6 4 := ⟨(RX6, TX6, 11), rfl, by decide, jG_in 348 rfl rfl⟩
set_option maxRecDepth 100000 in
theorem fl_6_11 : jFl RX6 11 6 5 := ⟨(RX6, TX6, 11), rfl, by decide, jG_in 349 rfl rfl⟩
set_option maxRecDepth 100000 in
theorem fl_6_18 : jFl RX6 18 6 6 := ⟨(RX6, TX6, 11), rfl, by decide, jG_in 350 rfl rfl⟩
set_option maxRecDepth 100000 in
theorem fl_6_24 : jFl RX6 24 6 7 := ⟨(RX6, TX6, 11), rfl, by decide, jG_in 351 rfl rfl⟩
set_option maxRecDepth 100000 in
theorem fl_6_134 : jFl RX6 134 6 8 := ⟨(RX6, TX6, 11), rfl, by decide, jG_in 352 rfl rfl⟩
set_option maxRecDepth 100000 in
theorem fl_6_31 : jFl RX6 31 6 9 := ⟨(RX6, TX6, 11), rfl, by decide, jG_in 353 rfl rfl⟩
set_option maxRecDepth 100000 in
theorem fl_6_37 : jFl RX6 37 6 10 := ⟨(RX6, TX6, 11), rfl, by decide, jG_in 354 rfl rfl⟩
set_option maxRecDepth 100000 in
theorem fl_7_7 : jFl RX7 7 7 0 := ⟨(RX7, TX7, 60), rfl, by decide, jG_in 783 rfl rfl⟩
set_option maxRecDepth 100000 in
theorem fl_7_13 : jFl RX7 13 7 1 := ⟨(RX7, TX7, 60), rfl, by decide, jG_in 784 rfl rfl⟩
set_option maxRecDepth 100000 in
theorem fl_7_16 : jFl RX7 16 7 2 := ⟨(RX7, TX7, 60), rfl, by decide, jG_in 785 rfl rfl⟩
set_option maxRecDepth 100000 in
theorem fl_7_19 : jFl RX7 19 7 3 := ⟨(RX7, TX7, 60), rfl, by decide, jG_in 786 rfl rfl⟩
set_option maxRecDepth 100000 in
theorem fl_7_23 : jFl RX7 23 7 4 := ⟨(RX7, TX7, 60), rfl, by decide, jG_in 787 rfl rfl⟩
set_option maxRecDepth 100000 in
theorem fl_7_26 : jFl RX7 26 7 5 := ⟨(RX7, TX7, 60), rfl, by decide, jG_in 788 rfl rfl⟩
set_option maxRecDepth 100000 in
theorem fl_7_29 : jFl RX7 29 7 6 := ⟨(RX7, TX7, 60), rfl, by decide, jG_in 789 rfl rfl⟩
set_option maxRecDepth 100000 in
theorem fl_7_32 : jFl RX7 32 7 7 := ⟨(RX7, TX7, 60), rfl, by decide, jG_in 790 rfl rfl⟩
set_option maxRecDepth 100000 in
theorem fl_7_35 : jFl RX7 35 7 8 := ⟨(RX7, TX7, 60), rfl, by decide, jG_in 791 rfl rfl⟩
set_option maxRecDepth 100000 in
theorem fl_7_38 : jFl RX7 38 7 9 := ⟨(RX7, TX7, 60), rfl, by decide, jG_in 792 rfl rfl⟩
set_option maxRecDepth 100000 in
theorem fl_7_42 : jFl RX7 42 7 10 := ⟨(RX7, TX7, 60), rfl, by decide, jG_in 793 rfl rfl⟩
set_option maxRecDepth 100000 in
theorem fl_7_45 : jFl RX7 45 7 11 := ⟨(RX7, TX7, 60), rfl, by decide, jG_in 794 rfl rfl⟩
set_option maxRecDepth 100000 in
theorem fl_7_48 : jFl RX7 48 7 12 := ⟨(RX7, TX7, 60), rfl, by decide, jG_in 795 rfl rfl⟩
set_option maxRecDepth 100000 in
theorem fl_7_51 : jFl RX7 51 7 13 := ⟨(RX7, TX7, 60), rfl, by decide, jG_in 796 rfl rfl⟩
set_option maxRecDepth 100000 in
theorem fl_7_54 : jFl RX7 54 7 14 := ⟨(RX7, TX7, 60), rfl, by decide, jG_in 797 rfl rfl⟩
set_option maxRecDepth 100000 in
theorem fl_7_57 : jFl RX7 57 7 15 := ⟨(RX7, TX7, 60), rfl, by decide, jG_in 798 rfl rfl⟩
set_option maxRecDepth 100000 in
theorem fl_7_60 : jFl RX7 60 7 16 := ⟨(RX7, TX7, 60), rfl, by decide, jG_in 799 rfl rfl⟩
set_option maxRecDepth 100000 in
theorem fl_7_63 : jFl RX7 63 7 17 := ⟨(RX7, TX7, 60), rfl, by decide, jG_in 800 rfl rfl⟩
set_option maxRecDepth 100000 in
theorem fl_7_66 : jFl RX7 66 7 18 := ⟨(RX7, TX7, 60), rfl, by decide, jG_in 801 rfl rfl⟩
set_option maxRecDepth 100000 in
theorem fl_7_69 : jFl RX7 69 7 19 := ⟨(RX7, TX7, 60), rfl, by decide, jG_in 802 rfl rfl⟩
set_option maxRecDepth 100000 in
theorem fl_7_72 : jFl RX7 72 7 20 := ⟨(RX7, TX7, 60), rfl, by decide, jG_in 803 rfl rfl⟩
set_option maxRecDepth 100000 in
theorem fl_7_75 : jFl RX7 75 7 21 := ⟨(RX7, TX7, 60), rfl, by decide, jG_in 804 rfl rfl⟩
set_option maxRecDepth 100000 in
theorem fl_7_78 : jFl RX7 78 7 22 := ⟨(RX7, TX7, 60), rfl, by decide, jG_in 805 rfl rfl⟩
set_option maxRecDepth 100000 in
theorem fl_7_81 : jFl RX7 81 7 23 := ⟨(RX7, TX7, 60), rfl, by decide, jG_in 806 rfl rfl⟩
set_option maxRecDepth 100000 in
theorem fl_7_84 : jFl RX7 84 7 24 := ⟨(RX7, TX7, 60), rfl, by decide, jG_in 807 rfl rfl⟩
set_option maxRecDepth 100000 in
theorem fl_7_87 : jFl RX7 87 7 25 := ⟨(RX7, TX7, 60), rfl, by decide, jG_in 808 rfl rfl⟩
set_option maxRecDepth 100000 in
theorem fl_7_90 : jFl RX7 90 7 26 := ⟨(RX7, TX7, 60), rfl, by decide, jG_in 809 rfl rfl⟩
set_option maxRecDepth 100000 in
theorem fl_7_93 : jFl RX7 93 7 27 := ⟨(RX7, TX7, 60), rfl, by decide, jG_in 810 rfl rfl⟩
set_option maxRecDepth 100000 in
theorem fl_7_96 : jFl RX7 96 7 28 := ⟨(RX7, TX7, 60), rfl, by decide, jG_in 811 rfl rfl⟩
set_option maxRecDepth 100000 in
theorem fl_7_99 : jFl RX7 99 7 29 := ⟨(RX7, TX7, 60), rfl, by decide, jG_in 812 rfl rfl⟩
set_option maxRecDepth 100000 in
theorem fl_7_102 : jFl RX7 102 7 30 := ⟨(RX7, TX7, 60), rfl, by decide, jG_in 813 rfl rfl⟩
set_option maxRecDepth 100000 in
theorem fl_7_105 : jFl RX7 105 7 31 := ⟨(RX7, TX7, 60), rfl, by decide, jG_in 814 rfl rfl⟩
set_option maxRecDepth 100000 in
theorem fl_7_108 : jFl RX7 108 7 32 := ⟨(RX7, TX7, 60), rfl, by decide, jG_in 815 rfl rfl⟩
set_option maxRecDepth 100000 in
theorem fl_7_111 : jFl RX7 111 7 33 := ⟨(RX7, TX7, 60), rfl, by decide, jG_in 816 rfl rfl⟩
set_option maxRecDepth 100000 in
theorem fl_7_114 : jFl RX7 114 7 34 := ⟨(RX7, TX7, 60), rfl, by decide, jG_in 817 rfl rfl⟩
set_option maxRecDepth 100000 in
theorem fl_7_117 : jFl RX7 117 7 35 := ⟨(RX7, TX7, 60), rfl, by decide, jG_in 818 rfl rfl⟩
set_option maxRecDepth 100000 in
theorem fl_7_120 : jFl RX7 120 7 36 := ⟨(RX7, TX7, 60), rfl, by decide, jG_in 819 rfl rfl⟩
set_option maxRecDepth 100000 in
theorem fl_7_123 : jFl RX7 123 7 37 := ⟨(RX7, TX7, 60), rfl, by decide, jG_in 820 rfl rfl⟩
set_option maxRecDepth 100000 in
theorem fl_7_126 : jFl RX7 126 7 38 := ⟨(RX7, TX7, 60), rfl, by decide, jG_in 821 rfl rfl⟩
set_option maxRecDepth 100000 in
theorem fl_7_129 : jFl RX7 129 7 39 := ⟨(RX7, TX7, 60), rfl, by decide, jG_in 822 rfl rfl⟩
set_option maxRecDepth 100000 in
theorem fl_7_132 : jFl RX7 132 7 40 := ⟨(RX7, TX7, 60), rfl, by decide, jG_in 823 rfl rfl⟩
set_option maxRecDepth 100000 in
theorem fl_7_136 : jFl RX7 136 7 41 := ⟨(RX7, TX7, 60), rfl, by decide, jG_in 824 rfl rfl⟩
set_option maxRecDepth 100000 in
theorem fl_7_139 : jFl RX7 139 7 42 := ⟨(RX7, TX7, 60), rfl, by decide, jG_in 825 rfl rfl⟩
set_option maxRecDepth 100000 in
theorem fl_7_142 : jFl RX7 142 7 43 := ⟨(RX7, TX7, 60), rfl, by decide, jG_in 826 rfl rfl⟩
set_option maxRecDepth 100000 in
theorem fl_7_145 : jFl RX7 145 7 44 := ⟨(RX7, TX7, 60), rfl, by decide, jG_in 827 rfl rfl⟩
set_option maxRecDepth 100000 in
theorem fl_7_148 : jFl RX7 148 7 45 := ⟨(RX7, TX7, 60), rfl, by decide, jG_in 828 rfl rfl⟩
set_option maxRecDepth 100000 in
theorem fl_7_151 : jFl RX7 151 7 46 := ⟨(RX7, TX7, 60), rfl, by decide, jG_in 829 rfl rfl⟩
set_option maxRecDepth 100000 in
theorem fl_7_154 : jFl RX7 154 7 47 := ⟨(RX7, TX7, 60), rfl, by decide, jG_in 830 rfl rfl⟩
set_option maxRecDepth 100000 in
theorem fl_7_157 : jFl RX7 157 7 48 := ⟨(RX7, TX7, 60), rfl, by decide, jG_in 831 rfl rfl⟩
set_option maxRecDepth 100000 in
theorem fl_7_160 : jFl RX7 160 7 49 := ⟨(RX7, TX7, 60), rfl, by decide, jG_in 832 rfl rfl⟩
set_option maxRecDepth 100000 in
theorem fl_7_163 : jFl RX7 163 7 50 := ⟨(RX7, TX7, 60), rfl, by decide, jG_in 833 rfl rfl⟩
set_option maxRecDepth 100000 in
theorem fl_7_166 : jFl RX7 166 7 51 := ⟨(RX7, TX7, 60), rfl, by decide, jG_in 834 rfl rfl⟩
set_option maxRecDepth 100000 in
theorem fl_7_169 : jFl RX7 169 7 52 := ⟨(RX7, TX7, 60), rfl, by decide, jG_in 835 rfl rfl⟩
set_option maxRecDepth 100000 in
theorem fl_7_172 : jFl RX7 172 7 53 := ⟨(RX7, TX7, 60), rfl, by decide, jG_in 836 rfl rfl⟩
set_option maxRecDepth 100000 in
theorem fl_7_175 : jFl RX7 175 7 54 := ⟨(RX7, TX7, 60), rfl, by decide, jG_in 837 rfl rfl⟩
set_option maxRecDepth 100000 in
theorem fl_7_178 : jFl RX7 178 7 55 := ⟨(RX7, TX7, 60), rfl, by decide, jG_in 838 rfl rfl⟩
set_option maxRecDepth 100000 in
theorem fl_7_181 : jFl RX7 181 7 56 := ⟨(RX7, TX7, 60), rfl, by decide, jG_in 839 rfl rfl⟩
set_option maxRecDepth 100000 in
theorem fl_7_184 : jFl RX7 184 7 57 := ⟨(RX7, TX7, 60), rfl, by decide, jG_in 840 rfl rfl⟩
set_option maxRecDepth 100000 in
theorem fl_7_187 : jFl RX7 187 7 58 := ⟨(RX7, TX7, 60), rfl, by decide, jG_in 841 rfl rfl⟩
set_option maxRecDepth 100000 in
theorem fl_7_191 : jFl RX7 191 7 59 := ⟨(RX7, TX7, 60), rfl, by decide, jG_in 842 rfl rfl⟩
set_option maxRecDepth 100000 in
theorem cl_8_9 : Cond.methodLink RL 9 yX6_init ∈ jG := jG_in 103 rfl rfl
set_option maxRecDepth 100000 in
theorem cl_6_41 : Cond.methodLink RX6 41 yX5_init ∈ jG := jG_in 162 rfl rfl
set_option maxRecDepth 100000 in
theorem cl_5_27 : Cond.methodLink RX5 27 yX5_clear ∈ jG := jG_in 166 rfl rfl
set_option maxRecDepth 100000 in
theorem cl_6_44 : Cond.methodLink RX6 44 yX2_init ∈ jG := jG_in 217 rfl rfl
set_option maxRecDepth 100000 in
theorem cl_6_59 : Cond.methodLink RX6 59 yX1_init ∈ jG := jG_in 287 rfl rfl
set_option maxRecDepth 100000 in
theorem cl_8_13 : Cond.methodLink RL 13 yX6_person ∈ jG := jG_in 378 rfl rfl
set_option maxRecDepth 100000 in
theorem cl_6_67 : Cond.methodLink RX6 67 yX6_isDay ∈ jG := jG_in 382 rfl rfl
set_option maxRecDepth 100000 in
theorem cl_6_75 : Cond.methodLink RX6 75 yX2_add ∈ jG := jG_in 385 rfl rfl
set_option maxRecDepth 100000 in
theorem cl_8_18 : Cond.methodLink RL 18 yX6_of ∈ jG := jG_in 389 rfl rfl
set_option maxRecDepth 100000 in
theorem cl_6_79 : Cond.methodLink RX6 79 yX6_isPerson ∈ jG := jG_in 393 rfl rfl
set_option maxRecDepth 100000 in
theorem cl_6_90 : Cond.methodLink RX6 90 yX1_start ∈ jG := jG_in 398 rfl rfl
set_option maxRecDepth 100000 in
theorem cl_1_52 : Cond.methodLink RX1 52 yX1_beginYear ∈ jG := jG_in 402 rfl rfl
set_option maxRecDepth 100000 in
theorem cl_1_81 : Cond.methodLink RX1 81 yX1_wanted ∈ jG := jG_in 406 rfl rfl
set_option maxRecDepth 100000 in
theorem cl_1_96 : Cond.methodLink RX1 96 yX1_freeDay ∈ jG := jG_in 410 rfl rfl
set_option maxRecDepth 100000 in
theorem cl_6_113 : Cond.methodLink RX6 113 yX1_putOff ∈ jG := jG_in 414 rfl rfl
set_option maxRecDepth 100000 in
theorem cl_6_117 : Cond.methodLink RX6 117 yX1_takes ∈ jG := jG_in 418 rfl rfl
set_option maxRecDepth 100000 in
theorem cl_1_108 : Cond.methodLink RX1 108 yX1_allows ∈ jG := jG_in 422 rfl rfl
set_option maxRecDepth 100000 in
theorem cl_1_118 : Cond.methodLink RX1 118 yX1_valueOf ∈ jG := jG_in 426 rfl rfl
set_option maxRecDepth 100000 in
theorem cl_8_23 : Cond.methodLink RL 23 yX6_set ∈ jG := jG_in 430 rfl rfl
set_option maxRecDepth 100000 in
theorem cl_8_28 : Cond.methodLink RL 28 yX6_there ∈ jG := jG_in 434 rfl rfl
set_option maxRecDepth 100000 in
theorem cl_8_33 : Cond.methodLink RL 33 yX6_row ∈ jG := jG_in 438 rfl rfl
set_option maxRecDepth 100000 in
theorem cl_8_37 : Cond.methodLink RL 37 yX6_feed ∈ jG := jG_in 442 rfl rfl
set_option maxRecDepth 100000 in
theorem cl_8_42 : Cond.methodLink RL 42 yX6_town ∈ jG := jG_in 446 rfl rfl
set_option maxRecDepth 100000 in
theorem cl_6_137 : Cond.methodLink RX6 137 yX4_parse ∈ jG := jG_in 450 rfl rfl
set_option maxRecDepth 100000 in
theorem cl_4_15 : Cond.methodLink RX4 15 yX5_clear ∈ jG := jG_in 454 rfl rfl
set_option maxRecDepth 100000 in
theorem cl_4_28 : Cond.methodLink RX4 28 yX4_clause ∈ jG := jG_in 455 rfl rfl
set_option maxRecDepth 100000 in
theorem cl_4_46 : Cond.methodLink RX4 46 yX4_next ∈ jG := jG_in 459 rfl rfl
set_option maxRecDepth 100000 in
theorem cl_4_37 : Cond.methodLink RX4 37 yX4_word ∈ jG := jG_in 464 rfl rfl
set_option maxRecDepth 100000 in
theorem cl_4_55 : Cond.methodLink RX4 55 yX4_number ∈ jG := jG_in 516 rfl rfl
set_option maxRecDepth 100000 in
theorem cl_4_60 : Cond.methodLink RX4 60 yX4_either ∈ jG := jG_in 521 rfl rfl
set_option maxRecDepth 100000 in
theorem cl_4_83 : Cond.methodLink RX4 83 yX4_one ∈ jG := jG_in 525 rfl rfl
set_option maxRecDepth 100000 in
theorem cl_4_89 : Cond.methodLink RX4 89 yX4_isLetter ∈ jG := jG_in 529 rfl rfl
set_option maxRecDepth 100000 in
theorem cl_4_93 : Cond.methodLink RX4 93 yX4_relation ∈ jG := jG_in 532 rfl rfl
set_option maxRecDepth 100000 in
theorem cl_4_96 : Cond.methodLink RX4 96 yX5_addTest ∈ jG := jG_in 536 rfl rfl
set_option maxRecDepth 100000 in
theorem cl_4_86 : Cond.methodLink RX4 86 yX5_addJoint ∈ jG := jG_in 540 rfl rfl
set_option maxRecDepth 100000 in
theorem cl_5_46 : Cond.methodLink RX5 46 yX5_addTest ∈ jG := jG_in 544 rfl rfl
set_option maxRecDepth 100000 in
theorem cl_4_64 : Cond.methodLink RX4 64 yX5_addTake ∈ jG := jG_in 546 rfl rfl
set_option maxRecDepth 100000 in
theorem cl_8_47 : Cond.methodLink RL 47 yX6_told ∈ jG := jG_in 554 rfl rfl
set_option maxRecDepth 100000 in
theorem cl_6_144 : Cond.methodLink RX6 144 yX6_bornOn ∈ jG := jG_in 558 rfl rfl
set_option maxRecDepth 100000 in
theorem cl_6_147 : Cond.methodLink RX6 147 yX6_sellingOn ∈ jG := jG_in 562 rfl rfl
set_option maxRecDepth 100000 in
theorem cl_6_162 : Cond.methodLink RX6 162 yX6_allPurses ∈ jG := jG_in 566 rfl rfl
set_option maxRecDepth 100000 in
theorem cl_8_51 : Cond.methodLink RL 51 yX6_day ∈ jG := jG_in 570 rfl rfl
set_option maxRecDepth 100000 in
theorem cl_6_166 : Cond.methodLink RX6 166 yX1_go ∈ jG := jG_in 574 rfl rfl
set_option maxRecDepth 100000 in
theorem cl_1_55 : Cond.methodLink RX1 55 yX1_sell ∈ jG := jG_in 578 rfl rfl
set_option maxRecDepth 100000 in
theorem cl_1_64 : Cond.methodLink RX1 64 yX1_takes ∈ jG := jG_in 582 rfl rfl
set_option maxRecDepth 100000 in
theorem cl_1_77 : Cond.methodLink RX1 77 yX1_putOff ∈ jG := jG_in 583 rfl rfl
set_option maxRecDepth 100000 in
theorem cl_1_58 : Cond.methodLink RX1 58 yX1_share ∈ jG := jG_in 584 rfl rfl
set_option maxRecDepth 100000 in
theorem cl_8_55 : Cond.methodLink RL 55 yX6_by ∈ jG := jG_in 588 rfl rfl
set_option maxRecDepth 100000 in
theorem cl_8_59 : Cond.methodLink RL 59 yX6_years ∈ jG := jG_in 593 rfl rfl
set_option maxRecDepth 100000 in
theorem cl_6_182 : Cond.methodLink RX6 182 yX6_goYear ∈ jG := jG_in 597 rfl rfl
set_option maxRecDepth 100000 in
theorem cl_8_63 : Cond.methodLink RL 63 yX6_birth ∈ jG := jG_in 601 rfl rfl
set_option maxRecDepth 100000 in
theorem cl_6_185 : Cond.methodLink RX6 185 yX2_copy ∈ jG := jG_in 605 rfl rfl
set_option maxRecDepth 100000 in
theorem cl_6_188 : Cond.methodLink RX6 188 yX6_bestOf ∈ jG := jG_in 612 rfl rfl
set_option maxRecDepth 100000 in
theorem cl_6_192 : Cond.methodLink RX6 192 yX6_tryDays ∈ jG := jG_in 616 rfl rfl
set_option maxRecDepth 100000 in
theorem cl_6_269 : Cond.methodLink RX6 269 yX6_firstMost ∈ jG := jG_in 620 rfl rfl
set_option maxRecDepth 100000 in
theorem cl_8_67 : Cond.methodLink RL 67 yX6_plan ∈ jG := jG_in 624 rfl rfl
set_option maxRecDepth 100000 in
theorem cl_8_71 : Cond.methodLink RL 71 yX6_quiet ∈ jG := jG_in 628 rfl rfl
set_option maxRecDepth 100000 in
theorem cl_8_75 : Cond.methodLink RL 75 yX6_foundling ∈ jG := jG_in 632 rfl rfl
set_option maxRecDepth 100000 in
theorem cl_8_79 : Cond.methodLink RL 79 yX6_forged ∈ jG := jG_in 636 rfl rfl
set_option maxRecDepth 100000 in
theorem cl_8_83 : Cond.methodLink RL 83 yX6_change ∈ jG := jG_in 640 rfl rfl
set_option maxRecDepth 100000 in
theorem cl_6_196 : Cond.methodLink RX6 196 yX6_betterPlan ∈ jG := jG_in 644 rfl rfl
set_option maxRecDepth 100000 in
theorem cl_8_87 : Cond.methodLink RL 87 yX6_rest ∈ jG := jG_in 648 rfl rfl
set_option maxRecDepth 100000 in
theorem cl_8_91 : Cond.methodLink RL 91 yX6_reckoning ∈ jG := jG_in 652 rfl rfl
set_option maxRecDepth 100000 in
theorem cl_6_199 : Cond.methodLink RX6 199 yX6_gainOfOthers ∈ jG := jG_in 656 rfl rfl
set_option maxRecDepth 100000 in
theorem cl_8_95 : Cond.methodLink RL 95 yX6_high ∈ jG := jG_in 660 rfl rfl
set_option maxRecDepth 100000 in
theorem cl_8_99 : Cond.methodLink RL 99 yX6_last ∈ jG := jG_in 664 rfl rfl
set_option maxRecDepth 100000 in
theorem cl_8_103 : Cond.methodLink RL 103 yX6_odds ∈ jG := jG_in 668 rfl rfl
set_option maxRecDepth 100000 in
theorem cl_6_205 : Cond.methodLink RX6 205 yX6_fraction ∈ jG := jG_in 673 rfl rfl
set_option maxRecDepth 100000 in
theorem cl_8_108 : Cond.methodLink RL 108 yX6_mean ∈ jG := jG_in 676 rfl rfl
set_option maxRecDepth 100000 in
theorem cl_8_113 : Cond.methodLink RL 113 yX6_book ∈ jG := jG_in 680 rfl rfl
set_option maxRecDepth 100000 in
theorem cl_8_117 : Cond.methodLink RL 117 yX6_looked ∈ jG := jG_in 684 rfl rfl
set_option maxRecDepth 100000 in
theorem cl_8_121 : Cond.methodLink RL 121 yX6_judge ∈ jG := jG_in 691 rfl rfl
set_option maxRecDepth 100000 in
theorem cl_6_220 : Cond.methodLink RX6 220 yX6_isTape ∈ jG := jG_in 695 rfl rfl
set_option maxRecDepth 100000 in
theorem cl_8_125 : Cond.methodLink RL 125 yX6_image ∈ jG := jG_in 698 rfl rfl
set_option maxRecDepth 100000 in
theorem cl_8_129 : Cond.methodLink RL 129 yX6_undo ∈ jG := jG_in 702 rfl rfl
set_option maxRecDepth 100000 in
theorem cl_8_133 : Cond.methodLink RL 133 yX6_act ∈ jG := jG_in 706 rfl rfl
set_option maxRecDepth 100000 in
theorem cl_6_238 : Cond.methodLink RX6 238 yX0_becomes ∈ jG := jG_in 710 rfl rfl
set_option maxRecDepth 100000 in
theorem cl_6_242 : Cond.methodLink RX6 242 yX0_answer ∈ jG := jG_in 714 rfl rfl
set_option maxRecDepth 100000 in
theorem cl_0_25 : Cond.methodLink RX0 25 yX0_sells ∈ jG := jG_in 718 rfl rfl
set_option maxRecDepth 100000 in
theorem cl_0_38 : Cond.methodLink RX0 38 yX0_runs ∈ jG := jG_in 722 rfl rfl
set_option maxRecDepth 100000 in
theorem cl_0_29 : Cond.methodLink RX0 29 yX0_gives ∈ jG := jG_in 726 rfl rfl
set_option maxRecDepth 100000 in
theorem cl_0_32 : Cond.methodLink RX0 32 yX0_tells ∈ jG := jG_in 730 rfl rfl
set_option maxRecDepth 100000 in
theorem cl_8_137 : Cond.methodLink RL 137 yX6_trace ∈ jG := jG_in 734 rfl rfl
set_option maxRecDepth 100000 in
theorem cl_8_141 : Cond.methodLink RL 141 yX6_taken ∈ jG := jG_in 738 rfl rfl
set_option maxRecDepth 100000 in
theorem cl_8_145 : Cond.methodLink RL 145 yX6_count ∈ jG := jG_in 744 rfl rfl
set_option maxRecDepth 100000 in
theorem cl_8_149 : Cond.methodLink RL 149 yX6_tape ∈ jG := jG_in 748 rfl rfl
set_option maxRecDepth 100000 in
theorem cl_6_251 : Cond.methodLink RX6 251 yX3_become ∈ jG := jG_in 752 rfl rfl
set_option maxRecDepth 100000 in
theorem cl_8_155 : Cond.methodLink RL 155 yX6_item ∈ jG := jG_in 756 rfl rfl
set_option maxRecDepth 100000 in
theorem cl_6_255 : Cond.methodLink RX6 255 yX3_fitted ∈ jG := jG_in 760 rfl rfl
set_option maxRecDepth 100000 in
theorem cl_8_160 : Cond.methodLink RL 160 yX6_read ∈ jG := jG_in 764 rfl rfl
set_option maxRecDepth 100000 in
theorem cl_8_165 : Cond.methodLink RL 165 yX6_shift ∈ jG := jG_in 768 rfl rfl
set_option maxRecDepth 100000 in
theorem cl_6_259 : Cond.methodLink RX6 259 yX3_holds ∈ jG := jG_in 772 rfl rfl
set_option maxRecDepth 100000 in
theorem cl_8_12 : Cond.methodLink RL 12 yX7_init ∈ jG := jG_in 779 rfl rfl
set_option maxRecDepth 100000 in
theorem cl_8_17 : Cond.methodLink RL 17 yX7_person ∈ jG := jG_in 964 rfl rfl
set_option maxRecDepth 100000 in
theorem cl_7_194 : Cond.methodLink RX7 194 yX7_in ∈ jG := jG_in 968 rfl rfl
set_option maxRecDepth 100000 in
theorem cl_7_198 : Cond.methodLink RX7 198 yX7_isDay ∈ jG := jG_in 972 rfl rfl
set_option maxRecDepth 100000 in
theorem cl_7_202 : Cond.methodLink RX7 202 yX7_lay ∈ jG := jG_in 976 rfl rfl
set_option maxRecDepth 100000 in
theorem cl_8_27 : Cond.methodLink RL 27 yX7_set ∈ jG := jG_in 980 rfl rfl
set_option maxRecDepth 100000 in
theorem cl_7_206 : Cond.methodLink RX7 206 yX7_isPerson ∈ jG := jG_in 984 rfl rfl
set_option maxRecDepth 100000 in
theorem cl_8_32 : Cond.methodLink RL 32 yX7_there ∈ jG := jG_in 988 rfl rfl
set_option maxRecDepth 100000 in
theorem cl_8_36 : Cond.methodLink RL 36 yX7_row ∈ jG := jG_in 992 rfl rfl
set_option maxRecDepth 100000 in
theorem cl_8_41 : Cond.methodLink RL 41 yX7_feed ∈ jG := jG_in 996 rfl rfl
set_option maxRecDepth 100000 in
theorem cl_8_46 : Cond.methodLink RL 46 yX7_town ∈ jG := jG_in 1000 rfl rfl
set_option maxRecDepth 100000 in
theorem cl_7_253 : Cond.methodLink RX7 253 yX7_goesText ∈ jG := jG_in 1004 rfl rfl
set_option maxRecDepth 100000 in
theorem cl_7_250 : Cond.methodLink RX7 250 yX7_takesClause ∈ jG := jG_in 1008 rfl rfl
set_option maxRecDepth 100000 in
theorem cl_7_244 : Cond.methodLink RX7 244 yX7_takesHead ∈ jG := jG_in 1012 rfl rfl
set_option maxRecDepth 100000 in
theorem cl_7_209 : Cond.methodLink RX7 209 yX7_next ∈ jG := jG_in 1016 rfl rfl
set_option maxRecDepth 100000 in
theorem cl_7_240 : Cond.methodLink RX7 240 yX7_takesWord ∈ jG := jG_in 1020 rfl rfl
set_option maxRecDepth 100000 in
theorem cl_7_213 : Cond.methodLink RX7 213 yX7_takes ∈ jG := jG_in 1024 rfl rfl
set_option maxRecDepth 100000 in
theorem cl_7_228 : Cond.methodLink RX7 228 yX7_takesNumber ∈ jG := jG_in 1028 rfl rfl
set_option maxRecDepth 100000 in
theorem cl_7_216 : Cond.methodLink RX7 216 yX7_isDigit ∈ jG := jG_in 1032 rfl rfl
set_option maxRecDepth 100000 in
theorem cl_7_247 : Cond.methodLink RX7 247 yX7_takesE ∈ jG := jG_in 1036 rfl rfl
set_option maxRecDepth 100000 in
theorem cl_7_234 : Cond.methodLink RX7 234 yX7_takesTest ∈ jG := jG_in 1040 rfl rfl
set_option maxRecDepth 100000 in
theorem cl_7_224 : Cond.methodLink RX7 224 yX7_place ∈ jG := jG_in 1044 rfl rfl
set_option maxRecDepth 100000 in
theorem cl_7_220 : Cond.methodLink RX7 220 yX7_emits ∈ jG := jG_in 1048 rfl rfl
set_option maxRecDepth 100000 in
theorem cl_7_231 : Cond.methodLink RX7 231 yX7_whole ∈ jG := jG_in 1052 rfl rfl
set_option maxRecDepth 100000 in
theorem cl_7_237 : Cond.methodLink RX7 237 yX7_settle ∈ jG := jG_in 1056 rfl rfl
set_option maxRecDepth 100000 in
theorem cl_8_22 : Cond.methodLink RL 22 yX7_of ∈ jG := jG_in 1060 rfl rfl
set_option maxRecDepth 100000 in
theorem cl_7_288 : Cond.methodLink RX7 288 yX7_sells ∈ jG := jG_in 1065 rfl rfl
set_option maxRecDepth 100000 in
theorem cl_7_285 : Cond.methodLink RX7 285 yX7_wishedDay ∈ jG := jG_in 1069 rfl rfl
set_option maxRecDepth 100000 in
theorem cl_7_279 : Cond.methodLink RX7 279 yX7_behindHated ∈ jG := jG_in 1073 rfl rfl
set_option maxRecDepth 100000 in
theorem cl_7_276 : Cond.methodLink RX7 276 yX7_thatOne ∈ jG := jG_in 1077 rfl rfl
set_option maxRecDepth 100000 in
theorem cl_7_282 : Cond.methodLink RX7 282 yX7_shunned ∈ jG := jG_in 1081 rfl rfl
set_option maxRecDepth 100000 in
theorem cl_7_266 : Cond.methodLink RX7 266 yX7_manyBorn ∈ jG := jG_in 1085 rfl rfl
set_option maxRecDepth 100000 in
theorem cl_7_262 : Cond.methodLink RX7 262 yX7_lastOf ∈ jG := jG_in 1089 rfl rfl
set_option maxRecDepth 100000 in
theorem cl_7_256 : Cond.methodLink RX7 256 yX7_clauseFrom ∈ jG := jG_in 1093 rfl rfl
set_option maxRecDepth 100000 in
theorem cl_7_259 : Cond.methodLink RX7 259 yX7_clauseTo ∈ jG := jG_in 1097 rfl rfl
set_option maxRecDepth 100000 in
theorem cl_7_292 : Cond.methodLink RX7 292 yX7_putOff ∈ jG := jG_in 1101 rfl rfl
set_option maxRecDepth 100000 in
theorem cl_7_295 : Cond.methodLink RX7 295 yX7_takesOf ∈ jG := jG_in 1105 rfl rfl
set_option maxRecDepth 100000 in
theorem cl_7_273 : Cond.methodLink RX7 273 yX7_holds ∈ jG := jG_in 1109 rfl rfl
set_option maxRecDepth 100000 in
theorem cl_7_269 : Cond.methodLink RX7 269 yX7_factOf ∈ jG := jG_in 1113 rfl rfl
set_option maxRecDepth 100000 in
theorem cl_8_50 : Cond.methodLink RL 50 yX7_told ∈ jG := jG_in 1117 rfl rfl
set_option maxRecDepth 100000 in
theorem cl_7_298 : Cond.methodLink RX7 298 yX7_bornOn ∈ jG := jG_in 1121 rfl rfl
set_option maxRecDepth 100000 in
theorem cl_7_301 : Cond.methodLink RX7 301 yX7_sellOn ∈ jG := jG_in 1125 rfl rfl
set_option maxRecDepth 100000 in
theorem cl_7_304 : Cond.methodLink RX7 304 yX7_dueNow ∈ jG := jG_in 1129 rfl rfl
set_option maxRecDepth 100000 in
theorem cl_7_307 : Cond.methodLink RX7 307 yX7_allPurses ∈ jG := jG_in 1133 rfl rfl
set_option maxRecDepth 100000 in
theorem cl_8_54 : Cond.methodLink RL 54 yX7_day ∈ jG := jG_in 1137 rfl rfl
set_option maxRecDepth 100000 in
theorem cl_7_310 : Cond.methodLink RX7 310 yX7_goDay ∈ jG := jG_in 1141 rfl rfl
set_option maxRecDepth 100000 in
theorem cl_8_58 : Cond.methodLink RL 58 yX7_by ∈ jG := jG_in 1145 rfl rfl
set_option maxRecDepth 100000 in
theorem cl_7_314 : Cond.methodLink RX7 314 yX7_keep ∈ jG := jG_in 1150 rfl rfl
set_option maxRecDepth 100000 in
theorem cl_7_317 : Cond.methodLink RX7 317 yX7_putBack ∈ jG := jG_in 1154 rfl rfl
set_option maxRecDepth 100000 in
theorem cl_8_62 : Cond.methodLink RL 62 yX7_years ∈ jG := jG_in 1158 rfl rfl
set_option maxRecDepth 100000 in
theorem cl_7_323 : Cond.methodLink RX7 323 yX7_yearOf ∈ jG := jG_in 1162 rfl rfl
set_option maxRecDepth 100000 in
theorem cl_7_320 : Cond.methodLink RX7 320 yX7_layYear ∈ jG := jG_in 1166 rfl rfl
set_option maxRecDepth 100000 in
theorem cl_8_66 : Cond.methodLink RL 66 yX7_birth ∈ jG := jG_in 1170 rfl rfl
set_option maxRecDepth 100000 in
theorem cl_7_326 : Cond.methodLink RX7 326 yX7_layBest ∈ jG := jG_in 1174 rfl rfl
set_option maxRecDepth 100000 in
theorem cl_8_70 : Cond.methodLink RL 70 yX7_plan ∈ jG := jG_in 1178 rfl rfl
set_option maxRecDepth 100000 in
theorem cl_8_74 : Cond.methodLink RL 74 yX7_quiet ∈ jG := jG_in 1182 rfl rfl
set_option maxRecDepth 100000 in
theorem cl_8_78 : Cond.methodLink RL 78 yX7_foundling ∈ jG := jG_in 1186 rfl rfl
set_option maxRecDepth 100000 in
theorem cl_8_82 : Cond.methodLink RL 82 yX7_forged ∈ jG := jG_in 1190 rfl rfl
set_option maxRecDepth 100000 in
theorem cl_8_86 : Cond.methodLink RL 86 yX7_change ∈ jG := jG_in 1194 rfl rfl
set_option maxRecDepth 100000 in
theorem cl_7_330 : Cond.methodLink RX7 330 yX7_wouldChange ∈ jG := jG_in 1198 rfl rfl
set_option maxRecDepth 100000 in
theorem cl_8_90 : Cond.methodLink RL 90 yX7_rest ∈ jG := jG_in 1202 rfl rfl
set_option maxRecDepth 100000 in
theorem cl_7_333 : Cond.methodLink RX7 333 yX7_layRest ∈ jG := jG_in 1206 rfl rfl
set_option maxRecDepth 100000 in
theorem cl_8_94 : Cond.methodLink RL 94 yX7_reckoning ∈ jG := jG_in 1210 rfl rfl
set_option maxRecDepth 100000 in
theorem cl_7_336 : Cond.methodLink RX7 336 yX7_allMore ∈ jG := jG_in 1214 rfl rfl
set_option maxRecDepth 100000 in
theorem cl_8_98 : Cond.methodLink RL 98 yX7_high ∈ jG := jG_in 1218 rfl rfl
set_option maxRecDepth 100000 in
theorem cl_8_102 : Cond.methodLink RL 102 yX7_last ∈ jG := jG_in 1222 rfl rfl
set_option maxRecDepth 100000 in
theorem cl_7_339 : Cond.methodLink RX7 339 yX7_othersMore ∈ jG := jG_in 1226 rfl rfl
set_option maxRecDepth 100000 in
theorem cl_8_107 : Cond.methodLink RL 107 yX7_odds ∈ jG := jG_in 1230 rfl rfl
set_option maxRecDepth 100000 in
theorem cl_7_347 : Cond.methodLink RX7 347 yX7_yearIf ∈ jG := jG_in 1235 rfl rfl
set_option maxRecDepth 100000 in
theorem cl_7_350 : Cond.methodLink RX7 350 yX7_lowest ∈ jG := jG_in 1239 rfl rfl
set_option maxRecDepth 100000 in
theorem cl_7_342 : Cond.methodLink RX7 342 yX7_divisor ∈ jG := jG_in 1243 rfl rfl
set_option maxRecDepth 100000 in
theorem cl_8_112 : Cond.methodLink RL 112 yX7_mean ∈ jG := jG_in 1247 rfl rfl
set_option maxRecDepth 100000 in
theorem cl_8_116 : Cond.methodLink RL 116 yX7_book ∈ jG := jG_in 1251 rfl rfl
set_option maxRecDepth 100000 in
theorem cl_8_120 : Cond.methodLink RL 120 yX7_looked ∈ jG := jG_in 1255 rfl rfl
set_option maxRecDepth 100000 in
theorem cl_8_124 : Cond.methodLink RL 124 yX7_judge ∈ jG := jG_in 1259 rfl rfl
set_option maxRecDepth 100000 in
theorem cl_7_354 : Cond.methodLink RX7 354 yX7_isTape ∈ jG := jG_in 1263 rfl rfl
set_option maxRecDepth 100000 in
theorem cl_8_128 : Cond.methodLink RL 128 yX7_image ∈ jG := jG_in 1267 rfl rfl
set_option maxRecDepth 100000 in
theorem cl_8_132 : Cond.methodLink RL 132 yX7_undo ∈ jG := jG_in 1271 rfl rfl
set_option maxRecDepth 100000 in
theorem cl_8_136 : Cond.methodLink RL 136 yX7_act ∈ jG := jG_in 1275 rfl rfl
set_option maxRecDepth 100000 in
theorem cl_7_363 : Cond.methodLink RX7 363 yX7_sellsAct ∈ jG := jG_in 1279 rfl rfl
set_option maxRecDepth 100000 in
theorem cl_7_357 : Cond.methodLink RX7 357 yX7_body ∈ jG := jG_in 1283 rfl rfl
set_option maxRecDepth 100000 in
theorem cl_7_360 : Cond.methodLink RX7 360 yX7_sellerSells ∈ jG := jG_in 1287 rfl rfl
set_option maxRecDepth 100000 in
theorem cl_7_372 : Cond.methodLink RX7 372 yX7_givesAct ∈ jG := jG_in 1291 rfl rfl
set_option maxRecDepth 100000 in
theorem cl_7_369 : Cond.methodLink RX7 369 yX7_haterGives ∈ jG := jG_in 1295 rfl rfl
set_option maxRecDepth 100000 in
theorem cl_7_366 : Cond.methodLink RX7 366 yX7_sellerGives ∈ jG := jG_in 1299 rfl rfl
set_option maxRecDepth 100000 in
theorem cl_7_378 : Cond.methodLink RX7 378 yX7_tellsAct ∈ jG := jG_in 1303 rfl rfl
set_option maxRecDepth 100000 in
theorem cl_7_375 : Cond.methodLink RX7 375 yX7_sellerTells ∈ jG := jG_in 1307 rfl rfl
set_option maxRecDepth 100000 in
theorem cl_8_140 : Cond.methodLink RL 140 yX7_trace ∈ jG := jG_in 1311 rfl rfl
set_option maxRecDepth 100000 in
theorem cl_8_144 : Cond.methodLink RL 144 yX7_taken ∈ jG := jG_in 1315 rfl rfl
set_option maxRecDepth 100000 in
theorem cl_8_148 : Cond.methodLink RL 148 yX7_count ∈ jG := jG_in 1319 rfl rfl
set_option maxRecDepth 100000 in
theorem cl_8_152 : Cond.methodLink RL 152 yX7_tape ∈ jG := jG_in 1323 rfl rfl
set_option maxRecDepth 100000 in
theorem cl_8_159 : Cond.methodLink RL 159 yX7_item ∈ jG := jG_in 1327 rfl rfl
set_option maxRecDepth 100000 in
theorem cl_7_381 : Cond.methodLink RX7 381 yX7_narrow ∈ jG := jG_in 1331 rfl rfl
set_option maxRecDepth 100000 in
theorem cl_8_164 : Cond.methodLink RL 164 yX7_read ∈ jG := jG_in 1335 rfl rfl
set_option maxRecDepth 100000 in
theorem cl_8_169 : Cond.methodLink RL 169 yX7_shift ∈ jG := jG_in 1339 rfl rfl
set_option maxRecDepth 100000 in
theorem kl_8_7 : Cond.classLink RL 7 RX6 ∈ jG := jG_in 101 rfl rfl
set_option maxRecDepth 100000 in
theorem kl_6_15 : Cond.classLink RX6 15 RX4 ∈ jG := jG_in 109 rfl rfl
set_option maxRecDepth 100000 in
theorem kl_6_22 : Cond.classLink RX6 22 RX5 ∈ jG := jG_in 133 rfl rfl
set_option maxRecDepth 100000 in
theorem kl_6_28 : Cond.classLink RX6 28 RX0 ∈ jG := jG_in 135 rfl rfl
set_option maxRecDepth 100000 in
theorem kl_6_35 : Cond.classLink RX6 35 RX3 ∈ jG := jG_in 159 rfl rfl
set_option maxRecDepth 100000 in
theorem kl_6_42 : Cond.classLink RX6 42 RX2 ∈ jG := jG_in 215 rfl rfl
set_option maxRecDepth 100000 in
theorem kl_6_57 : Cond.classLink RX6 57 RX1 ∈ jG := jG_in 285 rfl rfl
set_option maxRecDepth 100000 in
theorem kl_8_10 : Cond.classLink RL 10 RX7 ∈ jG := jG_in 777 rfl rfl
set_option maxRecDepth 100000 in
theorem ct_6_82 : Cond.constant RX6 82 (-10000001) ∈ jG := jG_in 397 rfl rfl
set_option maxRecDepth 100000 in
theorem ct_6_178 : Cond.constant RX6 178 (-10000002) ∈ jG := jG_in 592 rfl rfl
set_option maxRecDepth 100000 in
theorem ct_7_291 : Cond.constant RX7 291 (-10000001) ∈ jG := jG_in 1064 rfl rfl
set_option maxRecDepth 100000 in
theorem ct_7_313 : Cond.constant RX7 313 (-10000002) ∈ jG := jG_in 1149 rfl rfl
set_option maxRecDepth 100000 in
theorem ctl_6_203 : Cond.constantLong RX6 203 (-9223372036854775808) ∈ jG := jG_in 672 rfl rfl
set_option maxRecDepth 100000 in
theorem ctl_7_345 : Cond.constantLong RX7 345 (-9223372036854775808) ∈ jG := jG_in 1234 rfl rfl
set_option maxRecDepth 100000 in
theorem ctl_8_153 : Cond.constantLong RL 153 (4294967295) ∈ jG := jG_in 1343 rfl rfl
set_option maxRecDepth 100000 in
theorem oi_6 : Cond.methodLink RX6 3 objectInit ∈ jG := jG_in 106 rfl rfl
set_option maxRecDepth 100000 in
theorem oi_4 : Cond.methodLink RX4 3 objectInit ∈ jG := jG_in 114 rfl rfl
set_option maxRecDepth 100000 in
theorem oi_0 : Cond.methodLink RX0 3 objectInit ∈ jG := jG_in 140 rfl rfl
set_option maxRecDepth 100000 in
theorem oi_5 : Cond.methodLink RX5 3 objectInit ∈ jG := jG_in 165 rfl rfl
set_option maxRecDepth 100000 in
theorem oi_2 : Cond.methodLink RX2 3 objectInit ∈ jG := jG_in 220 rfl rfl
set_option maxRecDepth 100000 in
theorem oi_1 : Cond.methodLink RX1 3 objectInit ∈ jG := jG_in 290 rfl rfl
set_option maxRecDepth 100000 in
theorem oi_3 : Cond.methodLink RX3 3 objectInit ∈ jG := jG_in 329 rfl rfl
set_option maxRecDepth 100000 in
theorem oi_7 : Cond.methodLink RX7 1 objectInit ∈ jG := jG_in 782 rfl rfl
set_option maxRecDepth 100000 in
theorem ac_2 : Cond.methodLink RX2 54 arraycopyName ∈ jG := jG_in 609 rfl rfl
set_option maxRecDepth 100000 in
theorem ac_6 : Cond.methodLink RX6 263 arraycopyName ∈ jG := jG_in 776 rfl rfl
set_option maxRecDepth 100000 in
theorem oi_inst : Cond.instanceMethod objectInit ∈ jG := jG_in 107 rfl rfl
set_option maxRecDepth 100000 in
theorem oi_code : Cond.code objectInit ⟨#[0xb1]⟩ 1 none ∈ jG := jG_in 108 rfl rfl
set_option maxRecDepth 100000 in
theorem ac_nat : Cond.native arraycopyName ∈ jG := jG_in 611 rfl rfl
set_option maxRecDepth 100000 in
theorem ac_stat : Cond.static arraycopyName ∈ jG := jG_in 610 rfl rfl
set_option maxRecDepth 100000 in
theorem ac_ini : Cond.initialized "java/lang/System" ∈ jG := jG_in 99 rfl rfl
set_option maxRecDepth 100000 in
theorem ar_int : Cond.arrayClass .int ∈ jG := jG_in 131 rfl rfl
set_option maxRecDepth 100000 in
theorem ar_long : Cond.arrayClass .long ∈ jG := jG_in 343 rfl rfl
set_option maxRecDepth 100000 in
theorem ar_byte : Cond.arrayClass .byte ∈ jG := jG_in 132 rfl rfl
set_option maxRecDepth 100000 in
theorem ar_boolean : Cond.arrayClass .boolean ∈ jG := jG_in 284 rfl rfl
set_option maxRecDepth 100000 in
theorem is_0 : Cond.instantiable RX0 5 ∈ jG := jG_in 136 rfl rfl
set_option maxRecDepth 100000 in
theorem ic_0 : Cond.initialized RX0 ∈ jG := jG_in 89 rfl rfl
set_option maxRecDepth 100000 in
theorem is_1 : Cond.instantiable RX1 9 ∈ jG := jG_in 286 rfl rfl
set_option maxRecDepth 100000 in
theorem ic_1 : Cond.initialized RX1 ∈ jG := jG_in 92 rfl rfl
set_option maxRecDepth 100000 in
theorem is_2 : Cond.instantiable RX2 13 ∈ jG := jG_in 216 rfl rfl
set_option maxRecDepth 100000 in
theorem ic_2 : Cond.initialized RX2 ∈ jG := jG_in 91 rfl rfl
set_option maxRecDepth 100000 in
theorem is_3 : Cond.instantiable RX3 3 ∈ jG := jG_in 325 rfl rfl
set_option maxRecDepth 100000 in
theorem ic_3 : Cond.initialized RX3 ∈ jG := jG_in 93 rfl rfl
set_option maxRecDepth 100000 in
theorem is_4 : Cond.instantiable RX4 4 ∈ jG := jG_in 110 rfl rfl
set_option maxRecDepth 100000 in
theorem ic_4 : Cond.initialized RX4 ∈ jG := jG_in 88 rfl rfl
set_option maxRecDepth 100000 in
theorem is_5 : Cond.instantiable RX5 10 ∈ jG := jG_in 161 rfl rfl
set_option maxRecDepth 100000 in
theorem ic_5 : Cond.initialized RX5 ∈ jG := jG_in 90 rfl rfl
set_option maxRecDepth 100000 in
theorem is_6 : Cond.instantiable RX6 11 ∈ jG := jG_in 102 rfl rfl
set_option maxRecDepth 100000 in
theorem ic_6 : Cond.initialized RX6 ∈ jG := jG_in 87 rfl rfl
set_option maxRecDepth 100000 in
theorem is_7 : Cond.instantiable RX7 60 ∈ jG := jG_in 778 rfl rfl
set_option maxRecDepth 100000 in
theorem ic_7 : Cond.initialized RX7 ∈ jG := jG_in 94 rfl rfl
set_option maxRecDepth 100000 in
theorem ns_6_17 : Cond.methodLinkNest RX6 17 yX4_init RX6 ∈ lw_tbl := List.mem_of_getElem? (i := 111) rfl
set_option maxRecDepth 100000 in
theorem ns_6_30 : Cond.methodLinkNest RX6 30 yX0_init RX6 ∈ lw_tbl := List.mem_of_getElem? (i := 137) rfl
set_option maxRecDepth 100000 in
theorem ns_6_66 : Cond.methodLinkNest RX6 66 yX3_init RX6 ∈ lw_tbl := List.mem_of_getElem? (i := 326) rfl
set_option maxRecDepth 100000 in
theorem ao_5 : Cond.arrayOver (.object RX5) ∈ lw_tbl := List.mem_of_getElem? (i := 134) rfl
set_option maxRecDepth 100000 in
theorem ao_3 : Cond.arrayOver (.object RX3) ∈ lw_tbl := List.mem_of_getElem? (i := 160) rfl
end
section
/-! THE ABSTRACT MACHINE: a heap is a list of cells (a reference is a place in it), a judgement J says of a frame over it what W says of the machine's. -/
/-- a cell: an array (its sort as a number; ints, longs, or references), or an object (its class as a number, its fields) -/
abbrev jEt : Type := (Nat × (List Int32 ⊕ (List Int64 ⊕ List (Option Nat)))) ⊕ (Nat × List Value)
abbrev jH : Type := List jEt
def jV (sb : Nat) (ad : Nat → Nat) (v : Value) : Value := match v with
  | .ref k => .ref (ad k)
  | .retAddr _ => .ref sb
  | v => v
def jE (sb : Nat) (dA ad : Nat → Nat) (e : jEt) : va_E := match e with
  | .inl (t, .inl xs) => .inl (dA t, xs.length, .inl (fun j => xs.getD j 0))
  | .inl (t, .inr (.inl xs)) => .inl (dA t, xs.length, .inr (.inl (fun j => xs.getD j 0)))
  | .inl (t, .inr (.inr rs)) => .inl (dA t, rs.length, .inr (.inr (.inr (.inr (fun j => (rs.getD j none).map ad)))))
  | .inr (ci, fs) => .inr (ci, fs.map (jV sb ad))
def jWs (sb : Nat) (dA ad : Nat → Nat) (h : jH) : va_W := h.mapIdx (fun k e => (ad k, jE sb dA ad e))
theorem jWs_at {sb : Nat} {dA ad : Nat → Nat} {h : jH} {k : Nat} : (jWs sb dA ad h)[k]? = (h[k]?).map (fun e => (ad k, jE sb dA ad e)) := by
  simp [jWs]
theorem jWs_get {sb : Nat} {dA ad : Nat → Nat} {h : jH} {k : Nat} {e : jEt} (he : h[k]? = some e) : (jWs sb dA ad h)[k]? = some (ad k, jE sb dA ad e) := by
  rw [jWs_at, he]; rfl
theorem jWs_set {sb : Nat} {dA ad : Nat → Nat} {h : jH} {k : Nat} {e : jEt} : (jWs sb dA ad h).set k (ad k, jE sb dA ad e) = jWs sb dA ad (h.set k e) := by
  apply List.ext_getElem?
  intro i
  rw [List.getElem?_set, jWs_at, jWs_at, List.getElem?_set]
  by_cases hk : k = i
  · subst hk
    by_cases hl : k < h.length
    · simp [jWs, hl]
    · simp [jWs, hl]
  · simp [hk]
theorem jV_cat (sb : Nat) (ad : Nat → Nat) (v : Value) : (jV sb ad v).category = v.category := by
  cases v <;> rfl
def jL (sb : Nat) (ad : Nat → Nat) (lv : List (Nat × Value)) : List (Nat × Value) := lv.map (fun q => (q.1, jV sb ad q.2))
def jTy (t : Nat) : FieldType := match t with
  | 0 => .int
  | 1 => .long
  | 2 => .byte
  | 3 => .boolean
  | 4 => .object RX5
  | _ => .object RX3
def jT (dA : Nat → Nat) : List (ClassId × FieldType) := [(dA 0, jTy 0), (dA 1, jTy 1), (dA 2, jTy 2), (dA 3, jTy 3), (dA 4, jTy 4), (dA 5, jTy 5)]
theorem jT_at {dA : Nat → Nat} {t : Nat} (ht : t < 6) : (jT dA)[t]? = some (dA t, jTy t) := by
  rcases (show t = 0 ∨ t = 1 ∨ t = 2 ∨ t = 3 ∨ t = 4 ∨ t = 5 by omega) with rfl | rfl | rfl | rfl | rfl | rfl <;> rfl
def jN (U : State) : Prop := va_AO RX5 U ∧ va_AO RX3 U ∧ va_Nw (.methodLinkNest RX6 17 yX4_init RX6) U ∧ va_Nw (.methodLinkNest RX6 30 yX0_init RX6) U ∧ va_Nw (.methodLinkNest RX6 66 yX3_init RX6) U
def jK (D : va_G) (dA : Nat → Nat) (U : State) : Prop := va_K D vwCl (jT dA) U ∧ jN U
theorem jK.moved {D : va_G} {dA : Nat → Nat} {u U : State} (hW : u.WarmedH U.vm) (h : jK D dA u) : jK D dA U :=
  ⟨va_K.moved hW.alike h.1, va_AO.moved hW.alike h.2.1, va_AO.moved hW.alike h.2.2.1, va_Nw.warmM hW h.2.2.2.1, va_Nw.warmM hW h.2.2.2.2.1, va_Nw.warmM hW h.2.2.2.2.2⟩
theorem jK.same {D : va_G} {dA : Nat → Nat} {u U : State} (hvm : u.vm = U.vm) (h : jK D dA u) : jK D dA U := by
  have ha : u.vm.Alike U.vm := by rw [hvm]; exact Vm.Alike.refl U.vm
  exact ⟨va_K.moved ha h.1, va_AO.moved ha h.2.1, va_AO.moved ha h.2.2.1, va_Nw.same rfl hvm h.2.2.2.1, va_Nw.same rfl hvm h.2.2.2.2.1, va_Nw.same rfl hvm h.2.2.2.2.2⟩
/-- what is fixed in a frame -/
def jFix (M : jM) (p : Program) (s : State) (m : MethodId) (args : Array Value) (meth : Method) (c : Code) (D : va_G) (dA : Nat → Nat) : Prop :=
  p.tables.exec = Jvm.exec ∧ c.code = M.2.2.1 ∧ c.maxLocals = M.2.2.2.1 ∧ s.vm.findClass M.2.1.cls = some m.cls ∧ (∀ w ∈ jG, w.before args s = true) ∧ jK D dA s ∧ meth.locks = false ∧ meth.sig.returnType = M.2.2.2.2.1 ∧ (M.2.1.name = "<init>" → meth.name = "<init>")
/-- the world: the abstract heap is the machine's, at the addresses ad -/
def jWd (D : va_G) (dA : Nat → Nat) (sb : Nat) (A : Nat → Prop) (H0 : Heap) (n0 : Nat) (ad0 ad : Nat → Nat) (CB : Nat) (h : jH) (H : Heap) (locs : List Loc) : Prop :=
  va_P D vwCl (jWs sb dA ad h) H ∧ va_D A (jWs sb dA ad h) ∧ va_S A H0 H locs ∧ n0 ≤ h.length ∧ (∀ i, i < n0 → ad i = ad0 i) ∧ (CB = 0 → ad = ad0)
def jSx (on : Bool) (L : Nat) (xs : Nat → Int32) (sb : Nat) (s : State) (H0 : Heap) (A : Nat → Prop) : Prop := on = true → va_X sb L xs s H0 ∧ sb < H0.size ∧ ¬ A sb
def jRi (M : jM) (pc : Nat) (v : Option Value) : Prop := match v with
  | none => decode M.2.2.1 pc = .ok (.return_, 1) ∧ M.2.2.2.2.1 = none
  | some (.int x) => decode M.2.2.1 pc = .ok (.ireturn, 1) ∧ ∃ ty, M.2.2.2.2.1 = some ty ∧ narrow ty (.int x) = .int x
  | some (.long _) => decode M.2.2.1 pc = .ok (.lreturn, 1) ∧ M.2.2.2.2.1 = some .long
  | _ => False
def jK0 : Nat := 40
def J (M : jM) (on : Bool) (L : Nat) (xs : Nat → Int32) (d kc ks pc : Nat) (lv : List (Nat × Value)) (st : List Value) (h : jH) (Q : Option Value → jH → Prop) : Prop :=
  ∀ (p : Program) (l : Launch) (e : Env) (R : Room) (s : State) (m : MethodId) (args : Array Value) (below : List Frame) (meth : Method) (c : Code) (D : va_G) (dA : Nat → Nat) (sb : Nat) (A : Nat → Prop) (H0 : Heap) (n0 : Nat) (ad0 : Nat → Nat) (CB SB : Nat) (QQ : State → Prop),
    jFix M p s m args meth c D dA → jSx on L xs sb s H0 A → (∀ q, H0.size ≤ q → A q) → (d ≤ R.frames ∧ d * jK0 ≤ R.locals ∧ CB ≤ R.cells ∧ SB ≤ R.slots) →
    (∀ (v : Option Value) (h' : jH) (ad' : Nat → Nat) (H' : Heap) (locs' : List Loc) (cells' slots' pc' : Nat) (ls' : Array Slot), Q v h' → jWd D dA sb A H0 n0 ad0 ad' CB h' H' locs' → cells' ≤ CB → slots' ≤ SB → jRi M pc' v →
      W p l e R s m args below meth c H' locs' cells' slots' QQ (F0 m pc' ls' (v.toList.map (jV sb ad')))) →
    ∀ (ad : Nat → Nat) (H : Heap) (locs : List Loc) (cells slots : Nat) (ls : Array Slot), jWd D dA sb A H0 n0 ad0 ad CB h H locs → lv_has ls M.2.2.2.1 (jL sb ad lv) → cells + kc ≤ CB → slots + ks ≤ SB →
      W p l e R s m args below meth c H locs cells slots QQ (F0 m pc ls (st.map (jV sb ad)))
section JROWS
variable {M : jM} {on : Bool} {L : Nat} {xs : Nat → Int32} {d kc ks pc pc' : Nat} {lv lv' : List (Nat × Value)} {st st' : List Value} {h : jH} {Q Q' : Option Value → jH → Prop}
theorem J.mono (hq : ∀ v h, Q v h → Q' v h) (k : J M on L xs d kc ks pc lv st h Q) : J M on L xs d kc ks pc lv st h Q' :=
  fun p l e R s m args below meth c D dA sb A H0 n0 ad0 CB SB QQ hF hX hA hR hT => k p l e R s m args below meth c D dA sb A H0 n0 ad0 CB SB QQ hF hX hA hR (fun v h' ad' H' locs' cells' slots' pc' ls' q => hT v h' ad' H' locs' cells' slots' pc' ls' (hq v h' q))
/-- less room is asked -/
theorem J.room {d' kc' ks' : Nat} (h1 : d' ≤ d) (h2 : kc' ≤ kc) (h3 : ks' ≤ ks) (k : J M on L xs d' kc' ks' pc lv st h Q) : J M on L xs d kc ks pc lv st h Q :=
  fun p l e R s m args below meth c D dA sb A H0 n0 ad0 CB SB QQ hF hX hA hR hT ad H locs cells slots ls hw hl h4 h5 =>
    k p l e R s m args below meth c D dA sb A H0 n0 ad0 CB SB QQ hF hX hA ⟨Nat.le_trans h1 hR.1, Nat.le_trans (Nat.mul_le_mul_right _ h1) hR.2.1, hR.2.2⟩ hT ad H locs cells slots ls hw hl (by omega) (by omega)
/-- fewer locals -/
theorem J.locals (hs : ∀ q ∈ lv', q ∈ lv) (k : J M on L xs d kc ks pc lv' st h Q) : J M on L xs d kc ks pc lv st h Q :=
  fun p l e R s m args below meth c D dA sb A H0 n0 ad0 CB SB QQ hF hX hA hR hT ad H locs cells slots ls hw hl h4 h5 =>
    k p l e R s m args below meth c D dA sb A H0 n0 ad0 CB SB QQ hF hX hA hR hT ad H locs cells slots ls hw ⟨hl.1, hl.2.1, fun q hq => by
      obtain ⟨r, hr, rfl⟩ := List.mem_map.mp hq
      exact hl.2.2 _ (List.mem_map.mpr ⟨r, hs r hr, rfl⟩)⟩ h4 h5
theorem J_st (hs : ∀ {p : Program} {l : Launch} {e : Env} {R : Room} {s : State} {m : MethodId} {args : Array Value} {below : List Frame} {meth : Method} {c : Code} {H : Heap} {locs : List Loc} {cells slots : Nat} {QQ : State → Prop} {sb : Nat} {ad : Nat → Nat} {ls : Array Slot},
      p.tables.exec = Jvm.exec → c.code = M.2.2.1 → s.vm.findClass M.2.1.cls = some m.cls → (∀ w ∈ jG, w.before args s = true) →
      W p l e R s m args below meth c H locs cells slots QQ (F0 m pc' ls (st'.map (jV sb ad))) → W p l e R s m args below meth c H locs cells slots QQ (F0 m pc ls (st.map (jV sb ad))))
    (k : J M on L xs d kc ks pc' lv st' h Q) : J M on L xs d kc ks pc lv st h Q :=
  fun p l e R s m args below meth c D dA sb A H0 n0 ad0 CB SB QQ hF hX hA hR hT ad H locs cells slots ls hw hl h4 h5 =>
    hs hF.1 hF.2.1 hF.2.2.2.1 hF.2.2.2.2.1 (k p l e R s m args below meth c D dA sb A H0 n0 ad0 CB SB QQ hF hX hA hR hT ad H locs cells slots ls hw hl h4 h5)
theorem J_lc (hs : ∀ {p : Program} {l : Launch} {e : Env} {R : Room} {s : State} {m : MethodId} {args : Array Value} {below : List Frame} {meth : Method} {c : Code} {H : Heap} {locs : List Loc} {cells slots : Nat} {QQ : State → Prop} {sb : Nat} {ad : Nat → Nat} {ls : Array Slot},
      p.tables.exec = Jvm.exec → c.code = M.2.2.1 → lv_has ls M.2.2.2.1 (jL sb ad lv) →
      (∀ ls', lv_has ls' M.2.2.2.1 (jL sb ad lv') → W p l e R s m args below meth c H locs cells slots QQ (F0 m pc' ls' (st'.map (jV sb ad)))) → W p l e R s m args below meth c H locs cells slots QQ (F0 m pc ls (st.map (jV sb ad))))
    (k : J M on L xs d kc ks pc' lv' st' h Q) : J M on L xs d kc ks pc lv st h Q :=
  fun p l e R s m args below meth c D dA sb A H0 n0 ad0 CB SB QQ hF hX hA hR hT ad H locs cells slots ls hw hl h4 h5 =>
    hs hF.1 hF.2.1 hl (fun ls' hl' => k p l e R s m args below meth c D dA sb A H0 n0 ad0 CB SB QQ hF hX hA hR hT ad H locs cells slots ls' hw hl' h4 h5)
theorem J_br {P : Prop} {tgt : Nat} (hs : ∀ {p : Program} {l : Launch} {e : Env} {R : Room} {s : State} {m : MethodId} {args : Array Value} {below : List Frame} {meth : Method} {c : Code} {H : Heap} {locs : List Loc} {cells slots : Nat} {QQ : State → Prop} {sb : Nat} {ad : Nat → Nat} {ls : Array Slot},
      p.tables.exec = Jvm.exec → c.code = M.2.2.1 →
      (P → W p l e R s m args below meth c H locs cells slots QQ (F0 m tgt ls (st'.map (jV sb ad)))) → (¬ P → W p l e R s m args below meth c H locs cells slots QQ (F0 m pc' ls (st'.map (jV sb ad)))) → W p l e R s m args below meth c H locs cells slots QQ (F0 m pc ls (st.map (jV sb ad))))
    (kt : P → J M on L xs d kc ks tgt lv st' h Q) (kf : ¬ P → J M on L xs d kc ks pc' lv st' h Q) : J M on L xs d kc ks pc lv st h Q :=
  fun p l e R s m args below meth c D dA sb A H0 n0 ad0 CB SB QQ hF hX hA hR hT ad H locs cells slots ls hw hl h4 h5 =>
    hs hF.1 hF.2.1 (fun hp => kt hp p l e R s m args below meth c D dA sb A H0 n0 ad0 CB SB QQ hF hX hA hR hT ad H locs cells slots ls hw hl h4 h5) (fun hp => kf hp p l e R s m args below meth c D dA sb A H0 n0 ad0 CB SB QQ hF hX hA hR hT ad H locs cells slots ls hw hl h4 h5)
theorem J_iconst {n : Int} {v : Int32} (hv : Int32.ofInt n = v) (hd : decode M.2.2.1 pc = .ok (.iconst n, 1)) (k : J M on L xs d kc ks (pc + 1) lv (.int v :: st) h Q) : J M on L xs d kc ks pc lv (st) h Q := J_st (fun hx hb hown hts k => lv_iconst hx hb hd hv k) k
theorem J_bipush {n : Int} {v : Int32} (hv : (Int8.ofInt n).toInt32 = v) (hd : decode M.2.2.1 pc = .ok (.bipush n, 2)) (k : J M on L xs d kc ks (pc + 2) lv (.int v :: st) h Q) : J M on L xs d kc ks pc lv (st) h Q := J_st (fun hx hb hown hts k => lv_bipush hx hb hd hv k) k
theorem J_sipush {n : Int} {v : Int32} (hv : (Int16.ofInt n).toInt32 = v) (hd : decode M.2.2.1 pc = .ok (.sipush n, 3)) (k : J M on L xs d kc ks (pc + 3) lv (.int v :: st) h Q) : J M on L xs d kc ks pc lv (st) h Q := J_st (fun hx hb hown hts k => lv_sipush hx hb hd hv k) k
theorem J_lconst {n : Fin 2} {v : Int64} (hv : Int64.ofNat (n : Nat) = v) (hd : decode M.2.2.1 pc = .ok (.lconst n, 1)) (k : J M on L xs d kc ks (pc + 1) lv (.long v :: st) h Q) : J M on L xs d kc ks pc lv (st) h Q := J_st (fun hx hb hown hts k => lv_lconst hx hb hd hv k) k
theorem J_iadd {x y : Int32} (hd : decode M.2.2.1 pc = .ok (.iadd, 1)) (k : J M on L xs d kc ks (pc + 1) lv (.int (x + y) :: st) h Q) : J M on L xs d kc ks pc lv (.int y :: .int x :: st) h Q := J_st (fun hx hb hown hts k => lv_iadd hx hb hd k) k
theorem J_isub {x y : Int32} (hd : decode M.2.2.1 pc = .ok (.isub, 1)) (k : J M on L xs d kc ks (pc + 1) lv (.int (x - y) :: st) h Q) : J M on L xs d kc ks pc lv (.int y :: .int x :: st) h Q := J_st (fun hx hb hown hts k => lv_isub hx hb hd k) k
theorem J_imul {x y : Int32} (hd : decode M.2.2.1 pc = .ok (.imul, 1)) (k : J M on L xs d kc ks (pc + 1) lv (.int (x * y) :: st) h Q) : J M on L xs d kc ks pc lv (.int y :: .int x :: st) h Q := J_st (fun hx hb hown hts k => lv_imul hx hb hd k) k
theorem J_iand {x y : Int32} (hd : decode M.2.2.1 pc = .ok (.iand, 1)) (k : J M on L xs d kc ks (pc + 1) lv (.int (x &&& y) :: st) h Q) : J M on L xs d kc ks pc lv (.int y :: .int x :: st) h Q := J_st (fun hx hb hown hts k => lv_iand hx hb hd k) k
theorem J_ior {x y : Int32} (hd : decode M.2.2.1 pc = .ok (.ior, 1)) (k : J M on L xs d kc ks (pc + 1) lv (.int (x ||| y) :: st) h Q) : J M on L xs d kc ks pc lv (.int y :: .int x :: st) h Q := J_st (fun hx hb hown hts k => lv_ior hx hb hd k) k
theorem J_ixor {x y : Int32} (hd : decode M.2.2.1 pc = .ok (.ixor, 1)) (k : J M on L xs d kc ks (pc + 1) lv (.int (x ^^^ y) :: st) h Q) : J M on L xs d kc ks pc lv (.int y :: .int x :: st) h Q := J_st (fun hx hb hown hts k => lv_ixor hx hb hd k) k
theorem J_ishl {x y : Int32} (hd : decode M.2.2.1 pc = .ok (.ishl, 1)) (k : J M on L xs d kc ks (pc + 1) lv (.int (x <<< (y &&& 31)) :: st) h Q) : J M on L xs d kc ks pc lv (.int y :: .int x :: st) h Q := J_st (fun hx hb hown hts k => lv_ishl hx hb hd k) k
theorem J_ishr {x y : Int32} (hd : decode M.2.2.1 pc = .ok (.ishr, 1)) (k : J M on L xs d kc ks (pc + 1) lv (.int (x >>> (y &&& 31)) :: st) h Q) : J M on L xs d kc ks pc lv (.int y :: .int x :: st) h Q := J_st (fun hx hb hown hts k => lv_ishr hx hb hd k) k
theorem J_idiv {x y : Int32} (hne : ¬ y = 0) (hd : decode M.2.2.1 pc = .ok (.idiv, 1)) (k : J M on L xs d kc ks (pc + 1) lv (.int (x / y) :: st) h Q) : J M on L xs d kc ks pc lv (.int y :: .int x :: st) h Q := J_st (fun hx hb hown hts k => lv_idiv hx hb hd hne k) k
theorem J_irem {x y : Int32} (hne : ¬ y = 0) (hd : decode M.2.2.1 pc = .ok (.irem, 1)) (k : J M on L xs d kc ks (pc + 1) lv (.int (x - x / y * y) :: st) h Q) : J M on L xs d kc ks pc lv (.int y :: .int x :: st) h Q := J_st (fun hx hb hown hts k => lv_irem hx hb hd hne k) k
theorem J_iushr {x y v : Int32} (hv : (x.toUInt32 >>> (y.toUInt32 &&& Int32.toUInt32 31)).toInt32 = v) (hd : decode M.2.2.1 pc = .ok (.iushr, 1)) (k : J M on L xs d kc ks (pc + 1) lv (.int v :: st) h Q) : J M on L xs d kc ks pc lv (.int y :: .int x :: st) h Q := J_st (fun hx hb hown hts k => lv_iushr hx hb hd hv k) k
theorem J_ineg {x : Int32} (hd : decode M.2.2.1 pc = .ok (.ineg, 1)) (k : J M on L xs d kc ks (pc + 1) lv (.int (-x) :: st) h Q) : J M on L xs d kc ks pc lv (.int x :: st) h Q := J_st (fun hx hb hown hts k => lv_ineg hx hb hd k) k
theorem J_land {x y : Int64} (hd : decode M.2.2.1 pc = .ok (.land, 1)) (k : J M on L xs d kc ks (pc + 1) lv (.long (x &&& y) :: st) h Q) : J M on L xs d kc ks pc lv (.long y :: .long x :: st) h Q := J_st (fun hx hb hown hts k => lv_land hx hb hd k) k
theorem J_lor {x y : Int64} (hd : decode M.2.2.1 pc = .ok (.lor, 1)) (k : J M on L xs d kc ks (pc + 1) lv (.long (x ||| y) :: st) h Q) : J M on L xs d kc ks pc lv (.long y :: .long x :: st) h Q := J_st (fun hx hb hown hts k => lv_lor hx hb hd k) k
theorem J_lshl {x v : Int64} {y : Int32} (hv : x <<< (y.toInt64 &&& 63) = v) (hd : decode M.2.2.1 pc = .ok (.lshl, 1)) (k : J M on L xs d kc ks (pc + 1) lv (.long v :: st) h Q) : J M on L xs d kc ks pc lv (.int y :: .long x :: st) h Q := J_st (fun hx hb hown hts k => lv_lshl hx hb hd hv k) k
theorem J_lcmp {x y : Int64} (hd : decode M.2.2.1 pc = .ok (.lcmp, 1)) (k : J M on L xs d kc ks (pc + 1) lv (.int (lg_cmp x y) :: st) h Q) : J M on L xs d kc ks pc lv (.long y :: .long x :: st) h Q := J_st (fun hx hb hown hts k => W.lcmp hx hb hd k) k
theorem J_i2l {x : Int32} (hd : decode M.2.2.1 pc = .ok (.i2l, 1)) (k : J M on L xs d kc ks (pc + 1) lv (.long x.toInt64 :: st) h Q) : J M on L xs d kc ks pc lv (.int x :: st) h Q := J_st (fun hx hb hown hts k => lv_i2l hx hb hd rfl k) k
theorem J_l2i {x : Int64} (hd : decode M.2.2.1 pc = .ok (.l2i, 1)) (k : J M on L xs d kc ks (pc + 1) lv (.int x.toInt32 :: st) h Q) : J M on L xs d kc ks pc lv (.long x :: st) h Q := J_st (fun hx hb hown hts k => lv_l2i hx hb hd rfl k) k
theorem J_i2b {x : Int32} (hd : decode M.2.2.1 pc = .ok (.i2b, 1)) (k : J M on L xs d kc ks (pc + 1) lv (.int x.toInt8.toInt32 :: st) h Q) : J M on L xs d kc ks pc lv (.int x :: st) h Q := J_st (fun hx hb hown hts k => lv_i2b hx hb hd rfl k) k
theorem J_i2s {x : Int32} (hd : decode M.2.2.1 pc = .ok (.i2s, 1)) (k : J M on L xs d kc ks (pc + 1) lv (.int x.toInt16.toInt32 :: st) h Q) : J M on L xs d kc ks pc lv (.int x :: st) h Q := J_st (fun hx hb hown hts k => lv_i2s hx hb hd rfl k) k
theorem J_dup {v : Value} (hc : v.category = 1) (hd : decode M.2.2.1 pc = .ok (.dup, 1)) (k : J M on L xs d kc ks (pc + 1) lv (v :: v :: st) h Q) : J M on L xs d kc ks pc lv (v :: st) h Q := J_st (fun hx hb hown hts k => lv_dup hx hb hd (by rw [jV_cat]; exact hc) k) k
theorem J_pop {v : Value} (hc : v.category = 1) (hd : decode M.2.2.1 pc = .ok (.pop, 1)) (k : J M on L xs d kc ks (pc + 1) lv (st) h Q) : J M on L xs d kc ks pc lv (v :: st) h Q := J_st (fun hx hb hown hts k => lv_pop hx hb hd (by rw [jV_cat]; exact hc) k) k
theorem J_dup2 {v w : Value} (hc : v.category = 1) (hw : w.category = 1) (hd : decode M.2.2.1 pc = .ok (.dup2, 1)) (k : J M on L xs d kc ks (pc + 1) lv (v :: w :: v :: w :: st) h Q) : J M on L xs d kc ks pc lv (v :: w :: st) h Q := J_st (fun hx hb hown hts k => lv_dup2_11 hx hb hd (by rw [jV_cat]; exact hc) (by rw [jV_cat]; exact hw) k) k
theorem J_null (hd : decode M.2.2.1 pc = .ok (.aconst_null, 1)) (k : J M on L xs d kc ks (pc + 1) lv (.null :: st) h Q) : J M on L xs d kc ks pc lv (st) h Q := J_st (fun hx hb hown hts k => lv_null hx hb hd k) k
theorem J_ldc {i : Nat} {v : Int32} (hw : Cond.constant M.2.1.cls i v ∈ jG) (hd : decode M.2.2.1 pc = .ok (.ldc i, 2)) (k : J M on L xs d kc ks (pc + 2) lv (.int v :: st) h Q) : J M on L xs d kc ks pc lv (st) h Q := J_st (fun hx hb hown hts k => lv_ldc hx hb hown (hts _ hw) hd k) k
theorem J_ldcw {i : Nat} {v : Int32} (hw : Cond.constant M.2.1.cls i v ∈ jG) (hd : decode M.2.2.1 pc = .ok (.ldc_w i, 3)) (k : J M on L xs d kc ks (pc + 3) lv (.int v :: st) h Q) : J M on L xs d kc ks pc lv (st) h Q := J_st (fun hx hb hown hts k => lv_ldcw hx hb hown (hts _ hw) hd k) k
theorem J_ldc2 {i : Nat} {v : Int64} (hw : Cond.constantLong M.2.1.cls i v ∈ jG) (hd : decode M.2.2.1 pc = .ok (.ldc2_w i, 3)) (k : J M on L xs d kc ks (pc + 3) lv (.long v :: st) h Q) : J M on L xs d kc ks pc lv (st) h Q := J_st (fun hx hb hown hts k => lv_ldc2 hx hb hown (hts _ hw) hd k) k
theorem J_goto {off : Int} {tgt : Nat} (ht : (pc : Int) + off = (tgt : Int)) (hd : decode M.2.2.1 pc = .ok (.goto off, 3)) (k : J M on L xs d kc ks tgt lv st h Q) : J M on L xs d kc ks pc lv st h Q := J_st (fun hx hb hown hts k => lv_goto hx hb hd ht k) k
def jC (c : Jvm.ClassFile.Cond) (x y : Int32) : Prop := match c with
  | .eq => x = y
  | .ne => ¬ x = y
  | .lt => x < y
  | .ge => y ≤ x
  | .gt => y < x
  | .le => x ≤ y
theorem J_if_eq {x : Int32} {off : Int} {tgt : Nat} (ht : (pc : Int) + off = (tgt : Int)) (hd : decode M.2.2.1 pc = .ok (.ifCond .eq off, 3)) (kt : jC .eq x 0 → J M on L xs d kc ks tgt lv st h Q) (kf : ¬ jC .eq x 0 → J M on L xs d kc ks (pc + 3) lv st h Q) : J M on L xs d kc ks pc lv (.int x :: st) h Q := J_br (fun hx hb kt kf => lv_if_eq hx hb hd ht kt kf) kt kf
theorem J_icmp_eq {x y : Int32} {off : Int} {tgt : Nat} (ht : (pc : Int) + off = (tgt : Int)) (hd : decode M.2.2.1 pc = .ok (.if_icmp .eq off, 3)) (kt : jC .eq x y → J M on L xs d kc ks tgt lv st h Q) (kf : ¬ jC .eq x y → J M on L xs d kc ks (pc + 3) lv st h Q) : J M on L xs d kc ks pc lv (.int y :: .int x :: st) h Q := J_br (fun hx hb kt kf => lv_icmp_eq hx hb hd ht kt kf) kt kf
theorem J_if_ne {x : Int32} {off : Int} {tgt : Nat} (ht : (pc : Int) + off = (tgt : Int)) (hd : decode M.2.2.1 pc = .ok (.ifCond .ne off, 3)) (kt : jC .ne x 0 → J M on L xs d kc ks tgt lv st h Q) (kf : ¬ jC .ne x 0 → J M on L xs d kc ks (pc + 3) lv st h Q) : J M on L xs d kc ks pc lv (.int x :: st) h Q := J_br (fun hx hb kt kf => lv_if_ne hx hb hd ht kt (fun e => kf (fun q => q e))) kt kf
theorem J_icmp_ne {x y : Int32} {off : Int} {tgt : Nat} (ht : (pc : Int) + off = (tgt : Int)) (hd : decode M.2.2.1 pc = .ok (.if_icmp .ne off, 3)) (kt : jC .ne x y → J M on L xs d kc ks tgt lv st h Q) (kf : ¬ jC .ne x y → J M on L xs d kc ks (pc + 3) lv st h Q) : J M on L xs d kc ks pc lv (.int y :: .int x :: st) h Q := J_br (fun hx hb kt kf => lv_icmp_ne hx hb hd ht kt (fun e => kf (fun q => q e))) kt kf
theorem J_if_lt {x : Int32} {off : Int} {tgt : Nat} (ht : (pc : Int) + off = (tgt : Int)) (hd : decode M.2.2.1 pc = .ok (.ifCond .lt off, 3)) (kt : jC .lt x 0 → J M on L xs d kc ks tgt lv st h Q) (kf : ¬ jC .lt x 0 → J M on L xs d kc ks (pc + 3) lv st h Q) : J M on L xs d kc ks pc lv (.int x :: st) h Q := J_br (fun hx hb kt kf => lv_if_lt hx hb hd ht kt kf) kt kf
theorem J_icmp_lt {x y : Int32} {off : Int} {tgt : Nat} (ht : (pc : Int) + off = (tgt : Int)) (hd : decode M.2.2.1 pc = .ok (.if_icmp .lt off, 3)) (kt : jC .lt x y → J M on L xs d kc ks tgt lv st h Q) (kf : ¬ jC .lt x y → J M on L xs d kc ks (pc + 3) lv st h Q) : J M on L xs d kc ks pc lv (.int y :: .int x :: st) h Q := J_br (fun hx hb kt kf => lv_icmp_lt hx hb hd ht kt kf) kt kf
theorem J_if_ge {x : Int32} {off : Int} {tgt : Nat} (ht : (pc : Int) + off = (tgt : Int)) (hd : decode M.2.2.1 pc = .ok (.ifCond .ge off, 3)) (kt : jC .ge x 0 → J M on L xs d kc ks tgt lv st h Q) (kf : ¬ jC .ge x 0 → J M on L xs d kc ks (pc + 3) lv st h Q) : J M on L xs d kc ks pc lv (.int x :: st) h Q := J_br (fun hx hb kt kf => lv_if_ge hx hb hd ht kt kf) kt kf
theorem J_icmp_ge {x y : Int32} {off : Int} {tgt : Nat} (ht : (pc : Int) + off = (tgt : Int)) (hd : decode M.2.2.1 pc = .ok (.if_icmp .ge off, 3)) (kt : jC .ge x y → J M on L xs d kc ks tgt lv st h Q) (kf : ¬ jC .ge x y → J M on L xs d kc ks (pc + 3) lv st h Q) : J M on L xs d kc ks pc lv (.int y :: .int x :: st) h Q := J_br (fun hx hb kt kf => lv_icmp_ge hx hb hd ht kt kf) kt kf
theorem J_if_gt {x : Int32} {off : Int} {tgt : Nat} (ht : (pc : Int) + off = (tgt : Int)) (hd : decode M.2.2.1 pc = .ok (.ifCond .gt off, 3)) (kt : jC .gt x 0 → J M on L xs d kc ks tgt lv st h Q) (kf : ¬ jC .gt x 0 → J M on L xs d kc ks (pc + 3) lv st h Q) : J M on L xs d kc ks pc lv (.int x :: st) h Q := J_br (fun hx hb kt kf => lv_if_gt hx hb hd ht kt kf) kt kf
theorem J_icmp_gt {x y : Int32} {off : Int} {tgt : Nat} (ht : (pc : Int) + off = (tgt : Int)) (hd : decode M.2.2.1 pc = .ok (.if_icmp .gt off, 3)) (kt : jC .gt x y → J M on L xs d kc ks tgt lv st h Q) (kf : ¬ jC .gt x y → J M on L xs d kc ks (pc + 3) lv st h Q) : J M on L xs d kc ks pc lv (.int y :: .int x :: st) h Q := J_br (fun hx hb kt kf => lv_icmp_gt hx hb hd ht kt kf) kt kf
theorem J_if_le {x : Int32} {off : Int} {tgt : Nat} (ht : (pc : Int) + off = (tgt : Int)) (hd : decode M.2.2.1 pc = .ok (.ifCond .le off, 3)) (kt : jC .le x 0 → J M on L xs d kc ks tgt lv st h Q) (kf : ¬ jC .le x 0 → J M on L xs d kc ks (pc + 3) lv st h Q) : J M on L xs d kc ks pc lv (.int x :: st) h Q := J_br (fun hx hb kt kf => lv_if_le hx hb hd ht kt kf) kt kf
theorem J_icmp_le {x y : Int32} {off : Int} {tgt : Nat} (ht : (pc : Int) + off = (tgt : Int)) (hd : decode M.2.2.1 pc = .ok (.if_icmp .le off, 3)) (kt : jC .le x y → J M on L xs d kc ks tgt lv st h Q) (kf : ¬ jC .le x y → J M on L xs d kc ks (pc + 3) lv st h Q) : J M on L xs d kc ks pc lv (.int y :: .int x :: st) h Q := J_br (fun hx hb kt kf => lv_icmp_le hx hb hd ht kt kf) kt kf
theorem J_tin {dflt lo hi : Int} {offs : Array Int} {len : Nat} {x : Int32} {off : Int} {tgt : Nat} (h1 : ¬ x.toInt < lo) (h2 : ¬ hi < x.toInt) (ho : offs[(x.toInt - lo).toNat]? = some off) (ht : (pc : Int) + off = (tgt : Int)) (hd : decode M.2.2.1 pc = .ok (.tableswitch dflt lo hi offs, len)) (k : J M on L xs d kc ks tgt lv st h Q) : J M on L xs d kc ks pc lv (.int x :: st) h Q := J_st (fun hx hb hown hts k => lv_tableIn hx hb hd h1 h2 ho ht k) k
theorem J_tout {dflt lo hi : Int} {offs : Array Int} {len : Nat} {x : Int32} {tgt : Nat} (h1 : x.toInt < lo ∨ hi < x.toInt) (ht : (pc : Int) + dflt = (tgt : Int)) (hd : decode M.2.2.1 pc = .ok (.tableswitch dflt lo hi offs, len)) (k : J M on L xs d kc ks tgt lv st h Q) : J M on L xs d kc ks pc lv (.int x :: st) h Q := J_st (fun hx hb hown hts k => lv_tableOut hx hb hd h1 ht k) k
theorem J_look {dflt : Int} {ps : Array (Int × Int)} {len : Nat} {x : Int32} {off : Int} {tgt : Nat} (hp : (ps.toList.zip (ps.toList.drop 1)).all (fun (a, next) => a.1 < next.1) = true) (ho : Op.lookupswitch.offset ps.toList dflt x.toInt = off) (ht : (pc : Int) + off = (tgt : Int)) (hd : decode M.2.2.1 pc = .ok (.lookupswitch dflt ps, len)) (k : J M on L xs d kc ks tgt lv st h Q) : J M on L xs d kc ks pc lv (.int x :: st) h Q := J_st (fun hx hb hown hts k => lv_lookup hx hb hd hp ho ht k) k
def jget (lv : List (Nat × Value)) (i : Nat) : Option Value := (lv.find? (fun q => q.1 == i)).map (fun q => q.2)
theorem jget_mem {lv : List (Nat × Value)} {i : Nat} {v : Value} (hg : jget lv i = some v) : (i, v) ∈ lv := by
  unfold jget at hg
  obtain ⟨q, hq, rfl⟩ := Option.map_eq_some_iff.mp hg
  have h1 := List.find?_some hq
  have h2 := List.mem_of_find?_eq_some hq
  have h3 : q.1 = i := by simpa using h1
  rw [← h3]
  exact h2
theorem jget_at {ls : Array Slot} {n sb i : Nat} {ad : Nat → Nat} {lv : List (Nat × Value)} {v : Value} (hl : lv_has ls n (jL sb ad lv)) (hg : jget lv i = some v) : ls[i]? = some (.val (jV sb ad v)) :=
  hl.2.2 (i, jV sb ad v) (List.mem_map.mpr ⟨(i, v), jget_mem hg, rfl⟩)
def jset (lv : List (Nat × Value)) (i : Nat) (v : Value) : List (Nat × Value) := (i, v) :: lv.filter (fun q => !(q.1 == i) && !(q.1 + 1 == i && q.2.category == 2))
def jset2 (lv : List (Nat × Value)) (i : Nat) (v : Value) : List (Nat × Value) := (i, v) :: lv.filter (fun q => !(q.1 == i) && (!(q.1 == i + 1) && !(q.1 + 1 == i && q.2.category == 2)))
theorem jset_eq {sb i : Nat} {ad : Nat → Nat} {lv : List (Nat × Value)} {v : Value} : (i, jV sb ad v) :: (jL sb ad lv).filter (fun q => !(q.1 == i) && !(q.1 + 1 == i && q.2.category == 2)) = jL sb ad (jset lv i v) := by
  simp only [jL, jset, List.map_cons, List.filter_map, Function.comp_def, jV_cat]
theorem jset2_eq {sb i : Nat} {ad : Nat → Nat} {lv : List (Nat × Value)} {v : Value} : (i, jV sb ad v) :: (jL sb ad lv).filter (fun q => !(q.1 == i) && (!(q.1 == i + 1) && !(q.1 + 1 == i && q.2.category == 2))) = jL sb ad (jset2 lv i v) := by
  simp only [jL, jset2, List.map_cons, List.filter_map, Function.comp_def, jV_cat]
theorem J_iload_n {i : Nat} {a : Fin 4} {x : Int32} (hi : (a : Nat) = i) (hg : jget lv i = some (.int x)) (hd : decode M.2.2.1 pc = .ok (.iload_n a, 1)) (k : J M on L xs d kc ks (pc + 1) lv (.int x :: st) h Q) : J M on L xs d kc ks pc lv st h Q := J_lc (fun hx hb hl k => lv_iload_n hx hb hd hi (jget_at hl hg) (k _ hl)) k
theorem J_iload {i : Nat} {x : Int32} (hg : jget lv i = some (.int x)) (hd : decode M.2.2.1 pc = .ok (.iload i, 2)) (k : J M on L xs d kc ks (pc + 2) lv (.int x :: st) h Q) : J M on L xs d kc ks pc lv st h Q := J_lc (fun hx hb hl k => lv_iload hx hb hd (jget_at hl hg) (k _ hl)) k
theorem J_lload_n {i : Nat} {a : Fin 4} {x : Int64} (hi : (a : Nat) = i) (hg : jget lv i = some (.long x)) (hd : decode M.2.2.1 pc = .ok (.lload_n a, 1)) (k : J M on L xs d kc ks (pc + 1) lv (.long x :: st) h Q) : J M on L xs d kc ks pc lv st h Q := J_lc (fun hx hb hl k => lv_lload_n hx hb hd hi (jget_at hl hg) (k _ hl)) k
theorem J_lload {i : Nat} {x : Int64} (hg : jget lv i = some (.long x)) (hd : decode M.2.2.1 pc = .ok (.lload i, 2)) (k : J M on L xs d kc ks (pc + 2) lv (.long x :: st) h Q) : J M on L xs d kc ks pc lv st h Q := J_lc (fun hx hb hl k => lv_lload hx hb hd (jget_at hl hg) (k _ hl)) k
theorem J_aload_n {i : Nat} {a : Fin 4} {x : Nat} (hi : (a : Nat) = i) (hg : jget lv i = some (.ref x)) (hd : decode M.2.2.1 pc = .ok (.aload_n a, 1)) (k : J M on L xs d kc ks (pc + 1) lv (.ref x :: st) h Q) : J M on L xs d kc ks pc lv st h Q := J_lc (fun hx hb hl k => lv_aload_n hx hb hd hi (jget_at hl hg) (k _ hl)) k
theorem J_aload {i : Nat} {x : Nat} (hg : jget lv i = some (.ref x)) (hd : decode M.2.2.1 pc = .ok (.aload i, 2)) (k : J M on L xs d kc ks (pc + 2) lv (.ref x :: st) h Q) : J M on L xs d kc ks pc lv st h Q := J_lc (fun hx hb hl k => lv_aload hx hb hd (jget_at hl hg) (k _ hl)) k
theorem J_sload_n {i : Nat} {a : Fin 4} (hi : (a : Nat) = i) (hg : jget lv i = some (.retAddr 0)) (hd : decode M.2.2.1 pc = .ok (.aload_n a, 1)) (k : J M on L xs d kc ks (pc + 1) lv (.retAddr 0 :: st) h Q) : J M on L xs d kc ks pc lv st h Q := J_lc (fun hx hb hl k => lv_aload_n hx hb hd hi (jget_at hl hg) (k _ hl)) k
theorem J_nload_n {i : Nat} {a : Fin 4} (hi : (a : Nat) = i) (hg : jget lv i = some (.null)) (hd : decode M.2.2.1 pc = .ok (.aload_n a, 1)) (k : J M on L xs d kc ks (pc + 1) lv (.null :: st) h Q) : J M on L xs d kc ks pc lv st h Q := J_lc (fun hx hb hl k => lv_aload_nN hx hb hd hi (jget_at hl hg) (k _ hl)) k
theorem J_nload {i : Nat} (hg : jget lv i = some (.null)) (hd : decode M.2.2.1 pc = .ok (.aload i, 2)) (k : J M on L xs d kc ks (pc + 2) lv (.null :: st) h Q) : J M on L xs d kc ks pc lv st h Q := J_lc (fun hx hb hl k => lv_aloadN hx hb hd (jget_at hl hg) (k _ hl)) k
theorem J_istore_n {i : Nat} {a : Fin 4} {x : Int32} (hi : (a : Nat) = i) (hn : i < M.2.2.2.1) (hd : decode M.2.2.1 pc = .ok (.istore_n a, 1)) (k : J M on L xs d kc ks (pc + 1) (jset lv i (.int x)) st h Q) : J M on L xs d kc ks pc lv (.int x :: st) h Q := J_lc (fun hx hb hl k => lv_istore_n hx hb hd hi hl hn (jset_eq (v := .int x)) (fun ls hl => k ls hl)) k
theorem J_istore {i : Nat} {x : Int32} (hn : i < M.2.2.2.1) (hd : decode M.2.2.1 pc = .ok (.istore i, 2)) (k : J M on L xs d kc ks (pc + 2) (jset lv i (.int x)) st h Q) : J M on L xs d kc ks pc lv (.int x :: st) h Q := J_lc (fun hx hb hl k => lv_istore hx hb hd hl hn (jset_eq (v := .int x)) (fun ls hl => k ls hl)) k
theorem J_lstore_n {i : Nat} {a : Fin 4} {x : Int64} (hi : (a : Nat) = i) (hn : i + 1 < M.2.2.2.1) (hd : decode M.2.2.1 pc = .ok (.lstore_n a, 1)) (k : J M on L xs d kc ks (pc + 1) (jset2 lv i (.long x)) st h Q) : J M on L xs d kc ks pc lv (.long x :: st) h Q := J_lc (fun hx hb hl k => lv_lstore_n hx hb hd hi hl hn (jset2_eq (v := .long x)) (fun ls hl => k ls hl)) k
theorem J_lstore {i : Nat} {x : Int64} (hn : i + 1 < M.2.2.2.1) (hd : decode M.2.2.1 pc = .ok (.lstore i, 2)) (k : J M on L xs d kc ks (pc + 2) (jset2 lv i (.long x)) st h Q) : J M on L xs d kc ks pc lv (.long x :: st) h Q := J_lc (fun hx hb hl k => lv_lstore hx hb hd hl hn (jset2_eq (v := .long x)) (fun ls hl => k ls hl)) k
theorem J_astore_n {i : Nat} {a : Fin 4} {x : Nat} (hi : (a : Nat) = i) (hn : i < M.2.2.2.1) (hd : decode M.2.2.1 pc = .ok (.astore_n a, 1)) (k : J M on L xs d kc ks (pc + 1) (jset lv i (.ref x)) st h Q) : J M on L xs d kc ks pc lv (.ref x :: st) h Q := J_lc (fun hx hb hl k => lv_astore_n hx hb hd hi hl hn (jset_eq (v := .ref x)) (fun ls hl => k ls hl)) k
theorem J_astore {i : Nat} {x : Nat} (hn : i < M.2.2.2.1) (hd : decode M.2.2.1 pc = .ok (.astore i, 2)) (k : J M on L xs d kc ks (pc + 2) (jset lv i (.ref x)) st h Q) : J M on L xs d kc ks pc lv (.ref x :: st) h Q := J_lc (fun hx hb hl k => lv_astore hx hb hd hl hn (jset_eq (v := .ref x)) (fun ls hl => k ls hl)) k
theorem J_iinc {i : Nat} {n : Int} {x v : Int32} (hg : jget lv i = some (.int x)) (hv : x + Int32.ofInt n = v) (hn : i < M.2.2.2.1) (hd : decode M.2.2.1 pc = .ok (.iinc i n, 3)) (k : J M on L xs d kc ks (pc + 3) (jset lv i (.int v)) st h Q) : J M on L xs d kc ks pc lv st h Q :=
  J_lc (fun {_ _ _ _ _ _ _ _ _ _ _ _ _ _ _ sb ad _} hx hb hl k => by
    obtain ⟨j, hj⟩ := List.getElem?_of_mem (List.mem_map.mpr ⟨(i, Value.int x), jget_mem hg, rfl⟩ : (i, jV sb ad (Value.int x)) ∈ jL sb ad lv)
    exact lv_iinc hx hb hd hl hj hv hn (jset_eq (v := .int v)) (fun ls hl => k ls hl)) k
-- fields
def jty (ci : Nat) : Nat → FieldType := match ci with
  | 0 => tyX0
  | 1 => tyX1
  | 2 => tyX2
  | 3 => tyX3
  | 4 => tyX4
  | 5 => tyX5
  | 6 => tyX6
  | _ => tyX7
def jClOk (ci : Nat) (q : vw_C) : Prop := (∀ w ∈ u_ws q.1 q.2.1 q.2.2, w ∈ jG) ∧ (∀ k, k < q.2.2 → parseFieldDescriptor (q.2.1 k).2.2.1 = some (jty ci k)) ∧ (∀ a, a < q.2.2 → ∀ b, b < q.2.2 → a ≠ b → (q.2.1 a).2.1 ≠ (q.2.1 b).2.1)
theorem jCl_ok {ci : Nat} {q : vw_C} (hc : vwCl[ci]? = some q) : jClOk ci q := by
  match ci, hc with
  | 0, hc => cases hc; exact ⟨jin0, tyX0_ok, nmX0⟩
  | 1, hc => cases hc; exact ⟨jin1, tyX1_ok, nmX1⟩
  | 2, hc => cases hc; exact ⟨jin2, tyX2_ok, nmX2⟩
  | 3, hc => cases hc; exact ⟨jin3, tyX3_ok, nmX3⟩
  | 4, hc => cases hc; exact ⟨jin4, tyX4_ok, nmX4⟩
  | 5, hc => cases hc; exact ⟨jin5, tyX5_ok, nmX5⟩
  | 6, hc => cases hc; exact ⟨jin6, tyX6_ok, nmX6⟩
  | 7, hc => cases hc; exact ⟨jin7, tyX7_ok, nmX7⟩
  | n + 8, hc => simp [vwCl] at hc
theorem J_getf {idx ci k a : Nat} {fs : List Value} {v : Value} (hf : jFl M.2.1.cls idx ci k) (he : h[a]? = some (.inr (ci, fs))) (hv : fs[k]? = some v) (hd : decode M.2.2.1 pc = .ok (.getfield idx, 3)) (k' : J M on L xs d kc ks (pc + 3) lv (v :: st) h Q) : J M on L xs d kc ks pc lv (.ref a :: st) h Q := by
  obtain ⟨q, hq, hk, hl⟩ := hf
  obtain ⟨h1, h2, h3⟩ := jCl_ok hq
  intro p l e R s m args below meth c D dA sb A H0 n0 ad0 CB SB QQ hF hX hA hR hT ad H locs cells slots ls hw hls h4 h5
  have hkk := k' p l e R s m args below meth c D dA sb A H0 n0 ad0 CB SB QQ hF hX hA hR hT ad H locs cells slots ls hw hls h4 h5
  exact va_get (D := D) (ci := ci) (v := jV sb ad v) (C := q.1) (T := q.2.1) (N := q.2.2) hF.1 hF.2.1 hF.2.2.2.2.1 h1 hF.2.2.2.1 hF.2.2.2.2.2.1.1 hw.1 a (jWs_get he) hq k hk (hF.2.2.2.2.1 _ hl) (fun _ h9 => h9) (by rw [List.getElem?_map, hv]; rfl) hd hkk
/-- what a field of a type may hold -/
def jFit (ty : FieldType) (v : Value) : Prop := match ty, v with
  | .int, .int _ => True
  | .boolean, .int x => x = 0 ∨ x = 1
  | .object _, .ref _ => True
  | .array _, .ref _ => True
  | _, _ => False
theorem jFit_ok {ty : FieldType} {v : Value} {sb : Nat} {ad : Nat → Nat} (hv : jFit ty v) : narrow ty (jV sb ad v) = jV sb ad v ∧ fits ty (jV sb ad v) = true := by
  cases ty <;> cases v <;> first | exact hv.elim | exact ⟨rfl, rfl⟩ | (rcases hv with rfl | rfl <;> exact ⟨rfl, rfl⟩)
theorem jWs_put {sb a ci k : Nat} {dA ad : Nat → Nat} {fs : List Value} {v : Value} : (jWs sb dA ad h).set a (ad a, .inr (ci, (fs.map (jV sb ad)).set k (jV sb ad v))) = jWs sb dA ad (h.set a (.inr (ci, fs.set k v))) := by
  rw [← jWs_set]
  show _ = (jWs sb dA ad h).set a (ad a, .inr (ci, (fs.set k v).map (jV sb ad)))
  rw [List.map_set]
theorem J_putf {idx ci k a : Nat} {fs : List Value} {v : Value} (hf : jFl M.2.1.cls idx ci k) (he : h[a]? = some (.inr (ci, fs))) (hfin : ∀ q, vwCl[ci]? = some q → (q.2.1 k).2.2.2 = false) (hv : jFit (jty ci k) v) (hlen : k < fs.length) (hd : decode M.2.2.1 pc = .ok (.putfield idx, 3)) (k' : J M on L xs d kc ks (pc + 3) lv st (h.set a (.inr (ci, fs.set k v))) Q) : J M on L xs d kc ks pc lv (v :: .ref a :: st) h Q := by
  obtain ⟨q, hq, hk, hl⟩ := hf
  obtain ⟨h1, h2, h3⟩ := jCl_ok hq
  intro p l e R s m args below meth c D dA sb A H0 n0 ad0 CB SB QQ hF hX hA hR hT ad H locs cells slots ls hw hls h4 h5
  obtain ⟨w1, w2, w3, w4, w5, w6⟩ := hw
  obtain ⟨g1, g2⟩ := jFit_ok (sb := sb) (ad := ad) hv
  refine va_put (D := D) (ci := ci) (v := jV sb ad v) (ty := jty ci k) (C := q.1) (T := q.2.1) (N := q.2.2) hF.1 hF.2.1 hF.2.2.2.2.1 h1 (jty ci) h2 h3 hF.2.2.2.1 hF.2.2.2.2.2.1.1 w1 w2 w3 a (jWs_get he) hq k hk (hF.2.2.2.2.1 _ hl) (fun _ h9 => h9) (hfin q hq) (h2 k hk) g1 g2 (by simpa using hlen) hd (fun H1 locs1 x1 x2 x3 => ?_)
  rw [jWs_put] at x1 x2
  exact k' p l e R s m args below meth c D dA sb A H0 n0 ad0 CB SB QQ hF hX hA hR hT ad H1 locs1 cells slots ls ⟨x1, x2, x3, by simpa using w4, w5, w6⟩ hls h4 h5
/-- a final field, in a constructor of its class -/
theorem J_putF {idx ci k a : Nat} {fs : List Value} {v : Value} (hf : jFl M.2.1.cls idx ci k) (hin : M.2.1.name = "<init>") (hown : ∀ q, vwCl[ci]? = some q → (q.2.1 k).1 = M.2.1.cls) (he : h[a]? = some (.inr (ci, fs))) (hfin : ∀ q, vwCl[ci]? = some q → (q.2.1 k).2.2.2 = true) (hv : jFit (jty ci k) v) (hlen : k < fs.length) (hd : decode M.2.2.1 pc = .ok (.putfield idx, 3)) (k' : J M on L xs d kc ks (pc + 3) lv st (h.set a (.inr (ci, fs.set k v))) Q) : J M on L xs d kc ks pc lv (v :: .ref a :: st) h Q := by
  obtain ⟨q, hq, hk, hl⟩ := hf
  obtain ⟨h1, h2, h3⟩ := jCl_ok hq
  intro p l e R s m args below meth c D dA sb A H0 n0 ad0 CB SB QQ hF hX hA hR hT ad H locs cells slots ls hw hls h4 h5
  obtain ⟨w1, w2, w3, w4, w5, w6⟩ := hw
  obtain ⟨g1, g2⟩ := jFit_ok (sb := sb) (ad := ad) hv
  have ho := hown q hq
  refine va_putF (D := D) (ci := ci) (v := jV sb ad v) (ty := jty ci k) (C := q.1) (T := q.2.1) (N := q.2.2) hF.1 hF.2.1 hF.2.2.2.2.1 h1 (jty ci) h2 h3 hF.2.2.2.1 hF.2.2.2.2.2.1.1 w1 w2 w3 a (jWs_get he) hq k hk (hF.2.2.2.2.1 _ hl) (fun _ h9 => h9) (hfin q hq) (hF.2.2.2.2.2.2.2.2 hin) ho (h2 k hk) g1 g2 (by simpa using hlen) hd (fun H1 locs1 x1 x2 x3 => ?_)
  rw [jWs_put] at x1 x2
  exact k' p l e R s m args below meth c D dA sb A H0 n0 ad0 CB SB QQ hF hX hA hR hT ad H1 locs1 cells slots ls ⟨x1, x2, x3, by simpa using w4, w5, w6⟩ hls h4 h5
-- new cells
def jwV (n : Nat) (v : Value) : Bool := match v with
  | .ref k => Nat.blt k n
  | _ => true
def jwE (n : Nat) (e : jEt) : Bool := match e with
  | .inl (_, .inr (.inr rs)) => rs.all (fun r => match r with | some k => Nat.blt k n | none => true)
  | .inl _ => true
  | .inr (_, fs) => fs.all (jwV n)
def jwF (n : Nat) (lv : List (Nat × Value)) (st : List Value) : Bool := lv.all (fun q => jwV n q.2) && st.all (jwV n)
def jwH (h : jH) : Bool := h.all (jwE h.length)
theorem jV_ext {n sb : Nat} {ad ad' : Nat → Nat} {v : Value} (hv : jwV n v = true) (ha : ∀ i, i < n → ad' i = ad i) : jV sb ad' v = jV sb ad v := by
  cases v <;> first | rfl | skip
  case ref k =>
    show Value.ref (ad' k) = Value.ref (ad k)
    rw [ha k (by simpa [jwV, Nat.blt_eq] using hv)]
theorem jVs_ext {n sb : Nat} {ad ad' : Nat → Nat} {vs : List Value} (hv : vs.all (jwV n) = true) (ha : ∀ i, i < n → ad' i = ad i) : vs.map (jV sb ad') = vs.map (jV sb ad) :=
  List.map_congr_left fun v hm => jV_ext (List.all_eq_true.mp hv v hm) ha
theorem jL_ext {n sb : Nat} {ad ad' : Nat → Nat} {lv : List (Nat × Value)} (hv : lv.all (fun q => jwV n q.2) = true) (ha : ∀ i, i < n → ad' i = ad i) : jL sb ad' lv = jL sb ad lv :=
  List.map_congr_left fun q hm => by rw [jV_ext (List.all_eq_true.mp hv q hm) ha]
theorem jE_ext {n sb : Nat} {dA ad ad' : Nat → Nat} {e : jEt} (he : jwE n e = true) (ha : ∀ i, i < n → ad' i = ad i) : jE sb dA ad' e = jE sb dA ad e := by
  match e, he with
  | .inl (t, .inl f), _ => rfl
  | .inl (t, .inr (.inl f)), _ => rfl
  | .inl (t, .inr (.inr rs)), he =>
    refine congrArg (fun z => (Sum.inl (dA t, rs.length, Sum.inr (Sum.inr (Sum.inr (Sum.inr z)))) : va_E)) (funext fun j => ?_)
    rw [List.getD_eq_getElem?_getD]
    cases hg : rs[j]? with
    | none => rfl
    | some r =>
      have h1 := List.all_eq_true.mp he r (List.mem_of_getElem? hg)
      cases r with
      | none => rfl
      | some k =>
        show some (ad' k) = some (ad k)
        rw [ha k (by simpa [Nat.blt_eq] using h1)]
  | .inr (ci, fs), he =>
    show (Sum.inr (ci, _) : va_E) = Sum.inr (ci, _)
    rw [jVs_ext he ha]
theorem jWs_ext {sb : Nat} {dA ad ad' : Nat → Nat} {h : jH} (hw : jwH h = true) (ha : ∀ i, i < h.length → ad' i = ad i) : jWs sb dA ad' h = jWs sb dA ad h := by
  apply List.ext_getElem?
  intro i
  rw [jWs_at, jWs_at]
  cases hi : h[i]? with
  | none => rfl
  | some e =>
    have hl : i < h.length := (List.getElem?_eq_some_iff.mp hi).1
    show some (ad' i, _) = some (ad i, _)
    rw [ha i hl, jE_ext (List.all_eq_true.mp hw e (List.mem_of_getElem? hi)) ha]
theorem jWs_push {sb q : Nat} {dA ad : Nat → Nat} {h : jH} {e : jEt} {x : va_E} (hw : jwH h = true) (hx : ∀ ad', jE sb dA ad' e = x) : jWs sb dA ad h ++ [(q, x)] = jWs sb dA (fun j => if j = h.length then q else ad j) (h ++ [e]) := by
  have h1 : jWs sb dA (fun j => if j = h.length then q else ad j) (h ++ [e]) = jWs sb dA (fun j => if j = h.length then q else ad j) h ++ [((if h.length = h.length then q else ad h.length), jE sb dA (fun j => if j = h.length then q else ad j) e)] := by
    simp [jWs, List.mapIdx_append]
  rw [h1, jWs_ext hw (fun i hi => if_neg (Nat.ne_of_lt hi)), if_pos rfl, hx]
theorem J_new {idx ci : Nat} {q : vw_C} {fs : List Value} (hq : vwCl[ci]? = some q) (hcl : Cond.classLink M.2.1.cls idx q.1 ∈ jG) (hi : Cond.instantiable q.1 q.2.2 ∈ jG) (hini : Cond.initialized q.1 ∈ jG) (hfs : ∀ j, j < q.2.2 → defaultValue (jty ci j) = vp_V fs j) (hnr : ∀ sb ad, fs.map (jV sb ad) = fs)
    (hwf : jwF h.length lv st = true) (hwh : jwH h = true) (hd : decode M.2.2.1 pc = .ok (.new idx, 3)) (k : J M on L xs d kc ks (pc + 3) lv (.ref h.length :: st) (h ++ [.inr (ci, fs)]) Q) : J M on L xs d (kc + 1) (ks + q.2.2) pc lv st h Q := by
  obtain ⟨h1, h2, h3⟩ := jCl_ok hq
  intro p l e R s m args below meth c D dA sb A H0 n0 ad0 CB SB QQ hF hX hA hR hT ad H locs cells slots ls hw hls h4 h5
  obtain ⟨w1, w2, w3, w4, w5, w6⟩ := hw
  have hwf' : lv.all (fun q => jwV h.length q.2) = true ∧ st.all (jwV h.length) = true := by
    unfold jwF at hwf
    exact Bool.and_eq_true_iff.mp hwf
  refine va_new (ci := ci) (fs := fs) (C := q.1) (T := q.2.1) (N := q.2.2) hF.1 hF.2.1 hF.2.2.2.2.1 h1 (jty ci) h2 hF.2.2.2.1 (hF.2.2.2.2.1 _ hcl) (hF.2.2.2.2.1 _ hi) (hF.2.2.2.2.1 _ hini) hF.2.2.2.2.2.1.1 w1 w2 w3 hA hq hfs (by have := hR.2.2.1; omega) (by have := hR.2.2.2; omega) hd (fun a H1 x1 x2 x3 => ?_)
  have ha : ∀ i, i < h.length → (fun j => if j = h.length then a else ad j) i = ad i := fun i hi => if_neg (Nat.ne_of_lt hi)
  rw [jWs_push (e := .inr (ci, fs)) hwh (fun ad' => by show (Sum.inr (ci, fs.map (jV sb ad')) : va_E) = _; rw [hnr])] at x1 x2
  have hk := k p l e R s m args below meth c D dA sb A H0 n0 ad0 CB SB QQ hF hX hA hR hT (fun j => if j = h.length then a else ad j) H1 locs (cells + 1) (slots + q.2.2) ls ⟨x1, x2, x3, by simp only [List.length_append]; omega, fun i hi => by rw [ha i (by omega)]; exact w5 i hi, fun z => by omega⟩ (by rw [jL_ext hwf'.1 ha]; exact hls) (by omega) (by omega)
  rw [List.map_cons, jVs_ext hwf'.2 ha] at hk
  have e1 : jV sb (fun j => if j = h.length then a else ad j) (.ref h.length) = .ref a := by show Value.ref (if h.length = h.length then a else ad h.length) = _; rw [if_pos rfl]
  rw [e1] at hk
  exact hk
theorem jT_cls {D : va_G} {dA : Nat → Nat} {s : State} {cA : ClassId} {t : Nat} (ht : t < 6) (hK : va_K D vwCl (jT dA) s) (h1 : va_K D vwCl (jT dA ++ [(cA, jTy t)]) s) : cA = dA t := by
  have a1 := (hK.2 t _ (jT_at ht)).2
  have a2 := (h1.2 6 (cA, jTy t) rfl).2
  rcases (show t = 0 ∨ t = 1 ∨ t = 2 ∨ t = 3 ∨ t = 4 ∨ t = 5 by omega) with rfl | rfl | rfl | rfl | rfl | rfl
  · exact Option.some.inj (a2.symm.trans a1)
  · exact Option.some.inj (a2.symm.trans a1)
  · exact Option.some.inj (a2.symm.trans a1)
  · exact Option.some.inj (a2.symm.trans a1)
  · obtain ⟨_, _, _, _, _, b1⟩ := a1
    obtain ⟨_, _, _, _, _, b2⟩ := a2
    exact Option.some.inj (b2.symm.trans b1)
  · obtain ⟨_, _, _, _, _, b1⟩ := a1
    obtain ⟨_, _, _, _, _, b2⟩ := a2
    exact Option.some.inj (b2.symm.trans b1)
/-- a new array of numbers -/
theorem J_newa {atype : ArrayType} {t N : Nat} {n : Int32} {a0 : vp_A} {e0 : List Int32 ⊕ (List Int64 ⊕ List (Option Nat))} (ht : t < 6) (hty : newarray.typeOf atype = jTy t) (har : Cond.arrayClass (newarray.typeOf atype) ∈ jG) (ha : ∀ cA : ClassId, vp_cell cA a0 = arrV cA N (fun _ => defaultValue (jTy t))) (hnr : ∀ sb dA ad, jE sb dA ad (.inl (t, e0)) = .inl (dA t, a0)) (hn : ¬ n < 0) (hN : n.toNatClampNeg = N) (hb : N * componentBytes (jTy t) ≤ 536870912)
    (hwf : jwF h.length lv st = true) (hwh : jwH h = true) (hd : decode M.2.2.1 pc = .ok (.newarray atype, 2)) (k : J M on L xs d kc ks (pc + 2) lv (.ref h.length :: st) (h ++ [.inl (t, e0)]) Q) : J M on L xs d (kc + 1) (ks + N) pc lv (.int n :: st) h Q := by
  intro p l e R s m args below meth c D dA sb A H0 n0 ad0 CB SB QQ hF hX hA hR hT ad H locs cells slots ls hw hls h4 h5
  obtain ⟨w1, w2, w3, w4, w5, w6⟩ := hw
  have hwf' : lv.all (fun q => jwV h.length q.2) = true ∧ st.all (jwV h.length) = true := by
    unfold jwF at hwf
    exact Bool.and_eq_true_iff.mp hwf
  refine va_newa (a0 := a0) (ty := jTy t) hF.1 hF.2.1 (hF.2.2.2.2.1 _ har) hty hF.2.2.2.2.2.1.1 w1 w2 w3 hA ha hn hN hb (by have := hR.2.2.1; omega) (by have := hR.2.2.2; omega) hd (fun a cA H1 x0 x1 x2 x3 => ?_)
  have hcA := jT_cls ht hF.2.2.2.2.2.1.1 x0
  subst hcA
  have hag : ∀ i, i < h.length → (fun j => if j = h.length then a else ad j) i = ad i := fun i hi => if_neg (Nat.ne_of_lt hi)
  rw [jWs_push (e := .inl (t, e0)) hwh (fun ad' => hnr sb dA ad')] at x1 x2
  have hk := k p l e R s m args below meth c D dA sb A H0 n0 ad0 CB SB QQ hF hX hA hR hT (fun j => if j = h.length then a else ad j) H1 locs (cells + 1) (slots + N) ls ⟨x1, x2, x3, by simp only [List.length_append]; omega, fun i hi => by rw [hag i (by omega)]; exact w5 i hi, fun z => by omega⟩ (by rw [jL_ext hwf'.1 hag]; exact hls) (by omega) (by omega)
  rw [List.map_cons, jVs_ext hwf'.2 hag] at hk
  have e1 : jV sb (fun j => if j = h.length then a else ad j) (.ref h.length) = .ref a := by show Value.ref (if h.length = h.length then a else ad h.length) = _; rw [if_pos rfl]
  rw [e1] at hk
  exact hk
/-- a new array of references -/
theorem J_newq {idx t N : Nat} {C : String} {n : Int32} (ht : t < 6) (hty : jTy t = .object C) (hao : ∀ s, jN s → va_AO C s) (hcl : Cond.classLink M.2.1.cls idx C ∈ jG) (hn : ¬ n < 0) (hN : n.toNatClampNeg = N) (hb : N * 4 ≤ 536870912)
    (hwf : jwF h.length lv st = true) (hwh : jwH h = true) (hd : decode M.2.2.1 pc = .ok (.anewarray idx, 3)) (k : J M on L xs d kc ks (pc + 3) lv (.ref h.length :: st) (h ++ [.inl (t, .inr (.inr (List.replicate N none)))]) Q) : J M on L xs d (kc + 1) (ks + N) pc lv (.int n :: st) h Q := by
  intro p l e R s m args below meth c D dA sb A H0 n0 ad0 CB SB QQ hF hX hA hR hT ad H locs cells slots ls hw hls h4 h5
  obtain ⟨w1, w2, w3, w4, w5, w6⟩ := hw
  have hwf' : lv.all (fun q => jwV h.length q.2) = true ∧ st.all (jwV h.length) = true := by
    unfold jwF at hwf
    exact Bool.and_eq_true_iff.mp hwf
  refine va_newq (C := C) hF.1 hF.2.1 hF.2.2.2.1 (hF.2.2.2.2.1 _ hcl) (hao _ hF.2.2.2.2.2.1.2) hF.2.2.2.2.2.1.1 w1 w2 w3 hA hn hN hb (by have := hR.2.2.1; omega) (by have := hR.2.2.2; omega) hd (fun a cA H1 x0 x1 x2 x3 => ?_)
  rw [← hty] at x0
  have hcA := jT_cls ht hF.2.2.2.2.2.1.1 x0
  subst hcA
  have hag : ∀ i, i < h.length → (fun j => if j = h.length then a else ad j) i = ad i := fun i hi => if_neg (Nat.ne_of_lt hi)
  rw [jWs_push (e := .inl (t, .inr (.inr (List.replicate N none)))) hwh (fun ad' => by show (Sum.inl (dA t, (List.replicate N (none : Option Nat)).length, _) : va_E) = Sum.inl (dA t, N, _); rw [List.length_replicate]; exact congrArg (fun z => (Sum.inl (dA t, N, Sum.inr (Sum.inr (Sum.inr (Sum.inr z)))) : va_E)) (funext fun j => by rw [List.getD_eq_getElem?_getD, List.getElem?_replicate]; split <;> rfl))] at x1 x2
  have hk := k p l e R s m args below meth c D dA sb A H0 n0 ad0 CB SB QQ hF hX hA hR hT (fun j => if j = h.length then a else ad j) H1 locs (cells + 1) (slots + N) ls ⟨x1, x2, x3, by simp only [List.length_append]; omega, fun i hi => by rw [hag i (by omega)]; exact w5 i hi, fun z => by omega⟩ (by rw [jL_ext hwf'.1 hag]; exact hls) (by omega) (by omega)
  rw [List.map_cons, jVs_ext hwf'.2 hag] at hk
  have e1 : jV sb (fun j => if j = h.length then a else ad j) (.ref h.length) = .ref a := by show Value.ref (if h.length = h.length then a else ad h.length) = _; rw [if_pos rfl]
  rw [e1] at hk
  exact hk
theorem jRep {α : Type} {N j : Nat} {x : α} : (List.replicate N x).getD j x = x := by
  rw [List.getD_eq_getElem?_getD, List.getElem?_replicate]; split <;> rfl
theorem J_newI {atype : ArrayType} {t N : Nat} {n : Int32} (ht : t = 0 ∨ t = 2 ∨ t = 3) (hty : newarray.typeOf atype = jTy t) (har : Cond.arrayClass (newarray.typeOf atype) ∈ jG) (hn : ¬ n < 0) (hN : n.toNatClampNeg = N) (hb : N * 8 ≤ 536870912)
    (hwf : jwF h.length lv st = true) (hwh : jwH h = true) (hd : decode M.2.2.1 pc = .ok (.newarray atype, 2)) (k : J M on L xs d kc ks (pc + 2) lv (.ref h.length :: st) (h ++ [.inl (t, .inl (List.replicate N 0))]) Q) : J M on L xs d (kc + 1) (ks + N) pc lv (.int n :: st) h Q := by
  refine J_newa (t := t) (a0 := (N, .inl (fun _ => 0))) (e0 := .inl (List.replicate N 0)) (by omega) hty har (fun cA => ?_) (fun sb dA ad => ?_) hn hN ?_ hwf hwh hd k
  · rcases ht with rfl | rfl | rfl <;> rfl
  · show (Sum.inl (dA t, (List.replicate N (0 : Int32)).length, _) : va_E) = Sum.inl (dA t, N, _)
    rw [List.length_replicate]
    exact congrArg (fun z => (Sum.inl (dA t, N, Sum.inl z) : va_E)) (funext fun j => jRep)
  · rcases ht with rfl | rfl | rfl <;> simp [jTy, componentBytes] <;> omega
theorem J_newL {N : Nat} {n : Int32} (hn : ¬ n < 0) (hN : n.toNatClampNeg = N) (hb : N * 8 ≤ 536870912)
    (hwf : jwF h.length lv st = true) (hwh : jwH h = true) (hd : decode M.2.2.1 pc = .ok (.newarray .long, 2)) (k : J M on L xs d kc ks (pc + 2) lv (.ref h.length :: st) (h ++ [.inl (1, .inr (.inl (List.replicate N 0)))]) Q) : J M on L xs d (kc + 1) (ks + N) pc lv (.int n :: st) h Q := by
  refine J_newa (atype := .long) (t := 1) (a0 := (N, .inr (.inl (fun _ => 0)))) (e0 := .inr (.inl (List.replicate N 0))) (by omega) rfl ar_long (fun cA => rfl) (fun sb dA ad => ?_) hn hN ?_ hwf hwh hd k
  · show (Sum.inl (dA 1, (List.replicate N (0 : Int64)).length, _) : va_E) = Sum.inl (dA 1, N, _)
    rw [List.length_replicate]
    exact congrArg (fun z => (Sum.inl (dA 1, N, Sum.inr (Sum.inl z)) : va_E)) (funext fun j => jRep)
  · simp [jTy, componentBytes]; omega
theorem J_iald {a : Nat} {xs' : List Int32} {i : Int32} {x : Int32} (he : h[a]? = some (.inl (0, .inl xs'))) (h0 : ¬ i < 0) (hx : xs'[i.toNatClampNeg]? = some x) (hd : decode M.2.2.1 pc = .ok (.iaload, 1)) (k : J M on L xs d kc ks (pc + 1) lv (.int x :: st) h Q) : J M on L xs d kc ks pc lv (.int i :: .ref a :: st) h Q := by
  intro p l e R s m args below meth c D dA sb A H0 n0 ad0 CB SB QQ hF hX hA hR hT ad H locs cells slots ls hw hls h4 h5
  have hlt : i.toNatClampNeg < xs'.length := (List.getElem?_eq_some_iff.mp hx).1
  refine va_iald hF.1 hF.2.1 hF.2.2.2.2.2.1.1 hw.1 a 0 (jWs_get he) (jT_at (by decide)) (fun q => q.elim h0 (fun q => Nat.not_lt.mpr q hlt)) hd ?_
  have e1 : xs'.getD i.toNatClampNeg 0 = x := by rw [List.getD_eq_getElem?_getD, hx]; rfl
  rw [e1]
  exact k p l e R s m args below meth c D dA sb A H0 n0 ad0 CB SB QQ hF hX hA hR hT ad H locs cells slots ls hw hls h4 h5
theorem J_bald {a : Nat} {xs' : List Int32} {i : Int32} {x : Int32} (he : h[a]? = some (.inl (2, .inl xs'))) (h0 : ¬ i < 0) (hx : xs'[i.toNatClampNeg]? = some x) (hd : decode M.2.2.1 pc = .ok (.baload, 1)) (k : J M on L xs d kc ks (pc + 1) lv (.int x :: st) h Q) : J M on L xs d kc ks pc lv (.int i :: .ref a :: st) h Q := by
  intro p l e R s m args below meth c D dA sb A H0 n0 ad0 CB SB QQ hF hX hA hR hT ad H locs cells slots ls hw hls h4 h5
  have hlt : i.toNatClampNeg < xs'.length := (List.getElem?_eq_some_iff.mp hx).1
  refine va_bald hF.1 hF.2.1 hF.2.2.2.2.2.1.1 hw.1 a 2 (jWs_get he) (jT_at (by decide)) (fun q => q.elim h0 (fun q => Nat.not_lt.mpr q hlt)) hd ?_
  have e1 : xs'.getD i.toNatClampNeg 0 = x := by rw [List.getD_eq_getElem?_getD, hx]; rfl
  rw [e1]
  exact k p l e R s m args below meth c D dA sb A H0 n0 ad0 CB SB QQ hF hX hA hR hT ad H locs cells slots ls hw hls h4 h5
theorem J_zald {a : Nat} {xs' : List Int32} {i : Int32} {x : Int32} (he : h[a]? = some (.inl (3, .inl xs'))) (h0 : ¬ i < 0) (hx : xs'[i.toNatClampNeg]? = some x) (hd : decode M.2.2.1 pc = .ok (.baload, 1)) (k : J M on L xs d kc ks (pc + 1) lv (.int x :: st) h Q) : J M on L xs d kc ks pc lv (.int i :: .ref a :: st) h Q := by
  intro p l e R s m args below meth c D dA sb A H0 n0 ad0 CB SB QQ hF hX hA hR hT ad H locs cells slots ls hw hls h4 h5
  have hlt : i.toNatClampNeg < xs'.length := (List.getElem?_eq_some_iff.mp hx).1
  refine va_zald hF.1 hF.2.1 hF.2.2.2.2.2.1.1 hw.1 a 3 (jWs_get he) (jT_at (by decide)) (fun q => q.elim h0 (fun q => Nat.not_lt.mpr q hlt)) hd ?_
  have e1 : xs'.getD i.toNatClampNeg 0 = x := by rw [List.getD_eq_getElem?_getD, hx]; rfl
  rw [e1]
  exact k p l e R s m args below meth c D dA sb A H0 n0 ad0 CB SB QQ hF hX hA hR hT ad H locs cells slots ls hw hls h4 h5
theorem J_lald {a : Nat} {xs' : List Int64} {i : Int32} {x : Int64} (he : h[a]? = some (.inl (1, .inr (.inl xs')))) (h0 : ¬ i < 0) (hx : xs'[i.toNatClampNeg]? = some x) (hd : decode M.2.2.1 pc = .ok (.laload, 1)) (k : J M on L xs d kc ks (pc + 1) lv (.long x :: st) h Q) : J M on L xs d kc ks pc lv (.int i :: .ref a :: st) h Q := by
  intro p l e R s m args below meth c D dA sb A H0 n0 ad0 CB SB QQ hF hX hA hR hT ad H locs cells slots ls hw hls h4 h5
  have hlt : i.toNatClampNeg < xs'.length := (List.getElem?_eq_some_iff.mp hx).1
  refine va_lald hF.1 hF.2.1 hF.2.2.2.2.2.1.1 hw.1 a 1 (jWs_get he) (jT_at (by decide)) (fun q => q.elim h0 (fun q => Nat.not_lt.mpr q hlt)) hd ?_
  have e1 : xs'.getD i.toNatClampNeg 0 = x := by rw [List.getD_eq_getElem?_getD, hx]; rfl
  rw [e1]
  exact k p l e R s m args below meth c D dA sb A H0 n0 ad0 CB SB QQ hF hX hA hR hT ad H locs cells slots ls hw hls h4 h5
theorem jUpd {xs : List Int32} {k : Nat} {x : Int32} (hk : k < xs.length) : upd (fun j => xs.getD j 0) k x = fun j => (xs.set k x).getD j 0 := by
  funext j
  rw [List.getD_eq_getElem?_getD, List.getElem?_set]
  by_cases hj : j = k
  · subst hj
    simp [upd, hk]
  · simp [upd, hj, Ne.symm hj]
theorem jUpdL {xs : List Int64} {k : Nat} {x : Int64} (hk : k < xs.length) : vp_updL (fun j => xs.getD j 0) k x = fun j => (xs.set k x).getD j 0 := by
  funext j
  rw [List.getD_eq_getElem?_getD, List.getElem?_set]
  by_cases hj : j = k
  · subst hj
    simp [vp_updL, hk]
  · simp [vp_updL, hj, Ne.symm hj]
theorem J_iast {a : Nat} {xs' : List Int32} {i : Int32} {x : Int32} (he : h[a]? = some (.inl (0, .inl xs'))) (h0 : ¬ i < 0) (hlt : i.toNatClampNeg < xs'.length) (hd : decode M.2.2.1 pc = .ok (.iastore, 1)) (k : J M on L xs d kc ks (pc + 1) lv st (h.set a (.inl (0, .inl (xs'.set i.toNatClampNeg x)))) Q) : J M on L xs d kc ks pc lv (.int x :: .int i :: .ref a :: st) h Q := by
  intro p l e R s m args below meth c D dA sb A H0 n0 ad0 CB SB QQ hF hX hA hR hT ad H locs cells slots ls hw hls h4 h5
  obtain ⟨w1, w2, w3, w4, w5, w6⟩ := hw
  refine va_iast hF.1 hF.2.1 hF.2.2.2.2.2.1.1 w1 w2 w3 a 0 (jWs_get he) (jT_at (by decide)) (fun q => q.elim h0 (fun q => Nat.not_lt.mpr q hlt)) hd (fun H1 locs1 x1 x2 x3 => ?_)
  have e1 : (jWs sb dA ad h).set a (ad a, jE sb dA ad (.inl (0, .inl (xs'.set i.toNatClampNeg x)))) = jWs sb dA ad (h.set a (.inl (0, .inl (xs'.set i.toNatClampNeg x)))) := jWs_set
  have e2 : jE sb dA ad (.inl (0, .inl (xs'.set i.toNatClampNeg x))) = .inl (dA 0, xs'.length, .inl (upd (fun j => xs'.getD j 0) i.toNatClampNeg x)) := by
    show (Sum.inl (dA 0, (xs'.set i.toNatClampNeg x).length, _) : va_E) = Sum.inl (dA 0, xs'.length, _)
    rw [List.length_set, jUpd hlt]
  rw [e2] at e1
  rw [e1] at x1 x2
  exact k p l e R s m args below meth c D dA sb A H0 n0 ad0 CB SB QQ hF hX hA hR hT ad H1 locs1 cells slots ls ⟨x1, x2, x3, by simpa using w4, w5, w6⟩ hls h4 h5
theorem J_bast {a : Nat} {xs' : List Int32} {i : Int32} {x : Int32} (he : h[a]? = some (.inl (2, .inl xs'))) (h0 : ¬ i < 0) (hlt : i.toNatClampNeg < xs'.length) (hd : decode M.2.2.1 pc = .ok (.bastore, 1)) (k : J M on L xs d kc ks (pc + 1) lv st (h.set a (.inl (2, .inl (xs'.set i.toNatClampNeg (vp_nar .byte x))))) Q) : J M on L xs d kc ks pc lv (.int x :: .int i :: .ref a :: st) h Q := by
  intro p l e R s m args below meth c D dA sb A H0 n0 ad0 CB SB QQ hF hX hA hR hT ad H locs cells slots ls hw hls h4 h5
  obtain ⟨w1, w2, w3, w4, w5, w6⟩ := hw
  refine va_bast hF.1 hF.2.1 hF.2.2.2.2.2.1.1 w1 w2 w3 a 2 (jWs_get he) (jT_at (by decide)) (fun q => q.elim h0 (fun q => Nat.not_lt.mpr q hlt)) hd (fun H1 locs1 x1 x2 x3 => ?_)
  have e1 : (jWs sb dA ad h).set a (ad a, jE sb dA ad (.inl (2, .inl (xs'.set i.toNatClampNeg (vp_nar .byte x))))) = jWs sb dA ad (h.set a (.inl (2, .inl (xs'.set i.toNatClampNeg (vp_nar .byte x))))) := jWs_set
  have e2 : jE sb dA ad (.inl (2, .inl (xs'.set i.toNatClampNeg (vp_nar .byte x)))) = .inl (dA 2, xs'.length, .inl (upd (fun j => xs'.getD j 0) i.toNatClampNeg (vp_nar .byte x))) := by
    show (Sum.inl (dA 2, (xs'.set i.toNatClampNeg (vp_nar .byte x)).length, _) : va_E) = Sum.inl (dA 2, xs'.length, _)
    rw [List.length_set, jUpd hlt]
  rw [e2] at e1
  rw [e1] at x1 x2
  exact k p l e R s m args below meth c D dA sb A H0 n0 ad0 CB SB QQ hF hX hA hR hT ad H1 locs1 cells slots ls ⟨x1, x2, x3, by simpa using w4, w5, w6⟩ hls h4 h5
theorem J_zast {a : Nat} {xs' : List Int32} {i : Int32} {x : Int32} (he : h[a]? = some (.inl (3, .inl xs'))) (h0 : ¬ i < 0) (hlt : i.toNatClampNeg < xs'.length) (hd : decode M.2.2.1 pc = .ok (.bastore, 1)) (k : J M on L xs d kc ks (pc + 1) lv st (h.set a (.inl (3, .inl (xs'.set i.toNatClampNeg (vp_nar .boolean x))))) Q) : J M on L xs d kc ks pc lv (.int x :: .int i :: .ref a :: st) h Q := by
  intro p l e R s m args below meth c D dA sb A H0 n0 ad0 CB SB QQ hF hX hA hR hT ad H locs cells slots ls hw hls h4 h5
  obtain ⟨w1, w2, w3, w4, w5, w6⟩ := hw
  refine va_zast hF.1 hF.2.1 hF.2.2.2.2.2.1.1 w1 w2 w3 a 3 (jWs_get he) (jT_at (by decide)) (fun q => q.elim h0 (fun q => Nat.not_lt.mpr q hlt)) hd (fun H1 locs1 x1 x2 x3 => ?_)
  have e1 : (jWs sb dA ad h).set a (ad a, jE sb dA ad (.inl (3, .inl (xs'.set i.toNatClampNeg (vp_nar .boolean x))))) = jWs sb dA ad (h.set a (.inl (3, .inl (xs'.set i.toNatClampNeg (vp_nar .boolean x))))) := jWs_set
  have e2 : jE sb dA ad (.inl (3, .inl (xs'.set i.toNatClampNeg (vp_nar .boolean x)))) = .inl (dA 3, xs'.length, .inl (upd (fun j => xs'.getD j 0) i.toNatClampNeg (vp_nar .boolean x))) := by
    show (Sum.inl (dA 3, (xs'.set i.toNatClampNeg (vp_nar .boolean x)).length, _) : va_E) = Sum.inl (dA 3, xs'.length, _)
    rw [List.length_set, jUpd hlt]
  rw [e2] at e1
  rw [e1] at x1 x2
  exact k p l e R s m args below meth c D dA sb A H0 n0 ad0 CB SB QQ hF hX hA hR hT ad H1 locs1 cells slots ls ⟨x1, x2, x3, by simpa using w4, w5, w6⟩ hls h4 h5
theorem J_last {a : Nat} {xs' : List Int64} {i : Int32} {x : Int64} (he : h[a]? = some (.inl (1, .inr (.inl xs')))) (h0 : ¬ i < 0) (hlt : i.toNatClampNeg < xs'.length) (hd : decode M.2.2.1 pc = .ok (.lastore, 1)) (k : J M on L xs d kc ks (pc + 1) lv st (h.set a (.inl (1, .inr (.inl (xs'.set i.toNatClampNeg x))))) Q) : J M on L xs d kc ks pc lv (.long x :: .int i :: .ref a :: st) h Q := by
  intro p l e R s m args below meth c D dA sb A H0 n0 ad0 CB SB QQ hF hX hA hR hT ad H locs cells slots ls hw hls h4 h5
  obtain ⟨w1, w2, w3, w4, w5, w6⟩ := hw
  refine va_last hF.1 hF.2.1 hF.2.2.2.2.2.1.1 w1 w2 w3 a 1 (jWs_get he) (jT_at (by decide)) (fun q => q.elim h0 (fun q => Nat.not_lt.mpr q hlt)) hd (fun H1 locs1 x1 x2 x3 => ?_)
  have e1 : (jWs sb dA ad h).set a (ad a, jE sb dA ad (.inl (1, .inr (.inl (xs'.set i.toNatClampNeg x))))) = jWs sb dA ad (h.set a (.inl (1, .inr (.inl (xs'.set i.toNatClampNeg x))))) := jWs_set
  have e2 : jE sb dA ad (.inl (1, .inr (.inl (xs'.set i.toNatClampNeg x)))) = .inl (dA 1, xs'.length, .inr (.inl (vp_updL (fun j => xs'.getD j 0) i.toNatClampNeg x))) := by
    show (Sum.inl (dA 1, (xs'.set i.toNatClampNeg x).length, _) : va_E) = Sum.inl (dA 1, xs'.length, _)
    rw [List.length_set, jUpdL hlt]
  rw [e2] at e1
  rw [e1] at x1 x2
  exact k p l e R s m args below meth c D dA sb A H0 n0 ad0 CB SB QQ hF hX hA hR hT ad H1 locs1 cells slots ls ⟨x1, x2, x3, by simpa using w4, w5, w6⟩ hls h4 h5
theorem J_aald {a t r : Nat} {rs : List (Option Nat)} {i : Int32} (ht : t = 4 ∨ t = 5) (he : h[a]? = some (.inl (t, .inr (.inr rs)))) (h0 : ¬ i < 0) (hg : rs[i.toNatClampNeg]? = some (some r)) (hd : decode M.2.2.1 pc = .ok (.aaload, 1)) (k : J M on L xs d kc ks (pc + 1) lv (.ref r :: st) h Q) : J M on L xs d kc ks pc lv (.int i :: .ref a :: st) h Q := by
  intro p l e R s m args below meth c D dA sb A H0 n0 ad0 CB SB QQ hF hX hA hR hT ad H locs cells slots ls hw hls h4 h5
  have hlt : i.toNatClampNeg < rs.length := (List.getElem?_eq_some_iff.mp hg).1
  have hk := k p l e R s m args below meth c D dA sb A H0 n0 ad0 CB SB QQ hF hX hA hR hT ad H locs cells slots ls hw hls h4 h5
  have e1 : va_rf ((fun j => (rs.getD j none).map ad) i.toNatClampNeg) = .ref (ad r) := by
    show va_rf ((rs.getD i.toNatClampNeg none).map ad) = _
    rw [List.getD_eq_getElem?_getD, hg]; rfl
  rcases ht with rfl | rfl
  · refine va_aldq (C := RX5) hF.1 hF.2.1 hF.2.2.2.2.2.1.1 hw.1 a 4 (jWs_get he) (jT_at (t := 4) (by decide)) (fun q => q.elim h0 (fun q => Nat.not_lt.mpr q hlt)) hd ?_
    rw [e1]; exact hk
  · refine va_aldq (C := RX3) hF.1 hF.2.1 hF.2.2.2.2.2.1.1 hw.1 a 5 (jWs_get he) (jT_at (t := 5) (by decide)) (fun q => q.elim h0 (fun q => Nat.not_lt.mpr q hlt)) hd ?_
    rw [e1]; exact hk
theorem J_aast {a t r ci : Nat} {fs : List Value} {rs : List (Option Nat)} {i : Int32} (ht : (t = 4 ∧ ci = 5) ∨ (t = 5 ∧ ci = 3)) (he : h[a]? = some (.inl (t, .inr (.inr rs)))) (hr : h[r]? = some (.inr (ci, fs))) (h0 : ¬ i < 0) (hlt : i.toNatClampNeg < rs.length) (hd : decode M.2.2.1 pc = .ok (.aastore, 1)) (k : J M on L xs d kc ks (pc + 1) lv st (h.set a (.inl (t, .inr (.inr (rs.set i.toNatClampNeg (some r)))))) Q) : J M on L xs d kc ks pc lv (.ref r :: .int i :: .ref a :: st) h Q := by
  intro p l e R s m args below meth c D dA sb A H0 n0 ad0 CB SB QQ hF hX hA hR hT ad H locs cells slots ls hw hls h4 h5
  obtain ⟨w1, w2, w3, w4, w5, w6⟩ := hw
  have e1 : (jWs sb dA ad h).set a (ad a, jE sb dA ad (.inl (t, .inr (.inr (rs.set i.toNatClampNeg (some r)))))) = jWs sb dA ad (h.set a (.inl (t, .inr (.inr (rs.set i.toNatClampNeg (some r)))))) := jWs_set
  have e2 : jE sb dA ad (.inl (t, .inr (.inr (rs.set i.toNatClampNeg (some r))))) = .inl (dA t, rs.length, .inr (.inr (.inr (.inr (va_up (fun j => (rs.getD j none).map ad) i.toNatClampNeg (some (ad r))))))) := by
    show (Sum.inl (dA t, (rs.set i.toNatClampNeg (some r)).length, _) : va_E) = Sum.inl (dA t, rs.length, _)
    rw [List.length_set]
    refine congrArg (fun z => (Sum.inl (dA t, rs.length, Sum.inr (Sum.inr (Sum.inr (Sum.inr z)))) : va_E)) (funext fun j => ?_)
    rw [List.getD_eq_getElem?_getD, List.getElem?_set]
    by_cases hj : j = i.toNatClampNeg
    · subst hj
      simp [va_up, hlt]
    · simp [va_up, hj, Ne.symm hj]
  rw [e2] at e1
  rcases ht with ⟨rfl, rfl⟩ | ⟨rfl, rfl⟩
  · refine va_astq hF.1 hF.2.1 hF.2.2.2.2.2.1.1 w1 w2 w3 a 4 r 5 (r := (RX5, TX5, 10)) (jWs_get he) (jT_at (t := 4) (by decide)) (jWs_get hr) rfl (fun q => q.elim h0 (fun q => Nat.not_lt.mpr q hlt)) hd (fun H1 locs1 x1 x2 x3 => ?_)
    rw [e1] at x1 x2
    exact k p l e R s m args below meth c D dA sb A H0 n0 ad0 CB SB QQ hF hX hA hR hT ad H1 locs1 cells slots ls ⟨x1, x2, x3, by simpa using w4, w5, w6⟩ hls h4 h5
  · refine va_astq hF.1 hF.2.1 hF.2.2.2.2.2.1.1 w1 w2 w3 a 5 r 3 (r := (RX3, TX3, 3)) (jWs_get he) (jT_at (t := 5) (by decide)) (jWs_get hr) rfl (fun q => q.elim h0 (fun q => Nat.not_lt.mpr q hlt)) hd (fun H1 locs1 x1 x2 x3 => ?_)
    rw [e1] at x1 x2
    exact k p l e R s m args below meth c D dA sb A H0 n0 ad0 CB SB QQ hF hX hA hR hT ad H1 locs1 cells slots ls ⟨x1, x2, x3, by simpa using w4, w5, w6⟩ hls h4 h5
def jcpy (xs ys : List Int32) (sp dp n : Nat) : List Int32 := (List.range ys.length).map (fun k => if dp ≤ k ∧ k < dp + n then xs.getD (sp + (k - dp)) 0 else ys.getD k 0)
theorem jcpy_eq {xs ys : List Int32} {sp dp n : Nat} (h : dp + n ≤ ys.length) : (fun j => (jcpy xs ys sp dp n).getD j 0) = va_cpy (fun j => xs.getD j 0) (fun j => ys.getD j 0) sp dp n := by
  funext j
  rw [List.getD_eq_getElem?_getD]
  unfold jcpy va_cpy
  rw [List.getElem?_map]
  by_cases hj : j < ys.length
  · rw [List.getElem?_range hj]; rfl
  · rw [List.getElem?_eq_none (by simpa using hj), if_neg (by omega)]
    show (0 : Int32) = ys.getD j 0
    rw [List.getD_eq_getElem?_getD, List.getElem?_eq_none (by omega)]; rfl
-- the script
theorem J_slen {v : Int32} (ho : on = true) (hv : Int32.ofNat L = v) (hd : decode M.2.2.1 pc = .ok (.arraylength, 1)) (k : J M on L xs d kc ks (pc + 1) lv (.int v :: st) h Q) : J M on L xs d kc ks pc lv (.retAddr 0 :: st) h Q := by
  intro p l e R s m args below meth c D dA sb A H0 n0 ad0 CB SB QQ hF hX hA hR hT ad H locs cells slots ls hw hls h4 h5
  obtain ⟨g1, g2, g3⟩ := hX ho
  subst hv
  exact va_slen hF.1 hF.2.1 g1 g2 g3 hw.2.2.1 hd (k p l e R s m args below meth c D dA sb A H0 n0 ad0 CB SB QQ hF hX hA hR hT ad H locs cells slots ls hw hls h4 h5)
theorem J_sld {i : Int32} (ho : on = true) (hin : vp_in i L) (hd : decode M.2.2.1 pc = .ok (.iaload, 1)) (k : J M on L xs d kc ks (pc + 1) lv (.int (xs i.toNatClampNeg) :: st) h Q) : J M on L xs d kc ks pc lv (.int i :: .retAddr 0 :: st) h Q := by
  intro p l e R s m args below meth c D dA sb A H0 n0 ad0 CB SB QQ hF hX hA hR hT ad H locs cells slots ls hw hls h4 h5
  obtain ⟨g1, g2, g3⟩ := hX ho
  exact va_sld hF.1 hF.2.1 g1 g2 g3 hw.2.2.1 hin hd (k p l e R s m args below meth c D dA sb A H0 n0 ad0 CB SB QQ hF hX hA hR hT ad H locs cells slots ls hw hls h4 h5)
-- arraycopy of ints
theorem J_copyi {idx a0 a1 : Nat} {xa ya : List Int32} {sp dp n : Int32} (hl : Cond.methodLink M.2.1.cls idx arraycopyName ∈ jG) (hs : (st.map fun v => v.category).sum ≤ 8) (hd1 : 1 ≤ d) (he0 : h[a0]? = some (.inl (0, .inl xa))) (he1 : h[a1]? = some (.inl (0, .inl ya))) (h1 : ¬ sp < 0) (h2 : ¬ dp < 0) (h3 : ¬ n < 0) (h6 : sp.toNatClampNeg + n.toNatClampNeg ≤ xa.length) (h7 : dp.toNatClampNeg + n.toNatClampNeg ≤ ya.length) (hd : decode M.2.2.1 pc = .ok (.invokestatic idx, 3))
    (k : J M on L xs d kc ks (pc + 3) lv st (h.set a1 (.inl (0, .inl (jcpy xa ya sp.toNatClampNeg dp.toNatClampNeg n.toNatClampNeg)))) Q) : J M on L xs d kc ks pc lv (.int n :: .int dp :: .ref a1 :: .int sp :: .ref a0 :: st) h Q := by
  intro p l e R s m args below meth c D dA sb A H0 n0 ad0 CB SB QQ hF hX hA hR hT ad H locs cells slots ls hw hls h4 h5
  obtain ⟨w1, w2, w3, w4, w5, w6⟩ := hw
  have hcat : ((st.map (jV sb ad)).map fun v => v.category).sum ≤ 8 := by
    rw [List.map_map]
    rw [show ((fun v : Value => v.category) ∘ jV sb ad) = (fun v => v.category) from funext fun v => jV_cat sb ad v]
    exact hs
  have hroom : nativeFrameWords "java/lang/System" "arraycopy" 5 + 11 ≤ 18 := by decide +kernel
  have hmul : 1 * jK0 ≤ d * jK0 := Nat.mul_le_mul_right _ hd1
  have hj : jK0 = 40 := rfl
  refine va_copyi hF.1 hF.2.1 (hF.2.2.1.trans hls.1.symm) hF.2.2.2.1 (hF.2.2.2.2.1 _ hl) (hF.2.2.2.2.1 _ ac_nat) (hF.2.2.2.2.1 _ ac_stat) (hF.2.2.2.2.1 _ ac_ini) hF.2.2.2.2.2.1.1 w1 w2 w3 a0 a1 0 0 (jWs_get he0) (jWs_get he1) (jT_at (by decide)) (jT_at (by decide)) rfl h1 h2 h3 h6 h7 (fun _ _ => rfl) (by have := hR.1; omega) (by have := hR.2.1; omega) hd (fun H1 locs1 x1 x2 x3 => ?_)
  have e1 : (jWs sb dA ad h).set a1 (ad a1, jE sb dA ad (.inl (0, .inl (jcpy xa ya sp.toNatClampNeg dp.toNatClampNeg n.toNatClampNeg)))) = jWs sb dA ad (h.set a1 (.inl (0, .inl (jcpy xa ya sp.toNatClampNeg dp.toNatClampNeg n.toNatClampNeg)))) := jWs_set
  have e2 : jE sb dA ad (.inl (0, .inl (jcpy xa ya sp.toNatClampNeg dp.toNatClampNeg n.toNatClampNeg))) = .inl (dA 0, ya.length, .inl (va_cpy (fun j => xa.getD j 0) (fun j => ya.getD j 0) sp.toNatClampNeg dp.toNatClampNeg n.toNatClampNeg)) := by
    rw [← jcpy_eq h7]
    show (Sum.inl (dA 0, (jcpy xa ya _ _ _).length, _) : va_E) = Sum.inl (dA 0, ya.length, _)
    rw [show (jcpy xa ya sp.toNatClampNeg dp.toNatClampNeg n.toNatClampNeg).length = ya.length by simp [jcpy]]
  rw [e2] at e1
  rw [e1] at x1 x2
  exact k p l e R s m args below meth c D dA sb A H0 n0 ad0 CB SB QQ hF hX hA hR hT ad H1 locs1 cells slots ls ⟨x1, x2, x3, by simpa using w4, w5, w6⟩ hls h4 h5
-- ends
theorem J_iret {x : Int32} {ty : FieldType} (hr : M.2.2.2.2.1 = some ty) (hn : narrow ty (.int x) = .int x) (hd : decode M.2.2.1 pc = .ok (.ireturn, 1)) (hq : Q (some (.int x)) h) : J M on L xs d kc ks pc lv [.int x] h Q :=
  fun p l e R s m args below meth c D dA sb A H0 n0 ad0 CB SB QQ hF hX hA hR hT ad H locs cells slots ls hw hls h4 h5 =>
    hT (some (.int x)) h ad H locs cells slots pc ls hq hw (by omega) (by omega) ⟨hd, ty, hr, hn⟩
theorem J_lret {x : Int64} (hr : M.2.2.2.2.1 = some .long) (hd : decode M.2.2.1 pc = .ok (.lreturn, 1)) (hq : Q (some (.long x)) h) : J M on L xs d kc ks pc lv [.long x] h Q :=
  fun p l e R s m args below meth c D dA sb A H0 n0 ad0 CB SB QQ hF hX hA hR hT ad H locs cells slots ls hw hls h4 h5 =>
    hT (some (.long x)) h ad H locs cells slots pc ls hq hw (by omega) (by omega) ⟨hd, hr⟩
theorem J_vret (hr : M.2.2.2.2.1 = none) (hd : decode M.2.2.1 pc = .ok (.return_, 1)) (hq : Q none h) : J M on L xs d kc ks pc lv [] h Q :=
  fun p l e R s m args below meth c D dA sb A H0 n0 ad0 CB SB QQ hF hX hA hR hT ad H locs cells slots ls hw hls h4 h5 =>
    hT none h ad H locs cells slots pc ls hq hw (by omega) (by omega) ⟨hd, hr⟩
-- Object's constructor
theorem J_oinit {idx : Nat} {v : Nat} (hl : Cond.methodLink M.2.1.cls idx objectInit ∈ jG) (hs : (st.map fun v => v.category).sum ≤ 8) (hd1 : 1 ≤ d) (hd : decode M.2.2.1 pc = .ok (.invokespecial idx, 3)) (k : J M on L xs d kc ks (pc + 3) lv st h Q) : J M on L xs d kc ks pc lv (.ref v :: st) h Q := by
  intro p l e R s m args below meth c D dA sb A H0 n0 ad0 CB SB QQ hF hX hA hR hT ad H locs cells slots ls hw hls h4 h5
  have hcat : ((st.map (jV sb ad)).map fun v => v.category).sum ≤ 8 := by
    rw [List.map_map]
    rw [show ((fun v : Value => v.category) ∘ jV sb ad) = (fun v => v.category) from funext fun v => jV_cat sb ad v]
    exact hs
  have hmul : 1 * jK0 ≤ d * jK0 := Nat.mul_le_mul_right _ hd1
  have hj : jK0 = 40 := rfl
  have hrm := lv_room (m := m) (pc := pc) (ls := ls) (rest := ((Value.ref v :: st).map (jV sb ad))) hcat
  refine W.objInit hF.1 hF.2.1 hF.2.2.2.1 (hF.2.2.2.2.1 _ hl) (hF.2.2.2.2.1 _ oi_inst) (hF.2.2.2.2.1 _ oi_code) rfl (by rw [hF.2.2.1]; exact hls.1) rfl hd (by have := hR.1; omega) (by have := hR.2.1; have h9 := hrm; omega) ?_
  exact k p l e R s m args below meth c D dA sb A H0 n0 ad0 CB SB QQ hF hX hA hR hT ad H locs cells slots ls hw hls h4 h5
end JROWS
end
section
/-! CONTRACTS over the abstract machine, and calls -/
def jQc (Q : Option Value → jH → Prop) (D : va_G) (dA : Nat → Nat) (sb : Nat) (ad : Nat → Nat) (h : jH) (kc sz : Nat) : Array Value → State → Outcome → State → Prop := fun _ st oc t =>
  (∃ (r : Option Value) (h' : jH) (ad' : Nat → Nat), oc = .returned (r.map (jV sb ad')) ∧ Q r h' ∧ h.length ≤ h'.length ∧ (∀ i, i < h.length → ad' i = ad i) ∧ (kc = 0 → ad' = ad) ∧ va_P D vwCl (jWs sb dA ad' h') t.heap ∧ va_D (va_A (jWs sb dA ad h) sz) (jWs sb dA ad' h')) ∧ va_F (va_A (jWs sb dA ad h) sz) st t
def jWords (M : jM) : List Cond := Cond.code M.2.1 M.2.2.1 M.2.2.2.1 M.2.2.2.2.1 :: jG
def jRoom (d kc ks : Nat) : Room := { frames := d, cells := kc, slots := ks, locals := d * jK0 }
def jPc (D : va_G) (dA : Nat → Nat) (sb : Nat) (ad : Nat → Nat) (args : List Value) (h : jH) (sz : Nat) : Array Value → State → Prop :=
  va_Pc (args.map (jV sb ad)) (fun U => U.heap.size = sz ∧ va_P D vwCl (jWs sb dA ad h) U.heap ∧ jK D dA U ∧ va_D (fun _ => True) (jWs sb dA ad h))
/-- a method's contract: from the arguments and the heap it comes to an answer and a heap with Q -/
def jCt (M : jM) (d kc ks : Nat) (args : List Value) (h : jH) (Q : Option Value → jH → Prop) : Prop :=
  ∀ (l : Launch) (D : va_G) (dA : Nat → Nat) (sb : Nat) (ad : Nat → Nat) (sz : Nat),
    Met l M.2.1 (jWords M) (jRoom d kc ks) (jPc D dA sb ad args h sz) (jQc Q D dA sb ad h kc sz) kc ks (va_A (jWs sb dA ad h) sz)
theorem jArgs (sb : Nat) (ad : Nat → Nat) : ∀ (vs : List Value) (i : Nat), lv_args i (vs.map (jV sb ad)) = jL sb ad (lv_args i vs)
  | [], _ => rfl
  | v :: vs, i => by
    show (i, jV sb ad v) :: lv_args (if (jV sb ad v).category = 2 then i + 2 else i + 1) (vs.map (jV sb ad)) = (i, jV sb ad v) :: jL sb ad (lv_args (if v.category = 2 then i + 2 else i + 1) vs)
    rw [jV_cat, jArgs sb ad vs]
theorem jBlind {D : va_G} {dA : Nat → Nat} {sb : Nat} {ad : Nat → Nat} {args : List Value} {h : jH} {sz : Nat} : FrameBlind (jPc D dA sb ad args h sz) :=
  fun a U g mk q => by
    obtain ⟨q0, q1, qP, qK, qD⟩ := q
    exact ⟨q0, q1, qP, jK.same (u := U) (U := U.calling g mk a) rfl qK, qD⟩
theorem jCt_of {M : jM} {d kc ks : Nat} {args : List Value} {h : jH} {Q : Option Value → jH → Prop} (hok : jok M) (hargs : ∀ sb ad, (lg_sl (args.map (jV sb ad))).length ≤ M.2.2.2.1) (hlen : ∀ v h', Q v h' → h.length ≤ h'.length) (hJ : J M false 0 (fun _ => 0) d kc ks 0 (lv_args 0 args) [] h Q) : jCt M d kc ks args h Q := by
  intro l D dA sb ad sz
  refine Met.ofW (cc := M.2.2.1) (maxL := M.2.2.2.1) (ret := M.2.2.2.2.1) hok.2.2.2.1 rfl ?_
  intro p e s m args' below meth c s₁ B hml hv
  obtain ⟨rfl, hsz, hP, hK, hD0⟩ := hv
  have hx := B.exec
  have hb := B.bytes
  have hr := B.returns
  have hts0 := atoms_spec (ws := jWords M) B.pre
  have hts : ∀ w ∈ jG, w.before (args.map (jV sb ad)).toArray s = true := fun w hw => hts0 w (List.mem_cons_of_mem _ hw)
  have hown : s.vm.findClass M.2.1.cls = some m.cls := findClass_of_methodNamed B.named
  have hlocks := B.notSynchronized
  have hname : meth.name = M.2.1.name := (name_of_methodNamed B.named B.method).1
  subst hsz
  have hl := lv_entry (args.map (jV sb ad)) (n := M.2.2.2.1) (hargs sb ad)
  rw [jArgs] at hl
  rw [lg_entry_eq]
  generalize (lg_sl (args.map (jV sb ad)) ++ List.replicate (M.2.2.2.1 - (lg_sl (args.map (jV sb ad))).length) Slot.unset).toArray = ls at hl ⊢
  refine hJ p l e _ s m _ below meth c D dA sb (va_A (jWs sb dA ad h) s.heap.size) s.heap h.length ad kc ks _ ⟨hx, hb, hml, hown, hts, hK, hlocks, hr, fun z => hname.trans z⟩ (fun z => by cases z) (fun q hq => Or.inr hq) ⟨Nat.le_refl _, Nat.le_refl _, Nat.le_refl _, Nat.le_refl _⟩ ?_ ad s.heap [] 0 0 ls ⟨hP, hD0.self, va_S.rf, Nat.le_refl _, fun _ _ => rfl, fun _ => rfl⟩ hl (by omega) (by omega)
  intro v h' ad' H' locs' cells' slots' pc' ls' hq hw hc hs hri
  obtain ⟨w1, w2, w3, w4, w5, w6⟩ := hw
  refine W.widen hc hs ?_
  have hend : ∀ t : State, t.heap = H' → jQc Q D dA sb ad h kc s.heap.size (args.map (jV sb ad)).toArray s (.returned (v.map (jV sb ad'))) t := fun t ht =>
    ⟨⟨v, h', ad', rfl, hq, hlen v h' hq, w5, w6, by rw [ht]; exact w1, w2⟩, w3.F ht⟩
  match v, hri with
  | none, hri =>
    exact W.vret hx hb (hr.trans hri.2) (fun t ht hW => hend t ht) w3.2.2 hri.1
  | some (.int x), hri =>
    obtain ⟨hd, ty, h1, h2⟩ := hri
    exact W.zret (v := x) hx hb (hr.trans h1) h2 (fun t ht hW => hend t ht) w3.2.2 hd
  | some (.long x), hri =>
    exact W.lret (v := x) hx hb (hr.trans hri.2) (fun t ht hW => hend t ht) w3.2.2 hri.1
theorem jCt.mono {M : jM} {d kc ks : Nat} {args : List Value} {h : jH} {Q Q' : Option Value → jH → Prop} (hq : ∀ v h', Q v h' → Q' v h') (k : jCt M d kc ks args h Q) : jCt M d kc ks args h Q' := by
  intro l D dA sb ad sz
  have h1 := k l D dA sb ad sz
  intro p e ha hc hk s m args' below hf happ hp hx
  obtain ⟨n, o, a1, a2, a3, ⟨⟨⟨r, h', ad', e1, e2, e3⟩, e4⟩, e5⟩⟩ := h1 p e ha hc hk s m args' below hf happ hp hx
  exact ⟨n, o, a1, a2, a3, ⟨⟨⟨r, h', ad', e1, hq _ _ e2, e3⟩, e4⟩, e5⟩⟩
section JCALLS
variable {M M' : jM} {on : Bool} {L : Nat} {xs : Nat → Int32} {d d' kc ks kc' ks' pc : Nat} {lv : List (Nat × Value)} {st : List Value} {h : jH} {Q Q' : Option Value → jH → Prop}
/-- behind a call -/
theorem J_run {stk As : List Value} (hwf : kc' = 0 ∨ jwF h.length lv st = true) (hc : jCt M' d' kc' ks' As h Q') (hd' : d' + 1 ≤ d) (hlocs : M'.2.2.2.1 ≤ 12)
    (hr : ∀ {p : Program} {l : Launch} {e : Env} {R : Room} {s : State} {m : MethodId} {args : Array Value} {below : List Frame} {meth : Method} {c : Code} {D : va_G} {dA : Nat → Nat} {sb : Nat} {ad : Nat → Nat} {H : Heap} {locs : List Loc} {cells slots : Nat} {ls : Array Slot},
      jFix M p s m args meth c D dA → Met l M'.2.1 (jWords M') (jRoom d' kc' ks') (jPc D dA sb ad As h H.size) (jQc Q' D dA sb ad h kc' H.size) kc' ks' (va_A (jWs sb dA ad h) H.size) →
      va_P D vwCl (jWs sb dA ad h) H → va_D (fun _ => True) (jWs sb dA ad h) → ls.size = M.2.2.2.1 → d' + 1 ≤ R.frames → 8 + (M'.2.2.2.1 + 11) + d' * jK0 ≤ R.locals → cells + kc' ≤ R.cells ∧ slots + ks' ≤ R.slots →
      ∃ a, va_Run p l e R s m args below meth c H locs cells slots kc' ks' (F0 m pc ls (stk.map (jV sb ad))) (st.map (jV sb ad)) (jQc Q' D dA sb ad h kc' H.size a) (va_A (jWs sb dA ad h) H.size))
    (k : ∀ r h', Q' r h' → h.length ≤ h'.length → J M on L xs d kc ks (pc + 3) lv (r.toList ++ st) h' Q) : J M on L xs d (kc' + kc) (ks' + ks) pc lv stk h Q := by
  intro p l e R s m args below meth c D dA sb A H0 n0 ad0 CB SB QQ hF hX hA hR hT ad H locs cells slots ls hw hls h4 h5
  obtain ⟨w1, w2, w3, w4, w5, w6⟩ := hw
  have hmul : (d' + 1) * jK0 ≤ d * jK0 := Nat.mul_le_mul_right _ hd'
  have hj : (d' + 1) * jK0 = d' * jK0 + 40 := by rw [Nat.add_mul]; rfl
  have hA1 : ∀ q, va_A (jWs sb dA ad h) H.size q → A q := fun q hq => by
    rcases hq with ⟨k, e, hk⟩ | hq
    · exact w2.2 k (q, e) hk
    · exact hA q (Nat.le_trans w3.1 hq)
  obtain ⟨a, hrun⟩ := hr (l := l) (e := e) (below := below) (locs := locs) (cells := cells) (slots := slots) (ls := ls) hF (hc l D dA sb ad H.size) w1 (w2.weaken (fun _ _ _ _ => trivial)) hls.1 (Nat.le_trans hd' hR.1) (by have := hR.2.1; omega) ⟨by have := hR.2.2.1; omega, by have := hR.2.2.2; omega⟩
  intro T hT1 X
  obtain ⟨v, st₀, t, T', LL, h0, X', hL, e1, e2, ⟨⟨r, h', ad', hv, hq, hlen, hag, hz0, hP', hD'⟩, hz, hk⟩, hst⟩ := hrun T hT1 X
  cases hv
  rw [h0] at hz hk
  have hS' : va_S A H0 T'.heap (locs ++ LL) := ⟨Nat.le_trans w3.1 (by rw [e1]; exact hz), fun q h1 h2 => by
      rw [e1, hk q (Nat.lt_of_lt_of_le h1 w3.1) (fun z => h2 (hA1 q z))]
      exact w3.2.1 q h1 h2, fun q hq => by
      rcases List.mem_append.mp hq with h | h
      · exact w3.2.2 q h
      · exact hA1 _ (hL q h)⟩
  have hlst : jL sb ad' lv = jL sb ad lv ∧ st.map (jV sb ad') = st.map (jV sb ad) := by
    rcases hwf with hwf | hwf
    · rw [hz0 hwf]; exact ⟨rfl, rfl⟩
    · unfold jwF at hwf
      obtain ⟨f1, f2⟩ := Bool.and_eq_true_iff.mp hwf
      exact ⟨jL_ext f1 hag, jVs_ext f2 hag⟩
  have hk2 := k r h' hq hlen p l e R s m args below meth c D dA sb A H0 n0 ad0 CB SB QQ hF hX hA hR hT ad' T'.heap (locs ++ LL) (cells + kc') (slots + ks') ls
    ⟨by rw [e1]; exact hP', hD'.weaken (fun _ q _ hq => hA1 q.1 hq), hS', by omega, fun i hi => by rw [hag i (by omega)]; exact w5 i hi, fun z => by rw [hz0 (by omega)]; exact w6 z⟩ (by rw [hlst.1]; exact hls) (by omega) (by omega)
  rw [List.map_append, hlst.2] at hk2
  obtain ⟨t2, a1, b1⟩ := hk2 T' rfl X'
  refine ⟨t2, hst t2 ?_, b1⟩
  cases r <;> exact a1
theorem jSum {sb : Nat} {ad : Nat → Nat} (hs : (st.map fun v => v.category).sum ≤ 8) : ((st.map (jV sb ad)).map fun v => v.category).sum ≤ 8 := by
  rw [List.map_map]
  rw [show ((fun v : Value => v.category) ∘ jV sb ad) = (fun v => v.category) from funext fun v => jV_cat sb ad v]
  exact hs
theorem jGoodWs (hok : jok M') : GoodIn jG (jWords M') := fun w hw => by
  rcases List.mem_cons.mp hw with rfl | hw
  · exact jG_good _ hok.2.1
  · exact jG_good w hw
theorem J_callV {idx n b ci : Nat} {fs As : List Value} {q : vw_C} (hok : jok M') (hv : jvirt M') (hl : Cond.methodLink M.2.1.cls idx M'.2.1 ∈ jG) (hpn : (parseMethodDescriptor M'.2.1.desc).map (fun d => d.parameters.length) = some n) (hn : As.length = n) (hb : h[b]? = some (.inr (ci, fs))) (hq : vwCl[ci]? = some q) (hqc : q.1 = M'.2.1.cls) (hs : (st.map fun v => v.category).sum ≤ 8)
    (hwf : kc' = 0 ∨ jwF h.length lv st = true) (hd' : d' + 1 ≤ d) (hd : decode M.2.2.1 pc = .ok (.invokevirtual idx, 3)) (hc : jCt M' d' kc' ks' (.ref b :: As) h Q')
    (k : ∀ r h', Q' r h' → h.length ≤ h'.length → J M on L xs d kc ks (pc + 3) lv (r.toList ++ st) h' Q) : J M on L xs d (kc' + kc) (ks' + ks) pc lv (As.reverse ++ .ref b :: st) h Q := by
  refine J_run (As := .ref b :: As) hwf hc hd' hok.2.2.2.2.2 ?_ k
  intro p l e R s m args below meth c D dA sb ad H locs cells slots ls hF hM hP hD hsz hr1 hr2 hr3
  have hT : GoodIn jG (wsV M.2.1.cls idx M'.2.1.cls M'.2.1 (jWords M')) := fun w hw => by
    rcases List.mem_append.mp hw with hw | hw
    · simp only [List.mem_cons, List.not_mem_nil, or_false] at hw
      rcases hw with rfl | rfl | rfl | rfl
      · exact jG_good _ hl
      · exact jG_good _ hv.1
      · exact jG_good _ hv.2
      · exact jG_good _ hok.2.2.1
    · exact jGoodWs hok w hw
  have hcw := cwV (R := R) (rm := jRoom d' kc' ks') (mc := kc') (ms := ks') (maxL := M'.2.2.2.1) (bytes := M'.2.2.1) (ret := M'.2.2.2.2.1) n hF.2.2.2.2.1 hT rfl rfl rfl ⟨rfl, hok.2.2.2.2.1.1, hok.2.2.2.2.1.2, hpn⟩ ⟨hr1, hr2⟩
  have hrv := va_recv (q0 := b) hF.2.2.2.2.2.1.1 hP hq (jWs_get hb)
  rw [hqc] at hrv
  refine ⟨_, va_runV (As := As.map (jV sb ad)) (rest := st.map (jV sb ad)) (b := ad b) ⟨hF.1, hF.2.1, hF.2.2.1, hF.2.2.2.1, hF.2.2.2.2.1⟩ hM hcw ⟨jBlind, hrv, fun U hU hW => ⟨rfl, by rw [hU], by rw [hU]; exact hP, jK.moved hW hF.2.2.2.2.2.1, hD⟩⟩ rfl (by rw [List.length_map]; exact hn) hsz ?_ (lv_room (jSum hs)) hd hr3⟩
  show (As.reverse ++ Value.ref b :: st).map (jV sb ad) = _
  rw [List.map_append, List.map_reverse]; rfl
theorem J_callI {idx n b : Nat} {As : List Value} (hok : jok M') (hv : jinit M') (hl : Cond.methodLink M.2.1.cls idx M'.2.1 ∈ jG) (hpn : (parseMethodDescriptor M'.2.1.desc).map (fun d => d.parameters.length) = some n) (hn : As.length = n) (hs : (st.map fun v => v.category).sum ≤ 8)
    (hwf : kc' = 0 ∨ jwF h.length lv st = true) (hd' : d' + 1 ≤ d) (hd : decode M.2.2.1 pc = .ok (.invokespecial idx, 3)) (hc : jCt M' d' kc' ks' (.ref b :: As) h Q')
    (k : ∀ r h', Q' r h' → h.length ≤ h'.length → J M on L xs d kc ks (pc + 3) lv (r.toList ++ st) h' Q) : J M on L xs d (kc' + kc) (ks' + ks) pc lv (As.reverse ++ .ref b :: st) h Q := by
  refine J_run (As := .ref b :: As) hwf hc hd' hok.2.2.2.2.2 ?_ k
  intro p l e R s m args below meth c D dA sb ad H locs cells slots ls hF hM hP hD hsz hr1 hr2 hr3
  have hcw := cwI (R := R) (rm := jRoom d' kc' ks') (mc := kc') (ms := ks') (maxL := M'.2.2.2.1) (bytes := M'.2.2.1) n hF.2.2.2.2.1 (jGoodWs hok) (by unfold jWords; rw [hv.2.2]) rfl rfl (hF.2.2.2.2.1 _ hok.2.2.1) (hF.2.2.2.2.1 _ hl) (hF.2.2.2.2.1 _ hv.2.1) hv.1 ⟨hok.2.2.2.2.1.1, hok.2.2.2.2.1.2, hpn⟩ ⟨hr1, hr2⟩
  refine ⟨_, va_runI (As := As.map (jV sb ad)) (rest := st.map (jV sb ad)) (b := ad b) ⟨hF.1, hF.2.1, hF.2.2.1, hF.2.2.2.1, hF.2.2.2.2.1⟩ hM hcw ⟨jBlind, fun U hU hW => ⟨rfl, by rw [hU], by rw [hU]; exact hP, jK.moved hW hF.2.2.2.2.2.1, hD⟩⟩ rfl (by rw [List.length_map]; exact hn) hsz ?_ (lv_room (jSum hs)) hd hr3⟩
  show (As.reverse ++ Value.ref b :: st).map (jV sb ad) = _
  rw [List.map_append, List.map_reverse]; rfl
theorem J_callN {idx n b : Nat} {host : String} {As : List Value} (hok : jok M') (hv : jinit M') (hl : ∀ s, jN s → va_Nw (.methodLinkNest M.2.1.cls idx M'.2.1 host) s) (hpn : (parseMethodDescriptor M'.2.1.desc).map (fun d => d.parameters.length) = some n) (hn : As.length = n) (hs : (st.map fun v => v.category).sum ≤ 8)
    (hwf : kc' = 0 ∨ jwF h.length lv st = true) (hd' : d' + 1 ≤ d) (hd : decode M.2.2.1 pc = .ok (.invokespecial idx, 3)) (hc : jCt M' d' kc' ks' (.ref b :: As) h Q')
    (k : ∀ r h', Q' r h' → h.length ≤ h'.length → J M on L xs d kc ks (pc + 3) lv (r.toList ++ st) h' Q) : J M on L xs d (kc' + kc) (ks' + ks) pc lv (As.reverse ++ .ref b :: st) h Q := by
  refine J_run (As := .ref b :: As) hwf hc hd' hok.2.2.2.2.2 ?_ k
  intro p l e R s m args below meth c D dA sb ad H locs cells slots ls hF hM hP hD hsz hr1 hr2 hr3
  have hcw := va_cnB (R := R) (rm := jRoom d' kc' ks') (mc := kc') (ms := ks') (maxL := M'.2.2.2.1) (bytes := M'.2.2.1) (ret := none) n hF.2.2.2.2.1 (jGoodWs hok) (by unfold jWords; rw [hv.2.2]) rfl rfl (hl _ hF.2.2.2.2.2.1.2) (hF.2.2.2.2.1 _ hok.2.2.1) ⟨hok.2.2.2.2.1.1, hok.2.2.2.2.1.2, hpn⟩ ⟨hr1, hr2⟩
  refine ⟨_, va_runIN (As := As.map (jV sb ad)) (rest := st.map (jV sb ad)) (b := ad b) ⟨hF.1, hF.2.1, hF.2.2.1, hF.2.2.2.1, hF.2.2.2.2.1⟩ hM ⟨hcw, hv.1, hF.2.2.2.2.1 _ hv.2.1⟩ ⟨jBlind, fun U hU hW => ⟨rfl, by rw [hU], by rw [hU]; exact hP, jK.moved hW hF.2.2.2.2.2.1, hD⟩⟩ rfl (by rw [List.length_map]; exact hn) hsz ?_ (lv_room (jSum hs)) hd hr3⟩
  show (As.reverse ++ Value.ref b :: st).map (jV sb ad) = _
  rw [List.map_append, List.map_reverse]; rfl
theorem J_callS {idx n : Nat} {As : List Value} (hok : jok M') (hv : jstat M') (hl : Cond.methodLink M.2.1.cls idx M'.2.1 ∈ jG) (hcl : M'.2.1.cls = M.2.1.cls) (hpn : (parseMethodDescriptor M'.2.1.desc).map (fun d => d.parameters.length) = some n) (hn : As.length = n) (hs : (st.map fun v => v.category).sum ≤ 8)
    (hwf : kc' = 0 ∨ jwF h.length lv st = true) (hd' : d' + 1 ≤ d) (hd : decode M.2.2.1 pc = .ok (.invokestatic idx, 3)) (hc : jCt M' d' kc' ks' As h Q')
    (k : ∀ r h', Q' r h' → h.length ≤ h'.length → J M on L xs d kc ks (pc + 3) lv (r.toList ++ st) h' Q) : J M on L xs d (kc' + kc) (ks' + ks) pc lv (As.reverse ++ st) h Q := by
  refine J_run (As := As) hwf hc hd' hok.2.2.2.2.2 ?_ k
  intro p l e R s m args below meth c D dA sb ad H locs cells slots ls hF hM hP hD hsz hr1 hr2 hr3
  have hT : GoodIn jG (wsS M.2.1.cls idx M'.2.1 (jWords M')) := fun w hw => by
    rcases List.mem_append.mp hw with hw | hw
    · simp only [List.mem_cons, List.not_mem_nil, or_false] at hw
      rcases hw with rfl | rfl | rfl
      · exact jG_good _ hl
      · exact jG_good _ hv
      · rw [← hcl]; exact jG_good _ hok.2.2.1
    · exact jGoodWs hok w hw
  have hcw := cwS (R := R) (rm := jRoom d' kc' ks') (mc := kc') (ms := ks') (maxL := M'.2.2.2.1) (bytes := M'.2.2.1) (ret := M'.2.2.2.2.1) n hF.2.2.2.2.1 hT rfl rfl rfl ⟨hcl, hok.2.2.2.2.1.1, hok.2.2.2.2.1.2, hpn⟩ ⟨hr1, hr2⟩
  refine ⟨_, va_runS (As := As.map (jV sb ad)) (rest := st.map (jV sb ad)) ⟨hF.1, hF.2.1, hF.2.2.1, hF.2.2.2.1, hF.2.2.2.2.1⟩ hM hcw ⟨jBlind, fun U hU hW => ⟨rfl, by rw [hU], by rw [hU]; exact hP, jK.moved hW hF.2.2.2.2.2.1, hD⟩⟩ rfl (by rw [List.length_map]; exact hn) hsz ?_ (lv_room (jSum hs)) hd hr3⟩
  show (As.reverse ++ st).map (jV sb ad) = _
  rw [List.map_append, List.map_reverse]
end JCALLS
end
