section
-- ===== PART A: goes FIRST, ahead of the names: the tables' words, and 'selects' of the private methods out of them =====
/-- a private method of a class that the tables say can be made, by its rows of tables_1 -/
def lw_okq (q : MethodName × Nat) : Prop := (q.1.cls ≠ "java/lang/invoke/MethodHandle" ∧ q.1.cls ≠ "java/lang/invoke/VarHandle") ∧ Cond.instantiable q.1.cls q.2 ∈ tables_1 ∧ Cond.privateMethod q.1 ∈ tables_1 ∧ Cond.instanceMethod q.1 ∈ tables_1
theorem lw_p0 : lw_okq (⟨"java/lang/Throwable", "fillInStackTrace", "(I)Ljava/lang/Throwable;"⟩, 6) := ⟨⟨by decide +kernel, by decide +kernel⟩, List.mem_of_getElem? (i := 188) (by decide +kernel), List.mem_of_getElem? (i := 186) (by decide +kernel), List.mem_of_getElem? (i := 187) (by decide +kernel)⟩
theorem lw_p1 : lw_okq (⟨"TwinKeepers", "machineOf", "(I)LTwinKeepers$Machine;"⟩, 6) := ⟨⟨by decide +kernel, by decide +kernel⟩, List.mem_of_getElem? (i := 30) (by decide +kernel), List.mem_of_getElem? (i := 241) (by decide +kernel), List.mem_of_getElem? (i := 242) (by decide +kernel)⟩
theorem lw_p2 : lw_okq (⟨"TwinKeepers$Machine", "longestUnused", "()I"⟩, 3) := ⟨⟨by decide +kernel, by decide +kernel⟩, List.mem_of_getElem? (i := 38) (by decide +kernel), List.mem_of_getElem? (i := 275) (by decide +kernel), List.mem_of_getElem? (i := 276) (by decide +kernel)⟩
theorem lw_p3 : lw_okq (⟨"java/util/ArrayList", "fastRemove", "([Ljava/lang/Object;I)V"⟩, 3) := ⟨⟨by decide +kernel, by decide +kernel⟩, List.mem_of_getElem? (i := 44) (by decide +kernel), List.mem_of_getElem? (i := 298) (by decide +kernel), List.mem_of_getElem? (i := 299) (by decide +kernel)⟩
theorem lw_p4 : lw_okq (⟨"java/util/ArrayList", "add", "(Ljava/lang/Object;[Ljava/lang/Object;I)V"⟩, 3) := ⟨⟨by decide +kernel, by decide +kernel⟩, List.mem_of_getElem? (i := 44) (by decide +kernel), List.mem_of_getElem? (i := 339) (by decide +kernel), List.mem_of_getElem? (i := 340) (by decide +kernel)⟩
theorem lw_p5 : lw_okq (⟨"java/util/ArrayList", "grow", "()[Ljava/lang/Object;"⟩, 3) := ⟨⟨by decide +kernel, by decide +kernel⟩, List.mem_of_getElem? (i := 44) (by decide +kernel), List.mem_of_getElem? (i := 343) (by decide +kernel), List.mem_of_getElem? (i := 344) (by decide +kernel)⟩
theorem lw_p6 : lw_okq (⟨"java/util/ArrayList", "grow", "(I)[Ljava/lang/Object;"⟩, 3) := ⟨⟨by decide +kernel, by decide +kernel⟩, List.mem_of_getElem? (i := 44) (by decide +kernel), List.mem_of_getElem? (i := 347) (by decide +kernel), List.mem_of_getElem? (i := 348) (by decide +kernel)⟩
theorem lw_p7 : lw_okq (⟨"TwinKeepers", "takeTape", "()I"⟩, 6) := ⟨⟨by decide +kernel, by decide +kernel⟩, List.mem_of_getElem? (i := 30) (by decide +kernel), List.mem_of_getElem? (i := 401) (by decide +kernel), List.mem_of_getElem? (i := 402) (by decide +kernel)⟩
theorem lw_p8 : lw_okq (⟨"TwinKeepers$Row", "addByte", "(B)V"⟩, 2) := ⟨⟨by decide +kernel, by decide +kernel⟩, List.mem_of_getElem? (i := 102) (by decide +kernel), List.mem_of_getElem? (i := 448) (by decide +kernel), List.mem_of_getElem? (i := 449) (by decide +kernel)⟩
theorem lw_p9 : lw_okq (⟨"TwinKeepers", "operate", "(LTwinKeepers$KeyMap;II)V"⟩, 6) := ⟨⟨by decide +kernel, by decide +kernel⟩, List.mem_of_getElem? (i := 30) (by decide +kernel), List.mem_of_getElem? (i := 462) (by decide +kernel), List.mem_of_getElem? (i := 463) (by decide +kernel)⟩
theorem lw_p10 : lw_okq (⟨"TwinKeepers$KeyMap", "replace", "(I[B)Z"⟩, 2) := ⟨⟨by decide +kernel, by decide +kernel⟩, List.mem_of_getElem? (i := 70) (by decide +kernel), List.mem_of_getElem? (i := 702) (by decide +kernel), List.mem_of_getElem? (i := 703) (by decide +kernel)⟩
theorem lw_p11 : lw_okq (⟨"TwinKeepers$KeyMap", "insert", "(I[B[B)Z"⟩, 2) := ⟨⟨by decide +kernel, by decide +kernel⟩, List.mem_of_getElem? (i := 70) (by decide +kernel), List.mem_of_getElem? (i := 727) (by decide +kernel), List.mem_of_getElem? (i := 728) (by decide +kernel)⟩
theorem lw_p12 : lw_okq (⟨"java/util/ArrayList", "rangeCheckForAdd", "(I)V"⟩, 3) := ⟨⟨by decide +kernel, by decide +kernel⟩, List.mem_of_getElem? (i := 44) (by decide +kernel), List.mem_of_getElem? (i := 735) (by decide +kernel), List.mem_of_getElem? (i := 736) (by decide +kernel)⟩
theorem lw_p13 : lw_okq (⟨"java/util/ArrayList", "outOfBoundsMsg", "(I)Ljava/lang/String;"⟩, 3) := ⟨⟨by decide +kernel, by decide +kernel⟩, List.mem_of_getElem? (i := 44) (by decide +kernel), List.mem_of_getElem? (i := 740) (by decide +kernel), List.mem_of_getElem? (i := 741) (by decide +kernel)⟩
theorem lw_p14 : lw_okq (⟨"TwinKeepers$KeyMap", "tellValue", "(ILTwinKeepers$Row;)V"⟩, 2) := ⟨⟨by decide +kernel, by decide +kernel⟩, List.mem_of_getElem? (i := 70) (by decide +kernel), List.mem_of_getElem? (i := 769) (by decide +kernel), List.mem_of_getElem? (i := 770) (by decide +kernel)⟩
theorem lw_p15 : lw_okq (⟨"TwinKeepers", "look", "(LTwinKeepers$KeyMap;II)V"⟩, 6) := ⟨⟨by decide +kernel, by decide +kernel⟩, List.mem_of_getElem? (i := 30) (by decide +kernel), List.mem_of_getElem? (i := 796) (by decide +kernel), List.mem_of_getElem? (i := 797) (by decide +kernel)⟩
def lw_privs_1 : List (MethodName × Nat) := [(⟨"java/lang/Throwable", "fillInStackTrace", "(I)Ljava/lang/Throwable;"⟩, 6), (⟨"TwinKeepers", "machineOf", "(I)LTwinKeepers$Machine;"⟩, 6), (⟨"TwinKeepers$Machine", "longestUnused", "()I"⟩, 3), (⟨"java/util/ArrayList", "fastRemove", "([Ljava/lang/Object;I)V"⟩, 3), (⟨"java/util/ArrayList", "add", "(Ljava/lang/Object;[Ljava/lang/Object;I)V"⟩, 3), (⟨"java/util/ArrayList", "grow", "()[Ljava/lang/Object;"⟩, 3), (⟨"java/util/ArrayList", "grow", "(I)[Ljava/lang/Object;"⟩, 3), (⟨"TwinKeepers", "takeTape", "()I"⟩, 6), (⟨"TwinKeepers$Row", "addByte", "(B)V"⟩, 2), (⟨"TwinKeepers", "operate", "(LTwinKeepers$KeyMap;II)V"⟩, 6), (⟨"TwinKeepers$KeyMap", "replace", "(I[B)Z"⟩, 2), (⟨"TwinKeepers$KeyMap", "insert", "(I[B[B)Z"⟩, 2), (⟨"java/util/ArrayList", "rangeCheckForAdd", "(I)V"⟩, 3), (⟨"java/util/ArrayList", "outOfBoundsMsg", "(I)Ljava/lang/String;"⟩, 3), (⟨"TwinKeepers$KeyMap", "tellValue", "(ILTwinKeepers$Row;)V"⟩, 2), (⟨"TwinKeepers", "look", "(LTwinKeepers$KeyMap;II)V"⟩, 6)]
theorem lw_r1 : ∀ q ∈ lw_privs_1, lw_okq q := List.forall_mem_cons.mpr ⟨lw_p0, List.forall_mem_cons.mpr ⟨lw_p1, List.forall_mem_cons.mpr ⟨lw_p2, List.forall_mem_cons.mpr ⟨lw_p3, List.forall_mem_cons.mpr ⟨lw_p4, List.forall_mem_cons.mpr ⟨lw_p5, List.forall_mem_cons.mpr ⟨lw_p6, List.forall_mem_cons.mpr ⟨lw_p7, List.forall_mem_cons.mpr ⟨lw_p8, List.forall_mem_cons.mpr ⟨lw_p9, List.forall_mem_cons.mpr ⟨lw_p10, List.forall_mem_cons.mpr ⟨lw_p11, List.forall_mem_cons.mpr ⟨lw_p12, List.forall_mem_cons.mpr ⟨lw_p13, List.forall_mem_cons.mpr ⟨lw_p14, List.forall_mem_cons.mpr ⟨lw_p15, fun _ h => absurd h List.not_mem_nil⟩⟩⟩⟩⟩⟩⟩⟩⟩⟩⟩⟩⟩⟩⟩⟩
theorem lw_p16 : lw_okq (⟨"TwinKeepers$Machine", "hasSessionsOf", "(LTwinKeepers$Machine;)Z"⟩, 3) := ⟨⟨by decide +kernel, by decide +kernel⟩, List.mem_of_getElem? (i := 38) (by decide +kernel), List.mem_of_getElem? (i := 849) (by decide +kernel), List.mem_of_getElem? (i := 850) (by decide +kernel)⟩
theorem lw_p17 : lw_okq (⟨"TwinKeepers$Machine", "hasEntriesOf", "(LTwinKeepers$Machine;)Z"⟩, 3) := ⟨⟨by decide +kernel, by decide +kernel⟩, List.mem_of_getElem? (i := 38) (by decide +kernel), List.mem_of_getElem? (i := 858) (by decide +kernel), List.mem_of_getElem? (i := 859) (by decide +kernel)⟩
theorem lw_p18 : lw_okq (⟨"TwinKeepersModel", "fail", "(I)I"⟩, 23) := ⟨⟨by decide +kernel, by decide +kernel⟩, List.mem_of_getElem? (i := 935) (by decide +kernel), List.mem_of_getElem? (i := 1024) (by decide +kernel), List.mem_of_getElem? (i := 1025) (by decide +kernel)⟩
theorem lw_p19 : lw_okq (⟨"TwinKeepersModel", "isNext", "(II)Z"⟩, 23) := ⟨⟨by decide +kernel, by decide +kernel⟩, List.mem_of_getElem? (i := 935) (by decide +kernel), List.mem_of_getElem? (i := 1036) (by decide +kernel), List.mem_of_getElem? (i := 1037) (by decide +kernel)⟩
theorem lw_p20 : lw_okq (⟨"TwinKeepersModel", "copySession", "(II)V"⟩, 23) := ⟨⟨by decide +kernel, by decide +kernel⟩, List.mem_of_getElem? (i := 935) (by decide +kernel), List.mem_of_getElem? (i := 1041) (by decide +kernel), List.mem_of_getElem? (i := 1042) (by decide +kernel)⟩
theorem lw_p21 : lw_okq (⟨"TwinKeepersModel", "find", "(II)I"⟩, 23) := ⟨⟨by decide +kernel, by decide +kernel⟩, List.mem_of_getElem? (i := 935) (by decide +kernel), List.mem_of_getElem? (i := 1052) (by decide +kernel), List.mem_of_getElem? (i := 1053) (by decide +kernel)⟩
theorem lw_p22 : lw_okq (⟨"TwinKeepersModel", "show", "()V"⟩, 23) := ⟨⟨by decide +kernel, by decide +kernel⟩, List.mem_of_getElem? (i := 935) (by decide +kernel), List.mem_of_getElem? (i := 1056) (by decide +kernel), List.mem_of_getElem? (i := 1057) (by decide +kernel)⟩
theorem lw_p23 : lw_okq (⟨"TwinKeepersModel", "add", "(I)V"⟩, 23) := ⟨⟨by decide +kernel, by decide +kernel⟩, List.mem_of_getElem? (i := 935) (by decide +kernel), List.mem_of_getElem? (i := 1060) (by decide +kernel), List.mem_of_getElem? (i := 1061) (by decide +kernel)⟩
theorem lw_p24 : lw_okq (⟨"TwinKeepersModel", "tell", "(I)V"⟩, 23) := ⟨⟨by decide +kernel, by decide +kernel⟩, List.mem_of_getElem? (i := 935) (by decide +kernel), List.mem_of_getElem? (i := 1065) (by decide +kernel), List.mem_of_getElem? (i := 1066) (by decide +kernel)⟩
theorem lw_p25 : lw_okq (⟨"TwinKeepersModel", "seek", "(II)V"⟩, 23) := ⟨⟨by decide +kernel, by decide +kernel⟩, List.mem_of_getElem? (i := 935) (by decide +kernel), List.mem_of_getElem? (i := 1069) (by decide +kernel), List.mem_of_getElem? (i := 1070) (by decide +kernel)⟩
theorem lw_p26 : lw_okq (⟨"TwinKeepersModel", "doPut", "(III)V"⟩, 23) := ⟨⟨by decide +kernel, by decide +kernel⟩, List.mem_of_getElem? (i := 935) (by decide +kernel), List.mem_of_getElem? (i := 1073) (by decide +kernel), List.mem_of_getElem? (i := 1074) (by decide +kernel)⟩
theorem lw_p27 : lw_okq (⟨"TwinKeepersModel", "below", "(I)I"⟩, 23) := ⟨⟨by decide +kernel, by decide +kernel⟩, List.mem_of_getElem? (i := 935) (by decide +kernel), List.mem_of_getElem? (i := 1077) (by decide +kernel), List.mem_of_getElem? (i := 1078) (by decide +kernel)⟩
theorem lw_p28 : lw_okq (⟨"TwinKeepersModel", "before", "(I)Z"⟩, 23) := ⟨⟨by decide +kernel, by decide +kernel⟩, List.mem_of_getElem? (i := 935) (by decide +kernel), List.mem_of_getElem? (i := 1081) (by decide +kernel), List.mem_of_getElem? (i := 1082) (by decide +kernel)⟩
theorem lw_p29 : lw_okq (⟨"TwinKeepersModel", "isAt", "(II)Z"⟩, 23) := ⟨⟨by decide +kernel, by decide +kernel⟩, List.mem_of_getElem? (i := 935) (by decide +kernel), List.mem_of_getElem? (i := 1085) (by decide +kernel), List.mem_of_getElem? (i := 1086) (by decide +kernel)⟩
theorem lw_p30 : lw_okq (⟨"TwinKeepersModel", "tellValue", "(I)V"⟩, 23) := ⟨⟨by decide +kernel, by decide +kernel⟩, List.mem_of_getElem? (i := 935) (by decide +kernel), List.mem_of_getElem? (i := 1089) (by decide +kernel), List.mem_of_getElem? (i := 1090) (by decide +kernel)⟩
theorem lw_p31 : lw_okq (⟨"TwinKeepersModel", "valueByte", "(II)I"⟩, 23) := ⟨⟨by decide +kernel, by decide +kernel⟩, List.mem_of_getElem? (i := 935) (by decide +kernel), List.mem_of_getElem? (i := 1093) (by decide +kernel), List.mem_of_getElem? (i := 1094) (by decide +kernel)⟩
def lw_privs_2 : List (MethodName × Nat) := [(⟨"TwinKeepers$Machine", "hasSessionsOf", "(LTwinKeepers$Machine;)Z"⟩, 3), (⟨"TwinKeepers$Machine", "hasEntriesOf", "(LTwinKeepers$Machine;)Z"⟩, 3), (⟨"TwinKeepersModel", "fail", "(I)I"⟩, 23), (⟨"TwinKeepersModel", "isNext", "(II)Z"⟩, 23), (⟨"TwinKeepersModel", "copySession", "(II)V"⟩, 23), (⟨"TwinKeepersModel", "find", "(II)I"⟩, 23), (⟨"TwinKeepersModel", "show", "()V"⟩, 23), (⟨"TwinKeepersModel", "add", "(I)V"⟩, 23), (⟨"TwinKeepersModel", "tell", "(I)V"⟩, 23), (⟨"TwinKeepersModel", "seek", "(II)V"⟩, 23), (⟨"TwinKeepersModel", "doPut", "(III)V"⟩, 23), (⟨"TwinKeepersModel", "below", "(I)I"⟩, 23), (⟨"TwinKeepersModel", "before", "(I)Z"⟩, 23), (⟨"TwinKeepersModel", "isAt", "(II)Z"⟩, 23), (⟨"TwinKeepersModel", "tellValue", "(I)V"⟩, 23), (⟨"TwinKeepersModel", "valueByte", "(II)I"⟩, 23)]
theorem lw_r2 : ∀ q ∈ lw_privs_2, lw_okq q := List.forall_mem_cons.mpr ⟨lw_p16, List.forall_mem_cons.mpr ⟨lw_p17, List.forall_mem_cons.mpr ⟨lw_p18, List.forall_mem_cons.mpr ⟨lw_p19, List.forall_mem_cons.mpr ⟨lw_p20, List.forall_mem_cons.mpr ⟨lw_p21, List.forall_mem_cons.mpr ⟨lw_p22, List.forall_mem_cons.mpr ⟨lw_p23, List.forall_mem_cons.mpr ⟨lw_p24, List.forall_mem_cons.mpr ⟨lw_p25, List.forall_mem_cons.mpr ⟨lw_p26, List.forall_mem_cons.mpr ⟨lw_p27, List.forall_mem_cons.mpr ⟨lw_p28, List.forall_mem_cons.mpr ⟨lw_p29, List.forall_mem_cons.mpr ⟨lw_p30, List.forall_mem_cons.mpr ⟨lw_p31, fun _ h => absurd h List.not_mem_nil⟩⟩⟩⟩⟩⟩⟩⟩⟩⟩⟩⟩⟩⟩⟩⟩
theorem lw_p32 : lw_okq (⟨"TwinKeepersModel", "put", "(III)Z"⟩, 23) := ⟨⟨by decide +kernel, by decide +kernel⟩, List.mem_of_getElem? (i := 935) (by decide +kernel), List.mem_of_getElem? (i := 1097) (by decide +kernel), List.mem_of_getElem? (i := 1098) (by decide +kernel)⟩
theorem lw_p33 : lw_okq (⟨"TwinKeepersModel", "units", "(I)I"⟩, 23) := ⟨⟨by decide +kernel, by decide +kernel⟩, List.mem_of_getElem? (i := 935) (by decide +kernel), List.mem_of_getElem? (i := 1101) (by decide +kernel), List.mem_of_getElem? (i := 1102) (by decide +kernel)⟩
theorem lw_p34 : lw_okq (⟨"TwinKeepersModel", "copyKey", "(II)V"⟩, 23) := ⟨⟨by decide +kernel, by decide +kernel⟩, List.mem_of_getElem? (i := 935) (by decide +kernel), List.mem_of_getElem? (i := 1108) (by decide +kernel), List.mem_of_getElem? (i := 1109) (by decide +kernel)⟩
theorem lw_p35 : lw_okq (⟨"TwinKeepersModel", "setValue", "(III)V"⟩, 23) := ⟨⟨by decide +kernel, by decide +kernel⟩, List.mem_of_getElem? (i := 935) (by decide +kernel), List.mem_of_getElem? (i := 1112) (by decide +kernel), List.mem_of_getElem? (i := 1113) (by decide +kernel)⟩
theorem lw_p36 : lw_okq (⟨"TwinKeepersModel", "doSwap", "(IIII)V"⟩, 23) := ⟨⟨by decide +kernel, by decide +kernel⟩, List.mem_of_getElem? (i := 935) (by decide +kernel), List.mem_of_getElem? (i := 1116) (by decide +kernel), List.mem_of_getElem? (i := 1117) (by decide +kernel)⟩
theorem lw_p37 : lw_okq (⟨"TwinKeepersModel", "doRemove", "(I)V"⟩, 23) := ⟨⟨by decide +kernel, by decide +kernel⟩, List.mem_of_getElem? (i := 935) (by decide +kernel), List.mem_of_getElem? (i := 1120) (by decide +kernel), List.mem_of_getElem? (i := 1121) (by decide +kernel)⟩
theorem lw_p38 : lw_okq (⟨"TwinKeepersModel", "keyByte", "(II)I"⟩, 23) := ⟨⟨by decide +kernel, by decide +kernel⟩, List.mem_of_getElem? (i := 935) (by decide +kernel), List.mem_of_getElem? (i := 1128) (by decide +kernel), List.mem_of_getElem? (i := 1129) (by decide +kernel)⟩
theorem lw_p39 : lw_okq (⟨"TwinKeepersModel", "addNumber", "(II)V"⟩, 23) := ⟨⟨by decide +kernel, by decide +kernel⟩, List.mem_of_getElem? (i := 935) (by decide +kernel), List.mem_of_getElem? (i := 1136) (by decide +kernel), List.mem_of_getElem? (i := 1137) (by decide +kernel)⟩
theorem lw_p40 : lw_okq (⟨"TwinKeepersModel", "sameSession", "(II)Z"⟩, 23) := ⟨⟨by decide +kernel, by decide +kernel⟩, List.mem_of_getElem? (i := 935) (by decide +kernel), List.mem_of_getElem? (i := 1144) (by decide +kernel), List.mem_of_getElem? (i := 1145) (by decide +kernel)⟩
theorem lw_p41 : lw_okq (⟨"TwinKeepersModel", "sameKey", "(II)Z"⟩, 23) := ⟨⟨by decide +kernel, by decide +kernel⟩, List.mem_of_getElem? (i := 935) (by decide +kernel), List.mem_of_getElem? (i := 1148) (by decide +kernel), List.mem_of_getElem? (i := 1149) (by decide +kernel)⟩
theorem lw_p42 : lw_okq (⟨"TwinKeepersModel", "rowSize", "(I)I"⟩, 23) := ⟨⟨by decide +kernel, by decide +kernel⟩, List.mem_of_getElem? (i := 935) (by decide +kernel), List.mem_of_getElem? (i := 1168) (by decide +kernel), List.mem_of_getElem? (i := 1169) (by decide +kernel)⟩
def lw_privs_3 : List (MethodName × Nat) := [(⟨"TwinKeepersModel", "put", "(III)Z"⟩, 23), (⟨"TwinKeepersModel", "units", "(I)I"⟩, 23), (⟨"TwinKeepersModel", "copyKey", "(II)V"⟩, 23), (⟨"TwinKeepersModel", "setValue", "(III)V"⟩, 23), (⟨"TwinKeepersModel", "doSwap", "(IIII)V"⟩, 23), (⟨"TwinKeepersModel", "doRemove", "(I)V"⟩, 23), (⟨"TwinKeepersModel", "keyByte", "(II)I"⟩, 23), (⟨"TwinKeepersModel", "addNumber", "(II)V"⟩, 23), (⟨"TwinKeepersModel", "sameSession", "(II)Z"⟩, 23), (⟨"TwinKeepersModel", "sameKey", "(II)Z"⟩, 23), (⟨"TwinKeepersModel", "rowSize", "(I)I"⟩, 23)]
theorem lw_r3 : ∀ q ∈ lw_privs_3, lw_okq q := List.forall_mem_cons.mpr ⟨lw_p32, List.forall_mem_cons.mpr ⟨lw_p33, List.forall_mem_cons.mpr ⟨lw_p34, List.forall_mem_cons.mpr ⟨lw_p35, List.forall_mem_cons.mpr ⟨lw_p36, List.forall_mem_cons.mpr ⟨lw_p37, List.forall_mem_cons.mpr ⟨lw_p38, List.forall_mem_cons.mpr ⟨lw_p39, List.forall_mem_cons.mpr ⟨lw_p40, List.forall_mem_cons.mpr ⟨lw_p41, List.forall_mem_cons.mpr ⟨lw_p42, fun _ h => absurd h List.not_mem_nil⟩⟩⟩⟩⟩⟩⟩⟩⟩⟩⟩
def lw_privs : List (MethodName × Nat) := lw_privs_1 ++ (lw_privs_2 ++ (lw_privs_3))
def lw_tbl : List Cond := k2_sels lw_privs ++ tables_1
theorem lw_privs_ok : ∀ q ∈ lw_privs, lw_okq q := by
  show ∀ q ∈ lw_privs_1 ++ (lw_privs_2 ++ (lw_privs_3)), lw_okq q
  exact List.forall_mem_append.mpr ⟨lw_r1, List.forall_mem_append.mpr ⟨lw_r2, lw_r3⟩⟩
end
section
/-! Out of the printed names (its part on exceptions), by the words 'Bundle.' written out: throwing, catching. -/
/-- where a method has thrown q: the class by its name, the cell, what was written, the world -/
def vx_T (XC : String → State → State → Prop) (st : State) (q : Addr) (t : State) (mc ms : Nat) (free : Addr → Prop) : Prop :=
  ∃ (E : String) (ce : Cell) (L : List Loc), XC E st t ∧ t.heap[q]? = some ce ∧ ce.vm = .none ∧ st.vm.findClass E = some ce.cls ∧ st.WarmedH t.vm ∧ st.sameButNew ({ t with vm := st.vm } : State) L mc ms ∧ ∀ z ∈ L, free z.base
def vx_Q (Qc : Array Value → State → Outcome → State → Prop) (XC : String → State → State → Prop) (mc ms : Nat) (free : Addr → Prop) : Array Value → State → Outcome → State → Prop := fun a st o t =>
  (Qc a st o t ∧ ∃ L, FrameEnd st o t L mc ms ∧ ∀ q ∈ L, free q.base) ∨ ∃ q, o = .threw q ∧ vx_T XC st q t mc ms free
def vx_W (p : Program) (l : Launch) (e : Env) (R : Room) (s : State) (m : MethodId) (args : Array Value) (below : List Frame) (meth : Method) (c : Code) (H : Heap) (locs : List Loc) (cells slots : Nat) (Q : State → Prop) (g : JFrame) (q : Addr) : Prop :=
  ∀ T : State, T.heap = H → Stand p l e R s m args below meth c T locs cells slots → ∃ t, Steps p.tables e below ((T.setTop g).pushFrame (.throwing q)) t ∧ Q t
section Rows
variable {p : Program} {l : Launch} {e : Env} {R : Room} {s : State} {m : MethodId} {args : Array Value} {below : List Frame} {meth : Method} {c : Code} {H : Heap} {locs : List Loc} {cells slots : Nat} {Q : State → Prop}
variable {mc ms : Nat} {free : Addr → Prop} {A0 A1 : Nat → Prop} {H0 : Heap} {a : Array Value} {pc : Nat} {ls : Array Slot} {st0 rest : List Value}
/-- caught by the row x of this method's table; the rows ahead don't take it -/
theorem vx_catch {own name : String} {E : String} {ce : Cell} {q : Addr} (hown : s.vm.findClass own = some m.cls) (pre : List ExceptionTableEntry) (x : ExceptionTableEntry) (suf : List ExceptionTableEntry) (hsplit : c.exceptionTable.toList = pre ++ x :: suf)
    (hpass : ∀ z ∈ pre, covers z pc = false ∨ (z.catchType ≠ 0 ∧ ∃ nm : String, (Cond.classLink own z.catchType nm).before args s = true ∧ va_Nc E nm s)) (hx : covers x pc = true) (h0 : x.catchType ≠ 0)
    (hlink : (Cond.classLink own x.catchType name).before args s = true) (hcast : (Cond.castable E name).before args s = true) (hcell : H[q]? = some ce) (hv : ce.vm = .none) (hcl : s.vm.findClass E = some ce.cls)
    (kk : W p l e R s m args below meth c H locs cells slots Q (F0 m x.handlerPc ls [.ref q])) : vx_W p l e R s m args below meth c H locs cells slots Q (F0 m pc ls rest) q := by
  intro T hT X
  have hpl : e.platform.magicAccessors = ({} : Platform).magicAccessors := by rw [X.admits.platform]
  obtain ⟨c3, c4, hc3, hc4, hasg⟩ := Cond.castable_spec hcast
  cases Option.some.inj (hc3.symm.trans hcl)
  obtain ⟨c5, hc5, hcl5⟩ := Cond.classLink_spec hown hlink e.platform hpl
  cases Option.some.inj (hc4.symm.trans hc5)
  obtain ⟨vm', X', st⟩ := X.thenCaughtThrough q (g := F0 m pc ls rest) rfl (Steps.refl _) (by rw [hT]; exact hcell) (by rw [hv]; rfl) (by obtain ⟨k9, h9, -⟩ := Vm.findClass_spec hcl; exact ⟨k9, h9⟩) pre x suf hsplit
    (fun z hz => by
      rcases hpass z hz with h | ⟨hz0, nm, hl1, hn1⟩
      · exact Or.inl h
      · obtain ⟨c6, hc6, hcl6⟩ := Cond.classLink_spec hown hl1 e.platform hpl
        obtain ⟨a8, b8, h1, h2, h3⟩ := hn1
        cases Option.some.inj (h1.symm.trans hcl)
        cases Option.some.inj (h2.symm.trans hc6)
        exact Or.inr ⟨hz0, _, hcl6, h3⟩) hx (Or.inr ⟨h0, c4, hcl5, hasg⟩)
  obtain ⟨t, a1, b1⟩ := kk (T.setVm vm') hT X'
  exact ⟨t, st.trans a1, b1⟩
end Rows
section Ends
variable {p : Program} {l : Launch} {e : Env} {R : Room} {s : State} {m : MethodId} {args : Array Value} {below : List Frame} {meth : Method} {c : Code} {H : Heap} {locs : List Loc} {cells slots : Nat} {Q : State → Prop}
variable {mc ms : Nat} {free : Addr → Prop} {A0 A1 : Nat → Prop} {H0 : Heap} {a : Array Value} {ls : Array Slot} {st0 rest : List Value}
variable {Qc : Array Value → State → Outcome → State → Prop} {XC : String → State → State → Prop}
/-- what a body that may throw owes at its end -/
def vx_MQ (below : List Frame) (Qc : Array Value → State → Outcome → State → Prop) (XC : String → State → State → Prop) (a : Array Value) (s : State) (mc ms : Nat) (free : Addr → Prop) : State → Prop := fun t =>
  ∃ o, t.status = .running ∧ Ended t below o ∧ vx_Q Qc XC mc ms free a s o t
theorem vx_ret {g : JFrame} {mc ms : Nat} (k : W p l e R s m args below meth c H locs cells slots (MQ below Qc args s mc ms free) g) : W p l e R s m args below meth c H locs cells slots (vx_MQ below Qc XC args s mc ms free) g := by
  intro T hT X
  obtain ⟨t, a1, o, b1, b2, b3, b4⟩ := k T hT X
  exact ⟨t, a1, o, b1, b2, Or.inl ⟨b3, b4⟩⟩
/-- not caught here: it goes on to the caller -/
theorem vx_widen {g : JFrame} {q : Addr} {k n : Nat} (h1 : cells ≤ k) (h2 : slots ≤ n) (kk : vx_W p l e R s m args below meth c H locs k n Q g q) : vx_W p l e R s m args below meth c H locs cells slots Q g q := fun T hT X => kk T hT (stand_widen X h1 h2)
theorem vx_out {pc : Nat} {E : String} {ce : Cell} {q : Addr} {mc ms : Nat} (hout : ∀ x ∈ c.exceptionTable.toList, covers x pc = false) (hlocks : meth.locks = false) (hcell : H[q]? = some ce) (hv : ce.vm = .none) (hcl : s.vm.findClass E = some ce.cls)
    (hx : ∀ t : State, t.heap = H → s.vm.Alike t.vm → XC E s t) (hf : ∀ z ∈ locs, free z.base) (hc : cells ≤ mc) (hs : slots ≤ ms) :
    vx_W p l e R s m args below meth c H locs cells slots (vx_MQ below Qc XC args s mc ms free) (F0 m pc ls rest) q := by
  intro T hT X
  obtain ⟨st1, hrun, hend, hW, hsm⟩ := X.leaveThrown q (g := F0 m pc ls rest) rfl rfl rfl hout hlocks
  have hcell9 : (T.setFrames (.throwing q :: below)).heap[q]? = some ce := by
    show T.heap[q]? = some ce
    rw [hT]; exact hcell
  exact ⟨_, st1, .threw q, hrun, hend, Or.inr ⟨q, rfl, E, ce, locs, hx _ hT hW.alike, hcell9, hv, hcl, hW, hsm.mono hc hs, hf⟩⟩
theorem vx_frame {U : State} {k n : Nat} (h : s.sameButNew ({ U with vm := s.vm } : State) locs k n) : s.heap.size ≤ U.heap.size ∧ ∀ q : Nat, q < s.heap.size → (∀ z ∈ locs, z.base ≠ q) → U.heap[q]? = s.heap[q]? := by
  obtain ⟨-, h2, -, -, -, h6⟩ := h
  refine ⟨h2, fun q hq hz => ?_⟩
  obtain ⟨c9, e1, e2, e3, e4⟩ := h6 q _ (Array.getElem?_eq_getElem hq)
  have hs : c9.slots = (s.heap[q]).slots := Array.ext_getElem? fun i => e4 i fun hm => hz _ hm rfl
  have h9 : c9 = s.heap[q] := by
    rw [hs] at e2
    exact e2
  have e5 : U.heap[q]? = some c9 := e1
  rw [e5, h9, Array.getElem?_eq_getElem hq]
/-- the words of a throw but the four that speak of the heap -/
def vx_no (w : Cond) : Bool := decide (w ≠ .isRef (.static Bundle.tN "UNASSIGNED_STACK" Bundle.steD)) && decide (w ≠ .isRef (.static Bundle.tN "SUPPRESSED_SENTINEL" Bundle.listD)) && decide (w ≠ .laysStatic Bundle.tN "UNASSIGNED_STACK" Bundle.steD) && decide (w ≠ .laysStatic Bundle.tN "SUPPRESSED_SENTINEL" Bundle.listD)
def vx_at0 (own : String) (ic : Nat) (X : String) (names : List String) : List Cond := (Bundle.ownAtoms0 own ic X names).filter vx_no
def vx_atS (own : String) (ic : Nat) (X : String) (names : List String) : List Cond := (Bundle.ownAtoms own ic X names).filter vx_no
/-- a word that the tables alone decide, or a good one -/
def vx_ot (w : Cond) : Bool := w.onTables || goodWord w
theorem vx_ot_at {args a' : Array Value} {s U : State} {w : Cond} (hW : s.WarmedH U.vm) (hvm : s.vm = U.vm) (hg : vx_ot w = true) (h : w.before args s = true) : w.before a' U = true := by
  simp only [vx_ot, Bool.or_eq_true] at hg
  rcases hg with hg | hg
  · exact va_tabs hg hvm h
  · exact word_at hW (good_of_word hg) h
/-- a list's words: the good ones out of the method's own list, the others by premises of their own -/
theorem vx_hat {args : Array Value} {s : State} {L B : List Cond} (h1 : ∀ w ∈ L.filter goodWord, w.before args s = true) (h2 : ∀ w ∈ L.filter (fun w => !goodWord w), w ∈ B) (h3 : ∀ w ∈ B, w.before args s = true) : ∀ w ∈ L, w.before args s = true := by
  intro w hw
  by_cases g : goodWord w = true
  · exact h1 w (List.mem_filter.mpr ⟨hw, g⟩)
  · refine h3 w (h2 w (List.mem_filter.mpr ⟨hw, ?_⟩))
    show (!goodWord w) = true
    cases hgw : goodWord w
    · rfl
    · exact absurd hgw g
theorem vx_c {args : Array Value} {s : State} {w : Cond} {B : List Cond} (h : w.before args s = true) (t : ∀ w ∈ B, w.before args s = true) : ∀ w' ∈ w :: B, w'.before args s = true := fun w' h' => (List.mem_cons.mp h').elim (fun e => by rw [e]; exact h) (t w')
theorem vx_n {args : Array Value} {s : State} : ∀ w ∈ ([] : List Cond), w.before args s = true := fun _ h => nomatch h
theorem vx_own {args : Array Value} {s : State} {L : List Cond} (h1 : ∀ w ∈ L.filter vx_no, w.before args s = true)
    (hU : (Cond.isRef (.static Bundle.tN "UNASSIGNED_STACK" Bundle.steD)).before args s = true) (hN : (Cond.isRef (.static Bundle.tN "SUPPRESSED_SENTINEL" Bundle.listD)).before args s = true)
    (lU : (Cond.laysStatic Bundle.tN "UNASSIGNED_STACK" Bundle.steD).before args s = true) (lN : (Cond.laysStatic Bundle.tN "SUPPRESSED_SENTINEL" Bundle.listD).before args s = true) : ∀ w ∈ L, w.before args s = true := by
  intro w hw
  by_cases e1 : w = .isRef (.static Bundle.tN "UNASSIGNED_STACK" Bundle.steD)
  · rw [e1]; exact hU
  · by_cases e2 : w = .isRef (.static Bundle.tN "SUPPRESSED_SENTINEL" Bundle.listD)
    · rw [e2]; exact hN
    · by_cases e3 : w = .laysStatic Bundle.tN "UNASSIGNED_STACK" Bundle.steD
      · rw [e3]; exact lU
      · by_cases e4 : w = .laysStatic Bundle.tN "SUPPRESSED_SENTINEL" Bundle.listD
        · rw [e4]; exact lN
        · exact h1 w (List.mem_filter.mpr ⟨hw, by unfold vx_no; rw [decide_eq_true e1, decide_eq_true e2, decide_eq_true e3, decide_eq_true e4]; rfl⟩)
/-- where a static field lies, its class's statics cell in H -/
def vx_L (C n d : String) (A : Nat → Prop) (U : State) (H : Heap) : Prop := ∃ (c : ClassId) (k : Class) (i : Nat) (f : Field) (a : Nat) (cell : Cell), U.vm.findClass C = some c ∧ U.fieldFound? C n d = some (c, k, i, f) ∧ f.isStatic = true ∧ k.statics = some a ∧ H[a]? = some cell ∧ cell.vm.isStatics = true ∧ cell.cls = c ∧ f.slot < cell.slots.size ∧ k.staticTypes[f.slot]? = some f.type ∧ ¬ A a
theorem vx_L.moved {C n d : String} {A : Nat → Prop} {u U : State} {H : Heap} (hvm : u.vm.Alike U.vm) (h : vx_L C n d A u H) : vx_L C n d A U H := by
  obtain ⟨c, k, i, f, a, cell, h1, h2, h3, h4, h5, h6, h7, h8, h9, h10⟩ := h
  obtain ⟨k', hi', he⟩ := State.fieldFound?_setVm hvm h2
  exact ⟨c, k', i, f, a, cell, by rw [hvm.findClass]; exact h1, hi', h3, by rw [he]; exact h4, h5, h6, h7, h8, by rw [he]; exact h9, h10⟩
theorem vx_L.kept {C n d : String} {A : Nat → Prop} {U : State} {H H1 : Heap} (h : vx_L C n d A U H) (hq : ∀ a : Nat, a < H.size → ¬ A a → H1[a]? = H[a]?) : vx_L C n d A U H1 := by
  obtain ⟨c, k, i, f, a, cell, h1, h2, h3, h4, h5, h6, h7, h8, h9, h10⟩ := h
  exact ⟨c, k, i, f, a, cell, h1, h2, h3, h4, by rw [hq a (Array.getElem?_eq_some_iff.mp h5).1 h10]; exact h5, h6, h7, h8, h9, h10⟩
theorem vx_L.narrow {C n d : String} {A B : Nat → Prop} {U : State} {H : Heap} (h : vx_L C n d A U H) (hAB : ∀ q, B q → A q) : vx_L C n d B U H := by
  obtain ⟨c, k, i, f, a, cell, h1, h2, h3, h4, h5, h6, h7, h8, h9, h10⟩ := h
  exact ⟨c, k, i, f, a, cell, h1, h2, h3, h4, h5, h6, h7, h8, h9, fun z => h10 (hAB _ z)⟩
theorem vx_L.word {C n d : String} {A : Nat → Prop} {s : State} {args : Array Value} (h : vx_L C n d A s s.heap) : (Cond.laysStatic C n d).before args s = true := by
  obtain ⟨c, k, i, f, a, cell, h1, h2, h3, h4, h5, h6, h7, h8, h9, -⟩ := h
  show (Cond.laysStatic C n d).holds args s none s [] = true
  exact Cond.laysStatic_of h1 h2 h3 h4 h5 h6 h7 h8 h9
/-- .. and what it holds: null or some reference -/
def vx_Zq (C n d : String) (A : Nat → Prop) (U : State) (H : Heap) : Prop := va_Zq C n d A U H ∧ vx_L C n d A U H
theorem vx_Zq.moved {C n d : String} {A : Nat → Prop} {u U : State} {H : Heap} (hvm : u.vm.Alike U.vm) (h : vx_Zq C n d A u H) : vx_Zq C n d A U H := ⟨va_Zq.moved hvm h.1, vx_L.moved hvm h.2⟩
theorem vx_Zq.kept {C n d : String} {A : Nat → Prop} {U : State} {H H1 : Heap} (h : vx_Zq C n d A U H) (hq : ∀ a : Nat, a < H.size → ¬ A a → H1[a]? = H[a]?) : vx_Zq C n d A U H1 := ⟨va_Zq.kept h.1 hq, vx_L.kept h.2 hq⟩
theorem vx_Zq.narrow {C n d : String} {A B : Nat → Prop} {U : State} {H : Heap} (h : vx_Zq C n d A U H) (hAB : ∀ q, B q → A q) : vx_Zq C n d B U H := ⟨va_Zq.narrow h.1 hAB, vx_L.narrow h.2 hAB⟩
theorem vx_Zqof {args : Array Value} {s : State} {C n d : String} {A : Nat → Prop} (hl : (Cond.laysStatic C n d).before args s = true) (hini : (Cond.initialized C).before args s = true) (h : (Cond.isRef (.static C n d)).before args s = true) (hA : ∀ a : Nat, a < s.heap.size → ¬ A a) : vx_Zq C n d A s s.heap := by
  refine ⟨va_Zqof hl hini h hA, ?_⟩
  obtain ⟨c, k, i, f, a, cell, h1, h2, h3, h4, h5, h6, h7, h8, h9⟩ := Cond.laysStatic_spec hl
  exact ⟨c, k, i, f, a, cell, h1, h2, h3, h4, h5, h6, h7, h8, h9, hA a (Array.getElem?_eq_some_iff.mp h5).1⟩
theorem vx_isRef {C n d : String} {v : Value} {A : Nat → Prop} {s : State} {args : Array Value} (h : va_Z C n d v A s s.heap) (hv : v.isRef = true) : (Cond.isRef (.static C n d)).before args s = true := by
  obtain ⟨cf, kf, fi, f, a, cell, h1, h2, h3, h4, h5, h6, h7, -⟩ := h
  have he : (Term.static C n d).eval args s none [] s = some v := by
    simp [Term.eval, State.fieldNamed?, h1, h2, h4, h5, h6, h7]
  simp only [Cond.before, Cond.holds, Cond.value, he]
  cases v <;> simp_all [Value.isRef]
theorem vx_isRefq {C n d : String} {A : Nat → Prop} {s : State} {args : Array Value} (h : va_Zq C n d A s s.heap) : (Cond.isRef (.static C n d)).before args s = true := by
  rcases h with h | ⟨t, h⟩
  · exact vx_isRef h rfl
  · exact vx_isRef h rfl
/-- the same frame, seen from here: as if the method were called anew in this heap -/
theorem vx_rebase {T : State} (X : Stand p l e R s m args below meth c T locs cells slots) {R' : Room} (hf : R'.frames ≤ R.frames) (hl : R'.locals ≤ R.locals) (hc : cells + R'.cells ≤ R.cells) (hs : slots + R'.slots ≤ R.slots) :
    Stand p l e R' ((T.setVm s.vm).setFrames (.invoking m args :: below)) m args below meth c T [] 0 0 := by
  have htop : (T.setVm s.vm).topJava?.isSome := X.here.top
  have hF : ((T.setVm s.vm).setFrames (.invoking m args :: below)).frames = .invoking m args :: below := State.frames_setFrames _ (State.cur_lt_of_top htop)
  obtain ⟨g₀, hg0⟩ := Option.isSome_iff_exists.mp htop
  obtain ⟨r, hr⟩ := State.topJava?_eq_some.mp hg0
  have hl9 : e.platform.stackLimits (T.setVm s.vm).me = e.platform.stackLimits s.me := X.limits
  have hb9 : (T.setVm s.vm).me.stackBytes = s.me.stackBytes := X.bytes
  refine ⟨X.admits, X.cas, X.clock, hF, ?_, X.hears, X.method, X.code, X.here, X.tail, X.warmed, ?_, ?_, ?_⟩
  · have h := X.room
    have hU : ((T.setVm s.vm).setFrames (.invoking m args :: below)).localsInUse = s.localsInUse := by
      rw [State.localsInUse_invoking hF (meth := meth) (c := c) X.method X.code, State.localsInUse_invoking X.frames X.method X.code]
    simp only [State.hasRoom, Bool.and_eq_true, decide_eq_true_eq] at h ⊢
    obtain ⟨⟨⟨⟨h1, h2, h3, h4, h5, h6⟩, h7⟩, h8⟩, h9⟩ := h
    rw [X.frames, List.length_cons] at h2 h3
    have q1 := X.heapSize
    have q2 := X.used
    simp only [hF, hU, List.length_cons, State.stackLimits_setFrames, State.stackBytes_setFrames, hl9, hb9]
    refine ⟨⟨⟨⟨by omega, by omega, by omega, by omega, by omega, h6⟩, ?_⟩, ?_⟩, X.book⟩
    · show T.heap.size + R'.cells ≤ e.platform.maxCells
      omega
    · show T.slotsUsed + R'.slots ≤ e.platform.maxSlots
      omega
  · rw [State.stackLimits_setFrames]; rfl
  · rw [State.stackBytes_setFrames]; rfl
  · refine ⟨?_, Nat.le_refl _, Nat.le_refl _, ?_, ?_, fun a c9 h9 => ⟨c9, h9, rfl, rfl, fun _ _ => rfl⟩⟩
    · obtain ⟨t, ht, -⟩ := State.frames_cons hr
      show T.setVm s.vm = { ((T.setVm s.vm).setFrames (.invoking m args :: below)).setFrames (T.setVm s.vm).frames with heap := T.heap, slotsUsed := T.slotsUsed }
      rw [State.setFrames_setFrames, State.setFrames_self ht]
      rfl
    · show T.slotsUsed = T.slotsUsed + ((T.heap.toList.drop T.heap.size).map (·.slots.size)).sum
      rw [List.drop_eq_nil_of_le (Nat.le_of_eq Array.length_toList)]
      rfl
    · show ((T.heap.toList.drop T.heap.size).map (·.slots.size)).sum ≤ 0
      rw [List.drop_eq_nil_of_le (Nat.le_of_eq Array.length_toList)]
      exact Nat.le_refl _
/-- 'throw new E()': new; dup; invokespecial; athrow -/
theorem vx_throw0 {cc : ByteArray} {pc : Nat} (hexec : p.tables.exec = Jvm.exec) (hb : c.code = cc) (hl : l.stackTraces = false) {own cls : String} {names : List String} {ik ic mc ms : Nat} {A : Nat → Prop}
    (hown : s.vm.findClass own = some m.cls) (hcls : Bundle.fit cls = true) (hnames : ∀ n ∈ names, Bundle.fit n = true)
    (hk : (Cond.classLink own ik cls).before args s = true) (hini : (Cond.initialized cls).before args s = true) (hat : ∀ w ∈ vx_at0 own ic cls names, w.before args s = true)
    (hgood : ∀ w ∈ Cond.classLink own ik cls :: Cond.initialized cls :: vx_at0 own ic cls names, vx_ot w = true)
    (hU : vx_Zq Bundle.tN "UNASSIGNED_STACK" Bundle.steD A s s.heap) (hN : vx_Zq Bundle.tN "SUPPRESSED_SENTINEL" Bundle.listD A s s.heap) (hS : va_S A s.heap H locs) (hsize : ls.size = c.maxLocals)
    (d0 : decode cc pc = .ok (.new ik, 3)) (d3 : decode cc (pc + 3) = .ok (.dup, 1)) (d4 : decode cc (pc + 4) = .ok (.invokespecial ic, 3)) (d7 : decode cc (pc + 7) = .ok (.athrow, 1))
    (hout : ∀ x ∈ c.exceptionTable.toList, covers x (pc + 7) = false)
    (hRframes : names.length + 3 < R.frames) (hRlocals : (rest.map fun v => v.category).sum + (13 * (names.length + 1) + 42) ≤ R.locals) (hRcells : cells + 1 ≤ R.cells) (hRslots : slots + 6 ≤ R.slots) (hlocks : meth.locks = false)
    (hx : ∀ t : State, s.vm.Alike t.vm → H.size ≤ t.heap.size → (∀ q : Nat, q < H.size → t.heap[q]? = H[q]?) → XC cls s t)
    (hf : ∀ z ∈ locs, free z.base) (hc : cells + 1 ≤ mc) (hs : slots + 6 ≤ ms) :
    W p l e R s m args below meth c H locs cells slots (vx_MQ below Qc XC args s mc ms free) (F0 m pc ls rest) := by
  intro T hT X
  have htr : e.platform.stackTraces = false := (show e.platform.stackTraces = l.stackTraces by rw [X.admits.platform]).trans hl
  have Y := vx_rebase X (R' := { frames := R.frames, locals := R.locals, cells := 1, slots := 6 }) (Nat.le_refl _) (Nat.le_refl _) hRcells hRslots
  obtain ⟨s', hA⟩ : ∃ z, z = (T.setVm s.vm).setFrames (.invoking m args :: below) := ⟨_, rfl⟩
  rw [← hA] at Y
  have hvm : s'.vm = s.vm := by rw [hA]; rfl
  have hhp : s'.heap = H := by rw [hA]; exact hT
  have hW0 : s.WarmedH s'.vm := by rw [hvm]; exact State.WarmedH.refl s
  have hat' : ∀ w ∈ vx_at0 own ic cls names, w.before args s' = true := fun w hw => vx_ot_at hW0 hvm.symm (hgood w (List.mem_cons_of_mem _ (List.mem_cons_of_mem _ hw))) (hat w hw)
  have hk' : (Cond.classLink own ik cls).before args s' = true := vx_ot_at hW0 hvm.symm (hgood _ List.mem_cons_self) hk
  have hini' : (Cond.initialized cls).before args s' = true := vx_ot_at hW0 hvm.symm (hgood _ (List.mem_cons_of_mem _ List.mem_cons_self)) hini
  have hU' : vx_Zq Bundle.tN "UNASSIGNED_STACK" Bundle.steD A s' s'.heap := by rw [hhp]; exact vx_Zq.moved hW0.alike (hU.kept hS.2.1)
  have hN' : vx_Zq Bundle.tN "SUPPRESSED_SENTINEL" Bundle.listD A s' s'.heap := by rw [hhp]; exact vx_Zq.moved hW0.alike (hN.kept hS.2.1)
  have h : ∀ w ∈ Bundle.ownAtoms0 own ic cls names, w.before args s' = true := vx_own hat' (vx_isRefq hU'.1) (vx_isRefq hN'.1) hU'.2.word hN'.2.word
  have hown' : s'.vm.findClass own = some m.cls := by rw [hvm]; exact hown
  have hins : (Cond.instantiable cls 6).before args s' = true := h _ (by simp [Bundle.ownAtoms0])
  obtain ⟨vm₁, cX, kX, hfX, hkX, -, -, X₁, st1⟩ := Y.newCold hexec (own := own) (C := cls) (index := ik) (n := 6) hown' hk' hins hini'
    (g := F0 m pc ls rest) rfl (by rw [hb]; exact d0) (Nat.le_refl _) (Nat.le_refl _)
  generalize hT1 : (T.setVm vm₁).pushCell { cls := cX, slots := kX.instanceTypes.map defaultValue, vm := .none } = T1 at X₁ st1
  have hcat : (Value.ref T.heap.size).category = 1 := rfl
  have hcellA : T1.heap[T.heap.size]? = some (freshCell cX kX) := by rw [← hT1]; exact State.heap_pushCell_size _ _
  have d3' : decode c.code (pc + 3) = .ok (.dup, 1) := by rw [hb]; exact d3
  obtain ⟨U, hsteps, hrun, hend, hW, hsame, ce, hce, hO⟩ := X₁.ctorThrow0 hexec htr (own := own) (cls := cls) (names := names) (ic := ic) hown' hcls hnames h (fun x hx => nomatch hx) hfX hkX hcellA (by rw [hhp, hT]; exact Nat.le_refl _)
    (g := { method := m, pc := pc + 4, locals := ls, stack := .ref T.heap.size :: .ref T.heap.size :: rest, locked := none }) rfl hsize rfl rfl (rest := rest) rfl
    (by rw [hb]; exact d4) (by rw [hb]; exact d7) hout hRframes (by simp only [List.map_cons, List.sum_cons, hcat]; omega) hlocks
  obtain ⟨f1, f2⟩ := vx_frame hsame
  rw [hhp] at f1 f2
  have hWs : s.WarmedH U.vm := State.WarmedH.trans hW0 hW
  have hcl : s.vm.findClass cls = some ce.cls := by
    have h9 := hO.cls
    rw [hvm] at h9
    exact h9
  have hall : s.sameButNew ({ U with vm := s.vm } : State) locs mc ms := by
    subst hA
    obtain ⟨e1, e2⟩ := hsame
    rw [State.setFrames_setFrames] at e1
    have h2 : (T.setVm s.vm).sameButNew ({ U with vm := s.vm } : State) [] (0 + 1) (0 + 6) := ⟨e1, e2⟩
    have h3 := X.same.trans h2
    rw [List.append_nil] at h3
    exact h3.mono hc hs
  refine ⟨U, ?_, .threw T.heap.size, hrun, hend, Or.inr ⟨T.heap.size, rfl, cls, ce, locs, hx U hWs.alike f1 (fun q hq => f2 q hq (fun z hz => nomatch hz)), hce, hO.vm, hcl, hWs, hall, hf⟩⟩
  refine st1 _ ?_
  show Steps p.tables e below (T1.setTop { method := m, pc := pc + 3, locals := ls, stack := .ref T.heap.size :: rest, locked := none }) _
  jvm_step X₁.here [X₁.here.top, hexec, d3', Value.category]
  exact hsteps
/-- 'throw new E("text")': new; dup; ldc; invokespecial; athrow -/
theorem vx_throwS {cc : ByteArray} {pc : Nat} (hexec : p.tables.exec = Jvm.exec) (hb : c.code = cc) (hl : l.stackTraces = false) {own cls text : String} {names : List String} {ik is ic mc ms sa : Nat} {A : Nat → Prop}
    (hown : s.vm.findClass own = some m.cls) (hcls : Bundle.fit cls = true) (hnames : ∀ n ∈ names, Bundle.fit n = true)
    (hk : (Cond.classLink own ik cls).before args s = true) (hini : (Cond.initialized cls).before args s = true) (hstr : vk_R own is text sa s) (hat : ∀ w ∈ vx_atS own ic cls names, w.before args s = true)
    (hgood : ∀ w ∈ Cond.classLink own ik cls :: Cond.initialized cls :: vx_atS own ic cls names, vx_ot w = true)
    (hU : vx_Zq Bundle.tN "UNASSIGNED_STACK" Bundle.steD A s s.heap) (hN : vx_Zq Bundle.tN "SUPPRESSED_SENTINEL" Bundle.listD A s s.heap) (hS : va_S A s.heap H locs) (hsize : ls.size = c.maxLocals)
    (d0 : decode cc pc = .ok (.new ik, 3)) (d3 : decode cc (pc + 3) = .ok (.dup, 1)) (d4 : decode cc (pc + 4) = .ok (.ldc is, 2)) (d6 : decode cc (pc + 6) = .ok (.invokespecial ic, 3)) (d9 : decode cc (pc + 9) = .ok (.athrow, 1))
    (hout : ∀ x ∈ c.exceptionTable.toList, covers x (pc + 9) = false)
    (hRframes : names.length + 3 < R.frames) (hRlocals : (rest.map fun v => v.category).sum + (13 * (names.length + 1) + 43) ≤ R.locals) (hRcells : cells + 1 ≤ R.cells) (hRslots : slots + 6 ≤ R.slots) (hlocks : meth.locks = false)
    (hx : ∀ t : State, s.vm.Alike t.vm → H.size ≤ t.heap.size → (∀ q : Nat, q < H.size → t.heap[q]? = H[q]?) → XC cls s t)
    (hf : ∀ z ∈ locs, free z.base) (hc : cells + 1 ≤ mc) (hs : slots + 6 ≤ ms) :
    W p l e R s m args below meth c H locs cells slots (vx_MQ below Qc XC args s mc ms free) (F0 m pc ls rest) := by
  intro T hT X
  have htr : e.platform.stackTraces = false := (show e.platform.stackTraces = l.stackTraces by rw [X.admits.platform]).trans hl
  have Y := vx_rebase X (R' := { frames := R.frames, locals := R.locals, cells := 1, slots := 6 }) (Nat.le_refl _) (Nat.le_refl _) hRcells hRslots
  obtain ⟨s', hA⟩ : ∃ z, z = (T.setVm s.vm).setFrames (.invoking m args :: below) := ⟨_, rfl⟩
  rw [← hA] at Y
  have hvm : s'.vm = s.vm := by rw [hA]; rfl
  have hhp : s'.heap = H := by rw [hA]; exact hT
  have hW0 : s.WarmedH s'.vm := by rw [hvm]; exact State.WarmedH.refl s
  have hat' : ∀ w ∈ vx_atS own ic cls names, w.before args s' = true := fun w hw => vx_ot_at hW0 hvm.symm (hgood w (List.mem_cons_of_mem _ (List.mem_cons_of_mem _ hw))) (hat w hw)
  have hk' : (Cond.classLink own ik cls).before args s' = true := vx_ot_at hW0 hvm.symm (hgood _ List.mem_cons_self) hk
  have hini' : (Cond.initialized cls).before args s' = true := vx_ot_at hW0 hvm.symm (hgood _ (List.mem_cons_of_mem _ List.mem_cons_self)) hini
  have hU' : vx_Zq Bundle.tN "UNASSIGNED_STACK" Bundle.steD A s' s'.heap := by rw [hhp]; exact vx_Zq.moved hW0.alike (hU.kept hS.2.1)
  have hN' : vx_Zq Bundle.tN "SUPPRESSED_SENTINEL" Bundle.listD A s' s'.heap := by rw [hhp]; exact vx_Zq.moved hW0.alike (hN.kept hS.2.1)
  have h : ∀ w ∈ Bundle.ownAtoms own ic cls names, w.before args s' = true := vx_own hat' (vx_isRefq hU'.1) (vx_isRefq hN'.1) hU'.2.word hN'.2.word
  have hown' : s'.vm.findClass own = some m.cls := by rw [hvm]; exact hown
  have hins : (Cond.instantiable cls 6).before args s' = true := h _ (by simp [Bundle.ownAtoms])
  obtain ⟨vm₁, cX, kX, hfX, hkX, -, -, X₁, st1⟩ := Y.newCold hexec (own := own) (C := cls) (index := ik) (n := 6) hown' hk' hins hini'
    (g := F0 m pc ls rest) rfl (by rw [hb]; exact d0) (Nat.le_refl _) (Nat.le_refl _)
  generalize hT1 : (T.setVm vm₁).pushCell { cls := cX, slots := kX.instanceTypes.map defaultValue, vm := .none } = T1 at X₁ st1
  have hcat : (Value.ref T.heap.size).category = 1 := rfl
  have hcellA : T1.heap[T.heap.size]? = some (freshCell cX kX) := by rw [← hT1]; exact State.heap_pushCell_size _ _
  have d3' : decode c.code (pc + 3) = .ok (.dup, 1) := by rw [hb]; exact d3
  have d4' : decode c.code (pc + 4) = .ok (.ldc is, 2) := by rw [hb]; exact d4
  have hstr' : vk_R own is text sa s' := vk_R.warm hW0 hstr
  obtain ⟨U, hsteps, hrun, hend, hW, hsame, ce, hce, hO⟩ := X₁.ctorThrowS hexec htr (own := own) (cls := cls) (names := names) (ic := ic) hown' hcls hnames h (fun x hx => nomatch hx) hfX hkX hcellA (by rw [hhp, hT]; exact Nat.le_refl _) (msg := .ref sa) rfl
    (g := { method := m, pc := pc + 6, locals := ls, stack := .ref sa :: .ref T.heap.size :: .ref T.heap.size :: rest, locked := none }) rfl hsize rfl rfl (rest := rest) rfl
    (by rw [hb]; exact d6) (by rw [hb]; exact d9) hout hRframes (by simp only [List.map_cons, List.sum_cons, hcat]; omega) hlocks
  obtain ⟨f1, f2⟩ := vx_frame hsame
  rw [hhp] at f1 f2
  have hWs : s.WarmedH U.vm := State.WarmedH.trans hW0 hW
  have hcl : s.vm.findClass cls = some ce.cls := by
    have h9 := hO.cls
    rw [hvm] at h9
    exact h9
  have hall : s.sameButNew ({ U with vm := s.vm } : State) locs mc ms := by
    subst hA
    obtain ⟨e1, e2⟩ := hsame
    rw [State.setFrames_setFrames] at e1
    have h2 : (T.setVm s.vm).sameButNew ({ U with vm := s.vm } : State) [] (0 + 1) (0 + 6) := ⟨e1, e2⟩
    have h3 := X.same.trans h2
    rw [List.append_nil] at h3
    exact h3.mono hc hs
  refine ⟨U, ?_, .threw T.heap.size, hrun, hend, Or.inr ⟨T.heap.size, rfl, cls, ce, locs, hx U hWs.alike f1 (fun q hq => f2 q hq (fun z hz => nomatch hz)), hce, hO.vm, hcl, hWs, hall, hf⟩⟩
  refine st1 _ ?_
  show Steps p.tables e below (T1.setTop { method := m, pc := pc + 3, locals := ls, stack := .ref T.heap.size :: rest, locked := none }) _
  jvm_step X₁.here [X₁.here.top, hexec, d3', Value.category]
  exact X₁.ldcString hexec (own := own) (text := text) (index := is) (a := sa) hown' hstr'.1 hstr'.2
    (g := { method := m, pc := pc + 4, locals := ls, stack := .ref T.heap.size :: .ref T.heap.size :: rest, locked := none }) rfl d4' _ hsteps
/-- 'throw new E("text")', the text by a wide index -/
theorem vx_throwSW {cc : ByteArray} {pc : Nat} (hexec : p.tables.exec = Jvm.exec) (hb : c.code = cc) (hl : l.stackTraces = false) {own cls text : String} {names : List String} {ik is ic mc ms sa : Nat} {A : Nat → Prop}
    (hown : s.vm.findClass own = some m.cls) (hcls : Bundle.fit cls = true) (hnames : ∀ n ∈ names, Bundle.fit n = true)
    (hk : (Cond.classLink own ik cls).before args s = true) (hini : (Cond.initialized cls).before args s = true) (hstr : vk_R own is text sa s) (hat : ∀ w ∈ vx_atS own ic cls names, w.before args s = true)
    (hgood : ∀ w ∈ Cond.classLink own ik cls :: Cond.initialized cls :: vx_atS own ic cls names, vx_ot w = true)
    (hU : vx_Zq Bundle.tN "UNASSIGNED_STACK" Bundle.steD A s s.heap) (hN : vx_Zq Bundle.tN "SUPPRESSED_SENTINEL" Bundle.listD A s s.heap) (hS : va_S A s.heap H locs) (hsize : ls.size = c.maxLocals)
    (d0 : decode cc pc = .ok (.new ik, 3)) (d3 : decode cc (pc + 3) = .ok (.dup, 1)) (d4 : decode cc (pc + 4) = .ok (.ldc_w is, 3)) (d7 : decode cc (pc + 7) = .ok (.invokespecial ic, 3)) (d10 : decode cc (pc + 10) = .ok (.athrow, 1))
    (hout : ∀ x ∈ c.exceptionTable.toList, covers x (pc + 10) = false)
    (hRframes : names.length + 3 < R.frames) (hRlocals : (rest.map fun v => v.category).sum + (13 * (names.length + 1) + 43) ≤ R.locals) (hRcells : cells + 1 ≤ R.cells) (hRslots : slots + 6 ≤ R.slots) (hlocks : meth.locks = false)
    (hx : ∀ t : State, s.vm.Alike t.vm → H.size ≤ t.heap.size → (∀ q : Nat, q < H.size → t.heap[q]? = H[q]?) → XC cls s t)
    (hf : ∀ z ∈ locs, free z.base) (hc : cells + 1 ≤ mc) (hs : slots + 6 ≤ ms) :
    W p l e R s m args below meth c H locs cells slots (vx_MQ below Qc XC args s mc ms free) (F0 m pc ls rest) := by
  intro T hT X
  have htr : e.platform.stackTraces = false := (show e.platform.stackTraces = l.stackTraces by rw [X.admits.platform]).trans hl
  have Y := vx_rebase X (R' := { frames := R.frames, locals := R.locals, cells := 1, slots := 6 }) (Nat.le_refl _) (Nat.le_refl _) hRcells hRslots
  obtain ⟨s', hA⟩ : ∃ z, z = (T.setVm s.vm).setFrames (.invoking m args :: below) := ⟨_, rfl⟩
  rw [← hA] at Y
  have hvm : s'.vm = s.vm := by rw [hA]; rfl
  have hhp : s'.heap = H := by rw [hA]; exact hT
  have hW0 : s.WarmedH s'.vm := by rw [hvm]; exact State.WarmedH.refl s
  have hat' : ∀ w ∈ vx_atS own ic cls names, w.before args s' = true := fun w hw => vx_ot_at hW0 hvm.symm (hgood w (List.mem_cons_of_mem _ (List.mem_cons_of_mem _ hw))) (hat w hw)
  have hk' : (Cond.classLink own ik cls).before args s' = true := vx_ot_at hW0 hvm.symm (hgood _ List.mem_cons_self) hk
  have hini' : (Cond.initialized cls).before args s' = true := vx_ot_at hW0 hvm.symm (hgood _ (List.mem_cons_of_mem _ List.mem_cons_self)) hini
  have hU' : vx_Zq Bundle.tN "UNASSIGNED_STACK" Bundle.steD A s' s'.heap := by rw [hhp]; exact vx_Zq.moved hW0.alike (hU.kept hS.2.1)
  have hN' : vx_Zq Bundle.tN "SUPPRESSED_SENTINEL" Bundle.listD A s' s'.heap := by rw [hhp]; exact vx_Zq.moved hW0.alike (hN.kept hS.2.1)
  have h : ∀ w ∈ Bundle.ownAtoms own ic cls names, w.before args s' = true := vx_own hat' (vx_isRefq hU'.1) (vx_isRefq hN'.1) hU'.2.word hN'.2.word
  have hown' : s'.vm.findClass own = some m.cls := by rw [hvm]; exact hown
  have hins : (Cond.instantiable cls 6).before args s' = true := h _ (by simp [Bundle.ownAtoms])
  obtain ⟨vm₁, cX, kX, hfX, hkX, -, -, X₁, st1⟩ := Y.newCold hexec (own := own) (C := cls) (index := ik) (n := 6) hown' hk' hins hini'
    (g := F0 m pc ls rest) rfl (by rw [hb]; exact d0) (Nat.le_refl _) (Nat.le_refl _)
  generalize hT1 : (T.setVm vm₁).pushCell { cls := cX, slots := kX.instanceTypes.map defaultValue, vm := .none } = T1 at X₁ st1
  have hcat : (Value.ref T.heap.size).category = 1 := rfl
  have hcellA : T1.heap[T.heap.size]? = some (freshCell cX kX) := by rw [← hT1]; exact State.heap_pushCell_size _ _
  have d3' : decode c.code (pc + 3) = .ok (.dup, 1) := by rw [hb]; exact d3
  have d4' : decode c.code (pc + 4) = .ok (.ldc_w is, 3) := by rw [hb]; exact d4
  have hstr' : vk_R own is text sa s' := vk_R.warm hW0 hstr
  obtain ⟨U, hsteps, hrun, hend, hW, hsame, ce, hce, hO⟩ := X₁.ctorThrowS hexec htr (own := own) (cls := cls) (names := names) (ic := ic) hown' hcls hnames h (fun x hx => nomatch hx) hfX hkX hcellA (by rw [hhp, hT]; exact Nat.le_refl _) (msg := .ref sa) rfl
    (g := { method := m, pc := pc + 7, locals := ls, stack := .ref sa :: .ref T.heap.size :: .ref T.heap.size :: rest, locked := none }) rfl hsize rfl rfl (rest := rest) rfl
    (by rw [hb]; exact d7) (by rw [hb]; exact d10) hout hRframes (by simp only [List.map_cons, List.sum_cons, hcat]; omega) hlocks
  obtain ⟨f1, f2⟩ := vx_frame hsame
  rw [hhp] at f1 f2
  have hWs : s.WarmedH U.vm := State.WarmedH.trans hW0 hW
  have hcl : s.vm.findClass cls = some ce.cls := by
    have h9 := hO.cls
    rw [hvm] at h9
    exact h9
  have hall : s.sameButNew ({ U with vm := s.vm } : State) locs mc ms := by
    subst hA
    obtain ⟨e1, e2⟩ := hsame
    rw [State.setFrames_setFrames] at e1
    have h2 : (T.setVm s.vm).sameButNew ({ U with vm := s.vm } : State) [] (0 + 1) (0 + 6) := ⟨e1, e2⟩
    have h3 := X.same.trans h2
    rw [List.append_nil] at h3
    exact h3.mono hc hs
  refine ⟨U, ?_, .threw T.heap.size, hrun, hend, Or.inr ⟨T.heap.size, rfl, cls, ce, locs, hx U hWs.alike f1 (fun q hq => f2 q hq (fun z hz => nomatch hz)), hce, hO.vm, hcl, hWs, hall, hf⟩⟩
  refine st1 _ ?_
  show Steps p.tables e below (T1.setTop { method := m, pc := pc + 3, locals := ls, stack := .ref T.heap.size :: rest, locked := none }) _
  jvm_step X₁.here [X₁.here.top, hexec, d3', Value.category]
  exact X₁.ldcStringW hexec (own := own) (text := text) (index := is) (a := sa) hown' hstr'.1 hstr'.2
    (g := { method := m, pc := pc + 4, locals := ls, stack := .ref T.heap.size :: .ref T.heap.size :: rest, locked := none }) rfl d4' _ hsteps
end Ends
end
section
/-! Names: the classes whose objects the worlds hold, by their numbers in xcl; the words of the tables. -/
def R_TK : String := "TwinKeepers"
def F_TK : u_T := fun k => match k with
  | 0 => ("TwinKeepers", "first", "LTwinKeepers$Machine;", true)
  | 1 => ("TwinKeepers", "second", "LTwinKeepers$Machine;", true)
  | 2 => ("TwinKeepers", "tape", "[B", true)
  | 3 => ("TwinKeepers", "result", "LTwinKeepers$Row;", true)
  | 4 => ("TwinKeepers", "tapeSize", "I", false)
  | _ => ("TwinKeepers", "latestPlace", "I", false)
def t_TK : Nat → FieldType := fun k => match k with
  | 0 => .object "TwinKeepers$Machine"
  | 1 => .object "TwinKeepers$Machine"
  | 2 => .array .byte
  | 3 => .object "TwinKeepers$Row"
  | 4 => .int
  | _ => .int
def R_Ma : String := "TwinKeepers$Machine"
def F_Ma : u_T := fun k => match k with
  | 0 => ("TwinKeepers$Machine", "sessions", "Ljava/util/ArrayList;", true)
  | 1 => ("TwinKeepers$Machine", "map", "LTwinKeepers$KeyMap;", true)
  | _ => ("TwinKeepers$Machine", "greatestPlace", "I", false)
def t_Ma : Nat → FieldType := fun k => match k with
  | 0 => .object "java/util/ArrayList"
  | 1 => .object "TwinKeepers$KeyMap"
  | _ => .int
def R_KM : String := "TwinKeepers$KeyMap"
def F_KM : u_T := fun k => match k with
  | 0 => ("TwinKeepers$KeyMap", "entries", "Ljava/util/ArrayList;", true)
  | _ => ("TwinKeepers$KeyMap", "units", "I", false)
def t_KM : Nat → FieldType := fun k => match k with
  | 0 => .object "java/util/ArrayList"
  | _ => .int
def R_Ro : String := "TwinKeepers$Row"
def F_Ro : u_T := fun k => match k with
  | 0 => ("TwinKeepers$Row", "bytes", "[B", false)
  | _ => ("TwinKeepers$Row", "size", "I", false)
def t_Ro : Nat → FieldType := fun k => match k with
  | 0 => .array .byte
  | _ => .int
def R_Se : String := "TwinKeepers$Session"
def F_Se : u_T := fun k => match k with
  | 0 => ("TwinKeepers$Session", "number", "I", true)
  | 1 => ("TwinKeepers$Session", "used", "I", true)
  | 2 => ("TwinKeepers$Session", "serial", "I", true)
  | 3 => ("TwinKeepers$Session", "answerPlace", "I", true)
  | _ => ("TwinKeepers$Session", "answer", "[B", true)
def t_Se : Nat → FieldType := fun k => match k with
  | 0 => .int
  | 1 => .int
  | 2 => .int
  | 3 => .int
  | _ => .array .byte
def R_En : String := "TwinKeepers$Entry"
def F_En : u_T := fun k => match k with
  | 0 => ("TwinKeepers$Entry", "key", "[B", true)
  | _ => ("TwinKeepers$Entry", "value", "[B", true)
def t_En : Nat → FieldType := fun k => match k with
  | 0 => .array .byte
  | _ => .array .byte
def R_Mo : String := "TwinKeepersModel"
def F_Mo : u_T := fun k => match k with
  | 0 => ("TwinKeepersModel", "thrown", "I", false)
  | 1 => ("TwinKeepersModel", "many", "[I", true)
  | 2 => ("TwinKeepersModel", "numbers", "[I", true)
  | 3 => ("TwinKeepersModel", "used", "[I", true)
  | 4 => ("TwinKeepersModel", "serials", "[I", true)
  | 5 => ("TwinKeepersModel", "places", "[I", true)
  | 6 => ("TwinKeepersModel", "answerSizes", "[I", true)
  | 7 => ("TwinKeepersModel", "answers", "[I", true)
  | 8 => ("TwinKeepersModel", "keys", "[I", true)
  | 9 => ("TwinKeepersModel", "keySizes", "[I", true)
  | 10 => ("TwinKeepersModel", "keyRows", "[J", true)
  | 11 => ("TwinKeepersModel", "valueSizes", "[I", true)
  | 12 => ("TwinKeepersModel", "values", "[J", true)
  | 13 => ("TwinKeepersModel", "highest", "[I", true)
  | 14 => ("TwinKeepersModel", "tape", "I", false)
  | 15 => ("TwinKeepersModel", "fed", "[I", true)
  | 16 => ("TwinKeepersModel", "soughtSize", "I", false)
  | 17 => ("TwinKeepersModel", "sought", "[J", true)
  | 18 => ("TwinKeepersModel", "told", "I", false)
  | 19 => ("TwinKeepersModel", "tells", "[I", true)
  | 20 => ("TwinKeepersModel", "place", "I", false)
  | 21 => ("TwinKeepersModel", "size", "I", false)
  | _ => ("TwinKeepersModel", "result", "[J", true)
def t_Mo : Nat → FieldType := fun k => match k with
  | 0 => .int
  | 1 => .array .int
  | 2 => .array .int
  | 3 => .array .int
  | 4 => .array .int
  | 5 => .array .int
  | 6 => .array .int
  | 7 => .array .int
  | 8 => .array .int
  | 9 => .array .int
  | 10 => .array .long
  | 11 => .array .int
  | 12 => .array .long
  | 13 => .array .int
  | 14 => .int
  | 15 => .array .int
  | 16 => .int
  | 17 => .array .long
  | 18 => .int
  | 19 => .array .int
  | 20 => .int
  | 21 => .int
  | _ => .array .long
def R_AL : String := "java/util/ArrayList"
def F_AL : u_T := fun k => match k with
  | 0 => ("java/util/AbstractList", "modCount", "I", false)
  | 1 => ("java/util/ArrayList", "elementData", "[Ljava/lang/Object;", false)
  | _ => ("java/util/ArrayList", "size", "I", false)
def t_AL : Nat → FieldType := fun k => match k with
  | 0 => .int
  | 1 => .array (.object "java/lang/Object")
  | _ => .int
abbrev xcl : List vw_C := [(R_TK, F_TK, 6), (R_Ma, F_Ma, 3), (R_KM, F_KM, 2), (R_Ro, F_Ro, 2), (R_Se, F_Se, 5), (R_En, F_En, 2), (R_Mo, F_Mo, 23), (R_AL, F_AL, 3)]
/-- arrays: their classes' numbers stand in the same table, from place 100 on -/
abbrev xty (D : va_G) : List (ClassId × FieldType) := [(D.1 100, .byte), (D.1 101, .object "java/lang/Object"), (D.1 102, .long), (D.1 103, .int)]
/-- a word that holds in every later state too -/
def xgw (w : Cond) : Bool := goodWord w || (w.onTables && (w.keepsFace || (match w with
  | .fieldLinkNest .. => true
  | .methodLinkNest .. => true
  | _ => false)))
def xT : List Cond := lw_tbl.filter xgw
theorem xword (w : Cond) (hw : w ∈ xT) {args a' : Array Value} {s U : State} (hW : s.WarmedH U.vm) (h : w.before args s = true) : w.before a' U = true := by
  have hg := (List.mem_filter.mp hw).2
  simp only [xgw, Bool.or_eq_true, Bool.and_eq_true] at hg
  rcases hg with hg | ⟨ho, hg | hg⟩
  · exact word_at hW (good_of_word hg) h
  · exact va_tabs ho (rfl : (s.setVm U.vm).vm = U.vm) (Cond.before_shiftedFace (State.Shifted.of_warmed hW) w hg h)
  · cases w with
    | fieldLinkNest a i b n d h0 => exact va_tabs rfl (rfl : (s.setVm U.vm).vm = U.vm) (Cond.fieldLinkNest_warmed (args := args) hW h)
    | methodLinkNest a i x h0 => exact va_tabs rfl (rfl : (s.setVm U.vm).vm = U.vm) (Cond.methodLinkNest_warmed (args := args) hW h)
    | _ => simp at hg
theorem xin {w : Cond} (i : Nat) (h : tables_1[i]? = some w) (hg : xgw w = true) : w ∈ xT := List.mem_filter.mpr ⟨List.mem_append_right _ (List.mem_of_getElem? h), hg⟩
theorem xinp {w : Cond} (i : Nat) (h : (k2_sels lw_privs)[i]? = some w) (hg : xgw w = true) : w ∈ xT := List.mem_filter.mpr ⟨List.mem_append_left _ (List.mem_of_getElem? h), hg⟩
/-- the texts of the exceptions -/
def xstr : List (Nat × String) := [(39, "n is not 1 .. 8"), (46, "the tape would have more than 300 bytes"), (209, "no such machine"), (57, "place is not 1 to 1000000 and above those before"), (80, "serial is below 0, or shape and tape are no operation"), (138, "shape and tape are no reading"), (173, "no such session"), (182, "no such thing of a session"), (184, "no such key"), (186, "no such thing of a key"), (202, "no such thing of a machine"), (204, "the result has no such byte")]
abbrev xA (H0 : Heap) : Nat → Prop := fun q => H0.size ≤ q
/-- what holds in every state of the run: the classes' numbers and slots, the statics, the texts, the mirror of Object[] -/
def xK (D : va_G) (H0 : Heap) (U : State) : Prop := va_K D xcl (xty D) U ∧ va_AO "java/lang/Object" U ∧ va_Z "TwinKeepers" "EMPTY" "[B" (.ref (D.2 200 0)) (xA H0) U H0 ∧ va_Z "java/util/ArrayList" "DEFAULTCAPACITY_EMPTY_ELEMENTDATA" "[Ljava/lang/Object;" (.ref (D.2 200 1)) (xA H0) U H0 ∧ vx_Zq Bundle.tN "UNASSIGNED_STACK" Bundle.steD (xA H0) U H0 ∧ vx_Zq Bundle.tN "SUPPRESSED_SENTINEL" Bundle.listD (xA H0) U H0 ∧ (∀ q ∈ xstr, ∃ sa : Nat, vk_R "TwinKeepers" q.1 q.2 sa U) ∧ va_Mi "[Ljava/lang/Object;" (D.2 200 2) U
theorem xK.moved {D : va_G} {H0 : Heap} {u U : State} (hW : u.WarmedH U.vm) (h : xK D H0 u) : xK D H0 U := by
  obtain ⟨h1, h2, h3, h4, h5, h6, h7, h8⟩ := h
  have hal := hW.alike
  exact ⟨h1.moved hal, h2.moved hal, h3.moved hal, h4.moved hal, h5.moved hal, h6.moved hal, fun q hq => (h7 q hq).imp fun sa hs => hs.warm hW, h8.moved hal⟩
theorem n_TK : ∀ a, a < 6 → ∀ b, b < 6 → a ≠ b → (F_TK a).2.1 ≠ (F_TK b).2.1 := by decide +kernel
theorem t_TK_ok : ∀ k, k < 6 → parseFieldDescriptor (F_TK k).2.2.1 = some (t_TK k) := by decide +kernel
theorem i_TK : ∀ w ∈ u_ws R_TK F_TK 6, w ∈ xT := by
  have h : ∀ w ∈ u_ws R_TK F_TK 6, w ∈ tables_1 ∧ xgw w = true := by decide +kernel
  exact fun w hw => List.mem_filter.mpr ⟨List.mem_append_right _ (h w hw).1, (h w hw).2⟩
theorem n_Ma : ∀ a, a < 3 → ∀ b, b < 3 → a ≠ b → (F_Ma a).2.1 ≠ (F_Ma b).2.1 := by decide +kernel
theorem t_Ma_ok : ∀ k, k < 3 → parseFieldDescriptor (F_Ma k).2.2.1 = some (t_Ma k) := by decide +kernel
theorem i_Ma : ∀ w ∈ u_ws R_Ma F_Ma 3, w ∈ xT := by
  have h : ∀ w ∈ u_ws R_Ma F_Ma 3, w ∈ tables_1 ∧ xgw w = true := by decide +kernel
  exact fun w hw => List.mem_filter.mpr ⟨List.mem_append_right _ (h w hw).1, (h w hw).2⟩
theorem n_KM : ∀ a, a < 2 → ∀ b, b < 2 → a ≠ b → (F_KM a).2.1 ≠ (F_KM b).2.1 := by decide +kernel
theorem t_KM_ok : ∀ k, k < 2 → parseFieldDescriptor (F_KM k).2.2.1 = some (t_KM k) := by decide +kernel
theorem i_KM : ∀ w ∈ u_ws R_KM F_KM 2, w ∈ xT := by
  have h : ∀ w ∈ u_ws R_KM F_KM 2, w ∈ tables_1 ∧ xgw w = true := by decide +kernel
  exact fun w hw => List.mem_filter.mpr ⟨List.mem_append_right _ (h w hw).1, (h w hw).2⟩
theorem n_Ro : ∀ a, a < 2 → ∀ b, b < 2 → a ≠ b → (F_Ro a).2.1 ≠ (F_Ro b).2.1 := by decide +kernel
theorem t_Ro_ok : ∀ k, k < 2 → parseFieldDescriptor (F_Ro k).2.2.1 = some (t_Ro k) := by decide +kernel
theorem i_Ro : ∀ w ∈ u_ws R_Ro F_Ro 2, w ∈ xT := by
  have h : ∀ w ∈ u_ws R_Ro F_Ro 2, w ∈ tables_1 ∧ xgw w = true := by decide +kernel
  exact fun w hw => List.mem_filter.mpr ⟨List.mem_append_right _ (h w hw).1, (h w hw).2⟩
theorem n_Se : ∀ a, a < 5 → ∀ b, b < 5 → a ≠ b → (F_Se a).2.1 ≠ (F_Se b).2.1 := by decide +kernel
theorem t_Se_ok : ∀ k, k < 5 → parseFieldDescriptor (F_Se k).2.2.1 = some (t_Se k) := by decide +kernel
theorem i_Se : ∀ w ∈ u_ws R_Se F_Se 5, w ∈ xT := by
  have h : ∀ w ∈ u_ws R_Se F_Se 5, w ∈ tables_1 ∧ xgw w = true := by decide +kernel
  exact fun w hw => List.mem_filter.mpr ⟨List.mem_append_right _ (h w hw).1, (h w hw).2⟩
theorem n_En : ∀ a, a < 2 → ∀ b, b < 2 → a ≠ b → (F_En a).2.1 ≠ (F_En b).2.1 := by decide +kernel
theorem t_En_ok : ∀ k, k < 2 → parseFieldDescriptor (F_En k).2.2.1 = some (t_En k) := by decide +kernel
theorem i_En : ∀ w ∈ u_ws R_En F_En 2, w ∈ xT := by
  have h : ∀ w ∈ u_ws R_En F_En 2, w ∈ tables_1 ∧ xgw w = true := by decide +kernel
  exact fun w hw => List.mem_filter.mpr ⟨List.mem_append_right _ (h w hw).1, (h w hw).2⟩
theorem n_Mo : ∀ a, a < 23 → ∀ b, b < 23 → a ≠ b → (F_Mo a).2.1 ≠ (F_Mo b).2.1 := by decide +kernel
theorem t_Mo_ok : ∀ k, k < 23 → parseFieldDescriptor (F_Mo k).2.2.1 = some (t_Mo k) := by decide +kernel
theorem i_Mo : ∀ w ∈ u_ws R_Mo F_Mo 23, w ∈ xT := by
  have h : ∀ w ∈ u_ws R_Mo F_Mo 23, w ∈ tables_1 ∧ xgw w = true := by decide +kernel
  exact fun w hw => List.mem_filter.mpr ⟨List.mem_append_right _ (h w hw).1, (h w hw).2⟩
theorem n_AL : ∀ a, a < 3 → ∀ b, b < 3 → a ≠ b → (F_AL a).2.1 ≠ (F_AL b).2.1 := by decide +kernel
theorem t_AL_ok : ∀ k, k < 3 → parseFieldDescriptor (F_AL k).2.2.1 = some (t_AL k) := by decide +kernel
theorem i_AL : ∀ w ∈ u_ws R_AL F_AL 3, w ∈ xT := by
  have h : ∀ w ∈ u_ws R_AL F_AL 3, w ∈ tables_1 ∧ xgw w = true := by decide +kernel
  exact fun w hw => List.mem_filter.mpr ⟨List.mem_append_right _ (h w hw).1, (h w hw).2⟩
end
section
/-! The abstract heap: a partial map from addresses to cells; the judgement xG over it; a row an instruction. -/
abbrev xH : Type := Nat → Option va_E
def xup (X : xH) (a : Nat) (v : va_E) : xH := fun b => if b = a then some v else X b
theorem xup_self {X : xH} {a : Nat} {v : va_E} : xup X a v a = some v := if_pos rfl
theorem xup_ne {X : xH} {a b : Nat} {v : va_E} (h : b ≠ a) : xup X a v b = X b := if_neg h
theorem xup_at {X : xH} {a b : Nat} {v : va_E} (h : b = a) : xup X a v b = some v := if_pos h
theorem xup_up {X : xH} {a : Nat} {v w : va_E} : xup (xup X a v) a w = xup X a w := by
  funext b
  by_cases h : b = a
  · rw [xup_at h, xup_at h]
  · rw [xup_ne h, xup_ne h, xup_ne h]
theorem xup_comm {X : xH} {a b : Nat} {v w : va_E} (h : a ≠ b) : xup (xup X a v) b w = xup (xup X b w) a v := by
  funext q
  by_cases h1 : q = a
  · subst h1
    rw [xup_ne h, xup_self, xup_self]
  · by_cases h2 : q = b
    · subst h2
      rw [xup_self, xup_ne h1, xup_self]
    · rw [xup_ne h2, xup_ne h1, xup_ne h1, xup_ne h2]
theorem xup_id {X : xH} {a : Nat} {v : va_E} (h : X a = some v) : xup X a v = X := by
  funext q
  by_cases h1 : q = a
  · rw [xup_at h1, h1, h]
  · rw [xup_ne h1]
theorem xne {X : xH} {a b : Nat} {v w : va_E} (h1 : X a = some v) (h2 : X b = some w) (h : v ≠ w) : a ≠ b := fun e => h (Option.some.inj (h1.symm.trans (e ▸ h2)))
theorem xne_none {X : xH} {a b : Nat} {v : va_E} (h1 : X a = some v) (h2 : X b = none) : a ≠ b := fun e => by
  rw [e, h2] at h1
  cases h1
theorem xup_keep {X : xH} {a b : Nat} {v w : va_E} (h : X b = some w) (hn : b ≠ a) : xup X a v b = some w := (xup_ne hn).trans h
theorem xup_fresh {X : xH} {a b : Nat} {v w : va_E} (h : X b = some w) (hn : X a = none) : xup X a v b = some w := (xup_ne (xne_none h hn)).trans h
/-- a cell that may be an old one: an array of no elements (nothing can be written there) -/
def xz (v : va_E) : Prop := match v with
  | .inl x => x.2.1 = 0
  | .inr _ => False
/-- an array's cell: of its class, with these elements (its monitor and hash may be anything) -/
def xav (x : vp_A) : Nat → Value := match x.2 with
  | .inl f => fun j => .int (f j)
  | .inr (.inl f) => fun j => .long (f j)
  | .inr (.inr (.inl f)) => fun j => .float (f j)
  | .inr (.inr (.inr (.inl f))) => fun j => .double (f j)
  | .inr (.inr (.inr (.inr f))) => fun j => va_rf (f j)
def xac (cA : ClassId) (n : Nat) (g : Nat → Value) (c : Cell) : Prop := c.cls = cA ∧ c.vm ≠ .unknown ∧ (∀ k, c.vm ≠ .statics k) ∧ c.slots = (arrV cA n g).slots
def xat (D : va_G) (q : Nat × va_E) (H : Heap) : Prop := match q.2 with
  | .inl x => ∃ c : Cell, H[q.1]? = some c ∧ xac x.1 x.2.1 (xav x.2) c
  | .inr o => ∃ r : vw_C, xcl[o.1]? = some r ∧ t_OB q.1 (D.1 o.1) r.2.2 (D.2 o.1) H (vp_V o.2)
theorem xat.kept {D : va_G} {q : Nat × va_E} {H H1 : Heap} (h : xat D q H) (hq : H1[q.1]? = H[q.1]?) : xat D q H1 := by
  obtain ⟨a, v⟩ := q
  cases v with
  | inl x =>
    obtain ⟨c, h1, h2⟩ := h
    exact ⟨c, hq.trans h1, h2⟩
  | inr o =>
    obtain ⟨r, h1, h2⟩ := h
    exact ⟨r, h1, h2.kept hq⟩
theorem xat.lt {D : va_G} {q : Nat × va_E} {H : Heap} (h : xat D q H) : q.1 < H.size := by
  obtain ⟨a, v⟩ := q
  cases v with
  | inl x =>
    obtain ⟨c, h1, -⟩ := h
    exact (Array.getElem?_eq_some_iff.mp h1).1
  | inr o =>
    obtain ⟨r, h1, cell, h2, -⟩ := h
    exact (Array.getElem?_eq_some_iff.mp h2).1
theorem xac_new (cA : ClassId) (n : Nat) (g : Nat → Value) : xac cA n g (arrV cA n g) := ⟨rfl, fun h => (by cases h), fun k h => (by cases h), rfl⟩
theorem xac.size {cA : ClassId} {n : Nat} {g : Nat → Value} {c : Cell} (h : xac cA n g c) : c.slots.size = n := by rw [h.2.2.2, arrV_size]
theorem xac.read {cA : ClassId} {n j : Nat} {g : Nat → Value} {c : Cell} (h : xac cA n g c) (hj : j < n) : c.slots[j]? = some (g j) := by rw [h.2.2.2, arrV_read cA g hj]
theorem xac.of {U : State} {cA : ClassId} {n : Nat} {g : Nat → Value} {c : Cell} {ty : FieldType} (h : xac cA n g c) (hT : ArrOfT U cA ty) : U.isArrayOf c ty := ⟨h.2.2.1, by rw [h.1]; exact (hT 0 (fun _ => .null)).2⟩
theorem xac.set {cA : ClassId} {n : Nat} {g g' : Nat → Value} {c : Cell} (h : xac cA n g c) (j : Nat) (v : Value) (hg : updV g j v = g') : xac cA n g' (c.setSlot j v) := by
  subst hg
  refine ⟨h.1, h.2.1, h.2.2.1, ?_⟩
  rw [← arrV_store]
  show c.slots.setIfInBounds j v = (arrV cA n g).slots.setIfInBounds j v
  rw [h.2.2.2]
/-- the heap H holds the cells of X; below the law's first heap H0 nothing has changed -/
def xRep (D : va_G) (H0 : Heap) (X : xH) (H : Heap) : Prop := H0.size ≤ H.size ∧ (∀ q : Nat, q < H0.size → H[q]? = H0[q]?) ∧ ∀ (a : Nat) (v : va_E), X a = some v → xat D (a, v) H ∧ (H0.size ≤ a ∨ xz v)
theorem xRep.put {D : va_G} {H0 : Heap} {X : xH} {H H' : Heap} {a : Nat} {v0 v : va_E} (h : xRep D H0 X H) (h0 : X a = some v0) (hz : ¬ xz v0) (he : xat D (a, v) H') (z : H'.size = H.size) (oq : ∀ q : Nat, q ≠ a → H'[q]? = H[q]?) : xRep D H0 (xup X a v) H' := by
  have ha : H0.size ≤ a := (h.2.2 a v0 h0).2.resolve_right hz
  refine ⟨by rw [z]; exact h.1, fun q hq => by rw [oq q (by omega)]; exact h.2.1 q hq, fun b w hb => ?_⟩
  by_cases hba : b = a
  · subst hba
    rw [xup_self] at hb
    cases hb
    exact ⟨he, Or.inl ha⟩
  · rw [xup_ne hba] at hb
    obtain ⟨h1, h2⟩ := h.2.2 b w hb
    exact ⟨h1.kept (oq b hba), h2⟩
theorem xRep.new {D : va_G} {H0 : Heap} {X : xH} {H H' : Heap} {v : va_E} (h : xRep D H0 X H) (he : xat D (H.size, v) H') (z : H'.size = H.size + 1) (o : ∀ q : Nat, q < H.size → H'[q]? = H[q]?) : X H.size = none ∧ xRep D H0 (xup X H.size v) H' := by
  have hf : ∀ (b : Nat) (w : va_E), X b = some w → b < H.size := fun b w hb => (h.2.2 b w hb).1.lt
  have hn : X H.size = none := by
    cases hx : X H.size with
    | none => rfl
    | some w => exact absurd (hf _ _ hx) (Nat.lt_irrefl _)
  refine ⟨hn, by have := h.1; omega, fun q hq => by rw [o q (by have := h.1; omega)]; exact h.2.1 q hq, fun b w hb => ?_⟩
  by_cases hba : b = H.size
  · subst hba
    rw [xup_self] at hb
    cases hb
    exact ⟨he, Or.inl h.1⟩
  · rw [xup_ne hba] at hb
    obtain ⟨h1, h2⟩ := h.2.2 b w hb
    exact ⟨h1.kept (o b (hf b w hb)), h2⟩
theorem xRep.more {D : va_G} {H0 : Heap} {X : xH} {H H' : Heap} (h : xRep D H0 X H) (z : H.size ≤ H'.size) (o : ∀ q : Nat, q < H.size → H'[q]? = H[q]?) : xRep D H0 X H' := by
  refine ⟨by have := h.1; omega, fun q hq => by rw [o q (by have := h.1; omega)]; exact h.2.1 q hq, fun b w hb => ?_⟩
  obtain ⟨h1, h2⟩ := h.2.2 b w hb
  exact ⟨h1.kept (o b h1.lt), h2⟩
/-! locals by their places -/
def xLoc (ls : Array Slot) (nL : Nat) (L : List (Option Value)) : Prop := ls.size = nL ∧ lv_wf ls ∧ ∀ (i : Nat) (v : Value), L[i]? = some (some v) → ls[i]? = some (.val v)
def xas (L : List (Option Value)) : List (Nat × Value) := (List.range L.length).filterMap (fun j => (L.getD j none).map (fun v => (j, v)))
theorem xas_mem {L : List (Option Value)} {q : Nat × Value} : q ∈ xas L ↔ L[q.1]? = some (some q.2) := by
  unfold xas
  rw [List.mem_filterMap]
  constructor
  · rintro ⟨j, hj, h⟩
    have hj' := List.mem_range.mp hj
    rw [List.getD_eq_getElem?_getD, List.getElem?_eq_getElem hj'] at h
    simp only [Option.getD_some] at h
    cases hv : L[j] with
    | none => rw [hv] at h; cases h
    | some v =>
      rw [hv] at h
      cases h
      rw [List.getElem?_eq_getElem hj', hv]
  · intro h
    have hlt : q.1 < L.length := (List.getElem?_eq_some_iff.mp h).1
    refine ⟨q.1, List.mem_range.mpr hlt, ?_⟩
    rw [List.getD_eq_getElem?_getD, h]
    rfl
theorem xLoc.has {ls : Array Slot} {nL : Nat} {L : List (Option Value)} (h : xLoc ls nL L) : lv_has ls nL (xas L) := ⟨h.1, h.2.1, fun q hq => h.2.2 q.1 q.2 (xas_mem.mp hq)⟩
/-- the local before place i is no long -/
def xprev (L : List (Option Value)) (i : Nat) : Bool := match i with
  | 0 => true
  | j + 1 => match L[j]? with
    | some (some v) => v.category == 1
    | _ => true
theorem xprev_use {L : List (Option Value)} {i j : Nat} {v : Value} (h : xprev L i = true) (hj : j + 1 = i) (hv : L[j]? = some (some v)) : v.category = 1 := by
  subst hj
  simp only [xprev, hv] at h
  simpa using h
theorem xLoc.set1 {ls ls' : Array Slot} {nL i : Nat} {L : List (Option Value)} {v : Value} (h : lv_has ls' nL ((i, v) :: (xas L).filter (fun q => !(q.1 == i) && !(q.1 + 1 == i && q.2.category == 2)))) (hp : xprev L i = true) : xLoc ls' nL (L.set i (some v)) := by
  refine ⟨h.1, h.2.1, fun j w hw => ?_⟩
  by_cases hj : i = j
  · subst hj
    have hlt : i < (L.set i (some v)).length := (List.getElem?_eq_some_iff.mp hw).1
    rw [List.length_set] at hlt
    rw [List.getElem?_set_self hlt] at hw
    cases hw
    exact h.2.2 (i, v) List.mem_cons_self
  · rw [List.getElem?_set_ne hj] at hw
    refine h.2.2 (j, w) (List.mem_cons_of_mem _ (List.mem_filter.mpr ⟨xas_mem.mpr hw, ?_⟩))
    have h1 : (j == i) = false := by simpa using Ne.symm hj
    by_cases hji : j + 1 = i
    · have := xprev_use hp hji hw
      simp [h1, this]
    · simp [h1, hji]
theorem xLoc.set2 {ls ls' : Array Slot} {nL i : Nat} {L : List (Option Value)} {v : Value} (h : lv_has ls' nL ((i, v) :: (xas L).filter (fun q => !(q.1 == i) && (!(q.1 == i + 1) && !(q.1 + 1 == i && q.2.category == 2))))) (hp : xprev L i = true) : xLoc ls' nL ((L.set i (some v)).set (i + 1) none) := by
  refine ⟨h.1, h.2.1, fun j w hw => ?_⟩
  by_cases hj : i + 1 = j
  · subst hj
    have hlt : i + 1 < ((L.set i (some v)).set (i + 1) none).length := (List.getElem?_eq_some_iff.mp hw).1
    rw [List.length_set] at hlt
    rw [List.getElem?_set_self hlt] at hw
    cases hw
  · rw [List.getElem?_set_ne hj] at hw
    by_cases hi : i = j
    · subst hi
      have hlt : i < (L.set i (some v)).length := (List.getElem?_eq_some_iff.mp hw).1
      rw [List.length_set] at hlt
      rw [List.getElem?_set_self hlt] at hw
      cases hw
      exact h.2.2 (i, v) List.mem_cons_self
    · rw [List.getElem?_set_ne hi] at hw
      refine h.2.2 (j, w) (List.mem_cons_of_mem _ (List.mem_filter.mpr ⟨xas_mem.mpr hw, ?_⟩))
      have h1 : (j == i) = false := by simpa using Ne.symm hi
      have h2 : (j == i + 1) = false := by simpa using Ne.symm hj
      by_cases hji : j + 1 = i
      · have := xprev_use hp hji hw
        simp [h1, h2, this]
      · simp [h1, h2, hji]

theorem xLoc.of {ls : Array Slot} {nL : Nat} {L : List (Option Value)} (h : lv_has ls nL (xas L)) : xLoc ls nL L := ⟨h.1, h.2.1, fun i v hv => h.2.2 (i, v) (xas_mem.mpr hv)⟩
/-! what stays fixed in a walk: the class numbers, the law's first heap, and all that W has -/
abbrev xE : Type := va_G × Heap × Program × Launch × Env × Room × State × MethodId × Array Value × List Frame × Method × Code × (State → Prop) × Nat
abbrev xE.D (E : xE) : va_G := E.1
abbrev xE.H0 (E : xE) : Heap := E.2.1
abbrev xE.p (E : xE) : Program := E.2.2.1
abbrev xE.l (E : xE) : Launch := E.2.2.2.1
abbrev xE.e (E : xE) : Env := E.2.2.2.2.1
abbrev xE.R (E : xE) : Room := E.2.2.2.2.2.1
abbrev xE.s (E : xE) : State := E.2.2.2.2.2.2.1
abbrev xE.m (E : xE) : MethodId := E.2.2.2.2.2.2.2.1
abbrev xE.args (E : xE) : Array Value := E.2.2.2.2.2.2.2.2.1
abbrev xE.below (E : xE) : List Frame := E.2.2.2.2.2.2.2.2.2.1
abbrev xE.meth (E : xE) : Method := E.2.2.2.2.2.2.2.2.2.2.1
abbrev xE.c (E : xE) : Code := E.2.2.2.2.2.2.2.2.2.2.2.1
abbrev xE.Q (E : xE) : State → Prop := E.2.2.2.2.2.2.2.2.2.2.2.2.1
abbrev xE.nL (E : xE) : Nat := E.2.2.2.2.2.2.2.2.2.2.2.2.2
/-- how a method ends: it returns, or throws an object of that class -/
abbrev xO : Type := Option Value ⊕ String
def xOut (o : Outcome) (r : xO) (t : State) : Prop := match r with
  | .inl v => o = .returned v
  | .inr C => ∃ (a : Nat) (cell : Cell), o = .threw a ∧ t.heap[a]? = some cell ∧ cell.vm = .none ∧ t.vm.findClass C = some cell.cls
def xMQ (D : va_G) (H0 : Heap) (below : List Frame) (s : State) (mc ms : Nat) (Post : xO → xH → Prop) : State → Prop := fun t => ∃ (o : Outcome) (r : xO) (X : xH) (L : List Loc), t.status = .running ∧ Ended t below o ∧ xOut o r t ∧ xRep D H0 X t.heap ∧ Post r X ∧ s.WarmedH t.vm ∧ s.sameButNew ({ t with vm := s.vm } : State) L mc ms ∧ ∀ q ∈ L, H0.size ≤ q.base
/-- the room of a method with d levels of calls below it -/
def xR (d mc ms : Nat) : Room := { frames := d + 8, cells := mc, slots := ms, locals := 40 * (d + 8) }
def xCx (E : xE) (y : MethodName) (cc : ByteArray) (nL : Nat) (ret : Option FieldType) (hs : List (Nat × Nat × Nat × Nat)) (d mc ms : Nat) (Post : xO → xH → Prop) : Prop :=
  E.p.tables.exec = Jvm.exec ∧ E.c.code = cc ∧ E.c.maxLocals = E.nL ∧ E.s.vm.findClass y.cls = some E.m.cls ∧ (∀ w ∈ xT, w.before E.args E.s = true) ∧ xK E.D E.H0 E.s ∧ E.meth.sig.returnType = ret ∧ E.meth.locks = false ∧ E.R = xR d mc ms ∧ E.Q = xMQ E.D E.H0 E.below E.s mc ms Post ∧ E.H0.size ≤ E.s.heap.size ∧ E.l.stackTraces = false ∧ E.c.exceptionTable.toList.map (fun h => (h.startPc, h.endPc, h.handlerPc, h.catchType)) = hs ∧ E.meth.name = y.name ∧ E.nL = nL
/-- the machine, at pc with locals L and stack st, over any heap that holds X, comes to its end -/
def xG (E : xE) (X : xH) (cells slots pc : Nat) (L : List (Option Value)) (st : List Value) : Prop :=
  ∀ (H : Heap) (locs : List Loc) (ls : Array Slot), xRep E.D E.H0 X H → va_S (fun q => E.H0.size ≤ q) E.s.heap H locs → xLoc ls E.nL L → W E.p E.l E.e E.R E.s E.m E.args E.below E.meth E.c H locs cells slots E.Q (F0 E.m pc ls st)
section XR
variable {E : xE} {y : MethodName} {cc : ByteArray} {nL : Nat} {ret : Option FieldType} {hs : List (Nat × Nat × Nat × Nat)} {d mc ms : Nat} {Post : xO → xH → Prop} {X : xH} {cells slots pc : Nat} {L : List (Option Value)} {st : List Value}
theorem xCx.ow (C : xCx E y cc nL ret hs d mc ms Post) : E.s.vm.findClass y.cls = some E.m.cls := C.2.2.2.1
theorem xCx.ts (C : xCx E y cc nL ret hs d mc ms Post) : ∀ w ∈ xT, w.before E.args E.s = true := C.2.2.2.2.1
theorem xCx.kk (C : xCx E y cc nL ret hs d mc ms Post) : xK E.D E.H0 E.s := C.2.2.2.2.2.1
theorem xCx.rt (C : xCx E y cc nL ret hs d mc ms Post) : E.meth.sig.returnType = ret := C.2.2.2.2.2.2.1
theorem xCx.lk (C : xCx E y cc nL ret hs d mc ms Post) : E.meth.locks = false := C.2.2.2.2.2.2.2.1
theorem xCx.rm (C : xCx E y cc nL ret hs d mc ms Post) : E.R = xR d mc ms := C.2.2.2.2.2.2.2.2.1
theorem xCx.qq (C : xCx E y cc nL ret hs d mc ms Post) : E.Q = xMQ E.D E.H0 E.below E.s mc ms Post := C.2.2.2.2.2.2.2.2.2.1
theorem xCx.h0 (C : xCx E y cc nL ret hs d mc ms Post) : E.H0.size ≤ E.s.heap.size := C.2.2.2.2.2.2.2.2.2.2.1
theorem xCx.tr (C : xCx E y cc nL ret hs d mc ms Post) : E.l.stackTraces = false := C.2.2.2.2.2.2.2.2.2.2.2.1
theorem xCx.tb (C : xCx E y cc nL ret hs d mc ms Post) : E.c.exceptionTable.toList.map (fun h => (h.startPc, h.endPc, h.handlerPc, h.catchType)) = hs := C.2.2.2.2.2.2.2.2.2.2.2.2.1
theorem xCx.nm (C : xCx E y cc nL ret hs d mc ms Post) : E.meth.name = y.name := C.2.2.2.2.2.2.2.2.2.2.2.2.2.1
theorem xCx.nl (C : xCx E y cc nL ret hs d mc ms Post) : E.nL = nL := C.2.2.2.2.2.2.2.2.2.2.2.2.2.2
theorem xG.eqX {X' : xH} (h : X = X') (k : xG E X' cells slots pc L st) : xG E X cells slots pc L st := h ▸ k
theorem xG.eqL {L' : List (Option Value)} (h : L = L') (k : xG E X cells slots pc L' st) : xG E X cells slots pc L st := h ▸ k
theorem xG.eqS {st' : List Value} (h : st = st') (k : xG E X cells slots pc L st') : xG E X cells slots pc L st := h ▸ k
theorem xG.wide {c2 s2 : Nat} (h1 : cells ≤ c2) (h2 : slots ≤ s2) (k : xG E X c2 s2 pc L st) : xG E X cells slots pc L st := fun H locs ls a b c => W.widen h1 h2 (k H locs ls a b c)
theorem xr_topi {x : Int32} (k : ∀ z : Int32, z = x → xG E X cells slots pc L (.int z :: st)) : xG E X cells slots pc L (.int x :: st) := k x rfl
theorem xr_topl {x : Int64} (k : ∀ z : Int64, z = x → xG E X cells slots pc L (.long z :: st)) : xG E X cells slots pc L (.long x :: st) := k x rfl
theorem xr_toi {x z : Int32} (h : x = z) (k : xG E X cells slots pc L (.int z :: st)) : xG E X cells slots pc L (.int x :: st) := h ▸ k
theorem xr_tol {x z : Int64} (h : x = z) (k : xG E X cells slots pc L (.long z :: st)) : xG E X cells slots pc L (.long x :: st) := h ▸ k

theorem xr_iconst (C : xCx E y cc nL ret hs d mc ms Post) {j : Int} {v : Int32} (hd : decode cc pc = .ok (.iconst j, 1)) (n : Nat) (hn : pc + 1 = n) (hv : Int32.ofInt j = v) (k : xG E X cells slots n L (.int v :: st)) : xG E X cells slots pc L (st) := by
  subst hn
  intro H locs ls h1 h2 h3
  exact lv_iconst C.1 C.2.1 hd hv (k H locs ls h1 h2 h3)
theorem xr_bipush (C : xCx E y cc nL ret hs d mc ms Post) {j : Int} {v : Int32} (hd : decode cc pc = .ok (.bipush j, 2)) (n : Nat) (hn : pc + 2 = n) (hv : (Int8.ofInt j).toInt32 = v) (k : xG E X cells slots n L (.int v :: st)) : xG E X cells slots pc L (st) := by
  subst hn
  intro H locs ls h1 h2 h3
  exact lv_bipush C.1 C.2.1 hd hv (k H locs ls h1 h2 h3)
theorem xr_sipush (C : xCx E y cc nL ret hs d mc ms Post) {j : Int} {v : Int32} (hd : decode cc pc = .ok (.sipush j, 3)) (n : Nat) (hn : pc + 3 = n) (hv : (Int16.ofInt j).toInt32 = v) (k : xG E X cells slots n L (.int v :: st)) : xG E X cells slots pc L (st) := by
  subst hn
  intro H locs ls h1 h2 h3
  exact lv_sipush C.1 C.2.1 hd hv (k H locs ls h1 h2 h3)
theorem xr_lconst (C : xCx E y cc nL ret hs d mc ms Post) {j : Fin 2} {v : Int64} (hd : decode cc pc = .ok (.lconst j, 1)) (n : Nat) (hn : pc + 1 = n) (hv : Int64.ofNat (j : Nat) = v) (k : xG E X cells slots n L (.long v :: st)) : xG E X cells slots pc L (st) := by
  subst hn
  intro H locs ls h1 h2 h3
  exact lv_lconst C.1 C.2.1 hd hv (k H locs ls h1 h2 h3)
theorem xr_iload_n (C : xCx E y cc nL ret hs d mc ms Post) {i : Fin 4} {x : Int32} (hd : decode cc pc = .ok (.iload_n i, 1)) (n : Nat) (hn : pc + 1 = n) (hl : L[(i : Nat)]? = some (some (.int x))) (k : xG E X cells slots n L (.int x :: st)) : xG E X cells slots pc L (st) := by
  subst hn
  intro H locs ls h1 h2 h3
  exact lv_iload_n C.1 C.2.1 hd rfl (h3.2.2 _ _ hl) (k H locs ls h1 h2 h3)
theorem xr_iload (C : xCx E y cc nL ret hs d mc ms Post) {i : Nat} {x : Int32} (hd : decode cc pc = .ok (.iload i, 2)) (n : Nat) (hn : pc + 2 = n) (hl : L[i]? = some (some (.int x))) (k : xG E X cells slots n L (.int x :: st)) : xG E X cells slots pc L (st) := by
  subst hn
  intro H locs ls h1 h2 h3
  exact lv_iload C.1 C.2.1 hd (h3.2.2 _ _ hl) (k H locs ls h1 h2 h3)
theorem xr_lload_n (C : xCx E y cc nL ret hs d mc ms Post) {i : Fin 4} {x : Int64} (hd : decode cc pc = .ok (.lload_n i, 1)) (n : Nat) (hn : pc + 1 = n) (hl : L[(i : Nat)]? = some (some (.long x))) (k : xG E X cells slots n L (.long x :: st)) : xG E X cells slots pc L (st) := by
  subst hn
  intro H locs ls h1 h2 h3
  exact lv_lload_n C.1 C.2.1 hd rfl (h3.2.2 _ _ hl) (k H locs ls h1 h2 h3)
theorem xr_lload (C : xCx E y cc nL ret hs d mc ms Post) {i : Nat} {x : Int64} (hd : decode cc pc = .ok (.lload i, 2)) (n : Nat) (hn : pc + 2 = n) (hl : L[i]? = some (some (.long x))) (k : xG E X cells slots n L (.long x :: st)) : xG E X cells slots pc L (st) := by
  subst hn
  intro H locs ls h1 h2 h3
  exact lv_lload C.1 C.2.1 hd (h3.2.2 _ _ hl) (k H locs ls h1 h2 h3)
theorem xr_aload_n (C : xCx E y cc nL ret hs d mc ms Post) {i : Fin 4} {x : Nat} (hd : decode cc pc = .ok (.aload_n i, 1)) (n : Nat) (hn : pc + 1 = n) (hl : L[(i : Nat)]? = some (some (.ref x))) (k : xG E X cells slots n L (.ref x :: st)) : xG E X cells slots pc L (st) := by
  subst hn
  intro H locs ls h1 h2 h3
  exact lv_aload_n C.1 C.2.1 hd rfl (h3.2.2 _ _ hl) (k H locs ls h1 h2 h3)
theorem xr_aload (C : xCx E y cc nL ret hs d mc ms Post) {i : Nat} {x : Nat} (hd : decode cc pc = .ok (.aload i, 2)) (n : Nat) (hn : pc + 2 = n) (hl : L[i]? = some (some (.ref x))) (k : xG E X cells slots n L (.ref x :: st)) : xG E X cells slots pc L (st) := by
  subst hn
  intro H locs ls h1 h2 h3
  exact lv_aload C.1 C.2.1 hd (h3.2.2 _ _ hl) (k H locs ls h1 h2 h3)
theorem xr_aload_nN (C : xCx E y cc nL ret hs d mc ms Post) {i : Fin 4} (hd : decode cc pc = .ok (.aload_n i, 1)) (n : Nat) (hn : pc + 1 = n) (hl : L[(i : Nat)]? = some (some .null)) (k : xG E X cells slots n L (.null :: st)) : xG E X cells slots pc L (st) := by
  subst hn
  intro H locs ls h1 h2 h3
  exact lv_aload_nN C.1 C.2.1 hd rfl (h3.2.2 _ _ hl) (k H locs ls h1 h2 h3)
theorem xr_aloadN (C : xCx E y cc nL ret hs d mc ms Post) {i : Nat} (hd : decode cc pc = .ok (.aload i, 2)) (n : Nat) (hn : pc + 2 = n) (hl : L[i]? = some (some .null)) (k : xG E X cells slots n L (.null :: st)) : xG E X cells slots pc L (st) := by
  subst hn
  intro H locs ls h1 h2 h3
  exact lv_aloadN C.1 C.2.1 hd (h3.2.2 _ _ hl) (k H locs ls h1 h2 h3)
theorem xr_null (C : xCx E y cc nL ret hs d mc ms Post) (hd : decode cc pc = .ok (.aconst_null, 1)) (n : Nat) (hn : pc + 1 = n) (k : xG E X cells slots n L (.null :: st)) : xG E X cells slots pc L (st) := by
  subst hn
  intro H locs ls h1 h2 h3
  exact lv_null C.1 C.2.1 hd (k H locs ls h1 h2 h3)
theorem xr_iadd (C : xCx E y cc nL ret hs d mc ms Post) {x z : Int32} (hd : decode cc pc = .ok (.iadd, 1)) (n : Nat) (hn : pc + 1 = n) (k : xG E X cells slots n L (.int (x + z) :: st)) : xG E X cells slots pc L (.int z :: .int x :: st) := by
  subst hn
  intro H locs ls h1 h2 h3
  exact lv_iadd C.1 C.2.1 hd (k H locs ls h1 h2 h3)
theorem xr_isub (C : xCx E y cc nL ret hs d mc ms Post) {x z : Int32} (hd : decode cc pc = .ok (.isub, 1)) (n : Nat) (hn : pc + 1 = n) (k : xG E X cells slots n L (.int (x - z) :: st)) : xG E X cells slots pc L (.int z :: .int x :: st) := by
  subst hn
  intro H locs ls h1 h2 h3
  exact lv_isub C.1 C.2.1 hd (k H locs ls h1 h2 h3)
theorem xr_imul (C : xCx E y cc nL ret hs d mc ms Post) {x z : Int32} (hd : decode cc pc = .ok (.imul, 1)) (n : Nat) (hn : pc + 1 = n) (k : xG E X cells slots n L (.int (x * z) :: st)) : xG E X cells slots pc L (.int z :: .int x :: st) := by
  subst hn
  intro H locs ls h1 h2 h3
  exact lv_imul C.1 C.2.1 hd (k H locs ls h1 h2 h3)
theorem xr_iand (C : xCx E y cc nL ret hs d mc ms Post) {x z : Int32} (hd : decode cc pc = .ok (.iand, 1)) (n : Nat) (hn : pc + 1 = n) (k : xG E X cells slots n L (.int (x &&& z) :: st)) : xG E X cells slots pc L (.int z :: .int x :: st) := by
  subst hn
  intro H locs ls h1 h2 h3
  exact lv_iand C.1 C.2.1 hd (k H locs ls h1 h2 h3)
theorem xr_ior (C : xCx E y cc nL ret hs d mc ms Post) {x z : Int32} (hd : decode cc pc = .ok (.ior, 1)) (n : Nat) (hn : pc + 1 = n) (k : xG E X cells slots n L (.int (x ||| z) :: st)) : xG E X cells slots pc L (.int z :: .int x :: st) := by
  subst hn
  intro H locs ls h1 h2 h3
  exact lv_ior C.1 C.2.1 hd (k H locs ls h1 h2 h3)
theorem xr_ixor (C : xCx E y cc nL ret hs d mc ms Post) {x z : Int32} (hd : decode cc pc = .ok (.ixor, 1)) (n : Nat) (hn : pc + 1 = n) (k : xG E X cells slots n L (.int (x ^^^ z) :: st)) : xG E X cells slots pc L (.int z :: .int x :: st) := by
  subst hn
  intro H locs ls h1 h2 h3
  exact lv_ixor C.1 C.2.1 hd (k H locs ls h1 h2 h3)
theorem xr_ishl (C : xCx E y cc nL ret hs d mc ms Post) {x z : Int32} (hd : decode cc pc = .ok (.ishl, 1)) (n : Nat) (hn : pc + 1 = n) (k : xG E X cells slots n L (.int (x <<< (z &&& 31)) :: st)) : xG E X cells slots pc L (.int z :: .int x :: st) := by
  subst hn
  intro H locs ls h1 h2 h3
  exact lv_ishl C.1 C.2.1 hd (k H locs ls h1 h2 h3)
theorem xr_ishr (C : xCx E y cc nL ret hs d mc ms Post) {x z : Int32} (hd : decode cc pc = .ok (.ishr, 1)) (n : Nat) (hn : pc + 1 = n) (k : xG E X cells slots n L (.int (x >>> (z &&& 31)) :: st)) : xG E X cells slots pc L (.int z :: .int x :: st) := by
  subst hn
  intro H locs ls h1 h2 h3
  exact lv_ishr C.1 C.2.1 hd (k H locs ls h1 h2 h3)
theorem xr_idiv (C : xCx E y cc nL ret hs d mc ms Post) {x z : Int32} (hd : decode cc pc = .ok (.idiv, 1)) (n : Nat) (hn : pc + 1 = n) (hz : ¬ z = 0) (k : xG E X cells slots n L (.int (x / z) :: st)) : xG E X cells slots pc L (.int z :: .int x :: st) := by
  subst hn
  intro H locs ls h1 h2 h3
  exact lv_idiv C.1 C.2.1 hd hz (k H locs ls h1 h2 h3)
theorem xr_irem (C : xCx E y cc nL ret hs d mc ms Post) {x z : Int32} (hd : decode cc pc = .ok (.irem, 1)) (n : Nat) (hn : pc + 1 = n) (hz : ¬ z = 0) (k : xG E X cells slots n L (.int (x - x / z * z) :: st)) : xG E X cells slots pc L (.int z :: .int x :: st) := by
  subst hn
  intro H locs ls h1 h2 h3
  exact lv_irem C.1 C.2.1 hd hz (k H locs ls h1 h2 h3)
theorem xr_ineg (C : xCx E y cc nL ret hs d mc ms Post) {x : Int32} (hd : decode cc pc = .ok (.ineg, 1)) (n : Nat) (hn : pc + 1 = n) (k : xG E X cells slots n L (.int (-x) :: st)) : xG E X cells slots pc L (.int x :: st) := by
  subst hn
  intro H locs ls h1 h2 h3
  exact lv_ineg C.1 C.2.1 hd (k H locs ls h1 h2 h3)
theorem xr_ladd (C : xCx E y cc nL ret hs d mc ms Post) {x z : Int64} (hd : decode cc pc = .ok (.ladd, 1)) (n : Nat) (hn : pc + 1 = n) (k : xG E X cells slots n L (.long (x + z) :: st)) : xG E X cells slots pc L (.long z :: .long x :: st) := by
  subst hn
  intro H locs ls h1 h2 h3
  exact lv_ladd C.1 C.2.1 hd (k H locs ls h1 h2 h3)
theorem xr_lsub (C : xCx E y cc nL ret hs d mc ms Post) {x z : Int64} (hd : decode cc pc = .ok (.lsub, 1)) (n : Nat) (hn : pc + 1 = n) (k : xG E X cells slots n L (.long (x - z) :: st)) : xG E X cells slots pc L (.long z :: .long x :: st) := by
  subst hn
  intro H locs ls h1 h2 h3
  exact lv_lsub C.1 C.2.1 hd (k H locs ls h1 h2 h3)
theorem xr_lmul (C : xCx E y cc nL ret hs d mc ms Post) {x z : Int64} (hd : decode cc pc = .ok (.lmul, 1)) (n : Nat) (hn : pc + 1 = n) (k : xG E X cells slots n L (.long (x * z) :: st)) : xG E X cells slots pc L (.long z :: .long x :: st) := by
  subst hn
  intro H locs ls h1 h2 h3
  exact lv_lmul C.1 C.2.1 hd (k H locs ls h1 h2 h3)
theorem xr_land (C : xCx E y cc nL ret hs d mc ms Post) {x z : Int64} (hd : decode cc pc = .ok (.land, 1)) (n : Nat) (hn : pc + 1 = n) (k : xG E X cells slots n L (.long (x &&& z) :: st)) : xG E X cells slots pc L (.long z :: .long x :: st) := by
  subst hn
  intro H locs ls h1 h2 h3
  exact lv_land C.1 C.2.1 hd (k H locs ls h1 h2 h3)
theorem xr_lor (C : xCx E y cc nL ret hs d mc ms Post) {x z : Int64} (hd : decode cc pc = .ok (.lor, 1)) (n : Nat) (hn : pc + 1 = n) (k : xG E X cells slots n L (.long (x ||| z) :: st)) : xG E X cells slots pc L (.long z :: .long x :: st) := by
  subst hn
  intro H locs ls h1 h2 h3
  exact lv_lor C.1 C.2.1 hd (k H locs ls h1 h2 h3)
theorem xr_lxor (C : xCx E y cc nL ret hs d mc ms Post) {x z : Int64} (hd : decode cc pc = .ok (.lxor, 1)) (n : Nat) (hn : pc + 1 = n) (k : xG E X cells slots n L (.long (x ^^^ z) :: st)) : xG E X cells slots pc L (.long z :: .long x :: st) := by
  subst hn
  intro H locs ls h1 h2 h3
  exact lv_lxor C.1 C.2.1 hd (k H locs ls h1 h2 h3)
theorem xr_i2l (C : xCx E y cc nL ret hs d mc ms Post) {x : Int32} {v : Int64} (hd : decode cc pc = .ok (.i2l, 1)) (n : Nat) (hn : pc + 1 = n) (hv : x.toInt64 = v) (k : xG E X cells slots n L (.long v :: st)) : xG E X cells slots pc L (.int x :: st) := by
  subst hn
  intro H locs ls h1 h2 h3
  exact lv_i2l C.1 C.2.1 hd hv (k H locs ls h1 h2 h3)
theorem xr_l2i (C : xCx E y cc nL ret hs d mc ms Post) {x : Int64} {v : Int32} (hd : decode cc pc = .ok (.l2i, 1)) (n : Nat) (hn : pc + 1 = n) (hv : x.toInt32 = v) (k : xG E X cells slots n L (.int v :: st)) : xG E X cells slots pc L (.long x :: st) := by
  subst hn
  intro H locs ls h1 h2 h3
  exact lv_l2i C.1 C.2.1 hd hv (k H locs ls h1 h2 h3)
theorem xr_i2b (C : xCx E y cc nL ret hs d mc ms Post) {x v : Int32} (hd : decode cc pc = .ok (.i2b, 1)) (n : Nat) (hn : pc + 1 = n) (hv : x.toInt8.toInt32 = v) (k : xG E X cells slots n L (.int v :: st)) : xG E X cells slots pc L (.int x :: st) := by
  subst hn
  intro H locs ls h1 h2 h3
  exact lv_i2b C.1 C.2.1 hd hv (k H locs ls h1 h2 h3)
theorem xr_iushr (C : xCx E y cc nL ret hs d mc ms Post) {x z v : Int32} (hd : decode cc pc = .ok (.iushr, 1)) (n : Nat) (hn : pc + 1 = n) (hv : (x.toUInt32 >>> (z.toUInt32 &&& Int32.toUInt32 31)).toInt32 = v) (k : xG E X cells slots n L (.int v :: st)) : xG E X cells slots pc L (.int z :: .int x :: st) := by
  subst hn
  intro H locs ls h1 h2 h3
  exact lv_iushr C.1 C.2.1 hd hv (k H locs ls h1 h2 h3)
theorem xr_lushr (C : xCx E y cc nL ret hs d mc ms Post) {x v : Int64} {z : Int32} (hd : decode cc pc = .ok (.lushr, 1)) (n : Nat) (hn : pc + 1 = n) (hv : (x.toUInt64 >>> (z.toInt64.toUInt64 &&& Int64.toUInt64 63)).toInt64 = v) (k : xG E X cells slots n L (.long v :: st)) : xG E X cells slots pc L (.int z :: .long x :: st) := by
  subst hn
  intro H locs ls h1 h2 h3
  exact lv_lushr C.1 C.2.1 hd hv (k H locs ls h1 h2 h3)
theorem xr_lshl (C : xCx E y cc nL ret hs d mc ms Post) {x v : Int64} {z : Int32} (hd : decode cc pc = .ok (.lshl, 1)) (n : Nat) (hn : pc + 1 = n) (hv : x <<< (z.toInt64 &&& 63) = v) (k : xG E X cells slots n L (.long v :: st)) : xG E X cells slots pc L (.int z :: .long x :: st) := by
  subst hn
  intro H locs ls h1 h2 h3
  exact lv_lshl C.1 C.2.1 hd hv (k H locs ls h1 h2 h3)
theorem xr_lcmp (C : xCx E y cc nL ret hs d mc ms Post) {x z : Int64} (hd : decode cc pc = .ok (.lcmp, 1)) (n : Nat) (hn : pc + 1 = n) (k : xG E X cells slots n L (.int (lg_cmp x z) :: st)) : xG E X cells slots pc L (.long z :: .long x :: st) := by
  subst hn
  intro H locs ls h1 h2 h3
  exact W.lcmp C.1 C.2.1 hd (k H locs ls h1 h2 h3)
theorem xr_dup (C : xCx E y cc nL ret hs d mc ms Post) {va : Value} (hd : decode cc pc = .ok (.dup, 1)) (n : Nat) (hn : pc + 1 = n) (hva : va.category = 1) (k : xG E X cells slots n L (va :: va :: st)) : xG E X cells slots pc L (va :: st) := by
  subst hn
  intro H locs ls h1 h2 h3
  exact lv_dup C.1 C.2.1 hd hva (k H locs ls h1 h2 h3)
theorem xr_pop (C : xCx E y cc nL ret hs d mc ms Post) {va : Value} (hd : decode cc pc = .ok (.pop, 1)) (n : Nat) (hn : pc + 1 = n) (hva : va.category = 1) (k : xG E X cells slots n L (st)) : xG E X cells slots pc L (va :: st) := by
  subst hn
  intro H locs ls h1 h2 h3
  exact lv_pop C.1 C.2.1 hd hva (k H locs ls h1 h2 h3)
theorem xr_dup_x1 (C : xCx E y cc nL ret hs d mc ms Post) {va vb : Value} (hd : decode cc pc = .ok (.dup_x1, 1)) (n : Nat) (hn : pc + 1 = n) (hva : va.category = 1) (hvb : vb.category = 1) (k : xG E X cells slots n L (va :: vb :: va :: st)) : xG E X cells slots pc L (va :: vb :: st) := by
  subst hn
  intro H locs ls h1 h2 h3
  exact lv_dup_x1 C.1 C.2.1 hd hva hvb (k H locs ls h1 h2 h3)
theorem xr_dup_x2 (C : xCx E y cc nL ret hs d mc ms Post) {va vb vd : Value} (hd : decode cc pc = .ok (.dup_x2, 1)) (n : Nat) (hn : pc + 1 = n) (hva : va.category = 1) (hvb : vb.category = 1) (hvd : vd.category = 1) (k : xG E X cells slots n L (va :: vb :: vd :: va :: st)) : xG E X cells slots pc L (va :: vb :: vd :: st) := by
  subst hn
  intro H locs ls h1 h2 h3
  exact lv_dup_x2 C.1 C.2.1 hd hva hvb hvd (k H locs ls h1 h2 h3)
theorem xr_dup2_11 (C : xCx E y cc nL ret hs d mc ms Post) {va vb : Value} (hd : decode cc pc = .ok (.dup2, 1)) (n : Nat) (hn : pc + 1 = n) (hva : va.category = 1) (hvb : vb.category = 1) (k : xG E X cells slots n L (va :: vb :: va :: vb :: st)) : xG E X cells slots pc L (va :: vb :: st) := by
  subst hn
  intro H locs ls h1 h2 h3
  exact lv_dup2_11 C.1 C.2.1 hd hva hvb (k H locs ls h1 h2 h3)
theorem xr_ldc (C : xCx E y cc nL ret hs d mc ms Post) {i : Nat} {v : Int32} (hd : decode cc pc = .ok (.ldc i, 2)) (n : Nat) (hn : pc + 2 = n) (hw : Cond.constant y.cls i v ∈ xT) (k : xG E X cells slots n L (.int v :: st)) : xG E X cells slots pc L st := by
  subst hn
  intro H locs ls h1 h2 h3
  exact lv_ldc C.1 C.2.1 C.ow (C.ts _ hw) hd (k H locs ls h1 h2 h3)
theorem xr_ldc2 (C : xCx E y cc nL ret hs d mc ms Post) {i : Nat} {v : Int64} (hd : decode cc pc = .ok (.ldc2_w i, 3)) (n : Nat) (hn : pc + 3 = n) (hw : Cond.constantLong y.cls i v ∈ xT) (k : xG E X cells slots n L (.long v :: st)) : xG E X cells slots pc L st := by
  subst hn
  intro H locs ls h1 h2 h3
  exact lv_ldc2 C.1 C.2.1 C.ow (C.ts _ hw) hd (k H locs ls h1 h2 h3)
theorem xr_istore_n (C : xCx E y cc nL ret hs d mc ms Post) {i : Fin 4} {x : Int32} (hd : decode cc pc = .ok (.istore_n i, 1)) (n : Nat) (hn : pc + 1 = n) (hi : Nat.blt (i : Nat) nL = true) (hp : xprev L i = true) (k : xG E X cells slots n (L.set i (some (.int x))) st) : xG E X cells slots pc L (.int x :: st) := by
  subst hn
  intro H locs ls h1 h2 h3
  exact lv_istore_n C.1 C.2.1 hd rfl h3.has (by rw [C.nl]; exact Nat.blt_eq.mp hi) rfl (fun ls' h => k H locs ls' h1 h2 (xLoc.set1 (ls := ls) h hp))
theorem xr_istore (C : xCx E y cc nL ret hs d mc ms Post) {i : Nat} {x : Int32} (hd : decode cc pc = .ok (.istore i, 2)) (n : Nat) (hn : pc + 2 = n) (hi : Nat.blt i nL = true) (hp : xprev L i = true) (k : xG E X cells slots n (L.set i (some (.int x))) st) : xG E X cells slots pc L (.int x :: st) := by
  subst hn
  intro H locs ls h1 h2 h3
  exact lv_istore C.1 C.2.1 hd h3.has (by rw [C.nl]; exact Nat.blt_eq.mp hi) rfl (fun ls' h => k H locs ls' h1 h2 (xLoc.set1 (ls := ls) h hp))
theorem xr_astore_n (C : xCx E y cc nL ret hs d mc ms Post) {i : Fin 4} {x : Nat} (hd : decode cc pc = .ok (.astore_n i, 1)) (n : Nat) (hn : pc + 1 = n) (hi : Nat.blt (i : Nat) nL = true) (hp : xprev L i = true) (k : xG E X cells slots n (L.set i (some (.ref x))) st) : xG E X cells slots pc L (.ref x :: st) := by
  subst hn
  intro H locs ls h1 h2 h3
  exact lv_astore_n C.1 C.2.1 hd rfl h3.has (by rw [C.nl]; exact Nat.blt_eq.mp hi) rfl (fun ls' h => k H locs ls' h1 h2 (xLoc.set1 (ls := ls) h hp))
theorem xr_astore (C : xCx E y cc nL ret hs d mc ms Post) {i : Nat} {x : Nat} (hd : decode cc pc = .ok (.astore i, 2)) (n : Nat) (hn : pc + 2 = n) (hi : Nat.blt i nL = true) (hp : xprev L i = true) (k : xG E X cells slots n (L.set i (some (.ref x))) st) : xG E X cells slots pc L (.ref x :: st) := by
  subst hn
  intro H locs ls h1 h2 h3
  exact lv_astore C.1 C.2.1 hd h3.has (by rw [C.nl]; exact Nat.blt_eq.mp hi) rfl (fun ls' h => k H locs ls' h1 h2 (xLoc.set1 (ls := ls) h hp))
theorem xr_astore_nN (C : xCx E y cc nL ret hs d mc ms Post) {i : Fin 4} (hd : decode cc pc = .ok (.astore_n i, 1)) (n : Nat) (hn : pc + 1 = n) (hi : Nat.blt (i : Nat) nL = true) (hp : xprev L i = true) (k : xG E X cells slots n (L.set i (some .null)) st) : xG E X cells slots pc L (.null :: st) := by
  subst hn
  intro H locs ls h1 h2 h3
  exact lv_astore_nN C.1 C.2.1 hd rfl h3.has (by rw [C.nl]; exact Nat.blt_eq.mp hi) rfl (fun ls' h => k H locs ls' h1 h2 (xLoc.set1 (ls := ls) h hp))
theorem xr_lstore_n (C : xCx E y cc nL ret hs d mc ms Post) {i : Fin 4} {x : Int64} (hd : decode cc pc = .ok (.lstore_n i, 1)) (n : Nat) (hn : pc + 1 = n) (hi : Nat.blt ((i : Nat) + 1) nL = true) (hp : xprev L i = true) (k : xG E X cells slots n ((L.set i (some (.long x))).set (i + 1) none) st) : xG E X cells slots pc L (.long x :: st) := by
  subst hn
  intro H locs ls h1 h2 h3
  exact lv_lstore_n C.1 C.2.1 hd rfl h3.has (by rw [C.nl]; exact Nat.blt_eq.mp hi) rfl (fun ls' h => k H locs ls' h1 h2 (xLoc.set2 (ls := ls) h hp))
theorem xr_lstore (C : xCx E y cc nL ret hs d mc ms Post) {i : Nat} {x : Int64} (hd : decode cc pc = .ok (.lstore i, 2)) (n : Nat) (hn : pc + 2 = n) (hi : Nat.blt (i + 1) nL = true) (hp : xprev L i = true) (k : xG E X cells slots n ((L.set i (some (.long x))).set (i + 1) none) st) : xG E X cells slots pc L (.long x :: st) := by
  subst hn
  intro H locs ls h1 h2 h3
  exact lv_lstore C.1 C.2.1 hd h3.has (by rw [C.nl]; exact Nat.blt_eq.mp hi) rfl (fun ls' h => k H locs ls' h1 h2 (xLoc.set2 (ls := ls) h hp))
theorem xr_iinc (C : xCx E y cc nL ret hs d mc ms Post) {i : Nat} {j : Int} {x v : Int32} (hd : decode cc pc = .ok (.iinc i j, 3)) (n : Nat) (hn : pc + 3 = n) (hi : Nat.blt i nL = true) (hp : xprev L i = true) (hl : L[i]? = some (some (.int x))) (hv : Int32.ofInt j = v) (k : xG E X cells slots n (L.set i (some (.int (x + v)))) st) : xG E X cells slots pc L st := by
  subst hn
  intro H locs ls h1 h2 h3
  obtain ⟨q, hq⟩ := List.getElem?_of_mem ((xas_mem (L := L) (q := (i, .int x))).mpr hl)
  exact lv_iinc C.1 C.2.1 hd h3.has hq (by rw [hv]) (by rw [C.nl]; exact Nat.blt_eq.mp hi) rfl (fun ls' h => k H locs ls' h1 h2 (xLoc.set1 (ls := ls) h hp))
theorem xr_if_eq (C : xCx E y cc nL ret hs d mc ms Post) {x : Int32} {off : Int} (hd : decode cc pc = .ok (.ifCond .eq off, 3)) (n tgt : Nat) (hn : pc + 3 = n) (ht : (pc : Int) + off = (tgt : Int)) (kt : x = 0 → xG E X cells slots tgt L st) (kf : ¬ x = 0 → xG E X cells slots n L st) : xG E X cells slots pc L (.int x :: st) := by
  subst hn
  intro H locs ls h1 h2 h3
  exact lv_if_eq C.1 C.2.1 hd ht (fun q => kt q H locs ls h1 h2 h3) (fun q => kf q H locs ls h1 h2 h3)
theorem xr_icmp_eq (C : xCx E y cc nL ret hs d mc ms Post) {x z : Int32} {off : Int} (hd : decode cc pc = .ok (.if_icmp .eq off, 3)) (n tgt : Nat) (hn : pc + 3 = n) (ht : (pc : Int) + off = (tgt : Int)) (kt : x = z → xG E X cells slots tgt L st) (kf : ¬ x = z → xG E X cells slots n L st) : xG E X cells slots pc L (.int z :: .int x :: st) := by
  subst hn
  intro H locs ls h1 h2 h3
  exact lv_icmp_eq C.1 C.2.1 hd ht (fun q => kt q H locs ls h1 h2 h3) (fun q => kf q H locs ls h1 h2 h3)
theorem xr_if_ne (C : xCx E y cc nL ret hs d mc ms Post) {x : Int32} {off : Int} (hd : decode cc pc = .ok (.ifCond .ne off, 3)) (n tgt : Nat) (hn : pc + 3 = n) (ht : (pc : Int) + off = (tgt : Int)) (kt : ¬ x = 0 → xG E X cells slots tgt L st) (kf : x = 0 → xG E X cells slots n L st) : xG E X cells slots pc L (.int x :: st) := by
  subst hn
  intro H locs ls h1 h2 h3
  exact lv_if_ne C.1 C.2.1 hd ht (fun q => kt q H locs ls h1 h2 h3) (fun q => kf q H locs ls h1 h2 h3)
theorem xr_icmp_ne (C : xCx E y cc nL ret hs d mc ms Post) {x z : Int32} {off : Int} (hd : decode cc pc = .ok (.if_icmp .ne off, 3)) (n tgt : Nat) (hn : pc + 3 = n) (ht : (pc : Int) + off = (tgt : Int)) (kt : ¬ x = z → xG E X cells slots tgt L st) (kf : x = z → xG E X cells slots n L st) : xG E X cells slots pc L (.int z :: .int x :: st) := by
  subst hn
  intro H locs ls h1 h2 h3
  exact lv_icmp_ne C.1 C.2.1 hd ht (fun q => kt q H locs ls h1 h2 h3) (fun q => kf q H locs ls h1 h2 h3)
theorem xr_if_lt (C : xCx E y cc nL ret hs d mc ms Post) {x : Int32} {off : Int} (hd : decode cc pc = .ok (.ifCond .lt off, 3)) (n tgt : Nat) (hn : pc + 3 = n) (ht : (pc : Int) + off = (tgt : Int)) (kt : x < 0 → xG E X cells slots tgt L st) (kf : ¬ x < 0 → xG E X cells slots n L st) : xG E X cells slots pc L (.int x :: st) := by
  subst hn
  intro H locs ls h1 h2 h3
  exact lv_if_lt C.1 C.2.1 hd ht (fun q => kt q H locs ls h1 h2 h3) (fun q => kf q H locs ls h1 h2 h3)
theorem xr_icmp_lt (C : xCx E y cc nL ret hs d mc ms Post) {x z : Int32} {off : Int} (hd : decode cc pc = .ok (.if_icmp .lt off, 3)) (n tgt : Nat) (hn : pc + 3 = n) (ht : (pc : Int) + off = (tgt : Int)) (kt : x < z → xG E X cells slots tgt L st) (kf : ¬ x < z → xG E X cells slots n L st) : xG E X cells slots pc L (.int z :: .int x :: st) := by
  subst hn
  intro H locs ls h1 h2 h3
  exact lv_icmp_lt C.1 C.2.1 hd ht (fun q => kt q H locs ls h1 h2 h3) (fun q => kf q H locs ls h1 h2 h3)
theorem xr_if_ge (C : xCx E y cc nL ret hs d mc ms Post) {x : Int32} {off : Int} (hd : decode cc pc = .ok (.ifCond .ge off, 3)) (n tgt : Nat) (hn : pc + 3 = n) (ht : (pc : Int) + off = (tgt : Int)) (kt : 0 ≤ x → xG E X cells slots tgt L st) (kf : ¬ 0 ≤ x → xG E X cells slots n L st) : xG E X cells slots pc L (.int x :: st) := by
  subst hn
  intro H locs ls h1 h2 h3
  exact lv_if_ge C.1 C.2.1 hd ht (fun q => kt q H locs ls h1 h2 h3) (fun q => kf q H locs ls h1 h2 h3)
theorem xr_icmp_ge (C : xCx E y cc nL ret hs d mc ms Post) {x z : Int32} {off : Int} (hd : decode cc pc = .ok (.if_icmp .ge off, 3)) (n tgt : Nat) (hn : pc + 3 = n) (ht : (pc : Int) + off = (tgt : Int)) (kt : z ≤ x → xG E X cells slots tgt L st) (kf : ¬ z ≤ x → xG E X cells slots n L st) : xG E X cells slots pc L (.int z :: .int x :: st) := by
  subst hn
  intro H locs ls h1 h2 h3
  exact lv_icmp_ge C.1 C.2.1 hd ht (fun q => kt q H locs ls h1 h2 h3) (fun q => kf q H locs ls h1 h2 h3)
theorem xr_if_gt (C : xCx E y cc nL ret hs d mc ms Post) {x : Int32} {off : Int} (hd : decode cc pc = .ok (.ifCond .gt off, 3)) (n tgt : Nat) (hn : pc + 3 = n) (ht : (pc : Int) + off = (tgt : Int)) (kt : 0 < x → xG E X cells slots tgt L st) (kf : ¬ 0 < x → xG E X cells slots n L st) : xG E X cells slots pc L (.int x :: st) := by
  subst hn
  intro H locs ls h1 h2 h3
  exact lv_if_gt C.1 C.2.1 hd ht (fun q => kt q H locs ls h1 h2 h3) (fun q => kf q H locs ls h1 h2 h3)
theorem xr_icmp_gt (C : xCx E y cc nL ret hs d mc ms Post) {x z : Int32} {off : Int} (hd : decode cc pc = .ok (.if_icmp .gt off, 3)) (n tgt : Nat) (hn : pc + 3 = n) (ht : (pc : Int) + off = (tgt : Int)) (kt : z < x → xG E X cells slots tgt L st) (kf : ¬ z < x → xG E X cells slots n L st) : xG E X cells slots pc L (.int z :: .int x :: st) := by
  subst hn
  intro H locs ls h1 h2 h3
  exact lv_icmp_gt C.1 C.2.1 hd ht (fun q => kt q H locs ls h1 h2 h3) (fun q => kf q H locs ls h1 h2 h3)
theorem xr_if_le (C : xCx E y cc nL ret hs d mc ms Post) {x : Int32} {off : Int} (hd : decode cc pc = .ok (.ifCond .le off, 3)) (n tgt : Nat) (hn : pc + 3 = n) (ht : (pc : Int) + off = (tgt : Int)) (kt : x ≤ 0 → xG E X cells slots tgt L st) (kf : ¬ x ≤ 0 → xG E X cells slots n L st) : xG E X cells slots pc L (.int x :: st) := by
  subst hn
  intro H locs ls h1 h2 h3
  exact lv_if_le C.1 C.2.1 hd ht (fun q => kt q H locs ls h1 h2 h3) (fun q => kf q H locs ls h1 h2 h3)
theorem xr_icmp_le (C : xCx E y cc nL ret hs d mc ms Post) {x z : Int32} {off : Int} (hd : decode cc pc = .ok (.if_icmp .le off, 3)) (n tgt : Nat) (hn : pc + 3 = n) (ht : (pc : Int) + off = (tgt : Int)) (kt : x ≤ z → xG E X cells slots tgt L st) (kf : ¬ x ≤ z → xG E X cells slots n L st) : xG E X cells slots pc L (.int z :: .int x :: st) := by
  subst hn
  intro H locs ls h1 h2 h3
  exact lv_icmp_le C.1 C.2.1 hd ht (fun q => kt q H locs ls h1 h2 h3) (fun q => kf q H locs ls h1 h2 h3)
theorem xr_goto (C : xCx E y cc nL ret hs d mc ms Post) {off : Int} (hd : decode cc pc = .ok (.goto off, 3)) (tgt : Nat) (ht : (pc : Int) + off = (tgt : Int)) (k : xG E X cells slots tgt L st) : xG E X cells slots pc L st := by
  intro H locs ls h1 h2 h3
  exact lv_goto C.1 C.2.1 hd ht (k H locs ls h1 h2 h3)
theorem xr_ifnonnull (C : xCx E y cc nL ret hs d mc ms Post) {a : Nat} {off : Int} (hd : decode cc pc = .ok (.ifnonnull off, 3)) (tgt : Nat) (ht : (pc : Int) + off = (tgt : Int)) (k : xG E X cells slots tgt L st) : xG E X cells slots pc L (.ref a :: st) := by
  intro H locs ls h1 h2 h3
  exact lv_ifnonnull C.1 C.2.1 hd ht (k H locs ls h1 h2 h3)
theorem xr_ifnull (C : xCx E y cc nL ret hs d mc ms Post) {a : Nat} {off : Int} (hd : decode cc pc = .ok (.ifnull off, 3)) (n : Nat) (hn : pc + 3 = n) (k : xG E X cells slots n L st) : xG E X cells slots pc L (.ref a :: st) := by
  subst hn
  intro H locs ls h1 h2 h3
  exact lv_ifnull C.1 C.2.1 hd (k H locs ls h1 h2 h3)
theorem xr_acmp_eq (C : xCx E y cc nL ret hs d mc ms Post) {a b : Nat} {off : Int} (hd : decode cc pc = .ok (.if_acmp .eq off, 3)) (n tgt : Nat) (hn : pc + 3 = n) (ht : (pc : Int) + off = (tgt : Int)) (kt : a = b → xG E X cells slots tgt L st) (kf : ¬ a = b → xG E X cells slots n L st) : xG E X cells slots pc L (.ref b :: .ref a :: st) := by
  subst hn
  intro H locs ls h1 h2 h3
  exact lv_acmp_eq (rx := some a) (ry := some b) C.1 C.2.1 hd ht (fun q => kt (Option.some.inj q) H locs ls h1 h2 h3) (fun q => kf (fun e => q (by rw [e])) H locs ls h1 h2 h3)
theorem xr_acmp_ne (C : xCx E y cc nL ret hs d mc ms Post) {a b : Nat} {off : Int} (hd : decode cc pc = .ok (.if_acmp .ne off, 3)) (n tgt : Nat) (hn : pc + 3 = n) (ht : (pc : Int) + off = (tgt : Int)) (kt : ¬ a = b → xG E X cells slots tgt L st) (kf : a = b → xG E X cells slots n L st) : xG E X cells slots pc L (.ref b :: .ref a :: st) := by
  subst hn
  intro H locs ls h1 h2 h3
  exact lv_acmp_ne (rx := some a) (ry := some b) C.1 C.2.1 hd ht (fun q => kt (fun e => q (by rw [e])) H locs ls h1 h2 h3) (fun q => kf (Option.some.inj q) H locs ls h1 h2 h3)
theorem xr_tableOut (C : xCx E y cc nL ret hs d mc ms Post) {dflt lo hi : Int} {offs : Array Int} {len : Nat} {x : Int32} (hd : decode cc pc = .ok (.tableswitch dflt lo hi offs, len)) (tgt : Nat) (h : x.toInt < lo ∨ hi < x.toInt) (ht : (pc : Int) + dflt = (tgt : Int)) (k : xG E X cells slots tgt L st) : xG E X cells slots pc L (.int x :: st) := by
  intro H locs ls h1 h2 h3
  exact lv_tableOut C.1 C.2.1 hd h ht (k H locs ls h1 h2 h3)
theorem xr_tableIn (C : xCx E y cc nL ret hs d mc ms Post) {dflt lo hi : Int} {offs : Array Int} {len : Nat} {x : Int32} {off : Int} (hd : decode cc pc = .ok (.tableswitch dflt lo hi offs, len)) (tgt : Nat) (g1 : ¬ x.toInt < lo) (g2 : ¬ hi < x.toInt) (ho : offs[(x.toInt - lo).toNat]? = some off) (ht : (pc : Int) + off = (tgt : Int)) (k : xG E X cells slots tgt L st) : xG E X cells slots pc L (.int x :: st) := by
  intro H locs ls h1 h2 h3
  exact lv_tableIn C.1 C.2.1 hd g1 g2 ho ht (k H locs ls h1 h2 h3)
theorem xr_lookup (C : xCx E y cc nL ret hs d mc ms Post) {dflt : Int} {ps : Array (Int × Int)} {len : Nat} {x : Int32} {off : Int} (hd : decode cc pc = .ok (.lookupswitch dflt ps, len)) (tgt : Nat) (hp : (ps.toList.zip (ps.toList.drop 1)).all (fun (a, next) => a.1 < next.1) = true) (ho : Op.lookupswitch.offset ps.toList dflt x.toInt = off) (ht : (pc : Int) + off = (tgt : Int)) (k : xG E X cells slots tgt L st) : xG E X cells slots pc L (.int x :: st) := by
  intro H locs ls h1 h2 h3
  exact lv_lookup C.1 C.2.1 hd hp ho ht (k H locs ls h1 h2 h3)
end XR
end
section
/-! Rows that touch the heap. -/
theorem xP1 {D : va_G} {a : Nat} {o : Nat × List Value} {H : Heap} (h : xat D (a, .inr o) H) : va_P D xcl [(a, .inr o)] H := fun k r hr => by
  cases k with
  | zero => cases hr; exact h
  | succ k => simp at hr
theorem xRep.cell {D : va_G} {H0 : Heap} {X : xH} {H : Heap} {a : Nat} {x : ClassId × vp_A} (h : xRep D H0 X H) (hX : X a = some (.inl x)) : ∃ c : Cell, H[a]? = some c ∧ xac x.1 x.2.1 (xav x.2) c := (h.2.2 a _ hX).1
theorem xRep.old {D : va_G} {H0 : Heap} {X : xH} {H : Heap} {a : Nat} {v : va_E} (h : xRep D H0 X H) (hX : X a = some v) (hz : ¬ xz v) : H0.size ≤ a := (h.2.2 a v hX).2.resolve_right hz
theorem xsm {args : Array Value} {s : State} {ref o nm ds : String} (hts : ∀ w ∈ xT, w.before args s = true) (h : ref = o ∨ Cond.sameField ref o nm ds ∈ xT) : ∀ x, s.fieldFound? o nm ds = some x → s.fieldFound? ref nm ds = some x := fun x hx => h.elim (fun e => by rw [e]; exact hx) (fun hw => u_same (hts _ hw) x hx)
def xCl (ci : Nat) (C : String) (T : u_T) (N : Nat) (ty : Nat → FieldType) : Prop := xcl[ci]? = some (C, T, N) ∧ (∀ w ∈ u_ws C T N, w ∈ xT) ∧ (∀ k, k < N → parseFieldDescriptor (T k).2.2.1 = some (ty k)) ∧ (∀ a, a < N → ∀ b, b < N → a ≠ b → (T a).2.1 ≠ (T b).2.1)
theorem xS_more {A : Nat → Prop} {H0 H H' : Heap} {locs : List Loc} (h : va_S A H0 H locs) (z : H.size ≤ H'.size) (o : ∀ q : Nat, q < H.size → H'[q]? = H[q]?) : va_S A H0 H' locs := ⟨Nat.le_trans h.1 z, fun q h1 h2 => (o q (Nat.lt_of_lt_of_le h1 h.1)).trans (h.2.1 q h1 h2), h.2.2⟩
section XRH
variable {E : xE} {y : MethodName} {cc : ByteArray} {nL : Nat} {ret : Option FieldType} {hs : List (Nat × Nat × Nat × Nat)} {d mc ms : Nat} {Post : xO → xH → Prop} {X : xH} {cells slots pc : Nat} {L : List (Option Value)} {st : List Value}
theorem xCx.rc (C : xCx E y cc nL ret hs d mc ms Post) {k : Nat} (h : k ≤ mc) : k ≤ E.R.cells := by rw [C.rm]; exact h
theorem xCx.rs (C : xCx E y cc nL ret hs d mc ms Post) {k : Nat} (h : k ≤ ms) : k ≤ E.R.slots := by rw [C.rm]; exact h
theorem xr_get (C : xCx E y cc nL ret hs d mc ms Post) {ci N idx a : Nat} {fs : List Value} {v : Value} {Cn ref : String} {T : u_T} {ty : Nat → FieldType} (K : xCl ci Cn T N ty) (k : Nat) (hd : decode cc pc = .ok (.getfield idx, 3)) (n : Nat) (hn : pc + 3 = n) (hl : Cond.fieldLink y.cls idx ref (T k).2.1 (T k).2.2.1 ∈ xT) (hsm : ref = (T k).1 ∨ Cond.sameField ref (T k).1 (T k).2.1 (T k).2.2.1 ∈ xT) (hk : Nat.blt k N = true) (hX : X a = some (.inr (ci, fs))) (hv : fs[k]? = some v) (kk : xG E X cells slots n L (v :: st)) : xG E X cells slots pc L (.ref a :: st) := by
  subst hn
  intro H locs ls h1 h2 h3
  exact va_get (ws := [(a, .inr (ci, fs))]) C.1 C.2.1 C.ts K.2.1 C.ow C.kk.1 (xP1 (h1.2.2 a _ hX).1) 0 rfl K.1 k (Nat.blt_eq.mp hk) (C.ts _ hl) (xsm C.ts hsm) hv hd (kk H locs ls h1 h2 h3)
theorem xr_put (C : xCx E y cc nL ret hs d mc ms Post) {ci N idx a : Nat} {fs fs' : List Value} {v : Value} {Cn ref : String} {T : u_T} {ty : Nat → FieldType} (K : xCl ci Cn T N ty) (k : Nat) (hd : decode cc pc = .ok (.putfield idx, 3)) (n : Nat) (hn : pc + 3 = n) (hl : Cond.fieldLink y.cls idx ref (T k).2.1 (T k).2.2.1 ∈ xT) (hsm : ref = (T k).1 ∨ Cond.sameField ref (T k).1 (T k).2.1 (T k).2.2.1 ∈ xT) (hk : Nat.blt k N = true) (hfin : (T k).2.2.2 = false) (hnar : narrow (ty k) v = v) (hfit : fits (ty k) v = true) (hX : X a = some (.inr (ci, fs))) (hlen : Nat.blt k fs.length = true) (hfs : fs.set k v = fs') (kk : xG E (xup X a (.inr (ci, fs'))) cells slots n L st) : xG E X cells slots pc L (v :: .ref a :: st) := by
  subst hn
  subst hfs
  have hk : k < N := Nat.blt_eq.mp hk
  have hlen : k < fs.length := Nat.blt_eq.mp hlen
  intro H locs ls h1 h2 h3
  have hK := C.kk.1
  have hap := va_apart (own := y.cls) C.ts K.2.1 ty K.2.2.1 K.2.2.2 hK K.1
  obtain ⟨r, g1, cell, q1, q2, q3, q4⟩ := (h1.2.2 a _ hX).1
  have hr : r = (Cn, T, N) := Option.some.inj (g1.symm.trans K.1)
  subst hr
  obtain ⟨hS, hfc, kC, hkC, hkind⟩ := hK.1 ci _ K.1
  obtain ⟨cf, kf, fi, f, hi, hsl⟩ := hS k hk
  have hlay := C.ts _ (K.2.1 _ (u_in_lay hk))
  unfold u_lay at hlay
  rw [if_neg (by rw [hfin]; decide)] at hlay
  have hst := (u_facts hfc hkC (u_lays C.ts K.2.1 hk) hi).1
  have h6 := u_store hfc hkC hkind hlay hi (K.2.2.1 k hk) hnar hfit
  refine W.putK C.1 C.2.1 (f := f) ⟨C.ow, C.ts _ hl, ⟨_, _, _, xsm C.ts hsm _ hi⟩, hst⟩ (by rw [q2]; exact h6) q1 q3 (by rw [hsl]; exact k2_hasslot (q4 k hk)) rfl rfl hd fun H' e1 e2 e3 => ?_
  rw [hsl] at e1 ⊢
  have hat : xat E.D (a, .inr (ci, fs.set k v)) H' := ⟨_, K.1, t_OB.to (V := updV (vp_V fs) k v) ⟨_, e1, q2, q3, t_set q4 hap hk v⟩ (fun j _ => vp_updV_set hlen v j)⟩
  exact kk H' _ ls (h1.put hX (fun z => z) hat e2 e3) (h2.put e2 e3 (h1.old hX (fun z => z))) h3
theorem xr_putF (C : xCx E y cc nL ret hs d mc ms Post) {ci N idx a : Nat} {fs fs' : List Value} {v : Value} {Cn ref : String} {T : u_T} {ty : Nat → FieldType} (K : xCl ci Cn T N ty) (k : Nat) (hd : decode cc pc = .ok (.putfield idx, 3)) (n : Nat) (hn : pc + 3 = n) (hl : Cond.fieldLink y.cls idx ref (T k).2.1 (T k).2.2.1 ∈ xT) (hsm : ref = (T k).1 ∨ Cond.sameField ref (T k).1 (T k).2.1 (T k).2.2.1 ∈ xT) (hk : Nat.blt k N = true) (hfin : (T k).2.2.2 = true) (hini : y.name = "<init>") (hdecl : (T k).1 = y.cls) (hnar : narrow (ty k) v = v) (hfit : fits (ty k) v = true) (hX : X a = some (.inr (ci, fs))) (hlen : Nat.blt k fs.length = true) (hfs : fs.set k v = fs') (kk : xG E (xup X a (.inr (ci, fs'))) cells slots n L st) : xG E X cells slots pc L (v :: .ref a :: st) := by
  subst hn
  subst hfs
  have hk : k < N := Nat.blt_eq.mp hk
  have hlen : k < fs.length := Nat.blt_eq.mp hlen
  intro H locs ls h1 h2 h3
  have hK := C.kk.1
  have hap := va_apart (own := y.cls) C.ts K.2.1 ty K.2.2.1 K.2.2.2 hK K.1
  obtain ⟨r, g1, cell, q1, q2, q3, q4⟩ := (h1.2.2 a _ hX).1
  have hr : r = (Cn, T, N) := Option.some.inj (g1.symm.trans K.1)
  subst hr
  obtain ⟨hS, hfc, kC, hkC, hkind⟩ := hK.1 ci _ K.1
  obtain ⟨cf, kf, fi, f, hi, hsl⟩ := hS k hk
  have hlay := C.ts _ (K.2.1 _ (u_in_lay hk))
  unfold u_lay at hlay
  rw [if_pos hfin] at hlay
  have hst := (u_facts hfc hkC (u_lays C.ts K.2.1 hk) hi).1
  have hcf : E.m.cls = cf := by
    obtain ⟨_, _, c', _, _, _, -, -, hf', -, -, -, hown2, -⟩ := Cond.laysFinal_spec hlay
    have e1 : c' = cf := by have := hi.symm.trans hf'; simp at this; exact this.1.symm
    rw [hdecl] at hown2
    rw [← e1]; exact Option.some.inj (C.ow.symm.trans hown2)
  have h6 := u_fits hfc hkC hkind (Or.inr hlay) hi (K.2.2.1 k hk) hnar hfit
  refine W.putFinK C.1 C.2.1 C.ow (C.ts _ hl) (xsm C.ts hsm _ hi) hst hcf (C.nm.trans hini) (by rw [q2]; exact h6) q1 q3 (by rw [hsl]; exact k2_hasslot (q4 k hk)) rfl rfl hd fun H' e1 e2 e3 => ?_
  rw [hsl] at e1 ⊢
  have hat : xat E.D (a, .inr (ci, fs.set k v)) H' := ⟨_, K.1, t_OB.to (V := updV (vp_V fs) k v) ⟨_, e1, q2, q3, t_set q4 hap hk v⟩ (fun j _ => vp_updV_set hlen v j)⟩
  exact kk H' _ ls (h1.put hX (fun z => z) hat e2 e3) (h2.put e2 e3 (h1.old hX (fun z => z))) h3
theorem xr_alen (C : xCx E y cc nL ret hs d mc ms Post) {a t0 : Nat} {cA : ClassId} {x : vp_A} {ty : FieldType} (ht : (xty E.D)[t0]? = some (cA, ty)) (hd : decode cc pc = .ok (.arraylength, 1)) (n : Nat) (hn : pc + 1 = n) (hX : X a = some (.inl (cA, x))) (kk : xG E X cells slots n L (.int (nI x.1) :: st)) : xG E X cells slots pc L (.ref a :: st) := by
  subst hn
  intro H locs ls h1 h2 h3
  obtain ⟨c, g1, g2⟩ := h1.cell hX
  exact W.alen (n := nI x.1) C.1 C.2.1 g1 (g2.of (C.kk.1.2 t0 _ ht).1) (by rw [g2.size]; rfl) rfl rfl hd (kk H locs ls h1 h2 h3)
theorem xr_bald (C : xCx E y cc nL ret hs d mc ms Post) {a N j : Nat} {f : Nat → Int32} {i : Int32} (hd : decode cc pc = .ok (.baload, 1)) (n : Nat) (hn : pc + 1 = n) (hX : X a = some (.inl (E.D.1 100, N, .inl f))) (hi : i = nI j) (hj : j < N) (hN : N < 2 ^ 31) (kk : xG E X cells slots n L (.int (f j) :: st)) : xG E X cells slots pc L (.int i :: .ref a :: st) := by
  subst hn
  subst hi
  intro H locs ls h1 h2 h3
  obtain ⟨c, g1, g2⟩ := h1.cell hX
  have hclm : (nI j).toNatClampNeg = j := nI_clamp (by omega)
  exact W.bald (v := .int (f j)) C.1 C.2.1 g1 (g2.of (C.kk.1.2 0 _ rfl).1) g2.2.1 (by rw [g2.size]; exact vp_in_nI hj hN) (by rw [hclm]; exact g2.read hj) rfl rfl hd (kk H locs ls h1 h2 h3)
theorem xr_bast (C : xCx E y cc nL ret hs d mc ms Post) {a N j : Nat} {f : Nat → Int32} {i : Int32} {x : Int32} (hd : decode cc pc = .ok (.bastore, 1)) (n : Nat) (hn : pc + 1 = n) (hX : X a = some (.inl (E.D.1 100, N, .inl f))) (hi : i = nI j) (hj : j < N) (hN : N < 2 ^ 31) (kk : xG E (xup X a (.inl (E.D.1 100, N, .inl (upd f j (vp_nar .byte x))))) cells slots n L st) : xG E X cells slots pc L (.int x :: .int i :: .ref a :: st) := by
  subst hn
  subst hi
  intro H locs ls h1 h2 h3
  have hz : ¬ xz (.inl (E.D.1 100, N, .inl f) : va_E) := fun z => by
    have : N = 0 := z
    omega
  have hclm : (nI j).toNatClampNeg = j := nI_clamp (by omega)
  obtain ⟨c, b1, b2⟩ := h1.cell hX
  refine W.bast C.1 C.2.1 b1 (b2.of (C.kk.1.2 0 _ rfl).1) b2.2.1 (by rw [b2.size]; exact vp_in_nI hj hN) rfl rfl hd fun H' e1 z oq => ?_
  have hat : xat E.D (a, .inl (E.D.1 100, N, .inl (upd f j (vp_nar .byte x)))) H' := by
    refine ⟨_, e1, ?_⟩
    rw [hclm]
    refine b2.set j _ ?_
    funext q
    by_cases hq : q = j
    · subst hq
      simp [xav, updV, upd, vp_nar]
      try rfl
    · simp [xav, updV, upd, hq]
  exact kk H' _ ls (h1.put hX hz hat z oq) (h2.put z oq (h1.old hX hz)) h3
theorem xr_newb (C : xCx E y cc nL ret hs d mc ms Post) {N : Nat} {i : Int32} (hd : decode cc pc = .ok (.newarray .byte, 2)) (n : Nat) (hn : pc + 2 = n) (hw : Cond.arrayClass .byte ∈ xT) (hi : i = nI N) (hN : N < 16777216) (hc : cells + 1 ≤ mc) (hsl : slots + N ≤ ms) (kk : ∀ q : Nat, X q = none → xG E (xup X q (.inl (E.D.1 100, N, .inl (fun _ => 0)))) (cells + 1) (slots + N) n L (.ref q :: st)) : xG E X cells slots pc L (.int i :: st) := by
  subst hn
  subst hi
  intro H locs ls h1 h2 h3
  have hclm : (nI N).toNatClampNeg = N := nI_clamp (by omega)
  refine va_newaK (atype := .byte) C.1 C.2.1 (C.ts _ hw) rfl hd rfl (nI_pos (by omega)) hclm (show N * componentBytes .byte ≤ 536870912 by simp [componentBytes]; omega) (C.rc hc) (C.rs hsl) rfl fun H1 cA e1 z1 o1 hAr hNm => ?_
  have hcA : cA = E.D.1 100 := Option.some.inj (hNm.symm.trans (C.kk.1.2 0 _ rfl).2)
  subst hcA
  have hat : xat E.D (H.size, .inl (E.D.1 100, N, .inl (fun _ => 0))) H1 := ⟨_, e1, xac_new _ _ _⟩
  obtain ⟨hf, hR⟩ := h1.new hat z1 o1
  exact kk H.size hf H1 locs ls hR (xS_more h2 (by omega) o1) h3
theorem xr_iald (C : xCx E y cc nL ret hs d mc ms Post) {a N j : Nat} {f : Nat → Int32} {i : Int32} (hd : decode cc pc = .ok (.iaload, 1)) (n : Nat) (hn : pc + 1 = n) (hX : X a = some (.inl (E.D.1 103, N, .inl f))) (hi : i = nI j) (hj : j < N) (hN : N < 2 ^ 31) (kk : xG E X cells slots n L (.int (f j) :: st)) : xG E X cells slots pc L (.int i :: .ref a :: st) := by
  subst hn
  subst hi
  intro H locs ls h1 h2 h3
  obtain ⟨c, g1, g2⟩ := h1.cell hX
  have hclm : (nI j).toNatClampNeg = j := nI_clamp (by omega)
  exact W.iald (v := .int (f j)) C.1 C.2.1 g1 (g2.of (C.kk.1.2 3 _ rfl).1) g2.2.1 (by rw [g2.size]; exact vp_in_nI hj hN) (by rw [hclm]; exact g2.read hj) rfl rfl hd (kk H locs ls h1 h2 h3)
theorem xr_iast (C : xCx E y cc nL ret hs d mc ms Post) {a N j : Nat} {f : Nat → Int32} {i : Int32} {x : Int32} (hd : decode cc pc = .ok (.iastore, 1)) (n : Nat) (hn : pc + 1 = n) (hX : X a = some (.inl (E.D.1 103, N, .inl f))) (hi : i = nI j) (hj : j < N) (hN : N < 2 ^ 31) (kk : xG E (xup X a (.inl (E.D.1 103, N, .inl (upd f j x)))) cells slots n L st) : xG E X cells slots pc L (.int x :: .int i :: .ref a :: st) := by
  subst hn
  subst hi
  intro H locs ls h1 h2 h3
  have hz : ¬ xz (.inl (E.D.1 103, N, .inl f) : va_E) := fun z => by
    have : N = 0 := z
    omega
  have hclm : (nI j).toNatClampNeg = j := nI_clamp (by omega)
  obtain ⟨c, b1, b2⟩ := h1.cell hX
  refine W.iast C.1 C.2.1 b1 (b2.of (C.kk.1.2 3 _ rfl).1) b2.2.1 (by rw [b2.size]; exact vp_in_nI hj hN) rfl rfl hd fun H' e1 z oq => ?_
  have hat : xat E.D (a, .inl (E.D.1 103, N, .inl (upd f j x))) H' := by
    refine ⟨_, e1, ?_⟩
    rw [hclm]
    refine b2.set j _ ?_
    funext q
    by_cases hq : q = j
    · subst hq
      simp [xav, updV, upd, vp_nar]
      try rfl
    · simp [xav, updV, upd, hq]
  exact kk H' _ ls (h1.put hX hz hat z oq) (h2.put z oq (h1.old hX hz)) h3
theorem xr_newi (C : xCx E y cc nL ret hs d mc ms Post) {N : Nat} {i : Int32} (hd : decode cc pc = .ok (.newarray .int, 2)) (n : Nat) (hn : pc + 2 = n) (hw : Cond.arrayClass .int ∈ xT) (hi : i = nI N) (hN : N < 16777216) (hc : cells + 1 ≤ mc) (hsl : slots + N ≤ ms) (kk : ∀ q : Nat, X q = none → xG E (xup X q (.inl (E.D.1 103, N, .inl (fun _ => 0)))) (cells + 1) (slots + N) n L (.ref q :: st)) : xG E X cells slots pc L (.int i :: st) := by
  subst hn
  subst hi
  intro H locs ls h1 h2 h3
  have hclm : (nI N).toNatClampNeg = N := nI_clamp (by omega)
  refine va_newaK (atype := .int) C.1 C.2.1 (C.ts _ hw) rfl hd rfl (nI_pos (by omega)) hclm (show N * componentBytes .int ≤ 536870912 by simp [componentBytes]; omega) (C.rc hc) (C.rs hsl) rfl fun H1 cA e1 z1 o1 hAr hNm => ?_
  have hcA : cA = E.D.1 103 := Option.some.inj (hNm.symm.trans (C.kk.1.2 3 _ rfl).2)
  subst hcA
  have hat : xat E.D (H.size, .inl (E.D.1 103, N, .inl (fun _ => 0))) H1 := ⟨_, e1, xac_new _ _ _⟩
  obtain ⟨hf, hR⟩ := h1.new hat z1 o1
  exact kk H.size hf H1 locs ls hR (xS_more h2 (by omega) o1) h3
theorem xr_lald (C : xCx E y cc nL ret hs d mc ms Post) {a N j : Nat} {f : Nat → Int64} {i : Int32} (hd : decode cc pc = .ok (.laload, 1)) (n : Nat) (hn : pc + 1 = n) (hX : X a = some (.inl (E.D.1 102, N, .inr (.inl f)))) (hi : i = nI j) (hj : j < N) (hN : N < 2 ^ 31) (kk : xG E X cells slots n L (.long (f j) :: st)) : xG E X cells slots pc L (.int i :: .ref a :: st) := by
  subst hn
  subst hi
  intro H locs ls h1 h2 h3
  obtain ⟨c, g1, g2⟩ := h1.cell hX
  have hclm : (nI j).toNatClampNeg = j := nI_clamp (by omega)
  exact W.lald (v := .long (f j)) C.1 C.2.1 g1 (g2.of (C.kk.1.2 2 _ rfl).1) g2.2.1 (by rw [g2.size]; exact vp_in_nI hj hN) (by rw [hclm]; exact g2.read hj) rfl rfl hd (kk H locs ls h1 h2 h3)
theorem xr_last (C : xCx E y cc nL ret hs d mc ms Post) {a N j : Nat} {f : Nat → Int64} {i : Int32} {x : Int64} (hd : decode cc pc = .ok (.lastore, 1)) (n : Nat) (hn : pc + 1 = n) (hX : X a = some (.inl (E.D.1 102, N, .inr (.inl f)))) (hi : i = nI j) (hj : j < N) (hN : N < 2 ^ 31) (kk : xG E (xup X a (.inl (E.D.1 102, N, .inr (.inl (vp_updL f j x))))) cells slots n L st) : xG E X cells slots pc L (.long x :: .int i :: .ref a :: st) := by
  subst hn
  subst hi
  intro H locs ls h1 h2 h3
  have hz : ¬ xz (.inl (E.D.1 102, N, .inr (.inl f)) : va_E) := fun z => by
    have : N = 0 := z
    omega
  have hclm : (nI j).toNatClampNeg = j := nI_clamp (by omega)
  obtain ⟨c, b1, b2⟩ := h1.cell hX
  refine W.last C.1 C.2.1 b1 (b2.of (C.kk.1.2 2 _ rfl).1) b2.2.1 (by rw [b2.size]; exact vp_in_nI hj hN) rfl rfl hd fun H' e1 z oq => ?_
  have hat : xat E.D (a, .inl (E.D.1 102, N, .inr (.inl (vp_updL f j x)))) H' := by
    refine ⟨_, e1, ?_⟩
    rw [hclm]
    refine b2.set j _ ?_
    funext q
    by_cases hq : q = j
    · subst hq
      simp [xav, updV, vp_updL, vp_nar]
      try rfl
    · simp [xav, updV, vp_updL, hq]
  exact kk H' _ ls (h1.put hX hz hat z oq) (h2.put z oq (h1.old hX hz)) h3
theorem xr_newl (C : xCx E y cc nL ret hs d mc ms Post) {N : Nat} {i : Int32} (hd : decode cc pc = .ok (.newarray .long, 2)) (n : Nat) (hn : pc + 2 = n) (hw : Cond.arrayClass .long ∈ xT) (hi : i = nI N) (hN : N < 16777216) (hc : cells + 1 ≤ mc) (hsl : slots + N ≤ ms) (kk : ∀ q : Nat, X q = none → xG E (xup X q (.inl (E.D.1 102, N, .inr (.inl (fun _ => 0))))) (cells + 1) (slots + N) n L (.ref q :: st)) : xG E X cells slots pc L (.int i :: st) := by
  subst hn
  subst hi
  intro H locs ls h1 h2 h3
  have hclm : (nI N).toNatClampNeg = N := nI_clamp (by omega)
  refine va_newaK (atype := .long) C.1 C.2.1 (C.ts _ hw) rfl hd rfl (nI_pos (by omega)) hclm (show N * componentBytes .long ≤ 536870912 by simp [componentBytes]; omega) (C.rc hc) (C.rs hsl) rfl fun H1 cA e1 z1 o1 hAr hNm => ?_
  have hcA : cA = E.D.1 102 := Option.some.inj (hNm.symm.trans (C.kk.1.2 2 _ rfl).2)
  subst hcA
  have hat : xat E.D (H.size, .inl (E.D.1 102, N, .inr (.inl (fun _ => 0)))) H1 := ⟨_, e1, xac_new _ _ _⟩
  obtain ⟨hf, hR⟩ := h1.new hat z1 o1
  exact kk H.size hf H1 locs ls hR (xS_more h2 (by omega) o1) h3
theorem xr_aald (C : xCx E y cc nL ret hs d mc ms Post) {a N j q : Nat} {f : Nat → Option Nat} {i : Int32} (hd : decode cc pc = .ok (.aaload, 1)) (n : Nat) (hn : pc + 1 = n) (hX : X a = some (.inl (E.D.1 101, N, .inr (.inr (.inr (.inr f)))))) (hi : i = nI j) (hj : j < N) (hN : N < 2 ^ 31) (hf : f j = some q) (kk : xG E X cells slots n L (.ref q :: st)) : xG E X cells slots pc L (.int i :: .ref a :: st) := by
  subst hn
  subst hi
  intro H locs ls h1 h2 h3
  obtain ⟨c, g1, g2⟩ := h1.cell hX
  have hclm : (nI j).toNatClampNeg = j := nI_clamp (by omega)
  exact W.aald (v := .ref q) (ty := .object "java/lang/Object") C.1 C.2.1 g1 (g2.of (C.kk.1.2 1 _ rfl).1) rfl g2.2.1 (by rw [g2.size]; exact vp_in_nI hj hN) (by rw [hclm, g2.read hj]; show some (va_rf (f j)) = _; rw [hf]; rfl) rfl rfl hd (kk H locs ls h1 h2 h3)
theorem xr_aast (C : xCx E y cc nL ret hs d mc ms Post) {a N j v ci : Nat} {vs : List Value} {r : vw_C} {f : Nat → Option Nat} {i : Int32} (hd : decode cc pc = .ok (.aastore, 1)) (n : Nat) (hn : pc + 1 = n) (hX : X a = some (.inl (E.D.1 101, N, .inr (.inr (.inr (.inr f)))))) (hi : i = nI j) (hj : j < N) (hN : N < 2 ^ 31) (hv : X v = some (.inr (ci, vs))) (hc : xcl[ci]? = some r) (hca : Cond.castable r.1 "java/lang/Object" ∈ xT) (kk : xG E (xup X a (.inl (E.D.1 101, N, .inr (.inr (.inr (.inr (va_up f j (some v)))))))) cells slots n L st) : xG E X cells slots pc L (.ref v :: .int i :: .ref a :: st) := by
  subst hn
  subst hi
  intro H locs ls h1 h2 h3
  have hK := C.kk.1
  have hz : ¬ xz (.inl (E.D.1 101, N, .inr (.inr (.inr (.inr f)))) : va_E) := fun z => by
    have : N = 0 := z
    omega
  have hclm : (nI j).toNatClampNeg = j := nI_clamp (by omega)
  obtain ⟨c, b1, b2⟩ := h1.cell hX
  obtain ⟨r', hr', cellV, g1, g2, g3, -⟩ := (h1.2.2 v _ hv).1
  have hcls := (hK.1 ci r hc).2
  obtain ⟨kA, comp, k1, k2, k3, -⟩ := (hK.2 1 _ rfl).2
  obtain ⟨kE, hkE, -⟩ := Vm.findClass_spec k3
  obtain ⟨c0, t1, f1, f2, f3⟩ := Cond.castable_spec (C.ts _ hca)
  cases hcls.1.symm.trans f1
  cases k3.symm.trans f2
  obtain ⟨kC, hkC, -⟩ := hcls.2
  refine W.aast C.1 C.2.1 b1 b2.2.2.1 b2.2.1 (by rw [b2.1]; exact k1) k2 rfl hkE ⟨nI_pos (by omega), by rw [b2.size, hclm]; exact hj⟩ g1 (fun q h => by rw [g3] at h; cases h) (by rw [g2]; exact hkC) (by rw [g2]; exact f3) rfl rfl hd fun H' e1 z oq => ?_
  have hat : xat E.D (a, .inl (E.D.1 101, N, .inr (.inr (.inr (.inr (va_up f j (some v))))))) H' := by
    refine ⟨_, e1, ?_⟩
    rw [hclm]
    refine b2.set j (.ref v) ?_
    funext q
    by_cases hq : q = j
    · subst hq
      simp [xav, updV, va_up, va_rf]
    · simp [xav, updV, va_up, hq]
  exact kk H' _ ls (h1.put hX hz hat z oq) (h2.put z oq (h1.old hX hz)) h3
theorem xr_aastN (C : xCx E y cc nL ret hs d mc ms Post) {a N j : Nat} {f : Nat → Option Nat} {i : Int32} (hd : decode cc pc = .ok (.aastore, 1)) (n : Nat) (hn : pc + 1 = n) (hX : X a = some (.inl (E.D.1 101, N, .inr (.inr (.inr (.inr f)))))) (hi : i = nI j) (hj : j < N) (hN : N < 2 ^ 31) (kk : xG E (xup X a (.inl (E.D.1 101, N, .inr (.inr (.inr (.inr (va_up f j none))))))) cells slots n L st) : xG E X cells slots pc L (.null :: .int i :: .ref a :: st) := by
  subst hn
  subst hi
  intro H locs ls h1 h2 h3
  have hz : ¬ xz (.inl (E.D.1 101, N, .inr (.inr (.inr (.inr f)))) : va_E) := fun z => by
    have : N = 0 := z
    omega
  have hclm : (nI j).toNatClampNeg = j := nI_clamp (by omega)
  obtain ⟨c, b1, b2⟩ := h1.cell hX
  refine va_WaastN (C := "java/lang/Object") C.1 C.2.1 b1 (b2.of (C.kk.1.2 1 _ rfl).1) b2.2.1 (by rw [b2.size]; exact vp_in_nI hj hN) rfl rfl hd fun H' e1 z oq => ?_
  have hat : xat E.D (a, .inl (E.D.1 101, N, .inr (.inr (.inr (.inr (va_up f j none)))))) H' := by
    refine ⟨_, e1, ?_⟩
    rw [hclm]
    refine b2.set j .null ?_
    funext q
    by_cases hq : q = j
    · subst hq
      simp [xav, updV, va_up, va_rf]
    · simp [xav, updV, va_up, hq]
  exact kk H' _ ls (h1.put hX hz hat z oq) (h2.put z oq (h1.old hX hz)) h3
theorem xr_newq (C : xCx E y cc nL ret hs d mc ms Post) {idx N : Nat} {i : Int32} (hd : decode cc pc = .ok (.anewarray idx, 3)) (n : Nat) (hn : pc + 3 = n) (hl : Cond.classLink y.cls idx "java/lang/Object" ∈ xT) (hi : i = nI N) (hN : N < 134217728) (hc : cells + 1 ≤ mc) (hsl : slots + N ≤ ms) (kk : ∀ q : Nat, X q = none → xG E (xup X q (.inl (E.D.1 101, N, .inr (.inr (.inr (.inr (fun _ => none))))))) (cells + 1) (slots + N) n L (.ref q :: st)) : xG E X cells slots pc L (.int i :: st) := by
  subst hn
  subst hi
  intro H locs ls h1 h2 h3
  have hclm : (nI N).toNatClampNeg = N := nI_clamp (by omega)
  refine W.anew C.1 C.2.1 C.ow (C.ts _ hl) (va_AO.use C.kk.2.1) rfl hd rfl (nI_pos (by omega)) (by rw [hclm]; omega) (C.rc hc) (by rw [hclm]; exact C.rs hsl) fun cA kA comp f1 f2 f3 f4 => ?_
  obtain ⟨kA', comp', k1, k2, k3, k4⟩ := (C.kk.1.2 1 _ rfl).2
  have hcA : cA = E.D.1 101 := Option.some.inj (f1.symm.trans k4)
  subst hcA
  rw [hclm]
  generalize hH1 : H.push ({ cls := E.D.1 101, slots := Array.replicate N .null, vm := .none } : Cell) = H1
  have z1 : H1.size = H.size + 1 := by rw [← hH1, Array.size_push]
  have e1 : H1[H.size]? = some (arrV (E.D.1 101) N (fun _ => .null)) := by rw [← hH1, Array.getElem?_push_size, ← arrV_new]
  have o1 : ∀ q : Nat, q < H.size → H1[q]? = H[q]? := fun q hq => by rw [← hH1, Array.getElem?_push, if_neg (Nat.ne_of_lt hq)]
  have hat : xat E.D (H.size, .inl (E.D.1 101, N, .inr (.inr (.inr (.inr (fun _ => none)))))) H1 := ⟨_, e1, xac_new _ _ _⟩
  obtain ⟨hf, hR⟩ := h1.new hat z1 o1
  exact kk H.size hf H1 locs ls hR (xS_more h2 (by omega) o1) h3
theorem xr_new (C : xCx E y cc nL ret hs d mc ms Post) {ci N idx : Nat} {fs : List Value} {Cn : String} {T : u_T} {ty : Nat → FieldType} (K : xCl ci Cn T N ty) (hd : decode cc pc = .ok (.new idx, 3)) (n : Nat) (hn : pc + 3 = n) (hl : Cond.classLink y.cls idx Cn ∈ xT) (hin : Cond.instantiable Cn N ∈ xT) (hit : Cond.initialized Cn ∈ xT) (hfs : ∀ j, j < N → defaultValue (ty j) = vp_V fs j) (hc : cells + 1 ≤ mc) (hsl : slots + N ≤ ms) (kk : ∀ q : Nat, X q = none → xG E (xup X q (.inr (ci, fs))) (cells + 1) (slots + N) n L (.ref q :: st)) : xG E X cells slots pc L st := by
  subst hn
  intro H locs ls h1 h2 h3
  have hKn := C.kk.1.1 ci _ K.1
  refine W.newcK C.1 C.2.1 C.ow (C.ts _ hl) (C.ts _ hin) (C.ts _ hit) rfl hd (C.rc hc) (C.rs hsl) hKn.2.1 rfl fun H1 kC hkC e1 z1 o1 => ?_
  have hat : xat E.D (H.size, .inr (ci, fs)) H1 := ⟨_, K.1, (u_born ty C.ts K.2.1 hKn hkC e1 K.2.2.1).to hfs⟩
  obtain ⟨hf, hR⟩ := h1.new hat z1 o1
  exact kk H.size hf H1 locs ls hR (xS_more h2 (by omega) o1) h3
theorem xr_cast (C : xCx E y cc nL ret hs d mc ms Post) {ci idx a : Nat} {fs : List Value} {r : vw_C} (hd : decode cc pc = .ok (.checkcast idx, 3)) (n : Nat) (hn : pc + 3 = n) (hX : X a = some (.inr (ci, fs))) (hc : xcl[ci]? = some r) (hl : Cond.classLink y.cls idx r.1 ∈ xT) (kk : xG E X cells slots n L (.ref a :: st)) : xG E X cells slots pc L (.ref a :: st) := by
  subst hn
  intro H locs ls h1 h2 h3
  exact va_castE C.1 C.2.1 C.ow (C.ts _ hl) (va_recv (q0 := 0) C.kk.1 (xP1 (h1.2.2 a _ hX).1) hc rfl) hd (kk H locs ls h1 h2 h3)
theorem xr_objInit (C : xCx E y cc nL ret hs d mc ms Post) {idx a : Nat} (hd : decode cc pc = .ok (.invokespecial idx, 3)) (n : Nat) (hn : pc + 3 = n) (hl : Cond.methodLink y.cls idx objectInit ∈ xT) (hi : Cond.instanceMethod objectInit ∈ xT) (hco : Cond.code objectInit ⟨#[0xb1]⟩ 1 none ∈ xT) (hst : (st.map fun v => v.category).sum ≤ 8) (kk : xG E X cells slots n L st) : xG E X cells slots pc L (.ref a :: st) := by
  subst hn
  intro H locs ls h1 h2 h3
  exact W.objInit C.1 C.2.1 C.ow (C.ts _ hl) (C.ts _ hi) (C.ts _ hco) rfl (by rw [C.2.2.1]; exact h3.1) rfl hd (by rw [C.rm]; show 1 ≤ d + 8; omega) (by rw [C.rm]; show 2 * 0 + _ + 12 ≤ 40 * (d + 8); omega) (kk H locs ls h1 h2 h3)
/-! returns -/
theorem xW_mono {p : Program} {l : Launch} {e : Env} {R : Room} {s : State} {m : MethodId} {args : Array Value} {below : List Frame} {meth : Method} {c : Code} {H : Heap} {locs : List Loc} {cells slots : Nat} {Q Q' : State → Prop} {g : JFrame} (h : ∀ t, Q t → Q' t) (k : W p l e R s m args below meth c H locs cells slots Q g) : W p l e R s m args below meth c H locs cells slots Q' g := fun T hT X => by
  obtain ⟨t, a, b⟩ := k T hT X
  exact ⟨t, a, h t b⟩
theorem xMQ_of {D : va_G} {H0 : Heap} {below : List Frame} {s : State} {args : Array Value} {mc ms : Nat} {Post : xO → xH → Prop} {v : Option Value} {X : xH} (hp : Post (.inl v) X) (t : State) (h : MQ below (fun _ _ o t => o = .returned v ∧ xRep D H0 X t.heap) args s mc ms (fun q => H0.size ≤ q) t) : xMQ D H0 below s mc ms Post t := by
  obtain ⟨o, h1, h2, ⟨rfl, h4⟩, L, h5, h6⟩ := h
  exact ⟨_, .inl v, X, L, h1, h2, rfl, h4, hp, h5.2.1, h5.2.2, h6⟩
theorem xr_iret (C : xCx E y cc nL (some .int) hs d mc ms Post) {v : Int32} (hd : decode cc pc = .ok (.ireturn, 1)) (hc : cells ≤ mc) (hsl : slots ≤ ms) (hp : Post (.inl (some (.int v))) X) : xG E X cells slots pc L [.int v] := by
  intro H locs ls h1 h2 h3
  rw [C.qq]
  exact W.widen hc hsl (xW_mono (xMQ_of hp) (W.iret C.1 C.2.1 C.rt (fun t ht _ => ⟨rfl, by rw [ht]; exact h1⟩) h2.2.2 hd C.lk))
theorem xr_zret (C : xCx E y cc nL (some .boolean) hs d mc ms Post) {v : Int32} (hd : decode cc pc = .ok (.ireturn, 1)) (hz : narrow .boolean (.int v) = .int v) (hc : cells ≤ mc) (hsl : slots ≤ ms) (hp : Post (.inl (some (.int v))) X) : xG E X cells slots pc L [.int v] := by
  intro H locs ls h1 h2 h3
  rw [C.qq]
  exact W.widen hc hsl (xW_mono (xMQ_of hp) (W.zret C.1 C.2.1 C.rt hz (fun t ht _ => ⟨rfl, by rw [ht]; exact h1⟩) h2.2.2 hd C.lk))
theorem xr_vret (C : xCx E y cc nL none hs d mc ms Post) (hd : decode cc pc = .ok (.return_, 1)) (hc : cells ≤ mc) (hsl : slots ≤ ms) (hp : Post (.inl none) X) : xG E X cells slots pc L [] := by
  intro H locs ls h1 h2 h3
  rw [C.qq]
  exact W.widen hc hsl (xW_mono (xMQ_of hp) (W.vret C.1 C.2.1 C.rt (fun t ht _ => ⟨rfl, by rw [ht]; exact h1⟩) h2.2.2 hd C.lk))
theorem xr_aret {rt : FieldType} (C : xCx E y cc nL (some rt) hs d mc ms Post) {a : Nat} (hd : decode cc pc = .ok (.areturn, 1)) (hrt : (∃ n, rt = .object n) ∨ ∃ t, rt = .array t) (hc : cells ≤ mc) (hsl : slots ≤ ms) (hp : Post (.inl (some (.ref a))) X) : xG E X cells slots pc L [.ref a] := by
  intro H locs ls h1 h2 h3
  rw [C.qq]
  exact W.widen hc hsl (xW_mono (xMQ_of hp) (W.aret C.1 C.2.1 C.rt hrt (Or.inr ⟨a, rfl⟩) (fun t ht _ => ⟨rfl, by rw [ht]; exact h1⟩) h2.2.2 hd C.lk))
end XRH
end
section
/-! Contracts and calls. -/
def xCode (y : MethodName) (cc : ByteArray) (nL : Nat) (ret : Option FieldType) (hs : List (Nat × Nat × Nat × Nat)) : Prop := (hs = [] ∧ Cond.code y cc nL ret ∈ xT) ∨ Cond.codeWith y cc nL ret hs ∈ xT
theorem xCode.get {args : Array Value} {s : State} {y : MethodName} {cc : ByteArray} {nL : Nat} {ret : Option FieldType} {hs : List (Nat × Nat × Nat × Nat)} (hts : ∀ w ∈ xT, w.before args s = true) (h : xCode y cc nL ret hs) : ∃ mk meth c, s.methodNamed? y = some mk ∧ s.vm.method? mk = some meth ∧ meth.code = some c ∧ c.code = cc ∧ c.maxLocals = nL ∧ c.exceptionTable.toList.map (fun h => (h.startPc, h.endPc, h.handlerPc, h.catchType)) = hs ∧ meth.sig.returnType = ret ∧ meth.locks = false ∧ parseMethodDescriptor y.desc = some meth.sig := by
  rcases h with ⟨rfl, h⟩ | h
  · have hc := hts _ h
    obtain ⟨mk, hn⟩ := Cond.code_named hc
    obtain ⟨meth, c, h1, h2, h3, h4, h5, h6, h7, h8⟩ := Cond.code_spec hn hc
    refine ⟨mk, meth, c, hn, h1, h2, h3, h4, ?_, h5, h6, h8⟩
    have h9 : c.exceptionTable = #[] := by simpa using h7
    rw [h9]
    rfl
  · obtain ⟨mk, meth, c, hn, h1, h2, h3, h4, h5, h6, h7, h8⟩ := Cond.codeWith_spec (hts _ h)
    exact ⟨mk, meth, c, hn, h1, h2, h3, h4, h5, h6, h7, h8⟩
/-- a method's contract: from any heap that holds X, with these arguments: it ends as Post says; at most mc cells of ms slots are new -/
def xMet (l : Launch) (D : va_G) (H0 : Heap) (y : MethodName) (cc : ByteArray) (nL : Nat) (ret : Option FieldType) (hs : List (Nat × Nat × Nat × Nat)) (d mc ms : Nat) (av : List Value) (X : xH) (Post : xO → xH → Prop) : Prop :=
  ∃ L : List (Option Value), xas L = lv_args 0 av ∧ (lg_sl av).length ≤ nL ∧ ∀ E : xE, E.D = D → E.H0 = H0 → E.l = l → E.args = av.toArray → xCx E y cc nL ret hs d mc ms Post → xG E X 0 0 0 L []
theorem xSteps {tb : Tables} {e : Env} {mid below : List Frame} {a b : State} (h : Steps tb e (mid ++ below) a b) : Steps tb e below a b := by
  obtain ⟨n, hn, w⟩ := h
  exact ⟨n, hn, fun k hk => (w k hk).weaken⟩
theorem xMet.mono {l : Launch} {D : va_G} {H0 : Heap} {y : MethodName} {cc : ByteArray} {nL : Nat} {ret : Option FieldType} {hs : List (Nat × Nat × Nat × Nat)} {d mc ms : Nat} {av : List Value} {X : xH} {Post Post' : xO → xH → Prop} (h : xMet l D H0 y cc nL ret hs d mc ms av X Post) (hp : ∀ r X', Post r X' → Post' r X') : xMet l D H0 y cc nL ret hs d mc ms av X Post' := by
  obtain ⟨L, h1, h2, h3⟩ := h
  refine ⟨L, h1, h2, fun E e1 e2 e3 e5 C => ?_⟩
  obtain ⟨D', H0', p, l', e, R, s, m, args, below, meth, c, Q, n⟩ := E
  obtain ⟨c1, c2, c3, c4, c5, c6, c7, c8, c9, c10, c11, c12, c13, c14, c15⟩ := C
  have c10 : Q = xMQ D' H0' below s mc ms Post' := c10
  subst c10
  have hg := h3 (D', H0', p, l', e, R, s, m, args, below, meth, c, xMQ D' H0' below s mc ms Post, n) e1 e2 e3 e5 ⟨c1, c2, c3, c4, c5, c6, c7, c8, c9, rfl, c11, c12, c13, c14, c15⟩
  intro H locs ls g1 g2 g3
  refine xW_mono (fun t ht => ?_) (hg H locs ls g1 g2 g3)
  obtain ⟨o, r, X', Lc, t1, t2, t3, t4, t5, t6⟩ := ht
  exact ⟨o, r, X', Lc, t1, t2, t3, t4, hp _ _ t5, t6⟩
section XCL
variable {E : xE} {y : MethodName} {cc : ByteArray} {nL : Nat} {ret : Option FieldType} {hs : List (Nat × Nat × Nat × Nat)} {d mc ms : Nat} {Post : xO → xH → Prop} {X : xH} {cells slots pc : Nat} {L : List (Option Value)} {st : List Value}
variable {b : Nat} {y' : MethodName} {cc' : ByteArray} {nL' : Nat} {ret' : Option FieldType} {hs' : List (Nat × Nat × Nat × Nat)} {d' mc' ms' : Nat} {av : List Value} {Post' : xO → xH → Prop}
/-- where a call has thrown: an object a of the class Cn is on its way, at the call's pc -/
def xTh (E : xE) (X : xH) (cells slots pc : Nat) (L : List (Option Value)) (Cn : String) : Prop := ∀ (T : State) (locs : List Loc) (ls : Array Slot) (rest : List Value) (a : Nat) (cell : Cell), xRep E.D E.H0 X T.heap → va_S (fun q => E.H0.size ≤ q) E.s.heap T.heap locs → xLoc ls E.nL L → T.heap[a]? = some cell → cell.vm = .none → E.s.vm.findClass Cn = some cell.cls → Stand E.p E.l E.e E.R E.s E.m E.args E.below E.meth E.c T locs cells slots → ∃ t, Steps E.p.tables E.e E.below ((T.setTop (F0 E.m pc ls rest)).pushFrame (.throwing a)) t ∧ E.Q t
theorem xTh_out (C : xCx E y cc nL ret [] d mc ms Post) {Cn : String} (hc : cells ≤ mc) (hsl : slots ≤ ms) (hp : Post (.inr Cn) X) : xTh E X cells slots pc L Cn := by
  intro T locs ls rest a cell h1 h2 h3 c1 c2 c3 S
  have htab : ∀ x ∈ E.c.exceptionTable.toList, covers x pc = false := by
    have h := C.tb
    have h' : E.c.exceptionTable.toList = [] := by simpa using h
    intro x hx
    rw [h'] at hx
    cases hx
  have hlk := C.lk
  obtain ⟨hst, hrun, hend, hW, hsame⟩ := (stand_widen S hc hsl).leaveThrown a (g := F0 E.m pc ls rest) rfl rfl rfl htab hlk
  rw [C.qq]
  exact ⟨_, hst, .threw a, .inr Cn, X, locs, hrun, hend, ⟨a, cell, rfl, c1, c2, (S.warmed.alike.findClass Cn _).trans c3⟩, h1, hp, hW, hsame, h2.2.2⟩
theorem xS_call {D : va_G} {H0 : Heap} {s : State} {X X' : xH} {H H' : Heap} {locs Lc : List Loc} (h : va_S (fun q => H0.size ≤ q) s.heap H locs) (h1 : xRep D H0 X H) (h2 : xRep D H0 X' H') (z : H.size ≤ H'.size) (hL : ∀ q ∈ Lc, H0.size ≤ q.base) : va_S (fun q => H0.size ≤ q) s.heap H' (locs ++ Lc) := by
  refine ⟨Nat.le_trans h.1 z, fun q g1 g2 => ?_, fun q hq => ?_⟩
  · have g3 : q < H0.size := Nat.not_le.mp g2
    rw [h2.2.1 q g3, ← h1.2.1 q g3]
    exact h.2.1 q g1 g2
  · rcases List.mem_append.mp hq with g | g
    · exact h.2.2 q g
    · exact hL q g
set_option maxHeartbeats 1000000 in
theorem xEnter (C : xCx E y cc nL ret hs d mc ms Post) {T : State} {locs : List Loc} (S : Stand E.p E.l E.e E.R E.s E.m E.args E.below E.meth E.c T locs cells slots) (hM : xMet E.l E.D E.H0 y' cc' nL' ret' hs' d' mc' ms' av X Post') (hco : xCode y' cc' nL' ret' hs') (hpl : plainFor y' = true) (hX : xRep E.D E.H0 X T.heap) (hS : va_S (fun q => E.H0.size ≤ q) E.s.heap T.heap locs) {g : JFrame} (hg : g.method = E.m) (hsz : g.locals.size = E.c.maxLocals) {ig : Instr} {len : Nat} (hdg : decode E.c.code g.pc = .ok (ig, len)) {mk : MethodId} (hmk : E.s.methodNamed? y' = some mk) (hdd : d' + 1 ≤ d) (h40 : nL' ≤ 21) (hrc : cells + mc' ≤ mc) (hrs : slots + ms' ≤ ms) (hst : 2 * g.monitorRoom + (g.stack.map fun v => v.category).sum ≤ 8) :
    ∃ (T' : State) (Lc : List Loc) (r : xO) (X' : xH), Stand E.p E.l E.e E.R E.s E.m E.args E.below E.meth E.c T' (locs ++ Lc) (cells + mc') (slots + ms') ∧ xRep E.D E.H0 X' T'.heap ∧ va_S (fun q => E.H0.size ≤ q) E.s.heap T'.heap (locs ++ Lc) ∧ Post' r X' ∧
      match r with
      | .inl v => ∀ acts, Steps E.p.tables E.e E.below (doInvoke E.e (T.setTop g) acts mk av.toArray).1 (T'.setTop { g with pc := g.pc + len, stack := v.toList ++ g.stack })
      | .inr Cn => ∃ (a : Nat) (cell : Cell), T'.heap[a]? = some cell ∧ cell.vm = .none ∧ E.s.vm.findClass Cn = some cell.cls ∧ ∀ acts, Steps E.p.tables E.e E.below (doInvoke E.e (T.setTop g) acts mk av.toArray).1 ((T'.setTop g).pushFrame (.throwing a)) := by
  obtain ⟨mk2, methk, ck, hn2, hmeth, hcode, hcc, hnl, htab, hret, hlk, hsig⟩ := xCode.get C.ts hco
  cases hn2.symm.trans hmk
  have hal := S.warmed.alike
  have hmT : T.vm.method? mk = some methk := by rw [hal.method?]; exact hmeth
  have hnT : T.methodNamed? y' = some mk := S.named hmk
  have hpk : T.plainMethod mk := State.plainMethod.of_named hpl hnT hmT
  obtain ⟨S', hdo⟩ := S.into (R' := xR d' mc' ms') hg hsz hdg av.toArray hmT hcode hlk hpk (by rw [C.rm]; show d' + 8 + 1 ≤ d + 8; omega) (by rw [C.rm, hnl]; show _ + (nL' + 11) + 40 * (d' + 8) ≤ 40 * (d + 8); omega) (by rw [C.rm]; exact hrc) (by rw [C.rm]; exact hrs)
  obtain ⟨L, hL, hlen, hE⟩ := hM
  have hxg := hE (E.D, E.H0, E.p, E.l, E.e, xR d' mc' ms', T.calling g mk av.toArray, mk, av.toArray, .java g :: E.below, methk, ck, xMQ E.D E.H0 (.java g :: E.below) (T.calling g mk av.toArray) mc' ms' Post', nL') rfl rfl rfl rfl
    ⟨C.1, hcc, hnl, findClass_of_methodNamed hnT, fun w hw => xword w hw (s := E.s) (U := T.calling g mk av.toArray) S.warmed (C.ts w hw), xK.moved (u := E.s) (U := T.calling g mk av.toArray) S.warmed C.kk, hret, hlk, rfl, rfl, hX.1, C.tr, htab, (name_of_methodNamed hnT hmT).1, rfl⟩
  have hW := hxg T.heap [] ((lg_sl av ++ List.replicate (nL' - (lg_sl av).length) Slot.unset).toArray) hX va_S.rf (xLoc.of (by rw [hL]; exact lv_entry av hlen))
  obtain ⟨t, hsteps, o, r, X', Lc, h1, h2, h3, h4, h5, h6, h7, h8⟩ := hW ((T.setTop g).pushFrame (.java (entryFrame mk av.toArray ck.maxLocals))) rfl S'
  have hdo' : ∀ acts, (doInvoke E.e (T.setTop g) acts mk av.toArray).1 = ((T.setTop g).pushFrame (.java (entryFrame mk av.toArray ck.maxLocals))).setTop (F0 mk 0 ((lg_sl av ++ List.replicate (nL' - (lg_sl av).length) Slot.unset).toArray) []) := fun acts => by
    rw [hdo acts]
    congr 1
    rw [hnl, lg_entry_eq]
  cases r with
  | inl v =>
    have ho : o = .returned v := h3
    subst ho
    obtain ⟨T', S2, w2, sb, ht⟩ := S.outOf hg hdg h2 h6 h7
    have hh : t.heap = T'.heap := by rw [ht]; rfl
    rw [hh] at h4
    refine ⟨T', Lc, .inl v, X', S2, h4, xS_call hS hX h4 sb.2.1 h8, h5, fun acts => ?_⟩
    rw [hdo' acts, ← ht]
    exact xSteps (mid := [.java g]) hsteps
  | inr Cn =>
    obtain ⟨a, cell, ho, c1, c2, c3⟩ := h3
    subst ho
    obtain ⟨T', S2, w2, sb, ht⟩ := S.outOfThrown hg h2 h6 h7
    have hh : t.heap = T'.heap := by rw [ht]; rfl
    have hv : t.vm = T'.vm := by rw [ht]; rfl
    rw [hh] at h4 c1
    rw [hv] at c3
    refine ⟨T', Lc, .inr Cn, X', S2, h4, xS_call hS hX h4 sb.2.1 h8, h5, a, cell, c1, c2, (S2.warmed.alike.findClass Cn _).symm.trans c3, fun acts => ?_⟩
    rw [hdo' acts, ← ht]
    exact xSteps (mid := [.java g]) hsteps
theorem xarity {n : Nat} {sig : MethodDescriptor} (h : (parseMethodDescriptor y'.desc).map (fun d => d.parameters.length) = some n) (hs : parseMethodDescriptor y'.desc = some sig) : n = sig.parameters.length := by
  rw [hs] at h
  exact (Option.some.inj h).symm
theorem xr_callS (C : xCx E y cc nL ret hs d mc ms Post) (hM : xMet E.l E.D E.H0 y' cc' nL' ret' hs' d' mc' ms' av X Post') (hco : xCode y' cc' nL' ret' hs') {idx : Nat} (hd : decode cc pc = .ok (.invokestatic idx, 3)) (n : Nat) (hn : pc + 3 = n) (hl : Cond.methodLink y.cls idx y' ∈ xT ∨ ∃ host, Cond.methodLinkNest y.cls idx y' host ∈ xT) (hsta : Cond.static y' ∈ xT) (hini : Cond.initialized y'.cls ∈ xT) (hch : plainFor y' = true ∧ (y'.cls ≠ "java/lang/invoke/MethodHandle" ∧ y'.cls ≠ "java/lang/invoke/VarHandle") ∧ (parseMethodDescriptor y'.desc).map (fun d => d.parameters.length) = some av.length) {rest : List Value} (he : st = av.reverse ++ rest) (hnum : d' + 1 ≤ d ∧ nL' ≤ 21 ∧ (rest.map fun v => v.category).sum ≤ 8) (hrc : cells + mc' ≤ mc) (hrs : slots + ms' ≤ ms) (kr : ∀ (v : Option Value) (X' : xH), Post' (.inl v) X' → xG E X' (cells + mc') (slots + ms') n L (v.toList ++ rest)) (kt : ∀ (Cn : String) (X' : xH), Post' (.inr Cn) X' → xTh E X' (cells + mc') (slots + ms') pc L Cn) : xG E X cells slots pc L st := by
  subst hn
  subst he
  intro H locs ls h1 h2 h3 T hT S
  subst hT
  obtain ⟨mk, methk, ck, hn2, hmeth, hcode, hcc, hnl, htab, hret, hlk, hsig⟩ := xCode.get C.ts hco
  have hstatic := Cond.static_spec hn2 hmeth (C.ts _ hsta)
  obtain ⟨kP, hkP, -⟩ := className_of_methodNamed hn2
  have hinitP : kP.init = .initialized := Cond.initialized_spec (findClass_of_methodNamed hn2) hkP (C.ts _ hini)
  have hdc : decode E.c.code pc = .ok (.invokestatic idx, 3) := by rw [C.2.1]; exact hd
  obtain ⟨vm₁, S₁, hstep⟩ : ∃ vm', Stand E.p E.l E.e E.R E.s E.m E.args E.below E.meth E.c (T.setVm vm') locs cells slots ∧ ∀ target, (∀ acts, Steps E.p.tables E.e E.below (doInvoke E.e ((T.setVm vm').setTop { (F0 E.m pc ls (av.reverse ++ rest)) with stack := rest }) acts mk av.toArray).1 target) → Steps E.p.tables E.e E.below (T.setTop (F0 E.m pc ls (av.reverse ++ rest))) target := by
    rcases hl with hl | ⟨host, hl⟩
    · exact S.invokestatic C.1 C.ow (C.ts _ hl) hn2 hmeth hstatic hkP hinitP hch.2.1 (g := F0 E.m pc ls (av.reverse ++ rest)) rfl (argsL := av) (rest := rest) (xarity hch.2.2 hsig) rfl hdc
    · exact S.invokestaticNest C.1 C.ow (C.ts _ hl) hn2 hmeth hstatic hkP hinitP hch.2.1 (g := F0 E.m pc ls (av.reverse ++ rest)) rfl (argsL := av) (rest := rest) (xarity hch.2.2 hsig) rfl hdc
  obtain ⟨T', Lc, r, X', S2, hR', hS', hp, hgo⟩ := xEnter C S₁ hM hco hch.1 h1 h2 (g := F0 E.m pc ls rest) rfl (by rw [C.2.2.1]; exact h3.1) hdc hn2 hnum.1 hnum.2.1 hrc hrs (lv_room hnum.2.2)
  cases r with
  | inl v =>
    obtain ⟨t, a1, b1⟩ := kr v X' hp T'.heap (locs ++ Lc) ls hR' hS' h3 T' rfl S2
    exact ⟨t, hstep _ (fun acts => (hgo acts).trans a1), b1⟩
  | inr Cn =>
    obtain ⟨a, cell, c1, c2, c3, hgo⟩ := hgo
    obtain ⟨t, a1, b1⟩ := kt Cn X' hp T' (locs ++ Lc) ls rest a cell hR' hS' h3 c1 c2 c3 S2
    exact ⟨t, hstep _ (fun acts => (hgo acts).trans a1), b1⟩
theorem xr_callV (C : xCx E y cc nL ret hs d mc ms Post) (hM : xMet E.l E.D E.H0 y' cc' nL' ret' hs' d' mc' ms' (.ref b :: av) X Post') (hco : xCode y' cc' nL' ret' hs') {idx ci : Nat} {fs : List Value} {r : vw_C} (hd : decode cc pc = .ok (.invokevirtual idx, 3)) (n : Nat) (hn : pc + 3 = n) (hX : X b = some (.inr (ci, fs))) (hcl : xcl[ci]? = some r) (hl : Cond.methodLink y.cls idx y' ∈ xT ∨ ∃ host, Cond.methodLinkNest y.cls idx y' host ∈ xT) (hins : Cond.instanceMethod y' ∈ xT) (hse : Cond.selects r.1 y' y' ∈ xT) (hch : plainFor y' = true ∧ (y'.cls ≠ "java/lang/invoke/MethodHandle" ∧ y'.cls ≠ "java/lang/invoke/VarHandle") ∧ (parseMethodDescriptor y'.desc).map (fun d => d.parameters.length) = some av.length) {rest : List Value} (he : st = av.reverse ++ .ref b :: rest) (hnum : d' + 1 ≤ d ∧ nL' ≤ 21 ∧ (rest.map fun v => v.category).sum ≤ 8) (hrc : cells + mc' ≤ mc) (hrs : slots + ms' ≤ ms) (kr : ∀ (v : Option Value) (X' : xH), Post' (.inl v) X' → xG E X' (cells + mc') (slots + ms') n L (v.toList ++ rest)) (kt : ∀ (Cn : String) (X' : xH), Post' (.inr Cn) X' → xTh E X' (cells + mc') (slots + ms') pc L Cn) : xG E X cells slots pc L st := by
  subst hn
  subst he
  intro H locs ls h1 h2 h3 T hT S
  subst hT
  obtain ⟨mk, methM, hnamed, hmethM, hstM, habM⟩ := Cond.instanceMethod_spec (C.ts _ hins)
  obtain ⟨mk2, methk, ck, hn2, hmeth, hcode, hcc, hnl, htab, hret, hlk, hsig⟩ := xCode.get C.ts hco
  cases hnamed.symm.trans hn2
  cases hmethM.symm.trans hmeth
  obtain ⟨cellB, hcB, hoB, hclB⟩ := va_recv (q0 := 0) C.kk.1 (xP1 (h1.2.2 b _ hX).1) hcl rfl
  obtain ⟨c2, r2, m2, q1, q2, q3, q4, kP, hkP, hkPi⟩ := Cond.selects_spec (C.ts _ hse)
  cases hclB.symm.trans q1
  cases (State.methodFound?_of_named hnamed hch.2.1).symm.trans q2
  cases hnamed.symm.trans q3
  have hselP : selectMethod E.e.platform E.s.vm cellB.cls mk = .method mk := by rw [Launch.admits_selectMethod S.admits]; exact q4
  have hdc : decode E.c.code pc = .ok (.invokevirtual idx, 3) := by rw [C.2.1]; exact hd
  obtain ⟨vm₁, S₁, hstep⟩ : ∃ vm', Stand E.p E.l E.e E.R E.s E.m E.args E.below E.meth E.c (T.setVm vm') locs cells slots ∧ ∀ target, (∀ acts, Steps E.p.tables E.e E.below (doInvoke E.e ((T.setVm vm').setTop { (F0 E.m pc ls (av.reverse ++ .ref b :: rest)) with stack := rest }) acts mk (.ref b :: av).toArray).1 target) → Steps E.p.tables E.e E.below (T.setTop (F0 E.m pc ls (av.reverse ++ .ref b :: rest))) target := by
    rcases hl with hl | ⟨host, hl⟩
    · exact S.invokevirtual C.1 C.ow (C.ts _ hl) hnamed hmethM hstM hkP hkPi hch.2.1 (a := b) (cell := cellB) hcB (fun z h => by rw [h] at hoB; cases hoB) hselP hmethM habM hkP hkPi (g := F0 E.m pc ls (av.reverse ++ .ref b :: rest)) rfl (argsL := av) (rest := rest) (xarity hch.2.2 hsig) rfl hdc
    · exact S.invokevirtualNest C.1 C.ow (C.ts _ hl) hnamed hmethM hstM hkP hkPi hch.2.1 (a := b) (cell := cellB) hcB (fun z h => by rw [h] at hoB; cases hoB) hselP hmethM habM hkP hkPi (g := F0 E.m pc ls (av.reverse ++ .ref b :: rest)) rfl (argsL := av) (rest := rest) (xarity hch.2.2 hsig) rfl hdc
  obtain ⟨T', Lc, rr, X', S2, hR', hS', hp, hgo⟩ := xEnter C S₁ hM hco hch.1 h1 h2 (g := F0 E.m pc ls rest) rfl (by rw [C.2.2.1]; exact h3.1) hdc hn2 hnum.1 hnum.2.1 hrc hrs (lv_room hnum.2.2)
  cases rr with
  | inl v =>
    obtain ⟨t, a1, b1⟩ := kr v X' hp T'.heap (locs ++ Lc) ls hR' hS' h3 T' rfl S2
    exact ⟨t, hstep _ (fun acts => (hgo acts).trans a1), b1⟩
  | inr Cn =>
    obtain ⟨a, cell, c1, c2, c3, hgo⟩ := hgo
    obtain ⟨t, a1, b1⟩ := kt Cn X' hp T' (locs ++ Lc) ls rest a cell hR' hS' h3 c1 c2 c3 S2
    exact ⟨t, hstep _ (fun acts => (hgo acts).trans a1), b1⟩
theorem xr_callI (C : xCx E y cc nL ret hs d mc ms Post) (hM : xMet E.l E.D E.H0 y' cc' nL' none [] d' mc' ms' (.ref b :: av) X Post') (hco : Cond.code y' cc' nL' none ∈ xT) {idx : Nat} (hd : decode cc pc = .ok (.invokespecial idx, 3)) (n : Nat) (hn : pc + 3 = n) (hl : Cond.methodLink y.cls idx y' ∈ xT ∨ ∃ host, Cond.methodLinkNest y.cls idx y' host ∈ xT) (hins : Cond.instanceMethod y' ∈ xT) (hini : y'.name = "<init>") (hch : plainFor y' = true ∧ (y'.cls ≠ "java/lang/invoke/MethodHandle" ∧ y'.cls ≠ "java/lang/invoke/VarHandle") ∧ (parseMethodDescriptor y'.desc).map (fun d => d.parameters.length) = some av.length) {rest : List Value} (he : st = av.reverse ++ .ref b :: rest) (hnum : d' + 1 ≤ d ∧ nL' ≤ 21 ∧ (rest.map fun v => v.category).sum ≤ 8) (hrc : cells + mc' ≤ mc) (hrs : slots + ms' ≤ ms) (kr : ∀ (v : Option Value) (X' : xH), Post' (.inl v) X' → xG E X' (cells + mc') (slots + ms') n L (v.toList ++ rest)) (kt : ∀ (Cn : String) (X' : xH), Post' (.inr Cn) X' → xTh E X' (cells + mc') (slots + ms') pc L Cn) : xG E X cells slots pc L st := by
  subst hn
  subst he
  intro H locs ls h1 h2 h3 T hT S
  subst hT
  have hdc : decode E.c.code pc = .ok (.invokespecial idx, 3) := by rw [C.2.1]; exact hd
  have hplt : E.e.platform.magicAccessors = ({} : Platform).magicAccessors := by rw [S.admits.platform]
  obtain ⟨mk, vm₁, hnamed, hW₁, hstep⟩ : ∃ mk vm₁, E.s.methodNamed? y' = some mk ∧ E.s.WarmedH vm₁ ∧ ∀ target, (∀ acts, Steps E.p.tables E.e E.below (doInvoke E.e ((T.setVm vm₁).setTop (F0 E.m pc ls rest)) acts mk (.ref b :: av).toArray).1 target) → Steps E.p.tables E.e E.below (T.setTop (F0 E.m pc ls (av.reverse ++ .ref b :: rest))) target := by
    rcases hl with hl | ⟨host, hl⟩
    · obtain ⟨mk, methM, cM, kP, vm₁, hnamed, hmethM, hcodeM, -, hlocalsM, -, hkP, -, hW₁, hstep₁⟩ := Steps.initColdArgs (e := E.e) S.here C.1 S.warmed hplt C.ow hini hch.2.1 (C.ts _ hl) (C.ts _ hins) (C.ts _ hco) (f := F0 E.m pc ls (av.reverse ++ .ref b :: rest)) rfl (a := b) (argsL := av) (rest := rest) (fun sig h => xarity hch.2.2 h) rfl hdc
      exact ⟨mk, vm₁, hnamed, hW₁, hstep₁⟩
    · obtain ⟨mk, methM, cM, kP, vm₁, hnamed, hmethM, hcodeM, -, hlocalsM, -, hkP, -, hW₁, hstep₁⟩ := Steps.initColdArgsNest (e := E.e) S.here C.1 S.warmed hplt C.ow hini hch.2.1 (C.ts _ hl) (C.ts _ hins) (C.ts _ hco) (f := F0 E.m pc ls (av.reverse ++ .ref b :: rest)) rfl (a := b) (argsL := av) (rest := rest) (fun sig h => xarity hch.2.2 h) rfl hdc
      exact ⟨mk, vm₁, hnamed, hW₁, hstep₁⟩
  have S₁ := S.noted hW₁
  obtain ⟨T', Lc, rr, X', S2, hR', hS', hp, hgo⟩ := xEnter C S₁ hM (Or.inl ⟨rfl, hco⟩) hch.1 h1 h2 (g := F0 E.m pc ls rest) rfl (by rw [C.2.2.1]; exact h3.1) hdc hnamed hnum.1 hnum.2.1 hrc hrs (lv_room hnum.2.2)
  cases rr with
  | inl v =>
    obtain ⟨t, a1, b1⟩ := kr v X' hp T'.heap (locs ++ Lc) ls hR' hS' h3 T' rfl S2
    exact ⟨t, hstep _ (fun acts => (hgo acts).trans a1), b1⟩
  | inr Cn =>
    obtain ⟨a, cell, c1, c2, c3, hgo⟩ := hgo
    obtain ⟨t, a1, b1⟩ := kt Cn X' hp T' (locs ++ Lc) ls rest a cell hR' hS' h3 c1 c2 c3 S2
    exact ⟨t, hstep _ (fun acts => (hgo acts).trans a1), b1⟩
end XCL
end
section
/-! Rows: statics, throws and catches, arraycopy, clone, Math, class objects. -/
theorem xold {D : va_G} {H0 : Heap} {X : xH} {s : State} {H : Heap} {locs : List Loc} (h1 : xRep D H0 X H) (h2 : va_S (fun q => H0.size ≤ q) s.heap H locs) (h0 : H0.size ≤ s.heap.size) : ∀ a : Nat, a < H0.size → ¬ xA H0 a → s.heap[a]? = H0[a]? := fun a ha hn => (h2.2.1 a (by omega) hn).symm.trans (h1.2.1 a ha)
def xups : List String := ["java/lang/RuntimeException", "java/lang/Exception"]
/-- the words of a throw -/
def xThW (own : String) (ik ic : Nat) (cls : String) : Prop := Bundle.fit cls = true ∧ Cond.classLink own ik cls ∈ xT ∧ Cond.initialized cls ∈ xT ∧ (∀ w ∈ vx_atS own ic cls xups, w ∈ xT) ∧ ∀ w ∈ Cond.classLink own ik cls :: Cond.initialized cls :: vx_atS own ic cls xups, vx_ot w = true
theorem xups_fit : ∀ n ∈ xups, Bundle.fit n = true := by decide +kernel
theorem xstore_slots (at_ : Nat) : ∀ (vs : List (Value × Nat)) (c c' : Cell), c.slots = c'.slots → (c.storePairs at_ vs).slots = (c'.storePairs at_ vs).slots := by
  intro vs
  induction vs with
  | nil => intro c c' h; exact h
  | cons v vs ih =>
    intro c c' h
    exact ih (c.setSlot (at_ + v.2) v.1) (c'.setSlot (at_ + v.2) v.1) (by show c.slots.setIfInBounds _ _ = c'.slots.setIfInBounds _ _; rw [h])
theorem xac_copied {c0 c1 : ClassId} {n0 n1 sp dp n : Nat} {g0 g1 : Nat → Value} {cs cd : Cell} (h0 : xac c0 n0 g0 cs) (h1 : xac c1 n1 g1 cd) (hs : sp + n ≤ n0) : xac c1 n1 (va_cpy g0 g1 sp dp n) (cd.storeRun dp (cs.stretch sp n)) := by
  obtain ⟨f1, f2, -⟩ := Cell.storePairs_facts cd dp (cs.stretch sp n).zipIdx
  refine ⟨f1.trans h1.1, by show (cd.storePairs dp (cs.stretch sp n).zipIdx).vm ≠ _; rw [f2]; exact h1.2.1, fun k => by show (cd.storePairs dp (cs.stretch sp n).zipIdx).vm ≠ _; rw [f2]; exact h1.2.2.1 k, ?_⟩
  have e1 : cs.stretch sp n = (arrV c0 n0 (fun j => g0 j)).stretch sp n := by
    unfold Cell.stretch
    rw [h0.2.2.2]
  rw [e1]
  show (cd.storePairs dp _).slots = _
  rw [xstore_slots dp _ cd (arrV c1 n1 (fun j => g1 j)) h1.2.2.2]
  have e2 := va_copied (fun z : Value => z) c0 c1 (n0 := n0) (n1 := n1) (sp := sp) (dp := dp) (n := n) g0 g1 hs
  show ((arrV c1 n1 (fun j => g1 j)).storeRun dp _).slots = _
  rw [e2]
section XRM
variable {E : xE} {y : MethodName} {cc : ByteArray} {nL : Nat} {ret : Option FieldType} {hs : List (Nat × Nat × Nat × Nat)} {d mc ms : Nat} {Post : xO → xH → Prop} {X : xH} {cells slots pc : Nat} {L : List (Option Value)} {st : List Value}
theorem xr_gets (C : xCx E y cc nL ret hs d mc ms Post) {Cn nm ds : String} {v : Value} {idx : Nat} (hZ : va_Z Cn nm ds v (xA E.H0) E.s E.H0) (hd : decode cc pc = .ok (.getstatic idx, 3)) (n : Nat) (hn : pc + 3 = n) (hl : Cond.fieldLink y.cls idx Cn nm ds ∈ xT ∨ ∃ host, Cond.fieldLinkNest y.cls idx Cn nm ds host ∈ xT) (kk : xG E X cells slots n L (v :: st)) : xG E X cells slots pc L st := by
  subst hn
  intro H locs ls h1 h2 h3
  have hZ' : va_Z Cn nm ds v (xA E.H0) E.s E.s.heap := hZ.kept (xold h1 h2 C.h0)
  rcases hl with hl | ⟨host, hl⟩
  · exact va_gets C.1 C.2.1 hZ' h2 C.ow (C.ts _ hl) (fun _ h => h) hd (kk H locs ls h1 h2 h3)
  · exact va_getsN C.1 C.2.1 hZ' h2 C.ow (C.ts _ hl) (fun _ h => h) hd (kk H locs ls h1 h2 h3)
theorem xr_throw (C : xCx E y cc nL ret [] d mc ms Post) {ik is ic : Nat} {cls tx : String} (hy : y.cls = "TwinKeepers") (d0 : decode cc pc = .ok (.new ik, 3)) (d3 : decode cc (pc + 3) = .ok (.dup, 1)) (d4 : decode cc (pc + 4) = .ok (.ldc is, 2)) (d6 : decode cc (pc + 6) = .ok (.invokespecial ic, 3)) (d9 : decode cc (pc + 9) = .ok (.athrow, 1)) (hw : xThW y.cls ik ic cls) (hmem : (is, tx) ∈ xstr) (hst : (st.map fun v => v.category).sum ≤ 8) (hc : cells + 1 ≤ mc) (hsl : slots + 6 ≤ ms) (hp : Post (.inr cls) X) : xG E X cells slots pc L st := by
  intro H locs ls h1 h2 h3
  obtain ⟨sa, hstr⟩ := C.kk.2.2.2.2.2.2.1 (is, tx) hmem
  have hkp := xold h1 h2 C.h0
  have htab : ∀ x ∈ E.c.exceptionTable.toList, covers x (pc + 9) = false := by
    have h' : E.c.exceptionTable.toList = [] := by simpa using C.tb
    intro x hx
    rw [h'] at hx
    cases hx
  rw [C.qq]
  refine xW_mono (fun t ht => ?_) (vx_throwS (XC := fun En _ t => En = cls ∧ xRep E.D E.H0 X t.heap) (Qc := fun _ _ _ _ => False) (free := fun q => E.H0.size ≤ q) (A := xA E.H0) C.1 C.2.1 C.tr (own := y.cls) (cls := cls) (text := tx) (names := xups) (sa := sa) C.ow hw.1 xups_fit (C.ts _ hw.2.1) (C.ts _ hw.2.2.1) (by rw [hy]; exact hstr) (fun w h => C.ts w (hw.2.2.2.1 w h)) hw.2.2.2.2 (C.kk.2.2.2.2.1.kept hkp) (C.kk.2.2.2.2.2.1.kept hkp) h2 (by rw [C.2.2.1]; exact h3.1) d0 d3 d4 d6 d9 htab (by rw [C.rm]; show 2 + 3 < d + 8; omega) (by rw [C.rm]; show _ + (13 * (2 + 1) + 43) ≤ 40 * (d + 8); omega) (C.rc hc) (C.rs hsl) C.lk (fun t _ z o => ⟨rfl, h1.more z o⟩) h2.2.2 hc hsl)
  obtain ⟨o, t1, t2, hq⟩ := ht
  rcases hq with ⟨hf, -⟩ | ⟨q, rfl, En, ce, Lc, ⟨rfl, hr⟩, g1, g2, g3, g4, g5, g6⟩
  · exact hf.elim
  · exact ⟨.threw q, .inr En, X, Lc, t1, t2, ⟨q, ce, rfl, g1, g2, (g4.alike.findClass En _).trans g3⟩, hr, hp, g4, g5, g6⟩
theorem xr_max (C : xCx E y cc nL ret hs d mc ms Post) {idx : Nat} {x z : Int32} (hd : decode cc pc = .ok (.invokestatic idx, 3)) (n : Nat) (hn : pc + 3 = n) (hl : Cond.methodLink y.cls idx Lib.Math.max.name ∈ xT) (hw : Cond.static Lib.Math.max.name ∈ xT ∧ Cond.initialized "java/lang/Math" ∈ xT ∧ Cond.code Lib.Math.max.name Lib.Math.max.code 2 (some .int) ∈ xT) (hst : (st.map fun v => v.category).sum ≤ 8) (hc : cells ≤ mc) (hsl : slots ≤ ms) (kk : xG E X cells slots n L (.int (if x < z then z else x) :: st)) : xG E X cells slots pc L (.int z :: .int x :: st) := by
  subst hn
  intro H locs ls h1 h2 h3
  exact va_mmax C.1 C.2.1 (by rw [C.2.2.1]; exact h3.1.symm) C.ow (C.ts _ hl) (C.ts _ hw.1) (C.ts _ hw.2.1) (C.ts _ hw.2.2) (by rw [C.rm]; show 1 ≤ d + 8; omega) (by rw [C.rm]; show _ + 13 ≤ 40 * (d + 8); omega) (C.rc hc) (C.rs hsl) hd (kk H locs ls h1 h2 h3)
theorem xr_min (C : xCx E y cc nL ret hs d mc ms Post) {idx : Nat} {x z : Int32} (hd : decode cc pc = .ok (.invokestatic idx, 3)) (n : Nat) (hn : pc + 3 = n) (hl : Cond.methodLink y.cls idx Lib.Math.min.name ∈ xT) (hw : Cond.static Lib.Math.min.name ∈ xT ∧ Cond.initialized "java/lang/Math" ∈ xT ∧ Cond.code Lib.Math.min.name Lib.Math.min.code 2 (some .int) ∈ xT) (hst : (st.map fun v => v.category).sum ≤ 8) (hc : cells ≤ mc) (hsl : slots ≤ ms) (kk : xG E X cells slots n L (.int (if z < x then z else x) :: st)) : xG E X cells slots pc L (.int z :: .int x :: st) := by
  subst hn
  intro H locs ls h1 h2 h3
  exact va_mmin C.1 C.2.1 (by rw [C.2.2.1]; exact h3.1.symm) C.ow (C.ts _ hl) (C.ts _ hw.1) (C.ts _ hw.2.1) (C.ts _ hw.2.2) (by rw [C.rm]; show 1 ≤ d + 8; omega) (by rw [C.rm]; show _ + 13 ≤ 40 * (d + 8); omega) (C.rc hc) (C.rs hsl) hd (kk H locs ls h1 h2 h3)
/-- System.arraycopy of elements that fit; t0, t1: the arrays' kinds -/
theorem xcopy (C : xCx E y cc nL ret hs d mc ms Post) {idx a0 a1 n0 n1 sp dp n t0 : Nat} {c0 c1 : ClassId} {p0 p1 p2 : (Nat → Int32) ⊕ (Nat → Int64) ⊕ (Nat → UInt32) ⊕ (Nat → UInt64) ⊕ (Nat → Option Nat)} {ty : FieldType} (ht0 : (xty E.D)[t0]? = some (c0, ty)) (ht1 : (xty E.D)[t0]? = some (c1, ty)) (hd : decode cc pc = .ok (.invokestatic idx, 3)) (nx : Nat) (hn : pc + 3 = nx) (hl : Cond.methodLink y.cls idx arraycopyName ∈ xT) (hw : Cond.native arraycopyName ∈ xT ∧ Cond.static arraycopyName ∈ xT ∧ Cond.initialized "java/lang/System" ∈ xT) (hX0 : X a0 = some (.inl (c0, n0, p0))) (hX1 : X a1 = some (.inl (c1, n1, p1))) (hs0 : sp + n ≤ n0) (hd0 : dp + n ≤ n1) (hN0 : n0 < 2 ^ 31) (hN1 : n1 < 2 ^ 31) (hz : n1 ≠ 0) (hst : (st.map fun v => v.category).sum ≤ 8)
    (hvals : ∀ (H : Heap), xRep E.D E.H0 X H → ∀ (T : State), T.heap = H → E.s.vm.Alike T.vm → ∀ (comp : ClassId), (∀ k, E.s.vm.classes[c1]? = some k → k.kind = .array comp ty) → ∀ i, i < n → fits ty (xav (n0, p0) (sp + i)) = true ∧ T.takes comp (xav (n0, p0) (sp + i)))
    (hcp : va_cpy (xav (n0, p0)) (xav (n1, p1)) sp dp n = xav (n1, p2))
    (kk : xG E (xup X a1 (.inl (c1, n1, p2))) cells slots nx L st) : xG E X cells slots pc L (.int (nI n) :: .int (nI dp) :: .ref a1 :: .int (nI sp) :: .ref a0 :: st) := by
  subst hn
  intro H locs ls h1 h2 h3 T hT S
  subst hT
  have hz' : ¬ xz (.inl (c1, n1, p1) : va_E) := fun z => hz z
  obtain ⟨cs, b1, b2⟩ := h1.cell hX0
  obtain ⟨cd, b3, b4⟩ := h1.cell hX1
  have m0 : (nI sp).toNatClampNeg = sp := nI_clamp (by omega)
  have m1 : (nI dp).toNatClampNeg = dp := nI_clamp (by omega)
  have m2 : (nI n).toNatClampNeg = n := nI_clamp (by omega)
  obtain ⟨-, k0, hk0, cm0, hkk0⟩ := b2.of (C.kk.1.2 t0 _ ht0).1
  obtain ⟨-, k1, hk1, cm1, hkk1⟩ := b4.of (C.kk.1.2 t0 _ ht1).1
  obtain ⟨vm', S', step⟩ := S.arraycopy C.1 C.ow (C.ts _ hl) (C.ts _ hw.1) (C.ts _ hw.2.1) (C.ts _ hw.2.2) (src := a0) (dst := a1) (cs := cs) (cd := cd) (srcPos := nI sp) (destPos := nI dp) (n := nI n) b1 b3 b2.2.2.1 b4.2.2.1 b2.2.1 b4.2.1 hk0 hk1 hkk0 hkk1 (by simp) (nI_pos (by omega)) (nI_pos (by omega)) (nI_pos (by omega))
    (by rw [nI_toInt (by omega), nI_toInt (by omega), b2.size]; show ¬ _ > (n0 : Int); omega) (by rw [nI_toInt (by omega), nI_toInt (by omega), b4.size]; show ¬ _ > (n1 : Int); omega)
    (fun vm₁ hal i hi => by
      rw [m2] at hi
      rw [m0]
      have e : cs.slots.getD (sp + i) .null = xav (n0, p0) (sp + i) := by
        rw [Array.getD_eq_getD_getElem?, b2.read (show sp + i < n0 by omega)]
        rfl
      rw [e]
      exact hvals T.heap h1 (T.setVm vm₁) rfl hal cm1 (fun k hk => by rw [b4.1] at hk1; cases hk.symm.trans hk1; exact hkk1) i hi)
    (g := F0 E.m pc ls (.int (nI n) :: .int (nI dp) :: .ref a1 :: .int (nI sp) :: .ref a0 :: st)) rfl (by rw [C.2.2.1]; exact h3.1) (rest := st) rfl (by rw [C.2.1]; exact hd) (by rw [C.rm]; show 1 ≤ d + 8; omega) (by rw [C.rm, show nativeFrameWords "java/lang/System" "arraycopy" 5 = 7 from by decide]; show 2 * 0 + _ + _ ≤ 40 * (d + 8); omega)
  have hcpd : copied cs cd (nI sp) (nI dp) (nI n) = cd.storeRun dp (cs.stretch sp n) := by
    show cd.storeRun (nI dp).toNatClampNeg (cs.stretch (nI sp).toNatClampNeg (nI n).toNatClampNeg) = _
    rw [m0, m1, m2]
  rw [hcpd] at S' step
  rw [m0, m1, m2] at S'
  have hl1 : a1 < T.heap.size := (Array.getElem?_eq_some_iff.mp b3).1
  have hheap : ((T.setVm vm').setCell a1 (cd.storeRun dp (cs.stretch sp n))).heap = T.heap.setIfInBounds a1 (cd.storeRun dp (cs.stretch sp n)) := rfl
  have oq : ∀ q : Nat, q ≠ a1 → (T.heap.setIfInBounds a1 (cd.storeRun dp (cs.stretch sp n)))[q]? = T.heap[q]? := fun q hq => by simp [Array.getElem?_setIfInBounds, Ne.symm hq]
  have hat : xat E.D (a1, .inl (c1, n1, p2)) (T.heap.setIfInBounds a1 (cd.storeRun dp (cs.stretch sp n))) := by
    refine ⟨cd.storeRun dp (cs.stretch sp n), by simp [Array.getElem?_setIfInBounds, hl1], ?_⟩
    show xac c1 n1 (xav (n1, p2)) _
    rw [← hcp]
    exact xac_copied b2 b4 hs0
  have hR := h1.put hX1 hz' hat (by simp) oq
  obtain ⟨t, q1, q2⟩ := kk _ _ ls hR (xS_call (Lc := ((cs.stretch sp n).zipIdx.map fun q => (⟨a1, dp + q.2⟩ : Loc))) h2 h1 hR (by simp) (fun q hq => by
    obtain ⟨z, -, hz⟩ := List.mem_map.mp hq
    rw [← hz]
    exact h1.old hX1 hz')) h3 _ hheap S'
  exact ⟨t, step t q1, q2⟩
theorem xr_copyb (C : xCx E y cc nL ret hs d mc ms Post) {idx a0 a1 n0 n1 sp dp n : Nat} {f g : Nat → Int32} (hd : decode cc pc = .ok (.invokestatic idx, 3)) (nx : Nat) (hn : pc + 3 = nx) (hl : Cond.methodLink y.cls idx arraycopyName ∈ xT) (hw : Cond.native arraycopyName ∈ xT ∧ Cond.static arraycopyName ∈ xT ∧ Cond.initialized "java/lang/System" ∈ xT) (hX0 : X a0 = some (.inl (E.D.1 100, n0, .inl f))) (hX1 : X a1 = some (.inl (E.D.1 100, n1, .inl g))) (hs0 : sp + n ≤ n0) (hd0 : dp + n ≤ n1) (hN0 : n0 < 2 ^ 31) (hN1 : n1 < 2 ^ 31) (hz : n1 ≠ 0) (hst : (st.map fun v => v.category).sum ≤ 8) (hb : ∀ i, i < n → fits .byte (.int (f (sp + i))) = true) (kk : xG E (xup X a1 (.inl (E.D.1 100, n1, .inl (va_cpy f g sp dp n)))) cells slots nx L st) : xG E X cells slots pc L (.int (nI n) :: .int (nI dp) :: .ref a1 :: .int (nI sp) :: .ref a0 :: st) := by
  refine xcopy (t0 := 0) (p2 := .inl (va_cpy f g sp dp n)) C rfl rfl hd nx hn hl hw hX0 hX1 hs0 hd0 hN0 hN1 hz hst (fun H _ T _ _ comp _ i hi => ⟨hb i hi, trivial⟩) ?_ kk
  funext k
  simp only [va_cpy, xav]
  split <;> rfl
theorem xr_copyq (C : xCx E y cc nL ret hs d mc ms Post) {idx a0 a1 n0 n1 sp dp n : Nat} {f g : Nat → Option Nat} (hd : decode cc pc = .ok (.invokestatic idx, 3)) (nx : Nat) (hn : pc + 3 = nx) (hl : Cond.methodLink y.cls idx arraycopyName ∈ xT) (hw : Cond.native arraycopyName ∈ xT ∧ Cond.static arraycopyName ∈ xT ∧ Cond.initialized "java/lang/System" ∈ xT) (hX0 : X a0 = some (.inl (E.D.1 101, n0, .inr (.inr (.inr (.inr f)))))) (hX1 : X a1 = some (.inl (E.D.1 101, n1, .inr (.inr (.inr (.inr g)))))) (hs0 : sp + n ≤ n0) (hd0 : dp + n ≤ n1) (hN0 : n0 < 2 ^ 31) (hN1 : n1 < 2 ^ 31) (hz : n1 ≠ 0) (hst : (st.map fun v => v.category).sum ≤ 8) (hel : ∀ i, i < n → ∀ q : Nat, f (sp + i) = some q → ∃ (ci : Nat) (vs : List Value) (r : vw_C), X q = some (.inr (ci, vs)) ∧ xcl[ci]? = some r ∧ Cond.castable r.1 "java/lang/Object" ∈ xT) (kk : xG E (xup X a1 (.inl (E.D.1 101, n1, .inr (.inr (.inr (.inr (va_cpy f g sp dp n))))))) cells slots nx L st) : xG E X cells slots pc L (.int (nI n) :: .int (nI dp) :: .ref a1 :: .int (nI sp) :: .ref a0 :: st) := by
  refine xcopy (t0 := 1) (p2 := .inr (.inr (.inr (.inr (va_cpy f g sp dp n))))) C rfl rfl hd nx hn hl hw hX0 hX1 hs0 hd0 hN0 hN1 hz hst (fun H hR T hT hal comp hcomp i hi => ?_) ?_ kk
  · show fits (.object "java/lang/Object") (va_rf (f (sp + i))) = true ∧ T.takes comp (va_rf (f (sp + i)))
    cases hy : f (sp + i) with
    | none => exact ⟨rfl, trivial⟩
    | some q =>
      obtain ⟨ci, vs, r, hq, hc, hca⟩ := hel i hi q hy
      obtain ⟨r', hr', cellV, g1, g2, g3, -⟩ := (hR.2.2 q _ hq).1
      have hcls := (C.kk.1.1 ci r hc).2
      obtain ⟨kA, comp', k1, k2, k3, -⟩ := (C.kk.1.2 1 _ rfl).2
      have hce : comp' = comp := by
        have := (hcomp kA k1).symm.trans k2
        simp at this
        exact this.symm
      subst hce
      obtain ⟨kE, hkE, -⟩ := Vm.findClass_spec k3
      obtain ⟨c0, t1, f1, f2, f3⟩ := Cond.castable_spec (C.ts _ hca)
      cases hcls.1.symm.trans f1
      cases k3.symm.trans f2
      obtain ⟨kC, hkC, -⟩ := hcls.2
      obtain ⟨kC', hkC', -⟩ := hal.2.2 _ _ hkC
      obtain ⟨kE', hkE', -⟩ := hal.2.2 _ _ hkE
      refine ⟨rfl, cellV, by rw [hT]; exact g1, (fun k h => by rw [g3] at h; cases h), ⟨kC', by rw [g2]; exact hkC'⟩, ⟨kE', hkE'⟩, ?_⟩
      rw [hal.assignable, g2]
      exact f3
  · funext k
    simp only [va_cpy, xav]
    split <;> rfl
theorem xr_ldcM (C : xCx E y cc nL ret hs d mc ms Post) {idx : Nat} (hd : decode cc pc = .ok (.ldc idx, 2)) (n : Nat) (hn : pc + 2 = n) (hl : Cond.classLink y.cls idx "[Ljava/lang/Object;" ∈ xT) (kk : xG E X cells slots n L (.ref (E.D.2 200 2) :: st)) : xG E X cells slots pc L st := by
  subst hn
  intro H locs ls h1 h2 h3
  exact va_ldcM C.1 C.2.1 C.ow (C.ts _ hl) C.kk.2.2.2.2.2.2.2 hd (kk H locs ls h1 h2 h3)
theorem xr_getC (C : xCx E y cc nL ret hs d mc ms Post) {idx a : Nat} {x : vp_A} (hd : decode cc pc = .ok (.invokevirtual idx, 3)) (n : Nat) (hn : pc + 3 = n) (hX : X a = some (.inl (E.D.1 101, x))) (hl : Cond.methodLink y.cls idx ⟨"java/lang/Object", "getClass", "()Ljava/lang/Class;"⟩ ∈ xT) (hw : Cond.declares ⟨"java/lang/Object", "getClass", "()Ljava/lang/Class;"⟩ ∈ xT ∧ Cond.selects "[Ljava/lang/Object;" ⟨"java/lang/Object", "getClass", "()Ljava/lang/Class;"⟩ ⟨"java/lang/Object", "getClass", "()Ljava/lang/Class;"⟩ ∈ xT ∧ Cond.instanceMethod ⟨"java/lang/Object", "getClass", "()Ljava/lang/Class;"⟩ ∈ xT ∧ Cond.native ⟨"java/lang/Object", "getClass", "()Ljava/lang/Class;"⟩ ∈ xT) (hst : (st.map fun v => v.category).sum ≤ 8) (kk : xG E X cells slots n L (.ref (E.D.2 200 2) :: st)) : xG E X cells slots pc L (.ref a :: st) := by
  subst hn
  intro H locs ls h1 h2 h3
  obtain ⟨cB, b1, b2⟩ := h1.cell hX
  have hnm : E.s.vm.findClass "[Ljava/lang/Object;" = some (E.D.1 101) := va_nmO (C.kk.1.2 1 _ rfl).2 (by decide)
  refine va_getC C.1 C.2.1 (by rw [C.2.2.1]; exact h3.1.symm) C.ow (C.ts _ hl) (C.ts _ hw.1) (C.ts _ hw.2.1) (C.ts _ hw.2.2.1) (C.ts _ hw.2.2.2) C.kk.2.2.2.2.2.2.2 ⟨cB, b1, ?_, by rw [b2.1]; exact hnm⟩ (by rw [C.rm]; show 1 ≤ d + 8; omega) (by rw [C.rm]; show _ + 14 ≤ 40 * (d + 8); omega) hd (kk H locs ls h1 h2 h3)
  cases hv : cB.vm <;> first | rfl | exact absurd hv (b2.2.2.1 _)
end XRM
end
