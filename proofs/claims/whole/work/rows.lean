section
-- ===== PART A: goes FIRST, ahead of the names: the tables' words, and 'selects' of the private methods out of them =====
/-- a private method of a class that the tables say can be made, by its rows of tables_1 -/
def lw_okq (q : MethodName × Nat) : Prop := (q.1.cls ≠ "java/lang/invoke/MethodHandle" ∧ q.1.cls ≠ "java/lang/invoke/VarHandle") ∧ Cond.instantiable q.1.cls q.2 ∈ tables_1 ∧ Cond.privateMethod q.1 ∈ tables_1 ∧ Cond.instanceMethod q.1 ∈ tables_1
theorem lw_p0 : lw_okq (⟨"java/lang/Throwable", "fillInStackTrace", "(I)Ljava/lang/Throwable;"⟩, 6) := ⟨⟨by decide +kernel, by decide +kernel⟩, List.mem_of_getElem? (i := 188) (by decide +kernel), List.mem_of_getElem? (i := 186) (by decide +kernel), List.mem_of_getElem? (i := 187) (by decide +kernel)⟩
theorem lw_p1 : lw_okq (⟨"TwinKeepers", "machineOf", "(I)LTwinKeepers$Machine;"⟩, 6) := ⟨⟨by decide +kernel, by decide +kernel⟩, List.mem_of_getElem? (i := 30) (by decide +kernel), List.mem_of_getElem? (i := 241) (by decide +kernel), List.mem_of_getElem? (i := 242) (by decide +kernel)⟩
theorem lw_p2 : lw_okq (⟨"TwinKeepers$Machine", "longestUnused", "()I"⟩, 3) := ⟨⟨by decide +kernel, by decide +kernel⟩, List.mem_of_getElem? (i := 38) (by decide +kernel), List.mem_of_getElem? (i := 275) (by decide +kernel), List.mem_of_getElem? (i := 276) (by decide +kernel)⟩
theorem lw_p3 : lw_okq (⟨"java/util/ArrayList", "fastRemove", "([Ljava/lang/Object;I)V"⟩, 3) := ⟨⟨by decide +kernel, by decide +kernel⟩, List.mem_of_getElem? (i := 44) (by decide +kernel), List.mem_of_getElem? (i := 298) (by decide +kernel), List.mem_of_getElem? (i := 299) (by decide +kernel)⟩
theorem lw_p4 : lw_okq (⟨"java/util/ArrayList", "add", "(Ljava/lang/Object;[Ljava/lang/Object;I)V"⟩, 3) := ⟨⟨by decide +kernel, by decide +kernel⟩, List.mem_of_getElem? (i := 44) (by decide +kernel), List.mem_of_getElem? (i := 339) (by decide +kernel), List.mem_of_getElem? (i := 340) (by decide +kernel)⟩
theorem lw_p5 : lw_okq (⟨"java/util/ArrayList", "grow", "()[Ljava/lang/Object;"⟩, 3) := ⟨⟨by decide +kernel, by decide +kernel⟩, List.mem_of_getElem? (i := 44) (by decide +kernel), List.mem_of_getElem? (i := 343) (by decide +kernel), List.mem_of_getElem? (i := 344) (by decide +kernel)⟩
theorem lw_p6 : lw_okq (⟨"java/util/ArrayList", "grow", "(I)[Ljava/lang/Object;"⟩, 3) := ⟨⟨by decide +kernel, by decide +kernel⟩, List.mem_of_getElem? (i := 44) (by decide +kernel), List.mem_of_getElem? (i := 347) (by decide +kernel), List.mem_of_getElem? (i := 348) (by decide +kernel)⟩
theorem lw_p7 : lw_okq (⟨"TwinKeepers", "takeTape", "()I"⟩, 6) := ⟨⟨by decide +kernel, by decide +kernel⟩, List.mem_of_getElem? (i := 30) (by decide +kernel), List.mem_of_getElem? (i := 401) (by decide +kernel), List.mem_of_getElem? (i := 402) (by decide +kernel)⟩
theorem lw_p8 : lw_okq (⟨"TwinKeepers$Row", "addByte", "(B)V"⟩, 2) := ⟨⟨by decide +kernel, by decide +kernel⟩, List.mem_of_getElem? (i := 102) (by decide +kernel), List.mem_of_getElem? (i := 448) (by decide +kernel), List.mem_of_getElem? (i := 449) (by decide +kernel)⟩
theorem lw_p9 : lw_okq (⟨"TwinKeepers", "operate", "(LTwinKeepers$KeyMap;II)V"⟩, 6) := ⟨⟨by decide +kernel, by decide +kernel⟩, List.mem_of_getElem? (i := 30) (by decide +kernel), List.mem_of_getElem? (i := 462) (by decide +kernel), List.mem_of_getElem? (i := 463) (by decide +kernel)⟩
theorem lw_p10 : lw_okq (⟨"TwinKeepers$KeyMap", "replace", "(I[B)Z"⟩, 2) := ⟨⟨by decide +kernel, by decide +kernel⟩, List.mem_of_getElem? (i := 70) (by decide +kernel), List.mem_of_getElem? (i := 702) (by decide +kernel), List.mem_of_getElem? (i := 703) (by decide +kernel)⟩
theorem lw_p11 : lw_okq (⟨"TwinKeepers$KeyMap", "insert", "(I[B[B)Z"⟩, 2) := ⟨⟨by decide +kernel, by decide +kernel⟩, List.mem_of_getElem? (i := 70) (by decide +kernel), List.mem_of_getElem? (i := 727) (by decide +kernel), List.mem_of_getElem? (i := 728) (by decide +kernel)⟩
theorem lw_p12 : lw_okq (⟨"java/util/ArrayList", "rangeCheckForAdd", "(I)V"⟩, 3) := ⟨⟨by decide +kernel, by decide +kernel⟩, List.mem_of_getElem? (i := 44) (by decide +kernel), List.mem_of_getElem? (i := 735) (by decide +kernel), List.mem_of_getElem? (i := 736) (by decide +kernel)⟩
theorem lw_p13 : lw_okq (⟨"java/util/ArrayList", "outOfBoundsMsg", "(I)Ljava/lang/String;"⟩, 3) := ⟨⟨by decide +kernel, by decide +kernel⟩, List.mem_of_getElem? (i := 44) (by decide +kernel), List.mem_of_getElem? (i := 740) (by decide +kernel), List.mem_of_getElem? (i := 741) (by decide +kernel)⟩
theorem lw_p14 : lw_okq (⟨"TwinKeepers$KeyMap", "tellValue", "(ILTwinKeepers$Row;)V"⟩, 2) := ⟨⟨by decide +kernel, by decide +kernel⟩, List.mem_of_getElem? (i := 70) (by decide +kernel), List.mem_of_getElem? (i := 769) (by decide +kernel), List.mem_of_getElem? (i := 770) (by decide +kernel)⟩
theorem lw_p15 : lw_okq (⟨"TwinKeepers", "look", "(LTwinKeepers$KeyMap;II)V"⟩, 6) := ⟨⟨by decide +kernel, by decide +kernel⟩, List.mem_of_getElem? (i := 30) (by decide +kernel), List.mem_of_getElem? (i := 796) (by decide +kernel), List.mem_of_getElem? (i := 797) (by decide +kernel)⟩
def lw_privs_1 : List (MethodName × Nat) := [(⟨"java/lang/Throwable", "fillInStackTrace", "(I)Ljava/lang/Throwable;"⟩, 6), (⟨"TwinKeepers", "machineOf", "(I)LTwinKeepers$Machine;"⟩, 6), (⟨"TwinKeepers$Machine", "longestUnused", "()I"⟩, 3), (⟨"java/util/ArrayList", "fastRemove", "([Ljava/lang/Object;I)V"⟩, 3), (⟨"java/util/ArrayList", "add", "(Ljava/lang/Object;[Ljava/lang/Object;I)V"⟩, 3), (⟨"java/util/ArrayList", "grow", "()[Ljava/lang/Object;"⟩, 3), (⟨"java/util/ArrayList", "grow", "(I)[Ljava/lang/Object;"⟩, 3), (⟨"TwinKeepers", "takeTape", "()I"⟩, 6), (⟨"TwinKeepers$Row", "addByte", "(B)V"⟩, 2), (⟨"TwinKeepers", "operate", "(LTwinKeepers$KeyMap;II)V"⟩, 6), (⟨"TwinKeepers$KeyMap", "replace", "(I[B)Z"⟩, 2), (⟨"TwinKeepers$KeyMap", "insert", "(I[B[B)Z"⟩, 2), (⟨"java/util/ArrayList", "rangeCheckForAdd", "(I)V"⟩, 3), (⟨"java/util/ArrayList", "outOfBoundsMsg", "(I)Ljava/lang/String;"⟩, 3), (⟨"TwinKeepers$KeyMap", "tellValue", "(ILTwinKeepers$Row;)V"⟩, 2), (⟨"TwinKeepers", "look", "(LTwinKeepers$KeyMap;II)V"⟩, 6)]
theorem lw_r1 : ∀ q ∈ lw_privs_1, lw_okq q := List.forall_mem_cons.mpr ⟨lw_p0, List.forall_mem_cons.mpr ⟨lw_p1, List.forall_mem_cons.mpr ⟨lw_p2, List.forall_mem_cons.mpr ⟨lw_p3, List.forall_mem_cons.mpr ⟨lw_p4, List.forall_mem_cons.mpr ⟨lw_p5, List.forall_mem_cons.mpr ⟨lw_p6, List.forall_mem_cons.mpr ⟨lw_p7, List.forall_mem_cons.mpr ⟨lw_p8, List.forall_mem_cons.mpr ⟨lw_p9, List.forall_mem_cons.mpr ⟨lw_p10, List.forall_mem_cons.mpr ⟨lw_p11, List.forall_mem_cons.mpr ⟨lw_p12, List.forall_mem_cons.mpr ⟨lw_p13, List.forall_mem_cons.mpr ⟨lw_p14, List.forall_mem_cons.mpr ⟨lw_p15, fun _ h => absurd h List.not_mem_nil⟩⟩⟩⟩⟩⟩⟩⟩⟩⟩⟩⟩⟩⟩⟩⟩
theorem lw_p16 : lw_okq (⟨"TwinKeepers$Machine", "hasSessionsOf", "(LTwinKeepers$Machine;)Z"⟩, 3) := ⟨⟨by decide +kernel, by decide +kernel⟩, List.mem_of_getElem? (i := 38) (by decide +kernel), List.mem_of_getElem? (i := 849) (by decide +kernel), List.mem_of_getElem? (i := 850) (by decide +kernel)⟩
theorem lw_p17 : lw_okq (⟨"TwinKeepers$Machine", "hasEntriesOf", "(LTwinKeepers$Machine;)Z"⟩, 3) := ⟨⟨by decide +kernel, by decide +kernel⟩, List.mem_of_getElem? (i := 38) (by decide +kernel), List.mem_of_getElem? (i := 858) (by decide +kernel), List.mem_of_getElem? (i := 859) (by decide +kernel)⟩
theorem lw_p18 : lw_okq (⟨"TwinKeepersModel", "fail", "(I)I"⟩, 23) := ⟨⟨by decide +kernel, by decide +kernel⟩, List.mem_of_getElem? (i := 935) (by decide +kernel), List.mem_of_getElem? (i := 1024) (by decide +kernel), List.mem_of_getElem? (i := 1025) (by decide +kernel)⟩
theorem lw_p19 : lw_okq (⟨"TwinKeepersModel", "isNext", "(II)Z"⟩, 23) := ⟨⟨by decide +kernel, by decide +kernel⟩, List.mem_of_getElem? (i := 935) (by decide +kernel), List.mem_of_getElem? (i := 1036) (by decide +kernel), List.mem_of_getElem? (i := 1037) (by decide +kernel)⟩
theorem lw_p20 : lw_okq (⟨"TwinKeepersModel", "copySession", "(II)V"⟩, 23) := ⟨⟨by decide +kernel, by decide +kernel⟩, List.mem_of_getElem? (i := 935) (by decide +kernel), List.mem_of_getElem? (i := 1041) (by decide +kernel), List.mem_of_getElem? (i := 1042) (by decide +kernel)⟩
theorem lw_p21 : lw_okq (⟨"TwinKeepersModel", "find", "(II)I"⟩, 23) := ⟨⟨by decide +kernel, by decide +kernel⟩, List.mem_of_getElem? (i := 935) (by decide +kernel), List.mem_of_getElem? (i := 1052) (by decide +kernel), List.mem_of_getElem? (i := 1053) (by decide +kernel)⟩
theorem lw_p22 : lw_okq (⟨"TwinKeepersModel", "show", "()V"⟩, 23) := ⟨⟨by decide +kernel, by decide +kernel⟩, List.mem_of_getElem? (i := 935) (by decide +kernel), List.mem_of_getElem? (i := 1056) (by decide +kernel), List.mem_of_getElem? (i := 1057) (by decide +kernel)⟩
theorem lw_p23 : lw_okq (⟨"TwinKeepersModel", "add", "(I)V"⟩, 23) := ⟨⟨by decide +kernel, by decide +kernel⟩, List.mem_of_getElem? (i := 935) (by decide +kernel), List.mem_of_getElem? (i := 1060) (by decide +kernel), List.mem_of_getElem? (i := 1061) (by decide +kernel)⟩
theorem lw_p24 : lw_okq (⟨"TwinKeepersModel", "tell", "(I)V"⟩, 23) := ⟨⟨by decide +kernel, by decide +kernel⟩, List.mem_of_getElem? (i := 935) (by decide +kernel), List.mem_of_getElem? (i := 1065) (by decide +kernel), List.mem_of_getElem? (i := 1066) (by decide +kernel)⟩
theorem lw_p25 : lw_okq (⟨"TwinKeepersModel", "seek", "(II)V"⟩, 23) := ⟨⟨by decide +kernel, by decide +kernel⟩, List.mem_of_getElem? (i := 935) (by decide +kernel), List.mem_of_getElem? (i := 1069) (by decide +kernel), List.mem_of_getElem? (i := 1070) (by decide +kernel)⟩
theorem lw_p26 : lw_okq (⟨"TwinKeepersModel", "doPut", "(III)V"⟩, 23) := ⟨⟨by decide +kernel, by decide +kernel⟩, List.mem_of_getElem? (i := 935) (by decide +kernel), List.mem_of_getElem? (i := 1073) (by decide +kernel), List.mem_of_getElem? (i := 1074) (by decide +kernel)⟩
theorem lw_p27 : lw_okq (⟨"TwinKeepersModel", "below", "(I)I"⟩, 23) := ⟨⟨by decide +kernel, by decide +kernel⟩, List.mem_of_getElem? (i := 935) (by decide +kernel), List.mem_of_getElem? (i := 1077) (by decide +kernel), List.mem_of_getElem? (i := 1078) (by decide +kernel)⟩
theorem lw_p28 : lw_okq (⟨"TwinKeepersModel", "before", "(I)Z"⟩, 23) := ⟨⟨by decide +kernel, by decide +kernel⟩, List.mem_of_getElem? (i := 935) (by decide +kernel), List.mem_of_getElem? (i := 1081) (by decide +kernel), List.mem_of_getElem? (i := 1082) (by decide +kernel)⟩
theorem lw_p29 : lw_okq (⟨"TwinKeepersModel", "isAt", "(II)Z"⟩, 23) := ⟨⟨by decide +kernel, by decide +kernel⟩, List.mem_of_getElem? (i := 935) (by decide +kernel), List.mem_of_getElem? (i := 1085) (by decide +kernel), List.mem_of_getElem? (i := 1086) (by decide +kernel)⟩
theorem lw_p30 : lw_okq (⟨"TwinKeepersModel", "tellValue", "(I)V"⟩, 23) := ⟨⟨by decide +kernel, by decide +kernel⟩, List.mem_of_getElem? (i := 935) (by decide +kernel), List.mem_of_getElem? (i := 1089) (by decide +kernel), List.mem_of_getElem? (i := 1090) (by decide +kernel)⟩
theorem lw_p31 : lw_okq (⟨"TwinKeepersModel", "valueByte", "(II)I"⟩, 23) := ⟨⟨by decide +kernel, by decide +kernel⟩, List.mem_of_getElem? (i := 935) (by decide +kernel), List.mem_of_getElem? (i := 1093) (by decide +kernel), List.mem_of_getElem? (i := 1094) (by decide +kernel)⟩
def lw_privs_2 : List (MethodName × Nat) := [(⟨"TwinKeepers$Machine", "hasSessionsOf", "(LTwinKeepers$Machine;)Z"⟩, 3), (⟨"TwinKeepers$Machine", "hasEntriesOf", "(LTwinKeepers$Machine;)Z"⟩, 3), (⟨"TwinKeepersModel", "fail", "(I)I"⟩, 23), (⟨"TwinKeepersModel", "isNext", "(II)Z"⟩, 23), (⟨"TwinKeepersModel", "copySession", "(II)V"⟩, 23), (⟨"TwinKeepersModel", "find", "(II)I"⟩, 23), (⟨"TwinKeepersModel", "show", "()V"⟩, 23), (⟨"TwinKeepersModel", "add", "(I)V"⟩, 23), (⟨"TwinKeepersModel", "tell", "(I)V"⟩, 23), (⟨"TwinKeepersModel", "seek", "(II)V"⟩, 23), (⟨"TwinKeepersModel", "doPut", "(III)V"⟩, 23), (⟨"TwinKeepersModel", "below", "(I)I"⟩, 23), (⟨"TwinKeepersModel", "before", "(I)Z"⟩, 23), (⟨"TwinKeepersModel", "isAt", "(II)Z"⟩, 23), (⟨"TwinKeepersModel", "tellValue", "(I)V"⟩, 23), (⟨"TwinKeepersModel", "valueByte", "(II)I"⟩, 23)]
theorem lw_r2 : ∀ q ∈ lw_privs_2, lw_okq q := List.forall_mem_cons.mpr ⟨lw_p16, List.forall_mem_cons.mpr ⟨lw_p17, List.forall_mem_cons.mpr ⟨lw_p18, List.forall_mem_cons.mpr ⟨lw_p19, List.forall_mem_cons.mpr ⟨lw_p20, List.forall_mem_cons.mpr ⟨lw_p21, List.forall_mem_cons.mpr ⟨lw_p22, List.forall_mem_cons.mpr ⟨lw_p23, List.forall_mem_cons.mpr ⟨lw_p24, List.forall_mem_cons.mpr ⟨lw_p25, List.forall_mem_cons.mpr ⟨lw_p26, List.forall_mem_cons.mpr ⟨lw_p27, List.forall_mem_cons.mpr ⟨lw_p28, List.forall_mem_cons.mpr ⟨lw_p29, List.forall_mem_cons.mpr ⟨lw_p30, List.forall_mem_cons.mpr ⟨lw_p31, fun _ h => absurd h List.not_mem_nil⟩⟩⟩⟩⟩⟩⟩⟩⟩⟩⟩⟩⟩⟩⟩⟩
theorem lw_p32 : lw_okq (⟨"TwinKeepersModel", "put", "(III)Z"⟩, 23) := ⟨⟨by decide +kernel, by decide +kernel⟩, List.mem_of_getElem? (i := 935) (by decide +kernel), List.mem_of_getElem? (i := 1097) (by decide +kernel), List.mem_of_getElem? (i := 1098) (by decide +kernel)⟩
theorem lw_p33 : lw_okq (⟨"TwinKeepersModel", "units", "(I)I"⟩, 23) := ⟨⟨by decide +kernel, by decide +kernel⟩, List.mem_of_getElem? (i := 935) (by decide +kernel), List.mem_of_getElem? (i := 1101) (by decide +kernel), List.mem_of_getElem? (i := 1102) (by decide +kernel)⟩
theorem lw_p34 : lw_okq (⟨"TwinKeepersModel", "copyKey", "(II)V"⟩, 23) := ⟨⟨by decide +kernel, by decide +kernel⟩, List.mem_of_getElem? (i := 935) (by decide +kernel), List.mem_of_getElem? (i := 1108) (by decide +kernel), List.mem_of_getElem? (i := 1109) (by decide +kernel)⟩
theorem lw_p35 : lw_okq (⟨"TwinKeepersModel", "setValue", "(III)V"⟩, 23) := ⟨⟨by decide +kernel, by decide +kernel⟩, List.mem_of_getElem? (i := 935) (by decide +kernel), List.mem_of_getElem? (i := 1112) (by decide +kernel), List.mem_of_getElem? (i := 1113) (by decide +kernel)⟩
theorem lw_p36 : lw_okq (⟨"TwinKeepersModel", "doSwap", "(IIII)V"⟩, 23) := ⟨⟨by decide +kernel, by decide +kernel⟩, List.mem_of_getElem? (i := 935) (by decide +kernel), List.mem_of_getElem? (i := 1116) (by decide +kernel), List.mem_of_getElem? (i := 1117) (by decide +kernel)⟩
theorem lw_p37 : lw_okq (⟨"TwinKeepersModel", "doRemove", "(I)V"⟩, 23) := ⟨⟨by decide +kernel, by decide +kernel⟩, List.mem_of_getElem? (i := 935) (by decide +kernel), List.mem_of_getElem? (i := 1120) (by decide +kernel), List.mem_of_getElem? (i := 1121) (by decide +kernel)⟩
theorem lw_p38 : lw_okq (⟨"TwinKeepersModel", "keyByte", "(II)I"⟩, 23) := ⟨⟨by decide +kernel, by decide +kernel⟩, List.mem_of_getElem? (i := 935) (by decide +kernel), List.mem_of_getElem? (i := 1128) (by decide +kernel), List.mem_of_getElem? (i := 1129) (by decide +kernel)⟩
theorem lw_p39 : lw_okq (⟨"TwinKeepersModel", "addNumber", "(II)V"⟩, 23) := ⟨⟨by decide +kernel, by decide +kernel⟩, List.mem_of_getElem? (i := 935) (by decide +kernel), List.mem_of_getElem? (i := 1136) (by decide +kernel), List.mem_of_getElem? (i := 1137) (by decide +kernel)⟩
theorem lw_p40 : lw_okq (⟨"TwinKeepersModel", "sameSession", "(II)Z"⟩, 23) := ⟨⟨by decide +kernel, by decide +kernel⟩, List.mem_of_getElem? (i := 935) (by decide +kernel), List.mem_of_getElem? (i := 1144) (by decide +kernel), List.mem_of_getElem? (i := 1145) (by decide +kernel)⟩
theorem lw_p41 : lw_okq (⟨"TwinKeepersModel", "sameKey", "(II)Z"⟩, 23) := ⟨⟨by decide +kernel, by decide +kernel⟩, List.mem_of_getElem? (i := 935) (by decide +kernel), List.mem_of_getElem? (i := 1148) (by decide +kernel), List.mem_of_getElem? (i := 1149) (by decide +kernel)⟩
theorem lw_p42 : lw_okq (⟨"TwinKeepersModel", "rowSize", "(I)I"⟩, 23) := ⟨⟨by decide +kernel, by decide +kernel⟩, List.mem_of_getElem? (i := 935) (by decide +kernel), List.mem_of_getElem? (i := 1168) (by decide +kernel), List.mem_of_getElem? (i := 1169) (by decide +kernel)⟩
def lw_privs_3 : List (MethodName × Nat) := [(⟨"TwinKeepersModel", "put", "(III)Z"⟩, 23), (⟨"TwinKeepersModel", "units", "(I)I"⟩, 23), (⟨"TwinKeepersModel", "copyKey", "(II)V"⟩, 23), (⟨"TwinKeepersModel", "setValue", "(III)V"⟩, 23), (⟨"TwinKeepersModel", "doSwap", "(IIII)V"⟩, 23), (⟨"TwinKeepersModel", "doRemove", "(I)V"⟩, 23), (⟨"TwinKeepersModel", "keyByte", "(II)I"⟩, 23), (⟨"TwinKeepersModel", "addNumber", "(II)V"⟩, 23), (⟨"TwinKeepersModel", "sameSession", "(II)Z"⟩, 23), (⟨"TwinKeepersModel", "sameKey", "(II)Z"⟩, 23), (⟨"TwinKeepersModel", "rowSize", "(I)I"⟩, 23)]
theorem lw_r3 : ∀ q ∈ lw_privs_3, lw_okq q := List.forall_mem_cons.mpr ⟨lw_p32, List.forall_mem_cons.mpr ⟨lw_p33, List.forall_mem_cons.mpr ⟨lw_p34, List.forall_mem_cons.mpr ⟨lw_p35, List.forall_mem_cons.mpr ⟨lw_p36, List.forall_mem_cons.mpr ⟨lw_p37, List.forall_mem_cons.mpr ⟨lw_p38, List.forall_mem_cons.mpr ⟨lw_p39, List.forall_mem_cons.mpr ⟨lw_p40, List.forall_mem_cons.mpr ⟨lw_p41, List.forall_mem_cons.mpr ⟨lw_p42, fun _ h => absurd h List.not_mem_nil⟩⟩⟩⟩⟩⟩⟩⟩⟩⟩⟩
def lw_privs : List (MethodName × Nat) := lw_privs_1 ++ (lw_privs_2 ++ (lw_privs_3))
def lw_tbl : List Cond := k2_sels lw_privs ++ tables_1
theorem lw_privs_ok : ∀ q ∈ lw_privs, lw_okq q := by
  show ∀ q ∈ lw_privs_1 ++ (lw_privs_2 ++ (lw_privs_3)), lw_okq q
  exact List.forall_mem_append.mpr ⟨lw_r1, List.forall_mem_append.mpr ⟨lw_r2, lw_r3⟩⟩
end
section
/-! Out of the printed names (its part on exceptions), by the words 'Bundle.' written out: throwing, catching. -/
/-- where a method has thrown q: the class by its name, the cell, what was written, the world -/
def vx_T (XC : String → State → State → Prop) (st : State) (q : Addr) (t : State) (mc ms : Nat) (free : Addr → Prop) : Prop :=
  ∃ (E : String) (ce : Cell) (L : List Loc), XC E st t ∧ t.heap[q]? = some ce ∧ ce.vm = .none ∧ st.vm.findClass E = some ce.cls ∧ st.WarmedH t.vm ∧ st.sameButNew ({ t with vm := st.vm } : State) L mc ms ∧ ∀ z ∈ L, free z.base
def vx_Q (Qc : Array Value → State → Outcome → State → Prop) (XC : String → State → State → Prop) (mc ms : Nat) (free : Addr → Prop) : Array Value → State → Outcome → State → Prop := fun a st o t =>
  (Qc a st o t ∧ ∃ L, FrameEnd st o t L mc ms ∧ ∀ q ∈ L, free q.base) ∨ ∃ q, o = .threw q ∧ vx_T XC st q t mc ms free
def vx_W (p : Program) (l : Launch) (e : Env) (R : Room) (s : State) (m : MethodId) (args : Array Value) (below : List Frame) (meth : Method) (c : Code) (H : Heap) (locs : List Loc) (cells slots : Nat) (Q : State → Prop) (g : JFrame) (q : Addr) : Prop :=
  ∀ T : State, T.heap = H → Stand p l e R s m args below meth c T locs cells slots → ∃ t, Steps p.tables e below ((T.setTop g).pushFrame (.throwing q)) t ∧ Q t
section Rows
variable {p : Program} {l : Launch} {e : Env} {R : Room} {s : State} {m : MethodId} {args : Array Value} {below : List Frame} {meth : Method} {c : Code} {H : Heap} {locs : List Loc} {cells slots : Nat} {Q : State → Prop}
variable {mc ms : Nat} {free : Addr → Prop} {A0 A1 : Nat → Prop} {H0 : Heap} {a : Array Value} {pc : Nat} {ls : Array Slot} {st0 rest : List Value}
/-- caught by the row x of this method's table; the rows ahead don't take it -/
theorem vx_catch {own name : String} {E : String} {ce : Cell} {q : Addr} (hown : s.vm.findClass own = some m.cls) (pre : List ExceptionTableEntry) (x : ExceptionTableEntry) (suf : List ExceptionTableEntry) (hsplit : c.exceptionTable.toList = pre ++ x :: suf)
    (hpass : ∀ z ∈ pre, covers z pc = false ∨ (z.catchType ≠ 0 ∧ ∃ nm : String, (Cond.classLink own z.catchType nm).before args s = true ∧ va_Nc E nm s)) (hx : covers x pc = true) (h0 : x.catchType ≠ 0)
    (hlink : (Cond.classLink own x.catchType name).before args s = true) (hcast : (Cond.castable E name).before args s = true) (hcell : H[q]? = some ce) (hv : ce.vm = .none) (hcl : s.vm.findClass E = some ce.cls)
    (kk : W p l e R s m args below meth c H locs cells slots Q (F0 m x.handlerPc ls [.ref q])) : vx_W p l e R s m args below meth c H locs cells slots Q (F0 m pc ls rest) q := by
  intro T hT X
  have hpl : e.platform.magicAccessors = ({} : Platform).magicAccessors := by rw [X.admits.platform]
  obtain ⟨c3, c4, hc3, hc4, hasg⟩ := Cond.castable_spec hcast
  cases Option.some.inj (hc3.symm.trans hcl)
  obtain ⟨c5, hc5, hcl5⟩ := Cond.classLink_spec hown hlink e.platform hpl
  cases Option.some.inj (hc4.symm.trans hc5)
  obtain ⟨vm', X', st⟩ := X.thenCaughtThrough q (g := F0 m pc ls rest) rfl (Steps.refl _) (by rw [hT]; exact hcell) (by rw [hv]; rfl) (by obtain ⟨k9, h9, -⟩ := Vm.findClass_spec hcl; exact ⟨k9, h9⟩) pre x suf hsplit
    (fun z hz => by
      rcases hpass z hz with h | ⟨hz0, nm, hl1, hn1⟩
      · exact Or.inl h
      · obtain ⟨c6, hc6, hcl6⟩ := Cond.classLink_spec hown hl1 e.platform hpl
        obtain ⟨a8, b8, h1, h2, h3⟩ := hn1
        cases Option.some.inj (h1.symm.trans hcl)
        cases Option.some.inj (h2.symm.trans hc6)
        exact Or.inr ⟨hz0, _, hcl6, h3⟩) hx (Or.inr ⟨h0, c4, hcl5, hasg⟩)
  obtain ⟨t, a1, b1⟩ := kk (T.setVm vm') hT X'
  exact ⟨t, st.trans a1, b1⟩
end Rows
section Ends
variable {p : Program} {l : Launch} {e : Env} {R : Room} {s : State} {m : MethodId} {args : Array Value} {below : List Frame} {meth : Method} {c : Code} {H : Heap} {locs : List Loc} {cells slots : Nat} {Q : State → Prop}
variable {mc ms : Nat} {free : Addr → Prop} {A0 A1 : Nat → Prop} {H0 : Heap} {a : Array Value} {ls : Array Slot} {st0 rest : List Value}
variable {Qc : Array Value → State → Outcome → State → Prop} {XC : String → State → State → Prop}
/-- what a body that may throw owes at its end -/
def vx_MQ (below : List Frame) (Qc : Array Value → State → Outcome → State → Prop) (XC : String → State → State → Prop) (a : Array Value) (s : State) (mc ms : Nat) (free : Addr → Prop) : State → Prop := fun t =>
  ∃ o, t.status = .running ∧ Ended t below o ∧ vx_Q Qc XC mc ms free a s o t
theorem vx_ret {g : JFrame} {mc ms : Nat} (k : W p l e R s m args below meth c H locs cells slots (MQ below Qc args s mc ms free) g) : W p l e R s m args below meth c H locs cells slots (vx_MQ below Qc XC args s mc ms free) g := by
  intro T hT X
  obtain ⟨t, a1, o, b1, b2, b3, b4⟩ := k T hT X
  exact ⟨t, a1, o, b1, b2, Or.inl ⟨b3, b4⟩⟩
/-- not caught here: it goes on to the caller -/
theorem vx_widen {g : JFrame} {q : Addr} {k n : Nat} (h1 : cells ≤ k) (h2 : slots ≤ n) (kk : vx_W p l e R s m args below meth c H locs k n Q g q) : vx_W p l e R s m args below meth c H locs cells slots Q g q := fun T hT X => kk T hT (stand_widen X h1 h2)
theorem vx_out {pc : Nat} {E : String} {ce : Cell} {q : Addr} {mc ms : Nat} (hout : ∀ x ∈ c.exceptionTable.toList, covers x pc = false) (hlocks : meth.locks = false) (hcell : H[q]? = some ce) (hv : ce.vm = .none) (hcl : s.vm.findClass E = some ce.cls)
    (hx : ∀ t : State, t.heap = H → s.vm.Alike t.vm → XC E s t) (hf : ∀ z ∈ locs, free z.base) (hc : cells ≤ mc) (hs : slots ≤ ms) :
    vx_W p l e R s m args below meth c H locs cells slots (vx_MQ below Qc XC args s mc ms free) (F0 m pc ls rest) q := by
  intro T hT X
  obtain ⟨st1, hrun, hend, hW, hsm⟩ := X.leaveThrown q (g := F0 m pc ls rest) rfl rfl rfl hout hlocks
  have hcell9 : (T.setFrames (.throwing q :: below)).heap[q]? = some ce := by
    show T.heap[q]? = some ce
    rw [hT]; exact hcell
  exact ⟨_, st1, .threw q, hrun, hend, Or.inr ⟨q, rfl, E, ce, locs, hx _ hT hW.alike, hcell9, hv, hcl, hW, hsm.mono hc hs, hf⟩⟩
theorem vx_frame {U : State} {k n : Nat} (h : s.sameButNew ({ U with vm := s.vm } : State) locs k n) : s.heap.size ≤ U.heap.size ∧ ∀ q : Nat, q < s.heap.size → (∀ z ∈ locs, z.base ≠ q) → U.heap[q]? = s.heap[q]? := by
  obtain ⟨-, h2, -, -, -, h6⟩ := h
  refine ⟨h2, fun q hq hz => ?_⟩
  obtain ⟨c9, e1, e2, e3, e4⟩ := h6 q _ (Array.getElem?_eq_getElem hq)
  have hs : c9.slots = (s.heap[q]).slots := Array.ext_getElem? fun i => e4 i fun hm => hz _ hm rfl
  have h9 : c9 = s.heap[q] := by
    rw [hs] at e2
    exact e2
  have e5 : U.heap[q]? = some c9 := e1
  rw [e5, h9, Array.getElem?_eq_getElem hq]
/-- the words of a throw but the four that speak of the heap -/
def vx_no (w : Cond) : Bool := decide (w ≠ .isRef (.static Bundle.tN "UNASSIGNED_STACK" Bundle.steD)) && decide (w ≠ .isRef (.static Bundle.tN "SUPPRESSED_SENTINEL" Bundle.listD)) && decide (w ≠ .laysStatic Bundle.tN "UNASSIGNED_STACK" Bundle.steD) && decide (w ≠ .laysStatic Bundle.tN "SUPPRESSED_SENTINEL" Bundle.listD)
def vx_at0 (own : String) (ic : Nat) (X : String) (names : List String) : List Cond := (Bundle.ownAtoms0 own ic X names).filter vx_no
def vx_atS (own : String) (ic : Nat) (X : String) (names : List String) : List Cond := (Bundle.ownAtoms own ic X names).filter vx_no
/-- a word that the tables alone decide, or a good one -/
def vx_ot (w : Cond) : Bool := w.onTables || goodWord w
theorem vx_ot_at {args a' : Array Value} {s U : State} {w : Cond} (hW : s.WarmedH U.vm) (hvm : s.vm = U.vm) (hg : vx_ot w = true) (h : w.before args s = true) : w.before a' U = true := by
  simp only [vx_ot, Bool.or_eq_true] at hg
  rcases hg with hg | hg
  · exact va_tabs hg hvm h
  · exact word_at hW (good_of_word hg) h
/-- a list's words: the good ones out of the method's own list, the others by premises of their own -/
theorem vx_hat {args : Array Value} {s : State} {L B : List Cond} (h1 : ∀ w ∈ L.filter goodWord, w.before args s = true) (h2 : ∀ w ∈ L.filter (fun w => !goodWord w), w ∈ B) (h3 : ∀ w ∈ B, w.before args s = true) : ∀ w ∈ L, w.before args s = true := by
  intro w hw
  by_cases g : goodWord w = true
  · exact h1 w (List.mem_filter.mpr ⟨hw, g⟩)
  · refine h3 w (h2 w (List.mem_filter.mpr ⟨hw, ?_⟩))
    show (!goodWord w) = true
    cases hgw : goodWord w
    · rfl
    · exact absurd hgw g
theorem vx_c {args : Array Value} {s : State} {w : Cond} {B : List Cond} (h : w.before args s = true) (t : ∀ w ∈ B, w.before args s = true) : ∀ w' ∈ w :: B, w'.before args s = true := fun w' h' => (List.mem_cons.mp h').elim (fun e => by rw [e]; exact h) (t w')
theorem vx_n {args : Array Value} {s : State} : ∀ w ∈ ([] : List Cond), w.before args s = true := fun _ h => nomatch h
theorem vx_own {args : Array Value} {s : State} {L : List Cond} (h1 : ∀ w ∈ L.filter vx_no, w.before args s = true)
    (hU : (Cond.isRef (.static Bundle.tN "UNASSIGNED_STACK" Bundle.steD)).before args s = true) (hN : (Cond.isRef (.static Bundle.tN "SUPPRESSED_SENTINEL" Bundle.listD)).before args s = true)
    (lU : (Cond.laysStatic Bundle.tN "UNASSIGNED_STACK" Bundle.steD).before args s = true) (lN : (Cond.laysStatic Bundle.tN "SUPPRESSED_SENTINEL" Bundle.listD).before args s = true) : ∀ w ∈ L, w.before args s = true := by
  intro w hw
  by_cases e1 : w = .isRef (.static Bundle.tN "UNASSIGNED_STACK" Bundle.steD)
  · rw [e1]; exact hU
  · by_cases e2 : w = .isRef (.static Bundle.tN "SUPPRESSED_SENTINEL" Bundle.listD)
    · rw [e2]; exact hN
    · by_cases e3 : w = .laysStatic Bundle.tN "UNASSIGNED_STACK" Bundle.steD
      · rw [e3]; exact lU
      · by_cases e4 : w = .laysStatic Bundle.tN "SUPPRESSED_SENTINEL" Bundle.listD
        · rw [e4]; exact lN
        · exact h1 w (List.mem_filter.mpr ⟨hw, by unfold vx_no; rw [decide_eq_true e1, decide_eq_true e2, decide_eq_true e3, decide_eq_true e4]; rfl⟩)
/-- where a static field lies, its class's statics cell in H -/
def vx_L (C n d : String) (A : Nat → Prop) (U : State) (H : Heap) : Prop := ∃ (c : ClassId) (k : Class) (i : Nat) (f : Field) (a : Nat) (cell : Cell), U.vm.findClass C = some c ∧ U.fieldFound? C n d = some (c, k, i, f) ∧ f.isStatic = true ∧ k.statics = some a ∧ H[a]? = some cell ∧ cell.vm.isStatics = true ∧ cell.cls = c ∧ f.slot < cell.slots.size ∧ k.staticTypes[f.slot]? = some f.type ∧ ¬ A a
theorem vx_L.moved {C n d : String} {A : Nat → Prop} {u U : State} {H : Heap} (hvm : u.vm.Alike U.vm) (h : vx_L C n d A u H) : vx_L C n d A U H := by
  obtain ⟨c, k, i, f, a, cell, h1, h2, h3, h4, h5, h6, h7, h8, h9, h10⟩ := h
  obtain ⟨k', hi', he⟩ := State.fieldFound?_setVm hvm h2
  exact ⟨c, k', i, f, a, cell, by rw [hvm.findClass]; exact h1, hi', h3, by rw [he]; exact h4, h5, h6, h7, h8, by rw [he]; exact h9, h10⟩
theorem vx_L.kept {C n d : String} {A : Nat → Prop} {U : State} {H H1 : Heap} (h : vx_L C n d A U H) (hq : ∀ a : Nat, a < H.size → ¬ A a → H1[a]? = H[a]?) : vx_L C n d A U H1 := by
  obtain ⟨c, k, i, f, a, cell, h1, h2, h3, h4, h5, h6, h7, h8, h9, h10⟩ := h
  exact ⟨c, k, i, f, a, cell, h1, h2, h3, h4, by rw [hq a (Array.getElem?_eq_some_iff.mp h5).1 h10]; exact h5, h6, h7, h8, h9, h10⟩
theorem vx_L.narrow {C n d : String} {A B : Nat → Prop} {U : State} {H : Heap} (h : vx_L C n d A U H) (hAB : ∀ q, B q → A q) : vx_L C n d B U H := by
  obtain ⟨c, k, i, f, a, cell, h1, h2, h3, h4, h5, h6, h7, h8, h9, h10⟩ := h
  exact ⟨c, k, i, f, a, cell, h1, h2, h3, h4, h5, h6, h7, h8, h9, fun z => h10 (hAB _ z)⟩
theorem vx_L.word {C n d : String} {A : Nat → Prop} {s : State} {args : Array Value} (h : vx_L C n d A s s.heap) : (Cond.laysStatic C n d).before args s = true := by
  obtain ⟨c, k, i, f, a, cell, h1, h2, h3, h4, h5, h6, h7, h8, h9, -⟩ := h
  show (Cond.laysStatic C n d).holds args s none s [] = true
  exact Cond.laysStatic_of h1 h2 h3 h4 h5 h6 h7 h8 h9
/-- .. and what it holds: null or some reference -/
def vx_Zq (C n d : String) (A : Nat → Prop) (U : State) (H : Heap) : Prop := va_Zq C n d A U H ∧ vx_L C n d A U H
theorem vx_Zq.moved {C n d : String} {A : Nat → Prop} {u U : State} {H : Heap} (hvm : u.vm.Alike U.vm) (h : vx_Zq C n d A u H) : vx_Zq C n d A U H := ⟨va_Zq.moved hvm h.1, vx_L.moved hvm h.2⟩
theorem vx_Zq.kept {C n d : String} {A : Nat → Prop} {U : State} {H H1 : Heap} (h : vx_Zq C n d A U H) (hq : ∀ a : Nat, a < H.size → ¬ A a → H1[a]? = H[a]?) : vx_Zq C n d A U H1 := ⟨va_Zq.kept h.1 hq, vx_L.kept h.2 hq⟩
theorem vx_Zq.narrow {C n d : String} {A B : Nat → Prop} {U : State} {H : Heap} (h : vx_Zq C n d A U H) (hAB : ∀ q, B q → A q) : vx_Zq C n d B U H := ⟨va_Zq.narrow h.1 hAB, vx_L.narrow h.2 hAB⟩
theorem vx_Zqof {args : Array Value} {s : State} {C n d : String} {A : Nat → Prop} (hl : (Cond.laysStatic C n d).before args s = true) (hini : (Cond.initialized C).before args s = true) (h : (Cond.isRef (.static C n d)).before args s = true) (hA : ∀ a : Nat, a < s.heap.size → ¬ A a) : vx_Zq C n d A s s.heap := by
  refine ⟨va_Zqof hl hini h hA, ?_⟩
  obtain ⟨c, k, i, f, a, cell, h1, h2, h3, h4, h5, h6, h7, h8, h9⟩ := Cond.laysStatic_spec hl
  exact ⟨c, k, i, f, a, cell, h1, h2, h3, h4, h5, h6, h7, h8, h9, hA a (Array.getElem?_eq_some_iff.mp h5).1⟩
theorem vx_isRef {C n d : String} {v : Value} {A : Nat → Prop} {s : State} {args : Array Value} (h : va_Z C n d v A s s.heap) (hv : v.isRef = true) : (Cond.isRef (.static C n d)).before args s = true := by
  obtain ⟨cf, kf, fi, f, a, cell, h1, h2, h3, h4, h5, h6, h7, -⟩ := h
  have he : (Term.static C n d).eval args s none [] s = some v := by
    simp [Term.eval, State.fieldNamed?, h1, h2, h4, h5, h6, h7]
  simp only [Cond.before, Cond.holds, Cond.value, he]
  cases v <;> simp_all [Value.isRef]
theorem vx_isRefq {C n d : String} {A : Nat → Prop} {s : State} {args : Array Value} (h : va_Zq C n d A s s.heap) : (Cond.isRef (.static C n d)).before args s = true := by
  rcases h with h | ⟨t, h⟩
  · exact vx_isRef h rfl
  · exact vx_isRef h rfl
/-- the same frame, seen from here: as if the method were called anew in this heap -/
theorem vx_rebase {T : State} (X : Stand p l e R s m args below meth c T locs cells slots) {R' : Room} (hf : R'.frames ≤ R.frames) (hl : R'.locals ≤ R.locals) (hc : cells + R'.cells ≤ R.cells) (hs : slots + R'.slots ≤ R.slots) :
    Stand p l e R' ((T.setVm s.vm).setFrames (.invoking m args :: below)) m args below meth c T [] 0 0 := by
  have htop : (T.setVm s.vm).topJava?.isSome := X.here.top
  have hF : ((T.setVm s.vm).setFrames (.invoking m args :: below)).frames = .invoking m args :: below := State.frames_setFrames _ (State.cur_lt_of_top htop)
  obtain ⟨g₀, hg0⟩ := Option.isSome_iff_exists.mp htop
  obtain ⟨r, hr⟩ := State.topJava?_eq_some.mp hg0
  have hl9 : e.platform.stackLimits (T.setVm s.vm).me = e.platform.stackLimits s.me := X.limits
  have hb9 : (T.setVm s.vm).me.stackBytes = s.me.stackBytes := X.bytes
  refine ⟨X.admits, X.cas, X.clock, hF, ?_, X.hears, X.method, X.code, X.here, X.tail, X.warmed, ?_, ?_, ?_⟩
  · have h := X.room
    have hU : ((T.setVm s.vm).setFrames (.invoking m args :: below)).localsInUse = s.localsInUse := by
      rw [State.localsInUse_invoking hF (meth := meth) (c := c) X.method X.code, State.localsInUse_invoking X.frames X.method X.code]
    simp only [State.hasRoom, Bool.and_eq_true, decide_eq_true_eq] at h ⊢
    obtain ⟨⟨⟨⟨h1, h2, h3, h4, h5, h6⟩, h7⟩, h8⟩, h9⟩ := h
    rw [X.frames, List.length_cons] at h2 h3
    have q1 := X.heapSize
    have q2 := X.used
    simp only [hF, hU, List.length_cons, State.stackLimits_setFrames, State.stackBytes_setFrames, hl9, hb9]
    refine ⟨⟨⟨⟨by omega, by omega, by omega, by omega, by omega, h6⟩, ?_⟩, ?_⟩, X.book⟩
    · show T.heap.size + R'.cells ≤ e.platform.maxCells
      omega
    · show T.slotsUsed + R'.slots ≤ e.platform.maxSlots
      omega
  · rw [State.stackLimits_setFrames]; rfl
  · rw [State.stackBytes_setFrames]; rfl
  · refine ⟨?_, Nat.le_refl _, Nat.le_refl _, ?_, ?_, fun a c9 h9 => ⟨c9, h9, rfl, rfl, fun _ _ => rfl⟩⟩
    · obtain ⟨t, ht, -⟩ := State.frames_cons hr
      show T.setVm s.vm = { ((T.setVm s.vm).setFrames (.invoking m args :: below)).setFrames (T.setVm s.vm).frames with heap := T.heap, slotsUsed := T.slotsUsed }
      rw [State.setFrames_setFrames, State.setFrames_self ht]
      rfl
    · show T.slotsUsed = T.slotsUsed + ((T.heap.toList.drop T.heap.size).map (·.slots.size)).sum
      rw [List.drop_eq_nil_of_le (Nat.le_of_eq Array.length_toList)]
      rfl
    · show ((T.heap.toList.drop T.heap.size).map (·.slots.size)).sum ≤ 0
      rw [List.drop_eq_nil_of_le (Nat.le_of_eq Array.length_toList)]
      exact Nat.le_refl _
/-- 'throw new E()': new; dup; invokespecial; athrow -/
theorem vx_throw0 {cc : ByteArray} {pc : Nat} (hexec : p.tables.exec = Jvm.exec) (hb : c.code = cc) (hl : l.stackTraces = false) {own cls : String} {names : List String} {ik ic mc ms : Nat} {A : Nat → Prop}
    (hown : s.vm.findClass own = some m.cls) (hcls : Bundle.fit cls = true) (hnames : ∀ n ∈ names, Bundle.fit n = true)
    (hk : (Cond.classLink own ik cls).before args s = true) (hini : (Cond.initialized cls).before args s = true) (hat : ∀ w ∈ vx_at0 own ic cls names, w.before args s = true)
    (hgood : ∀ w ∈ Cond.classLink own ik cls :: Cond.initialized cls :: vx_at0 own ic cls names, vx_ot w = true)
    (hU : vx_Zq Bundle.tN "UNASSIGNED_STACK" Bundle.steD A s s.heap) (hN : vx_Zq Bundle.tN "SUPPRESSED_SENTINEL" Bundle.listD A s s.heap) (hS : va_S A s.heap H locs) (hsize : ls.size = c.maxLocals)
    (d0 : decode cc pc = .ok (.new ik, 3)) (d3 : decode cc (pc + 3) = .ok (.dup, 1)) (d4 : decode cc (pc + 4) = .ok (.invokespecial ic, 3)) (d7 : decode cc (pc + 7) = .ok (.athrow, 1))
    (hout : ∀ x ∈ c.exceptionTable.toList, covers x (pc + 7) = false)
    (hRframes : names.length + 3 < R.frames) (hRlocals : (rest.map fun v => v.category).sum + (13 * (names.length + 1) + 42) ≤ R.locals) (hRcells : cells + 1 ≤ R.cells) (hRslots : slots + 6 ≤ R.slots) (hlocks : meth.locks = false)
    (hx : ∀ t : State, s.vm.Alike t.vm → H.size ≤ t.heap.size → (∀ q : Nat, q < H.size → t.heap[q]? = H[q]?) → XC cls s t)
    (hf : ∀ z ∈ locs, free z.base) (hc : cells + 1 ≤ mc) (hs : slots + 6 ≤ ms) :
    W p l e R s m args below meth c H locs cells slots (vx_MQ below Qc XC args s mc ms free) (F0 m pc ls rest) := by
  intro T hT X
  have htr : e.platform.stackTraces = false := (show e.platform.stackTraces = l.stackTraces by rw [X.admits.platform]).trans hl
  have Y := vx_rebase X (R' := { frames := R.frames, locals := R.locals, cells := 1, slots := 6 }) (Nat.le_refl _) (Nat.le_refl _) hRcells hRslots
  obtain ⟨s', hA⟩ : ∃ z, z = (T.setVm s.vm).setFrames (.invoking m args :: below) := ⟨_, rfl⟩
  rw [← hA] at Y
  have hvm : s'.vm = s.vm := by rw [hA]; rfl
  have hhp : s'.heap = H := by rw [hA]; exact hT
  have hW0 : s.WarmedH s'.vm := by rw [hvm]; exact State.WarmedH.refl s
  have hat' : ∀ w ∈ vx_at0 own ic cls names, w.before args s' = true := fun w hw => vx_ot_at hW0 hvm.symm (hgood w (List.mem_cons_of_mem _ (List.mem_cons_of_mem _ hw))) (hat w hw)
  have hk' : (Cond.classLink own ik cls).before args s' = true := vx_ot_at hW0 hvm.symm (hgood _ List.mem_cons_self) hk
  have hini' : (Cond.initialized cls).before args s' = true := vx_ot_at hW0 hvm.symm (hgood _ (List.mem_cons_of_mem _ List.mem_cons_self)) hini
  have hU' : vx_Zq Bundle.tN "UNASSIGNED_STACK" Bundle.steD A s' s'.heap := by rw [hhp]; exact vx_Zq.moved hW0.alike (hU.kept hS.2.1)
  have hN' : vx_Zq Bundle.tN "SUPPRESSED_SENTINEL" Bundle.listD A s' s'.heap := by rw [hhp]; exact vx_Zq.moved hW0.alike (hN.kept hS.2.1)
  have h : ∀ w ∈ Bundle.ownAtoms0 own ic cls names, w.before args s' = true := vx_own hat' (vx_isRefq hU'.1) (vx_isRefq hN'.1) hU'.2.word hN'.2.word
  have hown' : s'.vm.findClass own = some m.cls := by rw [hvm]; exact hown
  have hins : (Cond.instantiable cls 6).before args s' = true := h _ (by simp [Bundle.ownAtoms0])
  obtain ⟨vm₁, cX, kX, hfX, hkX, -, -, X₁, st1⟩ := Y.newCold hexec (own := own) (C := cls) (index := ik) (n := 6) hown' hk' hins hini'
    (g := F0 m pc ls rest) rfl (by rw [hb]; exact d0) (Nat.le_refl _) (Nat.le_refl _)
  generalize hT1 : (T.setVm vm₁).pushCell { cls := cX, slots := kX.instanceTypes.map defaultValue, vm := .none } = T1 at X₁ st1
  have hcat : (Value.ref T.heap.size).category = 1 := rfl
  have hcellA : T1.heap[T.heap.size]? = some (freshCell cX kX) := by rw [← hT1]; exact State.heap_pushCell_size _ _
  have d3' : decode c.code (pc + 3) = .ok (.dup, 1) := by rw [hb]; exact d3
  obtain ⟨U, hsteps, hrun, hend, hW, hsame, ce, hce, hO⟩ := X₁.ctorThrow0 hexec htr (own := own) (cls := cls) (names := names) (ic := ic) hown' hcls hnames h (fun x hx => nomatch hx) hfX hkX hcellA (by rw [hhp, hT]; exact Nat.le_refl _)
    (g := { method := m, pc := pc + 4, locals := ls, stack := .ref T.heap.size :: .ref T.heap.size :: rest, locked := none }) rfl hsize rfl rfl (rest := rest) rfl
    (by rw [hb]; exact d4) (by rw [hb]; exact d7) hout hRframes (by simp only [List.map_cons, List.sum_cons, hcat]; omega) hlocks
  obtain ⟨f1, f2⟩ := vx_frame hsame
  rw [hhp] at f1 f2
  have hWs : s.WarmedH U.vm := State.WarmedH.trans hW0 hW
  have hcl : s.vm.findClass cls = some ce.cls := by
    have h9 := hO.cls
    rw [hvm] at h9
    exact h9
  have hall : s.sameButNew ({ U with vm := s.vm } : State) locs mc ms := by
    subst hA
    obtain ⟨e1, e2⟩ := hsame
    rw [State.setFrames_setFrames] at e1
    have h2 : (T.setVm s.vm).sameButNew ({ U with vm := s.vm } : State) [] (0 + 1) (0 + 6) := ⟨e1, e2⟩
    have h3 := X.same.trans h2
    rw [List.append_nil] at h3
    exact h3.mono hc hs
  refine ⟨U, ?_, .threw T.heap.size, hrun, hend, Or.inr ⟨T.heap.size, rfl, cls, ce, locs, hx U hWs.alike f1 (fun q hq => f2 q hq (fun z hz => nomatch hz)), hce, hO.vm, hcl, hWs, hall, hf⟩⟩
  refine st1 _ ?_
  show Steps p.tables e below (T1.setTop { method := m, pc := pc + 3, locals := ls, stack := .ref T.heap.size :: rest, locked := none }) _
  jvm_step X₁.here [X₁.here.top, hexec, d3', Value.category]
  exact hsteps
/-- 'throw new E("text")': new; dup; ldc; invokespecial; athrow -/
theorem vx_throwS {cc : ByteArray} {pc : Nat} (hexec : p.tables.exec = Jvm.exec) (hb : c.code = cc) (hl : l.stackTraces = false) {own cls text : String} {names : List String} {ik is ic mc ms sa : Nat} {A : Nat → Prop}
    (hown : s.vm.findClass own = some m.cls) (hcls : Bundle.fit cls = true) (hnames : ∀ n ∈ names, Bundle.fit n = true)
    (hk : (Cond.classLink own ik cls).before args s = true) (hini : (Cond.initialized cls).before args s = true) (hstr : vk_R own is text sa s) (hat : ∀ w ∈ vx_atS own ic cls names, w.before args s = true)
    (hgood : ∀ w ∈ Cond.classLink own ik cls :: Cond.initialized cls :: vx_atS own ic cls names, vx_ot w = true)
    (hU : vx_Zq Bundle.tN "UNASSIGNED_STACK" Bundle.steD A s s.heap) (hN : vx_Zq Bundle.tN "SUPPRESSED_SENTINEL" Bundle.listD A s s.heap) (hS : va_S A s.heap H locs) (hsize : ls.size = c.maxLocals)
    (d0 : decode cc pc = .ok (.new ik, 3)) (d3 : decode cc (pc + 3) = .ok (.dup, 1)) (d4 : decode cc (pc + 4) = .ok (.ldc is, 2)) (d6 : decode cc (pc + 6) = .ok (.invokespecial ic, 3)) (d9 : decode cc (pc + 9) = .ok (.athrow, 1))
    (hout : ∀ x ∈ c.exceptionTable.toList, covers x (pc + 9) = false)
    (hRframes : names.length + 3 < R.frames) (hRlocals : (rest.map fun v => v.category).sum + (13 * (names.length + 1) + 43) ≤ R.locals) (hRcells : cells + 1 ≤ R.cells) (hRslots : slots + 6 ≤ R.slots) (hlocks : meth.locks = false)
    (hx : ∀ t : State, s.vm.Alike t.vm → H.size ≤ t.heap.size → (∀ q : Nat, q < H.size → t.heap[q]? = H[q]?) → XC cls s t)
    (hf : ∀ z ∈ locs, free z.base) (hc : cells + 1 ≤ mc) (hs : slots + 6 ≤ ms) :
    W p l e R s m args below meth c H locs cells slots (vx_MQ below Qc XC args s mc ms free) (F0 m pc ls rest) := by
  intro T hT X
  have htr : e.platform.stackTraces = false := (show e.platform.stackTraces = l.stackTraces by rw [X.admits.platform]).trans hl
  have Y := vx_rebase X (R' := { frames := R.frames, locals := R.locals, cells := 1, slots := 6 }) (Nat.le_refl _) (Nat.le_refl _) hRcells hRslots
  obtain ⟨s', hA⟩ : ∃ z, z = (T.setVm s.vm).setFrames (.invoking m args :: below) := ⟨_, rfl⟩
  rw [← hA] at Y
  have hvm : s'.vm = s.vm := by rw [hA]; rfl
  have hhp : s'.heap = H := by rw [hA]; exact hT
  have hW0 : s.WarmedH s'.vm := by rw [hvm]; exact State.WarmedH.refl s
  have hat' : ∀ w ∈ vx_atS own ic cls names, w.before args s' = true := fun w hw => vx_ot_at hW0 hvm.symm (hgood w (List.mem_cons_of_mem _ (List.mem_cons_of_mem _ hw))) (hat w hw)
  have hk' : (Cond.classLink own ik cls).before args s' = true := vx_ot_at hW0 hvm.symm (hgood _ List.mem_cons_self) hk
  have hini' : (Cond.initialized cls).before args s' = true := vx_ot_at hW0 hvm.symm (hgood _ (List.mem_cons_of_mem _ List.mem_cons_self)) hini
  have hU' : vx_Zq Bundle.tN "UNASSIGNED_STACK" Bundle.steD A s' s'.heap := by rw [hhp]; exact vx_Zq.moved hW0.alike (hU.kept hS.2.1)
  have hN' : vx_Zq Bundle.tN "SUPPRESSED_SENTINEL" Bundle.listD A s' s'.heap := by rw [hhp]; exact vx_Zq.moved hW0.alike (hN.kept hS.2.1)
  have h : ∀ w ∈ Bundle.ownAtoms own ic cls names, w.before args s' = true := vx_own hat' (vx_isRefq hU'.1) (vx_isRefq hN'.1) hU'.2.word hN'.2.word
  have hown' : s'.vm.findClass own = some m.cls := by rw [hvm]; exact hown
  have hins : (Cond.instantiable cls 6).before args s' = true := h _ (by simp [Bundle.ownAtoms])
  obtain ⟨vm₁, cX, kX, hfX, hkX, -, -, X₁, st1⟩ := Y.newCold hexec (own := own) (C := cls) (index := ik) (n := 6) hown' hk' hins hini'
    (g := F0 m pc ls rest) rfl (by rw [hb]; exact d0) (Nat.le_refl _) (Nat.le_refl _)
  generalize hT1 : (T.setVm vm₁).pushCell { cls := cX, slots := kX.instanceTypes.map defaultValue, vm := .none } = T1 at X₁ st1
  have hcat : (Value.ref T.heap.size).category = 1 := rfl
  have hcellA : T1.heap[T.heap.size]? = some (freshCell cX kX) := by rw [← hT1]; exact State.heap_pushCell_size _ _
  have d3' : decode c.code (pc + 3) = .ok (.dup, 1) := by rw [hb]; exact d3
  have d4' : decode c.code (pc + 4) = .ok (.ldc is, 2) := by rw [hb]; exact d4
  have hstr' : vk_R own is text sa s' := vk_R.warm hW0 hstr
  obtain ⟨U, hsteps, hrun, hend, hW, hsame, ce, hce, hO⟩ := X₁.ctorThrowS hexec htr (own := own) (cls := cls) (names := names) (ic := ic) hown' hcls hnames h (fun x hx => nomatch hx) hfX hkX hcellA (by rw [hhp, hT]; exact Nat.le_refl _) (msg := .ref sa) rfl
    (g := { method := m, pc := pc + 6, locals := ls, stack := .ref sa :: .ref T.heap.size :: .ref T.heap.size :: rest, locked := none }) rfl hsize rfl rfl (rest := rest) rfl
    (by rw [hb]; exact d6) (by rw [hb]; exact d9) hout hRframes (by simp only [List.map_cons, List.sum_cons, hcat]; omega) hlocks
  obtain ⟨f1, f2⟩ := vx_frame hsame
  rw [hhp] at f1 f2
  have hWs : s.WarmedH U.vm := State.WarmedH.trans hW0 hW
  have hcl : s.vm.findClass cls = some ce.cls := by
    have h9 := hO.cls
    rw [hvm] at h9
    exact h9
  have hall : s.sameButNew ({ U with vm := s.vm } : State) locs mc ms := by
    subst hA
    obtain ⟨e1, e2⟩ := hsame
    rw [State.setFrames_setFrames] at e1
    have h2 : (T.setVm s.vm).sameButNew ({ U with vm := s.vm } : State) [] (0 + 1) (0 + 6) := ⟨e1, e2⟩
    have h3 := X.same.trans h2
    rw [List.append_nil] at h3
    exact h3.mono hc hs
  refine ⟨U, ?_, .threw T.heap.size, hrun, hend, Or.inr ⟨T.heap.size, rfl, cls, ce, locs, hx U hWs.alike f1 (fun q hq => f2 q hq (fun z hz => nomatch hz)), hce, hO.vm, hcl, hWs, hall, hf⟩⟩
  refine st1 _ ?_
  show Steps p.tables e below (T1.setTop { method := m, pc := pc + 3, locals := ls, stack := .ref T.heap.size :: rest, locked := none }) _
  jvm_step X₁.here [X₁.here.top, hexec, d3', Value.category]
  exact X₁.ldcString hexec (own := own) (text := text) (index := is) (a := sa) hown' hstr'.1 hstr'.2
    (g := { method := m, pc := pc + 4, locals := ls, stack := .ref T.heap.size :: .ref T.heap.size :: rest, locked := none }) rfl d4' _ hsteps
/-- 'throw new E("text")', the text by a wide index -/
theorem vx_throwSW {cc : ByteArray} {pc : Nat} (hexec : p.tables.exec = Jvm.exec) (hb : c.code = cc) (hl : l.stackTraces = false) {own cls text : String} {names : List String} {ik is ic mc ms sa : Nat} {A : Nat → Prop}
    (hown : s.vm.findClass own = some m.cls) (hcls : Bundle.fit cls = true) (hnames : ∀ n ∈ names, Bundle.fit n = true)
    (hk : (Cond.classLink own ik cls).before args s = true) (hini : (Cond.initialized cls).before args s = true) (hstr : vk_R own is text sa s) (hat : ∀ w ∈ vx_atS own ic cls names, w.before args s = true)
    (hgood : ∀ w ∈ Cond.classLink own ik cls :: Cond.initialized cls :: vx_atS own ic cls names, vx_ot w = true)
    (hU : vx_Zq Bundle.tN "UNASSIGNED_STACK" Bundle.steD A s s.heap) (hN : vx_Zq Bundle.tN "SUPPRESSED_SENTINEL" Bundle.listD A s s.heap) (hS : va_S A s.heap H locs) (hsize : ls.size = c.maxLocals)
    (d0 : decode cc pc = .ok (.new ik, 3)) (d3 : decode cc (pc + 3) = .ok (.dup, 1)) (d4 : decode cc (pc + 4) = .ok (.ldc_w is, 3)) (d7 : decode cc (pc + 7) = .ok (.invokespecial ic, 3)) (d10 : decode cc (pc + 10) = .ok (.athrow, 1))
    (hout : ∀ x ∈ c.exceptionTable.toList, covers x (pc + 10) = false)
    (hRframes : names.length + 3 < R.frames) (hRlocals : (rest.map fun v => v.category).sum + (13 * (names.length + 1) + 43) ≤ R.locals) (hRcells : cells + 1 ≤ R.cells) (hRslots : slots + 6 ≤ R.slots) (hlocks : meth.locks = false)
    (hx : ∀ t : State, s.vm.Alike t.vm → H.size ≤ t.heap.size → (∀ q : Nat, q < H.size → t.heap[q]? = H[q]?) → XC cls s t)
    (hf : ∀ z ∈ locs, free z.base) (hc : cells + 1 ≤ mc) (hs : slots + 6 ≤ ms) :
    W p l e R s m args below meth c H locs cells slots (vx_MQ below Qc XC args s mc ms free) (F0 m pc ls rest) := by
  intro T hT X
  have htr : e.platform.stackTraces = false := (show e.platform.stackTraces = l.stackTraces by rw [X.admits.platform]).trans hl
  have Y := vx_rebase X (R' := { frames := R.frames, locals := R.locals, cells := 1, slots := 6 }) (Nat.le_refl _) (Nat.le_refl _) hRcells hRslots
  obtain ⟨s', hA⟩ : ∃ z, z = (T.setVm s.vm).setFrames (.invoking m args :: below) := ⟨_, rfl⟩
  rw [← hA] at Y
  have hvm : s'.vm = s.vm := by rw [hA]; rfl
  have hhp : s'.heap = H := by rw [hA]; exact hT
  have hW0 : s.WarmedH s'.vm := by rw [hvm]; exact State.WarmedH.refl s
  have hat' : ∀ w ∈ vx_atS own ic cls names, w.before args s' = true := fun w hw => vx_ot_at hW0 hvm.symm (hgood w (List.mem_cons_of_mem _ (List.mem_cons_of_mem _ hw))) (hat w hw)
  have hk' : (Cond.classLink own ik cls).before args s' = true := vx_ot_at hW0 hvm.symm (hgood _ List.mem_cons_self) hk
  have hini' : (Cond.initialized cls).before args s' = true := vx_ot_at hW0 hvm.symm (hgood _ (List.mem_cons_of_mem _ List.mem_cons_self)) hini
  have hU' : vx_Zq Bundle.tN "UNASSIGNED_STACK" Bundle.steD A s' s'.heap := by rw [hhp]; exact vx_Zq.moved hW0.alike (hU.kept hS.2.1)
  have hN' : vx_Zq Bundle.tN "SUPPRESSED_SENTINEL" Bundle.listD A s' s'.heap := by rw [hhp]; exact vx_Zq.moved hW0.alike (hN.kept hS.2.1)
  have h : ∀ w ∈ Bundle.ownAtoms own ic cls names, w.before args s' = true := vx_own hat' (vx_isRefq hU'.1) (vx_isRefq hN'.1) hU'.2.word hN'.2.word
  have hown' : s'.vm.findClass own = some m.cls := by rw [hvm]; exact hown
  have hins : (Cond.instantiable cls 6).before args s' = true := h _ (by simp [Bundle.ownAtoms])
  obtain ⟨vm₁, cX, kX, hfX, hkX, -, -, X₁, st1⟩ := Y.newCold hexec (own := own) (C := cls) (index := ik) (n := 6) hown' hk' hins hini'
    (g := F0 m pc ls rest) rfl (by rw [hb]; exact d0) (Nat.le_refl _) (Nat.le_refl _)
  generalize hT1 : (T.setVm vm₁).pushCell { cls := cX, slots := kX.instanceTypes.map defaultValue, vm := .none } = T1 at X₁ st1
  have hcat : (Value.ref T.heap.size).category = 1 := rfl
  have hcellA : T1.heap[T.heap.size]? = some (freshCell cX kX) := by rw [← hT1]; exact State.heap_pushCell_size _ _
  have d3' : decode c.code (pc + 3) = .ok (.dup, 1) := by rw [hb]; exact d3
  have d4' : decode c.code (pc + 4) = .ok (.ldc_w is, 3) := by rw [hb]; exact d4
  have hstr' : vk_R own is text sa s' := vk_R.warm hW0 hstr
  obtain ⟨U, hsteps, hrun, hend, hW, hsame, ce, hce, hO⟩ := X₁.ctorThrowS hexec htr (own := own) (cls := cls) (names := names) (ic := ic) hown' hcls hnames h (fun x hx => nomatch hx) hfX hkX hcellA (by rw [hhp, hT]; exact Nat.le_refl _) (msg := .ref sa) rfl
    (g := { method := m, pc := pc + 7, locals := ls, stack := .ref sa :: .ref T.heap.size :: .ref T.heap.size :: rest, locked := none }) rfl hsize rfl rfl (rest := rest) rfl
    (by rw [hb]; exact d7) (by rw [hb]; exact d10) hout hRframes (by simp only [List.map_cons, List.sum_cons, hcat]; omega) hlocks
  obtain ⟨f1, f2⟩ := vx_frame hsame
  rw [hhp] at f1 f2
  have hWs : s.WarmedH U.vm := State.WarmedH.trans hW0 hW
  have hcl : s.vm.findClass cls = some ce.cls := by
    have h9 := hO.cls
    rw [hvm] at h9
    exact h9
  have hall : s.sameButNew ({ U with vm := s.vm } : State) locs mc ms := by
    subst hA
    obtain ⟨e1, e2⟩ := hsame
    rw [State.setFrames_setFrames] at e1
    have h2 : (T.setVm s.vm).sameButNew ({ U with vm := s.vm } : State) [] (0 + 1) (0 + 6) := ⟨e1, e2⟩
    have h3 := X.same.trans h2
    rw [List.append_nil] at h3
    exact h3.mono hc hs
  refine ⟨U, ?_, .threw T.heap.size, hrun, hend, Or.inr ⟨T.heap.size, rfl, cls, ce, locs, hx U hWs.alike f1 (fun q hq => f2 q hq (fun z hz => nomatch hz)), hce, hO.vm, hcl, hWs, hall, hf⟩⟩
  refine st1 _ ?_
  show Steps p.tables e below (T1.setTop { method := m, pc := pc + 3, locals := ls, stack := .ref T.heap.size :: rest, locked := none }) _
  jvm_step X₁.here [X₁.here.top, hexec, d3', Value.category]
  exact X₁.ldcStringW hexec (own := own) (text := text) (index := is) (a := sa) hown' hstr'.1 hstr'.2
    (g := { method := m, pc := pc + 4, locals := ls, stack := .ref T.heap.size :: .ref T.heap.size :: rest, locked := none }) rfl d4' _ hsteps
end Ends
end
section
/-! Names: the classes whose objects the worlds hold, by their numbers in xcl; the words of the tables. -/
def R_TK : String := "TwinKeepers"
def F_TK : u_T := fun k => match k with
  | 0 => ("TwinKeepers", "first", "LTwinKeepers$Machine;", true)
  | 1 => ("TwinKeepers", "second", "LTwinKeepers$Machine;", true)
  | 2 => ("TwinKeepers", "tape", "[B", true)
  | 3 => ("TwinKeepers", "result", "LTwinKeepers$Row;", true)
  | 4 => ("TwinKeepers", "tapeSize", "I", false)
  | _ => ("TwinKeepers", "latestPlace", "I", false)
def t_TK : Nat → FieldType := fun k => match k with
  | 0 => .object "TwinKeepers$Machine"
  | 1 => .object "TwinKeepers$Machine"
  | 2 => .array .byte
  | 3 => .object "TwinKeepers$Row"
  | 4 => .int
  | _ => .int
def R_Ma : String := "TwinKeepers$Machine"
def F_Ma : u_T := fun k => match k with
  | 0 => ("TwinKeepers$Machine", "sessions", "Ljava/util/ArrayList;", true)
  | 1 => ("TwinKeepers$Machine", "map", "LTwinKeepers$KeyMap;", true)
  | _ => ("TwinKeepers$Machine", "greatestPlace", "I", false)
def t_Ma : Nat → FieldType := fun k => match k with
  | 0 => .object "java/util/ArrayList"
  | 1 => .object "TwinKeepers$KeyMap"
  | _ => .int
def R_KM : String := "TwinKeepers$KeyMap"
def F_KM : u_T := fun k => match k with
  | 0 => ("TwinKeepers$KeyMap", "entries", "Ljava/util/ArrayList;", true)
  | _ => ("TwinKeepers$KeyMap", "units", "I", false)
def t_KM : Nat → FieldType := fun k => match k with
  | 0 => .object "java/util/ArrayList"
  | _ => .int
def R_Ro : String := "TwinKeepers$Row"
def F_Ro : u_T := fun k => match k with
  | 0 => ("TwinKeepers$Row", "bytes", "[B", false)
  | _ => ("TwinKeepers$Row", "size", "I", false)
def t_Ro : Nat → FieldType := fun k => match k with
  | 0 => .array .byte
  | _ => .int
def R_Se : String := "TwinKeepers$Session"
def F_Se : u_T := fun k => match k with
  | 0 => ("TwinKeepers$Session", "number", "I", true)
  | 1 => ("TwinKeepers$Session", "used", "I", true)
  | 2 => ("TwinKeepers$Session", "serial", "I", true)
  | 3 => ("TwinKeepers$Session", "answerPlace", "I", true)
  | _ => ("TwinKeepers$Session", "answer", "[B", true)
def t_Se : Nat → FieldType := fun k => match k with
  | 0 => .int
  | 1 => .int
  | 2 => .int
  | 3 => .int
  | _ => .array .byte
def R_En : String := "TwinKeepers$Entry"
def F_En : u_T := fun k => match k with
  | 0 => ("TwinKeepers$Entry", "key", "[B", true)
  | _ => ("TwinKeepers$Entry", "value", "[B", true)
def t_En : Nat → FieldType := fun k => match k with
  | 0 => .array .byte
  | _ => .array .byte
def R_Mo : String := "TwinKeepersModel"
def F_Mo : u_T := fun k => match k with
  | 0 => ("TwinKeepersModel", "thrown", "I", false)
  | 1 => ("TwinKeepersModel", "many", "[I", true)
  | 2 => ("TwinKeepersModel", "numbers", "[I", true)
  | 3 => ("TwinKeepersModel", "used", "[I", true)
  | 4 => ("TwinKeepersModel", "serials", "[I", true)
  | 5 => ("TwinKeepersModel", "places", "[I", true)
  | 6 => ("TwinKeepersModel", "answerSizes", "[I", true)
  | 7 => ("TwinKeepersModel", "answers", "[I", true)
  | 8 => ("TwinKeepersModel", "keys", "[I", true)
  | 9 => ("TwinKeepersModel", "keySizes", "[I", true)
  | 10 => ("TwinKeepersModel", "keyRows", "[J", true)
  | 11 => ("TwinKeepersModel", "valueSizes", "[I", true)
  | 12 => ("TwinKeepersModel", "values", "[J", true)
  | 13 => ("TwinKeepersModel", "highest", "[I", true)
  | 14 => ("TwinKeepersModel", "tape", "I", false)
  | 15 => ("TwinKeepersModel", "fed", "[I", true)
  | 16 => ("TwinKeepersModel", "soughtSize", "I", false)
  | 17 => ("TwinKeepersModel", "sought", "[J", true)
  | 18 => ("TwinKeepersModel", "told", "I", false)
  | 19 => ("TwinKeepersModel", "tells", "[I", true)
  | 20 => ("TwinKeepersModel", "place", "I", false)
  | 21 => ("TwinKeepersModel", "size", "I", false)
  | _ => ("TwinKeepersModel", "result", "[J", true)
def t_Mo : Nat → FieldType := fun k => match k with
  | 0 => .int
  | 1 => .array .int
  | 2 => .array .int
  | 3 => .array .int
  | 4 => .array .int
  | 5 => .array .int
  | 6 => .array .int
  | 7 => .array .int
  | 8 => .array .int
  | 9 => .array .int
  | 10 => .array .long
  | 11 => .array .int
  | 12 => .array .long
  | 13 => .array .int
  | 14 => .int
  | 15 => .array .int
  | 16 => .int
  | 17 => .array .long
  | 18 => .int
  | 19 => .array .int
  | 20 => .int
  | 21 => .int
  | _ => .array .long
def R_AL : String := "java/util/ArrayList"
def F_AL : u_T := fun k => match k with
  | 0 => ("java/util/AbstractList", "modCount", "I", false)
  | 1 => ("java/util/ArrayList", "elementData", "[Ljava/lang/Object;", false)
  | _ => ("java/util/ArrayList", "size", "I", false)
def t_AL : Nat → FieldType := fun k => match k with
  | 0 => .int
  | 1 => .array (.object "java/lang/Object")
  | _ => .int
abbrev xcl : List vw_C := [(R_TK, F_TK, 6), (R_Ma, F_Ma, 3), (R_KM, F_KM, 2), (R_Ro, F_Ro, 2), (R_Se, F_Se, 5), (R_En, F_En, 2), (R_Mo, F_Mo, 23), (R_AL, F_AL, 3)]
/-- arrays: their classes' numbers stand in the same table, from place 100 on -/
abbrev xty (D : va_G) : List (ClassId × FieldType) := [(D.1 100, .byte), (D.1 101, .object "java/lang/Object"), (D.1 102, .long), (D.1 103, .int)]
/-- a word that holds in every later state too -/
def xgw (w : Cond) : Bool := goodWord w || (w.onTables && (w.keepsFace || (match w with
  | .fieldLinkNest .. => true
  | .methodLinkNest .. => true
  | _ => false)))
def xT : List Cond := lw_tbl.filter xgw
theorem xword (w : Cond) (hw : w ∈ xT) {args a' : Array Value} {s U : State} (hW : s.WarmedH U.vm) (h : w.before args s = true) : w.before a' U = true := by
  have hg := (List.mem_filter.mp hw).2
  simp only [xgw, Bool.or_eq_true, Bool.and_eq_true] at hg
  rcases hg with hg | ⟨ho, hg | hg⟩
  · exact word_at hW (good_of_word hg) h
  · exact va_tabs ho (rfl : (s.setVm U.vm).vm = U.vm) (Cond.before_shiftedFace (State.Shifted.of_warmed hW) w hg h)
  · cases w with
    | fieldLinkNest a i b n d h0 => exact va_tabs rfl (rfl : (s.setVm U.vm).vm = U.vm) (Cond.fieldLinkNest_warmed (args := args) hW h)
    | methodLinkNest a i x h0 => exact va_tabs rfl (rfl : (s.setVm U.vm).vm = U.vm) (Cond.methodLinkNest_warmed (args := args) hW h)
    | _ => simp at hg
theorem xin {w : Cond} (i : Nat) (h : tables_1[i]? = some w) (hg : xgw w = true) : w ∈ xT := List.mem_filter.mpr ⟨List.mem_append_right _ (List.mem_of_getElem? h), hg⟩
theorem xinp {w : Cond} (i : Nat) (h : (k2_sels lw_privs)[i]? = some w) (hg : xgw w = true) : w ∈ xT := List.mem_filter.mpr ⟨List.mem_append_left _ (List.mem_of_getElem? h), hg⟩
/-- the texts of the exceptions -/
def xstr : List (Nat × String) := [(39, "n is not 1 .. 8"), (46, "the tape would have more than 300 bytes"), (209, "no such machine"), (57, "place is not 1 to 1000000 and above those before"), (80, "serial is below 0, or shape and tape are no operation"), (138, "shape and tape are no reading"), (173, "no such session"), (182, "no such thing of a session"), (184, "no such key"), (186, "no such thing of a key"), (202, "no such thing of a machine"), (204, "the result has no such byte")]
abbrev xA (H0 : Heap) : Nat → Prop := fun q => H0.size ≤ q
/-- what holds in every state of the run: the classes' numbers and slots, the statics, the texts, the mirror of Object[] -/
def xK (D : va_G) (H0 : Heap) (U : State) : Prop := va_K D xcl (xty D) U ∧ va_AO "java/lang/Object" U ∧ va_Z "TwinKeepers" "EMPTY" "[B" (.ref (D.2 200 0)) (xA H0) U H0 ∧ va_Z "java/util/ArrayList" "DEFAULTCAPACITY_EMPTY_ELEMENTDATA" "[Ljava/lang/Object;" (.ref (D.2 200 1)) (xA H0) U H0 ∧ vx_Zq Bundle.tN "UNASSIGNED_STACK" Bundle.steD (xA H0) U H0 ∧ vx_Zq Bundle.tN "SUPPRESSED_SENTINEL" Bundle.listD (xA H0) U H0 ∧ (∀ q ∈ xstr, ∃ sa : Nat, vk_R "TwinKeepers" q.1 q.2 sa U) ∧ va_Mi "[Ljava/lang/Object;" (D.2 200 2) U
theorem xK.moved {D : va_G} {H0 : Heap} {u U : State} (hW : u.WarmedH U.vm) (h : xK D H0 u) : xK D H0 U := by
  obtain ⟨h1, h2, h3, h4, h5, h6, h7, h8⟩ := h
  have hal := hW.alike
  exact ⟨h1.moved hal, h2.moved hal, h3.moved hal, h4.moved hal, h5.moved hal, h6.moved hal, fun q hq => (h7 q hq).imp fun sa hs => hs.warm hW, h8.moved hal⟩
theorem n_TK : ∀ a, a < 6 → ∀ b, b < 6 → a ≠ b → (F_TK a).2.1 ≠ (F_TK b).2.1 := by decide +kernel
theorem t_TK_ok : ∀ k, k < 6 → parseFieldDescriptor (F_TK k).2.2.1 = some (t_TK k) := by decide +kernel
theorem i_TK : ∀ w ∈ u_ws R_TK F_TK 6, w ∈ xT := by
  have h : ∀ w ∈ u_ws R_TK F_TK 6, w ∈ tables_1 ∧ xgw w = true := by decide +kernel
  exact fun w hw => List.mem_filter.mpr ⟨List.mem_append_right _ (h w hw).1, (h w hw).2⟩
theorem n_Ma : ∀ a, a < 3 → ∀ b, b < 3 → a ≠ b → (F_Ma a).2.1 ≠ (F_Ma b).2.1 := by decide +kernel
theorem t_Ma_ok : ∀ k, k < 3 → parseFieldDescriptor (F_Ma k).2.2.1 = some (t_Ma k) := by decide +kernel
theorem i_Ma : ∀ w ∈ u_ws R_Ma F_Ma 3, w ∈ xT := by
  have h : ∀ w ∈ u_ws R_Ma F_Ma 3, w ∈ tables_1 ∧ xgw w = true := by decide +kernel
  exact fun w hw => List.mem_filter.mpr ⟨List.mem_append_right _ (h w hw).1, (h w hw).2⟩
theorem n_KM : ∀ a, a < 2 → ∀ b, b < 2 → a ≠ b → (F_KM a).2.1 ≠ (F_KM b).2.1 := by decide +kernel
theorem t_KM_ok : ∀ k, k < 2 → parseFieldDescriptor (F_KM k).2.2.1 = some (t_KM k) := by decide +kernel
theorem i_KM : ∀ w ∈ u_ws R_KM F_KM 2, w ∈ xT := by
  have h : ∀ w ∈ u_ws R_KM F_KM 2, w ∈ tables_1 ∧ xgw w = true := by decide +kernel
  exact fun w hw => List.mem_filter.mpr ⟨List.mem_append_right _ (h w hw).1, (h w hw).2⟩
theorem n_Ro : ∀ a, a < 2 → ∀ b, b < 2 → a ≠ b → (F_Ro a).2.1 ≠ (F_Ro b).2.1 := by decide +kernel
theorem t_Ro_ok : ∀ k, k < 2 → parseFieldDescriptor (F_Ro k).2.2.1 = some (t_Ro k) := by decide +kernel
theorem i_Ro : ∀ w ∈ u_ws R_Ro F_Ro 2, w ∈ xT := by
  have h : ∀ w ∈ u_ws R_Ro F_Ro 2, w ∈ tables_1 ∧ xgw w = true := by decide +kernel
  exact fun w hw => List.mem_filter.mpr ⟨List.mem_append_right _ (h w hw).1, (h w hw).2⟩
theorem n_Se : ∀ a, a < 5 → ∀ b, b < 5 → a ≠ b → (F_Se a).2.1 ≠ (F_Se b).2.1 := by decide +kernel
theorem t_Se_ok : ∀ k, k < 5 → parseFieldDescriptor (F_Se k).2.2.1 = some (t_Se k) := by decide +kernel
theorem i_Se : ∀ w ∈ u_ws R_Se F_Se 5, w ∈ xT := by
  have h : ∀ w ∈ u_ws R_Se F_Se 5, w ∈ tables_1 ∧ xgw w = true := by decide +kernel
  exact fun w hw => List.mem_filter.mpr ⟨List.mem_append_right _ (h w hw).1, (h w hw).2⟩
theorem n_En : ∀ a, a < 2 → ∀ b, b < 2 → a ≠ b → (F_En a).2.1 ≠ (F_En b).2.1 := by decide +kernel
theorem t_En_ok : ∀ k, k < 2 → parseFieldDescriptor (F_En k).2.2.1 = some (t_En k) := by decide +kernel
theorem i_En : ∀ w ∈ u_ws R_En F_En 2, w ∈ xT := by
  have h : ∀ w ∈ u_ws R_En F_En 2, w ∈ tables_1 ∧ xgw w = true := by decide +kernel
  exact fun w hw => List.mem_filter.mpr ⟨List.mem_append_right _ (h w hw).1, (h w hw).2⟩
theorem n_Mo : ∀ a, a < 23 → ∀ b, b < 23 → a ≠ b → (F_Mo a).2.1 ≠ (F_Mo b).2.1 := by decide +kernel
theorem t_Mo_ok : ∀ k, k < 23 → parseFieldDescriptor (F_Mo k).2.2.1 = some (t_Mo k) := by decide +kernel
theorem i_Mo : ∀ w ∈ u_ws R_Mo F_Mo 23, w ∈ xT := by
  have h : ∀ w ∈ u_ws R_Mo F_Mo 23, w ∈ tables_1 ∧ xgw w = true := by decide +kernel
  exact fun w hw => List.mem_filter.mpr ⟨List.mem_append_right _ (h w hw).1, (h w hw).2⟩
theorem n_AL : ∀ a, a < 3 → ∀ b, b < 3 → a ≠ b → (F_AL a).2.1 ≠ (F_AL b).2.1 := by decide +kernel
theorem t_AL_ok : ∀ k, k < 3 → parseFieldDescriptor (F_AL k).2.2.1 = some (t_AL k) := by decide +kernel
theorem i_AL : ∀ w ∈ u_ws R_AL F_AL 3, w ∈ xT := by
  have h : ∀ w ∈ u_ws R_AL F_AL 3, w ∈ tables_1 ∧ xgw w = true := by decide +kernel
  exact fun w hw => List.mem_filter.mpr ⟨List.mem_append_right _ (h w hw).1, (h w hw).2⟩
end
section
/-! The abstract heap: a partial map from addresses to cells; the judgement xG over it; a row an instruction. -/
abbrev xH : Type := Nat → Option va_E
def xup (X : xH) (a : Nat) (v : va_E) : xH := fun b => if b = a then some v else X b
theorem xup_self {X : xH} {a : Nat} {v : va_E} : xup X a v a = some v := if_pos rfl
theorem xup_ne {X : xH} {a b : Nat} {v : va_E} (h : b ≠ a) : xup X a v b = X b := if_neg h
theorem xup_at {X : xH} {a b : Nat} {v : va_E} (h : b = a) : xup X a v b = some v := if_pos h
theorem xup_up {X : xH} {a : Nat} {v w : va_E} : xup (xup X a v) a w = xup X a w := by
  funext b
  by_cases h : b = a
  · rw [xup_at h, xup_at h]
  · rw [xup_ne h, xup_ne h, xup_ne h]
theorem xup_comm {X : xH} {a b : Nat} {v w : va_E} (h : a ≠ b) : xup (xup X a v) b w = xup (xup X b w) a v := by
  funext q
  by_cases h1 : q = a
  · subst h1
    rw [xup_ne h, xup_self, xup_self]
  · by_cases h2 : q = b
    · subst h2
      rw [xup_self, xup_ne h1, xup_self]
    · rw [xup_ne h2, xup_ne h1, xup_ne h1, xup_ne h2]
theorem xup_id {X : xH} {a : Nat} {v : va_E} (h : X a = some v) : xup X a v = X := by
  funext q
  by_cases h1 : q = a
  · rw [xup_at h1, h1, h]
  · rw [xup_ne h1]
theorem xne {X : xH} {a b : Nat} {v w : va_E} (h1 : X a = some v) (h2 : X b = some w) (h : v ≠ w) : a ≠ b := fun e => h (Option.some.inj (h1.symm.trans (e ▸ h2)))
theorem xne_none {X : xH} {a b : Nat} {v : va_E} (h1 : X a = some v) (h2 : X b = none) : a ≠ b := fun e => by
  rw [e, h2] at h1
  cases h1
theorem xup_keep {X : xH} {a b : Nat} {v w : va_E} (h : X b = some w) (hn : b ≠ a) : xup X a v b = some w := (xup_ne hn).trans h
theorem xup_fresh {X : xH} {a b : Nat} {v w : va_E} (h : X b = some w) (hn : X a = none) : xup X a v b = some w := (xup_ne (xne_none h hn)).trans h
/-- a cell that may be an old one: an array of no elements (nothing can be written there) -/
def xz (v : va_E) : Prop := match v with
  | .inl x => x.2.1 = 0
  | .inr _ => False
/-- an array's cell: of its class, with these elements (its monitor and hash may be anything) -/
def xav (x : vp_A) : Nat → Value := match x.2 with
  | .inl f => fun j => .int (f j)
  | .inr (.inl f) => fun j => .long (f j)
  | .inr (.inr (.inl f)) => fun j => .float (f j)
  | .inr (.inr (.inr (.inl f))) => fun j => .double (f j)
  | .inr (.inr (.inr (.inr f))) => fun j => va_rf (f j)
def xac (cA : ClassId) (n : Nat) (g : Nat → Value) (c : Cell) : Prop := c.cls = cA ∧ c.vm ≠ .unknown ∧ (∀ k, c.vm ≠ .statics k) ∧ c.slots = (arrV cA n g).slots
def xat (D : va_G) (q : Nat × va_E) (H : Heap) : Prop := match q.2 with
  | .inl x => ∃ c : Cell, H[q.1]? = some c ∧ xac x.1 x.2.1 (xav x.2) c
  | .inr o => ∃ r : vw_C, xcl[o.1]? = some r ∧ t_OB q.1 (D.1 o.1) r.2.2 (D.2 o.1) H (vp_V o.2)
theorem xat.kept {D : va_G} {q : Nat × va_E} {H H1 : Heap} (h : xat D q H) (hq : H1[q.1]? = H[q.1]?) : xat D q H1 := by
  obtain ⟨a, v⟩ := q
  cases v with
  | inl x =>
    obtain ⟨c, h1, h2⟩ := h
    exact ⟨c, hq.trans h1, h2⟩
  | inr o =>
    obtain ⟨r, h1, h2⟩ := h
    exact ⟨r, h1, h2.kept hq⟩
theorem xat.lt {D : va_G} {q : Nat × va_E} {H : Heap} (h : xat D q H) : q.1 < H.size := by
  obtain ⟨a, v⟩ := q
  cases v with
  | inl x =>
    obtain ⟨c, h1, -⟩ := h
    exact (Array.getElem?_eq_some_iff.mp h1).1
  | inr o =>
    obtain ⟨r, h1, cell, h2, -⟩ := h
    exact (Array.getElem?_eq_some_iff.mp h2).1
theorem xac_new (cA : ClassId) (n : Nat) (g : Nat → Value) : xac cA n g (arrV cA n g) := ⟨rfl, fun h => (by cases h), fun k h => (by cases h), rfl⟩
theorem xac.size {cA : ClassId} {n : Nat} {g : Nat → Value} {c : Cell} (h : xac cA n g c) : c.slots.size = n := by rw [h.2.2.2, arrV_size]
theorem xac.read {cA : ClassId} {n j : Nat} {g : Nat → Value} {c : Cell} (h : xac cA n g c) (hj : j < n) : c.slots[j]? = some (g j) := by rw [h.2.2.2, arrV_read cA g hj]
theorem xac.of {U : State} {cA : ClassId} {n : Nat} {g : Nat → Value} {c : Cell} {ty : FieldType} (h : xac cA n g c) (hT : ArrOfT U cA ty) : U.isArrayOf c ty := ⟨h.2.2.1, by rw [h.1]; exact (hT 0 (fun _ => .null)).2⟩
theorem xac.set {cA : ClassId} {n : Nat} {g g' : Nat → Value} {c : Cell} (h : xac cA n g c) (j : Nat) (v : Value) (hg : updV g j v = g') : xac cA n g' (c.setSlot j v) := by
  subst hg
  refine ⟨h.1, h.2.1, h.2.2.1, ?_⟩
  rw [← arrV_store]
  show c.slots.setIfInBounds j v = (arrV cA n g).slots.setIfInBounds j v
  rw [h.2.2.2]
/-- the heap H holds the cells of X; below the law's first heap H0 nothing has changed -/
def xRep (D : va_G) (H0 : Heap) (X : xH) (H : Heap) : Prop := H0.size ≤ H.size ∧ (∀ q : Nat, q < H0.size → H[q]? = H0[q]?) ∧ ∀ (a : Nat) (v : va_E), X a = some v → xat D (a, v) H ∧ (H0.size ≤ a ∨ xz v)
theorem xRep.put {D : va_G} {H0 : Heap} {X : xH} {H H' : Heap} {a : Nat} {v0 v : va_E} (h : xRep D H0 X H) (h0 : X a = some v0) (hz : ¬ xz v0) (he : xat D (a, v) H') (z : H'.size = H.size) (oq : ∀ q : Nat, q ≠ a → H'[q]? = H[q]?) : xRep D H0 (xup X a v) H' := by
  have ha : H0.size ≤ a := (h.2.2 a v0 h0).2.resolve_right hz
  refine ⟨by rw [z]; exact h.1, fun q hq => by rw [oq q (by omega)]; exact h.2.1 q hq, fun b w hb => ?_⟩
  by_cases hba : b = a
  · subst hba
    rw [xup_self] at hb
    cases hb
    exact ⟨he, Or.inl ha⟩
  · rw [xup_ne hba] at hb
    obtain ⟨h1, h2⟩ := h.2.2 b w hb
    exact ⟨h1.kept (oq b hba), h2⟩
theorem xRep.new {D : va_G} {H0 : Heap} {X : xH} {H H' : Heap} {v : va_E} (h : xRep D H0 X H) (he : xat D (H.size, v) H') (z : H'.size = H.size + 1) (o : ∀ q : Nat, q < H.size → H'[q]? = H[q]?) : X H.size = none ∧ xRep D H0 (xup X H.size v) H' := by
  have hf : ∀ (b : Nat) (w : va_E), X b = some w → b < H.size := fun b w hb => (h.2.2 b w hb).1.lt
  have hn : X H.size = none := by
    cases hx : X H.size with
    | none => rfl
    | some w => exact absurd (hf _ _ hx) (Nat.lt_irrefl _)
  refine ⟨hn, by have := h.1; omega, fun q hq => by rw [o q (by have := h.1; omega)]; exact h.2.1 q hq, fun b w hb => ?_⟩
  by_cases hba : b = H.size
  · subst hba
    rw [xup_self] at hb
    cases hb
    exact ⟨he, Or.inl h.1⟩
  · rw [xup_ne hba] at hb
    obtain ⟨h1, h2⟩ := h.2.2 b w hb
    exact ⟨h1.kept (o b (hf b w hb)), h2⟩
theorem xRep.more {D : va_G} {H0 : Heap} {X : xH} {H H' : Heap} (h : xRep D H0 X H) (z : H.size ≤ H'.size) (o : ∀ q : Nat, q < H.size → H'[q]? = H[q]?) : xRep D H0 X H' := by
  refine ⟨by have := h.1; omega, fun q hq => by rw [o q (by have := h.1; omega)]; exact h.2.1 q hq, fun b w hb => ?_⟩
  obtain ⟨h1, h2⟩ := h.2.2 b w hb
  exact ⟨h1.kept (o b h1.lt), h2⟩
/-! locals by their places -/
def xLoc (ls : Array Slot) (nL : Nat) (L : List (Option Value)) : Prop := ls.size = nL ∧ lv_wf ls ∧ ∀ (i : Nat) (v : Value), L[i]? = some (some v) → ls[i]? = some (.val v)
def xas (L : List (Option Value)) : List (Nat × Value) := (List.range L.length).filterMap (fun j => (L.getD j none).map (fun v => (j, v)))
theorem xas_mem {L : List (Option Value)} {q : Nat × Value} : q ∈ xas L ↔ L[q.1]? = some (some q.2) := by
  unfold xas
  rw [List.mem_filterMap]
  constructor
  · rintro ⟨j, hj, h⟩
    have hj' := List.mem_range.mp hj
    rw [List.getD_eq_getElem?_getD, List.getElem?_eq_getElem hj'] at h
    simp only [Option.getD_some] at h
    cases hv : L[j] with
    | none => rw [hv] at h; cases h
    | some v =>
      rw [hv] at h
      cases h
      rw [List.getElem?_eq_getElem hj', hv]
  · intro h
    have hlt : q.1 < L.length := (List.getElem?_eq_some_iff.mp h).1
    refine ⟨q.1, List.mem_range.mpr hlt, ?_⟩
    rw [List.getD_eq_getElem?_getD, h]
    rfl
theorem xLoc.has {ls : Array Slot} {nL : Nat} {L : List (Option Value)} (h : xLoc ls nL L) : lv_has ls nL (xas L) := ⟨h.1, h.2.1, fun q hq => h.2.2 q.1 q.2 (xas_mem.mp hq)⟩
/-- the local before place i is no long -/
def xprev (L : List (Option Value)) (i : Nat) : Bool := match i with
  | 0 => true
  | j + 1 => match L[j]? with
    | some (some v) => v.category == 1
    | _ => true
theorem xprev_use {L : List (Option Value)} {i j : Nat} {v : Value} (h : xprev L i = true) (hj : j + 1 = i) (hv : L[j]? = some (some v)) : v.category = 1 := by
  subst hj
  simp only [xprev, hv] at h
  simpa using h
theorem xLoc.set1 {ls ls' : Array Slot} {nL i : Nat} {L : List (Option Value)} {v : Value} (h : lv_has ls' nL ((i, v) :: (xas L).filter (fun q => !(q.1 == i) && !(q.1 + 1 == i && q.2.category == 2)))) (hp : xprev L i = true) : xLoc ls' nL (L.set i (some v)) := by
  refine ⟨h.1, h.2.1, fun j w hw => ?_⟩
  by_cases hj : i = j
  · subst hj
    have hlt : i < (L.set i (some v)).length := (List.getElem?_eq_some_iff.mp hw).1
    rw [List.length_set] at hlt
    rw [List.getElem?_set_self hlt] at hw
    cases hw
    exact h.2.2 (i, v) List.mem_cons_self
  · rw [List.getElem?_set_ne hj] at hw
    refine h.2.2 (j, w) (List.mem_cons_of_mem _ (List.mem_filter.mpr ⟨xas_mem.mpr hw, ?_⟩))
    have h1 : (j == i) = false := by simpa using Ne.symm hj
    by_cases hji : j + 1 = i
    · have := xprev_use hp hji hw
      simp [h1, this]
    · simp [h1, hji]
theorem xLoc.set2 {ls ls' : Array Slot} {nL i : Nat} {L : List (Option Value)} {v : Value} (h : lv_has ls' nL ((i, v) :: (xas L).filter (fun q => !(q.1 == i) && (!(q.1 == i + 1) && !(q.1 + 1 == i && q.2.category == 2))))) (hp : xprev L i = true) : xLoc ls' nL ((L.set i (some v)).set (i + 1) none) := by
  refine ⟨h.1, h.2.1, fun j w hw => ?_⟩
  by_cases hj : i + 1 = j
  · subst hj
    have hlt : i + 1 < ((L.set i (some v)).set (i + 1) none).length := (List.getElem?_eq_some_iff.mp hw).1
    rw [List.length_set] at hlt
    rw [List.getElem?_set_self hlt] at hw
    cases hw
  · rw [List.getElem?_set_ne hj] at hw
    by_cases hi : i = j
    · subst hi
      have hlt : i < (L.set i (some v)).length := (List.getElem?_eq_some_iff.mp hw).1
      rw [List.length_set] at hlt
      rw [List.getElem?_set_self hlt] at hw
      cases hw
      exact h.2.2 (i, v) List.mem_cons_self
    · rw [List.getElem?_set_ne hi] at hw
      refine h.2.2 (j, w) (List.mem_cons_of_mem _ (List.mem_filter.mpr ⟨xas_mem.mpr hw, ?_⟩))
      have h1 : (j == i) = false := by simpa using Ne.symm hi
      have h2 : (j == i + 1) = false := by simpa using Ne.symm hj
      by_cases hji : j + 1 = i
      · have := xprev_use hp hji hw
        simp [h1, h2, this]
      · simp [h1, h2, hji]

theorem xLoc.of {ls : Array Slot} {nL : Nat} {L : List (Option Value)} (h : lv_has ls nL (xas L)) : xLoc ls nL L := ⟨h.1, h.2.1, fun i v hv => h.2.2 (i, v) (xas_mem.mpr hv)⟩
/-! what stays fixed in a walk: the class numbers, the law's first heap, and all that W has -/
abbrev xE : Type := va_G × Heap × Program × Launch × Env × Room × State × MethodId × Array Value × List Frame × Method × Code × (State → Prop) × Nat
abbrev xE.D (E : xE) : va_G := E.1
abbrev xE.H0 (E : xE) : Heap := E.2.1
abbrev xE.p (E : xE) : Program := E.2.2.1
abbrev xE.l (E : xE) : Launch := E.2.2.2.1
abbrev xE.e (E : xE) : Env := E.2.2.2.2.1
abbrev xE.R (E : xE) : Room := E.2.2.2.2.2.1
abbrev xE.s (E : xE) : State := E.2.2.2.2.2.2.1
abbrev xE.m (E : xE) : MethodId := E.2.2.2.2.2.2.2.1
abbrev xE.args (E : xE) : Array Value := E.2.2.2.2.2.2.2.2.1
abbrev xE.below (E : xE) : List Frame := E.2.2.2.2.2.2.2.2.2.1
abbrev xE.meth (E : xE) : Method := E.2.2.2.2.2.2.2.2.2.2.1
abbrev xE.c (E : xE) : Code := E.2.2.2.2.2.2.2.2.2.2.2.1
abbrev xE.Q (E : xE) : State → Prop := E.2.2.2.2.2.2.2.2.2.2.2.2.1
abbrev xE.nL (E : xE) : Nat := E.2.2.2.2.2.2.2.2.2.2.2.2.2
/-- how a method ends: it returns, or throws an object of that class -/
abbrev xO : Type := Option Value ⊕ String
def xOut (o : Outcome) (r : xO) (t : State) : Prop := match r with
  | .inl v => o = .returned v
  | .inr C => ∃ (a : Nat) (cell : Cell), o = .threw a ∧ t.heap[a]? = some cell ∧ cell.vm = .none ∧ t.vm.findClass C = some cell.cls
def xMQ (D : va_G) (H0 : Heap) (below : List Frame) (s : State) (mc ms : Nat) (Post : xO → xH → Prop) : State → Prop := fun t => ∃ (o : Outcome) (r : xO) (X : xH) (L : List Loc), t.status = .running ∧ Ended t below o ∧ xOut o r t ∧ xRep D H0 X t.heap ∧ Post r X ∧ s.WarmedH t.vm ∧ s.sameButNew ({ t with vm := s.vm } : State) L mc ms ∧ ∀ q ∈ L, H0.size ≤ q.base
/-- the room of a method with d levels of calls below it -/
def xR (d mc ms : Nat) : Room := { frames := d + 8, cells := mc, slots := ms, locals := 40 * (d + 8) }
def xCx (E : xE) (y : MethodName) (cc : ByteArray) (nL : Nat) (ret : Option FieldType) (hs : List (Nat × Nat × Nat × Nat)) (d mc ms : Nat) (Post : xO → xH → Prop) : Prop :=
  E.p.tables.exec = Jvm.exec ∧ E.c.code = cc ∧ E.c.maxLocals = E.nL ∧ E.s.vm.findClass y.cls = some E.m.cls ∧ (∀ w ∈ xT, w.before E.args E.s = true) ∧ xK E.D E.H0 E.s ∧ E.meth.sig.returnType = ret ∧ E.meth.locks = false ∧ E.R = xR d mc ms ∧ E.Q = xMQ E.D E.H0 E.below E.s mc ms Post ∧ E.H0.size ≤ E.s.heap.size ∧ E.l.stackTraces = false ∧ E.c.exceptionTable.toList.map (fun h => (h.startPc, h.endPc, h.handlerPc, h.catchType)) = hs ∧ E.meth.name = y.name ∧ E.nL = nL
/-- the machine, at pc with locals L and stack st, over any heap that holds X, comes to its end -/
def xG (E : xE) (X : xH) (cells slots pc : Nat) (L : List (Option Value)) (st : List Value) : Prop :=
  ∀ (H : Heap) (locs : List Loc) (ls : Array Slot), xRep E.D E.H0 X H → va_S (fun q => E.H0.size ≤ q) E.s.heap H locs → xLoc ls E.nL L → W E.p E.l E.e E.R E.s E.m E.args E.below E.meth E.c H locs cells slots E.Q (F0 E.m pc ls st)
section XR
variable {E : xE} {y : MethodName} {cc : ByteArray} {nL : Nat} {ret : Option FieldType} {hs : List (Nat × Nat × Nat × Nat)} {d mc ms : Nat} {Post : xO → xH → Prop} {X : xH} {cells slots pc : Nat} {L : List (Option Value)} {st : List Value}
theorem xCx.ow (C : xCx E y cc nL ret hs d mc ms Post) : E.s.vm.findClass y.cls = some E.m.cls := C.2.2.2.1
theorem xCx.ts (C : xCx E y cc nL ret hs d mc ms Post) : ∀ w ∈ xT, w.before E.args E.s = true := C.2.2.2.2.1
theorem xCx.kk (C : xCx E y cc nL ret hs d mc ms Post) : xK E.D E.H0 E.s := C.2.2.2.2.2.1
theorem xCx.rt (C : xCx E y cc nL ret hs d mc ms Post) : E.meth.sig.returnType = ret := C.2.2.2.2.2.2.1
theorem xCx.lk (C : xCx E y cc nL ret hs d mc ms Post) : E.meth.locks = false := C.2.2.2.2.2.2.2.1
theorem xCx.rm (C : xCx E y cc nL ret hs d mc ms Post) : E.R = xR d mc ms := C.2.2.2.2.2.2.2.2.1
theorem xCx.qq (C : xCx E y cc nL ret hs d mc ms Post) : E.Q = xMQ E.D E.H0 E.below E.s mc ms Post := C.2.2.2.2.2.2.2.2.2.1
theorem xCx.h0 (C : xCx E y cc nL ret hs d mc ms Post) : E.H0.size ≤ E.s.heap.size := C.2.2.2.2.2.2.2.2.2.2.1
theorem xCx.tr (C : xCx E y cc nL ret hs d mc ms Post) : E.l.stackTraces = false := C.2.2.2.2.2.2.2.2.2.2.2.1
theorem xCx.tb (C : xCx E y cc nL ret hs d mc ms Post) : E.c.exceptionTable.toList.map (fun h => (h.startPc, h.endPc, h.handlerPc, h.catchType)) = hs := C.2.2.2.2.2.2.2.2.2.2.2.2.1
theorem xCx.nm (C : xCx E y cc nL ret hs d mc ms Post) : E.meth.name = y.name := C.2.2.2.2.2.2.2.2.2.2.2.2.2.1
theorem xCx.nl (C : xCx E y cc nL ret hs d mc ms Post) : E.nL = nL := C.2.2.2.2.2.2.2.2.2.2.2.2.2.2
theorem xG.eqX {X' : xH} (h : X = X') (k : xG E X' cells slots pc L st) : xG E X cells slots pc L st := h ▸ k
theorem xG.eqL {L' : List (Option Value)} (h : L = L') (k : xG E X cells slots pc L' st) : xG E X cells slots pc L st := h ▸ k
theorem xG.eqS {st' : List Value} (h : st = st') (k : xG E X cells slots pc L st') : xG E X cells slots pc L st := h ▸ k
theorem xG.wide {c2 s2 : Nat} (h1 : cells ≤ c2) (h2 : slots ≤ s2) (k : xG E X c2 s2 pc L st) : xG E X cells slots pc L st := fun H locs ls a b c => W.widen h1 h2 (k H locs ls a b c)
theorem xr_topi {x : Int32} (k : ∀ z : Int32, z = x → xG E X cells slots pc L (.int z :: st)) : xG E X cells slots pc L (.int x :: st) := k x rfl
theorem xr_topl {x : Int64} (k : ∀ z : Int64, z = x → xG E X cells slots pc L (.long z :: st)) : xG E X cells slots pc L (.long x :: st) := k x rfl
theorem xr_toi {x z : Int32} (h : x = z) (k : xG E X cells slots pc L (.int z :: st)) : xG E X cells slots pc L (.int x :: st) := h ▸ k
theorem xr_tol {x z : Int64} (h : x = z) (k : xG E X cells slots pc L (.long z :: st)) : xG E X cells slots pc L (.long x :: st) := h ▸ k

theorem xr_iconst (C : xCx E y cc nL ret hs d mc ms Post) {j : Int} {v : Int32} (hd : decode cc pc = .ok (.iconst j, 1)) (n : Nat) (hn : pc + 1 = n) (hv : Int32.ofInt j = v) (k : xG E X cells slots n L (.int v :: st)) : xG E X cells slots pc L (st) := by
  subst hn
  intro H locs ls h1 h2 h3
  exact lv_iconst C.1 C.2.1 hd hv (k H locs ls h1 h2 h3)
theorem xr_bipush (C : xCx E y cc nL ret hs d mc ms Post) {j : Int} {v : Int32} (hd : decode cc pc = .ok (.bipush j, 2)) (n : Nat) (hn : pc + 2 = n) (hv : (Int8.ofInt j).toInt32 = v) (k : xG E X cells slots n L (.int v :: st)) : xG E X cells slots pc L (st) := by
  subst hn
  intro H locs ls h1 h2 h3
  exact lv_bipush C.1 C.2.1 hd hv (k H locs ls h1 h2 h3)
theorem xr_sipush (C : xCx E y cc nL ret hs d mc ms Post) {j : Int} {v : Int32} (hd : decode cc pc = .ok (.sipush j, 3)) (n : Nat) (hn : pc + 3 = n) (hv : (Int16.ofInt j).toInt32 = v) (k : xG E X cells slots n L (.int v :: st)) : xG E X cells slots pc L (st) := by
  subst hn
  intro H locs ls h1 h2 h3
  exact lv_sipush C.1 C.2.1 hd hv (k H locs ls h1 h2 h3)
theorem xr_lconst (C : xCx E y cc nL ret hs d mc ms Post) {j : Fin 2} {v : Int64} (hd : decode cc pc = .ok (.lconst j, 1)) (n : Nat) (hn : pc + 1 = n) (hv : Int64.ofNat (j : Nat) = v) (k : xG E X cells slots n L (.long v :: st)) : xG E X cells slots pc L (st) := by
  subst hn
  intro H locs ls h1 h2 h3
  exact lv_lconst C.1 C.2.1 hd hv (k H locs ls h1 h2 h3)
theorem xr_iload_n (C : xCx E y cc nL ret hs d mc ms Post) {i : Fin 4} {x : Int32} (hd : decode cc pc = .ok (.iload_n i, 1)) (n : Nat) (hn : pc + 1 = n) (hl : L[(i : Nat)]? = some (some (.int x))) (k : xG E X cells slots n L (.int x :: st)) : xG E X cells slots pc L (st) := by
  subst hn
  intro H locs ls h1 h2 h3
  exact lv_iload_n C.1 C.2.1 hd rfl (h3.2.2 _ _ hl) (k H locs ls h1 h2 h3)
theorem xr_iload (C : xCx E y cc nL ret hs d mc ms Post) {i : Nat} {x : Int32} (hd : decode cc pc = .ok (.iload i, 2)) (n : Nat) (hn : pc + 2 = n) (hl : L[i]? = some (some (.int x))) (k : xG E X cells slots n L (.int x :: st)) : xG E X cells slots pc L (st) := by
  subst hn
  intro H locs ls h1 h2 h3
  exact lv_iload C.1 C.2.1 hd (h3.2.2 _ _ hl) (k H locs ls h1 h2 h3)
theorem xr_lload_n (C : xCx E y cc nL ret hs d mc ms Post) {i : Fin 4} {x : Int64} (hd : decode cc pc = .ok (.lload_n i, 1)) (n : Nat) (hn : pc + 1 = n) (hl : L[(i : Nat)]? = some (some (.long x))) (k : xG E X cells slots n L (.long x :: st)) : xG E X cells slots pc L (st) := by
  subst hn
  intro H locs ls h1 h2 h3
  exact lv_lload_n C.1 C.2.1 hd rfl (h3.2.2 _ _ hl) (k H locs ls h1 h2 h3)
theorem xr_lload (C : xCx E y cc nL ret hs d mc ms Post) {i : Nat} {x : Int64} (hd : decode cc pc = .ok (.lload i, 2)) (n : Nat) (hn : pc + 2 = n) (hl : L[i]? = some (some (.long x))) (k : xG E X cells slots n L (.long x :: st)) : xG E X cells slots pc L (st) := by
  subst hn
  intro H locs ls h1 h2 h3
  exact lv_lload C.1 C.2.1 hd (h3.2.2 _ _ hl) (k H locs ls h1 h2 h3)
theorem xr_aload_n (C : xCx E y cc nL ret hs d mc ms Post) {i : Fin 4} {x : Nat} (hd : decode cc pc = .ok (.aload_n i, 1)) (n : Nat) (hn : pc + 1 = n) (hl : L[(i : Nat)]? = some (some (.ref x))) (k : xG E X cells slots n L (.ref x :: st)) : xG E X cells slots pc L (st) := by
  subst hn
  intro H locs ls h1 h2 h3
  exact lv_aload_n C.1 C.2.1 hd rfl (h3.2.2 _ _ hl) (k H locs ls h1 h2 h3)
theorem xr_aload (C : xCx E y cc nL ret hs d mc ms Post) {i : Nat} {x : Nat} (hd : decode cc pc = .ok (.aload i, 2)) (n : Nat) (hn : pc + 2 = n) (hl : L[i]? = some (some (.ref x))) (k : xG E X cells slots n L (.ref x :: st)) : xG E X cells slots pc L (st) := by
  subst hn
  intro H locs ls h1 h2 h3
  exact lv_aload C.1 C.2.1 hd (h3.2.2 _ _ hl) (k H locs ls h1 h2 h3)
theorem xr_aload_nN (C : xCx E y cc nL ret hs d mc ms Post) {i : Fin 4} (hd : decode cc pc = .ok (.aload_n i, 1)) (n : Nat) (hn : pc + 1 = n) (hl : L[(i : Nat)]? = some (some .null)) (k : xG E X cells slots n L (.null :: st)) : xG E X cells slots pc L (st) := by
  subst hn
  intro H locs ls h1 h2 h3
  exact lv_aload_nN C.1 C.2.1 hd rfl (h3.2.2 _ _ hl) (k H locs ls h1 h2 h3)
theorem xr_aloadN (C : xCx E y cc nL ret hs d mc ms Post) {i : Nat} (hd : decode cc pc = .ok (.aload i, 2)) (n : Nat) (hn : pc + 2 = n) (hl : L[i]? = some (some .null)) (k : xG E X cells slots n L (.null :: st)) : xG E X cells slots pc L (st) := by
  subst hn
  intro H locs ls h1 h2 h3
  exact lv_aloadN C.1 C.2.1 hd (h3.2.2 _ _ hl) (k H locs ls h1 h2 h3)
theorem xr_null (C : xCx E y cc nL ret hs d mc ms Post) (hd : decode cc pc = .ok (.aconst_null, 1)) (n : Nat) (hn : pc + 1 = n) (k : xG E X cells slots n L (.null :: st)) : xG E X cells slots pc L (st) := by
  subst hn
  intro H locs ls h1 h2 h3
  exact lv_null C.1 C.2.1 hd (k H locs ls h1 h2 h3)
theorem xr_iadd (C : xCx E y cc nL ret hs d mc ms Post) {x z : Int32} (hd : decode cc pc = .ok (.iadd, 1)) (n : Nat) (hn : pc + 1 = n) (k : xG E X cells slots n L (.int (x + z) :: st)) : xG E X cells slots pc L (.int z :: .int x :: st) := by
  subst hn
  intro H locs ls h1 h2 h3
  exact lv_iadd C.1 C.2.1 hd (k H locs ls h1 h2 h3)
theorem xr_isub (C : xCx E y cc nL ret hs d mc ms Post) {x z : Int32} (hd : decode cc pc = .ok (.isub, 1)) (n : Nat) (hn : pc + 1 = n) (k : xG E X cells slots n L (.int (x - z) :: st)) : xG E X cells slots pc L (.int z :: .int x :: st) := by
  subst hn
  intro H locs ls h1 h2 h3
  exact lv_isub C.1 C.2.1 hd (k H locs ls h1 h2 h3)
theorem xr_imul (C : xCx E y cc nL ret hs d mc ms Post) {x z : Int32} (hd : decode cc pc = .ok (.imul, 1)) (n : Nat) (hn : pc + 1 = n) (k : xG E X cells slots n L (.int (x * z) :: st)) : xG E X cells slots pc L (.int z :: .int x :: st) := by
  subst hn
  intro H locs ls h1 h2 h3
  exact lv_imul C.1 C.2.1 hd (k H locs ls h1 h2 h3)
theorem xr_iand (C : xCx E y cc nL ret hs d mc ms Post) {x z : Int32} (hd : decode cc pc = .ok (.iand, 1)) (n : Nat) (hn : pc + 1 = n) (k : xG E X cells slots n L (.int (x &&& z) :: st)) : xG E X cells slots pc L (.int z :: .int x :: st) := by
  subst hn
  intro H locs ls h1 h2 h3
  exact lv_iand C.1 C.2.1 hd (k H locs ls h1 h2 h3)
theorem xr_ior (C : xCx E y cc nL ret hs d mc ms Post) {x z : Int32} (hd : decode cc pc = .ok (.ior, 1)) (n : Nat) (hn : pc + 1 = n) (k : xG E X cells slots n L (.int (x ||| z) :: st)) : xG E X cells slots pc L (.int z :: .int x :: st) := by
  subst hn
  intro H locs ls h1 h2 h3
  exact lv_ior C.1 C.2.1 hd (k H locs ls h1 h2 h3)
theorem xr_ixor (C : xCx E y cc nL ret hs d mc ms Post) {x z : Int32} (hd : decode cc pc = .ok (.ixor, 1)) (n : Nat) (hn : pc + 1 = n) (k : xG E X cells slots n L (.int (x ^^^ z) :: st)) : xG E X cells slots pc L (.int z :: .int x :: st) := by
  subst hn
  intro H locs ls h1 h2 h3
  exact lv_ixor C.1 C.2.1 hd (k H locs ls h1 h2 h3)
theorem xr_ishl (C : xCx E y cc nL ret hs d mc ms Post) {x z : Int32} (hd : decode cc pc = .ok (.ishl, 1)) (n : Nat) (hn : pc + 1 = n) (k : xG E X cells slots n L (.int (x <<< (z &&& 31)) :: st)) : xG E X cells slots pc L (.int z :: .int x :: st) := by
  subst hn
  intro H locs ls h1 h2 h3
  exact lv_ishl C.1 C.2.1 hd (k H locs ls h1 h2 h3)
theorem xr_ishr (C : xCx E y cc nL ret hs d mc ms Post) {x z : Int32} (hd : decode cc pc = .ok (.ishr, 1)) (n : Nat) (hn : pc + 1 = n) (k : xG E X cells slots n L (.int (x >>> (z &&& 31)) :: st)) : xG E X cells slots pc L (.int z :: .int x :: st) := by
  subst hn
  intro H locs ls h1 h2 h3
  exact lv_ishr C.1 C.2.1 hd (k H locs ls h1 h2 h3)
theorem xr_idiv (C : xCx E y cc nL ret hs d mc ms Post) {x z : Int32} (hd : decode cc pc = .ok (.idiv, 1)) (n : Nat) (hn : pc + 1 = n) (hz : ¬ z = 0) (k : xG E X cells slots n L (.int (x / z) :: st)) : xG E X cells slots pc L (.int z :: .int x :: st) := by
  subst hn
  intro H locs ls h1 h2 h3
  exact lv_idiv C.1 C.2.1 hd hz (k H locs ls h1 h2 h3)
theorem xr_irem (C : xCx E y cc nL ret hs d mc ms Post) {x z : Int32} (hd : decode cc pc = .ok (.irem, 1)) (n : Nat) (hn : pc + 1 = n) (hz : ¬ z = 0) (k : xG E X cells slots n L (.int (x - x / z * z) :: st)) : xG E X cells slots pc L (.int z :: .int x :: st) := by
  subst hn
  intro H locs ls h1 h2 h3
  exact lv_irem C.1 C.2.1 hd hz (k H locs ls h1 h2 h3)
theorem xr_ineg (C : xCx E y cc nL ret hs d mc ms Post) {x : Int32} (hd : decode cc pc = .ok (.ineg, 1)) (n : Nat) (hn : pc + 1 = n) (k : xG E X cells slots n L (.int (-x) :: st)) : xG E X cells slots pc L (.int x :: st) := by
  subst hn
  intro H locs ls h1 h2 h3
  exact lv_ineg C.1 C.2.1 hd (k H locs ls h1 h2 h3)
theorem xr_ladd (C : xCx E y cc nL ret hs d mc ms Post) {x z : Int64} (hd : decode cc pc = .ok (.ladd, 1)) (n : Nat) (hn : pc + 1 = n) (k : xG E X cells slots n L (.long (x + z) :: st)) : xG E X cells slots pc L (.long z :: .long x :: st) := by
  subst hn
  intro H locs ls h1 h2 h3
  exact lv_ladd C.1 C.2.1 hd (k H locs ls h1 h2 h3)
theorem xr_lsub (C : xCx E y cc nL ret hs d mc ms Post) {x z : Int64} (hd : decode cc pc = .ok (.lsub, 1)) (n : Nat) (hn : pc + 1 = n) (k : xG E X cells slots n L (.long (x - z) :: st)) : xG E X cells slots pc L (.long z :: .long x :: st) := by
  subst hn
  intro H locs ls h1 h2 h3
  exact lv_lsub C.1 C.2.1 hd (k H locs ls h1 h2 h3)
theorem xr_lmul (C : xCx E y cc nL ret hs d mc ms Post) {x z : Int64} (hd : decode cc pc = .ok (.lmul, 1)) (n : Nat) (hn : pc + 1 = n) (k : xG E X cells slots n L (.long (x * z) :: st)) : xG E X cells slots pc L (.long z :: .long x :: st) := by
  subst hn
  intro H locs ls h1 h2 h3
  exact lv_lmul C.1 C.2.1 hd (k H locs ls h1 h2 h3)
theorem xr_land (C : xCx E y cc nL ret hs d mc ms Post) {x z : Int64} (hd : decode cc pc = .ok (.land, 1)) (n : Nat) (hn : pc + 1 = n) (k : xG E X cells slots n L (.long (x &&& z) :: st)) : xG E X cells slots pc L (.long z :: .long x :: st) := by
  subst hn
  intro H locs ls h1 h2 h3
  exact lv_land C.1 C.2.1 hd (k H locs ls h1 h2 h3)
theorem xr_lor (C : xCx E y cc nL ret hs d mc ms Post) {x z : Int64} (hd : decode cc pc = .ok (.lor, 1)) (n : Nat) (hn : pc + 1 = n) (k : xG E X cells slots n L (.long (x ||| z) :: st)) : xG E X cells slots pc L (.long z :: .long x :: st) := by
  subst hn
  intro H locs ls h1 h2 h3
  exact lv_lor C.1 C.2.1 hd (k H locs ls h1 h2 h3)
theorem xr_lxor (C : xCx E y cc nL ret hs d mc ms Post) {x z : Int64} (hd : decode cc pc = .ok (.lxor, 1)) (n : Nat) (hn : pc + 1 = n) (k : xG E X cells slots n L (.long (x ^^^ z) :: st)) : xG E X cells slots pc L (.long z :: .long x :: st) := by
  subst hn
  intro H locs ls h1 h2 h3
  exact lv_lxor C.1 C.2.1 hd (k H locs ls h1 h2 h3)
theorem xr_i2l (C : xCx E y cc nL ret hs d mc ms Post) {x : Int32} {v : Int64} (hd : decode cc pc = .ok (.i2l, 1)) (n : Nat) (hn : pc + 1 = n) (hv : x.toInt64 = v) (k : xG E X cells slots n L (.long v :: st)) : xG E X cells slots pc L (.int x :: st) := by
  subst hn
  intro H locs ls h1 h2 h3
  exact lv_i2l C.1 C.2.1 hd hv (k H locs ls h1 h2 h3)
theorem xr_l2i (C : xCx E y cc nL ret hs d mc ms Post) {x : Int64} {v : Int32} (hd : decode cc pc = .ok (.l2i, 1)) (n : Nat) (hn : pc + 1 = n) (hv : x.toInt32 = v) (k : xG E X cells slots n L (.int v :: st)) : xG E X cells slots pc L (.long x :: st) := by
  subst hn
  intro H locs ls h1 h2 h3
  exact lv_l2i C.1 C.2.1 hd hv (k H locs ls h1 h2 h3)
theorem xr_i2b (C : xCx E y cc nL ret hs d mc ms Post) {x v : Int32} (hd : decode cc pc = .ok (.i2b, 1)) (n : Nat) (hn : pc + 1 = n) (hv : x.toInt8.toInt32 = v) (k : xG E X cells slots n L (.int v :: st)) : xG E X cells slots pc L (.int x :: st) := by
  subst hn
  intro H locs ls h1 h2 h3
  exact lv_i2b C.1 C.2.1 hd hv (k H locs ls h1 h2 h3)
theorem xr_iushr (C : xCx E y cc nL ret hs d mc ms Post) {x z v : Int32} (hd : decode cc pc = .ok (.iushr, 1)) (n : Nat) (hn : pc + 1 = n) (hv : (x.toUInt32 >>> (z.toUInt32 &&& Int32.toUInt32 31)).toInt32 = v) (k : xG E X cells slots n L (.int v :: st)) : xG E X cells slots pc L (.int z :: .int x :: st) := by
  subst hn
  intro H locs ls h1 h2 h3
  exact lv_iushr C.1 C.2.1 hd hv (k H locs ls h1 h2 h3)
theorem xr_lushr (C : xCx E y cc nL ret hs d mc ms Post) {x v : Int64} {z : Int32} (hd : decode cc pc = .ok (.lushr, 1)) (n : Nat) (hn : pc + 1 = n) (hv : (x.toUInt64 >>> (z.toInt64.toUInt64 &&& Int64.toUInt64 63)).toInt64 = v) (k : xG E X cells slots n L (.long v :: st)) : xG E X cells slots pc L (.int z :: .long x :: st) := by
  subst hn
  intro H locs ls h1 h2 h3
  exact lv_lushr C.1 C.2.1 hd hv (k H locs ls h1 h2 h3)
theorem xr_lshl (C : xCx E y cc nL ret hs d mc ms Post) {x v : Int64} {z : Int32} (hd : decode cc pc = .ok (.lshl, 1)) (n : Nat) (hn : pc + 1 = n) (hv : x <<< (z.toInt64 &&& 63) = v) (k : xG E X cells slots n L (.long v :: st)) : xG E X cells slots pc L (.int z :: .long x :: st) := by
  subst hn
  intro H locs ls h1 h2 h3
  exact lv_lshl C.1 C.2.1 hd hv (k H locs ls h1 h2 h3)
theorem xr_lcmp (C : xCx E y cc nL ret hs d mc ms Post) {x z : Int64} (hd : decode cc pc = .ok (.lcmp, 1)) (n : Nat) (hn : pc + 1 = n) (k : xG E X cells slots n L (.int (lg_cmp x z) :: st)) : xG E X cells slots pc L (.long z :: .long x :: st) := by
  subst hn
  intro H locs ls h1 h2 h3
  exact W.lcmp C.1 C.2.1 hd (k H locs ls h1 h2 h3)
theorem xr_dup (C : xCx E y cc nL ret hs d mc ms Post) {va : Value} (hd : decode cc pc = .ok (.dup, 1)) (n : Nat) (hn : pc + 1 = n) (hva : va.category = 1) (k : xG E X cells slots n L (va :: va :: st)) : xG E X cells slots pc L (va :: st) := by
  subst hn
  intro H locs ls h1 h2 h3
  exact lv_dup C.1 C.2.1 hd hva (k H locs ls h1 h2 h3)
theorem xr_pop (C : xCx E y cc nL ret hs d mc ms Post) {va : Value} (hd : decode cc pc = .ok (.pop, 1)) (n : Nat) (hn : pc + 1 = n) (hva : va.category = 1) (k : xG E X cells slots n L (st)) : xG E X cells slots pc L (va :: st) := by
  subst hn
  intro H locs ls h1 h2 h3
  exact lv_pop C.1 C.2.1 hd hva (k H locs ls h1 h2 h3)
theorem xr_dup_x1 (C : xCx E y cc nL ret hs d mc ms Post) {va vb : Value} (hd : decode cc pc = .ok (.dup_x1, 1)) (n : Nat) (hn : pc + 1 = n) (hva : va.category = 1) (hvb : vb.category = 1) (k : xG E X cells slots n L (va :: vb :: va :: st)) : xG E X cells slots pc L (va :: vb :: st) := by
  subst hn
  intro H locs ls h1 h2 h3
  exact lv_dup_x1 C.1 C.2.1 hd hva hvb (k H locs ls h1 h2 h3)
theorem xr_dup_x2 (C : xCx E y cc nL ret hs d mc ms Post) {va vb vd : Value} (hd : decode cc pc = .ok (.dup_x2, 1)) (n : Nat) (hn : pc + 1 = n) (hva : va.category = 1) (hvb : vb.category = 1) (hvd : vd.category = 1) (k : xG E X cells slots n L (va :: vb :: vd :: va :: st)) : xG E X cells slots pc L (va :: vb :: vd :: st) := by
  subst hn
  intro H locs ls h1 h2 h3
  exact lv_dup_x2 C.1 C.2.1 hd hva hvb hvd (k H locs ls h1 h2 h3)
theorem xr_dup2_11 (C : xCx E y cc nL ret hs d mc ms Post) {va vb : Value} (hd : decode cc pc = .ok (.dup2, 1)) (n : Nat) (hn : pc + 1 = n) (hva : va.category = 1) (hvb : vb.category = 1) (k : xG E X cells slots n L (va :: vb :: va :: vb :: st)) : xG E X cells slots pc L (va :: vb :: st) := by
  subst hn
  intro H locs ls h1 h2 h3
  exact lv_dup2_11 C.1 C.2.1 hd hva hvb (k H locs ls h1 h2 h3)
theorem xr_ldc (C : xCx E y cc nL ret hs d mc ms Post) {i : Nat} {v : Int32} (hd : decode cc pc = .ok (.ldc i, 2)) (n : Nat) (hn : pc + 2 = n) (hw : Cond.constant y.cls i v ∈ xT) (k : xG E X cells slots n L (.int v :: st)) : xG E X cells slots pc L st := by
  subst hn
  intro H locs ls h1 h2 h3
  exact lv_ldc C.1 C.2.1 C.ow (C.ts _ hw) hd (k H locs ls h1 h2 h3)
theorem xr_ldc2 (C : xCx E y cc nL ret hs d mc ms Post) {i : Nat} {v : Int64} (hd : decode cc pc = .ok (.ldc2_w i, 3)) (n : Nat) (hn : pc + 3 = n) (hw : Cond.constantLong y.cls i v ∈ xT) (k : xG E X cells slots n L (.long v :: st)) : xG E X cells slots pc L st := by
  subst hn
  intro H locs ls h1 h2 h3
  exact lv_ldc2 C.1 C.2.1 C.ow (C.ts _ hw) hd (k H locs ls h1 h2 h3)
theorem xr_istore_n (C : xCx E y cc nL ret hs d mc ms Post) {i : Fin 4} {x : Int32} (hd : decode cc pc = .ok (.istore_n i, 1)) (n : Nat) (hn : pc + 1 = n) (hi : Nat.blt (i : Nat) nL = true) (hp : xprev L i = true) (k : xG E X cells slots n (L.set i (some (.int x))) st) : xG E X cells slots pc L (.int x :: st) := by
  subst hn
  intro H locs ls h1 h2 h3
  exact lv_istore_n C.1 C.2.1 hd rfl h3.has (by rw [C.nl]; exact Nat.blt_eq.mp hi) rfl (fun ls' h => k H locs ls' h1 h2 (xLoc.set1 (ls := ls) h hp))
theorem xr_istore (C : xCx E y cc nL ret hs d mc ms Post) {i : Nat} {x : Int32} (hd : decode cc pc = .ok (.istore i, 2)) (n : Nat) (hn : pc + 2 = n) (hi : Nat.blt i nL = true) (hp : xprev L i = true) (k : xG E X cells slots n (L.set i (some (.int x))) st) : xG E X cells slots pc L (.int x :: st) := by
  subst hn
  intro H locs ls h1 h2 h3
  exact lv_istore C.1 C.2.1 hd h3.has (by rw [C.nl]; exact Nat.blt_eq.mp hi) rfl (fun ls' h => k H locs ls' h1 h2 (xLoc.set1 (ls := ls) h hp))
theorem xr_astore_n (C : xCx E y cc nL ret hs d mc ms Post) {i : Fin 4} {x : Nat} (hd : decode cc pc = .ok (.astore_n i, 1)) (n : Nat) (hn : pc + 1 = n) (hi : Nat.blt (i : Nat) nL = true) (hp : xprev L i = true) (k : xG E X cells slots n (L.set i (some (.ref x))) st) : xG E X cells slots pc L (.ref x :: st) := by
  subst hn
  intro H locs ls h1 h2 h3
  exact lv_astore_n C.1 C.2.1 hd rfl h3.has (by rw [C.nl]; exact Nat.blt_eq.mp hi) rfl (fun ls' h => k H locs ls' h1 h2 (xLoc.set1 (ls := ls) h hp))
theorem xr_astore (C : xCx E y cc nL ret hs d mc ms Post) {i : Nat} {x : Nat} (hd : decode cc pc = .ok (.astore i, 2)) (n : Nat) (hn : pc + 2 = n) (hi : Nat.blt i nL = true) (hp : xprev L i = true) (k : xG E X cells slots n (L.set i (some (.ref x))) st) : xG E X cells slots pc L (.ref x :: st) := by
  subst hn
  intro H locs ls h1 h2 h3
  exact lv_astore C.1 C.2.1 hd h3.has (by rw [C.nl]; exact Nat.blt_eq.mp hi) rfl (fun ls' h => k H locs ls' h1 h2 (xLoc.set1 (ls := ls) h hp))
theorem xr_astore_nN (C : xCx E y cc nL ret hs d mc ms Post) {i : Fin 4} (hd : decode cc pc = .ok (.astore_n i, 1)) (n : Nat) (hn : pc + 1 = n) (hi : Nat.blt (i : Nat) nL = true) (hp : xprev L i = true) (k : xG E X cells slots n (L.set i (some .null)) st) : xG E X cells slots pc L (.null :: st) := by
  subst hn
  intro H locs ls h1 h2 h3
  exact lv_astore_nN C.1 C.2.1 hd rfl h3.has (by rw [C.nl]; exact Nat.blt_eq.mp hi) rfl (fun ls' h => k H locs ls' h1 h2 (xLoc.set1 (ls := ls) h hp))
theorem xr_lstore_n (C : xCx E y cc nL ret hs d mc ms Post) {i : Fin 4} {x : Int64} (hd : decode cc pc = .ok (.lstore_n i, 1)) (n : Nat) (hn : pc + 1 = n) (hi : Nat.blt ((i : Nat) + 1) nL = true) (hp : xprev L i = true) (k : xG E X cells slots n ((L.set i (some (.long x))).set (i + 1) none) st) : xG E X cells slots pc L (.long x :: st) := by
  subst hn
  intro H locs ls h1 h2 h3
  exact lv_lstore_n C.1 C.2.1 hd rfl h3.has (by rw [C.nl]; exact Nat.blt_eq.mp hi) rfl (fun ls' h => k H locs ls' h1 h2 (xLoc.set2 (ls := ls) h hp))
theorem xr_lstore (C : xCx E y cc nL ret hs d mc ms Post) {i : Nat} {x : Int64} (hd : decode cc pc = .ok (.lstore i, 2)) (n : Nat) (hn : pc + 2 = n) (hi : Nat.blt (i + 1) nL = true) (hp : xprev L i = true) (k : xG E X cells slots n ((L.set i (some (.long x))).set (i + 1) none) st) : xG E X cells slots pc L (.long x :: st) := by
  subst hn
  intro H locs ls h1 h2 h3
  exact lv_lstore C.1 C.2.1 hd h3.has (by rw [C.nl]; exact Nat.blt_eq.mp hi) rfl (fun ls' h => k H locs ls' h1 h2 (xLoc.set2 (ls := ls) h hp))
theorem xr_iinc (C : xCx E y cc nL ret hs d mc ms Post) {i : Nat} {j : Int} {x v : Int32} (hd : decode cc pc = .ok (.iinc i j, 3)) (n : Nat) (hn : pc + 3 = n) (hi : Nat.blt i nL = true) (hp : xprev L i = true) (hl : L[i]? = some (some (.int x))) (hv : Int32.ofInt j = v) (k : xG E X cells slots n (L.set i (some (.int (x + v)))) st) : xG E X cells slots pc L st := by
  subst hn
  intro H locs ls h1 h2 h3
  obtain ⟨q, hq⟩ := List.getElem?_of_mem ((xas_mem (L := L) (q := (i, .int x))).mpr hl)
  exact lv_iinc C.1 C.2.1 hd h3.has hq (by rw [hv]) (by rw [C.nl]; exact Nat.blt_eq.mp hi) rfl (fun ls' h => k H locs ls' h1 h2 (xLoc.set1 (ls := ls) h hp))
theorem xr_if_eq (C : xCx E y cc nL ret hs d mc ms Post) {x : Int32} {off : Int} (hd : decode cc pc = .ok (.ifCond .eq off, 3)) (n tgt : Nat) (hn : pc + 3 = n) (ht : (pc : Int) + off = (tgt : Int)) (kt : x = 0 → xG E X cells slots tgt L st) (kf : ¬ x = 0 → xG E X cells slots n L st) : xG E X cells slots pc L (.int x :: st) := by
  subst hn
  intro H locs ls h1 h2 h3
  exact lv_if_eq C.1 C.2.1 hd ht (fun q => kt q H locs ls h1 h2 h3) (fun q => kf q H locs ls h1 h2 h3)
theorem xr_icmp_eq (C : xCx E y cc nL ret hs d mc ms Post) {x z : Int32} {off : Int} (hd : decode cc pc = .ok (.if_icmp .eq off, 3)) (n tgt : Nat) (hn : pc + 3 = n) (ht : (pc : Int) + off = (tgt : Int)) (kt : x = z → xG E X cells slots tgt L st) (kf : ¬ x = z → xG E X cells slots n L st) : xG E X cells slots pc L (.int z :: .int x :: st) := by
  subst hn
  intro H locs ls h1 h2 h3
  exact lv_icmp_eq C.1 C.2.1 hd ht (fun q => kt q H locs ls h1 h2 h3) (fun q => kf q H locs ls h1 h2 h3)
theorem xr_if_ne (C : xCx E y cc nL ret hs d mc ms Post) {x : Int32} {off : Int} (hd : decode cc pc = .ok (.ifCond .ne off, 3)) (n tgt : Nat) (hn : pc + 3 = n) (ht : (pc : Int) + off = (tgt : Int)) (kt : ¬ x = 0 → xG E X cells slots tgt L st) (kf : x = 0 → xG E X cells slots n L st) : xG E X cells slots pc L (.int x :: st) := by
  subst hn
  intro H locs ls h1 h2 h3
  exact lv_if_ne C.1 C.2.1 hd ht (fun q => kt q H locs ls h1 h2 h3) (fun q => kf q H locs ls h1 h2 h3)
theorem xr_icmp_ne (C : xCx E y cc nL ret hs d mc ms Post) {x z : Int32} {off : Int} (hd : decode cc pc = .ok (.if_icmp .ne off, 3)) (n tgt : Nat) (hn : pc + 3 = n) (ht : (pc : Int) + off = (tgt : Int)) (kt : ¬ x = z → xG E X cells slots tgt L st) (kf : x = z → xG E X cells slots n L st) : xG E X cells slots pc L (.int z :: .int x :: st) := by
  subst hn
  intro H locs ls h1 h2 h3
  exact lv_icmp_ne C.1 C.2.1 hd ht (fun q => kt q H locs ls h1 h2 h3) (fun q => kf q H locs ls h1 h2 h3)
theorem xr_if_lt (C : xCx E y cc nL ret hs d mc ms Post) {x : Int32} {off : Int} (hd : decode cc pc = .ok (.ifCond .lt off, 3)) (n tgt : Nat) (hn : pc + 3 = n) (ht : (pc : Int) + off = (tgt : Int)) (kt : x < 0 → xG E X cells slots tgt L st) (kf : ¬ x < 0 → xG E X cells slots n L st) : xG E X cells slots pc L (.int x :: st) := by
  subst hn
  intro H locs ls h1 h2 h3
  exact lv_if_lt C.1 C.2.1 hd ht (fun q => kt q H locs ls h1 h2 h3) (fun q => kf q H locs ls h1 h2 h3)
theorem xr_icmp_lt (C : xCx E y cc nL ret hs d mc ms Post) {x z : Int32} {off : Int} (hd : decode cc pc = .ok (.if_icmp .lt off, 3)) (n tgt : Nat) (hn : pc + 3 = n) (ht : (pc : Int) + off = (tgt : Int)) (kt : x < z → xG E X cells slots tgt L st) (kf : ¬ x < z → xG E X cells slots n L st) : xG E X cells slots pc L (.int z :: .int x :: st) := by
  subst hn
  intro H locs ls h1 h2 h3
  exact lv_icmp_lt C.1 C.2.1 hd ht (fun q => kt q H locs ls h1 h2 h3) (fun q => kf q H locs ls h1 h2 h3)
theorem xr_if_ge (C : xCx E y cc nL ret hs d mc ms Post) {x : Int32} {off : Int} (hd : decode cc pc = .ok (.ifCond .ge off, 3)) (n tgt : Nat) (hn : pc + 3 = n) (ht : (pc : Int) + off = (tgt : Int)) (kt : 0 ≤ x → xG E X cells slots tgt L st) (kf : ¬ 0 ≤ x → xG E X cells slots n L st) : xG E X cells slots pc L (.int x :: st) := by
  subst hn
  intro H locs ls h1 h2 h3
  exact lv_if_ge C.1 C.2.1 hd ht (fun q => kt q H locs ls h1 h2 h3) (fun q => kf q H locs ls h1 h2 h3)
theorem xr_icmp_ge (C : xCx E y cc nL ret hs d mc ms Post) {x z : Int32} {off : Int} (hd : decode cc pc = .ok (.if_icmp .ge off, 3)) (n tgt : Nat) (hn : pc + 3 = n) (ht : (pc : Int) + off = (tgt : Int)) (kt : z ≤ x → xG E X cells slots tgt L st) (kf : ¬ z ≤ x → xG E X cells slots n L st) : xG E X cells slots pc L (.int z :: .int x :: st) := by
  subst hn
  intro H locs ls h1 h2 h3
  exact lv_icmp_ge C.1 C.2.1 hd ht (fun q => kt q H locs ls h1 h2 h3) (fun q => kf q H locs ls h1 h2 h3)
theorem xr_if_gt (C : xCx E y cc nL ret hs d mc ms Post) {x : Int32} {off : Int} (hd : decode cc pc = .ok (.ifCond .gt off, 3)) (n tgt : Nat) (hn : pc + 3 = n) (ht : (pc : Int) + off = (tgt : Int)) (kt : 0 < x → xG E X cells slots tgt L st) (kf : ¬ 0 < x → xG E X cells slots n L st) : xG E X cells slots pc L (.int x :: st) := by
  subst hn
  intro H locs ls h1 h2 h3
  exact lv_if_gt C.1 C.2.1 hd ht (fun q => kt q H locs ls h1 h2 h3) (fun q => kf q H locs ls h1 h2 h3)
theorem xr_icmp_gt (C : xCx E y cc nL ret hs d mc ms Post) {x z : Int32} {off : Int} (hd : decode cc pc = .ok (.if_icmp .gt off, 3)) (n tgt : Nat) (hn : pc + 3 = n) (ht : (pc : Int) + off = (tgt : Int)) (kt : z < x → xG E X cells slots tgt L st) (kf : ¬ z < x → xG E X cells slots n L st) : xG E X cells slots pc L (.int z :: .int x :: st) := by
  subst hn
  intro H locs ls h1 h2 h3
  exact lv_icmp_gt C.1 C.2.1 hd ht (fun q => kt q H locs ls h1 h2 h3) (fun q => kf q H locs ls h1 h2 h3)
theorem xr_if_le (C : xCx E y cc nL ret hs d mc ms Post) {x : Int32} {off : Int} (hd : decode cc pc = .ok (.ifCond .le off, 3)) (n tgt : Nat) (hn : pc + 3 = n) (ht : (pc : Int) + off = (tgt : Int)) (kt : x ≤ 0 → xG E X cells slots tgt L st) (kf : ¬ x ≤ 0 → xG E X cells slots n L st) : xG E X cells slots pc L (.int x :: st) := by
  subst hn
  intro H locs ls h1 h2 h3
  exact lv_if_le C.1 C.2.1 hd ht (fun q => kt q H locs ls h1 h2 h3) (fun q => kf q H locs ls h1 h2 h3)
theorem xr_icmp_le (C : xCx E y cc nL ret hs d mc ms Post) {x z : Int32} {off : Int} (hd : decode cc pc = .ok (.if_icmp .le off, 3)) (n tgt : Nat) (hn : pc + 3 = n) (ht : (pc : Int) + off = (tgt : Int)) (kt : x ≤ z → xG E X cells slots tgt L st) (kf : ¬ x ≤ z → xG E X cells slots n L st) : xG E X cells slots pc L (.int z :: .int x :: st) := by
  subst hn
  intro H locs ls h1 h2 h3
  exact lv_icmp_le C.1 C.2.1 hd ht (fun q => kt q H locs ls h1 h2 h3) (fun q => kf q H locs ls h1 h2 h3)
theorem xr_goto (C : xCx E y cc nL ret hs d mc ms Post) {off : Int} (hd : decode cc pc = .ok (.goto off, 3)) (tgt : Nat) (ht : (pc : Int) + off = (tgt : Int)) (k : xG E X cells slots tgt L st) : xG E X cells slots pc L st := by
  intro H locs ls h1 h2 h3
  exact lv_goto C.1 C.2.1 hd ht (k H locs ls h1 h2 h3)
theorem xr_ifnonnull (C : xCx E y cc nL ret hs d mc ms Post) {a : Nat} {off : Int} (hd : decode cc pc = .ok (.ifnonnull off, 3)) (tgt : Nat) (ht : (pc : Int) + off = (tgt : Int)) (k : xG E X cells slots tgt L st) : xG E X cells slots pc L (.ref a :: st) := by
  intro H locs ls h1 h2 h3
  exact lv_ifnonnull C.1 C.2.1 hd ht (k H locs ls h1 h2 h3)
theorem xr_ifnull (C : xCx E y cc nL ret hs d mc ms Post) {a : Nat} {off : Int} (hd : decode cc pc = .ok (.ifnull off, 3)) (n : Nat) (hn : pc + 3 = n) (k : xG E X cells slots n L st) : xG E X cells slots pc L (.ref a :: st) := by
  subst hn
  intro H locs ls h1 h2 h3
  exact lv_ifnull C.1 C.2.1 hd (k H locs ls h1 h2 h3)
theorem xr_acmp_eq (C : xCx E y cc nL ret hs d mc ms Post) {a b : Nat} {off : Int} (hd : decode cc pc = .ok (.if_acmp .eq off, 3)) (n tgt : Nat) (hn : pc + 3 = n) (ht : (pc : Int) + off = (tgt : Int)) (kt : a = b → xG E X cells slots tgt L st) (kf : ¬ a = b → xG E X cells slots n L st) : xG E X cells slots pc L (.ref b :: .ref a :: st) := by
  subst hn
  intro H locs ls h1 h2 h3
  exact lv_acmp_eq (rx := some a) (ry := some b) C.1 C.2.1 hd ht (fun q => kt (Option.some.inj q) H locs ls h1 h2 h3) (fun q => kf (fun e => q (by rw [e])) H locs ls h1 h2 h3)
theorem xr_acmp_ne (C : xCx E y cc nL ret hs d mc ms Post) {a b : Nat} {off : Int} (hd : decode cc pc = .ok (.if_acmp .ne off, 3)) (n tgt : Nat) (hn : pc + 3 = n) (ht : (pc : Int) + off = (tgt : Int)) (kt : ¬ a = b → xG E X cells slots tgt L st) (kf : a = b → xG E X cells slots n L st) : xG E X cells slots pc L (.ref b :: .ref a :: st) := by
  subst hn
  intro H locs ls h1 h2 h3
  exact lv_acmp_ne (rx := some a) (ry := some b) C.1 C.2.1 hd ht (fun q => kt (fun e => q (by rw [e])) H locs ls h1 h2 h3) (fun q => kf (Option.some.inj q) H locs ls h1 h2 h3)
theorem xr_tableOut (C : xCx E y cc nL ret hs d mc ms Post) {dflt lo hi : Int} {offs : Array Int} {len : Nat} {x : Int32} (hd : decode cc pc = .ok (.tableswitch dflt lo hi offs, len)) (tgt : Nat) (h : x.toInt < lo ∨ hi < x.toInt) (ht : (pc : Int) + dflt = (tgt : Int)) (k : xG E X cells slots tgt L st) : xG E X cells slots pc L (.int x :: st) := by
  intro H locs ls h1 h2 h3
  exact lv_tableOut C.1 C.2.1 hd h ht (k H locs ls h1 h2 h3)
theorem xr_tableIn (C : xCx E y cc nL ret hs d mc ms Post) {dflt lo hi : Int} {offs : Array Int} {len : Nat} {x : Int32} {off : Int} (hd : decode cc pc = .ok (.tableswitch dflt lo hi offs, len)) (tgt : Nat) (g1 : ¬ x.toInt < lo) (g2 : ¬ hi < x.toInt) (ho : offs[(x.toInt - lo).toNat]? = some off) (ht : (pc : Int) + off = (tgt : Int)) (k : xG E X cells slots tgt L st) : xG E X cells slots pc L (.int x :: st) := by
  intro H locs ls h1 h2 h3
  exact lv_tableIn C.1 C.2.1 hd g1 g2 ho ht (k H locs ls h1 h2 h3)
theorem xr_lookup (C : xCx E y cc nL ret hs d mc ms Post) {dflt : Int} {ps : Array (Int × Int)} {len : Nat} {x : Int32} {off : Int} (hd : decode cc pc = .ok (.lookupswitch dflt ps, len)) (tgt : Nat) (hp : (ps.toList.zip (ps.toList.drop 1)).all (fun (a, next) => a.1 < next.1) = true) (ho : Op.lookupswitch.offset ps.toList dflt x.toInt = off) (ht : (pc : Int) + off = (tgt : Int)) (k : xG E X cells slots tgt L st) : xG E X cells slots pc L (.int x :: st) := by
  intro H locs ls h1 h2 h3
  exact lv_lookup C.1 C.2.1 hd hp ho ht (k H locs ls h1 h2 h3)
end XR
end
section
/-! Rows that touch the heap. -/
theorem xP1 {D : va_G} {a : Nat} {o : Nat × List Value} {H : Heap} (h : xat D (a, .inr o) H) : va_P D xcl [(a, .inr o)] H := fun k r hr => by
  cases k with
  | zero => cases hr; exact h
  | succ k => simp at hr
theorem xRep.cell {D : va_G} {H0 : Heap} {X : xH} {H : Heap} {a : Nat} {x : ClassId × vp_A} (h : xRep D H0 X H) (hX : X a = some (.inl x)) : ∃ c : Cell, H[a]? = some c ∧ xac x.1 x.2.1 (xav x.2) c := (h.2.2 a _ hX).1
theorem xRep.old {D : va_G} {H0 : Heap} {X : xH} {H : Heap} {a : Nat} {v : va_E} (h : xRep D H0 X H) (hX : X a = some v) (hz : ¬ xz v) : H0.size ≤ a := (h.2.2 a v hX).2.resolve_right hz
theorem xsm {args : Array Value} {s : State} {ref o nm ds : String} (hts : ∀ w ∈ xT, w.before args s = true) (h : ref = o ∨ Cond.sameField ref o nm ds ∈ xT) : ∀ x, s.fieldFound? o nm ds = some x → s.fieldFound? ref nm ds = some x := fun x hx => h.elim (fun e => by rw [e]; exact hx) (fun hw => u_same (hts _ hw) x hx)
def xCl (ci : Nat) (C : String) (T : u_T) (N : Nat) (ty : Nat → FieldType) : Prop := xcl[ci]? = some (C, T, N) ∧ (∀ w ∈ u_ws C T N, w ∈ xT) ∧ (∀ k, k < N → parseFieldDescriptor (T k).2.2.1 = some (ty k)) ∧ (∀ a, a < N → ∀ b, b < N → a ≠ b → (T a).2.1 ≠ (T b).2.1)
theorem xS_more {A : Nat → Prop} {H0 H H' : Heap} {locs : List Loc} (h : va_S A H0 H locs) (z : H.size ≤ H'.size) (o : ∀ q : Nat, q < H.size → H'[q]? = H[q]?) : va_S A H0 H' locs := ⟨Nat.le_trans h.1 z, fun q h1 h2 => (o q (Nat.lt_of_lt_of_le h1 h.1)).trans (h.2.1 q h1 h2), h.2.2⟩
section XRH
variable {E : xE} {y : MethodName} {cc : ByteArray} {nL : Nat} {ret : Option FieldType} {hs : List (Nat × Nat × Nat × Nat)} {d mc ms : Nat} {Post : xO → xH → Prop} {X : xH} {cells slots pc : Nat} {L : List (Option Value)} {st : List Value}
theorem xCx.rc (C : xCx E y cc nL ret hs d mc ms Post) {k : Nat} (h : k ≤ mc) : k ≤ E.R.cells := by rw [C.rm]; exact h
theorem xCx.rs (C : xCx E y cc nL ret hs d mc ms Post) {k : Nat} (h : k ≤ ms) : k ≤ E.R.slots := by rw [C.rm]; exact h
theorem xr_get (C : xCx E y cc nL ret hs d mc ms Post) {ci N idx a : Nat} {fs : List Value} {v : Value} {Cn ref : String} {T : u_T} {ty : Nat → FieldType} (K : xCl ci Cn T N ty) (k : Nat) (hd : decode cc pc = .ok (.getfield idx, 3)) (n : Nat) (hn : pc + 3 = n) (hl : Cond.fieldLink y.cls idx ref (T k).2.1 (T k).2.2.1 ∈ xT) (hsm : ref = (T k).1 ∨ Cond.sameField ref (T k).1 (T k).2.1 (T k).2.2.1 ∈ xT) (hk : Nat.blt k N = true) (hX : X a = some (.inr (ci, fs))) (hv : fs[k]? = some v) (kk : xG E X cells slots n L (v :: st)) : xG E X cells slots pc L (.ref a :: st) := by
  subst hn
  intro H locs ls h1 h2 h3
  exact va_get (ws := [(a, .inr (ci, fs))]) C.1 C.2.1 C.ts K.2.1 C.ow C.kk.1 (xP1 (h1.2.2 a _ hX).1) 0 rfl K.1 k (Nat.blt_eq.mp hk) (C.ts _ hl) (xsm C.ts hsm) hv hd (kk H locs ls h1 h2 h3)
theorem xr_put (C : xCx E y cc nL ret hs d mc ms Post) {ci N idx a : Nat} {fs fs' : List Value} {v : Value} {Cn ref : String} {T : u_T} {ty : Nat → FieldType} (K : xCl ci Cn T N ty) (k : Nat) (hd : decode cc pc = .ok (.putfield idx, 3)) (n : Nat) (hn : pc + 3 = n) (hl : Cond.fieldLink y.cls idx ref (T k).2.1 (T k).2.2.1 ∈ xT) (hsm : ref = (T k).1 ∨ Cond.sameField ref (T k).1 (T k).2.1 (T k).2.2.1 ∈ xT) (hk : Nat.blt k N = true) (hfin : (T k).2.2.2 = false) (hnar : narrow (ty k) v = v) (hfit : fits (ty k) v = true) (hX : X a = some (.inr (ci, fs))) (hlen : Nat.blt k fs.length = true) (hfs : fs.set k v = fs') (kk : xG E (xup X a (.inr (ci, fs'))) cells slots n L st) : xG E X cells slots pc L (v :: .ref a :: st) := by
  subst hn
  subst hfs
  have hk : k < N := Nat.blt_eq.mp hk
  have hlen : k < fs.length := Nat.blt_eq.mp hlen
  intro H locs ls h1 h2 h3
  have hK := C.kk.1
  have hap := va_apart (own := y.cls) C.ts K.2.1 ty K.2.2.1 K.2.2.2 hK K.1
  obtain ⟨r, g1, cell, q1, q2, q3, q4⟩ := (h1.2.2 a _ hX).1
  have hr : r = (Cn, T, N) := Option.some.inj (g1.symm.trans K.1)
  subst hr
  obtain ⟨hS, hfc, kC, hkC, hkind⟩ := hK.1 ci _ K.1
  obtain ⟨cf, kf, fi, f, hi, hsl⟩ := hS k hk
  have hlay := C.ts _ (K.2.1 _ (u_in_lay hk))
  unfold u_lay at hlay
  rw [if_neg (by rw [hfin]; decide)] at hlay
  have hst := (u_facts hfc hkC (u_lays C.ts K.2.1 hk) hi).1
  have h6 := u_store hfc hkC hkind hlay hi (K.2.2.1 k hk) hnar hfit
  refine W.putK C.1 C.2.1 (f := f) ⟨C.ow, C.ts _ hl, ⟨_, _, _, xsm C.ts hsm _ hi⟩, hst⟩ (by rw [q2]; exact h6) q1 q3 (by rw [hsl]; exact k2_hasslot (q4 k hk)) rfl rfl hd fun H' e1 e2 e3 => ?_
  rw [hsl] at e1 ⊢
  have hat : xat E.D (a, .inr (ci, fs.set k v)) H' := ⟨_, K.1, t_OB.to (V := updV (vp_V fs) k v) ⟨_, e1, q2, q3, t_set q4 hap hk v⟩ (fun j _ => vp_updV_set hlen v j)⟩
  exact kk H' _ ls (h1.put hX (fun z => z) hat e2 e3) (h2.put e2 e3 (h1.old hX (fun z => z))) h3
theorem xr_putF (C : xCx E y cc nL ret hs d mc ms Post) {ci N idx a : Nat} {fs fs' : List Value} {v : Value} {Cn ref : String} {T : u_T} {ty : Nat → FieldType} (K : xCl ci Cn T N ty) (k : Nat) (hd : decode cc pc = .ok (.putfield idx, 3)) (n : Nat) (hn : pc + 3 = n) (hl : Cond.fieldLink y.cls idx ref (T k).2.1 (T k).2.2.1 ∈ xT) (hsm : ref = (T k).1 ∨ Cond.sameField ref (T k).1 (T k).2.1 (T k).2.2.1 ∈ xT) (hk : Nat.blt k N = true) (hfin : (T k).2.2.2 = true) (hini : y.name = "<init>") (hdecl : (T k).1 = y.cls) (hnar : narrow (ty k) v = v) (hfit : fits (ty k) v = true) (hX : X a = some (.inr (ci, fs))) (hlen : Nat.blt k fs.length = true) (hfs : fs.set k v = fs') (kk : xG E (xup X a (.inr (ci, fs'))) cells slots n L st) : xG E X cells slots pc L (v :: .ref a :: st) := by
  subst hn
  subst hfs
  have hk : k < N := Nat.blt_eq.mp hk
  have hlen : k < fs.length := Nat.blt_eq.mp hlen
  intro H locs ls h1 h2 h3
  have hK := C.kk.1
  have hap := va_apart (own := y.cls) C.ts K.2.1 ty K.2.2.1 K.2.2.2 hK K.1
  obtain ⟨r, g1, cell, q1, q2, q3, q4⟩ := (h1.2.2 a _ hX).1
  have hr : r = (Cn, T, N) := Option.some.inj (g1.symm.trans K.1)
  subst hr
  obtain ⟨hS, hfc, kC, hkC, hkind⟩ := hK.1 ci _ K.1
  obtain ⟨cf, kf, fi, f, hi, hsl⟩ := hS k hk
  have hlay := C.ts _ (K.2.1 _ (u_in_lay hk))
  unfold u_lay at hlay
  rw [if_pos hfin] at hlay
  have hst := (u_facts hfc hkC (u_lays C.ts K.2.1 hk) hi).1
  have hcf : E.m.cls = cf := by
    obtain ⟨_, _, c', _, _, _, -, -, hf', -, -, -, hown2, -⟩ := Cond.laysFinal_spec hlay
    have e1 : c' = cf := by have := hi.symm.trans hf'; simp at this; exact this.1.symm
    rw [hdecl] at hown2
    rw [← e1]; exact Option.some.inj (C.ow.symm.trans hown2)
  have h6 := u_fits hfc hkC hkind (Or.inr hlay) hi (K.2.2.1 k hk) hnar hfit
  refine W.putFinK C.1 C.2.1 C.ow (C.ts _ hl) (xsm C.ts hsm _ hi) hst hcf (C.nm.trans hini) (by rw [q2]; exact h6) q1 q3 (by rw [hsl]; exact k2_hasslot (q4 k hk)) rfl rfl hd fun H' e1 e2 e3 => ?_
  rw [hsl] at e1 ⊢
  have hat : xat E.D (a, .inr (ci, fs.set k v)) H' := ⟨_, K.1, t_OB.to (V := updV (vp_V fs) k v) ⟨_, e1, q2, q3, t_set q4 hap hk v⟩ (fun j _ => vp_updV_set hlen v j)⟩
  exact kk H' _ ls (h1.put hX (fun z => z) hat e2 e3) (h2.put e2 e3 (h1.old hX (fun z => z))) h3
theorem xr_alen (C : xCx E y cc nL ret hs d mc ms Post) {a t0 : Nat} {cA : ClassId} {x : vp_A} {ty : FieldType} (ht : (xty E.D)[t0]? = some (cA, ty)) (hd : decode cc pc = .ok (.arraylength, 1)) (n : Nat) (hn : pc + 1 = n) (hX : X a = some (.inl (cA, x))) (kk : xG E X cells slots n L (.int (nI x.1) :: st)) : xG E X cells slots pc L (.ref a :: st) := by
  subst hn
  intro H locs ls h1 h2 h3
  obtain ⟨c, g1, g2⟩ := h1.cell hX
  exact W.alen (n := nI x.1) C.1 C.2.1 g1 (g2.of (C.kk.1.2 t0 _ ht).1) (by rw [g2.size]; rfl) rfl rfl hd (kk H locs ls h1 h2 h3)
theorem xr_bald (C : xCx E y cc nL ret hs d mc ms Post) {a N j : Nat} {f : Nat → Int32} {i : Int32} (hd : decode cc pc = .ok (.baload, 1)) (n : Nat) (hn : pc + 1 = n) (hX : X a = some (.inl (E.D.1 100, N, .inl f))) (hi : i = nI j) (hj : j < N) (hN : N < 2 ^ 31) (kk : xG E X cells slots n L (.int (f j) :: st)) : xG E X cells slots pc L (.int i :: .ref a :: st) := by
  subst hn
  subst hi
  intro H locs ls h1 h2 h3
  obtain ⟨c, g1, g2⟩ := h1.cell hX
  have hclm : (nI j).toNatClampNeg = j := nI_clamp (by omega)
  exact W.bald (v := .int (f j)) C.1 C.2.1 g1 (g2.of (C.kk.1.2 0 _ rfl).1) g2.2.1 (by rw [g2.size]; exact vp_in_nI hj hN) (by rw [hclm]; exact g2.read hj) rfl rfl hd (kk H locs ls h1 h2 h3)
theorem xr_bast (C : xCx E y cc nL ret hs d mc ms Post) {a N j : Nat} {f : Nat → Int32} {i : Int32} {x : Int32} (hd : decode cc pc = .ok (.bastore, 1)) (n : Nat) (hn : pc + 1 = n) (hX : X a = some (.inl (E.D.1 100, N, .inl f))) (hi : i = nI j) (hj : j < N) (hN : N < 2 ^ 31) (kk : xG E (xup X a (.inl (E.D.1 100, N, .inl (upd f j (vp_nar .byte x))))) cells slots n L st) : xG E X cells slots pc L (.int x :: .int i :: .ref a :: st) := by
  subst hn
  subst hi
  intro H locs ls h1 h2 h3
  have hz : ¬ xz (.inl (E.D.1 100, N, .inl f) : va_E) := fun z => by
    have : N = 0 := z
    omega
  have hclm : (nI j).toNatClampNeg = j := nI_clamp (by omega)
  obtain ⟨c, b1, b2⟩ := h1.cell hX
  refine W.bast C.1 C.2.1 b1 (b2.of (C.kk.1.2 0 _ rfl).1) b2.2.1 (by rw [b2.size]; exact vp_in_nI hj hN) rfl rfl hd fun H' e1 z oq => ?_
  have hat : xat E.D (a, .inl (E.D.1 100, N, .inl (upd f j (vp_nar .byte x)))) H' := by
    refine ⟨_, e1, ?_⟩
    rw [hclm]
    refine b2.set j _ ?_
    funext q
    by_cases hq : q = j
    · subst hq
      simp [xav, updV, upd, vp_nar]
      try rfl
    · simp [xav, updV, upd, hq]
  exact kk H' _ ls (h1.put hX hz hat z oq) (h2.put z oq (h1.old hX hz)) h3
theorem xr_newb (C : xCx E y cc nL ret hs d mc ms Post) {N : Nat} {i : Int32} (hd : decode cc pc = .ok (.newarray .byte, 2)) (n : Nat) (hn : pc + 2 = n) (hw : Cond.arrayClass .byte ∈ xT) (hi : i = nI N) (hN : N < 16777216) (hc : cells + 1 ≤ mc) (hsl : slots + N ≤ ms) (kk : ∀ q : Nat, X q = none → xG E (xup X q (.inl (E.D.1 100, N, .inl (fun _ => 0)))) (cells + 1) (slots + N) n L (.ref q :: st)) : xG E X cells slots pc L (.int i :: st) := by
  subst hn
  subst hi
  intro H locs ls h1 h2 h3
  have hclm : (nI N).toNatClampNeg = N := nI_clamp (by omega)
  refine va_newaK (atype := .byte) C.1 C.2.1 (C.ts _ hw) rfl hd rfl (nI_pos (by omega)) hclm (show N * componentBytes .byte ≤ 536870912 by simp [componentBytes]; omega) (C.rc hc) (C.rs hsl) rfl fun H1 cA e1 z1 o1 hAr hNm => ?_
  have hcA : cA = E.D.1 100 := Option.some.inj (hNm.symm.trans (C.kk.1.2 0 _ rfl).2)
  subst hcA
  have hat : xat E.D (H.size, .inl (E.D.1 100, N, .inl (fun _ => 0))) H1 := ⟨_, e1, xac_new _ _ _⟩
  obtain ⟨hf, hR⟩ := h1.new hat z1 o1
  exact kk H.size hf H1 locs ls hR (xS_more h2 (by omega) o1) h3
theorem xr_iald (C : xCx E y cc nL ret hs d mc ms Post) {a N j : Nat} {f : Nat → Int32} {i : Int32} (hd : decode cc pc = .ok (.iaload, 1)) (n : Nat) (hn : pc + 1 = n) (hX : X a = some (.inl (E.D.1 103, N, .inl f))) (hi : i = nI j) (hj : j < N) (hN : N < 2 ^ 31) (kk : xG E X cells slots n L (.int (f j) :: st)) : xG E X cells slots pc L (.int i :: .ref a :: st) := by
  subst hn
  subst hi
  intro H locs ls h1 h2 h3
  obtain ⟨c, g1, g2⟩ := h1.cell hX
  have hclm : (nI j).toNatClampNeg = j := nI_clamp (by omega)
  exact W.iald (v := .int (f j)) C.1 C.2.1 g1 (g2.of (C.kk.1.2 3 _ rfl).1) g2.2.1 (by rw [g2.size]; exact vp_in_nI hj hN) (by rw [hclm]; exact g2.read hj) rfl rfl hd (kk H locs ls h1 h2 h3)
theorem xr_iast (C : xCx E y cc nL ret hs d mc ms Post) {a N j : Nat} {f : Nat → Int32} {i : Int32} {x : Int32} (hd : decode cc pc = .ok (.iastore, 1)) (n : Nat) (hn : pc + 1 = n) (hX : X a = some (.inl (E.D.1 103, N, .inl f))) (hi : i = nI j) (hj : j < N) (hN : N < 2 ^ 31) (kk : xG E (xup X a (.inl (E.D.1 103, N, .inl (upd f j x)))) cells slots n L st) : xG E X cells slots pc L (.int x :: .int i :: .ref a :: st) := by
  subst hn
  subst hi
  intro H locs ls h1 h2 h3
  have hz : ¬ xz (.inl (E.D.1 103, N, .inl f) : va_E) := fun z => by
    have : N = 0 := z
    omega
  have hclm : (nI j).toNatClampNeg = j := nI_clamp (by omega)
  obtain ⟨c, b1, b2⟩ := h1.cell hX
  refine W.iast C.1 C.2.1 b1 (b2.of (C.kk.1.2 3 _ rfl).1) b2.2.1 (by rw [b2.size]; exact vp_in_nI hj hN) rfl rfl hd fun H' e1 z oq => ?_
  have hat : xat E.D (a, .inl (E.D.1 103, N, .inl (upd f j x))) H' := by
    refine ⟨_, e1, ?_⟩
    rw [hclm]
    refine b2.set j _ ?_
    funext q
    by_cases hq : q = j
    · subst hq
      simp [xav, updV, upd, vp_nar]
      try rfl
    · simp [xav, updV, upd, hq]
  exact kk H' _ ls (h1.put hX hz hat z oq) (h2.put z oq (h1.old hX hz)) h3
theorem xr_newi (C : xCx E y cc nL ret hs d mc ms Post) {N : Nat} {i : Int32} (hd : decode cc pc = .ok (.newarray .int, 2)) (n : Nat) (hn : pc + 2 = n) (hw : Cond.arrayClass .int ∈ xT) (hi : i = nI N) (hN : N < 16777216) (hc : cells + 1 ≤ mc) (hsl : slots + N ≤ ms) (kk : ∀ q : Nat, X q = none → xG E (xup X q (.inl (E.D.1 103, N, .inl (fun _ => 0)))) (cells + 1) (slots + N) n L (.ref q :: st)) : xG E X cells slots pc L (.int i :: st) := by
  subst hn
  subst hi
  intro H locs ls h1 h2 h3
  have hclm : (nI N).toNatClampNeg = N := nI_clamp (by omega)
  refine va_newaK (atype := .int) C.1 C.2.1 (C.ts _ hw) rfl hd rfl (nI_pos (by omega)) hclm (show N * componentBytes .int ≤ 536870912 by simp [componentBytes]; omega) (C.rc hc) (C.rs hsl) rfl fun H1 cA e1 z1 o1 hAr hNm => ?_
  have hcA : cA = E.D.1 103 := Option.some.inj (hNm.symm.trans (C.kk.1.2 3 _ rfl).2)
  subst hcA
  have hat : xat E.D (H.size, .inl (E.D.1 103, N, .inl (fun _ => 0))) H1 := ⟨_, e1, xac_new _ _ _⟩
  obtain ⟨hf, hR⟩ := h1.new hat z1 o1
  exact kk H.size hf H1 locs ls hR (xS_more h2 (by omega) o1) h3
theorem xr_lald (C : xCx E y cc nL ret hs d mc ms Post) {a N j : Nat} {f : Nat → Int64} {i : Int32} (hd : decode cc pc = .ok (.laload, 1)) (n : Nat) (hn : pc + 1 = n) (hX : X a = some (.inl (E.D.1 102, N, .inr (.inl f)))) (hi : i = nI j) (hj : j < N) (hN : N < 2 ^ 31) (kk : xG E X cells slots n L (.long (f j) :: st)) : xG E X cells slots pc L (.int i :: .ref a :: st) := by
  subst hn
  subst hi
  intro H locs ls h1 h2 h3
  obtain ⟨c, g1, g2⟩ := h1.cell hX
  have hclm : (nI j).toNatClampNeg = j := nI_clamp (by omega)
  exact W.lald (v := .long (f j)) C.1 C.2.1 g1 (g2.of (C.kk.1.2 2 _ rfl).1) g2.2.1 (by rw [g2.size]; exact vp_in_nI hj hN) (by rw [hclm]; exact g2.read hj) rfl rfl hd (kk H locs ls h1 h2 h3)
theorem xr_last (C : xCx E y cc nL ret hs d mc ms Post) {a N j : Nat} {f : Nat → Int64} {i : Int32} {x : Int64} (hd : decode cc pc = .ok (.lastore, 1)) (n : Nat) (hn : pc + 1 = n) (hX : X a = some (.inl (E.D.1 102, N, .inr (.inl f)))) (hi : i = nI j) (hj : j < N) (hN : N < 2 ^ 31) (kk : xG E (xup X a (.inl (E.D.1 102, N, .inr (.inl (vp_updL f j x))))) cells slots n L st) : xG E X cells slots pc L (.long x :: .int i :: .ref a :: st) := by
  subst hn
  subst hi
  intro H locs ls h1 h2 h3
  have hz : ¬ xz (.inl (E.D.1 102, N, .inr (.inl f)) : va_E) := fun z => by
    have : N = 0 := z
    omega
  have hclm : (nI j).toNatClampNeg = j := nI_clamp (by omega)
  obtain ⟨c, b1, b2⟩ := h1.cell hX
  refine W.last C.1 C.2.1 b1 (b2.of (C.kk.1.2 2 _ rfl).1) b2.2.1 (by rw [b2.size]; exact vp_in_nI hj hN) rfl rfl hd fun H' e1 z oq => ?_
  have hat : xat E.D (a, .inl (E.D.1 102, N, .inr (.inl (vp_updL f j x)))) H' := by
    refine ⟨_, e1, ?_⟩
    rw [hclm]
    refine b2.set j _ ?_
    funext q
    by_cases hq : q = j
    · subst hq
      simp [xav, updV, vp_updL, vp_nar]
      try rfl
    · simp [xav, updV, vp_updL, hq]
  exact kk H' _ ls (h1.put hX hz hat z oq) (h2.put z oq (h1.old hX hz)) h3
theorem xr_newl (C : xCx E y cc nL ret hs d mc ms Post) {N : Nat} {i : Int32} (hd : decode cc pc = .ok (.newarray .long, 2)) (n : Nat) (hn : pc + 2 = n) (hw : Cond.arrayClass .long ∈ xT) (hi : i = nI N) (hN : N < 16777216) (hc : cells + 1 ≤ mc) (hsl : slots + N ≤ ms) (kk : ∀ q : Nat, X q = none → xG E (xup X q (.inl (E.D.1 102, N, .inr (.inl (fun _ => 0))))) (cells + 1) (slots + N) n L (.ref q :: st)) : xG E X cells slots pc L (.int i :: st) := by
  subst hn
  subst hi
  intro H locs ls h1 h2 h3
  have hclm : (nI N).toNatClampNeg = N := nI_clamp (by omega)
  refine va_newaK (atype := .long) C.1 C.2.1 (C.ts _ hw) rfl hd rfl (nI_pos (by omega)) hclm (show N * componentBytes .long ≤ 536870912 by simp [componentBytes]; omega) (C.rc hc) (C.rs hsl) rfl fun H1 cA e1 z1 o1 hAr hNm => ?_
  have hcA : cA = E.D.1 102 := Option.some.inj (hNm.symm.trans (C.kk.1.2 2 _ rfl).2)
  subst hcA
  have hat : xat E.D (H.size, .inl (E.D.1 102, N, .inr (.inl (fun _ => 0)))) H1 := ⟨_, e1, xac_new _ _ _⟩
  obtain ⟨hf, hR⟩ := h1.new hat z1 o1
  exact kk H.size hf H1 locs ls hR (xS_more h2 (by omega) o1) h3
theorem xr_aald (C : xCx E y cc nL ret hs d mc ms Post) {a N j q : Nat} {f : Nat → Option Nat} {i : Int32} (hd : decode cc pc = .ok (.aaload, 1)) (n : Nat) (hn : pc + 1 = n) (hX : X a = some (.inl (E.D.1 101, N, .inr (.inr (.inr (.inr f)))))) (hi : i = nI j) (hj : j < N) (hN : N < 2 ^ 31) (hf : f j = some q) (kk : xG E X cells slots n L (.ref q :: st)) : xG E X cells slots pc L (.int i :: .ref a :: st) := by
  subst hn
  subst hi
  intro H locs ls h1 h2 h3
  obtain ⟨c, g1, g2⟩ := h1.cell hX
  have hclm : (nI j).toNatClampNeg = j := nI_clamp (by omega)
  exact W.aald (v := .ref q) (ty := .object "java/lang/Object") C.1 C.2.1 g1 (g2.of (C.kk.1.2 1 _ rfl).1) rfl g2.2.1 (by rw [g2.size]; exact vp_in_nI hj hN) (by rw [hclm, g2.read hj]; show some (va_rf (f j)) = _; rw [hf]; rfl) rfl rfl hd (kk H locs ls h1 h2 h3)
theorem xr_aast (C : xCx E y cc nL ret hs d mc ms Post) {a N j v ci : Nat} {vs : List Value} {r : vw_C} {f : Nat → Option Nat} {i : Int32} (hd : decode cc pc = .ok (.aastore, 1)) (n : Nat) (hn : pc + 1 = n) (hX : X a = some (.inl (E.D.1 101, N, .inr (.inr (.inr (.inr f)))))) (hi : i = nI j) (hj : j < N) (hN : N < 2 ^ 31) (hv : X v = some (.inr (ci, vs))) (hc : xcl[ci]? = some r) (hca : Cond.castable r.1 "java/lang/Object" ∈ xT) (kk : xG E (xup X a (.inl (E.D.1 101, N, .inr (.inr (.inr (.inr (va_up f j (some v)))))))) cells slots n L st) : xG E X cells slots pc L (.ref v :: .int i :: .ref a :: st) := by
  subst hn
  subst hi
  intro H locs ls h1 h2 h3
  have hK := C.kk.1
  have hz : ¬ xz (.inl (E.D.1 101, N, .inr (.inr (.inr (.inr f)))) : va_E) := fun z => by
    have : N = 0 := z
    omega
  have hclm : (nI j).toNatClampNeg = j := nI_clamp (by omega)
  obtain ⟨c, b1, b2⟩ := h1.cell hX
  obtain ⟨r', hr', cellV, g1, g2, g3, -⟩ := (h1.2.2 v _ hv).1
  have hcls := (hK.1 ci r hc).2
  obtain ⟨kA, comp, k1, k2, k3, -⟩ := (hK.2 1 _ rfl).2
  obtain ⟨kE, hkE, -⟩ := Vm.findClass_spec k3
  obtain ⟨c0, t1, f1, f2, f3⟩ := Cond.castable_spec (C.ts _ hca)
  cases hcls.1.symm.trans f1
  cases k3.symm.trans f2
  obtain ⟨kC, hkC, -⟩ := hcls.2
  refine W.aast C.1 C.2.1 b1 b2.2.2.1 b2.2.1 (by rw [b2.1]; exact k1) k2 rfl hkE ⟨nI_pos (by omega), by rw [b2.size, hclm]; exact hj⟩ g1 (fun q h => by rw [g3] at h; cases h) (by rw [g2]; exact hkC) (by rw [g2]; exact f3) rfl rfl hd fun H' e1 z oq => ?_
  have hat : xat E.D (a, .inl (E.D.1 101, N, .inr (.inr (.inr (.inr (va_up f j (some v))))))) H' := by
    refine ⟨_, e1, ?_⟩
    rw [hclm]
    refine b2.set j (.ref v) ?_
    funext q
    by_cases hq : q = j
    · subst hq
      simp [xav, updV, va_up, va_rf]
    · simp [xav, updV, va_up, hq]
  exact kk H' _ ls (h1.put hX hz hat z oq) (h2.put z oq (h1.old hX hz)) h3
theorem xr_aastN (C : xCx E y cc nL ret hs d mc ms Post) {a N j : Nat} {f : Nat → Option Nat} {i : Int32} (hd : decode cc pc = .ok (.aastore, 1)) (n : Nat) (hn : pc + 1 = n) (hX : X a = some (.inl (E.D.1 101, N, .inr (.inr (.inr (.inr f)))))) (hi : i = nI j) (hj : j < N) (hN : N < 2 ^ 31) (kk : xG E (xup X a (.inl (E.D.1 101, N, .inr (.inr (.inr (.inr (va_up f j none))))))) cells slots n L st) : xG E X cells slots pc L (.null :: .int i :: .ref a :: st) := by
  subst hn
  subst hi
  intro H locs ls h1 h2 h3
  have hz : ¬ xz (.inl (E.D.1 101, N, .inr (.inr (.inr (.inr f)))) : va_E) := fun z => by
    have : N = 0 := z
    omega
  have hclm : (nI j).toNatClampNeg = j := nI_clamp (by omega)
  obtain ⟨c, b1, b2⟩ := h1.cell hX
  refine va_WaastN (C := "java/lang/Object") C.1 C.2.1 b1 (b2.of (C.kk.1.2 1 _ rfl).1) b2.2.1 (by rw [b2.size]; exact vp_in_nI hj hN) rfl rfl hd fun H' e1 z oq => ?_
  have hat : xat E.D (a, .inl (E.D.1 101, N, .inr (.inr (.inr (.inr (va_up f j none)))))) H' := by
    refine ⟨_, e1, ?_⟩
    rw [hclm]
    refine b2.set j .null ?_
    funext q
    by_cases hq : q = j
    · subst hq
      simp [xav, updV, va_up, va_rf]
    · simp [xav, updV, va_up, hq]
  exact kk H' _ ls (h1.put hX hz hat z oq) (h2.put z oq (h1.old hX hz)) h3
theorem xr_newq (C : xCx E y cc nL ret hs d mc ms Post) {idx N : Nat} {i : Int32} (hd : decode cc pc = .ok (.anewarray idx, 3)) (n : Nat) (hn : pc + 3 = n) (hl : Cond.classLink y.cls idx "java/lang/Object" ∈ xT) (hi : i = nI N) (hN : N < 134217728) (hc : cells + 1 ≤ mc) (hsl : slots + N ≤ ms) (kk : ∀ q : Nat, X q = none → xG E (xup X q (.inl (E.D.1 101, N, .inr (.inr (.inr (.inr (fun _ => none))))))) (cells + 1) (slots + N) n L (.ref q :: st)) : xG E X cells slots pc L (.int i :: st) := by
  subst hn
  subst hi
  intro H locs ls h1 h2 h3
  have hclm : (nI N).toNatClampNeg = N := nI_clamp (by omega)
  refine W.anew C.1 C.2.1 C.ow (C.ts _ hl) (va_AO.use C.kk.2.1) rfl hd rfl (nI_pos (by omega)) (by rw [hclm]; omega) (C.rc hc) (by rw [hclm]; exact C.rs hsl) fun cA kA comp f1 f2 f3 f4 => ?_
  obtain ⟨kA', comp', k1, k2, k3, k4⟩ := (C.kk.1.2 1 _ rfl).2
  have hcA : cA = E.D.1 101 := Option.some.inj (f1.symm.trans k4)
  subst hcA
  rw [hclm]
  generalize hH1 : H.push ({ cls := E.D.1 101, slots := Array.replicate N .null, vm := .none } : Cell) = H1
  have z1 : H1.size = H.size + 1 := by rw [← hH1, Array.size_push]
  have e1 : H1[H.size]? = some (arrV (E.D.1 101) N (fun _ => .null)) := by rw [← hH1, Array.getElem?_push_size, ← arrV_new]
  have o1 : ∀ q : Nat, q < H.size → H1[q]? = H[q]? := fun q hq => by rw [← hH1, Array.getElem?_push, if_neg (Nat.ne_of_lt hq)]
  have hat : xat E.D (H.size, .inl (E.D.1 101, N, .inr (.inr (.inr (.inr (fun _ => none)))))) H1 := ⟨_, e1, xac_new _ _ _⟩
  obtain ⟨hf, hR⟩ := h1.new hat z1 o1
  exact kk H.size hf H1 locs ls hR (xS_more h2 (by omega) o1) h3
theorem xr_new (C : xCx E y cc nL ret hs d mc ms Post) {ci N idx : Nat} {fs : List Value} {Cn : String} {T : u_T} {ty : Nat → FieldType} (K : xCl ci Cn T N ty) (hd : decode cc pc = .ok (.new idx, 3)) (n : Nat) (hn : pc + 3 = n) (hl : Cond.classLink y.cls idx Cn ∈ xT) (hin : Cond.instantiable Cn N ∈ xT) (hit : Cond.initialized Cn ∈ xT) (hfs : ∀ j, j < N → defaultValue (ty j) = vp_V fs j) (hc : cells + 1 ≤ mc) (hsl : slots + N ≤ ms) (kk : ∀ q : Nat, X q = none → xG E (xup X q (.inr (ci, fs))) (cells + 1) (slots + N) n L (.ref q :: st)) : xG E X cells slots pc L st := by
  subst hn
  intro H locs ls h1 h2 h3
  have hKn := C.kk.1.1 ci _ K.1
  refine W.newcK C.1 C.2.1 C.ow (C.ts _ hl) (C.ts _ hin) (C.ts _ hit) rfl hd (C.rc hc) (C.rs hsl) hKn.2.1 rfl fun H1 kC hkC e1 z1 o1 => ?_
  have hat : xat E.D (H.size, .inr (ci, fs)) H1 := ⟨_, K.1, (u_born ty C.ts K.2.1 hKn hkC e1 K.2.2.1).to hfs⟩
  obtain ⟨hf, hR⟩ := h1.new hat z1 o1
  exact kk H.size hf H1 locs ls hR (xS_more h2 (by omega) o1) h3
theorem xr_cast (C : xCx E y cc nL ret hs d mc ms Post) {ci idx a : Nat} {fs : List Value} {r : vw_C} (hd : decode cc pc = .ok (.checkcast idx, 3)) (n : Nat) (hn : pc + 3 = n) (hX : X a = some (.inr (ci, fs))) (hc : xcl[ci]? = some r) (hl : Cond.classLink y.cls idx r.1 ∈ xT) (kk : xG E X cells slots n L (.ref a :: st)) : xG E X cells slots pc L (.ref a :: st) := by
  subst hn
  intro H locs ls h1 h2 h3
  exact va_castE C.1 C.2.1 C.ow (C.ts _ hl) (va_recv (q0 := 0) C.kk.1 (xP1 (h1.2.2 a _ hX).1) hc rfl) hd (kk H locs ls h1 h2 h3)
theorem xr_objInit (C : xCx E y cc nL ret hs d mc ms Post) {idx a : Nat} (hd : decode cc pc = .ok (.invokespecial idx, 3)) (n : Nat) (hn : pc + 3 = n) (hl : Cond.methodLink y.cls idx objectInit ∈ xT) (hi : Cond.instanceMethod objectInit ∈ xT) (hco : Cond.code objectInit ⟨#[0xb1]⟩ 1 none ∈ xT) (hst : (st.map fun v => v.category).sum ≤ 8) (kk : xG E X cells slots n L st) : xG E X cells slots pc L (.ref a :: st) := by
  subst hn
  intro H locs ls h1 h2 h3
  exact W.objInit C.1 C.2.1 C.ow (C.ts _ hl) (C.ts _ hi) (C.ts _ hco) rfl (by rw [C.2.2.1]; exact h3.1) rfl hd (by rw [C.rm]; show 1 ≤ d + 8; omega) (by rw [C.rm]; show 2 * 0 + _ + 12 ≤ 40 * (d + 8); omega) (kk H locs ls h1 h2 h3)
/-! returns -/
theorem xW_mono {p : Program} {l : Launch} {e : Env} {R : Room} {s : State} {m : MethodId} {args : Array Value} {below : List Frame} {meth : Method} {c : Code} {H : Heap} {locs : List Loc} {cells slots : Nat} {Q Q' : State → Prop} {g : JFrame} (h : ∀ t, Q t → Q' t) (k : W p l e R s m args below meth c H locs cells slots Q g) : W p l e R s m args below meth c H locs cells slots Q' g := fun T hT X => by
  obtain ⟨t, a, b⟩ := k T hT X
  exact ⟨t, a, h t b⟩
theorem xMQ_of {D : va_G} {H0 : Heap} {below : List Frame} {s : State} {args : Array Value} {mc ms : Nat} {Post : xO → xH → Prop} {v : Option Value} {X : xH} (hp : Post (.inl v) X) (t : State) (h : MQ below (fun _ _ o t => o = .returned v ∧ xRep D H0 X t.heap) args s mc ms (fun q => H0.size ≤ q) t) : xMQ D H0 below s mc ms Post t := by
  obtain ⟨o, h1, h2, ⟨rfl, h4⟩, L, h5, h6⟩ := h
  exact ⟨_, .inl v, X, L, h1, h2, rfl, h4, hp, h5.2.1, h5.2.2, h6⟩
theorem xr_iret (C : xCx E y cc nL (some .int) hs d mc ms Post) {v : Int32} (hd : decode cc pc = .ok (.ireturn, 1)) (hc : cells ≤ mc) (hsl : slots ≤ ms) (hp : Post (.inl (some (.int v))) X) : xG E X cells slots pc L [.int v] := by
  intro H locs ls h1 h2 h3
  rw [C.qq]
  exact W.widen hc hsl (xW_mono (xMQ_of hp) (W.iret C.1 C.2.1 C.rt (fun t ht _ => ⟨rfl, by rw [ht]; exact h1⟩) h2.2.2 hd C.lk))
theorem xr_zret (C : xCx E y cc nL (some .boolean) hs d mc ms Post) {v : Int32} (hd : decode cc pc = .ok (.ireturn, 1)) (hz : narrow .boolean (.int v) = .int v) (hc : cells ≤ mc) (hsl : slots ≤ ms) (hp : Post (.inl (some (.int v))) X) : xG E X cells slots pc L [.int v] := by
  intro H locs ls h1 h2 h3
  rw [C.qq]
  exact W.widen hc hsl (xW_mono (xMQ_of hp) (W.zret C.1 C.2.1 C.rt hz (fun t ht _ => ⟨rfl, by rw [ht]; exact h1⟩) h2.2.2 hd C.lk))
theorem xr_vret (C : xCx E y cc nL none hs d mc ms Post) (hd : decode cc pc = .ok (.return_, 1)) (hc : cells ≤ mc) (hsl : slots ≤ ms) (hp : Post (.inl none) X) : xG E X cells slots pc L [] := by
  intro H locs ls h1 h2 h3
  rw [C.qq]
  exact W.widen hc hsl (xW_mono (xMQ_of hp) (W.vret C.1 C.2.1 C.rt (fun t ht _ => ⟨rfl, by rw [ht]; exact h1⟩) h2.2.2 hd C.lk))
theorem xr_aret {rt : FieldType} (C : xCx E y cc nL (some rt) hs d mc ms Post) {a : Nat} (hd : decode cc pc = .ok (.areturn, 1)) (hrt : (∃ n, rt = .object n) ∨ ∃ t, rt = .array t) (hc : cells ≤ mc) (hsl : slots ≤ ms) (hp : Post (.inl (some (.ref a))) X) : xG E X cells slots pc L [.ref a] := by
  intro H locs ls h1 h2 h3
  rw [C.qq]
  exact W.widen hc hsl (xW_mono (xMQ_of hp) (W.aret C.1 C.2.1 C.rt hrt (Or.inr ⟨a, rfl⟩) (fun t ht _ => ⟨rfl, by rw [ht]; exact h1⟩) h2.2.2 hd C.lk))
end XRH
end
section
/-! Contracts and calls. -/
def xCode (y : MethodName) (cc : ByteArray) (nL : Nat) (ret : Option FieldType) (hs : List (Nat × Nat × Nat × Nat)) : Prop := (hs = [] ∧ Cond.code y cc nL ret ∈ xT) ∨ Cond.codeWith y cc nL ret hs ∈ xT
theorem xCode.get {args : Array Value} {s : State} {y : MethodName} {cc : ByteArray} {nL : Nat} {ret : Option FieldType} {hs : List (Nat × Nat × Nat × Nat)} (hts : ∀ w ∈ xT, w.before args s = true) (h : xCode y cc nL ret hs) : ∃ mk meth c, s.methodNamed? y = some mk ∧ s.vm.method? mk = some meth ∧ meth.code = some c ∧ c.code = cc ∧ c.maxLocals = nL ∧ c.exceptionTable.toList.map (fun h => (h.startPc, h.endPc, h.handlerPc, h.catchType)) = hs ∧ meth.sig.returnType = ret ∧ meth.locks = false ∧ parseMethodDescriptor y.desc = some meth.sig := by
  rcases h with ⟨rfl, h⟩ | h
  · have hc := hts _ h
    obtain ⟨mk, hn⟩ := Cond.code_named hc
    obtain ⟨meth, c, h1, h2, h3, h4, h5, h6, h7, h8⟩ := Cond.code_spec hn hc
    refine ⟨mk, meth, c, hn, h1, h2, h3, h4, ?_, h5, h6, h8⟩
    have h9 : c.exceptionTable = #[] := by simpa using h7
    rw [h9]
    rfl
  · obtain ⟨mk, meth, c, hn, h1, h2, h3, h4, h5, h6, h7, h8⟩ := Cond.codeWith_spec (hts _ h)
    exact ⟨mk, meth, c, hn, h1, h2, h3, h4, h5, h6, h7, h8⟩
/-- a method's contract: from any heap that holds X, with these arguments: it ends as Post says; at most mc cells of ms slots are new -/
def xMet (l : Launch) (D : va_G) (H0 : Heap) (y : MethodName) (cc : ByteArray) (nL : Nat) (ret : Option FieldType) (hs : List (Nat × Nat × Nat × Nat)) (d mc ms : Nat) (av : List Value) (X : xH) (Post : xO → xH → Prop) : Prop :=
  ∃ L : List (Option Value), xas L = lv_args 0 av ∧ (lg_sl av).length ≤ nL ∧ ∀ E : xE, E.D = D → E.H0 = H0 → E.l = l → E.args = av.toArray → xCx E y cc nL ret hs d mc ms Post → xG E X 0 0 0 L []
theorem xSteps {tb : Tables} {e : Env} {mid below : List Frame} {a b : State} (h : Steps tb e (mid ++ below) a b) : Steps tb e below a b := by
  obtain ⟨n, hn, w⟩ := h
  exact ⟨n, hn, fun k hk => (w k hk).weaken⟩
theorem xMet.mono {l : Launch} {D : va_G} {H0 : Heap} {y : MethodName} {cc : ByteArray} {nL : Nat} {ret : Option FieldType} {hs : List (Nat × Nat × Nat × Nat)} {d mc ms : Nat} {av : List Value} {X : xH} {Post Post' : xO → xH → Prop} (h : xMet l D H0 y cc nL ret hs d mc ms av X Post) (hp : ∀ r X', Post r X' → Post' r X') : xMet l D H0 y cc nL ret hs d mc ms av X Post' := by
  obtain ⟨L, h1, h2, h3⟩ := h
  refine ⟨L, h1, h2, fun E e1 e2 e3 e5 C => ?_⟩
  obtain ⟨D', H0', p, l', e, R, s, m, args, below, meth, c, Q, n⟩ := E
  obtain ⟨c1, c2, c3, c4, c5, c6, c7, c8, c9, c10, c11, c12, c13, c14, c15⟩ := C
  have c10 : Q = xMQ D' H0' below s mc ms Post' := c10
  subst c10
  have hg := h3 (D', H0', p, l', e, R, s, m, args, below, meth, c, xMQ D' H0' below s mc ms Post, n) e1 e2 e3 e5 ⟨c1, c2, c3, c4, c5, c6, c7, c8, c9, rfl, c11, c12, c13, c14, c15⟩
  intro H locs ls g1 g2 g3
  refine xW_mono (fun t ht => ?_) (hg H locs ls g1 g2 g3)
  obtain ⟨o, r, X', Lc, t1, t2, t3, t4, t5, t6⟩ := ht
  exact ⟨o, r, X', Lc, t1, t2, t3, t4, hp _ _ t5, t6⟩
section XCL
variable {E : xE} {y : MethodName} {cc : ByteArray} {nL : Nat} {ret : Option FieldType} {hs : List (Nat × Nat × Nat × Nat)} {d mc ms : Nat} {Post : xO → xH → Prop} {X : xH} {cells slots pc : Nat} {L : List (Option Value)} {st : List Value}
variable {b : Nat} {y' : MethodName} {cc' : ByteArray} {nL' : Nat} {ret' : Option FieldType} {hs' : List (Nat × Nat × Nat × Nat)} {d' mc' ms' : Nat} {av : List Value} {Post' : xO → xH → Prop}
/-- where a call has thrown: an object a of the class Cn is on its way, at the call's pc -/
def xTh (E : xE) (X : xH) (cells slots pc : Nat) (L : List (Option Value)) (Cn : String) : Prop := ∀ (T : State) (locs : List Loc) (ls : Array Slot) (rest : List Value) (a : Nat) (cell : Cell), xRep E.D E.H0 X T.heap → va_S (fun q => E.H0.size ≤ q) E.s.heap T.heap locs → xLoc ls E.nL L → T.heap[a]? = some cell → cell.vm = .none → E.s.vm.findClass Cn = some cell.cls → Stand E.p E.l E.e E.R E.s E.m E.args E.below E.meth E.c T locs cells slots → ∃ t, Steps E.p.tables E.e E.below ((T.setTop (F0 E.m pc ls rest)).pushFrame (.throwing a)) t ∧ E.Q t
theorem xTh_out (C : xCx E y cc nL ret [] d mc ms Post) {Cn : String} (hc : cells ≤ mc) (hsl : slots ≤ ms) (hp : Post (.inr Cn) X) : xTh E X cells slots pc L Cn := by
  intro T locs ls rest a cell h1 h2 h3 c1 c2 c3 S
  have htab : ∀ x ∈ E.c.exceptionTable.toList, covers x pc = false := by
    have h := C.tb
    have h' : E.c.exceptionTable.toList = [] := by simpa using h
    intro x hx
    rw [h'] at hx
    cases hx
  have hlk := C.lk
  obtain ⟨hst, hrun, hend, hW, hsame⟩ := (stand_widen S hc hsl).leaveThrown a (g := F0 E.m pc ls rest) rfl rfl rfl htab hlk
  rw [C.qq]
  exact ⟨_, hst, .threw a, .inr Cn, X, locs, hrun, hend, ⟨a, cell, rfl, c1, c2, (S.warmed.alike.findClass Cn _).trans c3⟩, h1, hp, hW, hsame, h2.2.2⟩
theorem xS_call {D : va_G} {H0 : Heap} {s : State} {X X' : xH} {H H' : Heap} {locs Lc : List Loc} (h : va_S (fun q => H0.size ≤ q) s.heap H locs) (h1 : xRep D H0 X H) (h2 : xRep D H0 X' H') (z : H.size ≤ H'.size) (hL : ∀ q ∈ Lc, H0.size ≤ q.base) : va_S (fun q => H0.size ≤ q) s.heap H' (locs ++ Lc) := by
  refine ⟨Nat.le_trans h.1 z, fun q g1 g2 => ?_, fun q hq => ?_⟩
  · have g3 : q < H0.size := Nat.not_le.mp g2
    rw [h2.2.1 q g3, ← h1.2.1 q g3]
    exact h.2.1 q g1 g2
  · rcases List.mem_append.mp hq with g | g
    · exact h.2.2 q g
    · exact hL q g
set_option maxHeartbeats 1000000 in
theorem xEnter (C : xCx E y cc nL ret hs d mc ms Post) {T : State} {locs : List Loc} (S : Stand E.p E.l E.e E.R E.s E.m E.args E.below E.meth E.c T locs cells slots) (hM : xMet E.l E.D E.H0 y' cc' nL' ret' hs' d' mc' ms' av X Post') (hco : xCode y' cc' nL' ret' hs') (hpl : plainFor y' = true) (hX : xRep E.D E.H0 X T.heap) (hS : va_S (fun q => E.H0.size ≤ q) E.s.heap T.heap locs) {g : JFrame} (hg : g.method = E.m) (hsz : g.locals.size = E.c.maxLocals) {ig : Instr} {len : Nat} (hdg : decode E.c.code g.pc = .ok (ig, len)) {mk : MethodId} (hmk : E.s.methodNamed? y' = some mk) (hdd : d' + 1 ≤ d) (h40 : nL' ≤ 21) (hrc : cells + mc' ≤ mc) (hrs : slots + ms' ≤ ms) (hst : 2 * g.monitorRoom + (g.stack.map fun v => v.category).sum ≤ 8) :
    ∃ (T' : State) (Lc : List Loc) (r : xO) (X' : xH), Stand E.p E.l E.e E.R E.s E.m E.args E.below E.meth E.c T' (locs ++ Lc) (cells + mc') (slots + ms') ∧ xRep E.D E.H0 X' T'.heap ∧ va_S (fun q => E.H0.size ≤ q) E.s.heap T'.heap (locs ++ Lc) ∧ Post' r X' ∧
      match r with
      | .inl v => ∀ acts, Steps E.p.tables E.e E.below (doInvoke E.e (T.setTop g) acts mk av.toArray).1 (T'.setTop { g with pc := g.pc + len, stack := v.toList ++ g.stack })
      | .inr Cn => ∃ (a : Nat) (cell : Cell), T'.heap[a]? = some cell ∧ cell.vm = .none ∧ E.s.vm.findClass Cn = some cell.cls ∧ ∀ acts, Steps E.p.tables E.e E.below (doInvoke E.e (T.setTop g) acts mk av.toArray).1 ((T'.setTop g).pushFrame (.throwing a)) := by
  obtain ⟨mk2, methk, ck, hn2, hmeth, hcode, hcc, hnl, htab, hret, hlk, hsig⟩ := xCode.get C.ts hco
  cases hn2.symm.trans hmk
  have hal := S.warmed.alike
  have hmT : T.vm.method? mk = some methk := by rw [hal.method?]; exact hmeth
  have hnT : T.methodNamed? y' = some mk := S.named hmk
  have hpk : T.plainMethod mk := State.plainMethod.of_named hpl hnT hmT
  obtain ⟨S', hdo⟩ := S.into (R' := xR d' mc' ms') hg hsz hdg av.toArray hmT hcode hlk hpk (by rw [C.rm]; show d' + 8 + 1 ≤ d + 8; omega) (by rw [C.rm, hnl]; show _ + (nL' + 11) + 40 * (d' + 8) ≤ 40 * (d + 8); omega) (by rw [C.rm]; exact hrc) (by rw [C.rm]; exact hrs)
  obtain ⟨L, hL, hlen, hE⟩ := hM
  have hxg := hE (E.D, E.H0, E.p, E.l, E.e, xR d' mc' ms', T.calling g mk av.toArray, mk, av.toArray, .java g :: E.below, methk, ck, xMQ E.D E.H0 (.java g :: E.below) (T.calling g mk av.toArray) mc' ms' Post', nL') rfl rfl rfl rfl
    ⟨C.1, hcc, hnl, findClass_of_methodNamed hnT, fun w hw => xword w hw (s := E.s) (U := T.calling g mk av.toArray) S.warmed (C.ts w hw), xK.moved (u := E.s) (U := T.calling g mk av.toArray) S.warmed C.kk, hret, hlk, rfl, rfl, hX.1, C.tr, htab, (name_of_methodNamed hnT hmT).1, rfl⟩
  have hW := hxg T.heap [] ((lg_sl av ++ List.replicate (nL' - (lg_sl av).length) Slot.unset).toArray) hX va_S.rf (xLoc.of (by rw [hL]; exact lv_entry av hlen))
  obtain ⟨t, hsteps, o, r, X', Lc, h1, h2, h3, h4, h5, h6, h7, h8⟩ := hW ((T.setTop g).pushFrame (.java (entryFrame mk av.toArray ck.maxLocals))) rfl S'
  have hdo' : ∀ acts, (doInvoke E.e (T.setTop g) acts mk av.toArray).1 = ((T.setTop g).pushFrame (.java (entryFrame mk av.toArray ck.maxLocals))).setTop (F0 mk 0 ((lg_sl av ++ List.replicate (nL' - (lg_sl av).length) Slot.unset).toArray) []) := fun acts => by
    rw [hdo acts]
    congr 1
    rw [hnl, lg_entry_eq]
  cases r with
  | inl v =>
    have ho : o = .returned v := h3
    subst ho
    obtain ⟨T', S2, w2, sb, ht⟩ := S.outOf hg hdg h2 h6 h7
    have hh : t.heap = T'.heap := by rw [ht]; rfl
    rw [hh] at h4
    refine ⟨T', Lc, .inl v, X', S2, h4, xS_call hS hX h4 sb.2.1 h8, h5, fun acts => ?_⟩
    rw [hdo' acts, ← ht]
    exact xSteps (mid := [.java g]) hsteps
  | inr Cn =>
    obtain ⟨a, cell, ho, c1, c2, c3⟩ := h3
    subst ho
    obtain ⟨T', S2, w2, sb, ht⟩ := S.outOfThrown hg h2 h6 h7
    have hh : t.heap = T'.heap := by rw [ht]; rfl
    have hv : t.vm = T'.vm := by rw [ht]; rfl
    rw [hh] at h4 c1
    rw [hv] at c3
    refine ⟨T', Lc, .inr Cn, X', S2, h4, xS_call hS hX h4 sb.2.1 h8, h5, a, cell, c1, c2, (S2.warmed.alike.findClass Cn _).symm.trans c3, fun acts => ?_⟩
    rw [hdo' acts, ← ht]
    exact xSteps (mid := [.java g]) hsteps
theorem xarity {n : Nat} {sig : MethodDescriptor} (h : (parseMethodDescriptor y'.desc).map (fun d => d.parameters.length) = some n) (hs : parseMethodDescriptor y'.desc = some sig) : n = sig.parameters.length := by
  rw [hs] at h
  exact (Option.some.inj h).symm
theorem xr_callS (C : xCx E y cc nL ret hs d mc ms Post) (hM : xMet E.l E.D E.H0 y' cc' nL' ret' hs' d' mc' ms' av X Post') (hco : xCode y' cc' nL' ret' hs') {idx : Nat} (hd : decode cc pc = .ok (.invokestatic idx, 3)) (n : Nat) (hn : pc + 3 = n) (hl : Cond.methodLink y.cls idx y' ∈ xT ∨ ∃ host, Cond.methodLinkNest y.cls idx y' host ∈ xT) (hsta : Cond.static y' ∈ xT) (hini : Cond.initialized y'.cls ∈ xT) (hch : plainFor y' = true ∧ (y'.cls ≠ "java/lang/invoke/MethodHandle" ∧ y'.cls ≠ "java/lang/invoke/VarHandle") ∧ (parseMethodDescriptor y'.desc).map (fun d => d.parameters.length) = some av.length) {rest : List Value} (he : st = av.reverse ++ rest) (hnum : d' + 1 ≤ d ∧ nL' ≤ 21 ∧ (rest.map fun v => v.category).sum ≤ 8) (hrc : cells + mc' ≤ mc) (hrs : slots + ms' ≤ ms) (kr : ∀ (v : Option Value) (X' : xH), Post' (.inl v) X' → xG E X' (cells + mc') (slots + ms') n L (v.toList ++ rest)) (kt : ∀ (Cn : String) (X' : xH), Post' (.inr Cn) X' → xTh E X' (cells + mc') (slots + ms') pc L Cn) : xG E X cells slots pc L st := by
  subst hn
  subst he
  intro H locs ls h1 h2 h3 T hT S
  subst hT
  obtain ⟨mk, methk, ck, hn2, hmeth, hcode, hcc, hnl, htab, hret, hlk, hsig⟩ := xCode.get C.ts hco
  have hstatic := Cond.static_spec hn2 hmeth (C.ts _ hsta)
  obtain ⟨kP, hkP, -⟩ := className_of_methodNamed hn2
  have hinitP : kP.init = .initialized := Cond.initialized_spec (findClass_of_methodNamed hn2) hkP (C.ts _ hini)
  have hdc : decode E.c.code pc = .ok (.invokestatic idx, 3) := by rw [C.2.1]; exact hd
  obtain ⟨vm₁, S₁, hstep⟩ : ∃ vm', Stand E.p E.l E.e E.R E.s E.m E.args E.below E.meth E.c (T.setVm vm') locs cells slots ∧ ∀ target, (∀ acts, Steps E.p.tables E.e E.below (doInvoke E.e ((T.setVm vm').setTop { (F0 E.m pc ls (av.reverse ++ rest)) with stack := rest }) acts mk av.toArray).1 target) → Steps E.p.tables E.e E.below (T.setTop (F0 E.m pc ls (av.reverse ++ rest))) target := by
    rcases hl with hl | ⟨host, hl⟩
    · exact S.invokestatic C.1 C.ow (C.ts _ hl) hn2 hmeth hstatic hkP hinitP hch.2.1 (g := F0 E.m pc ls (av.reverse ++ rest)) rfl (argsL := av) (rest := rest) (xarity hch.2.2 hsig) rfl hdc
    · exact S.invokestaticNest C.1 C.ow (C.ts _ hl) hn2 hmeth hstatic hkP hinitP hch.2.1 (g := F0 E.m pc ls (av.reverse ++ rest)) rfl (argsL := av) (rest := rest) (xarity hch.2.2 hsig) rfl hdc
  obtain ⟨T', Lc, r, X', S2, hR', hS', hp, hgo⟩ := xEnter C S₁ hM hco hch.1 h1 h2 (g := F0 E.m pc ls rest) rfl (by rw [C.2.2.1]; exact h3.1) hdc hn2 hnum.1 hnum.2.1 hrc hrs (lv_room hnum.2.2)
  cases r with
  | inl v =>
    obtain ⟨t, a1, b1⟩ := kr v X' hp T'.heap (locs ++ Lc) ls hR' hS' h3 T' rfl S2
    exact ⟨t, hstep _ (fun acts => (hgo acts).trans a1), b1⟩
  | inr Cn =>
    obtain ⟨a, cell, c1, c2, c3, hgo⟩ := hgo
    obtain ⟨t, a1, b1⟩ := kt Cn X' hp T' (locs ++ Lc) ls rest a cell hR' hS' h3 c1 c2 c3 S2
    exact ⟨t, hstep _ (fun acts => (hgo acts).trans a1), b1⟩
theorem xr_callV (C : xCx E y cc nL ret hs d mc ms Post) (hM : xMet E.l E.D E.H0 y' cc' nL' ret' hs' d' mc' ms' (.ref b :: av) X Post') (hco : xCode y' cc' nL' ret' hs') {idx ci : Nat} {fs : List Value} {r : vw_C} (hd : decode cc pc = .ok (.invokevirtual idx, 3)) (n : Nat) (hn : pc + 3 = n) (hX : X b = some (.inr (ci, fs))) (hcl : xcl[ci]? = some r) (hl : Cond.methodLink y.cls idx y' ∈ xT ∨ ∃ host, Cond.methodLinkNest y.cls idx y' host ∈ xT) (hins : Cond.instanceMethod y' ∈ xT) (hse : Cond.selects r.1 y' y' ∈ xT) (hch : plainFor y' = true ∧ (y'.cls ≠ "java/lang/invoke/MethodHandle" ∧ y'.cls ≠ "java/lang/invoke/VarHandle") ∧ (parseMethodDescriptor y'.desc).map (fun d => d.parameters.length) = some av.length) {rest : List Value} (he : st = av.reverse ++ .ref b :: rest) (hnum : d' + 1 ≤ d ∧ nL' ≤ 21 ∧ (rest.map fun v => v.category).sum ≤ 8) (hrc : cells + mc' ≤ mc) (hrs : slots + ms' ≤ ms) (kr : ∀ (v : Option Value) (X' : xH), Post' (.inl v) X' → xG E X' (cells + mc') (slots + ms') n L (v.toList ++ rest)) (kt : ∀ (Cn : String) (X' : xH), Post' (.inr Cn) X' → xTh E X' (cells + mc') (slots + ms') pc L Cn) : xG E X cells slots pc L st := by
  subst hn
  subst he
  intro H locs ls h1 h2 h3 T hT S
  subst hT
  obtain ⟨mk, methM, hnamed, hmethM, hstM, habM⟩ := Cond.instanceMethod_spec (C.ts _ hins)
  obtain ⟨mk2, methk, ck, hn2, hmeth, hcode, hcc, hnl, htab, hret, hlk, hsig⟩ := xCode.get C.ts hco
  cases hnamed.symm.trans hn2
  cases hmethM.symm.trans hmeth
  obtain ⟨cellB, hcB, hoB, hclB⟩ := va_recv (q0 := 0) C.kk.1 (xP1 (h1.2.2 b _ hX).1) hcl rfl
  obtain ⟨c2, r2, m2, q1, q2, q3, q4, kP, hkP, hkPi⟩ := Cond.selects_spec (C.ts _ hse)
  cases hclB.symm.trans q1
  cases (State.methodFound?_of_named hnamed hch.2.1).symm.trans q2
  cases hnamed.symm.trans q3
  have hselP : selectMethod E.e.platform E.s.vm cellB.cls mk = .method mk := by rw [Launch.admits_selectMethod S.admits]; exact q4
  have hdc : decode E.c.code pc = .ok (.invokevirtual idx, 3) := by rw [C.2.1]; exact hd
  obtain ⟨vm₁, S₁, hstep⟩ : ∃ vm', Stand E.p E.l E.e E.R E.s E.m E.args E.below E.meth E.c (T.setVm vm') locs cells slots ∧ ∀ target, (∀ acts, Steps E.p.tables E.e E.below (doInvoke E.e ((T.setVm vm').setTop { (F0 E.m pc ls (av.reverse ++ .ref b :: rest)) with stack := rest }) acts mk (.ref b :: av).toArray).1 target) → Steps E.p.tables E.e E.below (T.setTop (F0 E.m pc ls (av.reverse ++ .ref b :: rest))) target := by
    rcases hl with hl | ⟨host, hl⟩
    · exact S.invokevirtual C.1 C.ow (C.ts _ hl) hnamed hmethM hstM hkP hkPi hch.2.1 (a := b) (cell := cellB) hcB (fun z h => by rw [h] at hoB; cases hoB) hselP hmethM habM hkP hkPi (g := F0 E.m pc ls (av.reverse ++ .ref b :: rest)) rfl (argsL := av) (rest := rest) (xarity hch.2.2 hsig) rfl hdc
    · exact S.invokevirtualNest C.1 C.ow (C.ts _ hl) hnamed hmethM hstM hkP hkPi hch.2.1 (a := b) (cell := cellB) hcB (fun z h => by rw [h] at hoB; cases hoB) hselP hmethM habM hkP hkPi (g := F0 E.m pc ls (av.reverse ++ .ref b :: rest)) rfl (argsL := av) (rest := rest) (xarity hch.2.2 hsig) rfl hdc
  obtain ⟨T', Lc, rr, X', S2, hR', hS', hp, hgo⟩ := xEnter C S₁ hM hco hch.1 h1 h2 (g := F0 E.m pc ls rest) rfl (by rw [C.2.2.1]; exact h3.1) hdc hn2 hnum.1 hnum.2.1 hrc hrs (lv_room hnum.2.2)
  cases rr with
  | inl v =>
    obtain ⟨t, a1, b1⟩ := kr v X' hp T'.heap (locs ++ Lc) ls hR' hS' h3 T' rfl S2
    exact ⟨t, hstep _ (fun acts => (hgo acts).trans a1), b1⟩
  | inr Cn =>
    obtain ⟨a, cell, c1, c2, c3, hgo⟩ := hgo
    obtain ⟨t, a1, b1⟩ := kt Cn X' hp T' (locs ++ Lc) ls rest a cell hR' hS' h3 c1 c2 c3 S2
    exact ⟨t, hstep _ (fun acts => (hgo acts).trans a1), b1⟩
theorem xr_callI (C : xCx E y cc nL ret hs d mc ms Post) (hM : xMet E.l E.D E.H0 y' cc' nL' none [] d' mc' ms' (.ref b :: av) X Post') (hco : Cond.code y' cc' nL' none ∈ xT) {idx : Nat} (hd : decode cc pc = .ok (.invokespecial idx, 3)) (n : Nat) (hn : pc + 3 = n) (hl : Cond.methodLink y.cls idx y' ∈ xT ∨ ∃ host, Cond.methodLinkNest y.cls idx y' host ∈ xT) (hins : Cond.instanceMethod y' ∈ xT) (hini : y'.name = "<init>") (hch : plainFor y' = true ∧ (y'.cls ≠ "java/lang/invoke/MethodHandle" ∧ y'.cls ≠ "java/lang/invoke/VarHandle") ∧ (parseMethodDescriptor y'.desc).map (fun d => d.parameters.length) = some av.length) {rest : List Value} (he : st = av.reverse ++ .ref b :: rest) (hnum : d' + 1 ≤ d ∧ nL' ≤ 21 ∧ (rest.map fun v => v.category).sum ≤ 8) (hrc : cells + mc' ≤ mc) (hrs : slots + ms' ≤ ms) (kr : ∀ (v : Option Value) (X' : xH), Post' (.inl v) X' → xG E X' (cells + mc') (slots + ms') n L (v.toList ++ rest)) (kt : ∀ (Cn : String) (X' : xH), Post' (.inr Cn) X' → xTh E X' (cells + mc') (slots + ms') pc L Cn) : xG E X cells slots pc L st := by
  subst hn
  subst he
  intro H locs ls h1 h2 h3 T hT S
  subst hT
  have hdc : decode E.c.code pc = .ok (.invokespecial idx, 3) := by rw [C.2.1]; exact hd
  have hplt : E.e.platform.magicAccessors = ({} : Platform).magicAccessors := by rw [S.admits.platform]
  obtain ⟨mk, vm₁, hnamed, hW₁, hstep⟩ : ∃ mk vm₁, E.s.methodNamed? y' = some mk ∧ E.s.WarmedH vm₁ ∧ ∀ target, (∀ acts, Steps E.p.tables E.e E.below (doInvoke E.e ((T.setVm vm₁).setTop (F0 E.m pc ls rest)) acts mk (.ref b :: av).toArray).1 target) → Steps E.p.tables E.e E.below (T.setTop (F0 E.m pc ls (av.reverse ++ .ref b :: rest))) target := by
    rcases hl with hl | ⟨host, hl⟩
    · obtain ⟨mk, methM, cM, kP, vm₁, hnamed, hmethM, hcodeM, -, hlocalsM, -, hkP, -, hW₁, hstep₁⟩ := Steps.initColdArgs (e := E.e) S.here C.1 S.warmed hplt C.ow hini hch.2.1 (C.ts _ hl) (C.ts _ hins) (C.ts _ hco) (f := F0 E.m pc ls (av.reverse ++ .ref b :: rest)) rfl (a := b) (argsL := av) (rest := rest) (fun sig h => xarity hch.2.2 h) rfl hdc
      exact ⟨mk, vm₁, hnamed, hW₁, hstep₁⟩
    · obtain ⟨mk, methM, cM, kP, vm₁, hnamed, hmethM, hcodeM, -, hlocalsM, -, hkP, -, hW₁, hstep₁⟩ := Steps.initColdArgsNest (e := E.e) S.here C.1 S.warmed hplt C.ow hini hch.2.1 (C.ts _ hl) (C.ts _ hins) (C.ts _ hco) (f := F0 E.m pc ls (av.reverse ++ .ref b :: rest)) rfl (a := b) (argsL := av) (rest := rest) (fun sig h => xarity hch.2.2 h) rfl hdc
      exact ⟨mk, vm₁, hnamed, hW₁, hstep₁⟩
  have S₁ := S.noted hW₁
  obtain ⟨T', Lc, rr, X', S2, hR', hS', hp, hgo⟩ := xEnter C S₁ hM (Or.inl ⟨rfl, hco⟩) hch.1 h1 h2 (g := F0 E.m pc ls rest) rfl (by rw [C.2.2.1]; exact h3.1) hdc hnamed hnum.1 hnum.2.1 hrc hrs (lv_room hnum.2.2)
  cases rr with
  | inl v =>
    obtain ⟨t, a1, b1⟩ := kr v X' hp T'.heap (locs ++ Lc) ls hR' hS' h3 T' rfl S2
    exact ⟨t, hstep _ (fun acts => (hgo acts).trans a1), b1⟩
  | inr Cn =>
    obtain ⟨a, cell, c1, c2, c3, hgo⟩ := hgo
    obtain ⟨t, a1, b1⟩ := kt Cn X' hp T' (locs ++ Lc) ls rest a cell hR' hS' h3 c1 c2 c3 S2
    exact ⟨t, hstep _ (fun acts => (hgo acts).trans a1), b1⟩
end XCL
end
section
/-! Rows: statics, throws and catches, arraycopy, clone, Math, class objects. -/
theorem xold {D : va_G} {H0 : Heap} {X : xH} {s : State} {H : Heap} {locs : List Loc} (h1 : xRep D H0 X H) (h2 : va_S (fun q => H0.size ≤ q) s.heap H locs) (h0 : H0.size ≤ s.heap.size) : ∀ a : Nat, a < H0.size → ¬ xA H0 a → s.heap[a]? = H0[a]? := fun a ha hn => (h2.2.1 a (by omega) hn).symm.trans (h1.2.1 a ha)
def xups : List String := ["java/lang/RuntimeException", "java/lang/Exception"]
/-- the words of a throw -/
def xThW (own : String) (ik ic : Nat) (cls : String) : Prop := Bundle.fit cls = true ∧ Cond.classLink own ik cls ∈ xT ∧ Cond.initialized cls ∈ xT ∧ (∀ w ∈ vx_atS own ic cls xups, w ∈ xT) ∧ ∀ w ∈ Cond.classLink own ik cls :: Cond.initialized cls :: vx_atS own ic cls xups, vx_ot w = true
theorem xups_fit : ∀ n ∈ xups, Bundle.fit n = true := by decide +kernel
theorem xstore_slots (at_ : Nat) : ∀ (vs : List (Value × Nat)) (c c' : Cell), c.slots = c'.slots → (c.storePairs at_ vs).slots = (c'.storePairs at_ vs).slots := by
  intro vs
  induction vs with
  | nil => intro c c' h; exact h
  | cons v vs ih =>
    intro c c' h
    exact ih (c.setSlot (at_ + v.2) v.1) (c'.setSlot (at_ + v.2) v.1) (by show c.slots.setIfInBounds _ _ = c'.slots.setIfInBounds _ _; rw [h])
theorem xac_copied {c0 c1 : ClassId} {n0 n1 sp dp n : Nat} {g0 g1 : Nat → Value} {cs cd : Cell} (h0 : xac c0 n0 g0 cs) (h1 : xac c1 n1 g1 cd) (hs : sp + n ≤ n0) : xac c1 n1 (va_cpy g0 g1 sp dp n) (cd.storeRun dp (cs.stretch sp n)) := by
  obtain ⟨f1, f2, -⟩ := Cell.storePairs_facts cd dp (cs.stretch sp n).zipIdx
  refine ⟨f1.trans h1.1, by show (cd.storePairs dp (cs.stretch sp n).zipIdx).vm ≠ _; rw [f2]; exact h1.2.1, fun k => by show (cd.storePairs dp (cs.stretch sp n).zipIdx).vm ≠ _; rw [f2]; exact h1.2.2.1 k, ?_⟩
  have e1 : cs.stretch sp n = (arrV c0 n0 (fun j => g0 j)).stretch sp n := by
    unfold Cell.stretch
    rw [h0.2.2.2]
  rw [e1]
  show (cd.storePairs dp _).slots = _
  rw [xstore_slots dp _ cd (arrV c1 n1 (fun j => g1 j)) h1.2.2.2]
  have e2 := va_copied (fun z : Value => z) c0 c1 (n0 := n0) (n1 := n1) (sp := sp) (dp := dp) (n := n) g0 g1 hs
  show ((arrV c1 n1 (fun j => g1 j)).storeRun dp _).slots = _
  rw [e2]
section XRM
variable {E : xE} {y : MethodName} {cc : ByteArray} {nL : Nat} {ret : Option FieldType} {hs : List (Nat × Nat × Nat × Nat)} {d mc ms : Nat} {Post : xO → xH → Prop} {X : xH} {cells slots pc : Nat} {L : List (Option Value)} {st : List Value}
theorem xr_gets (C : xCx E y cc nL ret hs d mc ms Post) {Cn nm ds : String} {v : Value} {idx : Nat} (hZ : va_Z Cn nm ds v (xA E.H0) E.s E.H0) (hd : decode cc pc = .ok (.getstatic idx, 3)) (n : Nat) (hn : pc + 3 = n) (hl : Cond.fieldLink y.cls idx Cn nm ds ∈ xT ∨ ∃ host, Cond.fieldLinkNest y.cls idx Cn nm ds host ∈ xT) (kk : xG E X cells slots n L (v :: st)) : xG E X cells slots pc L st := by
  subst hn
  intro H locs ls h1 h2 h3
  have hZ' : va_Z Cn nm ds v (xA E.H0) E.s E.s.heap := hZ.kept (xold h1 h2 C.h0)
  rcases hl with hl | ⟨host, hl⟩
  · exact va_gets C.1 C.2.1 hZ' h2 C.ow (C.ts _ hl) (fun _ h => h) hd (kk H locs ls h1 h2 h3)
  · exact va_getsN C.1 C.2.1 hZ' h2 C.ow (C.ts _ hl) (fun _ h => h) hd (kk H locs ls h1 h2 h3)
theorem xr_throw (C : xCx E y cc nL ret [] d mc ms Post) {ik is ic : Nat} {cls tx : String} (hy : y.cls = "TwinKeepers") (d0 : decode cc pc = .ok (.new ik, 3)) (d3 : decode cc (pc + 3) = .ok (.dup, 1)) (d4 : decode cc (pc + 4) = .ok (.ldc is, 2)) (d6 : decode cc (pc + 6) = .ok (.invokespecial ic, 3)) (d9 : decode cc (pc + 9) = .ok (.athrow, 1)) (hw : xThW y.cls ik ic cls) (hmem : (is, tx) ∈ xstr) (hst : (st.map fun v => v.category).sum ≤ 8) (hc : cells + 1 ≤ mc) (hsl : slots + 6 ≤ ms) (hp : Post (.inr cls) X) : xG E X cells slots pc L st := by
  intro H locs ls h1 h2 h3
  obtain ⟨sa, hstr⟩ := C.kk.2.2.2.2.2.2.1 (is, tx) hmem
  have hkp := xold h1 h2 C.h0
  have htab : ∀ x ∈ E.c.exceptionTable.toList, covers x (pc + 9) = false := by
    have h' : E.c.exceptionTable.toList = [] := by simpa using C.tb
    intro x hx
    rw [h'] at hx
    cases hx
  rw [C.qq]
  refine xW_mono (fun t ht => ?_) (vx_throwS (XC := fun En _ t => En = cls ∧ xRep E.D E.H0 X t.heap) (Qc := fun _ _ _ _ => False) (free := fun q => E.H0.size ≤ q) (A := xA E.H0) C.1 C.2.1 C.tr (own := y.cls) (cls := cls) (text := tx) (names := xups) (sa := sa) C.ow hw.1 xups_fit (C.ts _ hw.2.1) (C.ts _ hw.2.2.1) (by rw [hy]; exact hstr) (fun w h => C.ts w (hw.2.2.2.1 w h)) hw.2.2.2.2 (C.kk.2.2.2.2.1.kept hkp) (C.kk.2.2.2.2.2.1.kept hkp) h2 (by rw [C.2.2.1]; exact h3.1) d0 d3 d4 d6 d9 htab (by rw [C.rm]; show 2 + 3 < d + 8; omega) (by rw [C.rm]; show _ + (13 * (2 + 1) + 43) ≤ 40 * (d + 8); omega) (C.rc hc) (C.rs hsl) C.lk (fun t _ z o => ⟨rfl, h1.more z o⟩) h2.2.2 hc hsl)
  obtain ⟨o, t1, t2, hq⟩ := ht
  rcases hq with ⟨hf, -⟩ | ⟨q, rfl, En, ce, Lc, ⟨rfl, hr⟩, g1, g2, g3, g4, g5, g6⟩
  · exact hf.elim
  · exact ⟨.threw q, .inr En, X, Lc, t1, t2, ⟨q, ce, rfl, g1, g2, (g4.alike.findClass En _).trans g3⟩, hr, hp, g4, g5, g6⟩
theorem xr_max (C : xCx E y cc nL ret hs d mc ms Post) {idx : Nat} {x z : Int32} (hd : decode cc pc = .ok (.invokestatic idx, 3)) (n : Nat) (hn : pc + 3 = n) (hl : Cond.methodLink y.cls idx Lib.Math.max.name ∈ xT) (hw : Cond.static Lib.Math.max.name ∈ xT ∧ Cond.initialized "java/lang/Math" ∈ xT ∧ Cond.code Lib.Math.max.name Lib.Math.max.code 2 (some .int) ∈ xT) (hst : (st.map fun v => v.category).sum ≤ 8) (hc : cells ≤ mc) (hsl : slots ≤ ms) (kk : xG E X cells slots n L (.int (if x < z then z else x) :: st)) : xG E X cells slots pc L (.int z :: .int x :: st) := by
  subst hn
  intro H locs ls h1 h2 h3
  exact va_mmax C.1 C.2.1 (by rw [C.2.2.1]; exact h3.1.symm) C.ow (C.ts _ hl) (C.ts _ hw.1) (C.ts _ hw.2.1) (C.ts _ hw.2.2) (by rw [C.rm]; show 1 ≤ d + 8; omega) (by rw [C.rm]; show _ + 13 ≤ 40 * (d + 8); omega) (C.rc hc) (C.rs hsl) hd (kk H locs ls h1 h2 h3)
theorem xr_min (C : xCx E y cc nL ret hs d mc ms Post) {idx : Nat} {x z : Int32} (hd : decode cc pc = .ok (.invokestatic idx, 3)) (n : Nat) (hn : pc + 3 = n) (hl : Cond.methodLink y.cls idx Lib.Math.min.name ∈ xT) (hw : Cond.static Lib.Math.min.name ∈ xT ∧ Cond.initialized "java/lang/Math" ∈ xT ∧ Cond.code Lib.Math.min.name Lib.Math.min.code 2 (some .int) ∈ xT) (hst : (st.map fun v => v.category).sum ≤ 8) (hc : cells ≤ mc) (hsl : slots ≤ ms) (kk : xG E X cells slots n L (.int (if z < x then z else x) :: st)) : xG E X cells slots pc L (.int z :: .int x :: st) := by
  subst hn
  intro H locs ls h1 h2 h3
  exact va_mmin C.1 C.2.1 (by rw [C.2.2.1]; exact h3.1.symm) C.ow (C.ts _ hl) (C.ts _ hw.1) (C.ts _ hw.2.1) (C.ts _ hw.2.2) (by rw [C.rm]; show 1 ≤ d + 8; omega) (by rw [C.rm]; show _ + 13 ≤ 40 * (d + 8); omega) (C.rc hc) (C.rs hsl) hd (kk H locs ls h1 h2 h3)
/-- System.arraycopy of elements that fit; t0, t1: the arrays' kinds -/
theorem xcopy (C : xCx E y cc nL ret hs d mc ms Post) {idx a0 a1 n0 n1 sp dp n t0 : Nat} {c0 c1 : ClassId} {p0 p1 p2 : (Nat → Int32) ⊕ (Nat → Int64) ⊕ (Nat → UInt32) ⊕ (Nat → UInt64) ⊕ (Nat → Option Nat)} {ty : FieldType} (ht0 : (xty E.D)[t0]? = some (c0, ty)) (ht1 : (xty E.D)[t0]? = some (c1, ty)) (hd : decode cc pc = .ok (.invokestatic idx, 3)) (nx : Nat) (hn : pc + 3 = nx) (hl : Cond.methodLink y.cls idx arraycopyName ∈ xT) (hw : Cond.native arraycopyName ∈ xT ∧ Cond.static arraycopyName ∈ xT ∧ Cond.initialized "java/lang/System" ∈ xT) (hX0 : X a0 = some (.inl (c0, n0, p0))) (hX1 : X a1 = some (.inl (c1, n1, p1))) (hs0 : sp + n ≤ n0) (hd0 : dp + n ≤ n1) (hN0 : n0 < 2 ^ 31) (hN1 : n1 < 2 ^ 31) (hz : n1 ≠ 0) (hst : (st.map fun v => v.category).sum ≤ 8)
    (hvals : ∀ (H : Heap), xRep E.D E.H0 X H → ∀ (T : State), T.heap = H → E.s.vm.Alike T.vm → ∀ (comp : ClassId), (∀ k, E.s.vm.classes[c1]? = some k → k.kind = .array comp ty) → ∀ i, i < n → fits ty (xav (n0, p0) (sp + i)) = true ∧ T.takes comp (xav (n0, p0) (sp + i)))
    (hcp : va_cpy (xav (n0, p0)) (xav (n1, p1)) sp dp n = xav (n1, p2))
    (kk : xG E (xup X a1 (.inl (c1, n1, p2))) cells slots nx L st) : xG E X cells slots pc L (.int (nI n) :: .int (nI dp) :: .ref a1 :: .int (nI sp) :: .ref a0 :: st) := by
  subst hn
  intro H locs ls h1 h2 h3 T hT S
  subst hT
  have hz' : ¬ xz (.inl (c1, n1, p1) : va_E) := fun z => hz z
  obtain ⟨cs, b1, b2⟩ := h1.cell hX0
  obtain ⟨cd, b3, b4⟩ := h1.cell hX1
  have m0 : (nI sp).toNatClampNeg = sp := nI_clamp (by omega)
  have m1 : (nI dp).toNatClampNeg = dp := nI_clamp (by omega)
  have m2 : (nI n).toNatClampNeg = n := nI_clamp (by omega)
  obtain ⟨-, k0, hk0, cm0, hkk0⟩ := b2.of (C.kk.1.2 t0 _ ht0).1
  obtain ⟨-, k1, hk1, cm1, hkk1⟩ := b4.of (C.kk.1.2 t0 _ ht1).1
  obtain ⟨vm', S', step⟩ := S.arraycopy C.1 C.ow (C.ts _ hl) (C.ts _ hw.1) (C.ts _ hw.2.1) (C.ts _ hw.2.2) (src := a0) (dst := a1) (cs := cs) (cd := cd) (srcPos := nI sp) (destPos := nI dp) (n := nI n) b1 b3 b2.2.2.1 b4.2.2.1 b2.2.1 b4.2.1 hk0 hk1 hkk0 hkk1 (by simp) (nI_pos (by omega)) (nI_pos (by omega)) (nI_pos (by omega))
    (by rw [nI_toInt (by omega), nI_toInt (by omega), b2.size]; show ¬ _ > (n0 : Int); omega) (by rw [nI_toInt (by omega), nI_toInt (by omega), b4.size]; show ¬ _ > (n1 : Int); omega)
    (fun vm₁ hal i hi => by
      rw [m2] at hi
      rw [m0]
      have e : cs.slots.getD (sp + i) .null = xav (n0, p0) (sp + i) := by
        rw [Array.getD_eq_getD_getElem?, b2.read (show sp + i < n0 by omega)]
        rfl
      rw [e]
      exact hvals T.heap h1 (T.setVm vm₁) rfl hal cm1 (fun k hk => by rw [b4.1] at hk1; cases hk.symm.trans hk1; exact hkk1) i hi)
    (g := F0 E.m pc ls (.int (nI n) :: .int (nI dp) :: .ref a1 :: .int (nI sp) :: .ref a0 :: st)) rfl (by rw [C.2.2.1]; exact h3.1) (rest := st) rfl (by rw [C.2.1]; exact hd) (by rw [C.rm]; show 1 ≤ d + 8; omega) (by rw [C.rm, show nativeFrameWords "java/lang/System" "arraycopy" 5 = 7 from by decide]; show 2 * 0 + _ + _ ≤ 40 * (d + 8); omega)
  have hcpd : copied cs cd (nI sp) (nI dp) (nI n) = cd.storeRun dp (cs.stretch sp n) := by
    show cd.storeRun (nI dp).toNatClampNeg (cs.stretch (nI sp).toNatClampNeg (nI n).toNatClampNeg) = _
    rw [m0, m1, m2]
  rw [hcpd] at S' step
  rw [m0, m1, m2] at S'
  have hl1 : a1 < T.heap.size := (Array.getElem?_eq_some_iff.mp b3).1
  have hheap : ((T.setVm vm').setCell a1 (cd.storeRun dp (cs.stretch sp n))).heap = T.heap.setIfInBounds a1 (cd.storeRun dp (cs.stretch sp n)) := rfl
  have oq : ∀ q : Nat, q ≠ a1 → (T.heap.setIfInBounds a1 (cd.storeRun dp (cs.stretch sp n)))[q]? = T.heap[q]? := fun q hq => by simp [Array.getElem?_setIfInBounds, Ne.symm hq]
  have hat : xat E.D (a1, .inl (c1, n1, p2)) (T.heap.setIfInBounds a1 (cd.storeRun dp (cs.stretch sp n))) := by
    refine ⟨cd.storeRun dp (cs.stretch sp n), by simp [Array.getElem?_setIfInBounds, hl1], ?_⟩
    show xac c1 n1 (xav (n1, p2)) _
    rw [← hcp]
    exact xac_copied b2 b4 hs0
  have hR := h1.put hX1 hz' hat (by simp) oq
  obtain ⟨t, q1, q2⟩ := kk _ _ ls hR (xS_call (Lc := ((cs.stretch sp n).zipIdx.map fun q => (⟨a1, dp + q.2⟩ : Loc))) h2 h1 hR (by simp) (fun q hq => by
    obtain ⟨z, -, hz⟩ := List.mem_map.mp hq
    rw [← hz]
    exact h1.old hX1 hz')) h3 _ hheap S'
  exact ⟨t, step t q1, q2⟩
theorem xr_copyb (C : xCx E y cc nL ret hs d mc ms Post) {idx a0 a1 n0 n1 sp dp n : Nat} {f g : Nat → Int32} (hd : decode cc pc = .ok (.invokestatic idx, 3)) (nx : Nat) (hn : pc + 3 = nx) (hl : Cond.methodLink y.cls idx arraycopyName ∈ xT) (hw : Cond.native arraycopyName ∈ xT ∧ Cond.static arraycopyName ∈ xT ∧ Cond.initialized "java/lang/System" ∈ xT) (hX0 : X a0 = some (.inl (E.D.1 100, n0, .inl f))) (hX1 : X a1 = some (.inl (E.D.1 100, n1, .inl g))) (hs0 : sp + n ≤ n0) (hd0 : dp + n ≤ n1) (hN0 : n0 < 2 ^ 31) (hN1 : n1 < 2 ^ 31) (hz : n1 ≠ 0) (hst : (st.map fun v => v.category).sum ≤ 8) (hb : ∀ i, i < n → fits .byte (.int (f (sp + i))) = true) (kk : xG E (xup X a1 (.inl (E.D.1 100, n1, .inl (va_cpy f g sp dp n)))) cells slots nx L st) : xG E X cells slots pc L (.int (nI n) :: .int (nI dp) :: .ref a1 :: .int (nI sp) :: .ref a0 :: st) := by
  refine xcopy (t0 := 0) (p2 := .inl (va_cpy f g sp dp n)) C rfl rfl hd nx hn hl hw hX0 hX1 hs0 hd0 hN0 hN1 hz hst (fun H _ T _ _ comp _ i hi => ⟨hb i hi, trivial⟩) ?_ kk
  funext k
  simp only [va_cpy, xav]
  split <;> rfl
theorem xr_copyq (C : xCx E y cc nL ret hs d mc ms Post) {idx a0 a1 n0 n1 sp dp n : Nat} {f g : Nat → Option Nat} (hd : decode cc pc = .ok (.invokestatic idx, 3)) (nx : Nat) (hn : pc + 3 = nx) (hl : Cond.methodLink y.cls idx arraycopyName ∈ xT) (hw : Cond.native arraycopyName ∈ xT ∧ Cond.static arraycopyName ∈ xT ∧ Cond.initialized "java/lang/System" ∈ xT) (hX0 : X a0 = some (.inl (E.D.1 101, n0, .inr (.inr (.inr (.inr f)))))) (hX1 : X a1 = some (.inl (E.D.1 101, n1, .inr (.inr (.inr (.inr g)))))) (hs0 : sp + n ≤ n0) (hd0 : dp + n ≤ n1) (hN0 : n0 < 2 ^ 31) (hN1 : n1 < 2 ^ 31) (hz : n1 ≠ 0) (hst : (st.map fun v => v.category).sum ≤ 8) (hel : ∀ i, i < n → ∀ q : Nat, f (sp + i) = some q → ∃ (ci : Nat) (vs : List Value) (r : vw_C), X q = some (.inr (ci, vs)) ∧ xcl[ci]? = some r ∧ Cond.castable r.1 "java/lang/Object" ∈ xT) (kk : xG E (xup X a1 (.inl (E.D.1 101, n1, .inr (.inr (.inr (.inr (va_cpy f g sp dp n))))))) cells slots nx L st) : xG E X cells slots pc L (.int (nI n) :: .int (nI dp) :: .ref a1 :: .int (nI sp) :: .ref a0 :: st) := by
  refine xcopy (t0 := 1) (p2 := .inr (.inr (.inr (.inr (va_cpy f g sp dp n))))) C rfl rfl hd nx hn hl hw hX0 hX1 hs0 hd0 hN0 hN1 hz hst (fun H hR T hT hal comp hcomp i hi => ?_) ?_ kk
  · show fits (.object "java/lang/Object") (va_rf (f (sp + i))) = true ∧ T.takes comp (va_rf (f (sp + i)))
    cases hy : f (sp + i) with
    | none => exact ⟨rfl, trivial⟩
    | some q =>
      obtain ⟨ci, vs, r, hq, hc, hca⟩ := hel i hi q hy
      obtain ⟨r', hr', cellV, g1, g2, g3, -⟩ := (hR.2.2 q _ hq).1
      have hcls := (C.kk.1.1 ci r hc).2
      obtain ⟨kA, comp', k1, k2, k3, -⟩ := (C.kk.1.2 1 _ rfl).2
      have hce : comp' = comp := by
        have := (hcomp kA k1).symm.trans k2
        simp at this
        exact this.symm
      subst hce
      obtain ⟨kE, hkE, -⟩ := Vm.findClass_spec k3
      obtain ⟨c0, t1, f1, f2, f3⟩ := Cond.castable_spec (C.ts _ hca)
      cases hcls.1.symm.trans f1
      cases k3.symm.trans f2
      obtain ⟨kC, hkC, -⟩ := hcls.2
      obtain ⟨kC', hkC', -⟩ := hal.2.2 _ _ hkC
      obtain ⟨kE', hkE', -⟩ := hal.2.2 _ _ hkE
      refine ⟨rfl, cellV, by rw [hT]; exact g1, (fun k h => by rw [g3] at h; cases h), ⟨kC', by rw [g2]; exact hkC'⟩, ⟨kE', hkE'⟩, ?_⟩
      rw [hal.assignable, g2]
      exact f3
  · funext k
    simp only [va_cpy, xav]
    split <;> rfl
theorem xr_ldcM (C : xCx E y cc nL ret hs d mc ms Post) {idx : Nat} (hd : decode cc pc = .ok (.ldc idx, 2)) (n : Nat) (hn : pc + 2 = n) (hl : Cond.classLink y.cls idx "[Ljava/lang/Object;" ∈ xT) (kk : xG E X cells slots n L (.ref (E.D.2 200 2) :: st)) : xG E X cells slots pc L st := by
  subst hn
  intro H locs ls h1 h2 h3
  exact va_ldcM C.1 C.2.1 C.ow (C.ts _ hl) C.kk.2.2.2.2.2.2.2 hd (kk H locs ls h1 h2 h3)
theorem xr_getC (C : xCx E y cc nL ret hs d mc ms Post) {idx a : Nat} {x : vp_A} (hd : decode cc pc = .ok (.invokevirtual idx, 3)) (n : Nat) (hn : pc + 3 = n) (hX : X a = some (.inl (E.D.1 101, x))) (hl : Cond.methodLink y.cls idx ⟨"java/lang/Object", "getClass", "()Ljava/lang/Class;"⟩ ∈ xT) (hw : Cond.declares ⟨"java/lang/Object", "getClass", "()Ljava/lang/Class;"⟩ ∈ xT ∧ Cond.selects "[Ljava/lang/Object;" ⟨"java/lang/Object", "getClass", "()Ljava/lang/Class;"⟩ ⟨"java/lang/Object", "getClass", "()Ljava/lang/Class;"⟩ ∈ xT ∧ Cond.instanceMethod ⟨"java/lang/Object", "getClass", "()Ljava/lang/Class;"⟩ ∈ xT ∧ Cond.native ⟨"java/lang/Object", "getClass", "()Ljava/lang/Class;"⟩ ∈ xT) (hst : (st.map fun v => v.category).sum ≤ 8) (kk : xG E X cells slots n L (.ref (E.D.2 200 2) :: st)) : xG E X cells slots pc L (.ref a :: st) := by
  subst hn
  intro H locs ls h1 h2 h3
  obtain ⟨cB, b1, b2⟩ := h1.cell hX
  have hnm : E.s.vm.findClass "[Ljava/lang/Object;" = some (E.D.1 101) := va_nmO (C.kk.1.2 1 _ rfl).2 (by decide)
  refine va_getC C.1 C.2.1 (by rw [C.2.2.1]; exact h3.1.symm) C.ow (C.ts _ hl) (C.ts _ hw.1) (C.ts _ hw.2.1) (C.ts _ hw.2.2.1) (C.ts _ hw.2.2.2) C.kk.2.2.2.2.2.2.2 ⟨cB, b1, ?_, by rw [b2.1]; exact hnm⟩ (by rw [C.rm]; show 1 ≤ d + 8; omega) (by rw [C.rm]; show _ + 14 ≤ 40 * (d + 8); omega) hd (kk H locs ls h1 h2 h3)
  cases hv : cB.vm <;> first | rfl | exact absurd hv (b2.2.2.1 _)
end XRM
end
section
theorem K_TK : xCl 0 R_TK F_TK 6 t_TK := ⟨rfl, i_TK, t_TK_ok, n_TK⟩
theorem K_Ma : xCl 1 R_Ma F_Ma 3 t_Ma := ⟨rfl, i_Ma, t_Ma_ok, n_Ma⟩
theorem K_KM : xCl 2 R_KM F_KM 2 t_KM := ⟨rfl, i_KM, t_KM_ok, n_KM⟩
theorem K_Ro : xCl 3 R_Ro F_Ro 2 t_Ro := ⟨rfl, i_Ro, t_Ro_ok, n_Ro⟩
theorem K_Se : xCl 4 R_Se F_Se 5 t_Se := ⟨rfl, i_Se, t_Se_ok, n_Se⟩
theorem K_En : xCl 5 R_En F_En 2 t_En := ⟨rfl, i_En, t_En_ok, n_En⟩
theorem K_Mo : xCl 6 R_Mo F_Mo 23 t_Mo := ⟨rfl, i_Mo, t_Mo_ok, n_Mo⟩
theorem K_AL : xCl 7 R_AL F_AL 3 t_AL := ⟨rfl, i_AL, t_AL_ok, n_AL⟩
abbrev b_AL_init : ByteArray := prog_28_method_2_code
def y_AL_init : MethodName := ⟨"java/util/ArrayList", "<init>", "()V"⟩
theorem kc_AL_init : Cond.code y_AL_init b_AL_init 1 none ∈ xT := xin 47 (by decide +kernel) (by decide +kernel)
theorem k_AL_init : xCode y_AL_init b_AL_init 1 none [] := Or.inl ⟨rfl, kc_AL_init⟩
theorem h_AL_init : plainFor y_AL_init = true ∧ (y_AL_init.cls ≠ "java/lang/invoke/MethodHandle" ∧ y_AL_init.cls ≠ "java/lang/invoke/VarHandle") ∧ (parseMethodDescriptor y_AL_init.desc).map (fun d => d.parameters.length) = some 0 := by decide +kernel
theorem v_AL_init : Cond.instanceMethod y_AL_init ∈ xT := xin 46 (by decide +kernel) (by decide +kernel)
theorem d_AL_init_0 : decode b_AL_init 0 = .ok (.aload_n 0, 1) := by decide +kernel
theorem d_AL_init_1 : decode b_AL_init 1 = .ok (.invokespecial 1, 3) := by decide +kernel
theorem q_48 : Cond.methodLink "java/util/ArrayList" 1 ⟨"java/util/AbstractList", "<init>", "()V"⟩ ∈ xT := xin 48 (by decide +kernel) (by decide +kernel)
theorem d_AL_init_4 : decode b_AL_init 4 = .ok (.aload_n 0, 1) := by decide +kernel
theorem d_AL_init_5 : decode b_AL_init 5 = .ok (.getstatic 39, 3) := by decide +kernel
theorem q_55 : Cond.fieldLink "java/util/ArrayList" 39 "java/util/ArrayList" "DEFAULTCAPACITY_EMPTY_ELEMENTDATA" "[Ljava/lang/Object;" ∈ xT := xin 55 (by decide +kernel) (by decide +kernel)
theorem d_AL_init_8 : decode b_AL_init 8 = .ok (.putfield 9, 3) := by decide +kernel
theorem q_57 : Cond.fieldLink "java/util/ArrayList" 9 "java/util/ArrayList" "elementData" "[Ljava/lang/Object;" ∈ xT := xin 57 (by decide +kernel) (by decide +kernel)
theorem d_AL_init_11 : decode b_AL_init 11 = .ok (.return_, 1) := by decide +kernel
abbrev b_AB_init : ByteArray := prog_27_method_1_code
def y_AB_init : MethodName := ⟨"java/util/AbstractList", "<init>", "()V"⟩
theorem kc_AB_init : Cond.code y_AB_init b_AB_init 1 none ∈ xT := xin 50 (by decide +kernel) (by decide +kernel)
theorem k_AB_init : xCode y_AB_init b_AB_init 1 none [] := Or.inl ⟨rfl, kc_AB_init⟩
theorem h_AB_init : plainFor y_AB_init = true ∧ (y_AB_init.cls ≠ "java/lang/invoke/MethodHandle" ∧ y_AB_init.cls ≠ "java/lang/invoke/VarHandle") ∧ (parseMethodDescriptor y_AB_init.desc).map (fun d => d.parameters.length) = some 0 := by decide +kernel
theorem v_AB_init : Cond.instanceMethod y_AB_init ∈ xT := xin 49 (by decide +kernel) (by decide +kernel)
theorem d_AB_init_0 : decode b_AB_init 0 = .ok (.aload_n 0, 1) := by decide +kernel
theorem d_AB_init_1 : decode b_AB_init 1 = .ok (.invokespecial 1, 3) := by decide +kernel
theorem q_51 : Cond.methodLink "java/util/AbstractList" 1 ⟨"java/util/AbstractCollection", "<init>", "()V"⟩ ∈ xT := xin 51 (by decide +kernel) (by decide +kernel)
theorem d_AB_init_4 : decode b_AB_init 4 = .ok (.aload_n 0, 1) := by decide +kernel
theorem d_AB_init_5 : decode b_AB_init 5 = .ok (.iconst 0, 1) := by decide +kernel
theorem d_AB_init_6 : decode b_AB_init 6 = .ok (.putfield 7, 3) := by decide +kernel
theorem q_59 : Cond.fieldLink "java/util/AbstractList" 7 "java/util/AbstractList" "modCount" "I" ∈ xT := xin 59 (by decide +kernel) (by decide +kernel)
theorem d_AB_init_9 : decode b_AB_init 9 = .ok (.return_, 1) := by decide +kernel
abbrev b_AC_init : ByteArray := prog_26_method_1_code
def y_AC_init : MethodName := ⟨"java/util/AbstractCollection", "<init>", "()V"⟩
theorem kc_AC_init : Cond.code y_AC_init b_AC_init 1 none ∈ xT := xin 53 (by decide +kernel) (by decide +kernel)
theorem k_AC_init : xCode y_AC_init b_AC_init 1 none [] := Or.inl ⟨rfl, kc_AC_init⟩
theorem h_AC_init : plainFor y_AC_init = true ∧ (y_AC_init.cls ≠ "java/lang/invoke/MethodHandle" ∧ y_AC_init.cls ≠ "java/lang/invoke/VarHandle") ∧ (parseMethodDescriptor y_AC_init.desc).map (fun d => d.parameters.length) = some 0 := by decide +kernel
theorem v_AC_init : Cond.instanceMethod y_AC_init ∈ xT := xin 52 (by decide +kernel) (by decide +kernel)
theorem d_AC_init_0 : decode b_AC_init 0 = .ok (.aload_n 0, 1) := by decide +kernel
theorem d_AC_init_1 : decode b_AC_init 1 = .ok (.invokespecial 1, 3) := by decide +kernel
theorem q_54 : Cond.methodLink "java/util/AbstractCollection" 1 ⟨"java/lang/Object", "<init>", "()V"⟩ ∈ xT := xin 54 (by decide +kernel) (by decide +kernel)
theorem d_AC_init_4 : decode b_AC_init 4 = .ok (.return_, 1) := by decide +kernel
abbrev b_AL_size : ByteArray := prog_28_method_8_code
def y_AL_size : MethodName := ⟨"java/util/ArrayList", "size", "()I"⟩
theorem kc_AL_size : Cond.code y_AL_size b_AL_size 1 (some .int) ∈ xT := xin 273 (by decide +kernel) (by decide +kernel)
theorem k_AL_size : xCode y_AL_size b_AL_size 1 (some .int) [] := Or.inl ⟨rfl, kc_AL_size⟩
theorem h_AL_size : plainFor y_AL_size = true ∧ (y_AL_size.cls ≠ "java/lang/invoke/MethodHandle" ∧ y_AL_size.cls ≠ "java/lang/invoke/VarHandle") ∧ (parseMethodDescriptor y_AL_size.desc).map (fun d => d.parameters.length) = some 0 := by decide +kernel
theorem v_AL_size : Cond.instanceMethod y_AL_size ∈ xT := xin 271 (by decide +kernel) (by decide +kernel)
theorem e_AL_size : Cond.selects "java/util/ArrayList" y_AL_size y_AL_size ∈ xT := xin 272 (by decide +kernel) (by decide +kernel)
theorem d_AL_size_0 : decode b_AL_size 0 = .ok (.aload_n 0, 1) := by decide +kernel
theorem d_AL_size_1 : decode b_AL_size 1 = .ok (.getfield 48, 3) := by decide +kernel
theorem q_58 : Cond.fieldLink "java/util/ArrayList" 48 "java/util/ArrayList" "size" "I" ∈ xT := xin 58 (by decide +kernel) (by decide +kernel)
theorem d_AL_size_4 : decode b_AL_size 4 = .ok (.ireturn, 1) := by decide +kernel
abbrev b_AL_get : ByteArray := prog_28_method_20_code
def y_AL_get : MethodName := ⟨"java/util/ArrayList", "get", "(I)Ljava/lang/Object;"⟩
theorem kc_AL_get : Cond.code y_AL_get b_AL_get 2 (some (.object "java/lang/Object")) ∈ xT := xin 281 (by decide +kernel) (by decide +kernel)
theorem k_AL_get : xCode y_AL_get b_AL_get 2 (some (.object "java/lang/Object")) [] := Or.inl ⟨rfl, kc_AL_get⟩
theorem h_AL_get : plainFor y_AL_get = true ∧ (y_AL_get.cls ≠ "java/lang/invoke/MethodHandle" ∧ y_AL_get.cls ≠ "java/lang/invoke/VarHandle") ∧ (parseMethodDescriptor y_AL_get.desc).map (fun d => d.parameters.length) = some 1 := by decide +kernel
theorem v_AL_get : Cond.instanceMethod y_AL_get ∈ xT := xin 279 (by decide +kernel) (by decide +kernel)
theorem e_AL_get : Cond.selects "java/util/ArrayList" y_AL_get y_AL_get ∈ xT := xin 280 (by decide +kernel) (by decide +kernel)
theorem d_AL_get_0 : decode b_AL_get 0 = .ok (.iload_n 1, 1) := by decide +kernel
theorem d_AL_get_1 : decode b_AL_get 1 = .ok (.aload_n 0, 1) := by decide +kernel
theorem d_AL_get_2 : decode b_AL_get 2 = .ok (.getfield 48, 3) := by decide +kernel
theorem d_AL_get_5 : decode b_AL_get 5 = .ok (.invokestatic 118, 3) := by decide +kernel
theorem q_282 : Cond.methodLink "java/util/ArrayList" 118 ⟨"java/util/Objects", "checkIndex", "(II)I"⟩ ∈ xT := xin 282 (by decide +kernel) (by decide +kernel)
theorem d_AL_get_8 : decode b_AL_get 8 = .ok (.pop, 1) := by decide +kernel
theorem d_AL_get_9 : decode b_AL_get 9 = .ok (.aload_n 0, 1) := by decide +kernel
theorem d_AL_get_10 : decode b_AL_get 10 = .ok (.iload_n 1, 1) := by decide +kernel
theorem d_AL_get_11 : decode b_AL_get 11 = .ok (.invokevirtual 123, 3) := by decide +kernel
theorem q_288 : Cond.methodLink "java/util/ArrayList" 123 ⟨"java/util/ArrayList", "elementData", "(I)Ljava/lang/Object;"⟩ ∈ xT := xin 288 (by decide +kernel) (by decide +kernel)
theorem d_AL_get_14 : decode b_AL_get 14 = .ok (.areturn, 1) := by decide +kernel
abbrev b_OB_checkIndex : ByteArray := prog_32_method_17_code
def y_OB_checkIndex : MethodName := ⟨"java/util/Objects", "checkIndex", "(II)I"⟩
theorem kc_OB_checkIndex : Cond.code y_OB_checkIndex b_OB_checkIndex 2 (some .int) ∈ xT := xin 284 (by decide +kernel) (by decide +kernel)
theorem k_OB_checkIndex : xCode y_OB_checkIndex b_OB_checkIndex 2 (some .int) [] := Or.inl ⟨rfl, kc_OB_checkIndex⟩
theorem h_OB_checkIndex : plainFor y_OB_checkIndex = true ∧ (y_OB_checkIndex.cls ≠ "java/lang/invoke/MethodHandle" ∧ y_OB_checkIndex.cls ≠ "java/lang/invoke/VarHandle") ∧ (parseMethodDescriptor y_OB_checkIndex.desc).map (fun d => d.parameters.length) = some 2 := by decide +kernel
theorem s_OB_checkIndex : Cond.static y_OB_checkIndex ∈ xT := xin 283 (by decide +kernel) (by decide +kernel)
theorem in_OB_checkIndex : Cond.initialized y_OB_checkIndex.cls ∈ xT := xin 15 (by decide +kernel) (by decide +kernel)
theorem d_OB_checkIndex_0 : decode b_OB_checkIndex 0 = .ok (.iload_n 0, 1) := by decide +kernel
theorem d_OB_checkIndex_1 : decode b_OB_checkIndex 1 = .ok (.iload_n 1, 1) := by decide +kernel
theorem d_OB_checkIndex_2 : decode b_OB_checkIndex 2 = .ok (.aconst_null, 1) := by decide +kernel
theorem d_OB_checkIndex_3 : decode b_OB_checkIndex 3 = .ok (.invokestatic 105, 3) := by decide +kernel
theorem q_285 : Cond.methodLink "java/util/Objects" 105 ⟨"jdk/internal/util/Preconditions", "checkIndex", "(IILjava/util/function/BiFunction;)I"⟩ ∈ xT := xin 285 (by decide +kernel) (by decide +kernel)
theorem d_OB_checkIndex_6 : decode b_OB_checkIndex 6 = .ok (.ireturn, 1) := by decide +kernel
abbrev b_PC_checkIndex : ByteArray := prog_36_method_11_code
def y_PC_checkIndex : MethodName := ⟨"jdk/internal/util/Preconditions", "checkIndex", "(IILjava/util/function/BiFunction;)I"⟩
theorem kc_PC_checkIndex : Cond.code y_PC_checkIndex b_PC_checkIndex 3 (some .int) ∈ xT := xin 287 (by decide +kernel) (by decide +kernel)
theorem k_PC_checkIndex : xCode y_PC_checkIndex b_PC_checkIndex 3 (some .int) [] := Or.inl ⟨rfl, kc_PC_checkIndex⟩
theorem h_PC_checkIndex : plainFor y_PC_checkIndex = true ∧ (y_PC_checkIndex.cls ≠ "java/lang/invoke/MethodHandle" ∧ y_PC_checkIndex.cls ≠ "java/lang/invoke/VarHandle") ∧ (parseMethodDescriptor y_PC_checkIndex.desc).map (fun d => d.parameters.length) = some 3 := by decide +kernel
theorem s_PC_checkIndex : Cond.static y_PC_checkIndex ∈ xT := xin 286 (by decide +kernel) (by decide +kernel)
theorem in_PC_checkIndex : Cond.initialized y_PC_checkIndex.cls ∈ xT := xin 16 (by decide +kernel) (by decide +kernel)
theorem d_PC_checkIndex_0 : decode b_PC_checkIndex 0 = .ok (.iload_n 0, 1) := by decide +kernel
theorem d_PC_checkIndex_1 : decode b_PC_checkIndex 1 = .ok (.ifCond .lt 8, 3) := by decide +kernel
theorem d_PC_checkIndex_4 : decode b_PC_checkIndex 4 = .ok (.iload_n 0, 1) := by decide +kernel
theorem d_PC_checkIndex_5 : decode b_PC_checkIndex 5 = .ok (.iload_n 1, 1) := by decide +kernel
theorem d_PC_checkIndex_6 : decode b_PC_checkIndex 6 = .ok (.if_icmp .lt 10, 3) := by decide +kernel
theorem d_PC_checkIndex_9 : decode b_PC_checkIndex 9 = .ok (.aload_n 2, 1) := by decide +kernel
theorem d_PC_checkIndex_10 : decode b_PC_checkIndex 10 = .ok (.iload_n 0, 1) := by decide +kernel
theorem d_PC_checkIndex_11 : decode b_PC_checkIndex 11 = .ok (.iload_n 1, 1) := by decide +kernel
theorem d_PC_checkIndex_12 : decode b_PC_checkIndex 12 = .ok (.invokestatic 95, 3) := by decide +kernel
theorem d_PC_checkIndex_15 : decode b_PC_checkIndex 15 = .ok (.athrow, 1) := by decide +kernel
theorem d_PC_checkIndex_16 : decode b_PC_checkIndex 16 = .ok (.iload_n 0, 1) := by decide +kernel
theorem d_PC_checkIndex_17 : decode b_PC_checkIndex 17 = .ok (.ireturn, 1) := by decide +kernel
abbrev b_AL_elementData : ByteArray := prog_28_method_18_code
def y_AL_elementData : MethodName := ⟨"java/util/ArrayList", "elementData", "(I)Ljava/lang/Object;"⟩
theorem kc_AL_elementData : Cond.code y_AL_elementData b_AL_elementData 2 (some (.object "java/lang/Object")) ∈ xT := xin 291 (by decide +kernel) (by decide +kernel)
theorem k_AL_elementData : xCode y_AL_elementData b_AL_elementData 2 (some (.object "java/lang/Object")) [] := Or.inl ⟨rfl, kc_AL_elementData⟩
theorem h_AL_elementData : plainFor y_AL_elementData = true ∧ (y_AL_elementData.cls ≠ "java/lang/invoke/MethodHandle" ∧ y_AL_elementData.cls ≠ "java/lang/invoke/VarHandle") ∧ (parseMethodDescriptor y_AL_elementData.desc).map (fun d => d.parameters.length) = some 1 := by decide +kernel
theorem v_AL_elementData : Cond.instanceMethod y_AL_elementData ∈ xT := xin 289 (by decide +kernel) (by decide +kernel)
theorem e_AL_elementData : Cond.selects "java/util/ArrayList" y_AL_elementData y_AL_elementData ∈ xT := xin 290 (by decide +kernel) (by decide +kernel)
theorem d_AL_elementData_0 : decode b_AL_elementData 0 = .ok (.aload_n 0, 1) := by decide +kernel
theorem d_AL_elementData_1 : decode b_AL_elementData 1 = .ok (.getfield 9, 3) := by decide +kernel
theorem d_AL_elementData_4 : decode b_AL_elementData 4 = .ok (.iload_n 1, 1) := by decide +kernel
theorem d_AL_elementData_5 : decode b_AL_elementData 5 = .ok (.aaload, 1) := by decide +kernel
theorem d_AL_elementData_6 : decode b_AL_elementData 6 = .ok (.areturn, 1) := by decide +kernel
abbrev b_AL_remove : ByteArray := prog_28_method_29_code
def y_AL_remove : MethodName := ⟨"java/util/ArrayList", "remove", "(I)Ljava/lang/Object;"⟩
theorem kc_AL_remove : Cond.code y_AL_remove b_AL_remove 4 (some (.object "java/lang/Object")) ∈ xT := xin 296 (by decide +kernel) (by decide +kernel)
theorem k_AL_remove : xCode y_AL_remove b_AL_remove 4 (some (.object "java/lang/Object")) [] := Or.inl ⟨rfl, kc_AL_remove⟩
theorem h_AL_remove : plainFor y_AL_remove = true ∧ (y_AL_remove.cls ≠ "java/lang/invoke/MethodHandle" ∧ y_AL_remove.cls ≠ "java/lang/invoke/VarHandle") ∧ (parseMethodDescriptor y_AL_remove.desc).map (fun d => d.parameters.length) = some 1 := by decide +kernel
theorem v_AL_remove : Cond.instanceMethod y_AL_remove ∈ xT := xin 294 (by decide +kernel) (by decide +kernel)
theorem e_AL_remove : Cond.selects "java/util/ArrayList" y_AL_remove y_AL_remove ∈ xT := xin 295 (by decide +kernel) (by decide +kernel)
theorem d_AL_remove_0 : decode b_AL_remove 0 = .ok (.iload_n 1, 1) := by decide +kernel
theorem d_AL_remove_1 : decode b_AL_remove 1 = .ok (.aload_n 0, 1) := by decide +kernel
theorem d_AL_remove_2 : decode b_AL_remove 2 = .ok (.getfield 48, 3) := by decide +kernel
theorem d_AL_remove_5 : decode b_AL_remove 5 = .ok (.invokestatic 118, 3) := by decide +kernel
theorem d_AL_remove_8 : decode b_AL_remove 8 = .ok (.pop, 1) := by decide +kernel
theorem d_AL_remove_9 : decode b_AL_remove 9 = .ok (.aload_n 0, 1) := by decide +kernel
theorem d_AL_remove_10 : decode b_AL_remove 10 = .ok (.getfield 9, 3) := by decide +kernel
theorem d_AL_remove_13 : decode b_AL_remove 13 = .ok (.astore_n 2, 1) := by decide +kernel
theorem d_AL_remove_14 : decode b_AL_remove 14 = .ok (.aload_n 2, 1) := by decide +kernel
theorem d_AL_remove_15 : decode b_AL_remove 15 = .ok (.iload_n 1, 1) := by decide +kernel
theorem d_AL_remove_16 : decode b_AL_remove 16 = .ok (.aaload, 1) := by decide +kernel
theorem d_AL_remove_17 : decode b_AL_remove 17 = .ok (.astore_n 3, 1) := by decide +kernel
theorem d_AL_remove_18 : decode b_AL_remove 18 = .ok (.aload_n 0, 1) := by decide +kernel
theorem d_AL_remove_19 : decode b_AL_remove 19 = .ok (.aload_n 2, 1) := by decide +kernel
theorem d_AL_remove_20 : decode b_AL_remove 20 = .ok (.iload_n 1, 1) := by decide +kernel
theorem d_AL_remove_21 : decode b_AL_remove 21 = .ok (.invokevirtual 144, 3) := by decide +kernel
theorem q_297 : Cond.methodLink "java/util/ArrayList" 144 ⟨"java/util/ArrayList", "fastRemove", "([Ljava/lang/Object;I)V"⟩ ∈ xT := xin 297 (by decide +kernel) (by decide +kernel)
theorem d_AL_remove_24 : decode b_AL_remove 24 = .ok (.aload_n 3, 1) := by decide +kernel
theorem d_AL_remove_25 : decode b_AL_remove 25 = .ok (.areturn, 1) := by decide +kernel
abbrev b_AL_fastRemove : ByteArray := prog_28_method_39_code
def y_AL_fastRemove : MethodName := ⟨"java/util/ArrayList", "fastRemove", "([Ljava/lang/Object;I)V"⟩
theorem kc_AL_fastRemove : Cond.code y_AL_fastRemove b_AL_fastRemove 4 none ∈ xT := xin 300 (by decide +kernel) (by decide +kernel)
theorem k_AL_fastRemove : xCode y_AL_fastRemove b_AL_fastRemove 4 none [] := Or.inl ⟨rfl, kc_AL_fastRemove⟩
theorem h_AL_fastRemove : plainFor y_AL_fastRemove = true ∧ (y_AL_fastRemove.cls ≠ "java/lang/invoke/MethodHandle" ∧ y_AL_fastRemove.cls ≠ "java/lang/invoke/VarHandle") ∧ (parseMethodDescriptor y_AL_fastRemove.desc).map (fun d => d.parameters.length) = some 2 := by decide +kernel
theorem v_AL_fastRemove : Cond.instanceMethod y_AL_fastRemove ∈ xT := xin 299 (by decide +kernel) (by decide +kernel)
theorem e_AL_fastRemove : Cond.selects "java/util/ArrayList" y_AL_fastRemove y_AL_fastRemove ∈ xT := xinp 3 (by decide +kernel) (by decide +kernel)
theorem d_AL_fastRemove_0 : decode b_AL_fastRemove 0 = .ok (.aload_n 0, 1) := by decide +kernel
theorem d_AL_fastRemove_1 : decode b_AL_fastRemove 1 = .ok (.dup, 1) := by decide +kernel
theorem d_AL_fastRemove_2 : decode b_AL_fastRemove 2 = .ok (.getfield 63, 3) := by decide +kernel
theorem q_60 : Cond.fieldLink "java/util/ArrayList" 63 "java/util/ArrayList" "modCount" "I" ∈ xT := xin 60 (by decide +kernel) (by decide +kernel)
theorem d_AL_fastRemove_5 : decode b_AL_fastRemove 5 = .ok (.iconst 1, 1) := by decide +kernel
theorem d_AL_fastRemove_6 : decode b_AL_fastRemove 6 = .ok (.iadd, 1) := by decide +kernel
theorem d_AL_fastRemove_7 : decode b_AL_fastRemove 7 = .ok (.putfield 63, 3) := by decide +kernel
theorem d_AL_fastRemove_10 : decode b_AL_fastRemove 10 = .ok (.aload_n 0, 1) := by decide +kernel
theorem d_AL_fastRemove_11 : decode b_AL_fastRemove 11 = .ok (.getfield 48, 3) := by decide +kernel
theorem d_AL_fastRemove_14 : decode b_AL_fastRemove 14 = .ok (.iconst 1, 1) := by decide +kernel
theorem d_AL_fastRemove_15 : decode b_AL_fastRemove 15 = .ok (.isub, 1) := by decide +kernel
theorem d_AL_fastRemove_16 : decode b_AL_fastRemove 16 = .ok (.dup, 1) := by decide +kernel
theorem d_AL_fastRemove_17 : decode b_AL_fastRemove 17 = .ok (.istore_n 3, 1) := by decide +kernel
theorem d_AL_fastRemove_18 : decode b_AL_fastRemove 18 = .ok (.iload_n 2, 1) := by decide +kernel
theorem d_AL_fastRemove_19 : decode b_AL_fastRemove 19 = .ok (.if_icmp .le 15, 3) := by decide +kernel
theorem d_AL_fastRemove_22 : decode b_AL_fastRemove 22 = .ok (.aload_n 1, 1) := by decide +kernel
theorem d_AL_fastRemove_23 : decode b_AL_fastRemove 23 = .ok (.iload_n 2, 1) := by decide +kernel
theorem d_AL_fastRemove_24 : decode b_AL_fastRemove 24 = .ok (.iconst 1, 1) := by decide +kernel
theorem d_AL_fastRemove_25 : decode b_AL_fastRemove 25 = .ok (.iadd, 1) := by decide +kernel
theorem d_AL_fastRemove_26 : decode b_AL_fastRemove 26 = .ok (.aload_n 1, 1) := by decide +kernel
theorem d_AL_fastRemove_27 : decode b_AL_fastRemove 27 = .ok (.iload_n 2, 1) := by decide +kernel
theorem d_AL_fastRemove_28 : decode b_AL_fastRemove 28 = .ok (.iload_n 3, 1) := by decide +kernel
theorem d_AL_fastRemove_29 : decode b_AL_fastRemove 29 = .ok (.iload_n 2, 1) := by decide +kernel
theorem d_AL_fastRemove_30 : decode b_AL_fastRemove 30 = .ok (.isub, 1) := by decide +kernel
theorem d_AL_fastRemove_31 : decode b_AL_fastRemove 31 = .ok (.invokestatic 112, 3) := by decide +kernel
theorem q_301 : Cond.methodLink "java/util/ArrayList" 112 ⟨"java/lang/System", "arraycopy", "(Ljava/lang/Object;ILjava/lang/Object;II)V"⟩ ∈ xT := xin 301 (by decide +kernel) (by decide +kernel)
theorem d_AL_fastRemove_34 : decode b_AL_fastRemove 34 = .ok (.aload_n 1, 1) := by decide +kernel
theorem d_AL_fastRemove_35 : decode b_AL_fastRemove 35 = .ok (.aload_n 0, 1) := by decide +kernel
theorem d_AL_fastRemove_36 : decode b_AL_fastRemove 36 = .ok (.iload_n 3, 1) := by decide +kernel
theorem d_AL_fastRemove_37 : decode b_AL_fastRemove 37 = .ok (.dup_x1, 1) := by decide +kernel
theorem d_AL_fastRemove_38 : decode b_AL_fastRemove 38 = .ok (.putfield 48, 3) := by decide +kernel
theorem d_AL_fastRemove_41 : decode b_AL_fastRemove 41 = .ok (.aconst_null, 1) := by decide +kernel
theorem d_AL_fastRemove_42 : decode b_AL_fastRemove 42 = .ok (.aastore, 1) := by decide +kernel
theorem d_AL_fastRemove_43 : decode b_AL_fastRemove 43 = .ok (.return_, 1) := by decide +kernel
abbrev b_AL_add1 : ByteArray := prog_28_method_25_code
def y_AL_add1 : MethodName := ⟨"java/util/ArrayList", "add", "(Ljava/lang/Object;)Z"⟩
theorem kc_AL_add1 : Cond.code y_AL_add1 b_AL_add1 2 (some .boolean) ∈ xT := xin 337 (by decide +kernel) (by decide +kernel)
theorem k_AL_add1 : xCode y_AL_add1 b_AL_add1 2 (some .boolean) [] := Or.inl ⟨rfl, kc_AL_add1⟩
theorem h_AL_add1 : plainFor y_AL_add1 = true ∧ (y_AL_add1.cls ≠ "java/lang/invoke/MethodHandle" ∧ y_AL_add1.cls ≠ "java/lang/invoke/VarHandle") ∧ (parseMethodDescriptor y_AL_add1.desc).map (fun d => d.parameters.length) = some 1 := by decide +kernel
theorem v_AL_add1 : Cond.instanceMethod y_AL_add1 ∈ xT := xin 335 (by decide +kernel) (by decide +kernel)
theorem e_AL_add1 : Cond.selects "java/util/ArrayList" y_AL_add1 y_AL_add1 ∈ xT := xin 336 (by decide +kernel) (by decide +kernel)
theorem d_AL_add1_0 : decode b_AL_add1 0 = .ok (.aload_n 0, 1) := by decide +kernel
theorem d_AL_add1_1 : decode b_AL_add1 1 = .ok (.dup, 1) := by decide +kernel
theorem d_AL_add1_2 : decode b_AL_add1 2 = .ok (.getfield 63, 3) := by decide +kernel
theorem d_AL_add1_5 : decode b_AL_add1 5 = .ok (.iconst 1, 1) := by decide +kernel
theorem d_AL_add1_6 : decode b_AL_add1 6 = .ok (.iadd, 1) := by decide +kernel
theorem d_AL_add1_7 : decode b_AL_add1 7 = .ok (.putfield 63, 3) := by decide +kernel
theorem d_AL_add1_10 : decode b_AL_add1 10 = .ok (.aload_n 0, 1) := by decide +kernel
theorem d_AL_add1_11 : decode b_AL_add1 11 = .ok (.aload_n 1, 1) := by decide +kernel
theorem d_AL_add1_12 : decode b_AL_add1 12 = .ok (.aload_n 0, 1) := by decide +kernel
theorem d_AL_add1_13 : decode b_AL_add1 13 = .ok (.getfield 9, 3) := by decide +kernel
theorem d_AL_add1_16 : decode b_AL_add1 16 = .ok (.aload_n 0, 1) := by decide +kernel
theorem d_AL_add1_17 : decode b_AL_add1 17 = .ok (.getfield 48, 3) := by decide +kernel
theorem d_AL_add1_20 : decode b_AL_add1 20 = .ok (.invokevirtual 131, 3) := by decide +kernel
theorem q_338 : Cond.methodLink "java/util/ArrayList" 131 ⟨"java/util/ArrayList", "add", "(Ljava/lang/Object;[Ljava/lang/Object;I)V"⟩ ∈ xT := xin 338 (by decide +kernel) (by decide +kernel)
theorem d_AL_add1_23 : decode b_AL_add1 23 = .ok (.iconst 1, 1) := by decide +kernel
theorem d_AL_add1_24 : decode b_AL_add1 24 = .ok (.ireturn, 1) := by decide +kernel
abbrev b_AL_add3 : ByteArray := prog_28_method_24_code
def y_AL_add3 : MethodName := ⟨"java/util/ArrayList", "add", "(Ljava/lang/Object;[Ljava/lang/Object;I)V"⟩
theorem kc_AL_add3 : Cond.code y_AL_add3 b_AL_add3 4 none ∈ xT := xin 341 (by decide +kernel) (by decide +kernel)
theorem k_AL_add3 : xCode y_AL_add3 b_AL_add3 4 none [] := Or.inl ⟨rfl, kc_AL_add3⟩
theorem h_AL_add3 : plainFor y_AL_add3 = true ∧ (y_AL_add3.cls ≠ "java/lang/invoke/MethodHandle" ∧ y_AL_add3.cls ≠ "java/lang/invoke/VarHandle") ∧ (parseMethodDescriptor y_AL_add3.desc).map (fun d => d.parameters.length) = some 3 := by decide +kernel
theorem v_AL_add3 : Cond.instanceMethod y_AL_add3 ∈ xT := xin 340 (by decide +kernel) (by decide +kernel)
theorem e_AL_add3 : Cond.selects "java/util/ArrayList" y_AL_add3 y_AL_add3 ∈ xT := xinp 4 (by decide +kernel) (by decide +kernel)
theorem d_AL_add3_0 : decode b_AL_add3 0 = .ok (.iload_n 3, 1) := by decide +kernel
theorem d_AL_add3_1 : decode b_AL_add3 1 = .ok (.aload_n 2, 1) := by decide +kernel
theorem d_AL_add3_2 : decode b_AL_add3 2 = .ok (.arraylength, 1) := by decide +kernel
theorem d_AL_add3_3 : decode b_AL_add3 3 = .ok (.if_icmp .ne 8, 3) := by decide +kernel
theorem d_AL_add3_6 : decode b_AL_add3 6 = .ok (.aload_n 0, 1) := by decide +kernel
theorem d_AL_add3_7 : decode b_AL_add3 7 = .ok (.invokevirtual 129, 3) := by decide +kernel
theorem q_342 : Cond.methodLink "java/util/ArrayList" 129 ⟨"java/util/ArrayList", "grow", "()[Ljava/lang/Object;"⟩ ∈ xT := xin 342 (by decide +kernel) (by decide +kernel)
theorem d_AL_add3_10 : decode b_AL_add3 10 = .ok (.astore_n 2, 1) := by decide +kernel
theorem d_AL_add3_11 : decode b_AL_add3 11 = .ok (.aload_n 2, 1) := by decide +kernel
theorem d_AL_add3_12 : decode b_AL_add3 12 = .ok (.iload_n 3, 1) := by decide +kernel
theorem d_AL_add3_13 : decode b_AL_add3 13 = .ok (.aload_n 1, 1) := by decide +kernel
theorem d_AL_add3_14 : decode b_AL_add3 14 = .ok (.aastore, 1) := by decide +kernel
theorem d_AL_add3_15 : decode b_AL_add3 15 = .ok (.aload_n 0, 1) := by decide +kernel
theorem d_AL_add3_16 : decode b_AL_add3 16 = .ok (.iload_n 3, 1) := by decide +kernel
theorem d_AL_add3_17 : decode b_AL_add3 17 = .ok (.iconst 1, 1) := by decide +kernel
theorem d_AL_add3_18 : decode b_AL_add3 18 = .ok (.iadd, 1) := by decide +kernel
theorem d_AL_add3_19 : decode b_AL_add3 19 = .ok (.putfield 48, 3) := by decide +kernel
theorem d_AL_add3_22 : decode b_AL_add3 22 = .ok (.return_, 1) := by decide +kernel
abbrev b_AL_grow0 : ByteArray := prog_28_method_7_code
def y_AL_grow0 : MethodName := ⟨"java/util/ArrayList", "grow", "()[Ljava/lang/Object;"⟩
theorem kc_AL_grow0 : Cond.code y_AL_grow0 b_AL_grow0 1 (some (.array (.object "java/lang/Object"))) ∈ xT := xin 345 (by decide +kernel) (by decide +kernel)
theorem k_AL_grow0 : xCode y_AL_grow0 b_AL_grow0 1 (some (.array (.object "java/lang/Object"))) [] := Or.inl ⟨rfl, kc_AL_grow0⟩
theorem h_AL_grow0 : plainFor y_AL_grow0 = true ∧ (y_AL_grow0.cls ≠ "java/lang/invoke/MethodHandle" ∧ y_AL_grow0.cls ≠ "java/lang/invoke/VarHandle") ∧ (parseMethodDescriptor y_AL_grow0.desc).map (fun d => d.parameters.length) = some 0 := by decide +kernel
theorem v_AL_grow0 : Cond.instanceMethod y_AL_grow0 ∈ xT := xin 344 (by decide +kernel) (by decide +kernel)
theorem e_AL_grow0 : Cond.selects "java/util/ArrayList" y_AL_grow0 y_AL_grow0 ∈ xT := xinp 5 (by decide +kernel) (by decide +kernel)
theorem d_AL_grow0_0 : decode b_AL_grow0 0 = .ok (.aload_n 0, 1) := by decide +kernel
theorem d_AL_grow0_1 : decode b_AL_grow0 1 = .ok (.aload_n 0, 1) := by decide +kernel
theorem d_AL_grow0_2 : decode b_AL_grow0 2 = .ok (.getfield 48, 3) := by decide +kernel
theorem d_AL_grow0_5 : decode b_AL_grow0 5 = .ok (.iconst 1, 1) := by decide +kernel
theorem d_AL_grow0_6 : decode b_AL_grow0 6 = .ok (.iadd, 1) := by decide +kernel
theorem d_AL_grow0_7 : decode b_AL_grow0 7 = .ok (.invokevirtual 69, 3) := by decide +kernel
theorem q_346 : Cond.methodLink "java/util/ArrayList" 69 ⟨"java/util/ArrayList", "grow", "(I)[Ljava/lang/Object;"⟩ ∈ xT := xin 346 (by decide +kernel) (by decide +kernel)
theorem d_AL_grow0_10 : decode b_AL_grow0 10 = .ok (.areturn, 1) := by decide +kernel
abbrev b_AL_grow1 : ByteArray := prog_28_method_6_code
def y_AL_grow1 : MethodName := ⟨"java/util/ArrayList", "grow", "(I)[Ljava/lang/Object;"⟩
theorem kc_AL_grow1 : Cond.code y_AL_grow1 b_AL_grow1 4 (some (.array (.object "java/lang/Object"))) ∈ xT := xin 349 (by decide +kernel) (by decide +kernel)
theorem k_AL_grow1 : xCode y_AL_grow1 b_AL_grow1 4 (some (.array (.object "java/lang/Object"))) [] := Or.inl ⟨rfl, kc_AL_grow1⟩
theorem h_AL_grow1 : plainFor y_AL_grow1 = true ∧ (y_AL_grow1.cls ≠ "java/lang/invoke/MethodHandle" ∧ y_AL_grow1.cls ≠ "java/lang/invoke/VarHandle") ∧ (parseMethodDescriptor y_AL_grow1.desc).map (fun d => d.parameters.length) = some 1 := by decide +kernel
theorem v_AL_grow1 : Cond.instanceMethod y_AL_grow1 ∈ xT := xin 348 (by decide +kernel) (by decide +kernel)
theorem e_AL_grow1 : Cond.selects "java/util/ArrayList" y_AL_grow1 y_AL_grow1 ∈ xT := xinp 6 (by decide +kernel) (by decide +kernel)
theorem d_AL_grow1_0 : decode b_AL_grow1 0 = .ok (.aload_n 0, 1) := by decide +kernel
theorem d_AL_grow1_1 : decode b_AL_grow1 1 = .ok (.getfield 9, 3) := by decide +kernel
theorem d_AL_grow1_4 : decode b_AL_grow1 4 = .ok (.arraylength, 1) := by decide +kernel
theorem d_AL_grow1_5 : decode b_AL_grow1 5 = .ok (.istore_n 2, 1) := by decide +kernel
theorem d_AL_grow1_6 : decode b_AL_grow1 6 = .ok (.iload_n 2, 1) := by decide +kernel
theorem d_AL_grow1_7 : decode b_AL_grow1 7 = .ok (.ifCond .gt 13, 3) := by decide +kernel
theorem d_AL_grow1_10 : decode b_AL_grow1 10 = .ok (.aload_n 0, 1) := by decide +kernel
theorem d_AL_grow1_11 : decode b_AL_grow1 11 = .ok (.getfield 9, 3) := by decide +kernel
theorem d_AL_grow1_14 : decode b_AL_grow1 14 = .ok (.getstatic 39, 3) := by decide +kernel
theorem d_AL_grow1_17 : decode b_AL_grow1 17 = .ok (.if_acmp .eq 28, 3) := by decide +kernel
theorem d_AL_grow1_20 : decode b_AL_grow1 20 = .ok (.iload_n 2, 1) := by decide +kernel
theorem d_AL_grow1_21 : decode b_AL_grow1 21 = .ok (.iload_n 1, 1) := by decide +kernel
theorem d_AL_grow1_22 : decode b_AL_grow1 22 = .ok (.iload_n 2, 1) := by decide +kernel
theorem d_AL_grow1_23 : decode b_AL_grow1 23 = .ok (.isub, 1) := by decide +kernel
theorem d_AL_grow1_24 : decode b_AL_grow1 24 = .ok (.iload_n 2, 1) := by decide +kernel
theorem d_AL_grow1_25 : decode b_AL_grow1 25 = .ok (.iconst 1, 1) := by decide +kernel
theorem d_AL_grow1_26 : decode b_AL_grow1 26 = .ok (.ishr, 1) := by decide +kernel
theorem d_AL_grow1_27 : decode b_AL_grow1 27 = .ok (.invokestatic 73, 3) := by decide +kernel
theorem q_350 : Cond.methodLink "java/util/ArrayList" 73 ⟨"jdk/internal/util/ArraysSupport", "newLength", "(III)I"⟩ ∈ xT := xin 350 (by decide +kernel) (by decide +kernel)
theorem d_AL_grow1_30 : decode b_AL_grow1 30 = .ok (.istore_n 3, 1) := by decide +kernel
theorem d_AL_grow1_31 : decode b_AL_grow1 31 = .ok (.aload_n 0, 1) := by decide +kernel
theorem d_AL_grow1_32 : decode b_AL_grow1 32 = .ok (.aload_n 0, 1) := by decide +kernel
theorem d_AL_grow1_33 : decode b_AL_grow1 33 = .ok (.getfield 9, 3) := by decide +kernel
theorem d_AL_grow1_36 : decode b_AL_grow1 36 = .ok (.iload_n 3, 1) := by decide +kernel
theorem d_AL_grow1_37 : decode b_AL_grow1 37 = .ok (.invokestatic 66, 3) := by decide +kernel
theorem q_360 : Cond.methodLink "java/util/ArrayList" 66 ⟨"java/util/Arrays", "copyOf", "([Ljava/lang/Object;I)[Ljava/lang/Object;"⟩ ∈ xT := xin 360 (by decide +kernel) (by decide +kernel)
theorem d_AL_grow1_40 : decode b_AL_grow1 40 = .ok (.dup_x1, 1) := by decide +kernel
theorem d_AL_grow1_41 : decode b_AL_grow1 41 = .ok (.putfield 9, 3) := by decide +kernel
theorem d_AL_grow1_44 : decode b_AL_grow1 44 = .ok (.areturn, 1) := by decide +kernel
theorem d_AL_grow1_45 : decode b_AL_grow1 45 = .ok (.aload_n 0, 1) := by decide +kernel
theorem d_AL_grow1_46 : decode b_AL_grow1 46 = .ok (.bipush 10, 2) := by decide +kernel
theorem d_AL_grow1_48 : decode b_AL_grow1 48 = .ok (.iload_n 1, 1) := by decide +kernel
theorem d_AL_grow1_49 : decode b_AL_grow1 49 = .ok (.invokestatic 79, 3) := by decide +kernel
theorem q_390 : Cond.methodLink "java/util/ArrayList" 79 ⟨"java/lang/Math", "max", "(II)I"⟩ ∈ xT := xin 390 (by decide +kernel) (by decide +kernel)
theorem d_AL_grow1_52 : decode b_AL_grow1 52 = .ok (.anewarray 7, 3) := by decide +kernel
theorem q_391 : Cond.classLink "java/util/ArrayList" 7 "java/lang/Object" ∈ xT := xin 391 (by decide +kernel) (by decide +kernel)
theorem d_AL_grow1_55 : decode b_AL_grow1 55 = .ok (.dup_x1, 1) := by decide +kernel
theorem d_AL_grow1_56 : decode b_AL_grow1 56 = .ok (.putfield 9, 3) := by decide +kernel
theorem d_AL_grow1_59 : decode b_AL_grow1 59 = .ok (.areturn, 1) := by decide +kernel
abbrev b_AS_newLength : ByteArray := prog_35_method_27_code
def y_AS_newLength : MethodName := ⟨"jdk/internal/util/ArraysSupport", "newLength", "(III)I"⟩
theorem kc_AS_newLength : Cond.code y_AS_newLength b_AS_newLength 4 (some .int) ∈ xT := xin 352 (by decide +kernel) (by decide +kernel)
theorem k_AS_newLength : xCode y_AS_newLength b_AS_newLength 4 (some .int) [] := Or.inl ⟨rfl, kc_AS_newLength⟩
theorem h_AS_newLength : plainFor y_AS_newLength = true ∧ (y_AS_newLength.cls ≠ "java/lang/invoke/MethodHandle" ∧ y_AS_newLength.cls ≠ "java/lang/invoke/VarHandle") ∧ (parseMethodDescriptor y_AS_newLength.desc).map (fun d => d.parameters.length) = some 3 := by decide +kernel
theorem s_AS_newLength : Cond.static y_AS_newLength ∈ xT := xin 351 (by decide +kernel) (by decide +kernel)
theorem in_AS_newLength : Cond.initialized y_AS_newLength.cls ∈ xT := xin 19 (by decide +kernel) (by decide +kernel)
theorem d_AS_newLength_0 : decode b_AS_newLength 0 = .ok (.iload_n 0, 1) := by decide +kernel
theorem d_AS_newLength_1 : decode b_AS_newLength 1 = .ok (.iload_n 1, 1) := by decide +kernel
theorem d_AS_newLength_2 : decode b_AS_newLength 2 = .ok (.iload_n 2, 1) := by decide +kernel
theorem d_AS_newLength_3 : decode b_AS_newLength 3 = .ok (.invokestatic 194, 3) := by decide +kernel
theorem q_353 : Cond.methodLink "jdk/internal/util/ArraysSupport" 194 ⟨"java/lang/Math", "max", "(II)I"⟩ ∈ xT := xin 353 (by decide +kernel) (by decide +kernel)
theorem d_AS_newLength_6 : decode b_AS_newLength 6 = .ok (.iadd, 1) := by decide +kernel
theorem d_AS_newLength_7 : decode b_AS_newLength 7 = .ok (.istore_n 3, 1) := by decide +kernel
theorem d_AS_newLength_8 : decode b_AS_newLength 8 = .ok (.iconst 0, 1) := by decide +kernel
theorem d_AS_newLength_9 : decode b_AS_newLength 9 = .ok (.iload_n 3, 1) := by decide +kernel
theorem d_AS_newLength_10 : decode b_AS_newLength 10 = .ok (.if_icmp .ge 11, 3) := by decide +kernel
theorem d_AS_newLength_13 : decode b_AS_newLength 13 = .ok (.iload_n 3, 1) := by decide +kernel
theorem d_AS_newLength_14 : decode b_AS_newLength 14 = .ok (.ldc 200, 2) := by decide +kernel
theorem q_356 : Cond.constant "jdk/internal/util/ArraysSupport" 200 (2147483639) ∈ xT := xin 356 (by decide +kernel) (by decide +kernel)
theorem d_AS_newLength_16 : decode b_AS_newLength 16 = .ok (.if_icmp .gt 5, 3) := by decide +kernel
theorem d_AS_newLength_19 : decode b_AS_newLength 19 = .ok (.iload_n 3, 1) := by decide +kernel
theorem d_AS_newLength_20 : decode b_AS_newLength 20 = .ok (.ireturn, 1) := by decide +kernel
theorem d_AS_newLength_21 : decode b_AS_newLength 21 = .ok (.iload_n 0, 1) := by decide +kernel
theorem d_AS_newLength_22 : decode b_AS_newLength 22 = .ok (.iload_n 1, 1) := by decide +kernel
theorem d_AS_newLength_23 : decode b_AS_newLength 23 = .ok (.invokestatic 201, 3) := by decide +kernel
theorem q_357 : Cond.methodLink "jdk/internal/util/ArraysSupport" 201 ⟨"jdk/internal/util/ArraysSupport", "hugeLength", "(II)I"⟩ ∈ xT := xin 357 (by decide +kernel) (by decide +kernel)
theorem d_AS_newLength_26 : decode b_AS_newLength 26 = .ok (.ireturn, 1) := by decide +kernel
abbrev b_AS_hugeLength : ByteArray := prog_35_method_28_code
def y_AS_hugeLength : MethodName := ⟨"jdk/internal/util/ArraysSupport", "hugeLength", "(II)I"⟩
theorem kc_AS_hugeLength : Cond.code y_AS_hugeLength b_AS_hugeLength 3 (some .int) ∈ xT := xin 359 (by decide +kernel) (by decide +kernel)
theorem k_AS_hugeLength : xCode y_AS_hugeLength b_AS_hugeLength 3 (some .int) [] := Or.inl ⟨rfl, kc_AS_hugeLength⟩
theorem h_AS_hugeLength : plainFor y_AS_hugeLength = true ∧ (y_AS_hugeLength.cls ≠ "java/lang/invoke/MethodHandle" ∧ y_AS_hugeLength.cls ≠ "java/lang/invoke/VarHandle") ∧ (parseMethodDescriptor y_AS_hugeLength.desc).map (fun d => d.parameters.length) = some 2 := by decide +kernel
theorem s_AS_hugeLength : Cond.static y_AS_hugeLength ∈ xT := xin 358 (by decide +kernel) (by decide +kernel)
theorem in_AS_hugeLength : Cond.initialized y_AS_hugeLength.cls ∈ xT := xin 19 (by decide +kernel) (by decide +kernel)
theorem d_AS_hugeLength_0 : decode b_AS_hugeLength 0 = .ok (.iload_n 0, 1) := by decide +kernel
theorem d_AS_hugeLength_1 : decode b_AS_hugeLength 1 = .ok (.iload_n 1, 1) := by decide +kernel
theorem d_AS_hugeLength_2 : decode b_AS_hugeLength 2 = .ok (.iadd, 1) := by decide +kernel
theorem d_AS_hugeLength_3 : decode b_AS_hugeLength 3 = .ok (.istore_n 2, 1) := by decide +kernel
theorem d_AS_hugeLength_4 : decode b_AS_hugeLength 4 = .ok (.iload_n 2, 1) := by decide +kernel
theorem d_AS_hugeLength_5 : decode b_AS_hugeLength 5 = .ok (.ifCond .ge 44, 3) := by decide +kernel
theorem d_AS_hugeLength_8 : decode b_AS_hugeLength 8 = .ok (.new 204, 3) := by decide +kernel
theorem d_AS_hugeLength_11 : decode b_AS_hugeLength 11 = .ok (.dup, 1) := by decide +kernel
theorem d_AS_hugeLength_12 : decode b_AS_hugeLength 12 = .ok (.new 89, 3) := by decide +kernel
theorem d_AS_hugeLength_15 : decode b_AS_hugeLength 15 = .ok (.dup, 1) := by decide +kernel
theorem d_AS_hugeLength_16 : decode b_AS_hugeLength 16 = .ok (.invokespecial 91, 3) := by decide +kernel
theorem d_AS_hugeLength_19 : decode b_AS_hugeLength 19 = .ok (.ldc 206, 2) := by decide +kernel
theorem d_AS_hugeLength_21 : decode b_AS_hugeLength 21 = .ok (.invokevirtual 94, 3) := by decide +kernel
theorem d_AS_hugeLength_24 : decode b_AS_hugeLength 24 = .ok (.iload_n 0, 1) := by decide +kernel
theorem d_AS_hugeLength_25 : decode b_AS_hugeLength 25 = .ok (.invokevirtual 98, 3) := by decide +kernel
theorem d_AS_hugeLength_28 : decode b_AS_hugeLength 28 = .ok (.ldc 208, 2) := by decide +kernel
theorem d_AS_hugeLength_30 : decode b_AS_hugeLength 30 = .ok (.invokevirtual 94, 3) := by decide +kernel
theorem d_AS_hugeLength_33 : decode b_AS_hugeLength 33 = .ok (.iload_n 1, 1) := by decide +kernel
theorem d_AS_hugeLength_34 : decode b_AS_hugeLength 34 = .ok (.invokevirtual 98, 3) := by decide +kernel
theorem d_AS_hugeLength_37 : decode b_AS_hugeLength 37 = .ok (.ldc 210, 2) := by decide +kernel
theorem d_AS_hugeLength_39 : decode b_AS_hugeLength 39 = .ok (.invokevirtual 94, 3) := by decide +kernel
theorem d_AS_hugeLength_42 : decode b_AS_hugeLength 42 = .ok (.invokevirtual 101, 3) := by decide +kernel
theorem d_AS_hugeLength_45 : decode b_AS_hugeLength 45 = .ok (.invokespecial 212, 3) := by decide +kernel
theorem d_AS_hugeLength_48 : decode b_AS_hugeLength 48 = .ok (.athrow, 1) := by decide +kernel
theorem d_AS_hugeLength_49 : decode b_AS_hugeLength 49 = .ok (.iload_n 2, 1) := by decide +kernel
theorem d_AS_hugeLength_50 : decode b_AS_hugeLength 50 = .ok (.ldc 200, 2) := by decide +kernel
theorem d_AS_hugeLength_52 : decode b_AS_hugeLength 52 = .ok (.if_icmp .gt 6, 3) := by decide +kernel
theorem d_AS_hugeLength_55 : decode b_AS_hugeLength 55 = .ok (.ldc 200, 2) := by decide +kernel
theorem d_AS_hugeLength_57 : decode b_AS_hugeLength 57 = .ok (.ireturn, 1) := by decide +kernel
theorem d_AS_hugeLength_58 : decode b_AS_hugeLength 58 = .ok (.iload_n 2, 1) := by decide +kernel
theorem d_AS_hugeLength_59 : decode b_AS_hugeLength 59 = .ok (.ireturn, 1) := by decide +kernel
abbrev b_AR_copyO2 : ByteArray := prog_29_method_119_code
def y_AR_copyO2 : MethodName := ⟨"java/util/Arrays", "copyOf", "([Ljava/lang/Object;I)[Ljava/lang/Object;"⟩
theorem kc_AR_copyO2 : Cond.code y_AR_copyO2 b_AR_copyO2 2 (some (.array (.object "java/lang/Object"))) ∈ xT := xin 362 (by decide +kernel) (by decide +kernel)
theorem k_AR_copyO2 : xCode y_AR_copyO2 b_AR_copyO2 2 (some (.array (.object "java/lang/Object"))) [] := Or.inl ⟨rfl, kc_AR_copyO2⟩
theorem h_AR_copyO2 : plainFor y_AR_copyO2 = true ∧ (y_AR_copyO2.cls ≠ "java/lang/invoke/MethodHandle" ∧ y_AR_copyO2.cls ≠ "java/lang/invoke/VarHandle") ∧ (parseMethodDescriptor y_AR_copyO2.desc).map (fun d => d.parameters.length) = some 2 := by decide +kernel
theorem s_AR_copyO2 : Cond.static y_AR_copyO2 ∈ xT := xin 361 (by decide +kernel) (by decide +kernel)
theorem in_AR_copyO2 : Cond.initialized y_AR_copyO2.cls ∈ xT := xin 21 (by decide +kernel) (by decide +kernel)
theorem d_AR_copyO2_0 : decode b_AR_copyO2 0 = .ok (.aload_n 0, 1) := by decide +kernel
theorem d_AR_copyO2_1 : decode b_AR_copyO2 1 = .ok (.iload_n 1, 1) := by decide +kernel
theorem d_AR_copyO2_2 : decode b_AR_copyO2 2 = .ok (.aload_n 0, 1) := by decide +kernel
theorem d_AR_copyO2_3 : decode b_AR_copyO2 3 = .ok (.invokevirtual 86, 3) := by decide +kernel
theorem q_363 : Cond.methodLink "java/util/Arrays" 86 ⟨"java/lang/Object", "getClass", "()Ljava/lang/Class;"⟩ ∈ xT := xin 363 (by decide +kernel) (by decide +kernel)
theorem d_AR_copyO2_6 : decode b_AR_copyO2 6 = .ok (.invokestatic 300, 3) := by decide +kernel
theorem q_380 : Cond.methodLink "java/util/Arrays" 300 ⟨"java/util/Arrays", "copyOf", "([Ljava/lang/Object;ILjava/lang/Class;)[Ljava/lang/Object;"⟩ ∈ xT := xin 380 (by decide +kernel) (by decide +kernel)
theorem d_AR_copyO2_9 : decode b_AR_copyO2 9 = .ok (.areturn, 1) := by decide +kernel
abbrev b_AR_copyO3 : ByteArray := prog_29_method_120_code
def y_AR_copyO3 : MethodName := ⟨"java/util/Arrays", "copyOf", "([Ljava/lang/Object;ILjava/lang/Class;)[Ljava/lang/Object;"⟩
theorem kc_AR_copyO3 : Cond.code y_AR_copyO3 b_AR_copyO3 4 (some (.array (.object "java/lang/Object"))) ∈ xT := xin 382 (by decide +kernel) (by decide +kernel)
theorem k_AR_copyO3 : xCode y_AR_copyO3 b_AR_copyO3 4 (some (.array (.object "java/lang/Object"))) [] := Or.inl ⟨rfl, kc_AR_copyO3⟩
theorem h_AR_copyO3 : plainFor y_AR_copyO3 = true ∧ (y_AR_copyO3.cls ≠ "java/lang/invoke/MethodHandle" ∧ y_AR_copyO3.cls ≠ "java/lang/invoke/VarHandle") ∧ (parseMethodDescriptor y_AR_copyO3.desc).map (fun d => d.parameters.length) = some 3 := by decide +kernel
theorem s_AR_copyO3 : Cond.static y_AR_copyO3 ∈ xT := xin 381 (by decide +kernel) (by decide +kernel)
theorem in_AR_copyO3 : Cond.initialized y_AR_copyO3.cls ∈ xT := xin 21 (by decide +kernel) (by decide +kernel)
theorem d_AR_copyO3_0 : decode b_AR_copyO3 0 = .ok (.aload_n 2, 1) := by decide +kernel
theorem d_AR_copyO3_1 : decode b_AR_copyO3 1 = .ok (.ldc 110, 2) := by decide +kernel
theorem q_383 : Cond.classLink "java/util/Arrays" 110 "[Ljava/lang/Object;" ∈ xT := xin 383 (by decide +kernel) (by decide +kernel)
theorem d_AR_copyO3_3 : decode b_AR_copyO3 3 = .ok (.if_acmp .ne 10, 3) := by decide +kernel
theorem d_AR_copyO3_6 : decode b_AR_copyO3 6 = .ok (.iload_n 1, 1) := by decide +kernel
theorem d_AR_copyO3_7 : decode b_AR_copyO3 7 = .ok (.anewarray 2, 3) := by decide +kernel
theorem q_385 : Cond.classLink "java/util/Arrays" 2 "java/lang/Object" ∈ xT := xin 385 (by decide +kernel) (by decide +kernel)
theorem d_AR_copyO3_10 : decode b_AR_copyO3 10 = .ok (.goto 14, 3) := by decide +kernel
theorem d_AR_copyO3_13 : decode b_AR_copyO3 13 = .ok (.aload_n 2, 1) := by decide +kernel
theorem d_AR_copyO3_14 : decode b_AR_copyO3 14 = .ok (.invokevirtual 90, 3) := by decide +kernel
theorem d_AR_copyO3_17 : decode b_AR_copyO3 17 = .ok (.iload_n 1, 1) := by decide +kernel
theorem d_AR_copyO3_18 : decode b_AR_copyO3 18 = .ok (.invokestatic 95, 3) := by decide +kernel
theorem d_AR_copyO3_21 : decode b_AR_copyO3 21 = .ok (.checkcast 110, 3) := by decide +kernel
theorem d_AR_copyO3_24 : decode b_AR_copyO3 24 = .ok (.astore_n 3, 1) := by decide +kernel
theorem d_AR_copyO3_25 : decode b_AR_copyO3 25 = .ok (.aload_n 0, 1) := by decide +kernel
theorem d_AR_copyO3_26 : decode b_AR_copyO3 26 = .ok (.iconst 0, 1) := by decide +kernel
theorem d_AR_copyO3_27 : decode b_AR_copyO3 27 = .ok (.aload_n 3, 1) := by decide +kernel
theorem d_AR_copyO3_28 : decode b_AR_copyO3 28 = .ok (.iconst 0, 1) := by decide +kernel
theorem d_AR_copyO3_29 : decode b_AR_copyO3 29 = .ok (.aload_n 0, 1) := by decide +kernel
theorem d_AR_copyO3_30 : decode b_AR_copyO3 30 = .ok (.arraylength, 1) := by decide +kernel
theorem d_AR_copyO3_31 : decode b_AR_copyO3 31 = .ok (.iload_n 1, 1) := by decide +kernel
theorem d_AR_copyO3_32 : decode b_AR_copyO3 32 = .ok (.invokestatic 304, 3) := by decide +kernel
theorem q_386 : Cond.methodLink "java/util/Arrays" 304 ⟨"java/lang/Math", "min", "(II)I"⟩ ∈ xT := xin 386 (by decide +kernel) (by decide +kernel)
theorem d_AR_copyO3_35 : decode b_AR_copyO3 35 = .ok (.invokestatic 150, 3) := by decide +kernel
theorem q_389 : Cond.methodLink "java/util/Arrays" 150 ⟨"java/lang/System", "arraycopy", "(Ljava/lang/Object;ILjava/lang/Object;II)V"⟩ ∈ xT := xin 389 (by decide +kernel) (by decide +kernel)
theorem d_AR_copyO3_38 : decode b_AR_copyO3 38 = .ok (.aload_n 3, 1) := by decide +kernel
theorem d_AR_copyO3_39 : decode b_AR_copyO3 39 = .ok (.areturn, 1) := by decide +kernel
abbrev b_AL_set : ByteArray := prog_28_method_23_code
def y_AL_set : MethodName := ⟨"java/util/ArrayList", "set", "(ILjava/lang/Object;)Ljava/lang/Object;"⟩
theorem kc_AL_set : Cond.code y_AL_set b_AL_set 4 (some (.object "java/lang/Object")) ∈ xT := xin 442 (by decide +kernel) (by decide +kernel)
theorem k_AL_set : xCode y_AL_set b_AL_set 4 (some (.object "java/lang/Object")) [] := Or.inl ⟨rfl, kc_AL_set⟩
theorem h_AL_set : plainFor y_AL_set = true ∧ (y_AL_set.cls ≠ "java/lang/invoke/MethodHandle" ∧ y_AL_set.cls ≠ "java/lang/invoke/VarHandle") ∧ (parseMethodDescriptor y_AL_set.desc).map (fun d => d.parameters.length) = some 2 := by decide +kernel
theorem v_AL_set : Cond.instanceMethod y_AL_set ∈ xT := xin 440 (by decide +kernel) (by decide +kernel)
theorem e_AL_set : Cond.selects "java/util/ArrayList" y_AL_set y_AL_set ∈ xT := xin 441 (by decide +kernel) (by decide +kernel)
theorem d_AL_set_0 : decode b_AL_set 0 = .ok (.iload_n 1, 1) := by decide +kernel
theorem d_AL_set_1 : decode b_AL_set 1 = .ok (.aload_n 0, 1) := by decide +kernel
theorem d_AL_set_2 : decode b_AL_set 2 = .ok (.getfield 48, 3) := by decide +kernel
theorem d_AL_set_5 : decode b_AL_set 5 = .ok (.invokestatic 118, 3) := by decide +kernel
theorem d_AL_set_8 : decode b_AL_set 8 = .ok (.pop, 1) := by decide +kernel
theorem d_AL_set_9 : decode b_AL_set 9 = .ok (.aload_n 0, 1) := by decide +kernel
theorem d_AL_set_10 : decode b_AL_set 10 = .ok (.iload_n 1, 1) := by decide +kernel
theorem d_AL_set_11 : decode b_AL_set 11 = .ok (.invokevirtual 123, 3) := by decide +kernel
theorem d_AL_set_14 : decode b_AL_set 14 = .ok (.astore_n 3, 1) := by decide +kernel
theorem d_AL_set_15 : decode b_AL_set 15 = .ok (.aload_n 0, 1) := by decide +kernel
theorem d_AL_set_16 : decode b_AL_set 16 = .ok (.getfield 9, 3) := by decide +kernel
theorem d_AL_set_19 : decode b_AL_set 19 = .ok (.iload_n 1, 1) := by decide +kernel
theorem d_AL_set_20 : decode b_AL_set 20 = .ok (.aload_n 2, 1) := by decide +kernel
theorem d_AL_set_21 : decode b_AL_set 21 = .ok (.aastore, 1) := by decide +kernel
theorem d_AL_set_22 : decode b_AL_set 22 = .ok (.aload_n 3, 1) := by decide +kernel
theorem d_AL_set_23 : decode b_AL_set 23 = .ok (.areturn, 1) := by decide +kernel
abbrev b_AR_copyB : ByteArray := prog_29_method_121_code
def y_AR_copyB : MethodName := ⟨"java/util/Arrays", "copyOf", "([BI)[B"⟩
theorem kc_AR_copyB : Cond.code y_AR_copyB b_AR_copyB 3 (some (.array .byte)) ∈ xT := xin 453 (by decide +kernel) (by decide +kernel)
theorem k_AR_copyB : xCode y_AR_copyB b_AR_copyB 3 (some (.array .byte)) [] := Or.inl ⟨rfl, kc_AR_copyB⟩
theorem h_AR_copyB : plainFor y_AR_copyB = true ∧ (y_AR_copyB.cls ≠ "java/lang/invoke/MethodHandle" ∧ y_AR_copyB.cls ≠ "java/lang/invoke/VarHandle") ∧ (parseMethodDescriptor y_AR_copyB.desc).map (fun d => d.parameters.length) = some 2 := by decide +kernel
theorem s_AR_copyB : Cond.static y_AR_copyB ∈ xT := xin 452 (by decide +kernel) (by decide +kernel)
theorem in_AR_copyB : Cond.initialized y_AR_copyB.cls ∈ xT := xin 21 (by decide +kernel) (by decide +kernel)
theorem d_AR_copyB_0 : decode b_AR_copyB 0 = .ok (.iload_n 1, 1) := by decide +kernel
theorem d_AR_copyB_1 : decode b_AR_copyB 1 = .ok (.aload_n 0, 1) := by decide +kernel
theorem d_AR_copyB_2 : decode b_AR_copyB 2 = .ok (.arraylength, 1) := by decide +kernel
theorem d_AR_copyB_3 : decode b_AR_copyB 3 = .ok (.if_icmp .ne 11, 3) := by decide +kernel
theorem d_AR_copyB_6 : decode b_AR_copyB 6 = .ok (.aload_n 0, 1) := by decide +kernel
theorem d_AR_copyB_7 : decode b_AR_copyB 7 = .ok (.invokevirtual 310, 3) := by decide +kernel
theorem q_454 : Cond.methodLink "java/util/Arrays" 310 ⟨"[B", "clone", "()Ljava/lang/Object;"⟩ ∈ xT := xin 454 (by decide +kernel) (by decide +kernel)
theorem d_AR_copyB_10 : decode b_AR_copyB 10 = .ok (.checkcast 311, 3) := by decide +kernel
theorem q_460 : Cond.classLink "java/util/Arrays" 311 "[B" ∈ xT := xin 460 (by decide +kernel) (by decide +kernel)
theorem d_AR_copyB_13 : decode b_AR_copyB 13 = .ok (.areturn, 1) := by decide +kernel
theorem d_AR_copyB_14 : decode b_AR_copyB 14 = .ok (.iload_n 1, 1) := by decide +kernel
theorem d_AR_copyB_15 : decode b_AR_copyB 15 = .ok (.newarray .byte, 2) := by decide +kernel
theorem d_AR_copyB_17 : decode b_AR_copyB 17 = .ok (.astore_n 2, 1) := by decide +kernel
theorem d_AR_copyB_18 : decode b_AR_copyB 18 = .ok (.aload_n 0, 1) := by decide +kernel
theorem d_AR_copyB_19 : decode b_AR_copyB 19 = .ok (.iconst 0, 1) := by decide +kernel
theorem d_AR_copyB_20 : decode b_AR_copyB 20 = .ok (.aload_n 2, 1) := by decide +kernel
theorem d_AR_copyB_21 : decode b_AR_copyB 21 = .ok (.iconst 0, 1) := by decide +kernel
theorem d_AR_copyB_22 : decode b_AR_copyB 22 = .ok (.aload_n 0, 1) := by decide +kernel
theorem d_AR_copyB_23 : decode b_AR_copyB 23 = .ok (.arraylength, 1) := by decide +kernel
theorem d_AR_copyB_24 : decode b_AR_copyB 24 = .ok (.iload_n 1, 1) := by decide +kernel
theorem d_AR_copyB_25 : decode b_AR_copyB 25 = .ok (.invokestatic 304, 3) := by decide +kernel
theorem d_AR_copyB_28 : decode b_AR_copyB 28 = .ok (.invokestatic 150, 3) := by decide +kernel
theorem d_AR_copyB_31 : decode b_AR_copyB 31 = .ok (.aload_n 2, 1) := by decide +kernel
theorem d_AR_copyB_32 : decode b_AR_copyB 32 = .ok (.areturn, 1) := by decide +kernel
abbrev b_AR_copyOfRange : ByteArray := prog_29_method_132_code
def y_AR_copyOfRange : MethodName := ⟨"java/util/Arrays", "copyOfRange", "([BII)[B"⟩
theorem kc_AR_copyOfRange : Cond.code y_AR_copyOfRange b_AR_copyOfRange 3 (some (.array .byte)) ∈ xT := xin 467 (by decide +kernel) (by decide +kernel)
theorem k_AR_copyOfRange : xCode y_AR_copyOfRange b_AR_copyOfRange 3 (some (.array .byte)) [] := Or.inl ⟨rfl, kc_AR_copyOfRange⟩
theorem h_AR_copyOfRange : plainFor y_AR_copyOfRange = true ∧ (y_AR_copyOfRange.cls ≠ "java/lang/invoke/MethodHandle" ∧ y_AR_copyOfRange.cls ≠ "java/lang/invoke/VarHandle") ∧ (parseMethodDescriptor y_AR_copyOfRange.desc).map (fun d => d.parameters.length) = some 3 := by decide +kernel
theorem s_AR_copyOfRange : Cond.static y_AR_copyOfRange ∈ xT := xin 466 (by decide +kernel) (by decide +kernel)
theorem in_AR_copyOfRange : Cond.initialized y_AR_copyOfRange.cls ∈ xT := xin 21 (by decide +kernel) (by decide +kernel)
theorem d_AR_copyOfRange_0 : decode b_AR_copyOfRange 0 = .ok (.iload_n 1, 1) := by decide +kernel
theorem d_AR_copyOfRange_1 : decode b_AR_copyOfRange 1 = .ok (.ifCond .ne 9, 3) := by decide +kernel
theorem d_AR_copyOfRange_4 : decode b_AR_copyOfRange 4 = .ok (.iload_n 2, 1) := by decide +kernel
theorem d_AR_copyOfRange_5 : decode b_AR_copyOfRange 5 = .ok (.aload_n 0, 1) := by decide +kernel
theorem d_AR_copyOfRange_6 : decode b_AR_copyOfRange 6 = .ok (.arraylength, 1) := by decide +kernel
theorem d_AR_copyOfRange_7 : decode b_AR_copyOfRange 7 = .ok (.if_icmp .eq 10, 3) := by decide +kernel
theorem d_AR_copyOfRange_10 : decode b_AR_copyOfRange 10 = .ok (.aload_n 0, 1) := by decide +kernel
theorem d_AR_copyOfRange_11 : decode b_AR_copyOfRange 11 = .ok (.iload_n 1, 1) := by decide +kernel
theorem d_AR_copyOfRange_12 : decode b_AR_copyOfRange 12 = .ok (.iload_n 2, 1) := by decide +kernel
theorem d_AR_copyOfRange_13 : decode b_AR_copyOfRange 13 = .ok (.invokestatic 339, 3) := by decide +kernel
theorem q_468 : Cond.methodLink "java/util/Arrays" 339 ⟨"java/util/Arrays", "copyOfRangeByte", "([BII)[B"⟩ ∈ xT := xin 468 (by decide +kernel) (by decide +kernel)
theorem d_AR_copyOfRange_16 : decode b_AR_copyOfRange 16 = .ok (.areturn, 1) := by decide +kernel
theorem d_AR_copyOfRange_17 : decode b_AR_copyOfRange 17 = .ok (.aload_n 0, 1) := by decide +kernel
theorem d_AR_copyOfRange_18 : decode b_AR_copyOfRange 18 = .ok (.invokevirtual 310, 3) := by decide +kernel
theorem d_AR_copyOfRange_21 : decode b_AR_copyOfRange 21 = .ok (.checkcast 311, 3) := by decide +kernel
theorem d_AR_copyOfRange_24 : decode b_AR_copyOfRange 24 = .ok (.areturn, 1) := by decide +kernel
abbrev b_AR_copyOfRangeByte : ByteArray := prog_29_method_133_code
def y_AR_copyOfRangeByte : MethodName := ⟨"java/util/Arrays", "copyOfRangeByte", "([BII)[B"⟩
theorem kc_AR_copyOfRangeByte : Cond.code y_AR_copyOfRangeByte b_AR_copyOfRangeByte 5 (some (.array .byte)) ∈ xT := xin 470 (by decide +kernel) (by decide +kernel)
theorem k_AR_copyOfRangeByte : xCode y_AR_copyOfRangeByte b_AR_copyOfRangeByte 5 (some (.array .byte)) [] := Or.inl ⟨rfl, kc_AR_copyOfRangeByte⟩
theorem h_AR_copyOfRangeByte : plainFor y_AR_copyOfRangeByte = true ∧ (y_AR_copyOfRangeByte.cls ≠ "java/lang/invoke/MethodHandle" ∧ y_AR_copyOfRangeByte.cls ≠ "java/lang/invoke/VarHandle") ∧ (parseMethodDescriptor y_AR_copyOfRangeByte.desc).map (fun d => d.parameters.length) = some 3 := by decide +kernel
theorem s_AR_copyOfRangeByte : Cond.static y_AR_copyOfRangeByte ∈ xT := xin 469 (by decide +kernel) (by decide +kernel)
theorem in_AR_copyOfRangeByte : Cond.initialized y_AR_copyOfRangeByte.cls ∈ xT := xin 21 (by decide +kernel) (by decide +kernel)
theorem d_AR_copyOfRangeByte_0 : decode b_AR_copyOfRangeByte 0 = .ok (.iload_n 1, 1) := by decide +kernel
theorem d_AR_copyOfRangeByte_1 : decode b_AR_copyOfRangeByte 1 = .ok (.iload_n 2, 1) := by decide +kernel
theorem d_AR_copyOfRangeByte_2 : decode b_AR_copyOfRangeByte 2 = .ok (.invokestatic 343, 3) := by decide +kernel
theorem q_471 : Cond.methodLink "java/util/Arrays" 343 ⟨"java/util/Arrays", "checkLength", "(II)V"⟩ ∈ xT := xin 471 (by decide +kernel) (by decide +kernel)
theorem d_AR_copyOfRangeByte_5 : decode b_AR_copyOfRangeByte 5 = .ok (.iload_n 2, 1) := by decide +kernel
theorem d_AR_copyOfRangeByte_6 : decode b_AR_copyOfRangeByte 6 = .ok (.iload_n 1, 1) := by decide +kernel
theorem d_AR_copyOfRangeByte_7 : decode b_AR_copyOfRangeByte 7 = .ok (.isub, 1) := by decide +kernel
theorem d_AR_copyOfRangeByte_8 : decode b_AR_copyOfRangeByte 8 = .ok (.istore_n 3, 1) := by decide +kernel
theorem d_AR_copyOfRangeByte_9 : decode b_AR_copyOfRangeByte 9 = .ok (.iload_n 3, 1) := by decide +kernel
theorem d_AR_copyOfRangeByte_10 : decode b_AR_copyOfRangeByte 10 = .ok (.newarray .byte, 2) := by decide +kernel
theorem d_AR_copyOfRangeByte_12 : decode b_AR_copyOfRangeByte 12 = .ok (.astore 4, 2) := by decide +kernel
theorem d_AR_copyOfRangeByte_14 : decode b_AR_copyOfRangeByte 14 = .ok (.aload_n 0, 1) := by decide +kernel
theorem d_AR_copyOfRangeByte_15 : decode b_AR_copyOfRangeByte 15 = .ok (.iload_n 1, 1) := by decide +kernel
theorem d_AR_copyOfRangeByte_16 : decode b_AR_copyOfRangeByte 16 = .ok (.aload 4, 2) := by decide +kernel
theorem d_AR_copyOfRangeByte_18 : decode b_AR_copyOfRangeByte 18 = .ok (.iconst 0, 1) := by decide +kernel
theorem d_AR_copyOfRangeByte_19 : decode b_AR_copyOfRangeByte 19 = .ok (.aload_n 0, 1) := by decide +kernel
theorem d_AR_copyOfRangeByte_20 : decode b_AR_copyOfRangeByte 20 = .ok (.arraylength, 1) := by decide +kernel
theorem d_AR_copyOfRangeByte_21 : decode b_AR_copyOfRangeByte 21 = .ok (.iload_n 1, 1) := by decide +kernel
theorem d_AR_copyOfRangeByte_22 : decode b_AR_copyOfRangeByte 22 = .ok (.isub, 1) := by decide +kernel
theorem d_AR_copyOfRangeByte_23 : decode b_AR_copyOfRangeByte 23 = .ok (.iload_n 3, 1) := by decide +kernel
theorem d_AR_copyOfRangeByte_24 : decode b_AR_copyOfRangeByte 24 = .ok (.invokestatic 304, 3) := by decide +kernel
theorem d_AR_copyOfRangeByte_27 : decode b_AR_copyOfRangeByte 27 = .ok (.invokestatic 150, 3) := by decide +kernel
theorem d_AR_copyOfRangeByte_30 : decode b_AR_copyOfRangeByte 30 = .ok (.aload 4, 2) := by decide +kernel
theorem d_AR_copyOfRangeByte_32 : decode b_AR_copyOfRangeByte 32 = .ok (.areturn, 1) := by decide +kernel
abbrev b_AR_checkLength : ByteArray := prog_29_method_131_code
def y_AR_checkLength : MethodName := ⟨"java/util/Arrays", "checkLength", "(II)V"⟩
theorem kc_AR_checkLength : Cond.code y_AR_checkLength b_AR_checkLength 2 none ∈ xT := xin 473 (by decide +kernel) (by decide +kernel)
theorem k_AR_checkLength : xCode y_AR_checkLength b_AR_checkLength 2 none [] := Or.inl ⟨rfl, kc_AR_checkLength⟩
theorem h_AR_checkLength : plainFor y_AR_checkLength = true ∧ (y_AR_checkLength.cls ≠ "java/lang/invoke/MethodHandle" ∧ y_AR_checkLength.cls ≠ "java/lang/invoke/VarHandle") ∧ (parseMethodDescriptor y_AR_checkLength.desc).map (fun d => d.parameters.length) = some 2 := by decide +kernel
theorem s_AR_checkLength : Cond.static y_AR_checkLength ∈ xT := xin 472 (by decide +kernel) (by decide +kernel)
theorem in_AR_checkLength : Cond.initialized y_AR_checkLength.cls ∈ xT := xin 21 (by decide +kernel) (by decide +kernel)
theorem d_AR_checkLength_0 : decode b_AR_checkLength 0 = .ok (.iload_n 1, 1) := by decide +kernel
theorem d_AR_checkLength_1 : decode b_AR_checkLength 1 = .ok (.iload_n 0, 1) := by decide +kernel
theorem d_AR_checkLength_2 : decode b_AR_checkLength 2 = .ok (.if_icmp .ge 35, 3) := by decide +kernel
theorem d_AR_checkLength_5 : decode b_AR_checkLength 5 = .ok (.new 43, 3) := by decide +kernel
theorem q_474 : Cond.classLink "java/util/Arrays" 43 "java/lang/IllegalArgumentException" ∈ xT := xin 474 (by decide +kernel) (by decide +kernel)
theorem d_AR_checkLength_8 : decode b_AR_checkLength 8 = .ok (.dup, 1) := by decide +kernel
theorem d_AR_checkLength_9 : decode b_AR_checkLength 9 = .ok (.new 45, 3) := by decide +kernel
theorem q_475 : Cond.classLink "java/util/Arrays" 45 "java/lang/StringBuilder" ∈ xT := xin 475 (by decide +kernel) (by decide +kernel)
theorem d_AR_checkLength_12 : decode b_AR_checkLength 12 = .ok (.dup, 1) := by decide +kernel
theorem d_AR_checkLength_13 : decode b_AR_checkLength 13 = .ok (.invokespecial 47, 3) := by decide +kernel
theorem q_477 : Cond.methodLink "java/util/Arrays" 47 ⟨"java/lang/StringBuilder", "<init>", "()V"⟩ ∈ xT := xin 477 (by decide +kernel) (by decide +kernel)
theorem d_AR_checkLength_16 : decode b_AR_checkLength 16 = .ok (.iload_n 0, 1) := by decide +kernel
theorem d_AR_checkLength_17 : decode b_AR_checkLength 17 = .ok (.invokevirtual 54, 3) := by decide +kernel
theorem q_506 : Cond.methodLink "java/util/Arrays" 54 ⟨"java/lang/StringBuilder", "append", "(I)Ljava/lang/StringBuilder;"⟩ ∈ xT := xin 506 (by decide +kernel) (by decide +kernel)
theorem d_AR_checkLength_20 : decode b_AR_checkLength 20 = .ok (.ldc_w 337, 3) := by decide +kernel
theorem d_AR_checkLength_23 : decode b_AR_checkLength 23 = .ok (.invokevirtual 50, 3) := by decide +kernel
theorem q_571 : Cond.methodLink "java/util/Arrays" 50 ⟨"java/lang/StringBuilder", "append", "(Ljava/lang/String;)Ljava/lang/StringBuilder;"⟩ ∈ xT := xin 571 (by decide +kernel) (by decide +kernel)
theorem d_AR_checkLength_26 : decode b_AR_checkLength 26 = .ok (.iload_n 1, 1) := by decide +kernel
theorem d_AR_checkLength_27 : decode b_AR_checkLength 27 = .ok (.invokevirtual 54, 3) := by decide +kernel
theorem d_AR_checkLength_30 : decode b_AR_checkLength 30 = .ok (.invokevirtual 61, 3) := by decide +kernel
theorem q_628 : Cond.methodLink "java/util/Arrays" 61 ⟨"java/lang/StringBuilder", "toString", "()Ljava/lang/String;"⟩ ∈ xT := xin 628 (by decide +kernel) (by decide +kernel)
theorem d_AR_checkLength_33 : decode b_AR_checkLength 33 = .ok (.invokespecial 65, 3) := by decide +kernel
theorem q_680 : Cond.methodLink "java/util/Arrays" 65 ⟨"java/lang/IllegalArgumentException", "<init>", "(Ljava/lang/String;)V"⟩ ∈ xT := xin 680 (by decide +kernel) (by decide +kernel)
theorem d_AR_checkLength_36 : decode b_AR_checkLength 36 = .ok (.athrow, 1) := by decide +kernel
theorem d_AR_checkLength_37 : decode b_AR_checkLength 37 = .ok (.return_, 1) := by decide +kernel
abbrev b_PC_checkFromToIndex : ByteArray := prog_36_method_12_code
def y_PC_checkFromToIndex : MethodName := ⟨"jdk/internal/util/Preconditions", "checkFromToIndex", "(IIILjava/util/function/BiFunction;)I"⟩
theorem kc_PC_checkFromToIndex : Cond.code y_PC_checkFromToIndex b_PC_checkFromToIndex 4 (some .int) ∈ xT := xin 555 (by decide +kernel) (by decide +kernel)
theorem k_PC_checkFromToIndex : xCode y_PC_checkFromToIndex b_PC_checkFromToIndex 4 (some .int) [] := Or.inl ⟨rfl, kc_PC_checkFromToIndex⟩
theorem h_PC_checkFromToIndex : plainFor y_PC_checkFromToIndex = true ∧ (y_PC_checkFromToIndex.cls ≠ "java/lang/invoke/MethodHandle" ∧ y_PC_checkFromToIndex.cls ≠ "java/lang/invoke/VarHandle") ∧ (parseMethodDescriptor y_PC_checkFromToIndex.desc).map (fun d => d.parameters.length) = some 4 := by decide +kernel
theorem s_PC_checkFromToIndex : Cond.static y_PC_checkFromToIndex ∈ xT := xin 554 (by decide +kernel) (by decide +kernel)
theorem in_PC_checkFromToIndex : Cond.initialized y_PC_checkFromToIndex.cls ∈ xT := xin 16 (by decide +kernel) (by decide +kernel)
theorem d_PC_checkFromToIndex_0 : decode b_PC_checkFromToIndex 0 = .ok (.iload_n 0, 1) := by decide +kernel
theorem d_PC_checkFromToIndex_1 : decode b_PC_checkFromToIndex 1 = .ok (.ifCond .lt 13, 3) := by decide +kernel
theorem d_PC_checkFromToIndex_4 : decode b_PC_checkFromToIndex 4 = .ok (.iload_n 0, 1) := by decide +kernel
theorem d_PC_checkFromToIndex_5 : decode b_PC_checkFromToIndex 5 = .ok (.iload_n 1, 1) := by decide +kernel
theorem d_PC_checkFromToIndex_6 : decode b_PC_checkFromToIndex 6 = .ok (.if_icmp .gt 8, 3) := by decide +kernel
theorem d_PC_checkFromToIndex_9 : decode b_PC_checkFromToIndex 9 = .ok (.iload_n 1, 1) := by decide +kernel
theorem d_PC_checkFromToIndex_10 : decode b_PC_checkFromToIndex 10 = .ok (.iload_n 2, 1) := by decide +kernel
theorem d_PC_checkFromToIndex_11 : decode b_PC_checkFromToIndex 11 = .ok (.if_icmp .le 11, 3) := by decide +kernel
theorem d_PC_checkFromToIndex_14 : decode b_PC_checkFromToIndex 14 = .ok (.aload_n 3, 1) := by decide +kernel
theorem d_PC_checkFromToIndex_15 : decode b_PC_checkFromToIndex 15 = .ok (.iload_n 0, 1) := by decide +kernel
theorem d_PC_checkFromToIndex_16 : decode b_PC_checkFromToIndex 16 = .ok (.iload_n 1, 1) := by decide +kernel
theorem d_PC_checkFromToIndex_17 : decode b_PC_checkFromToIndex 17 = .ok (.iload_n 2, 1) := by decide +kernel
theorem d_PC_checkFromToIndex_18 : decode b_PC_checkFromToIndex 18 = .ok (.invokestatic 99, 3) := by decide +kernel
theorem d_PC_checkFromToIndex_21 : decode b_PC_checkFromToIndex 21 = .ok (.athrow, 1) := by decide +kernel
theorem d_PC_checkFromToIndex_22 : decode b_PC_checkFromToIndex 22 = .ok (.iload_n 0, 1) := by decide +kernel
theorem d_PC_checkFromToIndex_23 : decode b_PC_checkFromToIndex 23 = .ok (.ireturn, 1) := by decide +kernel
abbrev b_PC_checkFromIndexSize : ByteArray := prog_36_method_13_code
def y_PC_checkFromIndexSize : MethodName := ⟨"jdk/internal/util/Preconditions", "checkFromIndexSize", "(IIILjava/util/function/BiFunction;)I"⟩
theorem kc_PC_checkFromIndexSize : Cond.code y_PC_checkFromIndexSize b_PC_checkFromIndexSize 4 (some .int) ∈ xT := xin 621 (by decide +kernel) (by decide +kernel)
theorem k_PC_checkFromIndexSize : xCode y_PC_checkFromIndexSize b_PC_checkFromIndexSize 4 (some .int) [] := Or.inl ⟨rfl, kc_PC_checkFromIndexSize⟩
theorem h_PC_checkFromIndexSize : plainFor y_PC_checkFromIndexSize = true ∧ (y_PC_checkFromIndexSize.cls ≠ "java/lang/invoke/MethodHandle" ∧ y_PC_checkFromIndexSize.cls ≠ "java/lang/invoke/VarHandle") ∧ (parseMethodDescriptor y_PC_checkFromIndexSize.desc).map (fun d => d.parameters.length) = some 4 := by decide +kernel
theorem s_PC_checkFromIndexSize : Cond.static y_PC_checkFromIndexSize ∈ xT := xin 620 (by decide +kernel) (by decide +kernel)
theorem in_PC_checkFromIndexSize : Cond.initialized y_PC_checkFromIndexSize.cls ∈ xT := xin 16 (by decide +kernel) (by decide +kernel)
theorem d_PC_checkFromIndexSize_0 : decode b_PC_checkFromIndexSize 0 = .ok (.iload_n 2, 1) := by decide +kernel
theorem d_PC_checkFromIndexSize_1 : decode b_PC_checkFromIndexSize 1 = .ok (.iload_n 0, 1) := by decide +kernel
theorem d_PC_checkFromIndexSize_2 : decode b_PC_checkFromIndexSize 2 = .ok (.ior, 1) := by decide +kernel
theorem d_PC_checkFromIndexSize_3 : decode b_PC_checkFromIndexSize 3 = .ok (.iload_n 1, 1) := by decide +kernel
theorem d_PC_checkFromIndexSize_4 : decode b_PC_checkFromIndexSize 4 = .ok (.ior, 1) := by decide +kernel
theorem d_PC_checkFromIndexSize_5 : decode b_PC_checkFromIndexSize 5 = .ok (.ifCond .lt 10, 3) := by decide +kernel
theorem d_PC_checkFromIndexSize_8 : decode b_PC_checkFromIndexSize 8 = .ok (.iload_n 1, 1) := by decide +kernel
theorem d_PC_checkFromIndexSize_9 : decode b_PC_checkFromIndexSize 9 = .ok (.iload_n 2, 1) := by decide +kernel
theorem d_PC_checkFromIndexSize_10 : decode b_PC_checkFromIndexSize 10 = .ok (.iload_n 0, 1) := by decide +kernel
theorem d_PC_checkFromIndexSize_11 : decode b_PC_checkFromIndexSize 11 = .ok (.isub, 1) := by decide +kernel
theorem d_PC_checkFromIndexSize_12 : decode b_PC_checkFromIndexSize 12 = .ok (.if_icmp .le 11, 3) := by decide +kernel
theorem d_PC_checkFromIndexSize_15 : decode b_PC_checkFromIndexSize 15 = .ok (.aload_n 3, 1) := by decide +kernel
theorem d_PC_checkFromIndexSize_16 : decode b_PC_checkFromIndexSize 16 = .ok (.iload_n 0, 1) := by decide +kernel
theorem d_PC_checkFromIndexSize_17 : decode b_PC_checkFromIndexSize 17 = .ok (.iload_n 1, 1) := by decide +kernel
theorem d_PC_checkFromIndexSize_18 : decode b_PC_checkFromIndexSize 18 = .ok (.iload_n 2, 1) := by decide +kernel
theorem d_PC_checkFromIndexSize_19 : decode b_PC_checkFromIndexSize 19 = .ok (.invokestatic 103, 3) := by decide +kernel
theorem d_PC_checkFromIndexSize_22 : decode b_PC_checkFromIndexSize 22 = .ok (.athrow, 1) := by decide +kernel
theorem d_PC_checkFromIndexSize_23 : decode b_PC_checkFromIndexSize 23 = .ok (.iload_n 0, 1) := by decide +kernel
theorem d_PC_checkFromIndexSize_24 : decode b_PC_checkFromIndexSize 24 = .ok (.ireturn, 1) := by decide +kernel
abbrev b_AL_add2 : ByteArray := prog_28_method_26_code
def y_AL_add2 : MethodName := ⟨"java/util/ArrayList", "add", "(ILjava/lang/Object;)V"⟩
theorem kc_AL_add2 : Cond.code y_AL_add2 b_AL_add2 5 none ∈ xT := xin 733 (by decide +kernel) (by decide +kernel)
theorem k_AL_add2 : xCode y_AL_add2 b_AL_add2 5 none [] := Or.inl ⟨rfl, kc_AL_add2⟩
theorem h_AL_add2 : plainFor y_AL_add2 = true ∧ (y_AL_add2.cls ≠ "java/lang/invoke/MethodHandle" ∧ y_AL_add2.cls ≠ "java/lang/invoke/VarHandle") ∧ (parseMethodDescriptor y_AL_add2.desc).map (fun d => d.parameters.length) = some 2 := by decide +kernel
theorem v_AL_add2 : Cond.instanceMethod y_AL_add2 ∈ xT := xin 731 (by decide +kernel) (by decide +kernel)
theorem e_AL_add2 : Cond.selects "java/util/ArrayList" y_AL_add2 y_AL_add2 ∈ xT := xin 732 (by decide +kernel) (by decide +kernel)
theorem d_AL_add2_0 : decode b_AL_add2 0 = .ok (.aload_n 0, 1) := by decide +kernel
theorem d_AL_add2_1 : decode b_AL_add2 1 = .ok (.iload_n 1, 1) := by decide +kernel
theorem d_AL_add2_2 : decode b_AL_add2 2 = .ok (.invokevirtual 135, 3) := by decide +kernel
theorem q_734 : Cond.methodLink "java/util/ArrayList" 135 ⟨"java/util/ArrayList", "rangeCheckForAdd", "(I)V"⟩ ∈ xT := xin 734 (by decide +kernel) (by decide +kernel)
theorem d_AL_add2_5 : decode b_AL_add2 5 = .ok (.aload_n 0, 1) := by decide +kernel
theorem d_AL_add2_6 : decode b_AL_add2 6 = .ok (.dup, 1) := by decide +kernel
theorem d_AL_add2_7 : decode b_AL_add2 7 = .ok (.getfield 63, 3) := by decide +kernel
theorem d_AL_add2_10 : decode b_AL_add2 10 = .ok (.iconst 1, 1) := by decide +kernel
theorem d_AL_add2_11 : decode b_AL_add2 11 = .ok (.iadd, 1) := by decide +kernel
theorem d_AL_add2_12 : decode b_AL_add2 12 = .ok (.putfield 63, 3) := by decide +kernel
theorem d_AL_add2_15 : decode b_AL_add2 15 = .ok (.aload_n 0, 1) := by decide +kernel
theorem d_AL_add2_16 : decode b_AL_add2 16 = .ok (.getfield 48, 3) := by decide +kernel
theorem d_AL_add2_19 : decode b_AL_add2 19 = .ok (.dup, 1) := by decide +kernel
theorem d_AL_add2_20 : decode b_AL_add2 20 = .ok (.istore_n 3, 1) := by decide +kernel
theorem d_AL_add2_21 : decode b_AL_add2 21 = .ok (.aload_n 0, 1) := by decide +kernel
theorem d_AL_add2_22 : decode b_AL_add2 22 = .ok (.getfield 9, 3) := by decide +kernel
theorem d_AL_add2_25 : decode b_AL_add2 25 = .ok (.dup, 1) := by decide +kernel
theorem d_AL_add2_26 : decode b_AL_add2 26 = .ok (.astore 4, 2) := by decide +kernel
theorem d_AL_add2_28 : decode b_AL_add2 28 = .ok (.arraylength, 1) := by decide +kernel
theorem d_AL_add2_29 : decode b_AL_add2 29 = .ok (.if_icmp .ne 9, 3) := by decide +kernel
theorem d_AL_add2_32 : decode b_AL_add2 32 = .ok (.aload_n 0, 1) := by decide +kernel
theorem d_AL_add2_33 : decode b_AL_add2 33 = .ok (.invokevirtual 129, 3) := by decide +kernel
theorem d_AL_add2_36 : decode b_AL_add2 36 = .ok (.astore 4, 2) := by decide +kernel
theorem d_AL_add2_38 : decode b_AL_add2 38 = .ok (.aload 4, 2) := by decide +kernel
theorem d_AL_add2_40 : decode b_AL_add2 40 = .ok (.iload_n 1, 1) := by decide +kernel
theorem d_AL_add2_41 : decode b_AL_add2 41 = .ok (.aload 4, 2) := by decide +kernel
theorem d_AL_add2_43 : decode b_AL_add2 43 = .ok (.iload_n 1, 1) := by decide +kernel
theorem d_AL_add2_44 : decode b_AL_add2 44 = .ok (.iconst 1, 1) := by decide +kernel
theorem d_AL_add2_45 : decode b_AL_add2 45 = .ok (.iadd, 1) := by decide +kernel
theorem d_AL_add2_46 : decode b_AL_add2 46 = .ok (.iload_n 3, 1) := by decide +kernel
theorem d_AL_add2_47 : decode b_AL_add2 47 = .ok (.iload_n 1, 1) := by decide +kernel
theorem d_AL_add2_48 : decode b_AL_add2 48 = .ok (.isub, 1) := by decide +kernel
theorem d_AL_add2_49 : decode b_AL_add2 49 = .ok (.invokestatic 112, 3) := by decide +kernel
theorem d_AL_add2_52 : decode b_AL_add2 52 = .ok (.aload 4, 2) := by decide +kernel
theorem d_AL_add2_54 : decode b_AL_add2 54 = .ok (.iload_n 1, 1) := by decide +kernel
theorem d_AL_add2_55 : decode b_AL_add2 55 = .ok (.aload_n 2, 1) := by decide +kernel
theorem d_AL_add2_56 : decode b_AL_add2 56 = .ok (.aastore, 1) := by decide +kernel
theorem d_AL_add2_57 : decode b_AL_add2 57 = .ok (.aload_n 0, 1) := by decide +kernel
theorem d_AL_add2_58 : decode b_AL_add2 58 = .ok (.iload_n 3, 1) := by decide +kernel
theorem d_AL_add2_59 : decode b_AL_add2 59 = .ok (.iconst 1, 1) := by decide +kernel
theorem d_AL_add2_60 : decode b_AL_add2 60 = .ok (.iadd, 1) := by decide +kernel
theorem d_AL_add2_61 : decode b_AL_add2 61 = .ok (.putfield 48, 3) := by decide +kernel
theorem d_AL_add2_64 : decode b_AL_add2 64 = .ok (.return_, 1) := by decide +kernel
abbrev b_AL_rangeCheckForAdd : ByteArray := prog_28_method_45_code
def y_AL_rangeCheckForAdd : MethodName := ⟨"java/util/ArrayList", "rangeCheckForAdd", "(I)V"⟩
theorem kc_AL_rangeCheckForAdd : Cond.code y_AL_rangeCheckForAdd b_AL_rangeCheckForAdd 2 none ∈ xT := xin 737 (by decide +kernel) (by decide +kernel)
theorem k_AL_rangeCheckForAdd : xCode y_AL_rangeCheckForAdd b_AL_rangeCheckForAdd 2 none [] := Or.inl ⟨rfl, kc_AL_rangeCheckForAdd⟩
theorem h_AL_rangeCheckForAdd : plainFor y_AL_rangeCheckForAdd = true ∧ (y_AL_rangeCheckForAdd.cls ≠ "java/lang/invoke/MethodHandle" ∧ y_AL_rangeCheckForAdd.cls ≠ "java/lang/invoke/VarHandle") ∧ (parseMethodDescriptor y_AL_rangeCheckForAdd.desc).map (fun d => d.parameters.length) = some 1 := by decide +kernel
theorem v_AL_rangeCheckForAdd : Cond.instanceMethod y_AL_rangeCheckForAdd ∈ xT := xin 736 (by decide +kernel) (by decide +kernel)
theorem e_AL_rangeCheckForAdd : Cond.selects "java/util/ArrayList" y_AL_rangeCheckForAdd y_AL_rangeCheckForAdd ∈ xT := xinp 12 (by decide +kernel) (by decide +kernel)
theorem d_AL_rangeCheckForAdd_0 : decode b_AL_rangeCheckForAdd 0 = .ok (.iload_n 1, 1) := by decide +kernel
theorem d_AL_rangeCheckForAdd_1 : decode b_AL_rangeCheckForAdd 1 = .ok (.aload_n 0, 1) := by decide +kernel
theorem d_AL_rangeCheckForAdd_2 : decode b_AL_rangeCheckForAdd 2 = .ok (.getfield 48, 3) := by decide +kernel
theorem d_AL_rangeCheckForAdd_5 : decode b_AL_rangeCheckForAdd 5 = .ok (.if_icmp .gt 7, 3) := by decide +kernel
theorem d_AL_rangeCheckForAdd_8 : decode b_AL_rangeCheckForAdd 8 = .ok (.iload_n 1, 1) := by decide +kernel
theorem d_AL_rangeCheckForAdd_9 : decode b_AL_rangeCheckForAdd 9 = .ok (.ifCond .ge 16, 3) := by decide +kernel
theorem d_AL_rangeCheckForAdd_12 : decode b_AL_rangeCheckForAdd 12 = .ok (.new 187, 3) := by decide +kernel
theorem q_738 : Cond.classLink "java/util/ArrayList" 187 "java/lang/IndexOutOfBoundsException" ∈ xT := xin 738 (by decide +kernel) (by decide +kernel)
theorem d_AL_rangeCheckForAdd_15 : decode b_AL_rangeCheckForAdd 15 = .ok (.dup, 1) := by decide +kernel
theorem d_AL_rangeCheckForAdd_16 : decode b_AL_rangeCheckForAdd 16 = .ok (.aload_n 0, 1) := by decide +kernel
theorem d_AL_rangeCheckForAdd_17 : decode b_AL_rangeCheckForAdd 17 = .ok (.iload_n 1, 1) := by decide +kernel
theorem d_AL_rangeCheckForAdd_18 : decode b_AL_rangeCheckForAdd 18 = .ok (.invokevirtual 198, 3) := by decide +kernel
theorem q_739 : Cond.methodLink "java/util/ArrayList" 198 ⟨"java/util/ArrayList", "outOfBoundsMsg", "(I)Ljava/lang/String;"⟩ ∈ xT := xin 739 (by decide +kernel) (by decide +kernel)
theorem d_AL_rangeCheckForAdd_21 : decode b_AL_rangeCheckForAdd 21 = .ok (.invokespecial 193, 3) := by decide +kernel
theorem q_750 : Cond.methodLink "java/util/ArrayList" 193 ⟨"java/lang/IndexOutOfBoundsException", "<init>", "(Ljava/lang/String;)V"⟩ ∈ xT := xin 750 (by decide +kernel) (by decide +kernel)
theorem d_AL_rangeCheckForAdd_24 : decode b_AL_rangeCheckForAdd 24 = .ok (.athrow, 1) := by decide +kernel
theorem d_AL_rangeCheckForAdd_25 : decode b_AL_rangeCheckForAdd 25 = .ok (.return_, 1) := by decide +kernel
abbrev b_AL_outOfBoundsMsg : ByteArray := prog_28_method_46_code
def y_AL_outOfBoundsMsg : MethodName := ⟨"java/util/ArrayList", "outOfBoundsMsg", "(I)Ljava/lang/String;"⟩
theorem kc_AL_outOfBoundsMsg : Cond.code y_AL_outOfBoundsMsg b_AL_outOfBoundsMsg 2 (some (.object "java/lang/String")) ∈ xT := xin 742 (by decide +kernel) (by decide +kernel)
theorem k_AL_outOfBoundsMsg : xCode y_AL_outOfBoundsMsg b_AL_outOfBoundsMsg 2 (some (.object "java/lang/String")) [] := Or.inl ⟨rfl, kc_AL_outOfBoundsMsg⟩
theorem h_AL_outOfBoundsMsg : plainFor y_AL_outOfBoundsMsg = true ∧ (y_AL_outOfBoundsMsg.cls ≠ "java/lang/invoke/MethodHandle" ∧ y_AL_outOfBoundsMsg.cls ≠ "java/lang/invoke/VarHandle") ∧ (parseMethodDescriptor y_AL_outOfBoundsMsg.desc).map (fun d => d.parameters.length) = some 1 := by decide +kernel
theorem v_AL_outOfBoundsMsg : Cond.instanceMethod y_AL_outOfBoundsMsg ∈ xT := xin 741 (by decide +kernel) (by decide +kernel)
theorem e_AL_outOfBoundsMsg : Cond.selects "java/util/ArrayList" y_AL_outOfBoundsMsg y_AL_outOfBoundsMsg ∈ xT := xinp 13 (by decide +kernel) (by decide +kernel)
theorem d_AL_outOfBoundsMsg_0 : decode b_AL_outOfBoundsMsg 0 = .ok (.new 20, 3) := by decide +kernel
theorem q_743 : Cond.classLink "java/util/ArrayList" 20 "java/lang/StringBuilder" ∈ xT := xin 743 (by decide +kernel) (by decide +kernel)
theorem d_AL_outOfBoundsMsg_3 : decode b_AL_outOfBoundsMsg 3 = .ok (.dup, 1) := by decide +kernel
theorem d_AL_outOfBoundsMsg_4 : decode b_AL_outOfBoundsMsg 4 = .ok (.invokespecial 22, 3) := by decide +kernel
theorem q_744 : Cond.methodLink "java/util/ArrayList" 22 ⟨"java/lang/StringBuilder", "<init>", "()V"⟩ ∈ xT := xin 744 (by decide +kernel) (by decide +kernel)
theorem d_AL_outOfBoundsMsg_7 : decode b_AL_outOfBoundsMsg 7 = .ok (.ldc 201, 2) := by decide +kernel
theorem d_AL_outOfBoundsMsg_9 : decode b_AL_outOfBoundsMsg 9 = .ok (.invokevirtual 25, 3) := by decide +kernel
theorem q_746 : Cond.methodLink "java/util/ArrayList" 25 ⟨"java/lang/StringBuilder", "append", "(Ljava/lang/String;)Ljava/lang/StringBuilder;"⟩ ∈ xT := xin 746 (by decide +kernel) (by decide +kernel)
theorem d_AL_outOfBoundsMsg_12 : decode b_AL_outOfBoundsMsg 12 = .ok (.iload_n 1, 1) := by decide +kernel
theorem d_AL_outOfBoundsMsg_13 : decode b_AL_outOfBoundsMsg 13 = .ok (.invokevirtual 29, 3) := by decide +kernel
theorem q_747 : Cond.methodLink "java/util/ArrayList" 29 ⟨"java/lang/StringBuilder", "append", "(I)Ljava/lang/StringBuilder;"⟩ ∈ xT := xin 747 (by decide +kernel) (by decide +kernel)
theorem d_AL_outOfBoundsMsg_16 : decode b_AL_outOfBoundsMsg 16 = .ok (.ldc 203, 2) := by decide +kernel
theorem d_AL_outOfBoundsMsg_18 : decode b_AL_outOfBoundsMsg 18 = .ok (.invokevirtual 25, 3) := by decide +kernel
theorem d_AL_outOfBoundsMsg_21 : decode b_AL_outOfBoundsMsg 21 = .ok (.aload_n 0, 1) := by decide +kernel
theorem d_AL_outOfBoundsMsg_22 : decode b_AL_outOfBoundsMsg 22 = .ok (.getfield 48, 3) := by decide +kernel
theorem d_AL_outOfBoundsMsg_25 : decode b_AL_outOfBoundsMsg 25 = .ok (.invokevirtual 29, 3) := by decide +kernel
theorem d_AL_outOfBoundsMsg_28 : decode b_AL_outOfBoundsMsg 28 = .ok (.invokevirtual 32, 3) := by decide +kernel
theorem q_749 : Cond.methodLink "java/util/ArrayList" 32 ⟨"java/lang/StringBuilder", "toString", "()Ljava/lang/String;"⟩ ∈ xT := xin 749 (by decide +kernel) (by decide +kernel)
theorem d_AL_outOfBoundsMsg_31 : decode b_AL_outOfBoundsMsg 31 = .ok (.areturn, 1) := by decide +kernel
abbrev b_AL_clear : ByteArray := prog_28_method_40_code
def y_AL_clear : MethodName := ⟨"java/util/ArrayList", "clear", "()V"⟩
theorem kc_AL_clear : Cond.code y_AL_clear b_AL_clear 4 none ∈ xT := xin 877 (by decide +kernel) (by decide +kernel)
theorem k_AL_clear : xCode y_AL_clear b_AL_clear 4 none [] := Or.inl ⟨rfl, kc_AL_clear⟩
theorem h_AL_clear : plainFor y_AL_clear = true ∧ (y_AL_clear.cls ≠ "java/lang/invoke/MethodHandle" ∧ y_AL_clear.cls ≠ "java/lang/invoke/VarHandle") ∧ (parseMethodDescriptor y_AL_clear.desc).map (fun d => d.parameters.length) = some 0 := by decide +kernel
theorem v_AL_clear : Cond.instanceMethod y_AL_clear ∈ xT := xin 875 (by decide +kernel) (by decide +kernel)
theorem e_AL_clear : Cond.selects "java/util/ArrayList" y_AL_clear y_AL_clear ∈ xT := xin 876 (by decide +kernel) (by decide +kernel)
theorem d_AL_clear_0 : decode b_AL_clear 0 = .ok (.aload_n 0, 1) := by decide +kernel
theorem d_AL_clear_1 : decode b_AL_clear 1 = .ok (.dup, 1) := by decide +kernel
theorem d_AL_clear_2 : decode b_AL_clear 2 = .ok (.getfield 63, 3) := by decide +kernel
theorem d_AL_clear_5 : decode b_AL_clear 5 = .ok (.iconst 1, 1) := by decide +kernel
theorem d_AL_clear_6 : decode b_AL_clear 6 = .ok (.iadd, 1) := by decide +kernel
theorem d_AL_clear_7 : decode b_AL_clear 7 = .ok (.putfield 63, 3) := by decide +kernel
theorem d_AL_clear_10 : decode b_AL_clear 10 = .ok (.aload_n 0, 1) := by decide +kernel
theorem d_AL_clear_11 : decode b_AL_clear 11 = .ok (.getfield 9, 3) := by decide +kernel
theorem d_AL_clear_14 : decode b_AL_clear 14 = .ok (.astore_n 1, 1) := by decide +kernel
theorem d_AL_clear_15 : decode b_AL_clear 15 = .ok (.aload_n 0, 1) := by decide +kernel
theorem d_AL_clear_16 : decode b_AL_clear 16 = .ok (.getfield 48, 3) := by decide +kernel
theorem d_AL_clear_19 : decode b_AL_clear 19 = .ok (.istore_n 2, 1) := by decide +kernel
theorem d_AL_clear_20 : decode b_AL_clear 20 = .ok (.aload_n 0, 1) := by decide +kernel
theorem d_AL_clear_21 : decode b_AL_clear 21 = .ok (.iconst 0, 1) := by decide +kernel
theorem d_AL_clear_22 : decode b_AL_clear 22 = .ok (.dup_x1, 1) := by decide +kernel
theorem d_AL_clear_23 : decode b_AL_clear 23 = .ok (.putfield 48, 3) := by decide +kernel
theorem d_AL_clear_26 : decode b_AL_clear 26 = .ok (.istore_n 3, 1) := by decide +kernel
theorem d_AL_clear_27 : decode b_AL_clear 27 = .ok (.iload_n 3, 1) := by decide +kernel
theorem d_AL_clear_28 : decode b_AL_clear 28 = .ok (.iload_n 2, 1) := by decide +kernel
theorem d_AL_clear_29 : decode b_AL_clear 29 = .ok (.if_icmp .ge 13, 3) := by decide +kernel
theorem d_AL_clear_32 : decode b_AL_clear 32 = .ok (.aload_n 1, 1) := by decide +kernel
theorem d_AL_clear_33 : decode b_AL_clear 33 = .ok (.iload_n 3, 1) := by decide +kernel
theorem d_AL_clear_34 : decode b_AL_clear 34 = .ok (.aconst_null, 1) := by decide +kernel
theorem d_AL_clear_35 : decode b_AL_clear 35 = .ok (.aastore, 1) := by decide +kernel
theorem d_AL_clear_36 : decode b_AL_clear 36 = .ok (.iinc 3 1, 3) := by decide +kernel
theorem d_AL_clear_39 : decode b_AL_clear 39 = .ok (.goto (-12), 3) := by decide +kernel
theorem d_AL_clear_42 : decode b_AL_clear 42 = .ok (.return_, 1) := by decide +kernel
theorem q_61 : Cond.sameField "java/util/ArrayList" "java/util/AbstractList" "modCount" "I" ∈ xT := xin 61 (by decide +kernel) (by decide +kernel)
theorem q_116 : Cond.arrayClass .byte ∈ xT := xin 116 (by decide +kernel) (by decide +kernel)
theorem q_1010 : Cond.arrayClass .int ∈ xT := xin 1010 (by decide +kernel) (by decide +kernel)
theorem q_1011 : Cond.arrayClass .long ∈ xT := xin 1011 (by decide +kernel) (by decide +kernel)
theorem q_354 : Cond.static ⟨"java/lang/Math", "max", "(II)I"⟩ ∈ xT := xin 354 (by decide +kernel) (by decide +kernel)
theorem q_387 : Cond.static ⟨"java/lang/Math", "min", "(II)I"⟩ ∈ xT := xin 387 (by decide +kernel) (by decide +kernel)
theorem q_20 : Cond.initialized "java/lang/Math" ∈ xT := xin 20 (by decide +kernel) (by decide +kernel)
theorem q_303 : Cond.native ⟨"java/lang/System", "arraycopy", "(Ljava/lang/Object;ILjava/lang/Object;II)V"⟩ ∈ xT := xin 303 (by decide +kernel) (by decide +kernel)
theorem q_302 : Cond.static ⟨"java/lang/System", "arraycopy", "(Ljava/lang/Object;ILjava/lang/Object;II)V"⟩ ∈ xT := xin 302 (by decide +kernel) (by decide +kernel)
theorem q_17 : Cond.initialized "java/lang/System" ∈ xT := xin 17 (by decide +kernel) (by decide +kernel)
theorem q_35 : Cond.instanceMethod ⟨"java/lang/Object", "<init>", "()V"⟩ ∈ xT := xin 35 (by decide +kernel) (by decide +kernel)
theorem q_364 : Cond.instanceMethod ⟨"java/lang/Object", "getClass", "()Ljava/lang/Class;"⟩ ∈ xT := xin 364 (by decide +kernel) (by decide +kernel)
theorem q_379 : Cond.native ⟨"java/lang/Object", "getClass", "()Ljava/lang/Class;"⟩ ∈ xT := xin 379 (by decide +kernel) (by decide +kernel)
theorem q_1193 : Cond.declares ⟨"java/lang/Object", "getClass", "()Ljava/lang/Class;"⟩ ∈ xT := xin 1193 (by decide +kernel) (by decide +kernel)
theorem q_1192 : Cond.selects "[Ljava/lang/Object;" ⟨"java/lang/Object", "getClass", "()Ljava/lang/Class;"⟩ ⟨"java/lang/Object", "getClass", "()Ljava/lang/Class;"⟩ ∈ xT := xin 1192 (by decide +kernel) (by decide +kernel)
theorem q_0 : Cond.initialized "TwinKeepersLaw" ∈ xT := xin 0 (by decide +kernel) (by decide +kernel)
theorem q_1 : Cond.initialized "TwinKeepers" ∈ xT := xin 1 (by decide +kernel) (by decide +kernel)
theorem q_2 : Cond.initialized "TwinKeepers$Machine" ∈ xT := xin 2 (by decide +kernel) (by decide +kernel)
theorem q_5 : Cond.initialized "java/util/ArrayList" ∈ xT := xin 5 (by decide +kernel) (by decide +kernel)
theorem q_6 : Cond.initialized "TwinKeepers$KeyMap" ∈ xT := xin 6 (by decide +kernel) (by decide +kernel)
theorem q_7 : Cond.initialized "TwinKeepers$Row" ∈ xT := xin 7 (by decide +kernel) (by decide +kernel)
theorem q_8 : Cond.initialized "TwinKeepersModel" ∈ xT := xin 8 (by decide +kernel) (by decide +kernel)
theorem q_18 : Cond.initialized "TwinKeepers$Session" ∈ xT := xin 18 (by decide +kernel) (by decide +kernel)
theorem q_28 : Cond.initialized "TwinKeepers$Entry" ∈ xT := xin 28 (by decide +kernel) (by decide +kernel)
theorem q_30 : Cond.instantiable "TwinKeepers" 6 ∈ xT := xin 30 (by decide +kernel) (by decide +kernel)
theorem q_36 : Cond.code ⟨"java/lang/Object", "<init>", "()V"⟩ object_method_1_code 1 (none : Option Jvm.ClassFile.FieldType) ∈ xT := xin 36 (by decide +kernel) (by decide +kernel)
theorem q_38 : Cond.instantiable "TwinKeepers$Machine" 3 ∈ xT := xin 38 (by decide +kernel) (by decide +kernel)
theorem q_44 : Cond.instantiable "java/util/ArrayList" 3 ∈ xT := xin 44 (by decide +kernel) (by decide +kernel)
theorem q_70 : Cond.instantiable "TwinKeepers$KeyMap" 2 ∈ xT := xin 70 (by decide +kernel) (by decide +kernel)
theorem q_102 : Cond.instantiable "TwinKeepers$Row" 2 ∈ xT := xin 102 (by decide +kernel) (by decide +kernel)
theorem q_304 : Cond.instantiable "TwinKeepers$Session" 5 ∈ xT := xin 304 (by decide +kernel) (by decide +kernel)
theorem q_355 : Cond.code ⟨"java/lang/Math", "max", "(II)I"⟩ prog_18_method_65_code 2 (some .int) ∈ xT := xin 355 (by decide +kernel) (by decide +kernel)
theorem q_388 : Cond.code ⟨"java/lang/Math", "min", "(II)I"⟩ prog_18_method_69_code 2 (some .int) ∈ xT := xin 388 (by decide +kernel) (by decide +kernel)
theorem q_705 : Cond.instantiable "TwinKeepers$Entry" 2 ∈ xT := xin 705 (by decide +kernel) (by decide +kernel)
theorem q_935 : Cond.instantiable "TwinKeepersModel" 23 ∈ xT := xin 935 (by decide +kernel) (by decide +kernel)
theorem q_1189 : Cond.castable "TwinKeepers$Session" "TwinKeepers$Session" ∈ xT := xin 1189 (by decide +kernel) (by decide +kernel)
theorem q_1190 : Cond.castable "TwinKeepers$Entry" "TwinKeepers$Entry" ∈ xT := xin 1190 (by decide +kernel) (by decide +kernel)
theorem q_1194 : Cond.castable "TwinKeepers" "java/lang/Object" ∈ xT := xin 1194 (by decide +kernel) (by decide +kernel)
theorem q_1195 : Cond.castable "TwinKeepers$Machine" "java/lang/Object" ∈ xT := xin 1195 (by decide +kernel) (by decide +kernel)
theorem q_1196 : Cond.castable "TwinKeepers$KeyMap" "java/lang/Object" ∈ xT := xin 1196 (by decide +kernel) (by decide +kernel)
theorem q_1197 : Cond.castable "TwinKeepers$Row" "java/lang/Object" ∈ xT := xin 1197 (by decide +kernel) (by decide +kernel)
theorem q_1198 : Cond.castable "TwinKeepersModel" "java/lang/Object" ∈ xT := xin 1198 (by decide +kernel) (by decide +kernel)
theorem q_1199 : Cond.castable "TwinKeepers$Session" "java/lang/Object" ∈ xT := xin 1199 (by decide +kernel) (by decide +kernel)
theorem q_1201 : Cond.castable "TwinKeepers$Entry" "java/lang/Object" ∈ xT := xin 1201 (by decide +kernel) (by decide +kernel)
theorem w_max : Cond.static Lib.Math.max.name ∈ xT ∧ Cond.initialized "java/lang/Math" ∈ xT ∧ Cond.code Lib.Math.max.name Lib.Math.max.code 2 (some .int) ∈ xT := ⟨q_354, q_20, xin 355 (by decide +kernel) (by decide +kernel)⟩
theorem w_min : Cond.static Lib.Math.min.name ∈ xT ∧ Cond.initialized "java/lang/Math" ∈ xT ∧ Cond.code Lib.Math.min.name Lib.Math.min.code 2 (some .int) ∈ xT := ⟨q_387, q_20, xin 388 (by decide +kernel) (by decide +kernel)⟩
theorem w_copy : Cond.native arraycopyName ∈ xT ∧ Cond.static arraycopyName ∈ xT ∧ Cond.initialized "java/lang/System" ∈ xT := ⟨q_303, q_302, q_17⟩
theorem w_getC : Cond.declares ⟨"java/lang/Object", "getClass", "()Ljava/lang/Class;"⟩ ∈ xT ∧ Cond.selects "[Ljava/lang/Object;" ⟨"java/lang/Object", "getClass", "()Ljava/lang/Class;"⟩ ⟨"java/lang/Object", "getClass", "()Ljava/lang/Class;"⟩ ∈ xT ∧ Cond.instanceMethod ⟨"java/lang/Object", "getClass", "()Ljava/lang/Class;"⟩ ∈ xT ∧ Cond.native ⟨"java/lang/Object", "getClass", "()Ljava/lang/Class;"⟩ ∈ xT := ⟨q_1193, q_1192, q_364, q_379⟩
theorem w_oi : Cond.instanceMethod objectInit ∈ xT := q_35
theorem w_oc : Cond.code objectInit ⟨#[0xb1]⟩ 1 none ∈ xT := xin 36 (by decide +kernel) (by decide +kernel)
end
section
abbrev b_TK_init : ByteArray := prog_1_method_1_code
def y_TK_init : MethodName := ⟨"TwinKeepers", "<init>", "()V"⟩
theorem kc_TK_init : Cond.code y_TK_init b_TK_init 1 none ∈ xT := xin 33 (by decide +kernel) (by decide +kernel)
theorem k_TK_init : xCode y_TK_init b_TK_init 1 none [] := Or.inl ⟨rfl, kc_TK_init⟩
theorem h_TK_init : plainFor y_TK_init = true ∧ (y_TK_init.cls ≠ "java/lang/invoke/MethodHandle" ∧ y_TK_init.cls ≠ "java/lang/invoke/VarHandle") ∧ (parseMethodDescriptor y_TK_init.desc).map (fun d => d.parameters.length) = some 0 := by decide +kernel
theorem v_TK_init : Cond.instanceMethod y_TK_init ∈ xT := xin 32 (by decide +kernel) (by decide +kernel)
theorem d_TK_init_0 : decode b_TK_init 0 = .ok (.aload_n 0, 1) := by decide +kernel
theorem d_TK_init_1 : decode b_TK_init 1 = .ok (.invokespecial 1, 3) := by decide +kernel
theorem q_34 : Cond.methodLink "TwinKeepers" 1 ⟨"java/lang/Object", "<init>", "()V"⟩ ∈ xT := xin 34 (by decide +kernel) (by decide +kernel)
theorem d_TK_init_4 : decode b_TK_init 4 = .ok (.aload_n 0, 1) := by decide +kernel
theorem d_TK_init_5 : decode b_TK_init 5 = .ok (.new 7, 3) := by decide +kernel
theorem q_37 : Cond.classLink "TwinKeepers" 7 "TwinKeepers$Machine" ∈ xT := xin 37 (by decide +kernel) (by decide +kernel)
theorem d_TK_init_8 : decode b_TK_init 8 = .ok (.dup, 1) := by decide +kernel
theorem d_TK_init_9 : decode b_TK_init 9 = .ok (.invokespecial 9, 3) := by decide +kernel
theorem q_39 : Cond.methodLinkNest "TwinKeepers" 9 ⟨"TwinKeepers$Machine", "<init>", "()V"⟩ "TwinKeepers" ∈ xT := xin 39 (by decide +kernel) (by decide +kernel)
theorem d_TK_init_12 : decode b_TK_init 12 = .ok (.putfield 10, 3) := by decide +kernel
theorem q_117 : Cond.fieldLink "TwinKeepers" 10 "TwinKeepers" "first" "LTwinKeepers$Machine;" ∈ xT := xin 117 (by decide +kernel) (by decide +kernel)
theorem d_TK_init_15 : decode b_TK_init 15 = .ok (.aload_n 0, 1) := by decide +kernel
theorem d_TK_init_16 : decode b_TK_init 16 = .ok (.new 7, 3) := by decide +kernel
theorem d_TK_init_19 : decode b_TK_init 19 = .ok (.dup, 1) := by decide +kernel
theorem d_TK_init_20 : decode b_TK_init 20 = .ok (.invokespecial 9, 3) := by decide +kernel
theorem d_TK_init_23 : decode b_TK_init 23 = .ok (.putfield 16, 3) := by decide +kernel
theorem q_118 : Cond.fieldLink "TwinKeepers" 16 "TwinKeepers" "second" "LTwinKeepers$Machine;" ∈ xT := xin 118 (by decide +kernel) (by decide +kernel)
theorem d_TK_init_26 : decode b_TK_init 26 = .ok (.aload_n 0, 1) := by decide +kernel
theorem d_TK_init_27 : decode b_TK_init 27 = .ok (.sipush 300, 3) := by decide +kernel
theorem d_TK_init_30 : decode b_TK_init 30 = .ok (.newarray .byte, 2) := by decide +kernel
theorem d_TK_init_32 : decode b_TK_init 32 = .ok (.putfield 19, 3) := by decide +kernel
theorem q_119 : Cond.fieldLink "TwinKeepers" 19 "TwinKeepers" "tape" "[B" ∈ xT := xin 119 (by decide +kernel) (by decide +kernel)
theorem d_TK_init_35 : decode b_TK_init 35 = .ok (.aload_n 0, 1) := by decide +kernel
theorem d_TK_init_36 : decode b_TK_init 36 = .ok (.new 23, 3) := by decide +kernel
theorem q_101 : Cond.classLink "TwinKeepers" 23 "TwinKeepers$Row" ∈ xT := xin 101 (by decide +kernel) (by decide +kernel)
theorem d_TK_init_39 : decode b_TK_init 39 = .ok (.dup, 1) := by decide +kernel
theorem d_TK_init_40 : decode b_TK_init 40 = .ok (.invokespecial 25, 3) := by decide +kernel
theorem q_103 : Cond.methodLinkNest "TwinKeepers" 25 ⟨"TwinKeepers$Row", "<init>", "()V"⟩ "TwinKeepers" ∈ xT := xin 103 (by decide +kernel) (by decide +kernel)
theorem d_TK_init_43 : decode b_TK_init 43 = .ok (.putfield 26, 3) := by decide +kernel
theorem q_120 : Cond.fieldLink "TwinKeepers" 26 "TwinKeepers" "result" "LTwinKeepers$Row;" ∈ xT := xin 120 (by decide +kernel) (by decide +kernel)
theorem d_TK_init_46 : decode b_TK_init 46 = .ok (.aload_n 0, 1) := by decide +kernel
theorem d_TK_init_47 : decode b_TK_init 47 = .ok (.iconst 0, 1) := by decide +kernel
theorem d_TK_init_48 : decode b_TK_init 48 = .ok (.putfield 30, 3) := by decide +kernel
theorem q_121 : Cond.fieldLink "TwinKeepers" 30 "TwinKeepers" "tapeSize" "I" ∈ xT := xin 121 (by decide +kernel) (by decide +kernel)
theorem d_TK_init_51 : decode b_TK_init 51 = .ok (.aload_n 0, 1) := by decide +kernel
theorem d_TK_init_52 : decode b_TK_init 52 = .ok (.iconst 0, 1) := by decide +kernel
theorem d_TK_init_53 : decode b_TK_init 53 = .ok (.putfield 34, 3) := by decide +kernel
theorem q_122 : Cond.fieldLink "TwinKeepers" 34 "TwinKeepers" "latestPlace" "I" ∈ xT := xin 122 (by decide +kernel) (by decide +kernel)
theorem d_TK_init_56 : decode b_TK_init 56 = .ok (.return_, 1) := by decide +kernel
abbrev b_Ma_init : ByteArray := prog_4_method_1_code
def y_Ma_init : MethodName := ⟨"TwinKeepers$Machine", "<init>", "()V"⟩
theorem kc_Ma_init : Cond.code y_Ma_init b_Ma_init 1 none ∈ xT := xin 41 (by decide +kernel) (by decide +kernel)
theorem k_Ma_init : xCode y_Ma_init b_Ma_init 1 none [] := Or.inl ⟨rfl, kc_Ma_init⟩
theorem h_Ma_init : plainFor y_Ma_init = true ∧ (y_Ma_init.cls ≠ "java/lang/invoke/MethodHandle" ∧ y_Ma_init.cls ≠ "java/lang/invoke/VarHandle") ∧ (parseMethodDescriptor y_Ma_init.desc).map (fun d => d.parameters.length) = some 0 := by decide +kernel
theorem v_Ma_init : Cond.instanceMethod y_Ma_init ∈ xT := xin 40 (by decide +kernel) (by decide +kernel)
theorem d_Ma_init_0 : decode b_Ma_init 0 = .ok (.aload_n 0, 1) := by decide +kernel
theorem d_Ma_init_1 : decode b_Ma_init 1 = .ok (.invokespecial 3, 3) := by decide +kernel
theorem q_42 : Cond.methodLink "TwinKeepers$Machine" 3 ⟨"java/lang/Object", "<init>", "()V"⟩ ∈ xT := xin 42 (by decide +kernel) (by decide +kernel)
theorem d_Ma_init_4 : decode b_Ma_init 4 = .ok (.aload_n 0, 1) := by decide +kernel
theorem d_Ma_init_5 : decode b_Ma_init 5 = .ok (.new 9, 3) := by decide +kernel
theorem q_43 : Cond.classLink "TwinKeepers$Machine" 9 "java/util/ArrayList" ∈ xT := xin 43 (by decide +kernel) (by decide +kernel)
theorem d_Ma_init_8 : decode b_Ma_init 8 = .ok (.dup, 1) := by decide +kernel
theorem d_Ma_init_9 : decode b_Ma_init 9 = .ok (.invokespecial 11, 3) := by decide +kernel
theorem q_45 : Cond.methodLink "TwinKeepers$Machine" 11 ⟨"java/util/ArrayList", "<init>", "()V"⟩ ∈ xT := xin 45 (by decide +kernel) (by decide +kernel)
theorem d_Ma_init_12 : decode b_Ma_init 12 = .ok (.putfield 12, 3) := by decide +kernel
theorem q_88 : Cond.fieldLink "TwinKeepers$Machine" 12 "TwinKeepers$Machine" "sessions" "Ljava/util/ArrayList;" ∈ xT := xin 88 (by decide +kernel) (by decide +kernel)
theorem d_Ma_init_15 : decode b_Ma_init 15 = .ok (.aload_n 0, 1) := by decide +kernel
theorem d_Ma_init_16 : decode b_Ma_init 16 = .ok (.new 18, 3) := by decide +kernel
theorem q_69 : Cond.classLink "TwinKeepers$Machine" 18 "TwinKeepers$KeyMap" ∈ xT := xin 69 (by decide +kernel) (by decide +kernel)
theorem d_Ma_init_19 : decode b_Ma_init 19 = .ok (.dup, 1) := by decide +kernel
theorem d_Ma_init_20 : decode b_Ma_init 20 = .ok (.invokespecial 20, 3) := by decide +kernel
theorem q_71 : Cond.methodLinkNest "TwinKeepers$Machine" 20 ⟨"TwinKeepers$KeyMap", "<init>", "()V"⟩ "TwinKeepers" ∈ xT := xin 71 (by decide +kernel) (by decide +kernel)
theorem d_Ma_init_23 : decode b_Ma_init 23 = .ok (.putfield 21, 3) := by decide +kernel
theorem q_90 : Cond.fieldLink "TwinKeepers$Machine" 21 "TwinKeepers$Machine" "map" "LTwinKeepers$KeyMap;" ∈ xT := xin 90 (by decide +kernel) (by decide +kernel)
theorem d_Ma_init_26 : decode b_Ma_init 26 = .ok (.aload_n 0, 1) := by decide +kernel
theorem d_Ma_init_27 : decode b_Ma_init 27 = .ok (.iconst 0, 1) := by decide +kernel
theorem d_Ma_init_28 : decode b_Ma_init 28 = .ok (.putfield 25, 3) := by decide +kernel
theorem q_92 : Cond.fieldLink "TwinKeepers$Machine" 25 "TwinKeepers$Machine" "greatestPlace" "I" ∈ xT := xin 92 (by decide +kernel) (by decide +kernel)
theorem d_Ma_init_31 : decode b_Ma_init 31 = .ok (.return_, 1) := by decide +kernel
abbrev b_KM_init : ByteArray := prog_3_method_1_code
def y_KM_init : MethodName := ⟨"TwinKeepers$KeyMap", "<init>", "()V"⟩
theorem kc_KM_init : Cond.code y_KM_init b_KM_init 1 none ∈ xT := xin 73 (by decide +kernel) (by decide +kernel)
theorem k_KM_init : xCode y_KM_init b_KM_init 1 none [] := Or.inl ⟨rfl, kc_KM_init⟩
theorem h_KM_init : plainFor y_KM_init = true ∧ (y_KM_init.cls ≠ "java/lang/invoke/MethodHandle" ∧ y_KM_init.cls ≠ "java/lang/invoke/VarHandle") ∧ (parseMethodDescriptor y_KM_init.desc).map (fun d => d.parameters.length) = some 0 := by decide +kernel
theorem v_KM_init : Cond.instanceMethod y_KM_init ∈ xT := xin 72 (by decide +kernel) (by decide +kernel)
theorem d_KM_init_0 : decode b_KM_init 0 = .ok (.aload_n 0, 1) := by decide +kernel
theorem d_KM_init_1 : decode b_KM_init 1 = .ok (.invokespecial 3, 3) := by decide +kernel
theorem q_74 : Cond.methodLink "TwinKeepers$KeyMap" 3 ⟨"java/lang/Object", "<init>", "()V"⟩ ∈ xT := xin 74 (by decide +kernel) (by decide +kernel)
theorem d_KM_init_4 : decode b_KM_init 4 = .ok (.aload_n 0, 1) := by decide +kernel
theorem d_KM_init_5 : decode b_KM_init 5 = .ok (.new 9, 3) := by decide +kernel
theorem q_75 : Cond.classLink "TwinKeepers$KeyMap" 9 "java/util/ArrayList" ∈ xT := xin 75 (by decide +kernel) (by decide +kernel)
theorem d_KM_init_8 : decode b_KM_init 8 = .ok (.dup, 1) := by decide +kernel
theorem d_KM_init_9 : decode b_KM_init 9 = .ok (.invokespecial 11, 3) := by decide +kernel
theorem q_76 : Cond.methodLink "TwinKeepers$KeyMap" 11 ⟨"java/util/ArrayList", "<init>", "()V"⟩ ∈ xT := xin 76 (by decide +kernel) (by decide +kernel)
theorem d_KM_init_12 : decode b_KM_init 12 = .ok (.putfield 12, 3) := by decide +kernel
theorem q_77 : Cond.fieldLink "TwinKeepers$KeyMap" 12 "TwinKeepers$KeyMap" "entries" "Ljava/util/ArrayList;" ∈ xT := xin 77 (by decide +kernel) (by decide +kernel)
theorem d_KM_init_15 : decode b_KM_init 15 = .ok (.aload_n 0, 1) := by decide +kernel
theorem d_KM_init_16 : decode b_KM_init 16 = .ok (.iconst 0, 1) := by decide +kernel
theorem d_KM_init_17 : decode b_KM_init 17 = .ok (.putfield 18, 3) := by decide +kernel
theorem q_80 : Cond.fieldLink "TwinKeepers$KeyMap" 18 "TwinKeepers$KeyMap" "units" "I" ∈ xT := xin 80 (by decide +kernel) (by decide +kernel)
theorem d_KM_init_20 : decode b_KM_init 20 = .ok (.return_, 1) := by decide +kernel
abbrev b_Ro_init : ByteArray := prog_5_method_1_code
def y_Ro_init : MethodName := ⟨"TwinKeepers$Row", "<init>", "()V"⟩
theorem kc_Ro_init : Cond.code y_Ro_init b_Ro_init 1 none ∈ xT := xin 105 (by decide +kernel) (by decide +kernel)
theorem k_Ro_init : xCode y_Ro_init b_Ro_init 1 none [] := Or.inl ⟨rfl, kc_Ro_init⟩
theorem h_Ro_init : plainFor y_Ro_init = true ∧ (y_Ro_init.cls ≠ "java/lang/invoke/MethodHandle" ∧ y_Ro_init.cls ≠ "java/lang/invoke/VarHandle") ∧ (parseMethodDescriptor y_Ro_init.desc).map (fun d => d.parameters.length) = some 0 := by decide +kernel
theorem v_Ro_init : Cond.instanceMethod y_Ro_init ∈ xT := xin 104 (by decide +kernel) (by decide +kernel)
theorem d_Ro_init_0 : decode b_Ro_init 0 = .ok (.aload_n 0, 1) := by decide +kernel
theorem d_Ro_init_1 : decode b_Ro_init 1 = .ok (.invokespecial 1, 3) := by decide +kernel
theorem q_106 : Cond.methodLink "TwinKeepers$Row" 1 ⟨"java/lang/Object", "<init>", "()V"⟩ ∈ xT := xin 106 (by decide +kernel) (by decide +kernel)
theorem d_Ro_init_4 : decode b_Ro_init 4 = .ok (.aload_n 0, 1) := by decide +kernel
theorem d_Ro_init_5 : decode b_Ro_init 5 = .ok (.sipush 256, 3) := by decide +kernel
theorem d_Ro_init_8 : decode b_Ro_init 8 = .ok (.newarray .byte, 2) := by decide +kernel
theorem d_Ro_init_10 : decode b_Ro_init 10 = .ok (.putfield 9, 3) := by decide +kernel
theorem q_107 : Cond.fieldLink "TwinKeepers$Row" 9 "TwinKeepers$Row" "bytes" "[B" ∈ xT := xin 107 (by decide +kernel) (by decide +kernel)
theorem d_Ro_init_13 : decode b_Ro_init 13 = .ok (.aload_n 0, 1) := by decide +kernel
theorem d_Ro_init_14 : decode b_Ro_init 14 = .ok (.iconst 0, 1) := by decide +kernel
theorem d_Ro_init_15 : decode b_Ro_init 15 = .ok (.putfield 13, 3) := by decide +kernel
theorem q_109 : Cond.fieldLink "TwinKeepers$Row" 13 "TwinKeepers$Row" "size" "I" ∈ xT := xin 109 (by decide +kernel) (by decide +kernel)
theorem d_Ro_init_18 : decode b_Ro_init 18 = .ok (.return_, 1) := by decide +kernel
abbrev b_TK_place : ByteArray := prog_1_method_12_code
def y_TK_place : MethodName := ⟨"TwinKeepers", "place", "()I"⟩
theorem kc_TK_place : Cond.code y_TK_place b_TK_place 1 (some .int) ∈ xT := xin 139 (by decide +kernel) (by decide +kernel)
theorem k_TK_place : xCode y_TK_place b_TK_place 1 (some .int) [] := Or.inl ⟨rfl, kc_TK_place⟩
theorem h_TK_place : plainFor y_TK_place = true ∧ (y_TK_place.cls ≠ "java/lang/invoke/MethodHandle" ∧ y_TK_place.cls ≠ "java/lang/invoke/VarHandle") ∧ (parseMethodDescriptor y_TK_place.desc).map (fun d => d.parameters.length) = some 0 := by decide +kernel
theorem v_TK_place : Cond.instanceMethod y_TK_place ∈ xT := xin 137 (by decide +kernel) (by decide +kernel)
theorem e_TK_place : Cond.selects "TwinKeepers" y_TK_place y_TK_place ∈ xT := xin 138 (by decide +kernel) (by decide +kernel)
theorem d_TK_place_0 : decode b_TK_place 0 = .ok (.aload_n 0, 1) := by decide +kernel
theorem d_TK_place_1 : decode b_TK_place 1 = .ok (.getfield 34, 3) := by decide +kernel
theorem d_TK_place_4 : decode b_TK_place 4 = .ok (.ireturn, 1) := by decide +kernel
abbrev b_TK_feed : ByteArray := prog_1_method_2_code
def y_TK_feed : MethodName := ⟨"TwinKeepers", "feed", "(JI)I"⟩
theorem kc_TK_feed : Cond.code y_TK_feed b_TK_feed 5 (some .int) ∈ xT := xin 148 (by decide +kernel) (by decide +kernel)
theorem k_TK_feed : xCode y_TK_feed b_TK_feed 5 (some .int) [] := Or.inl ⟨rfl, kc_TK_feed⟩
theorem h_TK_feed : plainFor y_TK_feed = true ∧ (y_TK_feed.cls ≠ "java/lang/invoke/MethodHandle" ∧ y_TK_feed.cls ≠ "java/lang/invoke/VarHandle") ∧ (parseMethodDescriptor y_TK_feed.desc).map (fun d => d.parameters.length) = some 2 := by decide +kernel
theorem v_TK_feed : Cond.instanceMethod y_TK_feed ∈ xT := xin 146 (by decide +kernel) (by decide +kernel)
theorem e_TK_feed : Cond.selects "TwinKeepers" y_TK_feed y_TK_feed ∈ xT := xin 147 (by decide +kernel) (by decide +kernel)
theorem d_TK_feed_0 : decode b_TK_feed 0 = .ok (.iload_n 3, 1) := by decide +kernel
theorem d_TK_feed_1 : decode b_TK_feed 1 = .ok (.iconst 1, 1) := by decide +kernel
theorem d_TK_feed_2 : decode b_TK_feed 2 = .ok (.if_icmp .lt 9, 3) := by decide +kernel
theorem d_TK_feed_5 : decode b_TK_feed 5 = .ok (.iload_n 3, 1) := by decide +kernel
theorem d_TK_feed_6 : decode b_TK_feed 6 = .ok (.bipush 8, 2) := by decide +kernel
theorem d_TK_feed_8 : decode b_TK_feed 8 = .ok (.if_icmp .le 13, 3) := by decide +kernel
theorem d_TK_feed_11 : decode b_TK_feed 11 = .ok (.new 37, 3) := by decide +kernel
theorem q_149 : Cond.classLink "TwinKeepers" 37 "java/lang/IllegalArgumentException" ∈ xT := xin 149 (by decide +kernel) (by decide +kernel)
theorem d_TK_feed_14 : decode b_TK_feed 14 = .ok (.dup, 1) := by decide +kernel
theorem d_TK_feed_15 : decode b_TK_feed 15 = .ok (.ldc 39, 2) := by decide +kernel
theorem d_TK_feed_17 : decode b_TK_feed 17 = .ok (.invokespecial 41, 3) := by decide +kernel
theorem q_191 : Cond.methodLink "TwinKeepers" 41 ⟨"java/lang/IllegalArgumentException", "<init>", "(Ljava/lang/String;)V"⟩ ∈ xT := xin 191 (by decide +kernel) (by decide +kernel)
theorem d_TK_feed_20 : decode b_TK_feed 20 = .ok (.athrow, 1) := by decide +kernel
theorem d_TK_feed_21 : decode b_TK_feed 21 = .ok (.aload_n 0, 1) := by decide +kernel
theorem d_TK_feed_22 : decode b_TK_feed 22 = .ok (.getfield 30, 3) := by decide +kernel
theorem d_TK_feed_25 : decode b_TK_feed 25 = .ok (.iload_n 3, 1) := by decide +kernel
theorem d_TK_feed_26 : decode b_TK_feed 26 = .ok (.iadd, 1) := by decide +kernel
theorem d_TK_feed_27 : decode b_TK_feed 27 = .ok (.sipush 300, 3) := by decide +kernel
theorem d_TK_feed_30 : decode b_TK_feed 30 = .ok (.if_icmp .le 13, 3) := by decide +kernel
theorem d_TK_feed_33 : decode b_TK_feed 33 = .ok (.new 44, 3) := by decide +kernel
theorem q_216 : Cond.classLink "TwinKeepers" 44 "java/lang/IllegalStateException" ∈ xT := xin 216 (by decide +kernel) (by decide +kernel)
theorem d_TK_feed_36 : decode b_TK_feed 36 = .ok (.dup, 1) := by decide +kernel
theorem d_TK_feed_37 : decode b_TK_feed 37 = .ok (.ldc 46, 2) := by decide +kernel
theorem d_TK_feed_39 : decode b_TK_feed 39 = .ok (.invokespecial 48, 3) := by decide +kernel
theorem q_226 : Cond.methodLink "TwinKeepers" 48 ⟨"java/lang/IllegalStateException", "<init>", "(Ljava/lang/String;)V"⟩ ∈ xT := xin 226 (by decide +kernel) (by decide +kernel)
theorem d_TK_feed_42 : decode b_TK_feed 42 = .ok (.athrow, 1) := by decide +kernel
theorem d_TK_feed_43 : decode b_TK_feed 43 = .ok (.iconst 0, 1) := by decide +kernel
theorem d_TK_feed_44 : decode b_TK_feed 44 = .ok (.istore 4, 2) := by decide +kernel
theorem d_TK_feed_46 : decode b_TK_feed 46 = .ok (.iload 4, 2) := by decide +kernel
theorem d_TK_feed_48 : decode b_TK_feed 48 = .ok (.iload_n 3, 1) := by decide +kernel
theorem d_TK_feed_49 : decode b_TK_feed 49 = .ok (.if_icmp .ge 30, 3) := by decide +kernel
theorem d_TK_feed_52 : decode b_TK_feed 52 = .ok (.aload_n 0, 1) := by decide +kernel
theorem d_TK_feed_53 : decode b_TK_feed 53 = .ok (.getfield 19, 3) := by decide +kernel
theorem d_TK_feed_56 : decode b_TK_feed 56 = .ok (.aload_n 0, 1) := by decide +kernel
theorem d_TK_feed_57 : decode b_TK_feed 57 = .ok (.getfield 30, 3) := by decide +kernel
theorem d_TK_feed_60 : decode b_TK_feed 60 = .ok (.iload 4, 2) := by decide +kernel
theorem d_TK_feed_62 : decode b_TK_feed 62 = .ok (.iadd, 1) := by decide +kernel
theorem d_TK_feed_63 : decode b_TK_feed 63 = .ok (.lload_n 1, 1) := by decide +kernel
theorem d_TK_feed_64 : decode b_TK_feed 64 = .ok (.bipush 8, 2) := by decide +kernel
theorem d_TK_feed_66 : decode b_TK_feed 66 = .ok (.iload 4, 2) := by decide +kernel
theorem d_TK_feed_68 : decode b_TK_feed 68 = .ok (.imul, 1) := by decide +kernel
theorem d_TK_feed_69 : decode b_TK_feed 69 = .ok (.lushr, 1) := by decide +kernel
theorem d_TK_feed_70 : decode b_TK_feed 70 = .ok (.l2i, 1) := by decide +kernel
theorem d_TK_feed_71 : decode b_TK_feed 71 = .ok (.i2b, 1) := by decide +kernel
theorem d_TK_feed_72 : decode b_TK_feed 72 = .ok (.bastore, 1) := by decide +kernel
theorem d_TK_feed_73 : decode b_TK_feed 73 = .ok (.iinc 4 1, 3) := by decide +kernel
theorem d_TK_feed_76 : decode b_TK_feed 76 = .ok (.goto (-30), 3) := by decide +kernel
theorem d_TK_feed_79 : decode b_TK_feed 79 = .ok (.aload_n 0, 1) := by decide +kernel
theorem d_TK_feed_80 : decode b_TK_feed 80 = .ok (.dup, 1) := by decide +kernel
theorem d_TK_feed_81 : decode b_TK_feed 81 = .ok (.getfield 30, 3) := by decide +kernel
theorem d_TK_feed_84 : decode b_TK_feed 84 = .ok (.iload_n 3, 1) := by decide +kernel
theorem d_TK_feed_85 : decode b_TK_feed 85 = .ok (.iadd, 1) := by decide +kernel
theorem d_TK_feed_86 : decode b_TK_feed 86 = .ok (.putfield 30, 3) := by decide +kernel
theorem d_TK_feed_89 : decode b_TK_feed 89 = .ok (.aload_n 0, 1) := by decide +kernel
theorem d_TK_feed_90 : decode b_TK_feed 90 = .ok (.getfield 30, 3) := by decide +kernel
theorem d_TK_feed_93 : decode b_TK_feed 93 = .ok (.ireturn, 1) := by decide +kernel
abbrev b_TK_open : ByteArray := prog_1_method_3_code
def y_TK_open : MethodName := ⟨"TwinKeepers", "open", "(II)I"⟩
theorem kc_TK_open : Cond.code y_TK_open b_TK_open 4 (some .int) ∈ xT := xin 239 (by decide +kernel) (by decide +kernel)
theorem k_TK_open : xCode y_TK_open b_TK_open 4 (some .int) [] := Or.inl ⟨rfl, kc_TK_open⟩
theorem h_TK_open : plainFor y_TK_open = true ∧ (y_TK_open.cls ≠ "java/lang/invoke/MethodHandle" ∧ y_TK_open.cls ≠ "java/lang/invoke/VarHandle") ∧ (parseMethodDescriptor y_TK_open.desc).map (fun d => d.parameters.length) = some 2 := by decide +kernel
theorem v_TK_open : Cond.instanceMethod y_TK_open ∈ xT := xin 237 (by decide +kernel) (by decide +kernel)
theorem e_TK_open : Cond.selects "TwinKeepers" y_TK_open y_TK_open ∈ xT := xin 238 (by decide +kernel) (by decide +kernel)
theorem d_TK_open_0 : decode b_TK_open 0 = .ok (.aload_n 0, 1) := by decide +kernel
theorem d_TK_open_1 : decode b_TK_open 1 = .ok (.iload_n 1, 1) := by decide +kernel
theorem d_TK_open_2 : decode b_TK_open 2 = .ok (.invokevirtual 49, 3) := by decide +kernel
theorem q_240 : Cond.methodLink "TwinKeepers" 49 ⟨"TwinKeepers", "machineOf", "(I)LTwinKeepers$Machine;"⟩ ∈ xT := xin 240 (by decide +kernel) (by decide +kernel)
theorem d_TK_open_5 : decode b_TK_open 5 = .ok (.astore_n 3, 1) := by decide +kernel
theorem d_TK_open_6 : decode b_TK_open 6 = .ok (.aload_n 3, 1) := by decide +kernel
theorem d_TK_open_7 : decode b_TK_open 7 = .ok (.iload_n 2, 1) := by decide +kernel
theorem d_TK_open_8 : decode b_TK_open 8 = .ok (.invokevirtual 53, 3) := by decide +kernel
theorem q_260 : Cond.methodLink "TwinKeepers" 53 ⟨"TwinKeepers$Machine", "takes", "(I)Z"⟩ ∈ xT := xin 260 (by decide +kernel) (by decide +kernel)
theorem d_TK_open_11 : decode b_TK_open 11 = .ok (.ifCond .ne 13, 3) := by decide +kernel
theorem d_TK_open_14 : decode b_TK_open 14 = .ok (.new 37, 3) := by decide +kernel
theorem d_TK_open_17 : decode b_TK_open 17 = .ok (.dup, 1) := by decide +kernel
theorem d_TK_open_18 : decode b_TK_open 18 = .ok (.ldc 57, 2) := by decide +kernel
theorem d_TK_open_20 : decode b_TK_open 20 = .ok (.invokespecial 41, 3) := by decide +kernel
theorem d_TK_open_23 : decode b_TK_open 23 = .ok (.athrow, 1) := by decide +kernel
theorem d_TK_open_24 : decode b_TK_open 24 = .ok (.aload_n 3, 1) := by decide +kernel
theorem d_TK_open_25 : decode b_TK_open 25 = .ok (.iload_n 2, 1) := by decide +kernel
theorem d_TK_open_26 : decode b_TK_open 26 = .ok (.invokevirtual 59, 3) := by decide +kernel
theorem q_266 : Cond.methodLink "TwinKeepers" 59 ⟨"TwinKeepers$Machine", "addSession", "(I)V"⟩ ∈ xT := xin 266 (by decide +kernel) (by decide +kernel)
theorem d_TK_open_29 : decode b_TK_open 29 = .ok (.aload_n 0, 1) := by decide +kernel
theorem d_TK_open_30 : decode b_TK_open 30 = .ok (.iload_n 2, 1) := by decide +kernel
theorem d_TK_open_31 : decode b_TK_open 31 = .ok (.putfield 34, 3) := by decide +kernel
theorem d_TK_open_34 : decode b_TK_open 34 = .ok (.aload_n 3, 1) := by decide +kernel
theorem d_TK_open_35 : decode b_TK_open 35 = .ok (.getfield 63, 3) := by decide +kernel
theorem q_89 : Cond.fieldLink "TwinKeepers" 63 "TwinKeepers$Machine" "sessions" "Ljava/util/ArrayList;" ∈ xT := xin 89 (by decide +kernel) (by decide +kernel)
theorem d_TK_open_38 : decode b_TK_open 38 = .ok (.invokevirtual 67, 3) := by decide +kernel
theorem q_392 : Cond.methodLink "TwinKeepers" 67 ⟨"java/util/ArrayList", "size", "()I"⟩ ∈ xT := xin 392 (by decide +kernel) (by decide +kernel)
theorem d_TK_open_41 : decode b_TK_open 41 = .ok (.ireturn, 1) := by decide +kernel
abbrev b_TK_machineOf : ByteArray := prog_1_method_14_code
def y_TK_machineOf : MethodName := ⟨"TwinKeepers", "machineOf", "(I)LTwinKeepers$Machine;"⟩
theorem kc_TK_machineOf : Cond.code y_TK_machineOf b_TK_machineOf 2 (some (.object "TwinKeepers$Machine")) ∈ xT := xin 243 (by decide +kernel) (by decide +kernel)
theorem k_TK_machineOf : xCode y_TK_machineOf b_TK_machineOf 2 (some (.object "TwinKeepers$Machine")) [] := Or.inl ⟨rfl, kc_TK_machineOf⟩
theorem h_TK_machineOf : plainFor y_TK_machineOf = true ∧ (y_TK_machineOf.cls ≠ "java/lang/invoke/MethodHandle" ∧ y_TK_machineOf.cls ≠ "java/lang/invoke/VarHandle") ∧ (parseMethodDescriptor y_TK_machineOf.desc).map (fun d => d.parameters.length) = some 1 := by decide +kernel
theorem v_TK_machineOf : Cond.instanceMethod y_TK_machineOf ∈ xT := xin 242 (by decide +kernel) (by decide +kernel)
theorem e_TK_machineOf : Cond.selects "TwinKeepers" y_TK_machineOf y_TK_machineOf ∈ xT := xinp 1 (by decide +kernel) (by decide +kernel)
theorem d_TK_machineOf_0 : decode b_TK_machineOf 0 = .ok (.iload_n 1, 1) := by decide +kernel
theorem d_TK_machineOf_1 : decode b_TK_machineOf 1 = .ok (.ifCond .lt 8, 3) := by decide +kernel
theorem d_TK_machineOf_4 : decode b_TK_machineOf 4 = .ok (.iload_n 1, 1) := by decide +kernel
theorem d_TK_machineOf_5 : decode b_TK_machineOf 5 = .ok (.iconst 1, 1) := by decide +kernel
theorem d_TK_machineOf_6 : decode b_TK_machineOf 6 = .ok (.if_icmp .le 13, 3) := by decide +kernel
theorem d_TK_machineOf_9 : decode b_TK_machineOf 9 = .ok (.new 171, 3) := by decide +kernel
theorem q_244 : Cond.classLink "TwinKeepers" 171 "java/lang/IndexOutOfBoundsException" ∈ xT := xin 244 (by decide +kernel) (by decide +kernel)
theorem d_TK_machineOf_12 : decode b_TK_machineOf 12 = .ok (.dup, 1) := by decide +kernel
theorem d_TK_machineOf_13 : decode b_TK_machineOf 13 = .ok (.ldc 209, 2) := by decide +kernel
theorem d_TK_machineOf_15 : decode b_TK_machineOf 15 = .ok (.invokespecial 175, 3) := by decide +kernel
theorem q_254 : Cond.methodLink "TwinKeepers" 175 ⟨"java/lang/IndexOutOfBoundsException", "<init>", "(Ljava/lang/String;)V"⟩ ∈ xT := xin 254 (by decide +kernel) (by decide +kernel)
theorem d_TK_machineOf_18 : decode b_TK_machineOf 18 = .ok (.athrow, 1) := by decide +kernel
theorem d_TK_machineOf_19 : decode b_TK_machineOf 19 = .ok (.iload_n 1, 1) := by decide +kernel
theorem d_TK_machineOf_20 : decode b_TK_machineOf 20 = .ok (.ifCond .ne 10, 3) := by decide +kernel
theorem d_TK_machineOf_23 : decode b_TK_machineOf 23 = .ok (.aload_n 0, 1) := by decide +kernel
theorem d_TK_machineOf_24 : decode b_TK_machineOf 24 = .ok (.getfield 10, 3) := by decide +kernel
theorem d_TK_machineOf_27 : decode b_TK_machineOf 27 = .ok (.goto 7, 3) := by decide +kernel
theorem d_TK_machineOf_30 : decode b_TK_machineOf 30 = .ok (.aload_n 0, 1) := by decide +kernel
theorem d_TK_machineOf_31 : decode b_TK_machineOf 31 = .ok (.getfield 16, 3) := by decide +kernel
theorem d_TK_machineOf_34 : decode b_TK_machineOf 34 = .ok (.areturn, 1) := by decide +kernel
abbrev b_Ma_takes : ByteArray := prog_4_method_2_code
def y_Ma_takes : MethodName := ⟨"TwinKeepers$Machine", "takes", "(I)Z"⟩
theorem kc_Ma_takes : Cond.code y_Ma_takes b_Ma_takes 2 (some .boolean) ∈ xT := xin 263 (by decide +kernel) (by decide +kernel)
theorem k_Ma_takes : xCode y_Ma_takes b_Ma_takes 2 (some .boolean) [] := Or.inl ⟨rfl, kc_Ma_takes⟩
theorem h_Ma_takes : plainFor y_Ma_takes = true ∧ (y_Ma_takes.cls ≠ "java/lang/invoke/MethodHandle" ∧ y_Ma_takes.cls ≠ "java/lang/invoke/VarHandle") ∧ (parseMethodDescriptor y_Ma_takes.desc).map (fun d => d.parameters.length) = some 1 := by decide +kernel
theorem v_Ma_takes : Cond.instanceMethod y_Ma_takes ∈ xT := xin 261 (by decide +kernel) (by decide +kernel)
theorem e_Ma_takes : Cond.selects "TwinKeepers$Machine" y_Ma_takes y_Ma_takes ∈ xT := xin 262 (by decide +kernel) (by decide +kernel)
theorem d_Ma_takes_0 : decode b_Ma_takes 0 = .ok (.iload_n 1, 1) := by decide +kernel
theorem d_Ma_takes_1 : decode b_Ma_takes 1 = .ok (.aload_n 0, 1) := by decide +kernel
theorem d_Ma_takes_2 : decode b_Ma_takes 2 = .ok (.getfield 25, 3) := by decide +kernel
theorem d_Ma_takes_5 : decode b_Ma_takes 5 = .ok (.if_icmp .le 13, 3) := by decide +kernel
theorem d_Ma_takes_8 : decode b_Ma_takes 8 = .ok (.iload_n 1, 1) := by decide +kernel
theorem d_Ma_takes_9 : decode b_Ma_takes 9 = .ok (.ldc 29, 2) := by decide +kernel
theorem q_264 : Cond.constant "TwinKeepers$Machine" 29 (1000000) ∈ xT := xin 264 (by decide +kernel) (by decide +kernel)
theorem d_Ma_takes_11 : decode b_Ma_takes 11 = .ok (.if_icmp .gt 7, 3) := by decide +kernel
theorem d_Ma_takes_14 : decode b_Ma_takes 14 = .ok (.iconst 1, 1) := by decide +kernel
theorem d_Ma_takes_15 : decode b_Ma_takes 15 = .ok (.goto 4, 3) := by decide +kernel
theorem d_Ma_takes_18 : decode b_Ma_takes 18 = .ok (.iconst 0, 1) := by decide +kernel
theorem d_Ma_takes_19 : decode b_Ma_takes 19 = .ok (.ireturn, 1) := by decide +kernel
abbrev b_Ma_addSession : ByteArray := prog_4_method_3_code
def y_Ma_addSession : MethodName := ⟨"TwinKeepers$Machine", "addSession", "(I)V"⟩
theorem kc_Ma_addSession : Cond.code y_Ma_addSession b_Ma_addSession 2 none ∈ xT := xin 269 (by decide +kernel) (by decide +kernel)
theorem k_Ma_addSession : xCode y_Ma_addSession b_Ma_addSession 2 none [] := Or.inl ⟨rfl, kc_Ma_addSession⟩
theorem h_Ma_addSession : plainFor y_Ma_addSession = true ∧ (y_Ma_addSession.cls ≠ "java/lang/invoke/MethodHandle" ∧ y_Ma_addSession.cls ≠ "java/lang/invoke/VarHandle") ∧ (parseMethodDescriptor y_Ma_addSession.desc).map (fun d => d.parameters.length) = some 1 := by decide +kernel
theorem v_Ma_addSession : Cond.instanceMethod y_Ma_addSession ∈ xT := xin 267 (by decide +kernel) (by decide +kernel)
theorem e_Ma_addSession : Cond.selects "TwinKeepers$Machine" y_Ma_addSession y_Ma_addSession ∈ xT := xin 268 (by decide +kernel) (by decide +kernel)
theorem d_Ma_addSession_0 : decode b_Ma_addSession 0 = .ok (.aload_n 0, 1) := by decide +kernel
theorem d_Ma_addSession_1 : decode b_Ma_addSession 1 = .ok (.getfield 12, 3) := by decide +kernel
theorem d_Ma_addSession_4 : decode b_Ma_addSession 4 = .ok (.invokevirtual 30, 3) := by decide +kernel
theorem q_270 : Cond.methodLink "TwinKeepers$Machine" 30 ⟨"java/util/ArrayList", "size", "()I"⟩ ∈ xT := xin 270 (by decide +kernel) (by decide +kernel)
theorem d_Ma_addSession_7 : decode b_Ma_addSession 7 = .ok (.bipush 16, 2) := by decide +kernel
theorem d_Ma_addSession_9 : decode b_Ma_addSession 9 = .ok (.if_icmp .lt 15, 3) := by decide +kernel
theorem d_Ma_addSession_12 : decode b_Ma_addSession 12 = .ok (.aload_n 0, 1) := by decide +kernel
theorem d_Ma_addSession_13 : decode b_Ma_addSession 13 = .ok (.getfield 12, 3) := by decide +kernel
theorem d_Ma_addSession_16 : decode b_Ma_addSession 16 = .ok (.aload_n 0, 1) := by decide +kernel
theorem d_Ma_addSession_17 : decode b_Ma_addSession 17 = .ok (.invokevirtual 34, 3) := by decide +kernel
theorem q_274 : Cond.methodLink "TwinKeepers$Machine" 34 ⟨"TwinKeepers$Machine", "longestUnused", "()I"⟩ ∈ xT := xin 274 (by decide +kernel) (by decide +kernel)
theorem d_Ma_addSession_20 : decode b_Ma_addSession 20 = .ok (.invokevirtual 37, 3) := by decide +kernel
theorem q_293 : Cond.methodLink "TwinKeepers$Machine" 37 ⟨"java/util/ArrayList", "remove", "(I)Ljava/lang/Object;"⟩ ∈ xT := xin 293 (by decide +kernel) (by decide +kernel)
theorem d_Ma_addSession_23 : decode b_Ma_addSession 23 = .ok (.pop, 1) := by decide +kernel
theorem d_Ma_addSession_24 : decode b_Ma_addSession 24 = .ok (.aload_n 0, 1) := by decide +kernel
theorem d_Ma_addSession_25 : decode b_Ma_addSession 25 = .ok (.getfield 12, 3) := by decide +kernel
theorem d_Ma_addSession_28 : decode b_Ma_addSession 28 = .ok (.new 41, 3) := by decide +kernel
theorem q_292 : Cond.classLink "TwinKeepers$Machine" 41 "TwinKeepers$Session" ∈ xT := xin 292 (by decide +kernel) (by decide +kernel)
theorem d_Ma_addSession_31 : decode b_Ma_addSession 31 = .ok (.dup, 1) := by decide +kernel
theorem d_Ma_addSession_32 : decode b_Ma_addSession 32 = .ok (.iload_n 1, 1) := by decide +kernel
theorem d_Ma_addSession_33 : decode b_Ma_addSession 33 = .ok (.iload_n 1, 1) := by decide +kernel
theorem d_Ma_addSession_34 : decode b_Ma_addSession 34 = .ok (.iconst 0, 1) := by decide +kernel
theorem d_Ma_addSession_35 : decode b_Ma_addSession 35 = .ok (.iload_n 1, 1) := by decide +kernel
theorem d_Ma_addSession_36 : decode b_Ma_addSession 36 = .ok (.getstatic 43, 3) := by decide +kernel
theorem q_305 : Cond.fieldLinkNest "TwinKeepers$Machine" 43 "TwinKeepers" "EMPTY" "[B" "TwinKeepers" ∈ xT := xin 305 (by decide +kernel) (by decide +kernel)
theorem d_Ma_addSession_39 : decode b_Ma_addSession 39 = .ok (.invokespecial 47, 3) := by decide +kernel
theorem q_307 : Cond.methodLink "TwinKeepers$Machine" 47 ⟨"TwinKeepers$Session", "<init>", "(IIII[B)V"⟩ ∈ xT := xin 307 (by decide +kernel) (by decide +kernel)
theorem d_Ma_addSession_42 : decode b_Ma_addSession 42 = .ok (.invokevirtual 50, 3) := by decide +kernel
theorem q_334 : Cond.methodLink "TwinKeepers$Machine" 50 ⟨"java/util/ArrayList", "add", "(Ljava/lang/Object;)Z"⟩ ∈ xT := xin 334 (by decide +kernel) (by decide +kernel)
theorem d_Ma_addSession_45 : decode b_Ma_addSession 45 = .ok (.pop, 1) := by decide +kernel
theorem d_Ma_addSession_46 : decode b_Ma_addSession 46 = .ok (.aload_n 0, 1) := by decide +kernel
theorem d_Ma_addSession_47 : decode b_Ma_addSession 47 = .ok (.iload_n 1, 1) := by decide +kernel
theorem d_Ma_addSession_48 : decode b_Ma_addSession 48 = .ok (.putfield 25, 3) := by decide +kernel
theorem d_Ma_addSession_51 : decode b_Ma_addSession 51 = .ok (.return_, 1) := by decide +kernel
abbrev b_Ma_longestUnused : ByteArray := prog_4_method_5_code
def y_Ma_longestUnused : MethodName := ⟨"TwinKeepers$Machine", "longestUnused", "()I"⟩
theorem kc_Ma_longestUnused : Cond.code y_Ma_longestUnused b_Ma_longestUnused 3 (some .int) ∈ xT := xin 277 (by decide +kernel) (by decide +kernel)
theorem k_Ma_longestUnused : xCode y_Ma_longestUnused b_Ma_longestUnused 3 (some .int) [] := Or.inl ⟨rfl, kc_Ma_longestUnused⟩
theorem h_Ma_longestUnused : plainFor y_Ma_longestUnused = true ∧ (y_Ma_longestUnused.cls ≠ "java/lang/invoke/MethodHandle" ∧ y_Ma_longestUnused.cls ≠ "java/lang/invoke/VarHandle") ∧ (parseMethodDescriptor y_Ma_longestUnused.desc).map (fun d => d.parameters.length) = some 0 := by decide +kernel
theorem v_Ma_longestUnused : Cond.instanceMethod y_Ma_longestUnused ∈ xT := xin 276 (by decide +kernel) (by decide +kernel)
theorem e_Ma_longestUnused : Cond.selects "TwinKeepers$Machine" y_Ma_longestUnused y_Ma_longestUnused ∈ xT := xinp 2 (by decide +kernel) (by decide +kernel)
theorem d_Ma_longestUnused_0 : decode b_Ma_longestUnused 0 = .ok (.iconst 0, 1) := by decide +kernel
theorem d_Ma_longestUnused_1 : decode b_Ma_longestUnused 1 = .ok (.istore_n 1, 1) := by decide +kernel
theorem d_Ma_longestUnused_2 : decode b_Ma_longestUnused 2 = .ok (.iconst 1, 1) := by decide +kernel
theorem d_Ma_longestUnused_3 : decode b_Ma_longestUnused 3 = .ok (.istore_n 2, 1) := by decide +kernel
theorem d_Ma_longestUnused_4 : decode b_Ma_longestUnused 4 = .ok (.iload_n 2, 1) := by decide +kernel
theorem d_Ma_longestUnused_5 : decode b_Ma_longestUnused 5 = .ok (.aload_n 0, 1) := by decide +kernel
theorem d_Ma_longestUnused_6 : decode b_Ma_longestUnused 6 = .ok (.getfield 12, 3) := by decide +kernel
theorem d_Ma_longestUnused_9 : decode b_Ma_longestUnused 9 = .ok (.invokevirtual 30, 3) := by decide +kernel
theorem d_Ma_longestUnused_12 : decode b_Ma_longestUnused 12 = .ok (.if_icmp .ge 42, 3) := by decide +kernel
theorem d_Ma_longestUnused_15 : decode b_Ma_longestUnused 15 = .ok (.aload_n 0, 1) := by decide +kernel
theorem d_Ma_longestUnused_16 : decode b_Ma_longestUnused 16 = .ok (.getfield 12, 3) := by decide +kernel
theorem d_Ma_longestUnused_19 : decode b_Ma_longestUnused 19 = .ok (.iload_n 2, 1) := by decide +kernel
theorem d_Ma_longestUnused_20 : decode b_Ma_longestUnused 20 = .ok (.invokevirtual 54, 3) := by decide +kernel
theorem q_278 : Cond.methodLink "TwinKeepers$Machine" 54 ⟨"java/util/ArrayList", "get", "(I)Ljava/lang/Object;"⟩ ∈ xT := xin 278 (by decide +kernel) (by decide +kernel)
theorem d_Ma_longestUnused_23 : decode b_Ma_longestUnused 23 = .ok (.checkcast 41, 3) := by decide +kernel
theorem d_Ma_longestUnused_26 : decode b_Ma_longestUnused 26 = .ok (.getfield 60, 3) := by decide +kernel
theorem q_315 : Cond.fieldLink "TwinKeepers$Machine" 60 "TwinKeepers$Session" "used" "I" ∈ xT := xin 315 (by decide +kernel) (by decide +kernel)
theorem d_Ma_longestUnused_29 : decode b_Ma_longestUnused 29 = .ok (.aload_n 0, 1) := by decide +kernel
theorem d_Ma_longestUnused_30 : decode b_Ma_longestUnused 30 = .ok (.getfield 12, 3) := by decide +kernel
theorem d_Ma_longestUnused_33 : decode b_Ma_longestUnused 33 = .ok (.iload_n 1, 1) := by decide +kernel
theorem d_Ma_longestUnused_34 : decode b_Ma_longestUnused 34 = .ok (.invokevirtual 54, 3) := by decide +kernel
theorem d_Ma_longestUnused_37 : decode b_Ma_longestUnused 37 = .ok (.checkcast 41, 3) := by decide +kernel
theorem d_Ma_longestUnused_40 : decode b_Ma_longestUnused 40 = .ok (.getfield 60, 3) := by decide +kernel
theorem d_Ma_longestUnused_43 : decode b_Ma_longestUnused 43 = .ok (.if_icmp .ge 5, 3) := by decide +kernel
theorem d_Ma_longestUnused_46 : decode b_Ma_longestUnused 46 = .ok (.iload_n 2, 1) := by decide +kernel
theorem d_Ma_longestUnused_47 : decode b_Ma_longestUnused 47 = .ok (.istore_n 1, 1) := by decide +kernel
theorem d_Ma_longestUnused_48 : decode b_Ma_longestUnused 48 = .ok (.iinc 2 1, 3) := by decide +kernel
theorem d_Ma_longestUnused_51 : decode b_Ma_longestUnused 51 = .ok (.goto (-47), 3) := by decide +kernel
theorem d_Ma_longestUnused_54 : decode b_Ma_longestUnused 54 = .ok (.iload_n 1, 1) := by decide +kernel
theorem d_Ma_longestUnused_55 : decode b_Ma_longestUnused 55 = .ok (.ireturn, 1) := by decide +kernel
abbrev b_Se_init : ByteArray := prog_6_method_1_code
def y_Se_init : MethodName := ⟨"TwinKeepers$Session", "<init>", "(IIII[B)V"⟩
theorem kc_Se_init : Cond.code y_Se_init b_Se_init 6 none ∈ xT := xin 309 (by decide +kernel) (by decide +kernel)
theorem k_Se_init : xCode y_Se_init b_Se_init 6 none [] := Or.inl ⟨rfl, kc_Se_init⟩
theorem h_Se_init : plainFor y_Se_init = true ∧ (y_Se_init.cls ≠ "java/lang/invoke/MethodHandle" ∧ y_Se_init.cls ≠ "java/lang/invoke/VarHandle") ∧ (parseMethodDescriptor y_Se_init.desc).map (fun d => d.parameters.length) = some 5 := by decide +kernel
theorem v_Se_init : Cond.instanceMethod y_Se_init ∈ xT := xin 308 (by decide +kernel) (by decide +kernel)
theorem d_Se_init_0 : decode b_Se_init 0 = .ok (.aload_n 0, 1) := by decide +kernel
theorem d_Se_init_1 : decode b_Se_init 1 = .ok (.invokespecial 1, 3) := by decide +kernel
theorem q_310 : Cond.methodLink "TwinKeepers$Session" 1 ⟨"java/lang/Object", "<init>", "()V"⟩ ∈ xT := xin 310 (by decide +kernel) (by decide +kernel)
theorem d_Se_init_4 : decode b_Se_init 4 = .ok (.aload_n 0, 1) := by decide +kernel
theorem d_Se_init_5 : decode b_Se_init 5 = .ok (.iload_n 1, 1) := by decide +kernel
theorem d_Se_init_6 : decode b_Se_init 6 = .ok (.putfield 7, 3) := by decide +kernel
theorem q_311 : Cond.fieldLink "TwinKeepers$Session" 7 "TwinKeepers$Session" "number" "I" ∈ xT := xin 311 (by decide +kernel) (by decide +kernel)
theorem d_Se_init_9 : decode b_Se_init 9 = .ok (.aload_n 0, 1) := by decide +kernel
theorem d_Se_init_10 : decode b_Se_init 10 = .ok (.iload_n 2, 1) := by decide +kernel
theorem d_Se_init_11 : decode b_Se_init 11 = .ok (.putfield 13, 3) := by decide +kernel
theorem q_314 : Cond.fieldLink "TwinKeepers$Session" 13 "TwinKeepers$Session" "used" "I" ∈ xT := xin 314 (by decide +kernel) (by decide +kernel)
theorem d_Se_init_14 : decode b_Se_init 14 = .ok (.aload_n 0, 1) := by decide +kernel
theorem d_Se_init_15 : decode b_Se_init 15 = .ok (.iload_n 3, 1) := by decide +kernel
theorem d_Se_init_16 : decode b_Se_init 16 = .ok (.putfield 16, 3) := by decide +kernel
theorem q_317 : Cond.fieldLink "TwinKeepers$Session" 16 "TwinKeepers$Session" "serial" "I" ∈ xT := xin 317 (by decide +kernel) (by decide +kernel)
theorem d_Se_init_19 : decode b_Se_init 19 = .ok (.aload_n 0, 1) := by decide +kernel
theorem d_Se_init_20 : decode b_Se_init 20 = .ok (.iload 4, 2) := by decide +kernel
theorem d_Se_init_22 : decode b_Se_init 22 = .ok (.putfield 19, 3) := by decide +kernel
theorem q_319 : Cond.fieldLink "TwinKeepers$Session" 19 "TwinKeepers$Session" "answerPlace" "I" ∈ xT := xin 319 (by decide +kernel) (by decide +kernel)
theorem d_Se_init_25 : decode b_Se_init 25 = .ok (.aload_n 0, 1) := by decide +kernel
theorem d_Se_init_26 : decode b_Se_init 26 = .ok (.aload 5, 2) := by decide +kernel
theorem d_Se_init_28 : decode b_Se_init 28 = .ok (.putfield 22, 3) := by decide +kernel
theorem q_321 : Cond.fieldLink "TwinKeepers$Session" 22 "TwinKeepers$Session" "answer" "[B" ∈ xT := xin 321 (by decide +kernel) (by decide +kernel)
theorem d_Se_init_31 : decode b_Se_init 31 = .ok (.return_, 1) := by decide +kernel
abbrev b_TK_run : ByteArray := prog_1_method_4_code
def y_TK_run : MethodName := ⟨"TwinKeepers", "run", "(IIIII)I"⟩
theorem kc_TK_run : Cond.code y_TK_run b_TK_run 10 (some .int) ∈ xT := xin 399 (by decide +kernel) (by decide +kernel)
theorem k_TK_run : xCode y_TK_run b_TK_run 10 (some .int) [] := Or.inl ⟨rfl, kc_TK_run⟩
theorem h_TK_run : plainFor y_TK_run = true ∧ (y_TK_run.cls ≠ "java/lang/invoke/MethodHandle" ∧ y_TK_run.cls ≠ "java/lang/invoke/VarHandle") ∧ (parseMethodDescriptor y_TK_run.desc).map (fun d => d.parameters.length) = some 5 := by decide +kernel
theorem v_TK_run : Cond.instanceMethod y_TK_run ∈ xT := xin 397 (by decide +kernel) (by decide +kernel)
theorem e_TK_run : Cond.selects "TwinKeepers" y_TK_run y_TK_run ∈ xT := xin 398 (by decide +kernel) (by decide +kernel)
theorem d_TK_run_0 : decode b_TK_run 0 = .ok (.aload_n 0, 1) := by decide +kernel
theorem d_TK_run_1 : decode b_TK_run 1 = .ok (.invokevirtual 73, 3) := by decide +kernel
theorem q_400 : Cond.methodLink "TwinKeepers" 73 ⟨"TwinKeepers", "takeTape", "()I"⟩ ∈ xT := xin 400 (by decide +kernel) (by decide +kernel)
theorem d_TK_run_4 : decode b_TK_run 4 = .ok (.istore 6, 2) := by decide +kernel
theorem d_TK_run_6 : decode b_TK_run 6 = .ok (.aload_n 0, 1) := by decide +kernel
theorem d_TK_run_7 : decode b_TK_run 7 = .ok (.iload_n 1, 1) := by decide +kernel
theorem d_TK_run_8 : decode b_TK_run 8 = .ok (.invokevirtual 49, 3) := by decide +kernel
theorem d_TK_run_11 : decode b_TK_run 11 = .ok (.astore 7, 2) := by decide +kernel
theorem d_TK_run_13 : decode b_TK_run 13 = .ok (.aload 7, 2) := by decide +kernel
theorem d_TK_run_15 : decode b_TK_run 15 = .ok (.iload_n 2, 1) := by decide +kernel
theorem d_TK_run_16 : decode b_TK_run 16 = .ok (.invokevirtual 53, 3) := by decide +kernel
theorem d_TK_run_19 : decode b_TK_run 19 = .ok (.ifCond .ne 13, 3) := by decide +kernel
theorem d_TK_run_22 : decode b_TK_run 22 = .ok (.new 37, 3) := by decide +kernel
theorem d_TK_run_25 : decode b_TK_run 25 = .ok (.dup, 1) := by decide +kernel
theorem d_TK_run_26 : decode b_TK_run 26 = .ok (.ldc 57, 2) := by decide +kernel
theorem d_TK_run_28 : decode b_TK_run 28 = .ok (.invokespecial 41, 3) := by decide +kernel
theorem d_TK_run_31 : decode b_TK_run 31 = .ok (.athrow, 1) := by decide +kernel
theorem d_TK_run_32 : decode b_TK_run 32 = .ok (.iload 4, 2) := by decide +kernel
theorem d_TK_run_34 : decode b_TK_run 34 = .ok (.ifCond .lt 13, 3) := by decide +kernel
theorem d_TK_run_37 : decode b_TK_run 37 = .ok (.iload 5, 2) := by decide +kernel
theorem d_TK_run_39 : decode b_TK_run 39 = .ok (.iload 6, 2) := by decide +kernel
theorem d_TK_run_41 : decode b_TK_run 41 = .ok (.invokestatic 76, 3) := by decide +kernel
theorem q_404 : Cond.methodLink "TwinKeepers" 76 ⟨"TwinKeepers", "isOperation", "(II)Z"⟩ ∈ xT := xin 404 (by decide +kernel) (by decide +kernel)
theorem d_TK_run_44 : decode b_TK_run 44 = .ok (.ifCond .ne 13, 3) := by decide +kernel
theorem d_TK_run_47 : decode b_TK_run 47 = .ok (.new 37, 3) := by decide +kernel
theorem d_TK_run_50 : decode b_TK_run 50 = .ok (.dup, 1) := by decide +kernel
theorem d_TK_run_51 : decode b_TK_run 51 = .ok (.ldc 80, 2) := by decide +kernel
theorem d_TK_run_53 : decode b_TK_run 53 = .ok (.invokespecial 41, 3) := by decide +kernel
theorem d_TK_run_56 : decode b_TK_run 56 = .ok (.athrow, 1) := by decide +kernel
theorem d_TK_run_57 : decode b_TK_run 57 = .ok (.aload 7, 2) := by decide +kernel
theorem d_TK_run_59 : decode b_TK_run 59 = .ok (.iload_n 2, 1) := by decide +kernel
theorem d_TK_run_60 : decode b_TK_run 60 = .ok (.putfield 82, 3) := by decide +kernel
theorem q_93 : Cond.fieldLink "TwinKeepers" 82 "TwinKeepers$Machine" "greatestPlace" "I" ∈ xT := xin 93 (by decide +kernel) (by decide +kernel)
theorem d_TK_run_63 : decode b_TK_run 63 = .ok (.aload_n 0, 1) := by decide +kernel
theorem d_TK_run_64 : decode b_TK_run 64 = .ok (.iload_n 2, 1) := by decide +kernel
theorem d_TK_run_65 : decode b_TK_run 65 = .ok (.putfield 34, 3) := by decide +kernel
theorem d_TK_run_68 : decode b_TK_run 68 = .ok (.aload_n 0, 1) := by decide +kernel
theorem d_TK_run_69 : decode b_TK_run 69 = .ok (.getfield 26, 3) := by decide +kernel
theorem d_TK_run_72 : decode b_TK_run 72 = .ok (.invokevirtual 85, 3) := by decide +kernel
theorem q_423 : Cond.methodLink "TwinKeepers" 85 ⟨"TwinKeepers$Row", "empty", "()V"⟩ ∈ xT := xin 423 (by decide +kernel) (by decide +kernel)
theorem d_TK_run_75 : decode b_TK_run 75 = .ok (.aload 7, 2) := by decide +kernel
theorem d_TK_run_77 : decode b_TK_run 77 = .ok (.iload_n 3, 1) := by decide +kernel
theorem d_TK_run_78 : decode b_TK_run 78 = .ok (.invokevirtual 88, 3) := by decide +kernel
theorem q_427 : Cond.methodLink "TwinKeepers" 88 ⟨"TwinKeepers$Machine", "indexOfSession", "(I)I"⟩ ∈ xT := xin 427 (by decide +kernel) (by decide +kernel)
theorem d_TK_run_81 : decode b_TK_run 81 = .ok (.istore 8, 2) := by decide +kernel
theorem d_TK_run_83 : decode b_TK_run 83 = .ok (.iload 8, 2) := by decide +kernel
theorem d_TK_run_85 : decode b_TK_run 85 = .ok (.iconst (-1), 1) := by decide +kernel
theorem d_TK_run_86 : decode b_TK_run 86 = .ok (.if_icmp .ne 5, 3) := by decide +kernel
theorem d_TK_run_89 : decode b_TK_run 89 = .ok (.iconst 2, 1) := by decide +kernel
theorem d_TK_run_90 : decode b_TK_run 90 = .ok (.ireturn, 1) := by decide +kernel
theorem d_TK_run_91 : decode b_TK_run 91 = .ok (.aload 7, 2) := by decide +kernel
theorem d_TK_run_93 : decode b_TK_run 93 = .ok (.getfield 63, 3) := by decide +kernel
theorem d_TK_run_96 : decode b_TK_run 96 = .ok (.iload 8, 2) := by decide +kernel
theorem d_TK_run_98 : decode b_TK_run 98 = .ok (.invokevirtual 92, 3) := by decide +kernel
theorem q_431 : Cond.methodLink "TwinKeepers" 92 ⟨"java/util/ArrayList", "get", "(I)Ljava/lang/Object;"⟩ ∈ xT := xin 431 (by decide +kernel) (by decide +kernel)
theorem d_TK_run_101 : decode b_TK_run 101 = .ok (.checkcast 96, 3) := by decide +kernel
theorem q_432 : Cond.classLink "TwinKeepers" 96 "TwinKeepers$Session" ∈ xT := xin 432 (by decide +kernel) (by decide +kernel)
theorem d_TK_run_104 : decode b_TK_run 104 = .ok (.iload_n 2, 1) := by decide +kernel
theorem d_TK_run_105 : decode b_TK_run 105 = .ok (.invokevirtual 98, 3) := by decide +kernel
theorem q_433 : Cond.methodLink "TwinKeepers" 98 ⟨"TwinKeepers$Session", "usedAt", "(I)LTwinKeepers$Session;"⟩ ∈ xT := xin 433 (by decide +kernel) (by decide +kernel)
theorem d_TK_run_108 : decode b_TK_run 108 = .ok (.astore 9, 2) := by decide +kernel
theorem d_TK_run_110 : decode b_TK_run 110 = .ok (.aload 7, 2) := by decide +kernel
theorem d_TK_run_112 : decode b_TK_run 112 = .ok (.getfield 63, 3) := by decide +kernel
theorem d_TK_run_115 : decode b_TK_run 115 = .ok (.iload 8, 2) := by decide +kernel
theorem d_TK_run_117 : decode b_TK_run 117 = .ok (.aload 9, 2) := by decide +kernel
theorem d_TK_run_119 : decode b_TK_run 119 = .ok (.invokevirtual 102, 3) := by decide +kernel
theorem q_439 : Cond.methodLink "TwinKeepers" 102 ⟨"java/util/ArrayList", "set", "(ILjava/lang/Object;)Ljava/lang/Object;"⟩ ∈ xT := xin 439 (by decide +kernel) (by decide +kernel)
theorem d_TK_run_122 : decode b_TK_run 122 = .ok (.pop, 1) := by decide +kernel
theorem d_TK_run_123 : decode b_TK_run 123 = .ok (.iload 4, 2) := by decide +kernel
theorem d_TK_run_125 : decode b_TK_run 125 = .ok (.aload 9, 2) := by decide +kernel
theorem d_TK_run_127 : decode b_TK_run 127 = .ok (.getfield 106, 3) := by decide +kernel
theorem q_318 : Cond.fieldLink "TwinKeepers" 106 "TwinKeepers$Session" "serial" "I" ∈ xT := xin 318 (by decide +kernel) (by decide +kernel)
theorem d_TK_run_130 : decode b_TK_run 130 = .ok (.if_icmp .ge 5, 3) := by decide +kernel
theorem d_TK_run_133 : decode b_TK_run 133 = .ok (.iconst 3, 1) := by decide +kernel
theorem d_TK_run_134 : decode b_TK_run 134 = .ok (.ireturn, 1) := by decide +kernel
theorem d_TK_run_135 : decode b_TK_run 135 = .ok (.iload 4, 2) := by decide +kernel
theorem d_TK_run_137 : decode b_TK_run 137 = .ok (.aload 9, 2) := by decide +kernel
theorem d_TK_run_139 : decode b_TK_run 139 = .ok (.getfield 106, 3) := by decide +kernel
theorem d_TK_run_142 : decode b_TK_run 142 = .ok (.if_icmp .ne 26, 3) := by decide +kernel
theorem d_TK_run_145 : decode b_TK_run 145 = .ok (.aload_n 0, 1) := by decide +kernel
theorem d_TK_run_146 : decode b_TK_run 146 = .ok (.getfield 26, 3) := by decide +kernel
theorem d_TK_run_149 : decode b_TK_run 149 = .ok (.aload 9, 2) := by decide +kernel
theorem d_TK_run_151 : decode b_TK_run 151 = .ok (.getfield 109, 3) := by decide +kernel
theorem q_322 : Cond.fieldLink "TwinKeepers" 109 "TwinKeepers$Session" "answer" "[B" ∈ xT := xin 322 (by decide +kernel) (by decide +kernel)
theorem d_TK_run_154 : decode b_TK_run 154 = .ok (.invokevirtual 112, 3) := by decide +kernel
theorem q_443 : Cond.methodLink "TwinKeepers" 112 ⟨"TwinKeepers$Row", "addAll", "([B)V"⟩ ∈ xT := xin 443 (by decide +kernel) (by decide +kernel)
theorem d_TK_run_157 : decode b_TK_run 157 = .ok (.aload_n 0, 1) := by decide +kernel
theorem d_TK_run_158 : decode b_TK_run 158 = .ok (.aload 9, 2) := by decide +kernel
theorem d_TK_run_160 : decode b_TK_run 160 = .ok (.getfield 116, 3) := by decide +kernel
theorem q_320 : Cond.fieldLink "TwinKeepers" 116 "TwinKeepers$Session" "answerPlace" "I" ∈ xT := xin 320 (by decide +kernel) (by decide +kernel)
theorem d_TK_run_163 : decode b_TK_run 163 = .ok (.putfield 34, 3) := by decide +kernel
theorem d_TK_run_166 : decode b_TK_run 166 = .ok (.iconst 1, 1) := by decide +kernel
theorem d_TK_run_167 : decode b_TK_run 167 = .ok (.ireturn, 1) := by decide +kernel
theorem d_TK_run_168 : decode b_TK_run 168 = .ok (.aload_n 0, 1) := by decide +kernel
theorem d_TK_run_169 : decode b_TK_run 169 = .ok (.aload 7, 2) := by decide +kernel
theorem d_TK_run_171 : decode b_TK_run 171 = .ok (.getfield 119, 3) := by decide +kernel
theorem q_91 : Cond.fieldLink "TwinKeepers" 119 "TwinKeepers$Machine" "map" "LTwinKeepers$KeyMap;" ∈ xT := xin 91 (by decide +kernel) (by decide +kernel)
theorem d_TK_run_174 : decode b_TK_run 174 = .ok (.iload 5, 2) := by decide +kernel
theorem d_TK_run_176 : decode b_TK_run 176 = .ok (.iload 6, 2) := by decide +kernel
theorem d_TK_run_178 : decode b_TK_run 178 = .ok (.invokevirtual 123, 3) := by decide +kernel
theorem q_461 : Cond.methodLink "TwinKeepers" 123 ⟨"TwinKeepers", "operate", "(LTwinKeepers$KeyMap;II)V"⟩ ∈ xT := xin 461 (by decide +kernel) (by decide +kernel)
theorem d_TK_run_181 : decode b_TK_run 181 = .ok (.aload 7, 2) := by decide +kernel
theorem d_TK_run_183 : decode b_TK_run 183 = .ok (.getfield 63, 3) := by decide +kernel
theorem d_TK_run_186 : decode b_TK_run 186 = .ok (.iload 8, 2) := by decide +kernel
theorem d_TK_run_188 : decode b_TK_run 188 = .ok (.aload 9, 2) := by decide +kernel
theorem d_TK_run_190 : decode b_TK_run 190 = .ok (.iload 4, 2) := by decide +kernel
theorem d_TK_run_192 : decode b_TK_run 192 = .ok (.iload_n 2, 1) := by decide +kernel
theorem d_TK_run_193 : decode b_TK_run 193 = .ok (.aload_n 0, 1) := by decide +kernel
theorem d_TK_run_194 : decode b_TK_run 194 = .ok (.getfield 26, 3) := by decide +kernel
theorem d_TK_run_197 : decode b_TK_run 197 = .ok (.invokevirtual 127, 3) := by decide +kernel
theorem q_773 : Cond.methodLink "TwinKeepers" 127 ⟨"TwinKeepers$Row", "copied", "()[B"⟩ ∈ xT := xin 773 (by decide +kernel) (by decide +kernel)
theorem d_TK_run_200 : decode b_TK_run 200 = .ok (.invokevirtual 131, 3) := by decide +kernel
theorem q_777 : Cond.methodLink "TwinKeepers" 131 ⟨"TwinKeepers$Session", "answered", "(II[B)LTwinKeepers$Session;"⟩ ∈ xT := xin 777 (by decide +kernel) (by decide +kernel)
theorem d_TK_run_203 : decode b_TK_run 203 = .ok (.invokevirtual 102, 3) := by decide +kernel
theorem d_TK_run_206 : decode b_TK_run 206 = .ok (.pop, 1) := by decide +kernel
theorem d_TK_run_207 : decode b_TK_run 207 = .ok (.iconst 0, 1) := by decide +kernel
theorem d_TK_run_208 : decode b_TK_run 208 = .ok (.ireturn, 1) := by decide +kernel
abbrev b_TK_takeTape : ByteArray := prog_1_method_15_code
def y_TK_takeTape : MethodName := ⟨"TwinKeepers", "takeTape", "()I"⟩
theorem kc_TK_takeTape : Cond.code y_TK_takeTape b_TK_takeTape 2 (some .int) ∈ xT := xin 403 (by decide +kernel) (by decide +kernel)
theorem k_TK_takeTape : xCode y_TK_takeTape b_TK_takeTape 2 (some .int) [] := Or.inl ⟨rfl, kc_TK_takeTape⟩
theorem h_TK_takeTape : plainFor y_TK_takeTape = true ∧ (y_TK_takeTape.cls ≠ "java/lang/invoke/MethodHandle" ∧ y_TK_takeTape.cls ≠ "java/lang/invoke/VarHandle") ∧ (parseMethodDescriptor y_TK_takeTape.desc).map (fun d => d.parameters.length) = some 0 := by decide +kernel
theorem v_TK_takeTape : Cond.instanceMethod y_TK_takeTape ∈ xT := xin 402 (by decide +kernel) (by decide +kernel)
theorem e_TK_takeTape : Cond.selects "TwinKeepers" y_TK_takeTape y_TK_takeTape ∈ xT := xinp 7 (by decide +kernel) (by decide +kernel)
theorem d_TK_takeTape_0 : decode b_TK_takeTape 0 = .ok (.aload_n 0, 1) := by decide +kernel
theorem d_TK_takeTape_1 : decode b_TK_takeTape 1 = .ok (.getfield 30, 3) := by decide +kernel
theorem d_TK_takeTape_4 : decode b_TK_takeTape 4 = .ok (.istore_n 1, 1) := by decide +kernel
theorem d_TK_takeTape_5 : decode b_TK_takeTape 5 = .ok (.aload_n 0, 1) := by decide +kernel
theorem d_TK_takeTape_6 : decode b_TK_takeTape 6 = .ok (.iconst 0, 1) := by decide +kernel
theorem d_TK_takeTape_7 : decode b_TK_takeTape 7 = .ok (.putfield 30, 3) := by decide +kernel
theorem d_TK_takeTape_10 : decode b_TK_takeTape 10 = .ok (.iload_n 1, 1) := by decide +kernel
theorem d_TK_takeTape_11 : decode b_TK_takeTape 11 = .ok (.ireturn, 1) := by decide +kernel
abbrev b_TK_isOperation : ByteArray := prog_1_method_22_code
def y_TK_isOperation : MethodName := ⟨"TwinKeepers", "isOperation", "(II)Z"⟩
theorem kc_TK_isOperation : Cond.code y_TK_isOperation b_TK_isOperation 5 (some .boolean) ∈ xT := xin 406 (by decide +kernel) (by decide +kernel)
theorem k_TK_isOperation : xCode y_TK_isOperation b_TK_isOperation 5 (some .boolean) [] := Or.inl ⟨rfl, kc_TK_isOperation⟩
theorem h_TK_isOperation : plainFor y_TK_isOperation = true ∧ (y_TK_isOperation.cls ≠ "java/lang/invoke/MethodHandle" ∧ y_TK_isOperation.cls ≠ "java/lang/invoke/VarHandle") ∧ (parseMethodDescriptor y_TK_isOperation.desc).map (fun d => d.parameters.length) = some 2 := by decide +kernel
theorem s_TK_isOperation : Cond.static y_TK_isOperation ∈ xT := xin 405 (by decide +kernel) (by decide +kernel)
theorem in_TK_isOperation : Cond.initialized y_TK_isOperation.cls ∈ xT := xin 1 (by decide +kernel) (by decide +kernel)
theorem d_TK_isOperation_0 : decode b_TK_isOperation 0 = .ok (.iload_n 0, 1) := by decide +kernel
theorem d_TK_isOperation_1 : decode b_TK_isOperation 1 = .ok (.invokestatic 211, 3) := by decide +kernel
theorem q_407 : Cond.methodLink "TwinKeepers" 211 ⟨"TwinKeepers", "kindOf", "(I)I"⟩ ∈ xT := xin 407 (by decide +kernel) (by decide +kernel)
theorem d_TK_isOperation_4 : decode b_TK_isOperation 4 = .ok (.istore_n 2, 1) := by decide +kernel
theorem d_TK_isOperation_5 : decode b_TK_isOperation 5 = .ok (.iload_n 0, 1) := by decide +kernel
theorem d_TK_isOperation_6 : decode b_TK_isOperation 6 = .ok (.ifCond .lt 8, 3) := by decide +kernel
theorem d_TK_isOperation_9 : decode b_TK_isOperation 9 = .ok (.iload_n 2, 1) := by decide +kernel
theorem d_TK_isOperation_10 : decode b_TK_isOperation 10 = .ok (.iconst 2, 1) := by decide +kernel
theorem d_TK_isOperation_11 : decode b_TK_isOperation 11 = .ok (.if_icmp .le 5, 3) := by decide +kernel
theorem d_TK_isOperation_14 : decode b_TK_isOperation 14 = .ok (.iconst 0, 1) := by decide +kernel
theorem d_TK_isOperation_15 : decode b_TK_isOperation 15 = .ok (.ireturn, 1) := by decide +kernel
theorem d_TK_isOperation_16 : decode b_TK_isOperation 16 = .ok (.iload_n 0, 1) := by decide +kernel
theorem d_TK_isOperation_17 : decode b_TK_isOperation 17 = .ok (.invokestatic 214, 3) := by decide +kernel
theorem q_410 : Cond.methodLink "TwinKeepers" 214 ⟨"TwinKeepers", "expectedSize", "(I)I"⟩ ∈ xT := xin 410 (by decide +kernel) (by decide +kernel)
theorem d_TK_isOperation_20 : decode b_TK_isOperation 20 = .ok (.istore_n 3, 1) := by decide +kernel
theorem d_TK_isOperation_21 : decode b_TK_isOperation 21 = .ok (.iload_n 1, 1) := by decide +kernel
theorem d_TK_isOperation_22 : decode b_TK_isOperation 22 = .ok (.iload_n 0, 1) := by decide +kernel
theorem d_TK_isOperation_23 : decode b_TK_isOperation 23 = .ok (.invokestatic 217, 3) := by decide +kernel
theorem q_413 : Cond.methodLink "TwinKeepers" 217 ⟨"TwinKeepers", "operationKeySize", "(I)I"⟩ ∈ xT := xin 413 (by decide +kernel) (by decide +kernel)
theorem d_TK_isOperation_26 : decode b_TK_isOperation 26 = .ok (.isub, 1) := by decide +kernel
theorem d_TK_isOperation_27 : decode b_TK_isOperation 27 = .ok (.iload_n 3, 1) := by decide +kernel
theorem d_TK_isOperation_28 : decode b_TK_isOperation 28 = .ok (.isub, 1) := by decide +kernel
theorem d_TK_isOperation_29 : decode b_TK_isOperation 29 = .ok (.istore 4, 2) := by decide +kernel
theorem d_TK_isOperation_31 : decode b_TK_isOperation 31 = .ok (.iload_n 0, 1) := by decide +kernel
theorem d_TK_isOperation_32 : decode b_TK_isOperation 32 = .ok (.invokestatic 217, 3) := by decide +kernel
theorem d_TK_isOperation_35 : decode b_TK_isOperation 35 = .ok (.invokestatic 220, 3) := by decide +kernel
theorem q_416 : Cond.methodLink "TwinKeepers" 220 ⟨"TwinKeepers", "isKeySize", "(I)Z"⟩ ∈ xT := xin 416 (by decide +kernel) (by decide +kernel)
theorem d_TK_isOperation_38 : decode b_TK_isOperation 38 = .ok (.ifCond .eq 47, 3) := by decide +kernel
theorem d_TK_isOperation_41 : decode b_TK_isOperation 41 = .ok (.iload_n 2, 1) := by decide +kernel
theorem d_TK_isOperation_42 : decode b_TK_isOperation 42 = .ok (.iconst 1, 1) := by decide +kernel
theorem d_TK_isOperation_43 : decode b_TK_isOperation 43 = .ok (.if_icmp .ne 13, 3) := by decide +kernel
theorem d_TK_isOperation_46 : decode b_TK_isOperation 46 = .ok (.iload_n 3, 1) := by decide +kernel
theorem d_TK_isOperation_47 : decode b_TK_isOperation 47 = .ok (.invokestatic 223, 3) := by decide +kernel
theorem q_419 : Cond.methodLink "TwinKeepers" 223 ⟨"TwinKeepers", "isValueSize", "(I)Z"⟩ ∈ xT := xin 419 (by decide +kernel) (by decide +kernel)
theorem d_TK_isOperation_50 : decode b_TK_isOperation 50 = .ok (.ifCond .eq 35, 3) := by decide +kernel
theorem d_TK_isOperation_53 : decode b_TK_isOperation 53 = .ok (.goto 7, 3) := by decide +kernel
theorem d_TK_isOperation_56 : decode b_TK_isOperation 56 = .ok (.iload_n 3, 1) := by decide +kernel
theorem d_TK_isOperation_57 : decode b_TK_isOperation 57 = .ok (.ifCond .ne 28, 3) := by decide +kernel
theorem d_TK_isOperation_60 : decode b_TK_isOperation 60 = .ok (.iload_n 2, 1) := by decide +kernel
theorem d_TK_isOperation_61 : decode b_TK_isOperation 61 = .ok (.iconst 2, 1) := by decide +kernel
theorem d_TK_isOperation_62 : decode b_TK_isOperation 62 = .ok (.if_icmp .ne 11, 3) := by decide +kernel
theorem d_TK_isOperation_65 : decode b_TK_isOperation 65 = .ok (.iload 4, 2) := by decide +kernel
theorem d_TK_isOperation_67 : decode b_TK_isOperation 67 = .ok (.ifCond .ne 18, 3) := by decide +kernel
theorem d_TK_isOperation_70 : decode b_TK_isOperation 70 = .ok (.goto 11, 3) := by decide +kernel
theorem d_TK_isOperation_73 : decode b_TK_isOperation 73 = .ok (.iload 4, 2) := by decide +kernel
theorem d_TK_isOperation_75 : decode b_TK_isOperation 75 = .ok (.invokestatic 223, 3) := by decide +kernel
theorem d_TK_isOperation_78 : decode b_TK_isOperation 78 = .ok (.ifCond .eq 7, 3) := by decide +kernel
theorem d_TK_isOperation_81 : decode b_TK_isOperation 81 = .ok (.iconst 1, 1) := by decide +kernel
theorem d_TK_isOperation_82 : decode b_TK_isOperation 82 = .ok (.goto 4, 3) := by decide +kernel
theorem d_TK_isOperation_85 : decode b_TK_isOperation 85 = .ok (.iconst 0, 1) := by decide +kernel
theorem d_TK_isOperation_86 : decode b_TK_isOperation 86 = .ok (.ireturn, 1) := by decide +kernel
abbrev b_TK_kindOf : ByteArray := prog_1_method_16_code
def y_TK_kindOf : MethodName := ⟨"TwinKeepers", "kindOf", "(I)I"⟩
theorem kc_TK_kindOf : Cond.code y_TK_kindOf b_TK_kindOf 1 (some .int) ∈ xT := xin 409 (by decide +kernel) (by decide +kernel)
theorem k_TK_kindOf : xCode y_TK_kindOf b_TK_kindOf 1 (some .int) [] := Or.inl ⟨rfl, kc_TK_kindOf⟩
theorem h_TK_kindOf : plainFor y_TK_kindOf = true ∧ (y_TK_kindOf.cls ≠ "java/lang/invoke/MethodHandle" ∧ y_TK_kindOf.cls ≠ "java/lang/invoke/VarHandle") ∧ (parseMethodDescriptor y_TK_kindOf.desc).map (fun d => d.parameters.length) = some 1 := by decide +kernel
theorem s_TK_kindOf : Cond.static y_TK_kindOf ∈ xT := xin 408 (by decide +kernel) (by decide +kernel)
theorem in_TK_kindOf : Cond.initialized y_TK_kindOf.cls ∈ xT := xin 1 (by decide +kernel) (by decide +kernel)
theorem d_TK_kindOf_0 : decode b_TK_kindOf 0 = .ok (.iload_n 0, 1) := by decide +kernel
theorem d_TK_kindOf_1 : decode b_TK_kindOf 1 = .ok (.bipush 7, 2) := by decide +kernel
theorem d_TK_kindOf_3 : decode b_TK_kindOf 3 = .ok (.iand, 1) := by decide +kernel
theorem d_TK_kindOf_4 : decode b_TK_kindOf 4 = .ok (.ireturn, 1) := by decide +kernel
abbrev b_TK_expectedSize : ByteArray := prog_1_method_18_code
def y_TK_expectedSize : MethodName := ⟨"TwinKeepers", "expectedSize", "(I)I"⟩
theorem kc_TK_expectedSize : Cond.code y_TK_expectedSize b_TK_expectedSize 1 (some .int) ∈ xT := xin 412 (by decide +kernel) (by decide +kernel)
theorem k_TK_expectedSize : xCode y_TK_expectedSize b_TK_expectedSize 1 (some .int) [] := Or.inl ⟨rfl, kc_TK_expectedSize⟩
theorem h_TK_expectedSize : plainFor y_TK_expectedSize = true ∧ (y_TK_expectedSize.cls ≠ "java/lang/invoke/MethodHandle" ∧ y_TK_expectedSize.cls ≠ "java/lang/invoke/VarHandle") ∧ (parseMethodDescriptor y_TK_expectedSize.desc).map (fun d => d.parameters.length) = some 1 := by decide +kernel
theorem s_TK_expectedSize : Cond.static y_TK_expectedSize ∈ xT := xin 411 (by decide +kernel) (by decide +kernel)
theorem in_TK_expectedSize : Cond.initialized y_TK_expectedSize.cls ∈ xT := xin 1 (by decide +kernel) (by decide +kernel)
theorem d_TK_expectedSize_0 : decode b_TK_expectedSize 0 = .ok (.iload_n 0, 1) := by decide +kernel
theorem d_TK_expectedSize_1 : decode b_TK_expectedSize 1 = .ok (.bipush 9, 2) := by decide +kernel
theorem d_TK_expectedSize_3 : decode b_TK_expectedSize 3 = .ok (.ishr, 1) := by decide +kernel
theorem d_TK_expectedSize_4 : decode b_TK_expectedSize 4 = .ok (.ireturn, 1) := by decide +kernel
abbrev b_TK_operationKeySize : ByteArray := prog_1_method_17_code
def y_TK_operationKeySize : MethodName := ⟨"TwinKeepers", "operationKeySize", "(I)I"⟩
theorem kc_TK_operationKeySize : Cond.code y_TK_operationKeySize b_TK_operationKeySize 1 (some .int) ∈ xT := xin 415 (by decide +kernel) (by decide +kernel)
theorem k_TK_operationKeySize : xCode y_TK_operationKeySize b_TK_operationKeySize 1 (some .int) [] := Or.inl ⟨rfl, kc_TK_operationKeySize⟩
theorem h_TK_operationKeySize : plainFor y_TK_operationKeySize = true ∧ (y_TK_operationKeySize.cls ≠ "java/lang/invoke/MethodHandle" ∧ y_TK_operationKeySize.cls ≠ "java/lang/invoke/VarHandle") ∧ (parseMethodDescriptor y_TK_operationKeySize.desc).map (fun d => d.parameters.length) = some 1 := by decide +kernel
theorem s_TK_operationKeySize : Cond.static y_TK_operationKeySize ∈ xT := xin 414 (by decide +kernel) (by decide +kernel)
theorem in_TK_operationKeySize : Cond.initialized y_TK_operationKeySize.cls ∈ xT := xin 1 (by decide +kernel) (by decide +kernel)
theorem d_TK_operationKeySize_0 : decode b_TK_operationKeySize 0 = .ok (.iload_n 0, 1) := by decide +kernel
theorem d_TK_operationKeySize_1 : decode b_TK_operationKeySize 1 = .ok (.iconst 3, 1) := by decide +kernel
theorem d_TK_operationKeySize_2 : decode b_TK_operationKeySize 2 = .ok (.ishr, 1) := by decide +kernel
theorem d_TK_operationKeySize_3 : decode b_TK_operationKeySize 3 = .ok (.bipush 63, 2) := by decide +kernel
theorem d_TK_operationKeySize_5 : decode b_TK_operationKeySize 5 = .ok (.iand, 1) := by decide +kernel
theorem d_TK_operationKeySize_6 : decode b_TK_operationKeySize 6 = .ok (.ireturn, 1) := by decide +kernel
abbrev b_TK_isKeySize : ByteArray := prog_1_method_20_code
def y_TK_isKeySize : MethodName := ⟨"TwinKeepers", "isKeySize", "(I)Z"⟩
theorem kc_TK_isKeySize : Cond.code y_TK_isKeySize b_TK_isKeySize 1 (some .boolean) ∈ xT := xin 418 (by decide +kernel) (by decide +kernel)
theorem k_TK_isKeySize : xCode y_TK_isKeySize b_TK_isKeySize 1 (some .boolean) [] := Or.inl ⟨rfl, kc_TK_isKeySize⟩
theorem h_TK_isKeySize : plainFor y_TK_isKeySize = true ∧ (y_TK_isKeySize.cls ≠ "java/lang/invoke/MethodHandle" ∧ y_TK_isKeySize.cls ≠ "java/lang/invoke/VarHandle") ∧ (parseMethodDescriptor y_TK_isKeySize.desc).map (fun d => d.parameters.length) = some 1 := by decide +kernel
theorem s_TK_isKeySize : Cond.static y_TK_isKeySize ∈ xT := xin 417 (by decide +kernel) (by decide +kernel)
theorem in_TK_isKeySize : Cond.initialized y_TK_isKeySize.cls ∈ xT := xin 1 (by decide +kernel) (by decide +kernel)
theorem d_TK_isKeySize_0 : decode b_TK_isKeySize 0 = .ok (.iload_n 0, 1) := by decide +kernel
theorem d_TK_isKeySize_1 : decode b_TK_isKeySize 1 = .ok (.iconst 1, 1) := by decide +kernel
theorem d_TK_isKeySize_2 : decode b_TK_isKeySize 2 = .ok (.if_icmp .lt 13, 3) := by decide +kernel
theorem d_TK_isKeySize_5 : decode b_TK_isKeySize 5 = .ok (.iload_n 0, 1) := by decide +kernel
theorem d_TK_isKeySize_6 : decode b_TK_isKeySize 6 = .ok (.bipush 32, 2) := by decide +kernel
theorem d_TK_isKeySize_8 : decode b_TK_isKeySize 8 = .ok (.if_icmp .gt 7, 3) := by decide +kernel
theorem d_TK_isKeySize_11 : decode b_TK_isKeySize 11 = .ok (.iconst 1, 1) := by decide +kernel
theorem d_TK_isKeySize_12 : decode b_TK_isKeySize 12 = .ok (.goto 4, 3) := by decide +kernel
theorem d_TK_isKeySize_15 : decode b_TK_isKeySize 15 = .ok (.iconst 0, 1) := by decide +kernel
theorem d_TK_isKeySize_16 : decode b_TK_isKeySize 16 = .ok (.ireturn, 1) := by decide +kernel
abbrev b_TK_isValueSize : ByteArray := prog_1_method_21_code
def y_TK_isValueSize : MethodName := ⟨"TwinKeepers", "isValueSize", "(I)Z"⟩
theorem kc_TK_isValueSize : Cond.code y_TK_isValueSize b_TK_isValueSize 1 (some .boolean) ∈ xT := xin 421 (by decide +kernel) (by decide +kernel)
theorem k_TK_isValueSize : xCode y_TK_isValueSize b_TK_isValueSize 1 (some .boolean) [] := Or.inl ⟨rfl, kc_TK_isValueSize⟩
theorem h_TK_isValueSize : plainFor y_TK_isValueSize = true ∧ (y_TK_isValueSize.cls ≠ "java/lang/invoke/MethodHandle" ∧ y_TK_isValueSize.cls ≠ "java/lang/invoke/VarHandle") ∧ (parseMethodDescriptor y_TK_isValueSize.desc).map (fun d => d.parameters.length) = some 1 := by decide +kernel
theorem s_TK_isValueSize : Cond.static y_TK_isValueSize ∈ xT := xin 420 (by decide +kernel) (by decide +kernel)
theorem in_TK_isValueSize : Cond.initialized y_TK_isValueSize.cls ∈ xT := xin 1 (by decide +kernel) (by decide +kernel)
theorem d_TK_isValueSize_0 : decode b_TK_isValueSize 0 = .ok (.iload_n 0, 1) := by decide +kernel
theorem d_TK_isValueSize_1 : decode b_TK_isValueSize 1 = .ok (.ifCond .lt 13, 3) := by decide +kernel
theorem d_TK_isValueSize_4 : decode b_TK_isValueSize 4 = .ok (.iload_n 0, 1) := by decide +kernel
theorem d_TK_isValueSize_5 : decode b_TK_isValueSize 5 = .ok (.bipush 100, 2) := by decide +kernel
theorem d_TK_isValueSize_7 : decode b_TK_isValueSize 7 = .ok (.if_icmp .gt 7, 3) := by decide +kernel
theorem d_TK_isValueSize_10 : decode b_TK_isValueSize 10 = .ok (.iconst 1, 1) := by decide +kernel
theorem d_TK_isValueSize_11 : decode b_TK_isValueSize 11 = .ok (.goto 4, 3) := by decide +kernel
theorem d_TK_isValueSize_14 : decode b_TK_isValueSize 14 = .ok (.iconst 0, 1) := by decide +kernel
theorem d_TK_isValueSize_15 : decode b_TK_isValueSize 15 = .ok (.ireturn, 1) := by decide +kernel
abbrev b_Ro_empty : ByteArray := prog_5_method_2_code
def y_Ro_empty : MethodName := ⟨"TwinKeepers$Row", "empty", "()V"⟩
theorem kc_Ro_empty : Cond.code y_Ro_empty b_Ro_empty 1 none ∈ xT := xin 426 (by decide +kernel) (by decide +kernel)
theorem k_Ro_empty : xCode y_Ro_empty b_Ro_empty 1 none [] := Or.inl ⟨rfl, kc_Ro_empty⟩
theorem h_Ro_empty : plainFor y_Ro_empty = true ∧ (y_Ro_empty.cls ≠ "java/lang/invoke/MethodHandle" ∧ y_Ro_empty.cls ≠ "java/lang/invoke/VarHandle") ∧ (parseMethodDescriptor y_Ro_empty.desc).map (fun d => d.parameters.length) = some 0 := by decide +kernel
theorem v_Ro_empty : Cond.instanceMethod y_Ro_empty ∈ xT := xin 424 (by decide +kernel) (by decide +kernel)
theorem e_Ro_empty : Cond.selects "TwinKeepers$Row" y_Ro_empty y_Ro_empty ∈ xT := xin 425 (by decide +kernel) (by decide +kernel)
theorem d_Ro_empty_0 : decode b_Ro_empty 0 = .ok (.aload_n 0, 1) := by decide +kernel
theorem d_Ro_empty_1 : decode b_Ro_empty 1 = .ok (.iconst 0, 1) := by decide +kernel
theorem d_Ro_empty_2 : decode b_Ro_empty 2 = .ok (.putfield 13, 3) := by decide +kernel
theorem d_Ro_empty_5 : decode b_Ro_empty 5 = .ok (.return_, 1) := by decide +kernel
abbrev b_Ma_indexOfSession : ByteArray := prog_4_method_4_code
def y_Ma_indexOfSession : MethodName := ⟨"TwinKeepers$Machine", "indexOfSession", "(I)I"⟩
theorem kc_Ma_indexOfSession : Cond.code y_Ma_indexOfSession b_Ma_indexOfSession 3 (some .int) ∈ xT := xin 430 (by decide +kernel) (by decide +kernel)
theorem k_Ma_indexOfSession : xCode y_Ma_indexOfSession b_Ma_indexOfSession 3 (some .int) [] := Or.inl ⟨rfl, kc_Ma_indexOfSession⟩
theorem h_Ma_indexOfSession : plainFor y_Ma_indexOfSession = true ∧ (y_Ma_indexOfSession.cls ≠ "java/lang/invoke/MethodHandle" ∧ y_Ma_indexOfSession.cls ≠ "java/lang/invoke/VarHandle") ∧ (parseMethodDescriptor y_Ma_indexOfSession.desc).map (fun d => d.parameters.length) = some 1 := by decide +kernel
theorem v_Ma_indexOfSession : Cond.instanceMethod y_Ma_indexOfSession ∈ xT := xin 428 (by decide +kernel) (by decide +kernel)
theorem e_Ma_indexOfSession : Cond.selects "TwinKeepers$Machine" y_Ma_indexOfSession y_Ma_indexOfSession ∈ xT := xin 429 (by decide +kernel) (by decide +kernel)
theorem d_Ma_indexOfSession_0 : decode b_Ma_indexOfSession 0 = .ok (.iconst 0, 1) := by decide +kernel
theorem d_Ma_indexOfSession_1 : decode b_Ma_indexOfSession 1 = .ok (.istore_n 2, 1) := by decide +kernel
theorem d_Ma_indexOfSession_2 : decode b_Ma_indexOfSession 2 = .ok (.iload_n 2, 1) := by decide +kernel
theorem d_Ma_indexOfSession_3 : decode b_Ma_indexOfSession 3 = .ok (.aload_n 0, 1) := by decide +kernel
theorem d_Ma_indexOfSession_4 : decode b_Ma_indexOfSession 4 = .ok (.getfield 12, 3) := by decide +kernel
theorem d_Ma_indexOfSession_7 : decode b_Ma_indexOfSession 7 = .ok (.invokevirtual 30, 3) := by decide +kernel
theorem d_Ma_indexOfSession_10 : decode b_Ma_indexOfSession 10 = .ok (.if_icmp .ge 29, 3) := by decide +kernel
theorem d_Ma_indexOfSession_13 : decode b_Ma_indexOfSession 13 = .ok (.aload_n 0, 1) := by decide +kernel
theorem d_Ma_indexOfSession_14 : decode b_Ma_indexOfSession 14 = .ok (.getfield 12, 3) := by decide +kernel
theorem d_Ma_indexOfSession_17 : decode b_Ma_indexOfSession 17 = .ok (.iload_n 2, 1) := by decide +kernel
theorem d_Ma_indexOfSession_18 : decode b_Ma_indexOfSession 18 = .ok (.invokevirtual 54, 3) := by decide +kernel
theorem d_Ma_indexOfSession_21 : decode b_Ma_indexOfSession 21 = .ok (.checkcast 41, 3) := by decide +kernel
theorem d_Ma_indexOfSession_24 : decode b_Ma_indexOfSession 24 = .ok (.getfield 57, 3) := by decide +kernel
theorem q_312 : Cond.fieldLink "TwinKeepers$Machine" 57 "TwinKeepers$Session" "number" "I" ∈ xT := xin 312 (by decide +kernel) (by decide +kernel)
theorem d_Ma_indexOfSession_27 : decode b_Ma_indexOfSession 27 = .ok (.iload_n 1, 1) := by decide +kernel
theorem d_Ma_indexOfSession_28 : decode b_Ma_indexOfSession 28 = .ok (.if_icmp .ne 5, 3) := by decide +kernel
theorem d_Ma_indexOfSession_31 : decode b_Ma_indexOfSession 31 = .ok (.iload_n 2, 1) := by decide +kernel
theorem d_Ma_indexOfSession_32 : decode b_Ma_indexOfSession 32 = .ok (.ireturn, 1) := by decide +kernel
theorem d_Ma_indexOfSession_33 : decode b_Ma_indexOfSession 33 = .ok (.iinc 2 1, 3) := by decide +kernel
theorem d_Ma_indexOfSession_36 : decode b_Ma_indexOfSession 36 = .ok (.goto (-34), 3) := by decide +kernel
theorem d_Ma_indexOfSession_39 : decode b_Ma_indexOfSession 39 = .ok (.iconst (-1), 1) := by decide +kernel
theorem d_Ma_indexOfSession_40 : decode b_Ma_indexOfSession 40 = .ok (.ireturn, 1) := by decide +kernel
abbrev b_Se_usedAt : ByteArray := prog_6_method_2_code
def y_Se_usedAt : MethodName := ⟨"TwinKeepers$Session", "usedAt", "(I)LTwinKeepers$Session;"⟩
theorem kc_Se_usedAt : Cond.code y_Se_usedAt b_Se_usedAt 2 (some (.object "TwinKeepers$Session")) ∈ xT := xin 436 (by decide +kernel) (by decide +kernel)
theorem k_Se_usedAt : xCode y_Se_usedAt b_Se_usedAt 2 (some (.object "TwinKeepers$Session")) [] := Or.inl ⟨rfl, kc_Se_usedAt⟩
theorem h_Se_usedAt : plainFor y_Se_usedAt = true ∧ (y_Se_usedAt.cls ≠ "java/lang/invoke/MethodHandle" ∧ y_Se_usedAt.cls ≠ "java/lang/invoke/VarHandle") ∧ (parseMethodDescriptor y_Se_usedAt.desc).map (fun d => d.parameters.length) = some 1 := by decide +kernel
theorem v_Se_usedAt : Cond.instanceMethod y_Se_usedAt ∈ xT := xin 434 (by decide +kernel) (by decide +kernel)
theorem e_Se_usedAt : Cond.selects "TwinKeepers$Session" y_Se_usedAt y_Se_usedAt ∈ xT := xin 435 (by decide +kernel) (by decide +kernel)
theorem d_Se_usedAt_0 : decode b_Se_usedAt 0 = .ok (.new 8, 3) := by decide +kernel
theorem q_437 : Cond.classLink "TwinKeepers$Session" 8 "TwinKeepers$Session" ∈ xT := xin 437 (by decide +kernel) (by decide +kernel)
theorem d_Se_usedAt_3 : decode b_Se_usedAt 3 = .ok (.dup, 1) := by decide +kernel
theorem d_Se_usedAt_4 : decode b_Se_usedAt 4 = .ok (.aload_n 0, 1) := by decide +kernel
theorem d_Se_usedAt_5 : decode b_Se_usedAt 5 = .ok (.getfield 7, 3) := by decide +kernel
theorem d_Se_usedAt_8 : decode b_Se_usedAt 8 = .ok (.iload_n 1, 1) := by decide +kernel
theorem d_Se_usedAt_9 : decode b_Se_usedAt 9 = .ok (.aload_n 0, 1) := by decide +kernel
theorem d_Se_usedAt_10 : decode b_Se_usedAt 10 = .ok (.getfield 16, 3) := by decide +kernel
theorem d_Se_usedAt_13 : decode b_Se_usedAt 13 = .ok (.aload_n 0, 1) := by decide +kernel
theorem d_Se_usedAt_14 : decode b_Se_usedAt 14 = .ok (.getfield 19, 3) := by decide +kernel
theorem d_Se_usedAt_17 : decode b_Se_usedAt 17 = .ok (.aload_n 0, 1) := by decide +kernel
theorem d_Se_usedAt_18 : decode b_Se_usedAt 18 = .ok (.getfield 22, 3) := by decide +kernel
theorem d_Se_usedAt_21 : decode b_Se_usedAt 21 = .ok (.invokespecial 26, 3) := by decide +kernel
theorem q_438 : Cond.methodLink "TwinKeepers$Session" 26 ⟨"TwinKeepers$Session", "<init>", "(IIII[B)V"⟩ ∈ xT := xin 438 (by decide +kernel) (by decide +kernel)
theorem d_Se_usedAt_24 : decode b_Se_usedAt 24 = .ok (.areturn, 1) := by decide +kernel
abbrev b_Ro_addAll : ByteArray := prog_5_method_4_code
def y_Ro_addAll : MethodName := ⟨"TwinKeepers$Row", "addAll", "([B)V"⟩
theorem kc_Ro_addAll : Cond.code y_Ro_addAll b_Ro_addAll 3 none ∈ xT := xin 446 (by decide +kernel) (by decide +kernel)
theorem k_Ro_addAll : xCode y_Ro_addAll b_Ro_addAll 3 none [] := Or.inl ⟨rfl, kc_Ro_addAll⟩
theorem h_Ro_addAll : plainFor y_Ro_addAll = true ∧ (y_Ro_addAll.cls ≠ "java/lang/invoke/MethodHandle" ∧ y_Ro_addAll.cls ≠ "java/lang/invoke/VarHandle") ∧ (parseMethodDescriptor y_Ro_addAll.desc).map (fun d => d.parameters.length) = some 1 := by decide +kernel
theorem v_Ro_addAll : Cond.instanceMethod y_Ro_addAll ∈ xT := xin 444 (by decide +kernel) (by decide +kernel)
theorem e_Ro_addAll : Cond.selects "TwinKeepers$Row" y_Ro_addAll y_Ro_addAll ∈ xT := xin 445 (by decide +kernel) (by decide +kernel)
theorem d_Ro_addAll_0 : decode b_Ro_addAll 0 = .ok (.iconst 0, 1) := by decide +kernel
theorem d_Ro_addAll_1 : decode b_Ro_addAll 1 = .ok (.istore_n 2, 1) := by decide +kernel
theorem d_Ro_addAll_2 : decode b_Ro_addAll 2 = .ok (.iload_n 2, 1) := by decide +kernel
theorem d_Ro_addAll_3 : decode b_Ro_addAll 3 = .ok (.aload_n 1, 1) := by decide +kernel
theorem d_Ro_addAll_4 : decode b_Ro_addAll 4 = .ok (.arraylength, 1) := by decide +kernel
theorem d_Ro_addAll_5 : decode b_Ro_addAll 5 = .ok (.if_icmp .ge 16, 3) := by decide +kernel
theorem d_Ro_addAll_8 : decode b_Ro_addAll 8 = .ok (.aload_n 0, 1) := by decide +kernel
theorem d_Ro_addAll_9 : decode b_Ro_addAll 9 = .ok (.aload_n 1, 1) := by decide +kernel
theorem d_Ro_addAll_10 : decode b_Ro_addAll 10 = .ok (.iload_n 2, 1) := by decide +kernel
theorem d_Ro_addAll_11 : decode b_Ro_addAll 11 = .ok (.baload, 1) := by decide +kernel
theorem d_Ro_addAll_12 : decode b_Ro_addAll 12 = .ok (.invokevirtual 17, 3) := by decide +kernel
theorem q_447 : Cond.methodLink "TwinKeepers$Row" 17 ⟨"TwinKeepers$Row", "addByte", "(B)V"⟩ ∈ xT := xin 447 (by decide +kernel) (by decide +kernel)
theorem d_Ro_addAll_15 : decode b_Ro_addAll 15 = .ok (.iinc 2 1, 3) := by decide +kernel
theorem d_Ro_addAll_18 : decode b_Ro_addAll 18 = .ok (.goto (-16), 3) := by decide +kernel
theorem d_Ro_addAll_21 : decode b_Ro_addAll 21 = .ok (.return_, 1) := by decide +kernel
abbrev b_Ro_addByte : ByteArray := prog_5_method_6_code
def y_Ro_addByte : MethodName := ⟨"TwinKeepers$Row", "addByte", "(B)V"⟩
theorem kc_Ro_addByte : Cond.code y_Ro_addByte b_Ro_addByte 2 none ∈ xT := xin 450 (by decide +kernel) (by decide +kernel)
theorem k_Ro_addByte : xCode y_Ro_addByte b_Ro_addByte 2 none [] := Or.inl ⟨rfl, kc_Ro_addByte⟩
theorem h_Ro_addByte : plainFor y_Ro_addByte = true ∧ (y_Ro_addByte.cls ≠ "java/lang/invoke/MethodHandle" ∧ y_Ro_addByte.cls ≠ "java/lang/invoke/VarHandle") ∧ (parseMethodDescriptor y_Ro_addByte.desc).map (fun d => d.parameters.length) = some 1 := by decide +kernel
theorem v_Ro_addByte : Cond.instanceMethod y_Ro_addByte ∈ xT := xin 449 (by decide +kernel) (by decide +kernel)
theorem e_Ro_addByte : Cond.selects "TwinKeepers$Row" y_Ro_addByte y_Ro_addByte ∈ xT := xinp 8 (by decide +kernel) (by decide +kernel)
theorem d_Ro_addByte_0 : decode b_Ro_addByte 0 = .ok (.aload_n 0, 1) := by decide +kernel
theorem d_Ro_addByte_1 : decode b_Ro_addByte 1 = .ok (.getfield 13, 3) := by decide +kernel
theorem d_Ro_addByte_4 : decode b_Ro_addByte 4 = .ok (.aload_n 0, 1) := by decide +kernel
theorem d_Ro_addByte_5 : decode b_Ro_addByte 5 = .ok (.getfield 9, 3) := by decide +kernel
theorem d_Ro_addByte_8 : decode b_Ro_addByte 8 = .ok (.arraylength, 1) := by decide +kernel
theorem d_Ro_addByte_9 : decode b_Ro_addByte 9 = .ok (.if_icmp .lt 21, 3) := by decide +kernel
theorem d_Ro_addByte_12 : decode b_Ro_addByte 12 = .ok (.aload_n 0, 1) := by decide +kernel
theorem d_Ro_addByte_13 : decode b_Ro_addByte 13 = .ok (.aload_n 0, 1) := by decide +kernel
theorem d_Ro_addByte_14 : decode b_Ro_addByte 14 = .ok (.getfield 9, 3) := by decide +kernel
theorem d_Ro_addByte_17 : decode b_Ro_addByte 17 = .ok (.iconst 2, 1) := by decide +kernel
theorem d_Ro_addByte_18 : decode b_Ro_addByte 18 = .ok (.aload_n 0, 1) := by decide +kernel
theorem d_Ro_addByte_19 : decode b_Ro_addByte 19 = .ok (.getfield 9, 3) := by decide +kernel
theorem d_Ro_addByte_22 : decode b_Ro_addByte 22 = .ok (.arraylength, 1) := by decide +kernel
theorem d_Ro_addByte_23 : decode b_Ro_addByte 23 = .ok (.imul, 1) := by decide +kernel
theorem d_Ro_addByte_24 : decode b_Ro_addByte 24 = .ok (.invokestatic 21, 3) := by decide +kernel
theorem q_451 : Cond.methodLink "TwinKeepers$Row" 21 ⟨"java/util/Arrays", "copyOf", "([BI)[B"⟩ ∈ xT := xin 451 (by decide +kernel) (by decide +kernel)
theorem d_Ro_addByte_27 : decode b_Ro_addByte 27 = .ok (.putfield 9, 3) := by decide +kernel
theorem d_Ro_addByte_30 : decode b_Ro_addByte 30 = .ok (.aload_n 0, 1) := by decide +kernel
theorem d_Ro_addByte_31 : decode b_Ro_addByte 31 = .ok (.getfield 9, 3) := by decide +kernel
theorem d_Ro_addByte_34 : decode b_Ro_addByte 34 = .ok (.aload_n 0, 1) := by decide +kernel
theorem d_Ro_addByte_35 : decode b_Ro_addByte 35 = .ok (.getfield 13, 3) := by decide +kernel
theorem d_Ro_addByte_38 : decode b_Ro_addByte 38 = .ok (.iload_n 1, 1) := by decide +kernel
theorem d_Ro_addByte_39 : decode b_Ro_addByte 39 = .ok (.bastore, 1) := by decide +kernel
theorem d_Ro_addByte_40 : decode b_Ro_addByte 40 = .ok (.aload_n 0, 1) := by decide +kernel
theorem d_Ro_addByte_41 : decode b_Ro_addByte 41 = .ok (.dup, 1) := by decide +kernel
theorem d_Ro_addByte_42 : decode b_Ro_addByte 42 = .ok (.getfield 13, 3) := by decide +kernel
theorem d_Ro_addByte_45 : decode b_Ro_addByte 45 = .ok (.iconst 1, 1) := by decide +kernel
theorem d_Ro_addByte_46 : decode b_Ro_addByte 46 = .ok (.iadd, 1) := by decide +kernel
theorem d_Ro_addByte_47 : decode b_Ro_addByte 47 = .ok (.putfield 13, 3) := by decide +kernel
theorem d_Ro_addByte_50 : decode b_Ro_addByte 50 = .ok (.return_, 1) := by decide +kernel
abbrev b_TK_operate : ByteArray := prog_1_method_24_code
def y_TK_operate : MethodName := ⟨"TwinKeepers", "operate", "(LTwinKeepers$KeyMap;II)V"⟩
theorem kc_TK_operate : Cond.code y_TK_operate b_TK_operate 8 none ∈ xT := xin 464 (by decide +kernel) (by decide +kernel)
theorem k_TK_operate : xCode y_TK_operate b_TK_operate 8 none [] := Or.inl ⟨rfl, kc_TK_operate⟩
theorem h_TK_operate : plainFor y_TK_operate = true ∧ (y_TK_operate.cls ≠ "java/lang/invoke/MethodHandle" ∧ y_TK_operate.cls ≠ "java/lang/invoke/VarHandle") ∧ (parseMethodDescriptor y_TK_operate.desc).map (fun d => d.parameters.length) = some 3 := by decide +kernel
theorem v_TK_operate : Cond.instanceMethod y_TK_operate ∈ xT := xin 463 (by decide +kernel) (by decide +kernel)
theorem e_TK_operate : Cond.selects "TwinKeepers" y_TK_operate y_TK_operate ∈ xT := xinp 9 (by decide +kernel) (by decide +kernel)
theorem d_TK_operate_0 : decode b_TK_operate 0 = .ok (.iload_n 2, 1) := by decide +kernel
theorem d_TK_operate_1 : decode b_TK_operate 1 = .ok (.invokestatic 217, 3) := by decide +kernel
theorem d_TK_operate_4 : decode b_TK_operate 4 = .ok (.istore 4, 2) := by decide +kernel
theorem d_TK_operate_6 : decode b_TK_operate 6 = .ok (.iload 4, 2) := by decide +kernel
theorem d_TK_operate_8 : decode b_TK_operate 8 = .ok (.iload_n 2, 1) := by decide +kernel
theorem d_TK_operate_9 : decode b_TK_operate 9 = .ok (.invokestatic 214, 3) := by decide +kernel
theorem d_TK_operate_12 : decode b_TK_operate 12 = .ok (.iadd, 1) := by decide +kernel
theorem d_TK_operate_13 : decode b_TK_operate 13 = .ok (.istore 5, 2) := by decide +kernel
theorem d_TK_operate_15 : decode b_TK_operate 15 = .ok (.aload_n 0, 1) := by decide +kernel
theorem d_TK_operate_16 : decode b_TK_operate 16 = .ok (.getfield 19, 3) := by decide +kernel
theorem d_TK_operate_19 : decode b_TK_operate 19 = .ok (.iconst 0, 1) := by decide +kernel
theorem d_TK_operate_20 : decode b_TK_operate 20 = .ok (.iload 4, 2) := by decide +kernel
theorem d_TK_operate_22 : decode b_TK_operate 22 = .ok (.invokestatic 229, 3) := by decide +kernel
theorem q_465 : Cond.methodLink "TwinKeepers" 229 ⟨"java/util/Arrays", "copyOfRange", "([BII)[B"⟩ ∈ xT := xin 465 (by decide +kernel) (by decide +kernel)
theorem d_TK_operate_25 : decode b_TK_operate 25 = .ok (.astore 6, 2) := by decide +kernel
theorem d_TK_operate_27 : decode b_TK_operate 27 = .ok (.aload_n 0, 1) := by decide +kernel
theorem d_TK_operate_28 : decode b_TK_operate 28 = .ok (.getfield 19, 3) := by decide +kernel
theorem d_TK_operate_31 : decode b_TK_operate 31 = .ok (.iload 5, 2) := by decide +kernel
theorem d_TK_operate_33 : decode b_TK_operate 33 = .ok (.iload_n 3, 1) := by decide +kernel
theorem d_TK_operate_34 : decode b_TK_operate 34 = .ok (.invokestatic 229, 3) := by decide +kernel
theorem d_TK_operate_37 : decode b_TK_operate 37 = .ok (.astore 7, 2) := by decide +kernel
theorem d_TK_operate_39 : decode b_TK_operate 39 = .ok (.iload_n 2, 1) := by decide +kernel
theorem d_TK_operate_40 : decode b_TK_operate 40 = .ok (.invokestatic 211, 3) := by decide +kernel
theorem d_TK_operate_43 : decode b_TK_operate 43 = .ok (.lookupswitch 66 #[(0, 25), (1, 40)], 25) := by decide +kernel
theorem d_TK_operate_68 : decode b_TK_operate 68 = .ok (.aload_n 1, 1) := by decide +kernel
theorem d_TK_operate_69 : decode b_TK_operate 69 = .ok (.aload 6, 2) := by decide +kernel
theorem d_TK_operate_71 : decode b_TK_operate 71 = .ok (.aload 7, 2) := by decide +kernel
theorem d_TK_operate_73 : decode b_TK_operate 73 = .ok (.aload_n 0, 1) := by decide +kernel
theorem d_TK_operate_74 : decode b_TK_operate 74 = .ok (.getfield 26, 3) := by decide +kernel
theorem d_TK_operate_77 : decode b_TK_operate 77 = .ok (.invokevirtual 235, 3) := by decide +kernel
theorem q_681 : Cond.methodLink "TwinKeepers" 235 ⟨"TwinKeepers$KeyMap", "put", "([B[BLTwinKeepers$Row;)V"⟩ ∈ xT := xin 681 (by decide +kernel) (by decide +kernel)
theorem d_TK_operate_80 : decode b_TK_operate 80 = .ok (.goto 39, 3) := by decide +kernel
theorem d_TK_operate_83 : decode b_TK_operate 83 = .ok (.aload_n 1, 1) := by decide +kernel
theorem d_TK_operate_84 : decode b_TK_operate 84 = .ok (.aload 6, 2) := by decide +kernel
theorem d_TK_operate_86 : decode b_TK_operate 86 = .ok (.aload_n 0, 1) := by decide +kernel
theorem d_TK_operate_87 : decode b_TK_operate 87 = .ok (.getfield 19, 3) := by decide +kernel
theorem d_TK_operate_90 : decode b_TK_operate 90 = .ok (.iload 4, 2) := by decide +kernel
theorem d_TK_operate_92 : decode b_TK_operate 92 = .ok (.iload 5, 2) := by decide +kernel
theorem d_TK_operate_94 : decode b_TK_operate 94 = .ok (.invokestatic 229, 3) := by decide +kernel
theorem d_TK_operate_97 : decode b_TK_operate 97 = .ok (.aload 7, 2) := by decide +kernel
theorem d_TK_operate_99 : decode b_TK_operate 99 = .ok (.aload_n 0, 1) := by decide +kernel
theorem d_TK_operate_100 : decode b_TK_operate 100 = .ok (.getfield 26, 3) := by decide +kernel
theorem d_TK_operate_103 : decode b_TK_operate 103 = .ok (.invokevirtual 239, 3) := by decide +kernel
theorem q_756 : Cond.methodLink "TwinKeepers" 239 ⟨"TwinKeepers$KeyMap", "swap", "([B[B[BLTwinKeepers$Row;)V"⟩ ∈ xT := xin 756 (by decide +kernel) (by decide +kernel)
theorem d_TK_operate_106 : decode b_TK_operate 106 = .ok (.goto 13, 3) := by decide +kernel
theorem d_TK_operate_109 : decode b_TK_operate 109 = .ok (.aload_n 1, 1) := by decide +kernel
theorem d_TK_operate_110 : decode b_TK_operate 110 = .ok (.aload 6, 2) := by decide +kernel
theorem d_TK_operate_112 : decode b_TK_operate 112 = .ok (.aload_n 0, 1) := by decide +kernel
theorem d_TK_operate_113 : decode b_TK_operate 113 = .ok (.getfield 26, 3) := by decide +kernel
theorem d_TK_operate_116 : decode b_TK_operate 116 = .ok (.invokevirtual 243, 3) := by decide +kernel
theorem q_764 : Cond.methodLink "TwinKeepers" 243 ⟨"TwinKeepers$KeyMap", "remove", "([BLTwinKeepers$Row;)V"⟩ ∈ xT := xin 764 (by decide +kernel) (by decide +kernel)
theorem d_TK_operate_119 : decode b_TK_operate 119 = .ok (.return_, 1) := by decide +kernel
abbrev b_KM_put : ByteArray := prog_3_method_5_code
def y_KM_put : MethodName := ⟨"TwinKeepers$KeyMap", "put", "([B[BLTwinKeepers$Row;)V"⟩
theorem kc_KM_put : Cond.code y_KM_put b_KM_put 8 none ∈ xT := xin 684 (by decide +kernel) (by decide +kernel)
theorem k_KM_put : xCode y_KM_put b_KM_put 8 none [] := Or.inl ⟨rfl, kc_KM_put⟩
theorem h_KM_put : plainFor y_KM_put = true ∧ (y_KM_put.cls ≠ "java/lang/invoke/MethodHandle" ∧ y_KM_put.cls ≠ "java/lang/invoke/VarHandle") ∧ (parseMethodDescriptor y_KM_put.desc).map (fun d => d.parameters.length) = some 3 := by decide +kernel
theorem v_KM_put : Cond.instanceMethod y_KM_put ∈ xT := xin 682 (by decide +kernel) (by decide +kernel)
theorem e_KM_put : Cond.selects "TwinKeepers$KeyMap" y_KM_put y_KM_put ∈ xT := xin 683 (by decide +kernel) (by decide +kernel)
theorem d_KM_put_0 : decode b_KM_put 0 = .ok (.aload_n 0, 1) := by decide +kernel
theorem d_KM_put_1 : decode b_KM_put 1 = .ok (.aload_n 1, 1) := by decide +kernel
theorem d_KM_put_2 : decode b_KM_put 2 = .ok (.invokevirtual 40, 3) := by decide +kernel
theorem q_685 : Cond.methodLink "TwinKeepers$KeyMap" 40 ⟨"TwinKeepers$KeyMap", "firstNotBelow", "([B)I"⟩ ∈ xT := xin 685 (by decide +kernel) (by decide +kernel)
theorem d_KM_put_5 : decode b_KM_put 5 = .ok (.istore 4, 2) := by decide +kernel
theorem d_KM_put_7 : decode b_KM_put 7 = .ok (.aload_n 0, 1) := by decide +kernel
theorem d_KM_put_8 : decode b_KM_put 8 = .ok (.iload 4, 2) := by decide +kernel
theorem d_KM_put_10 : decode b_KM_put 10 = .ok (.aload_n 1, 1) := by decide +kernel
theorem d_KM_put_11 : decode b_KM_put 11 = .ok (.invokevirtual 44, 3) := by decide +kernel
theorem q_696 : Cond.methodLink "TwinKeepers$KeyMap" 44 ⟨"TwinKeepers$KeyMap", "isAt", "(I[B)Z"⟩ ∈ xT := xin 696 (by decide +kernel) (by decide +kernel)
theorem d_KM_put_14 : decode b_KM_put 14 = .ok (.istore 5, 2) := by decide +kernel
theorem d_KM_put_16 : decode b_KM_put 16 = .ok (.iload 5, 2) := by decide +kernel
theorem d_KM_put_18 : decode b_KM_put 18 = .ok (.ifCond .eq 21, 3) := by decide +kernel
theorem d_KM_put_21 : decode b_KM_put 21 = .ok (.aload_n 0, 1) := by decide +kernel
theorem d_KM_put_22 : decode b_KM_put 22 = .ok (.getfield 12, 3) := by decide +kernel
theorem d_KM_put_25 : decode b_KM_put 25 = .ok (.iload 4, 2) := by decide +kernel
theorem d_KM_put_27 : decode b_KM_put 27 = .ok (.invokevirtual 26, 3) := by decide +kernel
theorem q_690 : Cond.methodLink "TwinKeepers$KeyMap" 26 ⟨"java/util/ArrayList", "get", "(I)Ljava/lang/Object;"⟩ ∈ xT := xin 690 (by decide +kernel) (by decide +kernel)
theorem d_KM_put_30 : decode b_KM_put 30 = .ok (.checkcast 30, 3) := by decide +kernel
theorem q_691 : Cond.classLink "TwinKeepers$KeyMap" 30 "TwinKeepers$Entry" ∈ xT := xin 691 (by decide +kernel) (by decide +kernel)
theorem d_KM_put_33 : decode b_KM_put 33 = .ok (.getfield 48, 3) := by decide +kernel
theorem q_714 : Cond.fieldLink "TwinKeepers$KeyMap" 48 "TwinKeepers$Entry" "value" "[B" ∈ xT := xin 714 (by decide +kernel) (by decide +kernel)
theorem d_KM_put_36 : decode b_KM_put 36 = .ok (.goto 6, 3) := by decide +kernel
theorem d_KM_put_39 : decode b_KM_put 39 = .ok (.getstatic 51, 3) := by decide +kernel
theorem q_700 : Cond.fieldLinkNest "TwinKeepers$KeyMap" 51 "TwinKeepers" "EMPTY" "[B" "TwinKeepers" ∈ xT := xin 700 (by decide +kernel) (by decide +kernel)
theorem d_KM_put_42 : decode b_KM_put 42 = .ok (.astore 6, 2) := by decide +kernel
theorem d_KM_put_44 : decode b_KM_put 44 = .ok (.iload 5, 2) := by decide +kernel
theorem d_KM_put_46 : decode b_KM_put 46 = .ok (.ifCond .eq 13, 3) := by decide +kernel
theorem d_KM_put_49 : decode b_KM_put 49 = .ok (.aload_n 0, 1) := by decide +kernel
theorem d_KM_put_50 : decode b_KM_put 50 = .ok (.iload 4, 2) := by decide +kernel
theorem d_KM_put_52 : decode b_KM_put 52 = .ok (.aload_n 2, 1) := by decide +kernel
theorem d_KM_put_53 : decode b_KM_put 53 = .ok (.invokevirtual 54, 3) := by decide +kernel
theorem q_701 : Cond.methodLink "TwinKeepers$KeyMap" 54 ⟨"TwinKeepers$KeyMap", "replace", "(I[B)Z"⟩ ∈ xT := xin 701 (by decide +kernel) (by decide +kernel)
theorem d_KM_put_56 : decode b_KM_put 56 = .ok (.goto 11, 3) := by decide +kernel
theorem d_KM_put_59 : decode b_KM_put 59 = .ok (.aload_n 0, 1) := by decide +kernel
theorem d_KM_put_60 : decode b_KM_put 60 = .ok (.iload 4, 2) := by decide +kernel
theorem d_KM_put_62 : decode b_KM_put 62 = .ok (.aload_n 1, 1) := by decide +kernel
theorem d_KM_put_63 : decode b_KM_put 63 = .ok (.aload_n 2, 1) := by decide +kernel
theorem d_KM_put_64 : decode b_KM_put 64 = .ok (.invokevirtual 57, 3) := by decide +kernel
theorem q_726 : Cond.methodLink "TwinKeepers$KeyMap" 57 ⟨"TwinKeepers$KeyMap", "insert", "(I[B[B)Z"⟩ ∈ xT := xin 726 (by decide +kernel) (by decide +kernel)
theorem d_KM_put_67 : decode b_KM_put 67 = .ok (.istore 7, 2) := by decide +kernel
theorem d_KM_put_69 : decode b_KM_put 69 = .ok (.iload 7, 2) := by decide +kernel
theorem d_KM_put_71 : decode b_KM_put 71 = .ok (.ifCond .ne 10, 3) := by decide +kernel
theorem d_KM_put_74 : decode b_KM_put 74 = .ok (.aload_n 3, 1) := by decide +kernel
theorem d_KM_put_75 : decode b_KM_put 75 = .ok (.iconst 2, 1) := by decide +kernel
theorem d_KM_put_76 : decode b_KM_put 76 = .ok (.iconst 1, 1) := by decide +kernel
theorem d_KM_put_77 : decode b_KM_put 77 = .ok (.invokevirtual 61, 3) := by decide +kernel
theorem q_751 : Cond.methodLink "TwinKeepers$KeyMap" 61 ⟨"TwinKeepers$Row", "addNumber", "(II)V"⟩ ∈ xT := xin 751 (by decide +kernel) (by decide +kernel)
theorem d_KM_put_80 : decode b_KM_put 80 = .ok (.return_, 1) := by decide +kernel
theorem d_KM_put_81 : decode b_KM_put 81 = .ok (.aload_n 3, 1) := by decide +kernel
theorem d_KM_put_82 : decode b_KM_put 82 = .ok (.iload 5, 2) := by decide +kernel
theorem d_KM_put_84 : decode b_KM_put 84 = .ok (.ifCond .eq 7, 3) := by decide +kernel
theorem d_KM_put_87 : decode b_KM_put 87 = .ok (.iconst 1, 1) := by decide +kernel
theorem d_KM_put_88 : decode b_KM_put 88 = .ok (.goto 4, 3) := by decide +kernel
theorem d_KM_put_91 : decode b_KM_put 91 = .ok (.iconst 0, 1) := by decide +kernel
theorem d_KM_put_92 : decode b_KM_put 92 = .ok (.iconst 1, 1) := by decide +kernel
theorem d_KM_put_93 : decode b_KM_put 93 = .ok (.invokevirtual 61, 3) := by decide +kernel
theorem d_KM_put_96 : decode b_KM_put 96 = .ok (.aload_n 3, 1) := by decide +kernel
theorem d_KM_put_97 : decode b_KM_put 97 = .ok (.aload 6, 2) := by decide +kernel
theorem d_KM_put_99 : decode b_KM_put 99 = .ok (.invokevirtual 67, 3) := by decide +kernel
theorem q_755 : Cond.methodLink "TwinKeepers$KeyMap" 67 ⟨"TwinKeepers$Row", "addAll", "([B)V"⟩ ∈ xT := xin 755 (by decide +kernel) (by decide +kernel)
theorem d_KM_put_102 : decode b_KM_put 102 = .ok (.return_, 1) := by decide +kernel
abbrev b_KM_firstNotBelow : ByteArray := prog_3_method_2_code
def y_KM_firstNotBelow : MethodName := ⟨"TwinKeepers$KeyMap", "firstNotBelow", "([B)I"⟩
theorem kc_KM_firstNotBelow : Cond.code y_KM_firstNotBelow b_KM_firstNotBelow 3 (some .int) ∈ xT := xin 688 (by decide +kernel) (by decide +kernel)
theorem k_KM_firstNotBelow : xCode y_KM_firstNotBelow b_KM_firstNotBelow 3 (some .int) [] := Or.inl ⟨rfl, kc_KM_firstNotBelow⟩
theorem h_KM_firstNotBelow : plainFor y_KM_firstNotBelow = true ∧ (y_KM_firstNotBelow.cls ≠ "java/lang/invoke/MethodHandle" ∧ y_KM_firstNotBelow.cls ≠ "java/lang/invoke/VarHandle") ∧ (parseMethodDescriptor y_KM_firstNotBelow.desc).map (fun d => d.parameters.length) = some 1 := by decide +kernel
theorem v_KM_firstNotBelow : Cond.instanceMethod y_KM_firstNotBelow ∈ xT := xin 686 (by decide +kernel) (by decide +kernel)
theorem e_KM_firstNotBelow : Cond.selects "TwinKeepers$KeyMap" y_KM_firstNotBelow y_KM_firstNotBelow ∈ xT := xin 687 (by decide +kernel) (by decide +kernel)
theorem d_KM_firstNotBelow_0 : decode b_KM_firstNotBelow 0 = .ok (.iconst 0, 1) := by decide +kernel
theorem d_KM_firstNotBelow_1 : decode b_KM_firstNotBelow 1 = .ok (.istore_n 2, 1) := by decide +kernel
theorem d_KM_firstNotBelow_2 : decode b_KM_firstNotBelow 2 = .ok (.iload_n 2, 1) := by decide +kernel
theorem d_KM_firstNotBelow_3 : decode b_KM_firstNotBelow 3 = .ok (.aload_n 0, 1) := by decide +kernel
theorem d_KM_firstNotBelow_4 : decode b_KM_firstNotBelow 4 = .ok (.getfield 12, 3) := by decide +kernel
theorem d_KM_firstNotBelow_7 : decode b_KM_firstNotBelow 7 = .ok (.invokevirtual 22, 3) := by decide +kernel
theorem q_689 : Cond.methodLink "TwinKeepers$KeyMap" 22 ⟨"java/util/ArrayList", "size", "()I"⟩ ∈ xT := xin 689 (by decide +kernel) (by decide +kernel)
theorem d_KM_firstNotBelow_10 : decode b_KM_firstNotBelow 10 = .ok (.if_icmp .ge 32, 3) := by decide +kernel
theorem d_KM_firstNotBelow_13 : decode b_KM_firstNotBelow 13 = .ok (.aload_n 0, 1) := by decide +kernel
theorem d_KM_firstNotBelow_14 : decode b_KM_firstNotBelow 14 = .ok (.getfield 12, 3) := by decide +kernel
theorem d_KM_firstNotBelow_17 : decode b_KM_firstNotBelow 17 = .ok (.iload_n 2, 1) := by decide +kernel
theorem d_KM_firstNotBelow_18 : decode b_KM_firstNotBelow 18 = .ok (.invokevirtual 26, 3) := by decide +kernel
theorem d_KM_firstNotBelow_21 : decode b_KM_firstNotBelow 21 = .ok (.checkcast 30, 3) := by decide +kernel
theorem d_KM_firstNotBelow_24 : decode b_KM_firstNotBelow 24 = .ok (.getfield 32, 3) := by decide +kernel
theorem q_711 : Cond.fieldLink "TwinKeepers$KeyMap" 32 "TwinKeepers$Entry" "key" "[B" ∈ xT := xin 711 (by decide +kernel) (by decide +kernel)
theorem d_KM_firstNotBelow_27 : decode b_KM_firstNotBelow 27 = .ok (.aload_n 1, 1) := by decide +kernel
theorem d_KM_firstNotBelow_28 : decode b_KM_firstNotBelow 28 = .ok (.invokestatic 36, 3) := by decide +kernel
theorem q_692 : Cond.methodLinkNest "TwinKeepers$KeyMap" 36 ⟨"TwinKeepers", "compare", "([B[B)I"⟩ "TwinKeepers" ∈ xT := xin 692 (by decide +kernel) (by decide +kernel)
theorem d_KM_firstNotBelow_31 : decode b_KM_firstNotBelow 31 = .ok (.ifCond .lt 5, 3) := by decide +kernel
theorem d_KM_firstNotBelow_34 : decode b_KM_firstNotBelow 34 = .ok (.iload_n 2, 1) := by decide +kernel
theorem d_KM_firstNotBelow_35 : decode b_KM_firstNotBelow 35 = .ok (.ireturn, 1) := by decide +kernel
theorem d_KM_firstNotBelow_36 : decode b_KM_firstNotBelow 36 = .ok (.iinc 2 1, 3) := by decide +kernel
theorem d_KM_firstNotBelow_39 : decode b_KM_firstNotBelow 39 = .ok (.goto (-37), 3) := by decide +kernel
theorem d_KM_firstNotBelow_42 : decode b_KM_firstNotBelow 42 = .ok (.aload_n 0, 1) := by decide +kernel
theorem d_KM_firstNotBelow_43 : decode b_KM_firstNotBelow 43 = .ok (.getfield 12, 3) := by decide +kernel
theorem d_KM_firstNotBelow_46 : decode b_KM_firstNotBelow 46 = .ok (.invokevirtual 22, 3) := by decide +kernel
theorem d_KM_firstNotBelow_49 : decode b_KM_firstNotBelow 49 = .ok (.ireturn, 1) := by decide +kernel
abbrev b_TK_compare : ByteArray := prog_1_method_26_code
def y_TK_compare : MethodName := ⟨"TwinKeepers", "compare", "([B[B)I"⟩
theorem kc_TK_compare : Cond.code y_TK_compare b_TK_compare 5 (some .int) ∈ xT := xin 694 (by decide +kernel) (by decide +kernel)
theorem k_TK_compare : xCode y_TK_compare b_TK_compare 5 (some .int) [] := Or.inl ⟨rfl, kc_TK_compare⟩
theorem h_TK_compare : plainFor y_TK_compare = true ∧ (y_TK_compare.cls ≠ "java/lang/invoke/MethodHandle" ∧ y_TK_compare.cls ≠ "java/lang/invoke/VarHandle") ∧ (parseMethodDescriptor y_TK_compare.desc).map (fun d => d.parameters.length) = some 2 := by decide +kernel
theorem s_TK_compare : Cond.static y_TK_compare ∈ xT := xin 693 (by decide +kernel) (by decide +kernel)
theorem in_TK_compare : Cond.initialized y_TK_compare.cls ∈ xT := xin 1 (by decide +kernel) (by decide +kernel)
theorem d_TK_compare_0 : decode b_TK_compare 0 = .ok (.aload_n 0, 1) := by decide +kernel
theorem d_TK_compare_1 : decode b_TK_compare 1 = .ok (.arraylength, 1) := by decide +kernel
theorem d_TK_compare_2 : decode b_TK_compare 2 = .ok (.aload_n 1, 1) := by decide +kernel
theorem d_TK_compare_3 : decode b_TK_compare 3 = .ok (.arraylength, 1) := by decide +kernel
theorem d_TK_compare_4 : decode b_TK_compare 4 = .ok (.invokestatic 255, 3) := by decide +kernel
theorem q_695 : Cond.methodLink "TwinKeepers" 255 ⟨"java/lang/Math", "min", "(II)I"⟩ ∈ xT := xin 695 (by decide +kernel) (by decide +kernel)
theorem d_TK_compare_7 : decode b_TK_compare 7 = .ok (.istore_n 2, 1) := by decide +kernel
theorem d_TK_compare_8 : decode b_TK_compare 8 = .ok (.iconst 0, 1) := by decide +kernel
theorem d_TK_compare_9 : decode b_TK_compare 9 = .ok (.istore_n 3, 1) := by decide +kernel
theorem d_TK_compare_10 : decode b_TK_compare 10 = .ok (.iload_n 3, 1) := by decide +kernel
theorem d_TK_compare_11 : decode b_TK_compare 11 = .ok (.iload_n 2, 1) := by decide +kernel
theorem d_TK_compare_12 : decode b_TK_compare 12 = .ok (.if_icmp .ge 34, 3) := by decide +kernel
theorem d_TK_compare_15 : decode b_TK_compare 15 = .ok (.aload_n 0, 1) := by decide +kernel
theorem d_TK_compare_16 : decode b_TK_compare 16 = .ok (.iload_n 3, 1) := by decide +kernel
theorem d_TK_compare_17 : decode b_TK_compare 17 = .ok (.baload, 1) := by decide +kernel
theorem d_TK_compare_18 : decode b_TK_compare 18 = .ok (.sipush 255, 3) := by decide +kernel
theorem d_TK_compare_21 : decode b_TK_compare 21 = .ok (.iand, 1) := by decide +kernel
theorem d_TK_compare_22 : decode b_TK_compare 22 = .ok (.aload_n 1, 1) := by decide +kernel
theorem d_TK_compare_23 : decode b_TK_compare 23 = .ok (.iload_n 3, 1) := by decide +kernel
theorem d_TK_compare_24 : decode b_TK_compare 24 = .ok (.baload, 1) := by decide +kernel
theorem d_TK_compare_25 : decode b_TK_compare 25 = .ok (.sipush 255, 3) := by decide +kernel
theorem d_TK_compare_28 : decode b_TK_compare 28 = .ok (.iand, 1) := by decide +kernel
theorem d_TK_compare_29 : decode b_TK_compare 29 = .ok (.isub, 1) := by decide +kernel
theorem d_TK_compare_30 : decode b_TK_compare 30 = .ok (.istore 4, 2) := by decide +kernel
theorem d_TK_compare_32 : decode b_TK_compare 32 = .ok (.iload 4, 2) := by decide +kernel
theorem d_TK_compare_34 : decode b_TK_compare 34 = .ok (.ifCond .eq 6, 3) := by decide +kernel
theorem d_TK_compare_37 : decode b_TK_compare 37 = .ok (.iload 4, 2) := by decide +kernel
theorem d_TK_compare_39 : decode b_TK_compare 39 = .ok (.ireturn, 1) := by decide +kernel
theorem d_TK_compare_40 : decode b_TK_compare 40 = .ok (.iinc 3 1, 3) := by decide +kernel
theorem d_TK_compare_43 : decode b_TK_compare 43 = .ok (.goto (-33), 3) := by decide +kernel
theorem d_TK_compare_46 : decode b_TK_compare 46 = .ok (.aload_n 0, 1) := by decide +kernel
theorem d_TK_compare_47 : decode b_TK_compare 47 = .ok (.arraylength, 1) := by decide +kernel
theorem d_TK_compare_48 : decode b_TK_compare 48 = .ok (.aload_n 1, 1) := by decide +kernel
theorem d_TK_compare_49 : decode b_TK_compare 49 = .ok (.arraylength, 1) := by decide +kernel
theorem d_TK_compare_50 : decode b_TK_compare 50 = .ok (.isub, 1) := by decide +kernel
theorem d_TK_compare_51 : decode b_TK_compare 51 = .ok (.ireturn, 1) := by decide +kernel
abbrev b_KM_isAt : ByteArray := prog_3_method_3_code
def y_KM_isAt : MethodName := ⟨"TwinKeepers$KeyMap", "isAt", "(I[B)Z"⟩
theorem kc_KM_isAt : Cond.code y_KM_isAt b_KM_isAt 3 (some .boolean) ∈ xT := xin 699 (by decide +kernel) (by decide +kernel)
theorem k_KM_isAt : xCode y_KM_isAt b_KM_isAt 3 (some .boolean) [] := Or.inl ⟨rfl, kc_KM_isAt⟩
theorem h_KM_isAt : plainFor y_KM_isAt = true ∧ (y_KM_isAt.cls ≠ "java/lang/invoke/MethodHandle" ∧ y_KM_isAt.cls ≠ "java/lang/invoke/VarHandle") ∧ (parseMethodDescriptor y_KM_isAt.desc).map (fun d => d.parameters.length) = some 2 := by decide +kernel
theorem v_KM_isAt : Cond.instanceMethod y_KM_isAt ∈ xT := xin 697 (by decide +kernel) (by decide +kernel)
theorem e_KM_isAt : Cond.selects "TwinKeepers$KeyMap" y_KM_isAt y_KM_isAt ∈ xT := xin 698 (by decide +kernel) (by decide +kernel)
theorem d_KM_isAt_0 : decode b_KM_isAt 0 = .ok (.iload_n 1, 1) := by decide +kernel
theorem d_KM_isAt_1 : decode b_KM_isAt 1 = .ok (.aload_n 0, 1) := by decide +kernel
theorem d_KM_isAt_2 : decode b_KM_isAt 2 = .ok (.getfield 12, 3) := by decide +kernel
theorem d_KM_isAt_5 : decode b_KM_isAt 5 = .ok (.invokevirtual 22, 3) := by decide +kernel
theorem d_KM_isAt_8 : decode b_KM_isAt 8 = .ok (.if_icmp .ge 28, 3) := by decide +kernel
theorem d_KM_isAt_11 : decode b_KM_isAt 11 = .ok (.aload_n 0, 1) := by decide +kernel
theorem d_KM_isAt_12 : decode b_KM_isAt 12 = .ok (.getfield 12, 3) := by decide +kernel
theorem d_KM_isAt_15 : decode b_KM_isAt 15 = .ok (.iload_n 1, 1) := by decide +kernel
theorem d_KM_isAt_16 : decode b_KM_isAt 16 = .ok (.invokevirtual 26, 3) := by decide +kernel
theorem d_KM_isAt_19 : decode b_KM_isAt 19 = .ok (.checkcast 30, 3) := by decide +kernel
theorem d_KM_isAt_22 : decode b_KM_isAt 22 = .ok (.getfield 32, 3) := by decide +kernel
theorem d_KM_isAt_25 : decode b_KM_isAt 25 = .ok (.aload_n 2, 1) := by decide +kernel
theorem d_KM_isAt_26 : decode b_KM_isAt 26 = .ok (.invokestatic 36, 3) := by decide +kernel
theorem d_KM_isAt_29 : decode b_KM_isAt 29 = .ok (.ifCond .ne 7, 3) := by decide +kernel
theorem d_KM_isAt_32 : decode b_KM_isAt 32 = .ok (.iconst 1, 1) := by decide +kernel
theorem d_KM_isAt_33 : decode b_KM_isAt 33 = .ok (.goto 4, 3) := by decide +kernel
theorem d_KM_isAt_36 : decode b_KM_isAt 36 = .ok (.iconst 0, 1) := by decide +kernel
theorem d_KM_isAt_37 : decode b_KM_isAt 37 = .ok (.ireturn, 1) := by decide +kernel
abbrev b_KM_replace : ByteArray := prog_3_method_13_code
def y_KM_replace : MethodName := ⟨"TwinKeepers$KeyMap", "replace", "(I[B)Z"⟩
theorem kc_KM_replace : Cond.code y_KM_replace b_KM_replace 6 (some .boolean) ∈ xT := xin 704 (by decide +kernel) (by decide +kernel)
theorem k_KM_replace : xCode y_KM_replace b_KM_replace 6 (some .boolean) [] := Or.inl ⟨rfl, kc_KM_replace⟩
theorem h_KM_replace : plainFor y_KM_replace = true ∧ (y_KM_replace.cls ≠ "java/lang/invoke/MethodHandle" ∧ y_KM_replace.cls ≠ "java/lang/invoke/VarHandle") ∧ (parseMethodDescriptor y_KM_replace.desc).map (fun d => d.parameters.length) = some 2 := by decide +kernel
theorem v_KM_replace : Cond.instanceMethod y_KM_replace ∈ xT := xin 703 (by decide +kernel) (by decide +kernel)
theorem e_KM_replace : Cond.selects "TwinKeepers$KeyMap" y_KM_replace y_KM_replace ∈ xT := xinp 10 (by decide +kernel) (by decide +kernel)
theorem d_KM_replace_0 : decode b_KM_replace 0 = .ok (.aload_n 0, 1) := by decide +kernel
theorem d_KM_replace_1 : decode b_KM_replace 1 = .ok (.getfield 12, 3) := by decide +kernel
theorem d_KM_replace_4 : decode b_KM_replace 4 = .ok (.iload_n 1, 1) := by decide +kernel
theorem d_KM_replace_5 : decode b_KM_replace 5 = .ok (.invokevirtual 26, 3) := by decide +kernel
theorem d_KM_replace_8 : decode b_KM_replace 8 = .ok (.checkcast 30, 3) := by decide +kernel
theorem d_KM_replace_11 : decode b_KM_replace 11 = .ok (.astore_n 3, 1) := by decide +kernel
theorem d_KM_replace_12 : decode b_KM_replace 12 = .ok (.new 30, 3) := by decide +kernel
theorem d_KM_replace_15 : decode b_KM_replace 15 = .ok (.dup, 1) := by decide +kernel
theorem d_KM_replace_16 : decode b_KM_replace 16 = .ok (.aload_n 3, 1) := by decide +kernel
theorem d_KM_replace_17 : decode b_KM_replace 17 = .ok (.getfield 32, 3) := by decide +kernel
theorem d_KM_replace_20 : decode b_KM_replace 20 = .ok (.aload_n 2, 1) := by decide +kernel
theorem d_KM_replace_21 : decode b_KM_replace 21 = .ok (.invokespecial 89, 3) := by decide +kernel
theorem q_706 : Cond.methodLink "TwinKeepers$KeyMap" 89 ⟨"TwinKeepers$Entry", "<init>", "([B[B)V"⟩ ∈ xT := xin 706 (by decide +kernel) (by decide +kernel)
theorem d_KM_replace_24 : decode b_KM_replace 24 = .ok (.astore 4, 2) := by decide +kernel
theorem d_KM_replace_26 : decode b_KM_replace 26 = .ok (.aload_n 0, 1) := by decide +kernel
theorem d_KM_replace_27 : decode b_KM_replace 27 = .ok (.getfield 18, 3) := by decide +kernel
theorem d_KM_replace_30 : decode b_KM_replace 30 = .ok (.aload_n 3, 1) := by decide +kernel
theorem d_KM_replace_31 : decode b_KM_replace 31 = .ok (.invokevirtual 78, 3) := by decide +kernel
theorem q_721 : Cond.methodLink "TwinKeepers$KeyMap" 78 ⟨"TwinKeepers$Entry", "units", "()I"⟩ ∈ xT := xin 721 (by decide +kernel) (by decide +kernel)
theorem d_KM_replace_34 : decode b_KM_replace 34 = .ok (.isub, 1) := by decide +kernel
theorem d_KM_replace_35 : decode b_KM_replace 35 = .ok (.aload 4, 2) := by decide +kernel
theorem d_KM_replace_37 : decode b_KM_replace 37 = .ok (.invokevirtual 78, 3) := by decide +kernel
theorem d_KM_replace_40 : decode b_KM_replace 40 = .ok (.iadd, 1) := by decide +kernel
theorem d_KM_replace_41 : decode b_KM_replace 41 = .ok (.istore 5, 2) := by decide +kernel
theorem d_KM_replace_43 : decode b_KM_replace 43 = .ok (.iload 5, 2) := by decide +kernel
theorem d_KM_replace_45 : decode b_KM_replace 45 = .ok (.sipush 700, 3) := by decide +kernel
theorem d_KM_replace_48 : decode b_KM_replace 48 = .ok (.if_icmp .le 5, 3) := by decide +kernel
theorem d_KM_replace_51 : decode b_KM_replace 51 = .ok (.iconst 0, 1) := by decide +kernel
theorem d_KM_replace_52 : decode b_KM_replace 52 = .ok (.ireturn, 1) := by decide +kernel
theorem d_KM_replace_53 : decode b_KM_replace 53 = .ok (.aload_n 0, 1) := by decide +kernel
theorem d_KM_replace_54 : decode b_KM_replace 54 = .ok (.getfield 12, 3) := by decide +kernel
theorem d_KM_replace_57 : decode b_KM_replace 57 = .ok (.iload_n 1, 1) := by decide +kernel
theorem d_KM_replace_58 : decode b_KM_replace 58 = .ok (.aload 4, 2) := by decide +kernel
theorem d_KM_replace_60 : decode b_KM_replace 60 = .ok (.invokevirtual 96, 3) := by decide +kernel
theorem q_725 : Cond.methodLink "TwinKeepers$KeyMap" 96 ⟨"java/util/ArrayList", "set", "(ILjava/lang/Object;)Ljava/lang/Object;"⟩ ∈ xT := xin 725 (by decide +kernel) (by decide +kernel)
theorem d_KM_replace_63 : decode b_KM_replace 63 = .ok (.pop, 1) := by decide +kernel
theorem d_KM_replace_64 : decode b_KM_replace 64 = .ok (.aload_n 0, 1) := by decide +kernel
theorem d_KM_replace_65 : decode b_KM_replace 65 = .ok (.iload 5, 2) := by decide +kernel
theorem d_KM_replace_67 : decode b_KM_replace 67 = .ok (.putfield 18, 3) := by decide +kernel
theorem d_KM_replace_70 : decode b_KM_replace 70 = .ok (.iconst 1, 1) := by decide +kernel
theorem d_KM_replace_71 : decode b_KM_replace 71 = .ok (.ireturn, 1) := by decide +kernel
abbrev b_En_init : ByteArray := prog_2_method_1_code
def y_En_init : MethodName := ⟨"TwinKeepers$Entry", "<init>", "([B[B)V"⟩
theorem kc_En_init : Cond.code y_En_init b_En_init 3 none ∈ xT := xin 708 (by decide +kernel) (by decide +kernel)
theorem k_En_init : xCode y_En_init b_En_init 3 none [] := Or.inl ⟨rfl, kc_En_init⟩
theorem h_En_init : plainFor y_En_init = true ∧ (y_En_init.cls ≠ "java/lang/invoke/MethodHandle" ∧ y_En_init.cls ≠ "java/lang/invoke/VarHandle") ∧ (parseMethodDescriptor y_En_init.desc).map (fun d => d.parameters.length) = some 2 := by decide +kernel
theorem v_En_init : Cond.instanceMethod y_En_init ∈ xT := xin 707 (by decide +kernel) (by decide +kernel)
theorem d_En_init_0 : decode b_En_init 0 = .ok (.aload_n 0, 1) := by decide +kernel
theorem d_En_init_1 : decode b_En_init 1 = .ok (.invokespecial 3, 3) := by decide +kernel
theorem q_709 : Cond.methodLink "TwinKeepers$Entry" 3 ⟨"java/lang/Object", "<init>", "()V"⟩ ∈ xT := xin 709 (by decide +kernel) (by decide +kernel)
theorem d_En_init_4 : decode b_En_init 4 = .ok (.aload_n 0, 1) := by decide +kernel
theorem d_En_init_5 : decode b_En_init 5 = .ok (.aload_n 1, 1) := by decide +kernel
theorem d_En_init_6 : decode b_En_init 6 = .ok (.putfield 9, 3) := by decide +kernel
theorem q_710 : Cond.fieldLink "TwinKeepers$Entry" 9 "TwinKeepers$Entry" "key" "[B" ∈ xT := xin 710 (by decide +kernel) (by decide +kernel)
theorem d_En_init_9 : decode b_En_init 9 = .ok (.aload_n 0, 1) := by decide +kernel
theorem d_En_init_10 : decode b_En_init 10 = .ok (.aload_n 2, 1) := by decide +kernel
theorem d_En_init_11 : decode b_En_init 11 = .ok (.putfield 15, 3) := by decide +kernel
theorem q_713 : Cond.fieldLink "TwinKeepers$Entry" 15 "TwinKeepers$Entry" "value" "[B" ∈ xT := xin 713 (by decide +kernel) (by decide +kernel)
theorem d_En_init_14 : decode b_En_init 14 = .ok (.return_, 1) := by decide +kernel
abbrev b_En_units : ByteArray := prog_2_method_2_code
def y_En_units : MethodName := ⟨"TwinKeepers$Entry", "units", "()I"⟩
theorem kc_En_units : Cond.code y_En_units b_En_units 1 (some .int) ∈ xT := xin 724 (by decide +kernel) (by decide +kernel)
theorem k_En_units : xCode y_En_units b_En_units 1 (some .int) [] := Or.inl ⟨rfl, kc_En_units⟩
theorem h_En_units : plainFor y_En_units = true ∧ (y_En_units.cls ≠ "java/lang/invoke/MethodHandle" ∧ y_En_units.cls ≠ "java/lang/invoke/VarHandle") ∧ (parseMethodDescriptor y_En_units.desc).map (fun d => d.parameters.length) = some 0 := by decide +kernel
theorem v_En_units : Cond.instanceMethod y_En_units ∈ xT := xin 722 (by decide +kernel) (by decide +kernel)
theorem e_En_units : Cond.selects "TwinKeepers$Entry" y_En_units y_En_units ∈ xT := xin 723 (by decide +kernel) (by decide +kernel)
theorem d_En_units_0 : decode b_En_units 0 = .ok (.aload_n 0, 1) := by decide +kernel
theorem d_En_units_1 : decode b_En_units 1 = .ok (.getfield 9, 3) := by decide +kernel
theorem d_En_units_4 : decode b_En_units 4 = .ok (.arraylength, 1) := by decide +kernel
theorem d_En_units_5 : decode b_En_units 5 = .ok (.aload_n 0, 1) := by decide +kernel
theorem d_En_units_6 : decode b_En_units 6 = .ok (.getfield 15, 3) := by decide +kernel
theorem d_En_units_9 : decode b_En_units 9 = .ok (.arraylength, 1) := by decide +kernel
theorem d_En_units_10 : decode b_En_units 10 = .ok (.iadd, 1) := by decide +kernel
theorem d_En_units_11 : decode b_En_units 11 = .ok (.bipush 16, 2) := by decide +kernel
theorem d_En_units_13 : decode b_En_units 13 = .ok (.iadd, 1) := by decide +kernel
theorem d_En_units_14 : decode b_En_units 14 = .ok (.iconst 1, 1) := by decide +kernel
theorem d_En_units_15 : decode b_En_units 15 = .ok (.isub, 1) := by decide +kernel
theorem d_En_units_16 : decode b_En_units 16 = .ok (.bipush 16, 2) := by decide +kernel
theorem d_En_units_18 : decode b_En_units 18 = .ok (.idiv, 1) := by decide +kernel
theorem d_En_units_19 : decode b_En_units 19 = .ok (.ireturn, 1) := by decide +kernel
abbrev b_KM_insert : ByteArray := prog_3_method_12_code
def y_KM_insert : MethodName := ⟨"TwinKeepers$KeyMap", "insert", "(I[B[B)Z"⟩
theorem kc_KM_insert : Cond.code y_KM_insert b_KM_insert 5 (some .boolean) ∈ xT := xin 729 (by decide +kernel) (by decide +kernel)
theorem k_KM_insert : xCode y_KM_insert b_KM_insert 5 (some .boolean) [] := Or.inl ⟨rfl, kc_KM_insert⟩
theorem h_KM_insert : plainFor y_KM_insert = true ∧ (y_KM_insert.cls ≠ "java/lang/invoke/MethodHandle" ∧ y_KM_insert.cls ≠ "java/lang/invoke/VarHandle") ∧ (parseMethodDescriptor y_KM_insert.desc).map (fun d => d.parameters.length) = some 3 := by decide +kernel
theorem v_KM_insert : Cond.instanceMethod y_KM_insert ∈ xT := xin 728 (by decide +kernel) (by decide +kernel)
theorem e_KM_insert : Cond.selects "TwinKeepers$KeyMap" y_KM_insert y_KM_insert ∈ xT := xinp 11 (by decide +kernel) (by decide +kernel)
theorem d_KM_insert_0 : decode b_KM_insert 0 = .ok (.new 30, 3) := by decide +kernel
theorem d_KM_insert_3 : decode b_KM_insert 3 = .ok (.dup, 1) := by decide +kernel
theorem d_KM_insert_4 : decode b_KM_insert 4 = .ok (.aload_n 2, 1) := by decide +kernel
theorem d_KM_insert_5 : decode b_KM_insert 5 = .ok (.aload_n 3, 1) := by decide +kernel
theorem d_KM_insert_6 : decode b_KM_insert 6 = .ok (.invokespecial 89, 3) := by decide +kernel
theorem d_KM_insert_9 : decode b_KM_insert 9 = .ok (.astore 4, 2) := by decide +kernel
theorem d_KM_insert_11 : decode b_KM_insert 11 = .ok (.aload_n 0, 1) := by decide +kernel
theorem d_KM_insert_12 : decode b_KM_insert 12 = .ok (.getfield 12, 3) := by decide +kernel
theorem d_KM_insert_15 : decode b_KM_insert 15 = .ok (.invokevirtual 22, 3) := by decide +kernel
theorem d_KM_insert_18 : decode b_KM_insert 18 = .ok (.sipush 128, 3) := by decide +kernel
theorem d_KM_insert_21 : decode b_KM_insert 21 = .ok (.if_icmp .ge 19, 3) := by decide +kernel
theorem d_KM_insert_24 : decode b_KM_insert 24 = .ok (.aload_n 0, 1) := by decide +kernel
theorem d_KM_insert_25 : decode b_KM_insert 25 = .ok (.getfield 18, 3) := by decide +kernel
theorem d_KM_insert_28 : decode b_KM_insert 28 = .ok (.aload 4, 2) := by decide +kernel
theorem d_KM_insert_30 : decode b_KM_insert 30 = .ok (.invokevirtual 78, 3) := by decide +kernel
theorem d_KM_insert_33 : decode b_KM_insert 33 = .ok (.iadd, 1) := by decide +kernel
theorem d_KM_insert_34 : decode b_KM_insert 34 = .ok (.sipush 700, 3) := by decide +kernel
theorem d_KM_insert_37 : decode b_KM_insert 37 = .ok (.if_icmp .le 5, 3) := by decide +kernel
theorem d_KM_insert_40 : decode b_KM_insert 40 = .ok (.iconst 0, 1) := by decide +kernel
theorem d_KM_insert_41 : decode b_KM_insert 41 = .ok (.ireturn, 1) := by decide +kernel
theorem d_KM_insert_42 : decode b_KM_insert 42 = .ok (.aload_n 0, 1) := by decide +kernel
theorem d_KM_insert_43 : decode b_KM_insert 43 = .ok (.getfield 12, 3) := by decide +kernel
theorem d_KM_insert_46 : decode b_KM_insert 46 = .ok (.iload_n 1, 1) := by decide +kernel
theorem d_KM_insert_47 : decode b_KM_insert 47 = .ok (.aload 4, 2) := by decide +kernel
theorem d_KM_insert_49 : decode b_KM_insert 49 = .ok (.invokevirtual 92, 3) := by decide +kernel
theorem q_730 : Cond.methodLink "TwinKeepers$KeyMap" 92 ⟨"java/util/ArrayList", "add", "(ILjava/lang/Object;)V"⟩ ∈ xT := xin 730 (by decide +kernel) (by decide +kernel)
theorem d_KM_insert_52 : decode b_KM_insert 52 = .ok (.aload_n 0, 1) := by decide +kernel
theorem d_KM_insert_53 : decode b_KM_insert 53 = .ok (.dup, 1) := by decide +kernel
theorem d_KM_insert_54 : decode b_KM_insert 54 = .ok (.getfield 18, 3) := by decide +kernel
theorem d_KM_insert_57 : decode b_KM_insert 57 = .ok (.aload 4, 2) := by decide +kernel
theorem d_KM_insert_59 : decode b_KM_insert 59 = .ok (.invokevirtual 78, 3) := by decide +kernel
theorem d_KM_insert_62 : decode b_KM_insert 62 = .ok (.iadd, 1) := by decide +kernel
theorem d_KM_insert_63 : decode b_KM_insert 63 = .ok (.putfield 18, 3) := by decide +kernel
theorem d_KM_insert_66 : decode b_KM_insert 66 = .ok (.iconst 1, 1) := by decide +kernel
theorem d_KM_insert_67 : decode b_KM_insert 67 = .ok (.ireturn, 1) := by decide +kernel
abbrev b_Ro_addNumber : ByteArray := prog_5_method_3_code
def y_Ro_addNumber : MethodName := ⟨"TwinKeepers$Row", "addNumber", "(II)V"⟩
theorem kc_Ro_addNumber : Cond.code y_Ro_addNumber b_Ro_addNumber 4 none ∈ xT := xin 754 (by decide +kernel) (by decide +kernel)
theorem k_Ro_addNumber : xCode y_Ro_addNumber b_Ro_addNumber 4 none [] := Or.inl ⟨rfl, kc_Ro_addNumber⟩
theorem h_Ro_addNumber : plainFor y_Ro_addNumber = true ∧ (y_Ro_addNumber.cls ≠ "java/lang/invoke/MethodHandle" ∧ y_Ro_addNumber.cls ≠ "java/lang/invoke/VarHandle") ∧ (parseMethodDescriptor y_Ro_addNumber.desc).map (fun d => d.parameters.length) = some 2 := by decide +kernel
theorem v_Ro_addNumber : Cond.instanceMethod y_Ro_addNumber ∈ xT := xin 752 (by decide +kernel) (by decide +kernel)
theorem e_Ro_addNumber : Cond.selects "TwinKeepers$Row" y_Ro_addNumber y_Ro_addNumber ∈ xT := xin 753 (by decide +kernel) (by decide +kernel)
theorem d_Ro_addNumber_0 : decode b_Ro_addNumber 0 = .ok (.iconst 0, 1) := by decide +kernel
theorem d_Ro_addNumber_1 : decode b_Ro_addNumber 1 = .ok (.istore_n 3, 1) := by decide +kernel
theorem d_Ro_addNumber_2 : decode b_Ro_addNumber 2 = .ok (.iload_n 3, 1) := by decide +kernel
theorem d_Ro_addNumber_3 : decode b_Ro_addNumber 3 = .ok (.iload_n 2, 1) := by decide +kernel
theorem d_Ro_addNumber_4 : decode b_Ro_addNumber 4 = .ok (.if_icmp .ge 20, 3) := by decide +kernel
theorem d_Ro_addNumber_7 : decode b_Ro_addNumber 7 = .ok (.aload_n 0, 1) := by decide +kernel
theorem d_Ro_addNumber_8 : decode b_Ro_addNumber 8 = .ok (.iload_n 1, 1) := by decide +kernel
theorem d_Ro_addNumber_9 : decode b_Ro_addNumber 9 = .ok (.bipush 8, 2) := by decide +kernel
theorem d_Ro_addNumber_11 : decode b_Ro_addNumber 11 = .ok (.iload_n 3, 1) := by decide +kernel
theorem d_Ro_addNumber_12 : decode b_Ro_addNumber 12 = .ok (.imul, 1) := by decide +kernel
theorem d_Ro_addNumber_13 : decode b_Ro_addNumber 13 = .ok (.iushr, 1) := by decide +kernel
theorem d_Ro_addNumber_14 : decode b_Ro_addNumber 14 = .ok (.i2b, 1) := by decide +kernel
theorem d_Ro_addNumber_15 : decode b_Ro_addNumber 15 = .ok (.invokevirtual 17, 3) := by decide +kernel
theorem d_Ro_addNumber_18 : decode b_Ro_addNumber 18 = .ok (.iinc 3 1, 3) := by decide +kernel
theorem d_Ro_addNumber_21 : decode b_Ro_addNumber 21 = .ok (.goto (-19), 3) := by decide +kernel
theorem d_Ro_addNumber_24 : decode b_Ro_addNumber 24 = .ok (.return_, 1) := by decide +kernel
abbrev b_KM_swap : ByteArray := prog_3_method_6_code
def y_KM_swap : MethodName := ⟨"TwinKeepers$KeyMap", "swap", "([B[B[BLTwinKeepers$Row;)V"⟩
theorem kc_KM_swap : Cond.code y_KM_swap b_KM_swap 7 none ∈ xT := xin 759 (by decide +kernel) (by decide +kernel)
theorem k_KM_swap : xCode y_KM_swap b_KM_swap 7 none [] := Or.inl ⟨rfl, kc_KM_swap⟩
theorem h_KM_swap : plainFor y_KM_swap = true ∧ (y_KM_swap.cls ≠ "java/lang/invoke/MethodHandle" ∧ y_KM_swap.cls ≠ "java/lang/invoke/VarHandle") ∧ (parseMethodDescriptor y_KM_swap.desc).map (fun d => d.parameters.length) = some 4 := by decide +kernel
theorem v_KM_swap : Cond.instanceMethod y_KM_swap ∈ xT := xin 757 (by decide +kernel) (by decide +kernel)
theorem e_KM_swap : Cond.selects "TwinKeepers$KeyMap" y_KM_swap y_KM_swap ∈ xT := xin 758 (by decide +kernel) (by decide +kernel)
theorem d_KM_swap_0 : decode b_KM_swap 0 = .ok (.aload_n 0, 1) := by decide +kernel
theorem d_KM_swap_1 : decode b_KM_swap 1 = .ok (.aload_n 1, 1) := by decide +kernel
theorem d_KM_swap_2 : decode b_KM_swap 2 = .ok (.invokevirtual 71, 3) := by decide +kernel
theorem q_760 : Cond.methodLink "TwinKeepers$KeyMap" 71 ⟨"TwinKeepers$KeyMap", "indexOf", "([B)I"⟩ ∈ xT := xin 760 (by decide +kernel) (by decide +kernel)
theorem d_KM_swap_5 : decode b_KM_swap 5 = .ok (.istore 5, 2) := by decide +kernel
theorem d_KM_swap_7 : decode b_KM_swap 7 = .ok (.iload 5, 2) := by decide +kernel
theorem d_KM_swap_9 : decode b_KM_swap 9 = .ok (.iconst (-1), 1) := by decide +kernel
theorem d_KM_swap_10 : decode b_KM_swap 10 = .ok (.if_icmp .ne 11, 3) := by decide +kernel
theorem d_KM_swap_13 : decode b_KM_swap 13 = .ok (.aload 4, 2) := by decide +kernel
theorem d_KM_swap_15 : decode b_KM_swap 15 = .ok (.iconst 3, 1) := by decide +kernel
theorem d_KM_swap_16 : decode b_KM_swap 16 = .ok (.iconst 1, 1) := by decide +kernel
theorem d_KM_swap_17 : decode b_KM_swap 17 = .ok (.invokevirtual 61, 3) := by decide +kernel
theorem d_KM_swap_20 : decode b_KM_swap 20 = .ok (.return_, 1) := by decide +kernel
theorem d_KM_swap_21 : decode b_KM_swap 21 = .ok (.aload_n 0, 1) := by decide +kernel
theorem d_KM_swap_22 : decode b_KM_swap 22 = .ok (.getfield 12, 3) := by decide +kernel
theorem d_KM_swap_25 : decode b_KM_swap 25 = .ok (.iload 5, 2) := by decide +kernel
theorem d_KM_swap_27 : decode b_KM_swap 27 = .ok (.invokevirtual 26, 3) := by decide +kernel
theorem d_KM_swap_30 : decode b_KM_swap 30 = .ok (.checkcast 30, 3) := by decide +kernel
theorem d_KM_swap_33 : decode b_KM_swap 33 = .ok (.getfield 48, 3) := by decide +kernel
theorem d_KM_swap_36 : decode b_KM_swap 36 = .ok (.astore 6, 2) := by decide +kernel
theorem d_KM_swap_38 : decode b_KM_swap 38 = .ok (.aload 6, 2) := by decide +kernel
theorem d_KM_swap_40 : decode b_KM_swap 40 = .ok (.aload_n 2, 1) := by decide +kernel
theorem d_KM_swap_41 : decode b_KM_swap 41 = .ok (.invokestatic 36, 3) := by decide +kernel
theorem d_KM_swap_44 : decode b_KM_swap 44 = .ok (.ifCond .eq 18, 3) := by decide +kernel
theorem d_KM_swap_47 : decode b_KM_swap 47 = .ok (.aload 4, 2) := by decide +kernel
theorem d_KM_swap_49 : decode b_KM_swap 49 = .ok (.iconst 0, 1) := by decide +kernel
theorem d_KM_swap_50 : decode b_KM_swap 50 = .ok (.iconst 1, 1) := by decide +kernel
theorem d_KM_swap_51 : decode b_KM_swap 51 = .ok (.invokevirtual 61, 3) := by decide +kernel
theorem d_KM_swap_54 : decode b_KM_swap 54 = .ok (.aload 4, 2) := by decide +kernel
theorem d_KM_swap_56 : decode b_KM_swap 56 = .ok (.aload 6, 2) := by decide +kernel
theorem d_KM_swap_58 : decode b_KM_swap 58 = .ok (.invokevirtual 67, 3) := by decide +kernel
theorem d_KM_swap_61 : decode b_KM_swap 61 = .ok (.return_, 1) := by decide +kernel
theorem d_KM_swap_62 : decode b_KM_swap 62 = .ok (.aload 4, 2) := by decide +kernel
theorem d_KM_swap_64 : decode b_KM_swap 64 = .ok (.aload_n 0, 1) := by decide +kernel
theorem d_KM_swap_65 : decode b_KM_swap 65 = .ok (.iload 5, 2) := by decide +kernel
theorem d_KM_swap_67 : decode b_KM_swap 67 = .ok (.aload_n 3, 1) := by decide +kernel
theorem d_KM_swap_68 : decode b_KM_swap 68 = .ok (.invokevirtual 54, 3) := by decide +kernel
theorem d_KM_swap_71 : decode b_KM_swap 71 = .ok (.ifCond .eq 7, 3) := by decide +kernel
theorem d_KM_swap_74 : decode b_KM_swap 74 = .ok (.iconst 1, 1) := by decide +kernel
theorem d_KM_swap_75 : decode b_KM_swap 75 = .ok (.goto 4, 3) := by decide +kernel
theorem d_KM_swap_78 : decode b_KM_swap 78 = .ok (.iconst 2, 1) := by decide +kernel
theorem d_KM_swap_79 : decode b_KM_swap 79 = .ok (.iconst 1, 1) := by decide +kernel
theorem d_KM_swap_80 : decode b_KM_swap 80 = .ok (.invokevirtual 61, 3) := by decide +kernel
theorem d_KM_swap_83 : decode b_KM_swap 83 = .ok (.return_, 1) := by decide +kernel
abbrev b_KM_indexOf : ByteArray := prog_3_method_4_code
def y_KM_indexOf : MethodName := ⟨"TwinKeepers$KeyMap", "indexOf", "([B)I"⟩
theorem kc_KM_indexOf : Cond.code y_KM_indexOf b_KM_indexOf 3 (some .int) ∈ xT := xin 763 (by decide +kernel) (by decide +kernel)
theorem k_KM_indexOf : xCode y_KM_indexOf b_KM_indexOf 3 (some .int) [] := Or.inl ⟨rfl, kc_KM_indexOf⟩
theorem h_KM_indexOf : plainFor y_KM_indexOf = true ∧ (y_KM_indexOf.cls ≠ "java/lang/invoke/MethodHandle" ∧ y_KM_indexOf.cls ≠ "java/lang/invoke/VarHandle") ∧ (parseMethodDescriptor y_KM_indexOf.desc).map (fun d => d.parameters.length) = some 1 := by decide +kernel
theorem v_KM_indexOf : Cond.instanceMethod y_KM_indexOf ∈ xT := xin 761 (by decide +kernel) (by decide +kernel)
theorem e_KM_indexOf : Cond.selects "TwinKeepers$KeyMap" y_KM_indexOf y_KM_indexOf ∈ xT := xin 762 (by decide +kernel) (by decide +kernel)
theorem d_KM_indexOf_0 : decode b_KM_indexOf 0 = .ok (.aload_n 0, 1) := by decide +kernel
theorem d_KM_indexOf_1 : decode b_KM_indexOf 1 = .ok (.aload_n 1, 1) := by decide +kernel
theorem d_KM_indexOf_2 : decode b_KM_indexOf 2 = .ok (.invokevirtual 40, 3) := by decide +kernel
theorem d_KM_indexOf_5 : decode b_KM_indexOf 5 = .ok (.istore_n 2, 1) := by decide +kernel
theorem d_KM_indexOf_6 : decode b_KM_indexOf 6 = .ok (.aload_n 0, 1) := by decide +kernel
theorem d_KM_indexOf_7 : decode b_KM_indexOf 7 = .ok (.iload_n 2, 1) := by decide +kernel
theorem d_KM_indexOf_8 : decode b_KM_indexOf 8 = .ok (.aload_n 1, 1) := by decide +kernel
theorem d_KM_indexOf_9 : decode b_KM_indexOf 9 = .ok (.invokevirtual 44, 3) := by decide +kernel
theorem d_KM_indexOf_12 : decode b_KM_indexOf 12 = .ok (.ifCond .eq 7, 3) := by decide +kernel
theorem d_KM_indexOf_15 : decode b_KM_indexOf 15 = .ok (.iload_n 2, 1) := by decide +kernel
theorem d_KM_indexOf_16 : decode b_KM_indexOf 16 = .ok (.goto 4, 3) := by decide +kernel
theorem d_KM_indexOf_19 : decode b_KM_indexOf 19 = .ok (.iconst (-1), 1) := by decide +kernel
theorem d_KM_indexOf_20 : decode b_KM_indexOf 20 = .ok (.ireturn, 1) := by decide +kernel
abbrev b_KM_remove : ByteArray := prog_3_method_7_code
def y_KM_remove : MethodName := ⟨"TwinKeepers$KeyMap", "remove", "([BLTwinKeepers$Row;)V"⟩
theorem kc_KM_remove : Cond.code y_KM_remove b_KM_remove 4 none ∈ xT := xin 767 (by decide +kernel) (by decide +kernel)
theorem k_KM_remove : xCode y_KM_remove b_KM_remove 4 none [] := Or.inl ⟨rfl, kc_KM_remove⟩
theorem h_KM_remove : plainFor y_KM_remove = true ∧ (y_KM_remove.cls ≠ "java/lang/invoke/MethodHandle" ∧ y_KM_remove.cls ≠ "java/lang/invoke/VarHandle") ∧ (parseMethodDescriptor y_KM_remove.desc).map (fun d => d.parameters.length) = some 2 := by decide +kernel
theorem v_KM_remove : Cond.instanceMethod y_KM_remove ∈ xT := xin 765 (by decide +kernel) (by decide +kernel)
theorem e_KM_remove : Cond.selects "TwinKeepers$KeyMap" y_KM_remove y_KM_remove ∈ xT := xin 766 (by decide +kernel) (by decide +kernel)
theorem d_KM_remove_0 : decode b_KM_remove 0 = .ok (.aload_n 0, 1) := by decide +kernel
theorem d_KM_remove_1 : decode b_KM_remove 1 = .ok (.aload_n 1, 1) := by decide +kernel
theorem d_KM_remove_2 : decode b_KM_remove 2 = .ok (.invokevirtual 71, 3) := by decide +kernel
theorem d_KM_remove_5 : decode b_KM_remove 5 = .ok (.istore_n 3, 1) := by decide +kernel
theorem d_KM_remove_6 : decode b_KM_remove 6 = .ok (.aload_n 0, 1) := by decide +kernel
theorem d_KM_remove_7 : decode b_KM_remove 7 = .ok (.iload_n 3, 1) := by decide +kernel
theorem d_KM_remove_8 : decode b_KM_remove 8 = .ok (.aload_n 2, 1) := by decide +kernel
theorem d_KM_remove_9 : decode b_KM_remove 9 = .ok (.invokevirtual 74, 3) := by decide +kernel
theorem q_768 : Cond.methodLink "TwinKeepers$KeyMap" 74 ⟨"TwinKeepers$KeyMap", "tellValue", "(ILTwinKeepers$Row;)V"⟩ ∈ xT := xin 768 (by decide +kernel) (by decide +kernel)
theorem d_KM_remove_12 : decode b_KM_remove 12 = .ok (.iload_n 3, 1) := by decide +kernel
theorem d_KM_remove_13 : decode b_KM_remove 13 = .ok (.iconst (-1), 1) := by decide +kernel
theorem d_KM_remove_14 : decode b_KM_remove 14 = .ok (.if_icmp .eq 35, 3) := by decide +kernel
theorem d_KM_remove_17 : decode b_KM_remove 17 = .ok (.aload_n 0, 1) := by decide +kernel
theorem d_KM_remove_18 : decode b_KM_remove 18 = .ok (.dup, 1) := by decide +kernel
theorem d_KM_remove_19 : decode b_KM_remove 19 = .ok (.getfield 18, 3) := by decide +kernel
theorem d_KM_remove_22 : decode b_KM_remove 22 = .ok (.aload_n 0, 1) := by decide +kernel
theorem d_KM_remove_23 : decode b_KM_remove 23 = .ok (.getfield 12, 3) := by decide +kernel
theorem d_KM_remove_26 : decode b_KM_remove 26 = .ok (.iload_n 3, 1) := by decide +kernel
theorem d_KM_remove_27 : decode b_KM_remove 27 = .ok (.invokevirtual 26, 3) := by decide +kernel
theorem d_KM_remove_30 : decode b_KM_remove 30 = .ok (.checkcast 30, 3) := by decide +kernel
theorem d_KM_remove_33 : decode b_KM_remove 33 = .ok (.invokevirtual 78, 3) := by decide +kernel
theorem d_KM_remove_36 : decode b_KM_remove 36 = .ok (.isub, 1) := by decide +kernel
theorem d_KM_remove_37 : decode b_KM_remove 37 = .ok (.putfield 18, 3) := by decide +kernel
theorem d_KM_remove_40 : decode b_KM_remove 40 = .ok (.aload_n 0, 1) := by decide +kernel
theorem d_KM_remove_41 : decode b_KM_remove 41 = .ok (.getfield 12, 3) := by decide +kernel
theorem d_KM_remove_44 : decode b_KM_remove 44 = .ok (.iload_n 3, 1) := by decide +kernel
theorem d_KM_remove_45 : decode b_KM_remove 45 = .ok (.invokevirtual 80, 3) := by decide +kernel
theorem q_772 : Cond.methodLink "TwinKeepers$KeyMap" 80 ⟨"java/util/ArrayList", "remove", "(I)Ljava/lang/Object;"⟩ ∈ xT := xin 772 (by decide +kernel) (by decide +kernel)
theorem d_KM_remove_48 : decode b_KM_remove 48 = .ok (.pop, 1) := by decide +kernel
theorem d_KM_remove_49 : decode b_KM_remove 49 = .ok (.return_, 1) := by decide +kernel
abbrev b_KM_tellValue : ByteArray := prog_3_method_9_code
def y_KM_tellValue : MethodName := ⟨"TwinKeepers$KeyMap", "tellValue", "(ILTwinKeepers$Row;)V"⟩
theorem kc_KM_tellValue : Cond.code y_KM_tellValue b_KM_tellValue 3 none ∈ xT := xin 771 (by decide +kernel) (by decide +kernel)
theorem k_KM_tellValue : xCode y_KM_tellValue b_KM_tellValue 3 none [] := Or.inl ⟨rfl, kc_KM_tellValue⟩
theorem h_KM_tellValue : plainFor y_KM_tellValue = true ∧ (y_KM_tellValue.cls ≠ "java/lang/invoke/MethodHandle" ∧ y_KM_tellValue.cls ≠ "java/lang/invoke/VarHandle") ∧ (parseMethodDescriptor y_KM_tellValue.desc).map (fun d => d.parameters.length) = some 2 := by decide +kernel
theorem v_KM_tellValue : Cond.instanceMethod y_KM_tellValue ∈ xT := xin 770 (by decide +kernel) (by decide +kernel)
theorem e_KM_tellValue : Cond.selects "TwinKeepers$KeyMap" y_KM_tellValue y_KM_tellValue ∈ xT := xinp 14 (by decide +kernel) (by decide +kernel)
theorem d_KM_tellValue_0 : decode b_KM_tellValue 0 = .ok (.iload_n 1, 1) := by decide +kernel
theorem d_KM_tellValue_1 : decode b_KM_tellValue 1 = .ok (.iconst (-1), 1) := by decide +kernel
theorem d_KM_tellValue_2 : decode b_KM_tellValue 2 = .ok (.if_icmp .ne 10, 3) := by decide +kernel
theorem d_KM_tellValue_5 : decode b_KM_tellValue 5 = .ok (.aload_n 2, 1) := by decide +kernel
theorem d_KM_tellValue_6 : decode b_KM_tellValue 6 = .ok (.iconst 0, 1) := by decide +kernel
theorem d_KM_tellValue_7 : decode b_KM_tellValue 7 = .ok (.iconst 1, 1) := by decide +kernel
theorem d_KM_tellValue_8 : decode b_KM_tellValue 8 = .ok (.invokevirtual 61, 3) := by decide +kernel
theorem d_KM_tellValue_11 : decode b_KM_tellValue 11 = .ok (.return_, 1) := by decide +kernel
theorem d_KM_tellValue_12 : decode b_KM_tellValue 12 = .ok (.aload_n 2, 1) := by decide +kernel
theorem d_KM_tellValue_13 : decode b_KM_tellValue 13 = .ok (.iconst 1, 1) := by decide +kernel
theorem d_KM_tellValue_14 : decode b_KM_tellValue 14 = .ok (.iconst 1, 1) := by decide +kernel
theorem d_KM_tellValue_15 : decode b_KM_tellValue 15 = .ok (.invokevirtual 61, 3) := by decide +kernel
theorem d_KM_tellValue_18 : decode b_KM_tellValue 18 = .ok (.aload_n 2, 1) := by decide +kernel
theorem d_KM_tellValue_19 : decode b_KM_tellValue 19 = .ok (.aload_n 0, 1) := by decide +kernel
theorem d_KM_tellValue_20 : decode b_KM_tellValue 20 = .ok (.getfield 12, 3) := by decide +kernel
theorem d_KM_tellValue_23 : decode b_KM_tellValue 23 = .ok (.iload_n 1, 1) := by decide +kernel
theorem d_KM_tellValue_24 : decode b_KM_tellValue 24 = .ok (.invokevirtual 26, 3) := by decide +kernel
theorem d_KM_tellValue_27 : decode b_KM_tellValue 27 = .ok (.checkcast 30, 3) := by decide +kernel
theorem d_KM_tellValue_30 : decode b_KM_tellValue 30 = .ok (.getfield 48, 3) := by decide +kernel
theorem d_KM_tellValue_33 : decode b_KM_tellValue 33 = .ok (.invokevirtual 67, 3) := by decide +kernel
theorem d_KM_tellValue_36 : decode b_KM_tellValue 36 = .ok (.return_, 1) := by decide +kernel
abbrev b_Ro_copied : ByteArray := prog_5_method_5_code
def y_Ro_copied : MethodName := ⟨"TwinKeepers$Row", "copied", "()[B"⟩
theorem kc_Ro_copied : Cond.code y_Ro_copied b_Ro_copied 1 (some (.array .byte)) ∈ xT := xin 776 (by decide +kernel) (by decide +kernel)
theorem k_Ro_copied : xCode y_Ro_copied b_Ro_copied 1 (some (.array .byte)) [] := Or.inl ⟨rfl, kc_Ro_copied⟩
theorem h_Ro_copied : plainFor y_Ro_copied = true ∧ (y_Ro_copied.cls ≠ "java/lang/invoke/MethodHandle" ∧ y_Ro_copied.cls ≠ "java/lang/invoke/VarHandle") ∧ (parseMethodDescriptor y_Ro_copied.desc).map (fun d => d.parameters.length) = some 0 := by decide +kernel
theorem v_Ro_copied : Cond.instanceMethod y_Ro_copied ∈ xT := xin 774 (by decide +kernel) (by decide +kernel)
theorem e_Ro_copied : Cond.selects "TwinKeepers$Row" y_Ro_copied y_Ro_copied ∈ xT := xin 775 (by decide +kernel) (by decide +kernel)
theorem d_Ro_copied_0 : decode b_Ro_copied 0 = .ok (.aload_n 0, 1) := by decide +kernel
theorem d_Ro_copied_1 : decode b_Ro_copied 1 = .ok (.getfield 9, 3) := by decide +kernel
theorem d_Ro_copied_4 : decode b_Ro_copied 4 = .ok (.aload_n 0, 1) := by decide +kernel
theorem d_Ro_copied_5 : decode b_Ro_copied 5 = .ok (.getfield 13, 3) := by decide +kernel
theorem d_Ro_copied_8 : decode b_Ro_copied 8 = .ok (.invokestatic 21, 3) := by decide +kernel
theorem d_Ro_copied_11 : decode b_Ro_copied 11 = .ok (.areturn, 1) := by decide +kernel
abbrev b_Se_answered : ByteArray := prog_6_method_3_code
def y_Se_answered : MethodName := ⟨"TwinKeepers$Session", "answered", "(II[B)LTwinKeepers$Session;"⟩
theorem kc_Se_answered : Cond.code y_Se_answered b_Se_answered 4 (some (.object "TwinKeepers$Session")) ∈ xT := xin 780 (by decide +kernel) (by decide +kernel)
theorem k_Se_answered : xCode y_Se_answered b_Se_answered 4 (some (.object "TwinKeepers$Session")) [] := Or.inl ⟨rfl, kc_Se_answered⟩
theorem h_Se_answered : plainFor y_Se_answered = true ∧ (y_Se_answered.cls ≠ "java/lang/invoke/MethodHandle" ∧ y_Se_answered.cls ≠ "java/lang/invoke/VarHandle") ∧ (parseMethodDescriptor y_Se_answered.desc).map (fun d => d.parameters.length) = some 3 := by decide +kernel
theorem v_Se_answered : Cond.instanceMethod y_Se_answered ∈ xT := xin 778 (by decide +kernel) (by decide +kernel)
theorem e_Se_answered : Cond.selects "TwinKeepers$Session" y_Se_answered y_Se_answered ∈ xT := xin 779 (by decide +kernel) (by decide +kernel)
theorem d_Se_answered_0 : decode b_Se_answered 0 = .ok (.new 8, 3) := by decide +kernel
theorem d_Se_answered_3 : decode b_Se_answered 3 = .ok (.dup, 1) := by decide +kernel
theorem d_Se_answered_4 : decode b_Se_answered 4 = .ok (.aload_n 0, 1) := by decide +kernel
theorem d_Se_answered_5 : decode b_Se_answered 5 = .ok (.getfield 7, 3) := by decide +kernel
theorem d_Se_answered_8 : decode b_Se_answered 8 = .ok (.iload_n 2, 1) := by decide +kernel
theorem d_Se_answered_9 : decode b_Se_answered 9 = .ok (.iload_n 1, 1) := by decide +kernel
theorem d_Se_answered_10 : decode b_Se_answered 10 = .ok (.iload_n 2, 1) := by decide +kernel
theorem d_Se_answered_11 : decode b_Se_answered 11 = .ok (.aload_n 3, 1) := by decide +kernel
theorem d_Se_answered_12 : decode b_Se_answered 12 = .ok (.invokespecial 26, 3) := by decide +kernel
theorem d_Se_answered_15 : decode b_Se_answered 15 = .ok (.areturn, 1) := by decide +kernel
abbrev b_TK_read : ByteArray := prog_1_method_5_code
def y_TK_read : MethodName := ⟨"TwinKeepers", "read", "(II)I"⟩
theorem kc_TK_read : Cond.code y_TK_read b_TK_read 5 (some .int) ∈ xT := xin 787 (by decide +kernel) (by decide +kernel)
theorem k_TK_read : xCode y_TK_read b_TK_read 5 (some .int) [] := Or.inl ⟨rfl, kc_TK_read⟩
theorem h_TK_read : plainFor y_TK_read = true ∧ (y_TK_read.cls ≠ "java/lang/invoke/MethodHandle" ∧ y_TK_read.cls ≠ "java/lang/invoke/VarHandle") ∧ (parseMethodDescriptor y_TK_read.desc).map (fun d => d.parameters.length) = some 2 := by decide +kernel
theorem v_TK_read : Cond.instanceMethod y_TK_read ∈ xT := xin 785 (by decide +kernel) (by decide +kernel)
theorem e_TK_read : Cond.selects "TwinKeepers" y_TK_read y_TK_read ∈ xT := xin 786 (by decide +kernel) (by decide +kernel)
theorem d_TK_read_0 : decode b_TK_read 0 = .ok (.aload_n 0, 1) := by decide +kernel
theorem d_TK_read_1 : decode b_TK_read 1 = .ok (.invokevirtual 73, 3) := by decide +kernel
theorem d_TK_read_4 : decode b_TK_read 4 = .ok (.istore_n 3, 1) := by decide +kernel
theorem d_TK_read_5 : decode b_TK_read 5 = .ok (.aload_n 0, 1) := by decide +kernel
theorem d_TK_read_6 : decode b_TK_read 6 = .ok (.iload_n 1, 1) := by decide +kernel
theorem d_TK_read_7 : decode b_TK_read 7 = .ok (.invokevirtual 49, 3) := by decide +kernel
theorem d_TK_read_10 : decode b_TK_read 10 = .ok (.astore 4, 2) := by decide +kernel
theorem d_TK_read_12 : decode b_TK_read 12 = .ok (.iload_n 2, 1) := by decide +kernel
theorem d_TK_read_13 : decode b_TK_read 13 = .ok (.iload_n 3, 1) := by decide +kernel
theorem d_TK_read_14 : decode b_TK_read 14 = .ok (.invokestatic 135, 3) := by decide +kernel
theorem q_788 : Cond.methodLink "TwinKeepers" 135 ⟨"TwinKeepers", "isReading", "(II)Z"⟩ ∈ xT := xin 788 (by decide +kernel) (by decide +kernel)
theorem d_TK_read_17 : decode b_TK_read 17 = .ok (.ifCond .ne 13, 3) := by decide +kernel
theorem d_TK_read_20 : decode b_TK_read 20 = .ok (.new 37, 3) := by decide +kernel
theorem d_TK_read_23 : decode b_TK_read 23 = .ok (.dup, 1) := by decide +kernel
theorem d_TK_read_24 : decode b_TK_read 24 = .ok (.ldc 138, 2) := by decide +kernel
theorem d_TK_read_26 : decode b_TK_read 26 = .ok (.invokespecial 41, 3) := by decide +kernel
theorem d_TK_read_29 : decode b_TK_read 29 = .ok (.athrow, 1) := by decide +kernel
theorem d_TK_read_30 : decode b_TK_read 30 = .ok (.aload_n 0, 1) := by decide +kernel
theorem d_TK_read_31 : decode b_TK_read 31 = .ok (.getfield 26, 3) := by decide +kernel
theorem d_TK_read_34 : decode b_TK_read 34 = .ok (.invokevirtual 85, 3) := by decide +kernel
theorem d_TK_read_37 : decode b_TK_read 37 = .ok (.aload_n 0, 1) := by decide +kernel
theorem d_TK_read_38 : decode b_TK_read 38 = .ok (.aload 4, 2) := by decide +kernel
theorem d_TK_read_40 : decode b_TK_read 40 = .ok (.getfield 119, 3) := by decide +kernel
theorem d_TK_read_43 : decode b_TK_read 43 = .ok (.iload_n 2, 1) := by decide +kernel
theorem d_TK_read_44 : decode b_TK_read 44 = .ok (.iload_n 3, 1) := by decide +kernel
theorem d_TK_read_45 : decode b_TK_read 45 = .ok (.invokevirtual 140, 3) := by decide +kernel
theorem q_795 : Cond.methodLink "TwinKeepers" 140 ⟨"TwinKeepers", "look", "(LTwinKeepers$KeyMap;II)V"⟩ ∈ xT := xin 795 (by decide +kernel) (by decide +kernel)
theorem d_TK_read_48 : decode b_TK_read 48 = .ok (.aload_n 0, 1) := by decide +kernel
theorem d_TK_read_49 : decode b_TK_read 49 = .ok (.getfield 26, 3) := by decide +kernel
theorem d_TK_read_52 : decode b_TK_read 52 = .ok (.getfield 143, 3) := by decide +kernel
theorem q_110 : Cond.fieldLink "TwinKeepers" 143 "TwinKeepers$Row" "size" "I" ∈ xT := xin 110 (by decide +kernel) (by decide +kernel)
theorem d_TK_read_55 : decode b_TK_read 55 = .ok (.ireturn, 1) := by decide +kernel
abbrev b_TK_isReading : ByteArray := prog_1_method_23_code
def y_TK_isReading : MethodName := ⟨"TwinKeepers", "isReading", "(II)Z"⟩
theorem kc_TK_isReading : Cond.code y_TK_isReading b_TK_isReading 4 (some .boolean) ∈ xT := xin 790 (by decide +kernel) (by decide +kernel)
theorem k_TK_isReading : xCode y_TK_isReading b_TK_isReading 4 (some .boolean) [] := Or.inl ⟨rfl, kc_TK_isReading⟩
theorem h_TK_isReading : plainFor y_TK_isReading = true ∧ (y_TK_isReading.cls ≠ "java/lang/invoke/MethodHandle" ∧ y_TK_isReading.cls ≠ "java/lang/invoke/VarHandle") ∧ (parseMethodDescriptor y_TK_isReading.desc).map (fun d => d.parameters.length) = some 2 := by decide +kernel
theorem s_TK_isReading : Cond.static y_TK_isReading ∈ xT := xin 789 (by decide +kernel) (by decide +kernel)
theorem in_TK_isReading : Cond.initialized y_TK_isReading.cls ∈ xT := xin 1 (by decide +kernel) (by decide +kernel)
theorem d_TK_isReading_0 : decode b_TK_isReading 0 = .ok (.iload_n 0, 1) := by decide +kernel
theorem d_TK_isReading_1 : decode b_TK_isReading 1 = .ok (.invokestatic 211, 3) := by decide +kernel
theorem d_TK_isReading_4 : decode b_TK_isReading 4 = .ok (.istore_n 2, 1) := by decide +kernel
theorem d_TK_isReading_5 : decode b_TK_isReading 5 = .ok (.iload_n 0, 1) := by decide +kernel
theorem d_TK_isReading_6 : decode b_TK_isReading 6 = .ok (.ifCond .lt 13, 3) := by decide +kernel
theorem d_TK_isReading_9 : decode b_TK_isReading 9 = .ok (.iload_n 2, 1) := by decide +kernel
theorem d_TK_isReading_10 : decode b_TK_isReading 10 = .ok (.iconst 3, 1) := by decide +kernel
theorem d_TK_isReading_11 : decode b_TK_isReading 11 = .ok (.if_icmp .lt 8, 3) := by decide +kernel
theorem d_TK_isReading_14 : decode b_TK_isReading 14 = .ok (.iload_n 2, 1) := by decide +kernel
theorem d_TK_isReading_15 : decode b_TK_isReading 15 = .ok (.iconst 5, 1) := by decide +kernel
theorem d_TK_isReading_16 : decode b_TK_isReading 16 = .ok (.if_icmp .le 5, 3) := by decide +kernel
theorem d_TK_isReading_19 : decode b_TK_isReading 19 = .ok (.iconst 0, 1) := by decide +kernel
theorem d_TK_isReading_20 : decode b_TK_isReading 20 = .ok (.ireturn, 1) := by decide +kernel
theorem d_TK_isReading_21 : decode b_TK_isReading 21 = .ok (.iload_n 1, 1) := by decide +kernel
theorem d_TK_isReading_22 : decode b_TK_isReading 22 = .ok (.iload_n 0, 1) := by decide +kernel
theorem d_TK_isReading_23 : decode b_TK_isReading 23 = .ok (.invokestatic 226, 3) := by decide +kernel
theorem q_791 : Cond.methodLink "TwinKeepers" 226 ⟨"TwinKeepers", "readingKeySize", "(I)I"⟩ ∈ xT := xin 791 (by decide +kernel) (by decide +kernel)
theorem d_TK_isReading_26 : decode b_TK_isReading 26 = .ok (.isub, 1) := by decide +kernel
theorem d_TK_isReading_27 : decode b_TK_isReading 27 = .ok (.istore_n 3, 1) := by decide +kernel
theorem d_TK_isReading_28 : decode b_TK_isReading 28 = .ok (.iload_n 0, 1) := by decide +kernel
theorem d_TK_isReading_29 : decode b_TK_isReading 29 = .ok (.invokestatic 226, 3) := by decide +kernel
theorem d_TK_isReading_32 : decode b_TK_isReading 32 = .ok (.invokestatic 220, 3) := by decide +kernel
theorem d_TK_isReading_35 : decode b_TK_isReading 35 = .ok (.ifCond .eq 26, 3) := by decide +kernel
theorem d_TK_isReading_38 : decode b_TK_isReading 38 = .ok (.iload_n 2, 1) := by decide +kernel
theorem d_TK_isReading_39 : decode b_TK_isReading 39 = .ok (.iconst 4, 1) := by decide +kernel
theorem d_TK_isReading_40 : decode b_TK_isReading 40 = .ok (.if_icmp .ne 13, 3) := by decide +kernel
theorem d_TK_isReading_43 : decode b_TK_isReading 43 = .ok (.iload_n 3, 1) := by decide +kernel
theorem d_TK_isReading_44 : decode b_TK_isReading 44 = .ok (.invokestatic 220, 3) := by decide +kernel
theorem d_TK_isReading_47 : decode b_TK_isReading 47 = .ok (.ifCond .eq 14, 3) := by decide +kernel
theorem d_TK_isReading_50 : decode b_TK_isReading 50 = .ok (.goto 7, 3) := by decide +kernel
theorem d_TK_isReading_53 : decode b_TK_isReading 53 = .ok (.iload_n 3, 1) := by decide +kernel
theorem d_TK_isReading_54 : decode b_TK_isReading 54 = .ok (.ifCond .ne 7, 3) := by decide +kernel
theorem d_TK_isReading_57 : decode b_TK_isReading 57 = .ok (.iconst 1, 1) := by decide +kernel
theorem d_TK_isReading_58 : decode b_TK_isReading 58 = .ok (.goto 4, 3) := by decide +kernel
theorem d_TK_isReading_61 : decode b_TK_isReading 61 = .ok (.iconst 0, 1) := by decide +kernel
theorem d_TK_isReading_62 : decode b_TK_isReading 62 = .ok (.ireturn, 1) := by decide +kernel
abbrev b_TK_readingKeySize : ByteArray := prog_1_method_19_code
def y_TK_readingKeySize : MethodName := ⟨"TwinKeepers", "readingKeySize", "(I)I"⟩
theorem kc_TK_readingKeySize : Cond.code y_TK_readingKeySize b_TK_readingKeySize 1 (some .int) ∈ xT := xin 793 (by decide +kernel) (by decide +kernel)
theorem k_TK_readingKeySize : xCode y_TK_readingKeySize b_TK_readingKeySize 1 (some .int) [] := Or.inl ⟨rfl, kc_TK_readingKeySize⟩
theorem h_TK_readingKeySize : plainFor y_TK_readingKeySize = true ∧ (y_TK_readingKeySize.cls ≠ "java/lang/invoke/MethodHandle" ∧ y_TK_readingKeySize.cls ≠ "java/lang/invoke/VarHandle") ∧ (parseMethodDescriptor y_TK_readingKeySize.desc).map (fun d => d.parameters.length) = some 1 := by decide +kernel
theorem s_TK_readingKeySize : Cond.static y_TK_readingKeySize ∈ xT := xin 792 (by decide +kernel) (by decide +kernel)
theorem in_TK_readingKeySize : Cond.initialized y_TK_readingKeySize.cls ∈ xT := xin 1 (by decide +kernel) (by decide +kernel)
theorem d_TK_readingKeySize_0 : decode b_TK_readingKeySize 0 = .ok (.iload_n 0, 1) := by decide +kernel
theorem d_TK_readingKeySize_1 : decode b_TK_readingKeySize 1 = .ok (.iconst 3, 1) := by decide +kernel
theorem d_TK_readingKeySize_2 : decode b_TK_readingKeySize 2 = .ok (.ishr, 1) := by decide +kernel
theorem d_TK_readingKeySize_3 : decode b_TK_readingKeySize 3 = .ok (.ireturn, 1) := by decide +kernel
abbrev b_TK_look : ByteArray := prog_1_method_25_code
def y_TK_look : MethodName := ⟨"TwinKeepers", "look", "(LTwinKeepers$KeyMap;II)V"⟩
theorem kc_TK_look : Cond.code y_TK_look b_TK_look 6 none ∈ xT := xin 798 (by decide +kernel) (by decide +kernel)
theorem k_TK_look : xCode y_TK_look b_TK_look 6 none [] := Or.inl ⟨rfl, kc_TK_look⟩
theorem h_TK_look : plainFor y_TK_look = true ∧ (y_TK_look.cls ≠ "java/lang/invoke/MethodHandle" ∧ y_TK_look.cls ≠ "java/lang/invoke/VarHandle") ∧ (parseMethodDescriptor y_TK_look.desc).map (fun d => d.parameters.length) = some 3 := by decide +kernel
theorem v_TK_look : Cond.instanceMethod y_TK_look ∈ xT := xin 797 (by decide +kernel) (by decide +kernel)
theorem e_TK_look : Cond.selects "TwinKeepers" y_TK_look y_TK_look ∈ xT := xinp 15 (by decide +kernel) (by decide +kernel)
theorem d_TK_look_0 : decode b_TK_look 0 = .ok (.iload_n 2, 1) := by decide +kernel
theorem d_TK_look_1 : decode b_TK_look 1 = .ok (.invokestatic 226, 3) := by decide +kernel
theorem d_TK_look_4 : decode b_TK_look 4 = .ok (.istore 4, 2) := by decide +kernel
theorem d_TK_look_6 : decode b_TK_look 6 = .ok (.aload_n 0, 1) := by decide +kernel
theorem d_TK_look_7 : decode b_TK_look 7 = .ok (.getfield 19, 3) := by decide +kernel
theorem d_TK_look_10 : decode b_TK_look 10 = .ok (.iconst 0, 1) := by decide +kernel
theorem d_TK_look_11 : decode b_TK_look 11 = .ok (.iload 4, 2) := by decide +kernel
theorem d_TK_look_13 : decode b_TK_look 13 = .ok (.invokestatic 229, 3) := by decide +kernel
theorem d_TK_look_16 : decode b_TK_look 16 = .ok (.astore 5, 2) := by decide +kernel
theorem d_TK_look_18 : decode b_TK_look 18 = .ok (.iload_n 2, 1) := by decide +kernel
theorem d_TK_look_19 : decode b_TK_look 19 = .ok (.invokestatic 211, 3) := by decide +kernel
theorem d_TK_look_22 : decode b_TK_look 22 = .ok (.lookupswitch 62 #[(3, 26), (4, 39)], 26) := by decide +kernel
theorem d_TK_look_48 : decode b_TK_look 48 = .ok (.aload_n 1, 1) := by decide +kernel
theorem d_TK_look_49 : decode b_TK_look 49 = .ok (.aload 5, 2) := by decide +kernel
theorem d_TK_look_51 : decode b_TK_look 51 = .ok (.aload_n 0, 1) := by decide +kernel
theorem d_TK_look_52 : decode b_TK_look 52 = .ok (.getfield 26, 3) := by decide +kernel
theorem d_TK_look_55 : decode b_TK_look 55 = .ok (.invokevirtual 247, 3) := by decide +kernel
theorem q_799 : Cond.methodLink "TwinKeepers" 247 ⟨"TwinKeepers$KeyMap", "get", "([BLTwinKeepers$Row;)V"⟩ ∈ xT := xin 799 (by decide +kernel) (by decide +kernel)
theorem d_TK_look_58 : decode b_TK_look 58 = .ok (.goto 36, 3) := by decide +kernel
theorem d_TK_look_61 : decode b_TK_look 61 = .ok (.aload_n 1, 1) := by decide +kernel
theorem d_TK_look_62 : decode b_TK_look 62 = .ok (.aload 5, 2) := by decide +kernel
theorem d_TK_look_64 : decode b_TK_look 64 = .ok (.aload_n 0, 1) := by decide +kernel
theorem d_TK_look_65 : decode b_TK_look 65 = .ok (.getfield 19, 3) := by decide +kernel
theorem d_TK_look_68 : decode b_TK_look 68 = .ok (.iload 4, 2) := by decide +kernel
theorem d_TK_look_70 : decode b_TK_look 70 = .ok (.iload_n 3, 1) := by decide +kernel
theorem d_TK_look_71 : decode b_TK_look 71 = .ok (.invokestatic 229, 3) := by decide +kernel
theorem d_TK_look_74 : decode b_TK_look 74 = .ok (.aload_n 0, 1) := by decide +kernel
theorem d_TK_look_75 : decode b_TK_look 75 = .ok (.getfield 26, 3) := by decide +kernel
theorem d_TK_look_78 : decode b_TK_look 78 = .ok (.invokevirtual 249, 3) := by decide +kernel
theorem q_803 : Cond.methodLink "TwinKeepers" 249 ⟨"TwinKeepers$KeyMap", "count", "([B[BLTwinKeepers$Row;)V"⟩ ∈ xT := xin 803 (by decide +kernel) (by decide +kernel)
theorem d_TK_look_81 : decode b_TK_look 81 = .ok (.goto 13, 3) := by decide +kernel
theorem d_TK_look_84 : decode b_TK_look 84 = .ok (.aload_n 1, 1) := by decide +kernel
theorem d_TK_look_85 : decode b_TK_look 85 = .ok (.aload 5, 2) := by decide +kernel
theorem d_TK_look_87 : decode b_TK_look 87 = .ok (.aload_n 0, 1) := by decide +kernel
theorem d_TK_look_88 : decode b_TK_look 88 = .ok (.getfield 26, 3) := by decide +kernel
theorem d_TK_look_91 : decode b_TK_look 91 = .ok (.invokevirtual 252, 3) := by decide +kernel
theorem q_808 : Cond.methodLink "TwinKeepers" 252 ⟨"TwinKeepers$KeyMap", "next", "([BLTwinKeepers$Row;)V"⟩ ∈ xT := xin 808 (by decide +kernel) (by decide +kernel)
theorem d_TK_look_94 : decode b_TK_look 94 = .ok (.return_, 1) := by decide +kernel
abbrev b_KM_get : ByteArray := prog_3_method_8_code
def y_KM_get : MethodName := ⟨"TwinKeepers$KeyMap", "get", "([BLTwinKeepers$Row;)V"⟩
theorem kc_KM_get : Cond.code y_KM_get b_KM_get 3 none ∈ xT := xin 802 (by decide +kernel) (by decide +kernel)
theorem k_KM_get : xCode y_KM_get b_KM_get 3 none [] := Or.inl ⟨rfl, kc_KM_get⟩
theorem h_KM_get : plainFor y_KM_get = true ∧ (y_KM_get.cls ≠ "java/lang/invoke/MethodHandle" ∧ y_KM_get.cls ≠ "java/lang/invoke/VarHandle") ∧ (parseMethodDescriptor y_KM_get.desc).map (fun d => d.parameters.length) = some 2 := by decide +kernel
theorem v_KM_get : Cond.instanceMethod y_KM_get ∈ xT := xin 800 (by decide +kernel) (by decide +kernel)
theorem e_KM_get : Cond.selects "TwinKeepers$KeyMap" y_KM_get y_KM_get ∈ xT := xin 801 (by decide +kernel) (by decide +kernel)
theorem d_KM_get_0 : decode b_KM_get 0 = .ok (.aload_n 0, 1) := by decide +kernel
theorem d_KM_get_1 : decode b_KM_get 1 = .ok (.aload_n 0, 1) := by decide +kernel
theorem d_KM_get_2 : decode b_KM_get 2 = .ok (.aload_n 1, 1) := by decide +kernel
theorem d_KM_get_3 : decode b_KM_get 3 = .ok (.invokevirtual 71, 3) := by decide +kernel
theorem d_KM_get_6 : decode b_KM_get 6 = .ok (.aload_n 2, 1) := by decide +kernel
theorem d_KM_get_7 : decode b_KM_get 7 = .ok (.invokevirtual 74, 3) := by decide +kernel
theorem d_KM_get_10 : decode b_KM_get 10 = .ok (.return_, 1) := by decide +kernel
abbrev b_KM_count : ByteArray := prog_3_method_10_code
def y_KM_count : MethodName := ⟨"TwinKeepers$KeyMap", "count", "([B[BLTwinKeepers$Row;)V"⟩
theorem kc_KM_count : Cond.code y_KM_count b_KM_count 4 none ∈ xT := xin 806 (by decide +kernel) (by decide +kernel)
theorem k_KM_count : xCode y_KM_count b_KM_count 4 none [] := Or.inl ⟨rfl, kc_KM_count⟩
theorem h_KM_count : plainFor y_KM_count = true ∧ (y_KM_count.cls ≠ "java/lang/invoke/MethodHandle" ∧ y_KM_count.cls ≠ "java/lang/invoke/VarHandle") ∧ (parseMethodDescriptor y_KM_count.desc).map (fun d => d.parameters.length) = some 3 := by decide +kernel
theorem v_KM_count : Cond.instanceMethod y_KM_count ∈ xT := xin 804 (by decide +kernel) (by decide +kernel)
theorem e_KM_count : Cond.selects "TwinKeepers$KeyMap" y_KM_count y_KM_count ∈ xT := xin 805 (by decide +kernel) (by decide +kernel)
theorem d_KM_count_0 : decode b_KM_count 0 = .ok (.aload_n 3, 1) := by decide +kernel
theorem d_KM_count_1 : decode b_KM_count 1 = .ok (.iconst 0, 1) := by decide +kernel
theorem d_KM_count_2 : decode b_KM_count 2 = .ok (.aload_n 0, 1) := by decide +kernel
theorem d_KM_count_3 : decode b_KM_count 3 = .ok (.aload_n 2, 1) := by decide +kernel
theorem d_KM_count_4 : decode b_KM_count 4 = .ok (.invokevirtual 40, 3) := by decide +kernel
theorem d_KM_count_7 : decode b_KM_count 7 = .ok (.aload_n 0, 1) := by decide +kernel
theorem d_KM_count_8 : decode b_KM_count 8 = .ok (.aload_n 1, 1) := by decide +kernel
theorem d_KM_count_9 : decode b_KM_count 9 = .ok (.invokevirtual 40, 3) := by decide +kernel
theorem d_KM_count_12 : decode b_KM_count 12 = .ok (.isub, 1) := by decide +kernel
theorem d_KM_count_13 : decode b_KM_count 13 = .ok (.invokestatic 83, 3) := by decide +kernel
theorem q_807 : Cond.methodLink "TwinKeepers$KeyMap" 83 ⟨"java/lang/Math", "max", "(II)I"⟩ ∈ xT := xin 807 (by decide +kernel) (by decide +kernel)
theorem d_KM_count_16 : decode b_KM_count 16 = .ok (.iconst 2, 1) := by decide +kernel
theorem d_KM_count_17 : decode b_KM_count 17 = .ok (.invokevirtual 61, 3) := by decide +kernel
theorem d_KM_count_20 : decode b_KM_count 20 = .ok (.return_, 1) := by decide +kernel
abbrev b_KM_next : ByteArray := prog_3_method_11_code
def y_KM_next : MethodName := ⟨"TwinKeepers$KeyMap", "next", "([BLTwinKeepers$Row;)V"⟩
theorem kc_KM_next : Cond.code y_KM_next b_KM_next 5 none ∈ xT := xin 811 (by decide +kernel) (by decide +kernel)
theorem k_KM_next : xCode y_KM_next b_KM_next 5 none [] := Or.inl ⟨rfl, kc_KM_next⟩
theorem h_KM_next : plainFor y_KM_next = true ∧ (y_KM_next.cls ≠ "java/lang/invoke/MethodHandle" ∧ y_KM_next.cls ≠ "java/lang/invoke/VarHandle") ∧ (parseMethodDescriptor y_KM_next.desc).map (fun d => d.parameters.length) = some 2 := by decide +kernel
theorem v_KM_next : Cond.instanceMethod y_KM_next ∈ xT := xin 809 (by decide +kernel) (by decide +kernel)
theorem e_KM_next : Cond.selects "TwinKeepers$KeyMap" y_KM_next y_KM_next ∈ xT := xin 810 (by decide +kernel) (by decide +kernel)
theorem d_KM_next_0 : decode b_KM_next 0 = .ok (.aload_n 0, 1) := by decide +kernel
theorem d_KM_next_1 : decode b_KM_next 1 = .ok (.aload_n 1, 1) := by decide +kernel
theorem d_KM_next_2 : decode b_KM_next 2 = .ok (.invokevirtual 40, 3) := by decide +kernel
theorem d_KM_next_5 : decode b_KM_next 5 = .ok (.istore_n 3, 1) := by decide +kernel
theorem d_KM_next_6 : decode b_KM_next 6 = .ok (.iload_n 3, 1) := by decide +kernel
theorem d_KM_next_7 : decode b_KM_next 7 = .ok (.aload_n 0, 1) := by decide +kernel
theorem d_KM_next_8 : decode b_KM_next 8 = .ok (.getfield 12, 3) := by decide +kernel
theorem d_KM_next_11 : decode b_KM_next 11 = .ok (.invokevirtual 22, 3) := by decide +kernel
theorem d_KM_next_14 : decode b_KM_next 14 = .ok (.if_icmp .lt 10, 3) := by decide +kernel
theorem d_KM_next_17 : decode b_KM_next 17 = .ok (.aload_n 2, 1) := by decide +kernel
theorem d_KM_next_18 : decode b_KM_next 18 = .ok (.iconst 0, 1) := by decide +kernel
theorem d_KM_next_19 : decode b_KM_next 19 = .ok (.iconst 1, 1) := by decide +kernel
theorem d_KM_next_20 : decode b_KM_next 20 = .ok (.invokevirtual 61, 3) := by decide +kernel
theorem d_KM_next_23 : decode b_KM_next 23 = .ok (.return_, 1) := by decide +kernel
theorem d_KM_next_24 : decode b_KM_next 24 = .ok (.aload_n 0, 1) := by decide +kernel
theorem d_KM_next_25 : decode b_KM_next 25 = .ok (.getfield 12, 3) := by decide +kernel
theorem d_KM_next_28 : decode b_KM_next 28 = .ok (.iload_n 3, 1) := by decide +kernel
theorem d_KM_next_29 : decode b_KM_next 29 = .ok (.invokevirtual 26, 3) := by decide +kernel
theorem d_KM_next_32 : decode b_KM_next 32 = .ok (.checkcast 30, 3) := by decide +kernel
theorem d_KM_next_35 : decode b_KM_next 35 = .ok (.astore 4, 2) := by decide +kernel
theorem d_KM_next_37 : decode b_KM_next 37 = .ok (.aload_n 2, 1) := by decide +kernel
theorem d_KM_next_38 : decode b_KM_next 38 = .ok (.iconst 1, 1) := by decide +kernel
theorem d_KM_next_39 : decode b_KM_next 39 = .ok (.iconst 1, 1) := by decide +kernel
theorem d_KM_next_40 : decode b_KM_next 40 = .ok (.invokevirtual 61, 3) := by decide +kernel
theorem d_KM_next_43 : decode b_KM_next 43 = .ok (.aload_n 2, 1) := by decide +kernel
theorem d_KM_next_44 : decode b_KM_next 44 = .ok (.aload 4, 2) := by decide +kernel
theorem d_KM_next_46 : decode b_KM_next 46 = .ok (.getfield 32, 3) := by decide +kernel
theorem d_KM_next_49 : decode b_KM_next 49 = .ok (.arraylength, 1) := by decide +kernel
theorem d_KM_next_50 : decode b_KM_next 50 = .ok (.iconst 1, 1) := by decide +kernel
theorem d_KM_next_51 : decode b_KM_next 51 = .ok (.invokevirtual 61, 3) := by decide +kernel
theorem d_KM_next_54 : decode b_KM_next 54 = .ok (.aload_n 2, 1) := by decide +kernel
theorem d_KM_next_55 : decode b_KM_next 55 = .ok (.aload 4, 2) := by decide +kernel
theorem d_KM_next_57 : decode b_KM_next 57 = .ok (.getfield 32, 3) := by decide +kernel
theorem d_KM_next_60 : decode b_KM_next 60 = .ok (.invokevirtual 67, 3) := by decide +kernel
theorem d_KM_next_63 : decode b_KM_next 63 = .ok (.aload_n 2, 1) := by decide +kernel
theorem d_KM_next_64 : decode b_KM_next 64 = .ok (.aload 4, 2) := by decide +kernel
theorem d_KM_next_66 : decode b_KM_next 66 = .ok (.getfield 48, 3) := by decide +kernel
theorem d_KM_next_69 : decode b_KM_next 69 = .ok (.invokevirtual 67, 3) := by decide +kernel
theorem d_KM_next_72 : decode b_KM_next 72 = .ok (.return_, 1) := by decide +kernel
abbrev b_TK_row : ByteArray := prog_1_method_6_code
def y_TK_row : MethodName := ⟨"TwinKeepers", "row", "(I)I"⟩
theorem kc_TK_row : Cond.code y_TK_row b_TK_row 3 (some .int) ∈ xT := xin 818 (by decide +kernel) (by decide +kernel)
theorem k_TK_row : xCode y_TK_row b_TK_row 3 (some .int) [] := Or.inl ⟨rfl, kc_TK_row⟩
theorem h_TK_row : plainFor y_TK_row = true ∧ (y_TK_row.cls ≠ "java/lang/invoke/MethodHandle" ∧ y_TK_row.cls ≠ "java/lang/invoke/VarHandle") ∧ (parseMethodDescriptor y_TK_row.desc).map (fun d => d.parameters.length) = some 1 := by decide +kernel
theorem v_TK_row : Cond.instanceMethod y_TK_row ∈ xT := xin 816 (by decide +kernel) (by decide +kernel)
theorem e_TK_row : Cond.selects "TwinKeepers" y_TK_row y_TK_row ∈ xT := xin 817 (by decide +kernel) (by decide +kernel)
theorem d_TK_row_0 : decode b_TK_row 0 = .ok (.aload_n 0, 1) := by decide +kernel
theorem d_TK_row_1 : decode b_TK_row 1 = .ok (.iload_n 1, 1) := by decide +kernel
theorem d_TK_row_2 : decode b_TK_row 2 = .ok (.invokevirtual 49, 3) := by decide +kernel
theorem d_TK_row_5 : decode b_TK_row 5 = .ok (.astore_n 2, 1) := by decide +kernel
theorem d_TK_row_6 : decode b_TK_row 6 = .ok (.aload_n 0, 1) := by decide +kernel
theorem d_TK_row_7 : decode b_TK_row 7 = .ok (.getfield 26, 3) := by decide +kernel
theorem d_TK_row_10 : decode b_TK_row 10 = .ok (.invokevirtual 85, 3) := by decide +kernel
theorem d_TK_row_13 : decode b_TK_row 13 = .ok (.aload_n 2, 1) := by decide +kernel
theorem d_TK_row_14 : decode b_TK_row 14 = .ok (.aload_n 0, 1) := by decide +kernel
theorem d_TK_row_15 : decode b_TK_row 15 = .ok (.getfield 26, 3) := by decide +kernel
theorem d_TK_row_18 : decode b_TK_row 18 = .ok (.invokevirtual 145, 3) := by decide +kernel
theorem q_819 : Cond.methodLink "TwinKeepers" 145 ⟨"TwinKeepers$Machine", "tell", "(LTwinKeepers$Row;)V"⟩ ∈ xT := xin 819 (by decide +kernel) (by decide +kernel)
theorem d_TK_row_21 : decode b_TK_row 21 = .ok (.aload_n 0, 1) := by decide +kernel
theorem d_TK_row_22 : decode b_TK_row 22 = .ok (.getfield 26, 3) := by decide +kernel
theorem d_TK_row_25 : decode b_TK_row 25 = .ok (.getfield 143, 3) := by decide +kernel
theorem d_TK_row_28 : decode b_TK_row 28 = .ok (.ireturn, 1) := by decide +kernel
abbrev b_Ma_tell : ByteArray := prog_4_method_12_code
def y_Ma_tell : MethodName := ⟨"TwinKeepers$Machine", "tell", "(LTwinKeepers$Row;)V"⟩
theorem kc_Ma_tell : Cond.code y_Ma_tell b_Ma_tell 3 none ∈ xT := xin 822 (by decide +kernel) (by decide +kernel)
theorem k_Ma_tell : xCode y_Ma_tell b_Ma_tell 3 none [] := Or.inl ⟨rfl, kc_Ma_tell⟩
theorem h_Ma_tell : plainFor y_Ma_tell = true ∧ (y_Ma_tell.cls ≠ "java/lang/invoke/MethodHandle" ∧ y_Ma_tell.cls ≠ "java/lang/invoke/VarHandle") ∧ (parseMethodDescriptor y_Ma_tell.desc).map (fun d => d.parameters.length) = some 1 := by decide +kernel
theorem v_Ma_tell : Cond.instanceMethod y_Ma_tell ∈ xT := xin 820 (by decide +kernel) (by decide +kernel)
theorem e_Ma_tell : Cond.selects "TwinKeepers$Machine" y_Ma_tell y_Ma_tell ∈ xT := xin 821 (by decide +kernel) (by decide +kernel)
theorem d_Ma_tell_0 : decode b_Ma_tell 0 = .ok (.aload_n 1, 1) := by decide +kernel
theorem d_Ma_tell_1 : decode b_Ma_tell 1 = .ok (.aload_n 0, 1) := by decide +kernel
theorem d_Ma_tell_2 : decode b_Ma_tell 2 = .ok (.getfield 12, 3) := by decide +kernel
theorem d_Ma_tell_5 : decode b_Ma_tell 5 = .ok (.invokevirtual 30, 3) := by decide +kernel
theorem d_Ma_tell_8 : decode b_Ma_tell 8 = .ok (.iconst 4, 1) := by decide +kernel
theorem d_Ma_tell_9 : decode b_Ma_tell 9 = .ok (.invokevirtual 95, 3) := by decide +kernel
theorem q_823 : Cond.methodLink "TwinKeepers$Machine" 95 ⟨"TwinKeepers$Row", "addNumber", "(II)V"⟩ ∈ xT := xin 823 (by decide +kernel) (by decide +kernel)
theorem d_Ma_tell_12 : decode b_Ma_tell 12 = .ok (.iconst 0, 1) := by decide +kernel
theorem d_Ma_tell_13 : decode b_Ma_tell 13 = .ok (.istore_n 2, 1) := by decide +kernel
theorem d_Ma_tell_14 : decode b_Ma_tell 14 = .ok (.iload_n 2, 1) := by decide +kernel
theorem d_Ma_tell_15 : decode b_Ma_tell 15 = .ok (.aload_n 0, 1) := by decide +kernel
theorem d_Ma_tell_16 : decode b_Ma_tell 16 = .ok (.getfield 12, 3) := by decide +kernel
theorem d_Ma_tell_19 : decode b_Ma_tell 19 = .ok (.invokevirtual 30, 3) := by decide +kernel
theorem d_Ma_tell_22 : decode b_Ma_tell 22 = .ok (.if_icmp .ge 24, 3) := by decide +kernel
theorem d_Ma_tell_25 : decode b_Ma_tell 25 = .ok (.aload_n 0, 1) := by decide +kernel
theorem d_Ma_tell_26 : decode b_Ma_tell 26 = .ok (.getfield 12, 3) := by decide +kernel
theorem d_Ma_tell_29 : decode b_Ma_tell 29 = .ok (.iload_n 2, 1) := by decide +kernel
theorem d_Ma_tell_30 : decode b_Ma_tell 30 = .ok (.invokevirtual 54, 3) := by decide +kernel
theorem d_Ma_tell_33 : decode b_Ma_tell 33 = .ok (.checkcast 41, 3) := by decide +kernel
theorem d_Ma_tell_36 : decode b_Ma_tell 36 = .ok (.aload_n 1, 1) := by decide +kernel
theorem d_Ma_tell_37 : decode b_Ma_tell 37 = .ok (.invokevirtual 101, 3) := by decide +kernel
theorem q_824 : Cond.methodLink "TwinKeepers$Machine" 101 ⟨"TwinKeepers$Session", "tell", "(LTwinKeepers$Row;)V"⟩ ∈ xT := xin 824 (by decide +kernel) (by decide +kernel)
theorem d_Ma_tell_40 : decode b_Ma_tell 40 = .ok (.iinc 2 1, 3) := by decide +kernel
theorem d_Ma_tell_43 : decode b_Ma_tell 43 = .ok (.goto (-29), 3) := by decide +kernel
theorem d_Ma_tell_46 : decode b_Ma_tell 46 = .ok (.aload_n 1, 1) := by decide +kernel
theorem d_Ma_tell_47 : decode b_Ma_tell 47 = .ok (.aload_n 0, 1) := by decide +kernel
theorem d_Ma_tell_48 : decode b_Ma_tell 48 = .ok (.getfield 21, 3) := by decide +kernel
theorem d_Ma_tell_51 : decode b_Ma_tell 51 = .ok (.getfield 66, 3) := by decide +kernel
theorem q_78 : Cond.fieldLink "TwinKeepers$Machine" 66 "TwinKeepers$KeyMap" "entries" "Ljava/util/ArrayList;" ∈ xT := xin 78 (by decide +kernel) (by decide +kernel)
theorem d_Ma_tell_54 : decode b_Ma_tell 54 = .ok (.invokevirtual 30, 3) := by decide +kernel
theorem d_Ma_tell_57 : decode b_Ma_tell 57 = .ok (.iconst 4, 1) := by decide +kernel
theorem d_Ma_tell_58 : decode b_Ma_tell 58 = .ok (.invokevirtual 95, 3) := by decide +kernel
theorem d_Ma_tell_61 : decode b_Ma_tell 61 = .ok (.iconst 0, 1) := by decide +kernel
theorem d_Ma_tell_62 : decode b_Ma_tell 62 = .ok (.istore_n 2, 1) := by decide +kernel
theorem d_Ma_tell_63 : decode b_Ma_tell 63 = .ok (.iload_n 2, 1) := by decide +kernel
theorem d_Ma_tell_64 : decode b_Ma_tell 64 = .ok (.aload_n 0, 1) := by decide +kernel
theorem d_Ma_tell_65 : decode b_Ma_tell 65 = .ok (.getfield 21, 3) := by decide +kernel
theorem d_Ma_tell_68 : decode b_Ma_tell 68 = .ok (.getfield 66, 3) := by decide +kernel
theorem d_Ma_tell_71 : decode b_Ma_tell 71 = .ok (.invokevirtual 30, 3) := by decide +kernel
theorem d_Ma_tell_74 : decode b_Ma_tell 74 = .ok (.if_icmp .ge 27, 3) := by decide +kernel
theorem d_Ma_tell_77 : decode b_Ma_tell 77 = .ok (.aload_n 0, 1) := by decide +kernel
theorem d_Ma_tell_78 : decode b_Ma_tell 78 = .ok (.getfield 21, 3) := by decide +kernel
theorem d_Ma_tell_81 : decode b_Ma_tell 81 = .ok (.getfield 66, 3) := by decide +kernel
theorem d_Ma_tell_84 : decode b_Ma_tell 84 = .ok (.iload_n 2, 1) := by decide +kernel
theorem d_Ma_tell_85 : decode b_Ma_tell 85 = .ok (.invokevirtual 54, 3) := by decide +kernel
theorem d_Ma_tell_88 : decode b_Ma_tell 88 = .ok (.checkcast 75, 3) := by decide +kernel
theorem q_830 : Cond.classLink "TwinKeepers$Machine" 75 "TwinKeepers$Entry" ∈ xT := xin 830 (by decide +kernel) (by decide +kernel)
theorem d_Ma_tell_91 : decode b_Ma_tell 91 = .ok (.aload_n 1, 1) := by decide +kernel
theorem d_Ma_tell_92 : decode b_Ma_tell 92 = .ok (.invokevirtual 105, 3) := by decide +kernel
theorem q_831 : Cond.methodLink "TwinKeepers$Machine" 105 ⟨"TwinKeepers$Entry", "tell", "(LTwinKeepers$Row;)V"⟩ ∈ xT := xin 831 (by decide +kernel) (by decide +kernel)
theorem d_Ma_tell_95 : decode b_Ma_tell 95 = .ok (.iinc 2 1, 3) := by decide +kernel
theorem d_Ma_tell_98 : decode b_Ma_tell 98 = .ok (.goto (-35), 3) := by decide +kernel
theorem d_Ma_tell_101 : decode b_Ma_tell 101 = .ok (.return_, 1) := by decide +kernel
abbrev b_Se_tell : ByteArray := prog_6_method_6_code
def y_Se_tell : MethodName := ⟨"TwinKeepers$Session", "tell", "(LTwinKeepers$Row;)V"⟩
theorem kc_Se_tell : Cond.code y_Se_tell b_Se_tell 2 none ∈ xT := xin 827 (by decide +kernel) (by decide +kernel)
theorem k_Se_tell : xCode y_Se_tell b_Se_tell 2 none [] := Or.inl ⟨rfl, kc_Se_tell⟩
theorem h_Se_tell : plainFor y_Se_tell = true ∧ (y_Se_tell.cls ≠ "java/lang/invoke/MethodHandle" ∧ y_Se_tell.cls ≠ "java/lang/invoke/VarHandle") ∧ (parseMethodDescriptor y_Se_tell.desc).map (fun d => d.parameters.length) = some 1 := by decide +kernel
theorem v_Se_tell : Cond.instanceMethod y_Se_tell ∈ xT := xin 825 (by decide +kernel) (by decide +kernel)
theorem e_Se_tell : Cond.selects "TwinKeepers$Session" y_Se_tell y_Se_tell ∈ xT := xin 826 (by decide +kernel) (by decide +kernel)
theorem d_Se_tell_0 : decode b_Se_tell 0 = .ok (.aload_n 1, 1) := by decide +kernel
theorem d_Se_tell_1 : decode b_Se_tell 1 = .ok (.aload_n 0, 1) := by decide +kernel
theorem d_Se_tell_2 : decode b_Se_tell 2 = .ok (.getfield 7, 3) := by decide +kernel
theorem d_Se_tell_5 : decode b_Se_tell 5 = .ok (.iconst 4, 1) := by decide +kernel
theorem d_Se_tell_6 : decode b_Se_tell 6 = .ok (.invokevirtual 35, 3) := by decide +kernel
theorem q_828 : Cond.methodLink "TwinKeepers$Session" 35 ⟨"TwinKeepers$Row", "addNumber", "(II)V"⟩ ∈ xT := xin 828 (by decide +kernel) (by decide +kernel)
theorem d_Se_tell_9 : decode b_Se_tell 9 = .ok (.aload_n 1, 1) := by decide +kernel
theorem d_Se_tell_10 : decode b_Se_tell 10 = .ok (.aload_n 0, 1) := by decide +kernel
theorem d_Se_tell_11 : decode b_Se_tell 11 = .ok (.getfield 13, 3) := by decide +kernel
theorem d_Se_tell_14 : decode b_Se_tell 14 = .ok (.iconst 4, 1) := by decide +kernel
theorem d_Se_tell_15 : decode b_Se_tell 15 = .ok (.invokevirtual 35, 3) := by decide +kernel
theorem d_Se_tell_18 : decode b_Se_tell 18 = .ok (.aload_n 1, 1) := by decide +kernel
theorem d_Se_tell_19 : decode b_Se_tell 19 = .ok (.aload_n 0, 1) := by decide +kernel
theorem d_Se_tell_20 : decode b_Se_tell 20 = .ok (.getfield 16, 3) := by decide +kernel
theorem d_Se_tell_23 : decode b_Se_tell 23 = .ok (.iconst 4, 1) := by decide +kernel
theorem d_Se_tell_24 : decode b_Se_tell 24 = .ok (.invokevirtual 35, 3) := by decide +kernel
theorem d_Se_tell_27 : decode b_Se_tell 27 = .ok (.aload_n 1, 1) := by decide +kernel
theorem d_Se_tell_28 : decode b_Se_tell 28 = .ok (.aload_n 0, 1) := by decide +kernel
theorem d_Se_tell_29 : decode b_Se_tell 29 = .ok (.getfield 19, 3) := by decide +kernel
theorem d_Se_tell_32 : decode b_Se_tell 32 = .ok (.iconst 4, 1) := by decide +kernel
theorem d_Se_tell_33 : decode b_Se_tell 33 = .ok (.invokevirtual 35, 3) := by decide +kernel
theorem d_Se_tell_36 : decode b_Se_tell 36 = .ok (.aload_n 1, 1) := by decide +kernel
theorem d_Se_tell_37 : decode b_Se_tell 37 = .ok (.aload_n 0, 1) := by decide +kernel
theorem d_Se_tell_38 : decode b_Se_tell 38 = .ok (.getfield 22, 3) := by decide +kernel
theorem d_Se_tell_41 : decode b_Se_tell 41 = .ok (.arraylength, 1) := by decide +kernel
theorem d_Se_tell_42 : decode b_Se_tell 42 = .ok (.iconst 2, 1) := by decide +kernel
theorem d_Se_tell_43 : decode b_Se_tell 43 = .ok (.invokevirtual 35, 3) := by decide +kernel
theorem d_Se_tell_46 : decode b_Se_tell 46 = .ok (.aload_n 1, 1) := by decide +kernel
theorem d_Se_tell_47 : decode b_Se_tell 47 = .ok (.aload_n 0, 1) := by decide +kernel
theorem d_Se_tell_48 : decode b_Se_tell 48 = .ok (.getfield 22, 3) := by decide +kernel
theorem d_Se_tell_51 : decode b_Se_tell 51 = .ok (.invokevirtual 41, 3) := by decide +kernel
theorem q_829 : Cond.methodLink "TwinKeepers$Session" 41 ⟨"TwinKeepers$Row", "addAll", "([B)V"⟩ ∈ xT := xin 829 (by decide +kernel) (by decide +kernel)
theorem d_Se_tell_54 : decode b_Se_tell 54 = .ok (.return_, 1) := by decide +kernel
abbrev b_En_tell : ByteArray := prog_2_method_5_code
def y_En_tell : MethodName := ⟨"TwinKeepers$Entry", "tell", "(LTwinKeepers$Row;)V"⟩
theorem kc_En_tell : Cond.code y_En_tell b_En_tell 2 none ∈ xT := xin 834 (by decide +kernel) (by decide +kernel)
theorem k_En_tell : xCode y_En_tell b_En_tell 2 none [] := Or.inl ⟨rfl, kc_En_tell⟩
theorem h_En_tell : plainFor y_En_tell = true ∧ (y_En_tell.cls ≠ "java/lang/invoke/MethodHandle" ∧ y_En_tell.cls ≠ "java/lang/invoke/VarHandle") ∧ (parseMethodDescriptor y_En_tell.desc).map (fun d => d.parameters.length) = some 1 := by decide +kernel
theorem v_En_tell : Cond.instanceMethod y_En_tell ∈ xT := xin 832 (by decide +kernel) (by decide +kernel)
theorem e_En_tell : Cond.selects "TwinKeepers$Entry" y_En_tell y_En_tell ∈ xT := xin 833 (by decide +kernel) (by decide +kernel)
theorem d_En_tell_0 : decode b_En_tell 0 = .ok (.aload_n 1, 1) := by decide +kernel
theorem d_En_tell_1 : decode b_En_tell 1 = .ok (.aload_n 0, 1) := by decide +kernel
theorem d_En_tell_2 : decode b_En_tell 2 = .ok (.getfield 9, 3) := by decide +kernel
theorem d_En_tell_5 : decode b_En_tell 5 = .ok (.arraylength, 1) := by decide +kernel
theorem d_En_tell_6 : decode b_En_tell 6 = .ok (.iconst 1, 1) := by decide +kernel
theorem d_En_tell_7 : decode b_En_tell 7 = .ok (.invokevirtual 22, 3) := by decide +kernel
theorem q_835 : Cond.methodLink "TwinKeepers$Entry" 22 ⟨"TwinKeepers$Row", "addNumber", "(II)V"⟩ ∈ xT := xin 835 (by decide +kernel) (by decide +kernel)
theorem d_En_tell_10 : decode b_En_tell 10 = .ok (.aload_n 1, 1) := by decide +kernel
theorem d_En_tell_11 : decode b_En_tell 11 = .ok (.aload_n 0, 1) := by decide +kernel
theorem d_En_tell_12 : decode b_En_tell 12 = .ok (.getfield 15, 3) := by decide +kernel
theorem d_En_tell_15 : decode b_En_tell 15 = .ok (.arraylength, 1) := by decide +kernel
theorem d_En_tell_16 : decode b_En_tell 16 = .ok (.iconst 2, 1) := by decide +kernel
theorem d_En_tell_17 : decode b_En_tell 17 = .ok (.invokevirtual 22, 3) := by decide +kernel
theorem d_En_tell_20 : decode b_En_tell 20 = .ok (.aload_n 1, 1) := by decide +kernel
theorem d_En_tell_21 : decode b_En_tell 21 = .ok (.aload_n 0, 1) := by decide +kernel
theorem d_En_tell_22 : decode b_En_tell 22 = .ok (.getfield 9, 3) := by decide +kernel
theorem d_En_tell_25 : decode b_En_tell 25 = .ok (.invokevirtual 28, 3) := by decide +kernel
theorem q_836 : Cond.methodLink "TwinKeepers$Entry" 28 ⟨"TwinKeepers$Row", "addAll", "([B)V"⟩ ∈ xT := xin 836 (by decide +kernel) (by decide +kernel)
theorem d_En_tell_28 : decode b_En_tell 28 = .ok (.aload_n 1, 1) := by decide +kernel
theorem d_En_tell_29 : decode b_En_tell 29 = .ok (.aload_n 0, 1) := by decide +kernel
theorem d_En_tell_30 : decode b_En_tell 30 = .ok (.getfield 15, 3) := by decide +kernel
theorem d_En_tell_33 : decode b_En_tell 33 = .ok (.invokevirtual 28, 3) := by decide +kernel
theorem d_En_tell_36 : decode b_En_tell 36 = .ok (.return_, 1) := by decide +kernel
abbrev b_TK_make : ByteArray := prog_1_method_7_code
def y_TK_make : MethodName := ⟨"TwinKeepers", "make", "(II)Z"⟩
theorem kc_TK_make : Cond.code y_TK_make b_TK_make 6 (some .boolean) ∈ xT := xin 843 (by decide +kernel) (by decide +kernel)
theorem k_TK_make : xCode y_TK_make b_TK_make 6 (some .boolean) [] := Or.inl ⟨rfl, kc_TK_make⟩
theorem h_TK_make : plainFor y_TK_make = true ∧ (y_TK_make.cls ≠ "java/lang/invoke/MethodHandle" ∧ y_TK_make.cls ≠ "java/lang/invoke/VarHandle") ∧ (parseMethodDescriptor y_TK_make.desc).map (fun d => d.parameters.length) = some 2 := by decide +kernel
theorem v_TK_make : Cond.instanceMethod y_TK_make ∈ xT := xin 841 (by decide +kernel) (by decide +kernel)
theorem e_TK_make : Cond.selects "TwinKeepers" y_TK_make y_TK_make ∈ xT := xin 842 (by decide +kernel) (by decide +kernel)
theorem d_TK_make_0 : decode b_TK_make 0 = .ok (.aload_n 0, 1) := by decide +kernel
theorem d_TK_make_1 : decode b_TK_make 1 = .ok (.iload_n 1, 1) := by decide +kernel
theorem d_TK_make_2 : decode b_TK_make 2 = .ok (.invokevirtual 49, 3) := by decide +kernel
theorem d_TK_make_5 : decode b_TK_make 5 = .ok (.astore_n 3, 1) := by decide +kernel
theorem d_TK_make_6 : decode b_TK_make 6 = .ok (.aload_n 0, 1) := by decide +kernel
theorem d_TK_make_7 : decode b_TK_make 7 = .ok (.iload_n 2, 1) := by decide +kernel
theorem d_TK_make_8 : decode b_TK_make 8 = .ok (.invokevirtual 49, 3) := by decide +kernel
theorem d_TK_make_11 : decode b_TK_make 11 = .ok (.astore 4, 2) := by decide +kernel
theorem d_TK_make_13 : decode b_TK_make 13 = .ok (.aload_n 3, 1) := by decide +kernel
theorem d_TK_make_14 : decode b_TK_make 14 = .ok (.aload 4, 2) := by decide +kernel
theorem d_TK_make_16 : decode b_TK_make 16 = .ok (.invokevirtual 149, 3) := by decide +kernel
theorem q_844 : Cond.methodLink "TwinKeepers" 149 ⟨"TwinKeepers$Machine", "hasRowOf", "(LTwinKeepers$Machine;)Z"⟩ ∈ xT := xin 844 (by decide +kernel) (by decide +kernel)
theorem d_TK_make_19 : decode b_TK_make 19 = .ok (.ifCond .ne 7, 3) := by decide +kernel
theorem d_TK_make_22 : decode b_TK_make 22 = .ok (.iconst 1, 1) := by decide +kernel
theorem d_TK_make_23 : decode b_TK_make 23 = .ok (.goto 4, 3) := by decide +kernel
theorem d_TK_make_26 : decode b_TK_make 26 = .ok (.iconst 0, 1) := by decide +kernel
theorem d_TK_make_27 : decode b_TK_make 27 = .ok (.istore 5, 2) := by decide +kernel
theorem d_TK_make_29 : decode b_TK_make 29 = .ok (.iload 5, 2) := by decide +kernel
theorem d_TK_make_31 : decode b_TK_make 31 = .ok (.ifCond .eq 9, 3) := by decide +kernel
theorem d_TK_make_34 : decode b_TK_make 34 = .ok (.aload 4, 2) := by decide +kernel
theorem d_TK_make_36 : decode b_TK_make 36 = .ok (.aload_n 3, 1) := by decide +kernel
theorem d_TK_make_37 : decode b_TK_make 37 = .ok (.invokevirtual 153, 3) := by decide +kernel
theorem q_866 : Cond.methodLink "TwinKeepers" 153 ⟨"TwinKeepers$Machine", "copyRowOf", "(LTwinKeepers$Machine;)V"⟩ ∈ xT := xin 866 (by decide +kernel) (by decide +kernel)
theorem d_TK_make_40 : decode b_TK_make 40 = .ok (.aload 4, 2) := by decide +kernel
theorem d_TK_make_42 : decode b_TK_make 42 = .ok (.aload 4, 2) := by decide +kernel
theorem d_TK_make_44 : decode b_TK_make 44 = .ok (.getfield 82, 3) := by decide +kernel
theorem d_TK_make_47 : decode b_TK_make 47 = .ok (.aload_n 3, 1) := by decide +kernel
theorem d_TK_make_48 : decode b_TK_make 48 = .ok (.getfield 82, 3) := by decide +kernel
theorem d_TK_make_51 : decode b_TK_make 51 = .ok (.invokestatic 157, 3) := by decide +kernel
theorem q_878 : Cond.methodLink "TwinKeepers" 157 ⟨"java/lang/Math", "max", "(II)I"⟩ ∈ xT := xin 878 (by decide +kernel) (by decide +kernel)
theorem d_TK_make_54 : decode b_TK_make 54 = .ok (.putfield 82, 3) := by decide +kernel
theorem d_TK_make_57 : decode b_TK_make 57 = .ok (.iload 5, 2) := by decide +kernel
theorem d_TK_make_59 : decode b_TK_make 59 = .ok (.ireturn, 1) := by decide +kernel
abbrev b_Ma_hasRowOf : ByteArray := prog_4_method_8_code
def y_Ma_hasRowOf : MethodName := ⟨"TwinKeepers$Machine", "hasRowOf", "(LTwinKeepers$Machine;)Z"⟩
theorem kc_Ma_hasRowOf : Cond.code y_Ma_hasRowOf b_Ma_hasRowOf 2 (some .boolean) ∈ xT := xin 847 (by decide +kernel) (by decide +kernel)
theorem k_Ma_hasRowOf : xCode y_Ma_hasRowOf b_Ma_hasRowOf 2 (some .boolean) [] := Or.inl ⟨rfl, kc_Ma_hasRowOf⟩
theorem h_Ma_hasRowOf : plainFor y_Ma_hasRowOf = true ∧ (y_Ma_hasRowOf.cls ≠ "java/lang/invoke/MethodHandle" ∧ y_Ma_hasRowOf.cls ≠ "java/lang/invoke/VarHandle") ∧ (parseMethodDescriptor y_Ma_hasRowOf.desc).map (fun d => d.parameters.length) = some 1 := by decide +kernel
theorem v_Ma_hasRowOf : Cond.instanceMethod y_Ma_hasRowOf ∈ xT := xin 845 (by decide +kernel) (by decide +kernel)
theorem e_Ma_hasRowOf : Cond.selects "TwinKeepers$Machine" y_Ma_hasRowOf y_Ma_hasRowOf ∈ xT := xin 846 (by decide +kernel) (by decide +kernel)
theorem d_Ma_hasRowOf_0 : decode b_Ma_hasRowOf 0 = .ok (.aload_n 0, 1) := by decide +kernel
theorem d_Ma_hasRowOf_1 : decode b_Ma_hasRowOf 1 = .ok (.aload_n 1, 1) := by decide +kernel
theorem d_Ma_hasRowOf_2 : decode b_Ma_hasRowOf 2 = .ok (.invokevirtual 77, 3) := by decide +kernel
theorem q_848 : Cond.methodLink "TwinKeepers$Machine" 77 ⟨"TwinKeepers$Machine", "hasSessionsOf", "(LTwinKeepers$Machine;)Z"⟩ ∈ xT := xin 848 (by decide +kernel) (by decide +kernel)
theorem d_Ma_hasRowOf_5 : decode b_Ma_hasRowOf 5 = .ok (.ifCond .eq 15, 3) := by decide +kernel
theorem d_Ma_hasRowOf_8 : decode b_Ma_hasRowOf 8 = .ok (.aload_n 0, 1) := by decide +kernel
theorem d_Ma_hasRowOf_9 : decode b_Ma_hasRowOf 9 = .ok (.aload_n 1, 1) := by decide +kernel
theorem d_Ma_hasRowOf_10 : decode b_Ma_hasRowOf 10 = .ok (.invokevirtual 81, 3) := by decide +kernel
theorem q_857 : Cond.methodLink "TwinKeepers$Machine" 81 ⟨"TwinKeepers$Machine", "hasEntriesOf", "(LTwinKeepers$Machine;)Z"⟩ ∈ xT := xin 857 (by decide +kernel) (by decide +kernel)
theorem d_Ma_hasRowOf_13 : decode b_Ma_hasRowOf 13 = .ok (.ifCond .eq 7, 3) := by decide +kernel
theorem d_Ma_hasRowOf_16 : decode b_Ma_hasRowOf 16 = .ok (.iconst 1, 1) := by decide +kernel
theorem d_Ma_hasRowOf_17 : decode b_Ma_hasRowOf 17 = .ok (.goto 4, 3) := by decide +kernel
theorem d_Ma_hasRowOf_20 : decode b_Ma_hasRowOf 20 = .ok (.iconst 0, 1) := by decide +kernel
theorem d_Ma_hasRowOf_21 : decode b_Ma_hasRowOf 21 = .ok (.ireturn, 1) := by decide +kernel
abbrev b_Ma_hasSessionsOf : ByteArray := prog_4_method_9_code
def y_Ma_hasSessionsOf : MethodName := ⟨"TwinKeepers$Machine", "hasSessionsOf", "(LTwinKeepers$Machine;)Z"⟩
theorem kc_Ma_hasSessionsOf : Cond.code y_Ma_hasSessionsOf b_Ma_hasSessionsOf 3 (some .boolean) ∈ xT := xin 851 (by decide +kernel) (by decide +kernel)
theorem k_Ma_hasSessionsOf : xCode y_Ma_hasSessionsOf b_Ma_hasSessionsOf 3 (some .boolean) [] := Or.inl ⟨rfl, kc_Ma_hasSessionsOf⟩
theorem h_Ma_hasSessionsOf : plainFor y_Ma_hasSessionsOf = true ∧ (y_Ma_hasSessionsOf.cls ≠ "java/lang/invoke/MethodHandle" ∧ y_Ma_hasSessionsOf.cls ≠ "java/lang/invoke/VarHandle") ∧ (parseMethodDescriptor y_Ma_hasSessionsOf.desc).map (fun d => d.parameters.length) = some 1 := by decide +kernel
theorem v_Ma_hasSessionsOf : Cond.instanceMethod y_Ma_hasSessionsOf ∈ xT := xin 850 (by decide +kernel) (by decide +kernel)
theorem e_Ma_hasSessionsOf : Cond.selects "TwinKeepers$Machine" y_Ma_hasSessionsOf y_Ma_hasSessionsOf ∈ xT := xinp 16 (by decide +kernel) (by decide +kernel)
theorem d_Ma_hasSessionsOf_0 : decode b_Ma_hasSessionsOf 0 = .ok (.aload_n 0, 1) := by decide +kernel
theorem d_Ma_hasSessionsOf_1 : decode b_Ma_hasSessionsOf 1 = .ok (.getfield 12, 3) := by decide +kernel
theorem d_Ma_hasSessionsOf_4 : decode b_Ma_hasSessionsOf 4 = .ok (.invokevirtual 30, 3) := by decide +kernel
theorem d_Ma_hasSessionsOf_7 : decode b_Ma_hasSessionsOf 7 = .ok (.aload_n 1, 1) := by decide +kernel
theorem d_Ma_hasSessionsOf_8 : decode b_Ma_hasSessionsOf 8 = .ok (.getfield 12, 3) := by decide +kernel
theorem d_Ma_hasSessionsOf_11 : decode b_Ma_hasSessionsOf 11 = .ok (.invokevirtual 30, 3) := by decide +kernel
theorem d_Ma_hasSessionsOf_14 : decode b_Ma_hasSessionsOf 14 = .ok (.if_icmp .eq 5, 3) := by decide +kernel
theorem d_Ma_hasSessionsOf_17 : decode b_Ma_hasSessionsOf 17 = .ok (.iconst 0, 1) := by decide +kernel
theorem d_Ma_hasSessionsOf_18 : decode b_Ma_hasSessionsOf 18 = .ok (.ireturn, 1) := by decide +kernel
theorem d_Ma_hasSessionsOf_19 : decode b_Ma_hasSessionsOf 19 = .ok (.iconst 0, 1) := by decide +kernel
theorem d_Ma_hasSessionsOf_20 : decode b_Ma_hasSessionsOf 20 = .ok (.istore_n 2, 1) := by decide +kernel
theorem d_Ma_hasSessionsOf_21 : decode b_Ma_hasSessionsOf 21 = .ok (.iload_n 2, 1) := by decide +kernel
theorem d_Ma_hasSessionsOf_22 : decode b_Ma_hasSessionsOf 22 = .ok (.aload_n 0, 1) := by decide +kernel
theorem d_Ma_hasSessionsOf_23 : decode b_Ma_hasSessionsOf 23 = .ok (.getfield 12, 3) := by decide +kernel
theorem d_Ma_hasSessionsOf_26 : decode b_Ma_hasSessionsOf 26 = .ok (.invokevirtual 30, 3) := by decide +kernel
theorem d_Ma_hasSessionsOf_29 : decode b_Ma_hasSessionsOf 29 = .ok (.if_icmp .ge 39, 3) := by decide +kernel
theorem d_Ma_hasSessionsOf_32 : decode b_Ma_hasSessionsOf 32 = .ok (.aload_n 0, 1) := by decide +kernel
theorem d_Ma_hasSessionsOf_33 : decode b_Ma_hasSessionsOf 33 = .ok (.getfield 12, 3) := by decide +kernel
theorem d_Ma_hasSessionsOf_36 : decode b_Ma_hasSessionsOf 36 = .ok (.iload_n 2, 1) := by decide +kernel
theorem d_Ma_hasSessionsOf_37 : decode b_Ma_hasSessionsOf 37 = .ok (.invokevirtual 54, 3) := by decide +kernel
theorem d_Ma_hasSessionsOf_40 : decode b_Ma_hasSessionsOf 40 = .ok (.checkcast 41, 3) := by decide +kernel
theorem d_Ma_hasSessionsOf_43 : decode b_Ma_hasSessionsOf 43 = .ok (.aload_n 1, 1) := by decide +kernel
theorem d_Ma_hasSessionsOf_44 : decode b_Ma_hasSessionsOf 44 = .ok (.getfield 12, 3) := by decide +kernel
theorem d_Ma_hasSessionsOf_47 : decode b_Ma_hasSessionsOf 47 = .ok (.iload_n 2, 1) := by decide +kernel
theorem d_Ma_hasSessionsOf_48 : decode b_Ma_hasSessionsOf 48 = .ok (.invokevirtual 54, 3) := by decide +kernel
theorem d_Ma_hasSessionsOf_51 : decode b_Ma_hasSessionsOf 51 = .ok (.checkcast 41, 3) := by decide +kernel
theorem d_Ma_hasSessionsOf_54 : decode b_Ma_hasSessionsOf 54 = .ok (.invokevirtual 84, 3) := by decide +kernel
theorem q_852 : Cond.methodLink "TwinKeepers$Machine" 84 ⟨"TwinKeepers$Session", "isLike", "(LTwinKeepers$Session;)Z"⟩ ∈ xT := xin 852 (by decide +kernel) (by decide +kernel)
theorem d_Ma_hasSessionsOf_57 : decode b_Ma_hasSessionsOf 57 = .ok (.ifCond .ne 5, 3) := by decide +kernel
theorem d_Ma_hasSessionsOf_60 : decode b_Ma_hasSessionsOf 60 = .ok (.iconst 0, 1) := by decide +kernel
theorem d_Ma_hasSessionsOf_61 : decode b_Ma_hasSessionsOf 61 = .ok (.ireturn, 1) := by decide +kernel
theorem d_Ma_hasSessionsOf_62 : decode b_Ma_hasSessionsOf 62 = .ok (.iinc 2 1, 3) := by decide +kernel
theorem d_Ma_hasSessionsOf_65 : decode b_Ma_hasSessionsOf 65 = .ok (.goto (-44), 3) := by decide +kernel
theorem d_Ma_hasSessionsOf_68 : decode b_Ma_hasSessionsOf 68 = .ok (.iconst 1, 1) := by decide +kernel
theorem d_Ma_hasSessionsOf_69 : decode b_Ma_hasSessionsOf 69 = .ok (.ireturn, 1) := by decide +kernel
abbrev b_Se_isLike : ByteArray := prog_6_method_4_code
def y_Se_isLike : MethodName := ⟨"TwinKeepers$Session", "isLike", "(LTwinKeepers$Session;)Z"⟩
theorem kc_Se_isLike : Cond.code y_Se_isLike b_Se_isLike 2 (some .boolean) ∈ xT := xin 855 (by decide +kernel) (by decide +kernel)
theorem k_Se_isLike : xCode y_Se_isLike b_Se_isLike 2 (some .boolean) [] := Or.inl ⟨rfl, kc_Se_isLike⟩
theorem h_Se_isLike : plainFor y_Se_isLike = true ∧ (y_Se_isLike.cls ≠ "java/lang/invoke/MethodHandle" ∧ y_Se_isLike.cls ≠ "java/lang/invoke/VarHandle") ∧ (parseMethodDescriptor y_Se_isLike.desc).map (fun d => d.parameters.length) = some 1 := by decide +kernel
theorem v_Se_isLike : Cond.instanceMethod y_Se_isLike ∈ xT := xin 853 (by decide +kernel) (by decide +kernel)
theorem e_Se_isLike : Cond.selects "TwinKeepers$Session" y_Se_isLike y_Se_isLike ∈ xT := xin 854 (by decide +kernel) (by decide +kernel)
theorem d_Se_isLike_0 : decode b_Se_isLike 0 = .ok (.aload_n 0, 1) := by decide +kernel
theorem d_Se_isLike_1 : decode b_Se_isLike 1 = .ok (.getfield 7, 3) := by decide +kernel
theorem d_Se_isLike_4 : decode b_Se_isLike 4 = .ok (.aload_n 1, 1) := by decide +kernel
theorem d_Se_isLike_5 : decode b_Se_isLike 5 = .ok (.getfield 7, 3) := by decide +kernel
theorem d_Se_isLike_8 : decode b_Se_isLike 8 = .ok (.if_icmp .ne 54, 3) := by decide +kernel
theorem d_Se_isLike_11 : decode b_Se_isLike 11 = .ok (.aload_n 0, 1) := by decide +kernel
theorem d_Se_isLike_12 : decode b_Se_isLike 12 = .ok (.getfield 13, 3) := by decide +kernel
theorem d_Se_isLike_15 : decode b_Se_isLike 15 = .ok (.aload_n 1, 1) := by decide +kernel
theorem d_Se_isLike_16 : decode b_Se_isLike 16 = .ok (.getfield 13, 3) := by decide +kernel
theorem d_Se_isLike_19 : decode b_Se_isLike 19 = .ok (.if_icmp .ne 43, 3) := by decide +kernel
theorem d_Se_isLike_22 : decode b_Se_isLike 22 = .ok (.aload_n 0, 1) := by decide +kernel
theorem d_Se_isLike_23 : decode b_Se_isLike 23 = .ok (.getfield 16, 3) := by decide +kernel
theorem d_Se_isLike_26 : decode b_Se_isLike 26 = .ok (.aload_n 1, 1) := by decide +kernel
theorem d_Se_isLike_27 : decode b_Se_isLike 27 = .ok (.getfield 16, 3) := by decide +kernel
theorem d_Se_isLike_30 : decode b_Se_isLike 30 = .ok (.if_icmp .ne 32, 3) := by decide +kernel
theorem d_Se_isLike_33 : decode b_Se_isLike 33 = .ok (.aload_n 0, 1) := by decide +kernel
theorem d_Se_isLike_34 : decode b_Se_isLike 34 = .ok (.getfield 19, 3) := by decide +kernel
theorem d_Se_isLike_37 : decode b_Se_isLike 37 = .ok (.aload_n 1, 1) := by decide +kernel
theorem d_Se_isLike_38 : decode b_Se_isLike 38 = .ok (.getfield 19, 3) := by decide +kernel
theorem d_Se_isLike_41 : decode b_Se_isLike 41 = .ok (.if_icmp .ne 21, 3) := by decide +kernel
theorem d_Se_isLike_44 : decode b_Se_isLike 44 = .ok (.aload_n 0, 1) := by decide +kernel
theorem d_Se_isLike_45 : decode b_Se_isLike 45 = .ok (.getfield 22, 3) := by decide +kernel
theorem d_Se_isLike_48 : decode b_Se_isLike 48 = .ok (.aload_n 1, 1) := by decide +kernel
theorem d_Se_isLike_49 : decode b_Se_isLike 49 = .ok (.getfield 22, 3) := by decide +kernel
theorem d_Se_isLike_52 : decode b_Se_isLike 52 = .ok (.invokestatic 29, 3) := by decide +kernel
theorem q_856 : Cond.methodLinkNest "TwinKeepers$Session" 29 ⟨"TwinKeepers", "compare", "([B[B)I"⟩ "TwinKeepers" ∈ xT := xin 856 (by decide +kernel) (by decide +kernel)
theorem d_Se_isLike_55 : decode b_Se_isLike 55 = .ok (.ifCond .ne 7, 3) := by decide +kernel
theorem d_Se_isLike_58 : decode b_Se_isLike 58 = .ok (.iconst 1, 1) := by decide +kernel
theorem d_Se_isLike_59 : decode b_Se_isLike 59 = .ok (.goto 4, 3) := by decide +kernel
theorem d_Se_isLike_62 : decode b_Se_isLike 62 = .ok (.iconst 0, 1) := by decide +kernel
theorem d_Se_isLike_63 : decode b_Se_isLike 63 = .ok (.ireturn, 1) := by decide +kernel
abbrev b_Ma_hasEntriesOf : ByteArray := prog_4_method_10_code
def y_Ma_hasEntriesOf : MethodName := ⟨"TwinKeepers$Machine", "hasEntriesOf", "(LTwinKeepers$Machine;)Z"⟩
theorem kc_Ma_hasEntriesOf : Cond.code y_Ma_hasEntriesOf b_Ma_hasEntriesOf 3 (some .boolean) ∈ xT := xin 860 (by decide +kernel) (by decide +kernel)
theorem k_Ma_hasEntriesOf : xCode y_Ma_hasEntriesOf b_Ma_hasEntriesOf 3 (some .boolean) [] := Or.inl ⟨rfl, kc_Ma_hasEntriesOf⟩
theorem h_Ma_hasEntriesOf : plainFor y_Ma_hasEntriesOf = true ∧ (y_Ma_hasEntriesOf.cls ≠ "java/lang/invoke/MethodHandle" ∧ y_Ma_hasEntriesOf.cls ≠ "java/lang/invoke/VarHandle") ∧ (parseMethodDescriptor y_Ma_hasEntriesOf.desc).map (fun d => d.parameters.length) = some 1 := by decide +kernel
theorem v_Ma_hasEntriesOf : Cond.instanceMethod y_Ma_hasEntriesOf ∈ xT := xin 859 (by decide +kernel) (by decide +kernel)
theorem e_Ma_hasEntriesOf : Cond.selects "TwinKeepers$Machine" y_Ma_hasEntriesOf y_Ma_hasEntriesOf ∈ xT := xinp 17 (by decide +kernel) (by decide +kernel)
theorem d_Ma_hasEntriesOf_0 : decode b_Ma_hasEntriesOf 0 = .ok (.aload_n 0, 1) := by decide +kernel
theorem d_Ma_hasEntriesOf_1 : decode b_Ma_hasEntriesOf 1 = .ok (.getfield 21, 3) := by decide +kernel
theorem d_Ma_hasEntriesOf_4 : decode b_Ma_hasEntriesOf 4 = .ok (.getfield 66, 3) := by decide +kernel
theorem d_Ma_hasEntriesOf_7 : decode b_Ma_hasEntriesOf 7 = .ok (.invokevirtual 30, 3) := by decide +kernel
theorem d_Ma_hasEntriesOf_10 : decode b_Ma_hasEntriesOf 10 = .ok (.aload_n 1, 1) := by decide +kernel
theorem d_Ma_hasEntriesOf_11 : decode b_Ma_hasEntriesOf 11 = .ok (.getfield 21, 3) := by decide +kernel
theorem d_Ma_hasEntriesOf_14 : decode b_Ma_hasEntriesOf 14 = .ok (.getfield 66, 3) := by decide +kernel
theorem d_Ma_hasEntriesOf_17 : decode b_Ma_hasEntriesOf 17 = .ok (.invokevirtual 30, 3) := by decide +kernel
theorem d_Ma_hasEntriesOf_20 : decode b_Ma_hasEntriesOf 20 = .ok (.if_icmp .eq 5, 3) := by decide +kernel
theorem d_Ma_hasEntriesOf_23 : decode b_Ma_hasEntriesOf 23 = .ok (.iconst 0, 1) := by decide +kernel
theorem d_Ma_hasEntriesOf_24 : decode b_Ma_hasEntriesOf 24 = .ok (.ireturn, 1) := by decide +kernel
theorem d_Ma_hasEntriesOf_25 : decode b_Ma_hasEntriesOf 25 = .ok (.iconst 0, 1) := by decide +kernel
theorem d_Ma_hasEntriesOf_26 : decode b_Ma_hasEntriesOf 26 = .ok (.istore_n 2, 1) := by decide +kernel
theorem d_Ma_hasEntriesOf_27 : decode b_Ma_hasEntriesOf 27 = .ok (.iload_n 2, 1) := by decide +kernel
theorem d_Ma_hasEntriesOf_28 : decode b_Ma_hasEntriesOf 28 = .ok (.aload_n 0, 1) := by decide +kernel
theorem d_Ma_hasEntriesOf_29 : decode b_Ma_hasEntriesOf 29 = .ok (.getfield 21, 3) := by decide +kernel
theorem d_Ma_hasEntriesOf_32 : decode b_Ma_hasEntriesOf 32 = .ok (.getfield 66, 3) := by decide +kernel
theorem d_Ma_hasEntriesOf_35 : decode b_Ma_hasEntriesOf 35 = .ok (.invokevirtual 30, 3) := by decide +kernel
theorem d_Ma_hasEntriesOf_38 : decode b_Ma_hasEntriesOf 38 = .ok (.if_icmp .ge 45, 3) := by decide +kernel
theorem d_Ma_hasEntriesOf_41 : decode b_Ma_hasEntriesOf 41 = .ok (.aload_n 0, 1) := by decide +kernel
theorem d_Ma_hasEntriesOf_42 : decode b_Ma_hasEntriesOf 42 = .ok (.getfield 21, 3) := by decide +kernel
theorem d_Ma_hasEntriesOf_45 : decode b_Ma_hasEntriesOf 45 = .ok (.getfield 66, 3) := by decide +kernel
theorem d_Ma_hasEntriesOf_48 : decode b_Ma_hasEntriesOf 48 = .ok (.iload_n 2, 1) := by decide +kernel
theorem d_Ma_hasEntriesOf_49 : decode b_Ma_hasEntriesOf 49 = .ok (.invokevirtual 54, 3) := by decide +kernel
theorem d_Ma_hasEntriesOf_52 : decode b_Ma_hasEntriesOf 52 = .ok (.checkcast 75, 3) := by decide +kernel
theorem d_Ma_hasEntriesOf_55 : decode b_Ma_hasEntriesOf 55 = .ok (.aload_n 1, 1) := by decide +kernel
theorem d_Ma_hasEntriesOf_56 : decode b_Ma_hasEntriesOf 56 = .ok (.getfield 21, 3) := by decide +kernel
theorem d_Ma_hasEntriesOf_59 : decode b_Ma_hasEntriesOf 59 = .ok (.getfield 66, 3) := by decide +kernel
theorem d_Ma_hasEntriesOf_62 : decode b_Ma_hasEntriesOf 62 = .ok (.iload_n 2, 1) := by decide +kernel
theorem d_Ma_hasEntriesOf_63 : decode b_Ma_hasEntriesOf 63 = .ok (.invokevirtual 54, 3) := by decide +kernel
theorem d_Ma_hasEntriesOf_66 : decode b_Ma_hasEntriesOf 66 = .ok (.checkcast 75, 3) := by decide +kernel
theorem d_Ma_hasEntriesOf_69 : decode b_Ma_hasEntriesOf 69 = .ok (.invokevirtual 88, 3) := by decide +kernel
theorem q_861 : Cond.methodLink "TwinKeepers$Machine" 88 ⟨"TwinKeepers$Entry", "isLike", "(LTwinKeepers$Entry;)Z"⟩ ∈ xT := xin 861 (by decide +kernel) (by decide +kernel)
theorem d_Ma_hasEntriesOf_72 : decode b_Ma_hasEntriesOf 72 = .ok (.ifCond .ne 5, 3) := by decide +kernel
theorem d_Ma_hasEntriesOf_75 : decode b_Ma_hasEntriesOf 75 = .ok (.iconst 0, 1) := by decide +kernel
theorem d_Ma_hasEntriesOf_76 : decode b_Ma_hasEntriesOf 76 = .ok (.ireturn, 1) := by decide +kernel
theorem d_Ma_hasEntriesOf_77 : decode b_Ma_hasEntriesOf 77 = .ok (.iinc 2 1, 3) := by decide +kernel
theorem d_Ma_hasEntriesOf_80 : decode b_Ma_hasEntriesOf 80 = .ok (.goto (-53), 3) := by decide +kernel
theorem d_Ma_hasEntriesOf_83 : decode b_Ma_hasEntriesOf 83 = .ok (.iconst 1, 1) := by decide +kernel
theorem d_Ma_hasEntriesOf_84 : decode b_Ma_hasEntriesOf 84 = .ok (.ireturn, 1) := by decide +kernel
abbrev b_En_isLike : ByteArray := prog_2_method_3_code
def y_En_isLike : MethodName := ⟨"TwinKeepers$Entry", "isLike", "(LTwinKeepers$Entry;)Z"⟩
theorem kc_En_isLike : Cond.code y_En_isLike b_En_isLike 2 (some .boolean) ∈ xT := xin 864 (by decide +kernel) (by decide +kernel)
theorem k_En_isLike : xCode y_En_isLike b_En_isLike 2 (some .boolean) [] := Or.inl ⟨rfl, kc_En_isLike⟩
theorem h_En_isLike : plainFor y_En_isLike = true ∧ (y_En_isLike.cls ≠ "java/lang/invoke/MethodHandle" ∧ y_En_isLike.cls ≠ "java/lang/invoke/VarHandle") ∧ (parseMethodDescriptor y_En_isLike.desc).map (fun d => d.parameters.length) = some 1 := by decide +kernel
theorem v_En_isLike : Cond.instanceMethod y_En_isLike ∈ xT := xin 862 (by decide +kernel) (by decide +kernel)
theorem e_En_isLike : Cond.selects "TwinKeepers$Entry" y_En_isLike y_En_isLike ∈ xT := xin 863 (by decide +kernel) (by decide +kernel)
theorem d_En_isLike_0 : decode b_En_isLike 0 = .ok (.aload_n 0, 1) := by decide +kernel
theorem d_En_isLike_1 : decode b_En_isLike 1 = .ok (.getfield 9, 3) := by decide +kernel
theorem d_En_isLike_4 : decode b_En_isLike 4 = .ok (.aload_n 1, 1) := by decide +kernel
theorem d_En_isLike_5 : decode b_En_isLike 5 = .ok (.getfield 9, 3) := by decide +kernel
theorem d_En_isLike_8 : decode b_En_isLike 8 = .ok (.invokestatic 18, 3) := by decide +kernel
theorem q_865 : Cond.methodLinkNest "TwinKeepers$Entry" 18 ⟨"TwinKeepers", "compare", "([B[B)I"⟩ "TwinKeepers" ∈ xT := xin 865 (by decide +kernel) (by decide +kernel)
theorem d_En_isLike_11 : decode b_En_isLike 11 = .ok (.ifCond .ne 21, 3) := by decide +kernel
theorem d_En_isLike_14 : decode b_En_isLike 14 = .ok (.aload_n 0, 1) := by decide +kernel
theorem d_En_isLike_15 : decode b_En_isLike 15 = .ok (.getfield 15, 3) := by decide +kernel
theorem d_En_isLike_18 : decode b_En_isLike 18 = .ok (.aload_n 1, 1) := by decide +kernel
theorem d_En_isLike_19 : decode b_En_isLike 19 = .ok (.getfield 15, 3) := by decide +kernel
theorem d_En_isLike_22 : decode b_En_isLike 22 = .ok (.invokestatic 18, 3) := by decide +kernel
theorem d_En_isLike_25 : decode b_En_isLike 25 = .ok (.ifCond .ne 7, 3) := by decide +kernel
theorem d_En_isLike_28 : decode b_En_isLike 28 = .ok (.iconst 1, 1) := by decide +kernel
theorem d_En_isLike_29 : decode b_En_isLike 29 = .ok (.goto 4, 3) := by decide +kernel
theorem d_En_isLike_32 : decode b_En_isLike 32 = .ok (.iconst 0, 1) := by decide +kernel
theorem d_En_isLike_33 : decode b_En_isLike 33 = .ok (.ireturn, 1) := by decide +kernel
abbrev b_Ma_copyRowOf : ByteArray := prog_4_method_7_code
def y_Ma_copyRowOf : MethodName := ⟨"TwinKeepers$Machine", "copyRowOf", "(LTwinKeepers$Machine;)V"⟩
theorem kc_Ma_copyRowOf : Cond.code y_Ma_copyRowOf b_Ma_copyRowOf 3 none ∈ xT := xin 869 (by decide +kernel) (by decide +kernel)
theorem k_Ma_copyRowOf : xCode y_Ma_copyRowOf b_Ma_copyRowOf 3 none [] := Or.inl ⟨rfl, kc_Ma_copyRowOf⟩
theorem h_Ma_copyRowOf : plainFor y_Ma_copyRowOf = true ∧ (y_Ma_copyRowOf.cls ≠ "java/lang/invoke/MethodHandle" ∧ y_Ma_copyRowOf.cls ≠ "java/lang/invoke/VarHandle") ∧ (parseMethodDescriptor y_Ma_copyRowOf.desc).map (fun d => d.parameters.length) = some 1 := by decide +kernel
theorem v_Ma_copyRowOf : Cond.instanceMethod y_Ma_copyRowOf ∈ xT := xin 867 (by decide +kernel) (by decide +kernel)
theorem e_Ma_copyRowOf : Cond.selects "TwinKeepers$Machine" y_Ma_copyRowOf y_Ma_copyRowOf ∈ xT := xin 868 (by decide +kernel) (by decide +kernel)
theorem d_Ma_copyRowOf_0 : decode b_Ma_copyRowOf 0 = .ok (.aload_n 0, 1) := by decide +kernel
theorem d_Ma_copyRowOf_1 : decode b_Ma_copyRowOf 1 = .ok (.invokevirtual 72, 3) := by decide +kernel
theorem q_870 : Cond.methodLink "TwinKeepers$Machine" 72 ⟨"TwinKeepers$Machine", "forget", "()V"⟩ ∈ xT := xin 870 (by decide +kernel) (by decide +kernel)
theorem d_Ma_copyRowOf_4 : decode b_Ma_copyRowOf 4 = .ok (.iconst 0, 1) := by decide +kernel
theorem d_Ma_copyRowOf_5 : decode b_Ma_copyRowOf 5 = .ok (.istore_n 2, 1) := by decide +kernel
theorem d_Ma_copyRowOf_6 : decode b_Ma_copyRowOf 6 = .ok (.iload_n 2, 1) := by decide +kernel
theorem d_Ma_copyRowOf_7 : decode b_Ma_copyRowOf 7 = .ok (.aload_n 1, 1) := by decide +kernel
theorem d_Ma_copyRowOf_8 : decode b_Ma_copyRowOf 8 = .ok (.getfield 12, 3) := by decide +kernel
theorem d_Ma_copyRowOf_11 : decode b_Ma_copyRowOf 11 = .ok (.invokevirtual 30, 3) := by decide +kernel
theorem d_Ma_copyRowOf_14 : decode b_Ma_copyRowOf 14 = .ok (.if_icmp .ge 28, 3) := by decide +kernel
theorem d_Ma_copyRowOf_17 : decode b_Ma_copyRowOf 17 = .ok (.aload_n 0, 1) := by decide +kernel
theorem d_Ma_copyRowOf_18 : decode b_Ma_copyRowOf 18 = .ok (.getfield 12, 3) := by decide +kernel
theorem d_Ma_copyRowOf_21 : decode b_Ma_copyRowOf 21 = .ok (.aload_n 1, 1) := by decide +kernel
theorem d_Ma_copyRowOf_22 : decode b_Ma_copyRowOf 22 = .ok (.getfield 12, 3) := by decide +kernel
theorem d_Ma_copyRowOf_25 : decode b_Ma_copyRowOf 25 = .ok (.iload_n 2, 1) := by decide +kernel
theorem d_Ma_copyRowOf_26 : decode b_Ma_copyRowOf 26 = .ok (.invokevirtual 54, 3) := by decide +kernel
theorem d_Ma_copyRowOf_29 : decode b_Ma_copyRowOf 29 = .ok (.checkcast 41, 3) := by decide +kernel
theorem d_Ma_copyRowOf_32 : decode b_Ma_copyRowOf 32 = .ok (.invokevirtual 50, 3) := by decide +kernel
theorem d_Ma_copyRowOf_35 : decode b_Ma_copyRowOf 35 = .ok (.pop, 1) := by decide +kernel
theorem d_Ma_copyRowOf_36 : decode b_Ma_copyRowOf 36 = .ok (.iinc 2 1, 3) := by decide +kernel
theorem d_Ma_copyRowOf_39 : decode b_Ma_copyRowOf 39 = .ok (.goto (-33), 3) := by decide +kernel
theorem d_Ma_copyRowOf_42 : decode b_Ma_copyRowOf 42 = .ok (.iconst 0, 1) := by decide +kernel
theorem d_Ma_copyRowOf_43 : decode b_Ma_copyRowOf 43 = .ok (.istore_n 2, 1) := by decide +kernel
theorem d_Ma_copyRowOf_44 : decode b_Ma_copyRowOf 44 = .ok (.iload_n 2, 1) := by decide +kernel
theorem d_Ma_copyRowOf_45 : decode b_Ma_copyRowOf 45 = .ok (.aload_n 1, 1) := by decide +kernel
theorem d_Ma_copyRowOf_46 : decode b_Ma_copyRowOf 46 = .ok (.getfield 21, 3) := by decide +kernel
theorem d_Ma_copyRowOf_49 : decode b_Ma_copyRowOf 49 = .ok (.getfield 66, 3) := by decide +kernel
theorem d_Ma_copyRowOf_52 : decode b_Ma_copyRowOf 52 = .ok (.invokevirtual 30, 3) := by decide +kernel
theorem d_Ma_copyRowOf_55 : decode b_Ma_copyRowOf 55 = .ok (.if_icmp .ge 34, 3) := by decide +kernel
theorem d_Ma_copyRowOf_58 : decode b_Ma_copyRowOf 58 = .ok (.aload_n 0, 1) := by decide +kernel
theorem d_Ma_copyRowOf_59 : decode b_Ma_copyRowOf 59 = .ok (.getfield 21, 3) := by decide +kernel
theorem d_Ma_copyRowOf_62 : decode b_Ma_copyRowOf 62 = .ok (.getfield 66, 3) := by decide +kernel
theorem d_Ma_copyRowOf_65 : decode b_Ma_copyRowOf 65 = .ok (.aload_n 1, 1) := by decide +kernel
theorem d_Ma_copyRowOf_66 : decode b_Ma_copyRowOf 66 = .ok (.getfield 21, 3) := by decide +kernel
theorem d_Ma_copyRowOf_69 : decode b_Ma_copyRowOf 69 = .ok (.getfield 66, 3) := by decide +kernel
theorem d_Ma_copyRowOf_72 : decode b_Ma_copyRowOf 72 = .ok (.iload_n 2, 1) := by decide +kernel
theorem d_Ma_copyRowOf_73 : decode b_Ma_copyRowOf 73 = .ok (.invokevirtual 54, 3) := by decide +kernel
theorem d_Ma_copyRowOf_76 : decode b_Ma_copyRowOf 76 = .ok (.checkcast 75, 3) := by decide +kernel
theorem d_Ma_copyRowOf_79 : decode b_Ma_copyRowOf 79 = .ok (.invokevirtual 50, 3) := by decide +kernel
theorem d_Ma_copyRowOf_82 : decode b_Ma_copyRowOf 82 = .ok (.pop, 1) := by decide +kernel
theorem d_Ma_copyRowOf_83 : decode b_Ma_copyRowOf 83 = .ok (.iinc 2 1, 3) := by decide +kernel
theorem d_Ma_copyRowOf_86 : decode b_Ma_copyRowOf 86 = .ok (.goto (-42), 3) := by decide +kernel
theorem d_Ma_copyRowOf_89 : decode b_Ma_copyRowOf 89 = .ok (.aload_n 0, 1) := by decide +kernel
theorem d_Ma_copyRowOf_90 : decode b_Ma_copyRowOf 90 = .ok (.getfield 21, 3) := by decide +kernel
theorem d_Ma_copyRowOf_93 : decode b_Ma_copyRowOf 93 = .ok (.aload_n 1, 1) := by decide +kernel
theorem d_Ma_copyRowOf_94 : decode b_Ma_copyRowOf 94 = .ok (.getfield 21, 3) := by decide +kernel
theorem d_Ma_copyRowOf_97 : decode b_Ma_copyRowOf 97 = .ok (.getfield 69, 3) := by decide +kernel
theorem q_81 : Cond.fieldLink "TwinKeepers$Machine" 69 "TwinKeepers$KeyMap" "units" "I" ∈ xT := xin 81 (by decide +kernel) (by decide +kernel)
theorem d_Ma_copyRowOf_100 : decode b_Ma_copyRowOf 100 = .ok (.putfield 69, 3) := by decide +kernel
theorem d_Ma_copyRowOf_103 : decode b_Ma_copyRowOf 103 = .ok (.return_, 1) := by decide +kernel
abbrev b_Ma_forget : ByteArray := prog_4_method_6_code
def y_Ma_forget : MethodName := ⟨"TwinKeepers$Machine", "forget", "()V"⟩
theorem kc_Ma_forget : Cond.code y_Ma_forget b_Ma_forget 1 none ∈ xT := xin 873 (by decide +kernel) (by decide +kernel)
theorem k_Ma_forget : xCode y_Ma_forget b_Ma_forget 1 none [] := Or.inl ⟨rfl, kc_Ma_forget⟩
theorem h_Ma_forget : plainFor y_Ma_forget = true ∧ (y_Ma_forget.cls ≠ "java/lang/invoke/MethodHandle" ∧ y_Ma_forget.cls ≠ "java/lang/invoke/VarHandle") ∧ (parseMethodDescriptor y_Ma_forget.desc).map (fun d => d.parameters.length) = some 0 := by decide +kernel
theorem v_Ma_forget : Cond.instanceMethod y_Ma_forget ∈ xT := xin 871 (by decide +kernel) (by decide +kernel)
theorem e_Ma_forget : Cond.selects "TwinKeepers$Machine" y_Ma_forget y_Ma_forget ∈ xT := xin 872 (by decide +kernel) (by decide +kernel)
theorem d_Ma_forget_0 : decode b_Ma_forget 0 = .ok (.aload_n 0, 1) := by decide +kernel
theorem d_Ma_forget_1 : decode b_Ma_forget 1 = .ok (.getfield 12, 3) := by decide +kernel
theorem d_Ma_forget_4 : decode b_Ma_forget 4 = .ok (.invokevirtual 63, 3) := by decide +kernel
theorem q_874 : Cond.methodLink "TwinKeepers$Machine" 63 ⟨"java/util/ArrayList", "clear", "()V"⟩ ∈ xT := xin 874 (by decide +kernel) (by decide +kernel)
theorem d_Ma_forget_7 : decode b_Ma_forget 7 = .ok (.aload_n 0, 1) := by decide +kernel
theorem d_Ma_forget_8 : decode b_Ma_forget 8 = .ok (.getfield 21, 3) := by decide +kernel
theorem d_Ma_forget_11 : decode b_Ma_forget 11 = .ok (.getfield 66, 3) := by decide +kernel
theorem d_Ma_forget_14 : decode b_Ma_forget 14 = .ok (.invokevirtual 63, 3) := by decide +kernel
theorem d_Ma_forget_17 : decode b_Ma_forget 17 = .ok (.aload_n 0, 1) := by decide +kernel
theorem d_Ma_forget_18 : decode b_Ma_forget 18 = .ok (.getfield 21, 3) := by decide +kernel
theorem d_Ma_forget_21 : decode b_Ma_forget 21 = .ok (.iconst 0, 1) := by decide +kernel
theorem d_Ma_forget_22 : decode b_Ma_forget 22 = .ok (.putfield 69, 3) := by decide +kernel
theorem d_Ma_forget_25 : decode b_Ma_forget 25 = .ok (.return_, 1) := by decide +kernel
abbrev b_TK_clear : ByteArray := prog_1_method_8_code
def y_TK_clear : MethodName := ⟨"TwinKeepers", "clear", "(I)I"⟩
theorem kc_TK_clear : Cond.code y_TK_clear b_TK_clear 4 (some .int) ∈ xT := xin 885 (by decide +kernel) (by decide +kernel)
theorem k_TK_clear : xCode y_TK_clear b_TK_clear 4 (some .int) [] := Or.inl ⟨rfl, kc_TK_clear⟩
theorem h_TK_clear : plainFor y_TK_clear = true ∧ (y_TK_clear.cls ≠ "java/lang/invoke/MethodHandle" ∧ y_TK_clear.cls ≠ "java/lang/invoke/VarHandle") ∧ (parseMethodDescriptor y_TK_clear.desc).map (fun d => d.parameters.length) = some 1 := by decide +kernel
theorem v_TK_clear : Cond.instanceMethod y_TK_clear ∈ xT := xin 883 (by decide +kernel) (by decide +kernel)
theorem e_TK_clear : Cond.selects "TwinKeepers" y_TK_clear y_TK_clear ∈ xT := xin 884 (by decide +kernel) (by decide +kernel)
theorem d_TK_clear_0 : decode b_TK_clear 0 = .ok (.aload_n 0, 1) := by decide +kernel
theorem d_TK_clear_1 : decode b_TK_clear 1 = .ok (.iload_n 1, 1) := by decide +kernel
theorem d_TK_clear_2 : decode b_TK_clear 2 = .ok (.invokevirtual 49, 3) := by decide +kernel
theorem d_TK_clear_5 : decode b_TK_clear 5 = .ok (.astore_n 2, 1) := by decide +kernel
theorem d_TK_clear_6 : decode b_TK_clear 6 = .ok (.aload_n 2, 1) := by decide +kernel
theorem d_TK_clear_7 : decode b_TK_clear 7 = .ok (.getfield 119, 3) := by decide +kernel
theorem d_TK_clear_10 : decode b_TK_clear 10 = .ok (.getfield 163, 3) := by decide +kernel
theorem q_79 : Cond.fieldLink "TwinKeepers" 163 "TwinKeepers$KeyMap" "entries" "Ljava/util/ArrayList;" ∈ xT := xin 79 (by decide +kernel) (by decide +kernel)
theorem d_TK_clear_13 : decode b_TK_clear 13 = .ok (.invokevirtual 67, 3) := by decide +kernel
theorem d_TK_clear_16 : decode b_TK_clear 16 = .ok (.istore_n 3, 1) := by decide +kernel
theorem d_TK_clear_17 : decode b_TK_clear 17 = .ok (.aload_n 2, 1) := by decide +kernel
theorem d_TK_clear_18 : decode b_TK_clear 18 = .ok (.invokevirtual 168, 3) := by decide +kernel
theorem q_886 : Cond.methodLink "TwinKeepers" 168 ⟨"TwinKeepers$Machine", "forget", "()V"⟩ ∈ xT := xin 886 (by decide +kernel) (by decide +kernel)
theorem d_TK_clear_21 : decode b_TK_clear 21 = .ok (.iload_n 3, 1) := by decide +kernel
theorem d_TK_clear_22 : decode b_TK_clear 22 = .ok (.ireturn, 1) := by decide +kernel
abbrev b_TK_session : ByteArray := prog_1_method_9_code
def y_TK_session : MethodName := ⟨"TwinKeepers", "session", "(III)I"⟩
theorem kc_TK_session : Cond.code y_TK_session b_TK_session 6 (some .int) ∈ xT := xin 893 (by decide +kernel) (by decide +kernel)
theorem k_TK_session : xCode y_TK_session b_TK_session 6 (some .int) [] := Or.inl ⟨rfl, kc_TK_session⟩
theorem h_TK_session : plainFor y_TK_session = true ∧ (y_TK_session.cls ≠ "java/lang/invoke/MethodHandle" ∧ y_TK_session.cls ≠ "java/lang/invoke/VarHandle") ∧ (parseMethodDescriptor y_TK_session.desc).map (fun d => d.parameters.length) = some 3 := by decide +kernel
theorem v_TK_session : Cond.instanceMethod y_TK_session ∈ xT := xin 891 (by decide +kernel) (by decide +kernel)
theorem e_TK_session : Cond.selects "TwinKeepers" y_TK_session y_TK_session ∈ xT := xin 892 (by decide +kernel) (by decide +kernel)
theorem d_TK_session_0 : decode b_TK_session 0 = .ok (.aload_n 0, 1) := by decide +kernel
theorem d_TK_session_1 : decode b_TK_session 1 = .ok (.iload_n 1, 1) := by decide +kernel
theorem d_TK_session_2 : decode b_TK_session 2 = .ok (.invokevirtual 49, 3) := by decide +kernel
theorem d_TK_session_5 : decode b_TK_session 5 = .ok (.astore 4, 2) := by decide +kernel
theorem d_TK_session_7 : decode b_TK_session 7 = .ok (.iload_n 2, 1) := by decide +kernel
theorem d_TK_session_8 : decode b_TK_session 8 = .ok (.ifCond .lt 15, 3) := by decide +kernel
theorem d_TK_session_11 : decode b_TK_session 11 = .ok (.iload_n 2, 1) := by decide +kernel
theorem d_TK_session_12 : decode b_TK_session 12 = .ok (.aload 4, 2) := by decide +kernel
theorem d_TK_session_14 : decode b_TK_session 14 = .ok (.getfield 63, 3) := by decide +kernel
theorem d_TK_session_17 : decode b_TK_session 17 = .ok (.invokevirtual 67, 3) := by decide +kernel
theorem d_TK_session_20 : decode b_TK_session 20 = .ok (.if_icmp .lt 13, 3) := by decide +kernel
theorem d_TK_session_23 : decode b_TK_session 23 = .ok (.new 171, 3) := by decide +kernel
theorem d_TK_session_26 : decode b_TK_session 26 = .ok (.dup, 1) := by decide +kernel
theorem d_TK_session_27 : decode b_TK_session 27 = .ok (.ldc 173, 2) := by decide +kernel
theorem d_TK_session_29 : decode b_TK_session 29 = .ok (.invokespecial 175, 3) := by decide +kernel
theorem d_TK_session_32 : decode b_TK_session 32 = .ok (.athrow, 1) := by decide +kernel
theorem d_TK_session_33 : decode b_TK_session 33 = .ok (.aload 4, 2) := by decide +kernel
theorem d_TK_session_35 : decode b_TK_session 35 = .ok (.getfield 63, 3) := by decide +kernel
theorem d_TK_session_38 : decode b_TK_session 38 = .ok (.iload_n 2, 1) := by decide +kernel
theorem d_TK_session_39 : decode b_TK_session 39 = .ok (.invokevirtual 92, 3) := by decide +kernel
theorem d_TK_session_42 : decode b_TK_session 42 = .ok (.checkcast 96, 3) := by decide +kernel
theorem d_TK_session_45 : decode b_TK_session 45 = .ok (.astore 5, 2) := by decide +kernel
theorem d_TK_session_47 : decode b_TK_session 47 = .ok (.iload_n 3, 1) := by decide +kernel
theorem d_TK_session_48 : decode b_TK_session 48 = .ok (.tableswitch 67 0 4 #[36, 42, 48, 54, 60], 36) := by decide +kernel
theorem d_TK_session_84 : decode b_TK_session 84 = .ok (.aload 5, 2) := by decide +kernel
theorem d_TK_session_86 : decode b_TK_session 86 = .ok (.getfield 176, 3) := by decide +kernel
theorem q_313 : Cond.fieldLink "TwinKeepers" 176 "TwinKeepers$Session" "number" "I" ∈ xT := xin 313 (by decide +kernel) (by decide +kernel)
theorem d_TK_session_89 : decode b_TK_session 89 = .ok (.ireturn, 1) := by decide +kernel
theorem d_TK_session_90 : decode b_TK_session 90 = .ok (.aload 5, 2) := by decide +kernel
theorem d_TK_session_92 : decode b_TK_session 92 = .ok (.getfield 179, 3) := by decide +kernel
theorem q_316 : Cond.fieldLink "TwinKeepers" 179 "TwinKeepers$Session" "used" "I" ∈ xT := xin 316 (by decide +kernel) (by decide +kernel)
theorem d_TK_session_95 : decode b_TK_session 95 = .ok (.ireturn, 1) := by decide +kernel
theorem d_TK_session_96 : decode b_TK_session 96 = .ok (.aload 5, 2) := by decide +kernel
theorem d_TK_session_98 : decode b_TK_session 98 = .ok (.getfield 106, 3) := by decide +kernel
theorem d_TK_session_101 : decode b_TK_session 101 = .ok (.ireturn, 1) := by decide +kernel
theorem d_TK_session_102 : decode b_TK_session 102 = .ok (.aload 5, 2) := by decide +kernel
theorem d_TK_session_104 : decode b_TK_session 104 = .ok (.getfield 116, 3) := by decide +kernel
theorem d_TK_session_107 : decode b_TK_session 107 = .ok (.ireturn, 1) := by decide +kernel
theorem d_TK_session_108 : decode b_TK_session 108 = .ok (.aload 5, 2) := by decide +kernel
theorem d_TK_session_110 : decode b_TK_session 110 = .ok (.getfield 109, 3) := by decide +kernel
theorem d_TK_session_113 : decode b_TK_session 113 = .ok (.arraylength, 1) := by decide +kernel
theorem d_TK_session_114 : decode b_TK_session 114 = .ok (.ireturn, 1) := by decide +kernel
theorem d_TK_session_115 : decode b_TK_session 115 = .ok (.new 171, 3) := by decide +kernel
theorem d_TK_session_118 : decode b_TK_session 118 = .ok (.dup, 1) := by decide +kernel
theorem d_TK_session_119 : decode b_TK_session 119 = .ok (.ldc 182, 2) := by decide +kernel
theorem d_TK_session_121 : decode b_TK_session 121 = .ok (.invokespecial 175, 3) := by decide +kernel
theorem d_TK_session_124 : decode b_TK_session 124 = .ok (.athrow, 1) := by decide +kernel
abbrev b_TK_key : ByteArray := prog_1_method_10_code
def y_TK_key : MethodName := ⟨"TwinKeepers", "key", "(III)I"⟩
theorem kc_TK_key : Cond.code y_TK_key b_TK_key 6 (some .int) ∈ xT := xin 902 (by decide +kernel) (by decide +kernel)
theorem k_TK_key : xCode y_TK_key b_TK_key 6 (some .int) [] := Or.inl ⟨rfl, kc_TK_key⟩
theorem h_TK_key : plainFor y_TK_key = true ∧ (y_TK_key.cls ≠ "java/lang/invoke/MethodHandle" ∧ y_TK_key.cls ≠ "java/lang/invoke/VarHandle") ∧ (parseMethodDescriptor y_TK_key.desc).map (fun d => d.parameters.length) = some 3 := by decide +kernel
theorem v_TK_key : Cond.instanceMethod y_TK_key ∈ xT := xin 900 (by decide +kernel) (by decide +kernel)
theorem e_TK_key : Cond.selects "TwinKeepers" y_TK_key y_TK_key ∈ xT := xin 901 (by decide +kernel) (by decide +kernel)
theorem d_TK_key_0 : decode b_TK_key 0 = .ok (.aload_n 0, 1) := by decide +kernel
theorem d_TK_key_1 : decode b_TK_key 1 = .ok (.iload_n 1, 1) := by decide +kernel
theorem d_TK_key_2 : decode b_TK_key 2 = .ok (.invokevirtual 49, 3) := by decide +kernel
theorem d_TK_key_5 : decode b_TK_key 5 = .ok (.astore 4, 2) := by decide +kernel
theorem d_TK_key_7 : decode b_TK_key 7 = .ok (.iload_n 2, 1) := by decide +kernel
theorem d_TK_key_8 : decode b_TK_key 8 = .ok (.ifCond .lt 18, 3) := by decide +kernel
theorem d_TK_key_11 : decode b_TK_key 11 = .ok (.iload_n 2, 1) := by decide +kernel
theorem d_TK_key_12 : decode b_TK_key 12 = .ok (.aload 4, 2) := by decide +kernel
theorem d_TK_key_14 : decode b_TK_key 14 = .ok (.getfield 119, 3) := by decide +kernel
theorem d_TK_key_17 : decode b_TK_key 17 = .ok (.getfield 163, 3) := by decide +kernel
theorem d_TK_key_20 : decode b_TK_key 20 = .ok (.invokevirtual 67, 3) := by decide +kernel
theorem d_TK_key_23 : decode b_TK_key 23 = .ok (.if_icmp .lt 13, 3) := by decide +kernel
theorem d_TK_key_26 : decode b_TK_key 26 = .ok (.new 171, 3) := by decide +kernel
theorem d_TK_key_29 : decode b_TK_key 29 = .ok (.dup, 1) := by decide +kernel
theorem d_TK_key_30 : decode b_TK_key 30 = .ok (.ldc 184, 2) := by decide +kernel
theorem d_TK_key_32 : decode b_TK_key 32 = .ok (.invokespecial 175, 3) := by decide +kernel
theorem d_TK_key_35 : decode b_TK_key 35 = .ok (.athrow, 1) := by decide +kernel
theorem d_TK_key_36 : decode b_TK_key 36 = .ok (.iload_n 3, 1) := by decide +kernel
theorem d_TK_key_37 : decode b_TK_key 37 = .ok (.ifCond .lt 8, 3) := by decide +kernel
theorem d_TK_key_40 : decode b_TK_key 40 = .ok (.iload_n 3, 1) := by decide +kernel
theorem d_TK_key_41 : decode b_TK_key 41 = .ok (.iconst 1, 1) := by decide +kernel
theorem d_TK_key_42 : decode b_TK_key 42 = .ok (.if_icmp .le 13, 3) := by decide +kernel
theorem d_TK_key_45 : decode b_TK_key 45 = .ok (.new 171, 3) := by decide +kernel
theorem d_TK_key_48 : decode b_TK_key 48 = .ok (.dup, 1) := by decide +kernel
theorem d_TK_key_49 : decode b_TK_key 49 = .ok (.ldc 186, 2) := by decide +kernel
theorem d_TK_key_51 : decode b_TK_key 51 = .ok (.invokespecial 175, 3) := by decide +kernel
theorem d_TK_key_54 : decode b_TK_key 54 = .ok (.athrow, 1) := by decide +kernel
theorem d_TK_key_55 : decode b_TK_key 55 = .ok (.aload 4, 2) := by decide +kernel
theorem d_TK_key_57 : decode b_TK_key 57 = .ok (.getfield 119, 3) := by decide +kernel
theorem d_TK_key_60 : decode b_TK_key 60 = .ok (.getfield 163, 3) := by decide +kernel
theorem d_TK_key_63 : decode b_TK_key 63 = .ok (.iload_n 2, 1) := by decide +kernel
theorem d_TK_key_64 : decode b_TK_key 64 = .ok (.invokevirtual 92, 3) := by decide +kernel
theorem d_TK_key_67 : decode b_TK_key 67 = .ok (.checkcast 188, 3) := by decide +kernel
theorem q_905 : Cond.classLink "TwinKeepers" 188 "TwinKeepers$Entry" ∈ xT := xin 905 (by decide +kernel) (by decide +kernel)
theorem d_TK_key_70 : decode b_TK_key 70 = .ok (.astore 5, 2) := by decide +kernel
theorem d_TK_key_72 : decode b_TK_key 72 = .ok (.aload_n 0, 1) := by decide +kernel
theorem d_TK_key_73 : decode b_TK_key 73 = .ok (.getfield 26, 3) := by decide +kernel
theorem d_TK_key_76 : decode b_TK_key 76 = .ok (.invokevirtual 85, 3) := by decide +kernel
theorem d_TK_key_79 : decode b_TK_key 79 = .ok (.aload_n 0, 1) := by decide +kernel
theorem d_TK_key_80 : decode b_TK_key 80 = .ok (.getfield 26, 3) := by decide +kernel
theorem d_TK_key_83 : decode b_TK_key 83 = .ok (.iload_n 3, 1) := by decide +kernel
theorem d_TK_key_84 : decode b_TK_key 84 = .ok (.ifCond .ne 11, 3) := by decide +kernel
theorem d_TK_key_87 : decode b_TK_key 87 = .ok (.aload 5, 2) := by decide +kernel
theorem d_TK_key_89 : decode b_TK_key 89 = .ok (.getfield 190, 3) := by decide +kernel
theorem q_712 : Cond.fieldLink "TwinKeepers" 190 "TwinKeepers$Entry" "key" "[B" ∈ xT := xin 712 (by decide +kernel) (by decide +kernel)
theorem d_TK_key_92 : decode b_TK_key 92 = .ok (.goto 8, 3) := by decide +kernel
theorem d_TK_key_95 : decode b_TK_key 95 = .ok (.aload 5, 2) := by decide +kernel
theorem d_TK_key_97 : decode b_TK_key 97 = .ok (.getfield 193, 3) := by decide +kernel
theorem q_715 : Cond.fieldLink "TwinKeepers" 193 "TwinKeepers$Entry" "value" "[B" ∈ xT := xin 715 (by decide +kernel) (by decide +kernel)
theorem d_TK_key_100 : decode b_TK_key 100 = .ok (.invokevirtual 112, 3) := by decide +kernel
theorem d_TK_key_103 : decode b_TK_key 103 = .ok (.aload_n 0, 1) := by decide +kernel
theorem d_TK_key_104 : decode b_TK_key 104 = .ok (.getfield 26, 3) := by decide +kernel
theorem d_TK_key_107 : decode b_TK_key 107 = .ok (.getfield 143, 3) := by decide +kernel
theorem d_TK_key_110 : decode b_TK_key 110 = .ok (.ireturn, 1) := by decide +kernel
abbrev b_TK_state : ByteArray := prog_1_method_11_code
def y_TK_state : MethodName := ⟨"TwinKeepers", "state", "(II)I"⟩
theorem kc_TK_state : Cond.code y_TK_state b_TK_state 4 (some .int) ∈ xT := xin 912 (by decide +kernel) (by decide +kernel)
theorem k_TK_state : xCode y_TK_state b_TK_state 4 (some .int) [] := Or.inl ⟨rfl, kc_TK_state⟩
theorem h_TK_state : plainFor y_TK_state = true ∧ (y_TK_state.cls ≠ "java/lang/invoke/MethodHandle" ∧ y_TK_state.cls ≠ "java/lang/invoke/VarHandle") ∧ (parseMethodDescriptor y_TK_state.desc).map (fun d => d.parameters.length) = some 2 := by decide +kernel
theorem v_TK_state : Cond.instanceMethod y_TK_state ∈ xT := xin 910 (by decide +kernel) (by decide +kernel)
theorem e_TK_state : Cond.selects "TwinKeepers" y_TK_state y_TK_state ∈ xT := xin 911 (by decide +kernel) (by decide +kernel)
theorem d_TK_state_0 : decode b_TK_state 0 = .ok (.aload_n 0, 1) := by decide +kernel
theorem d_TK_state_1 : decode b_TK_state 1 = .ok (.iload_n 1, 1) := by decide +kernel
theorem d_TK_state_2 : decode b_TK_state 2 = .ok (.invokevirtual 49, 3) := by decide +kernel
theorem d_TK_state_5 : decode b_TK_state 5 = .ok (.astore_n 3, 1) := by decide +kernel
theorem d_TK_state_6 : decode b_TK_state 6 = .ok (.iload_n 2, 1) := by decide +kernel
theorem d_TK_state_7 : decode b_TK_state 7 = .ok (.tableswitch 70 0 4 #[33, 41, 52, 60, 65], 33) := by decide +kernel
theorem d_TK_state_40 : decode b_TK_state 40 = .ok (.aload_n 3, 1) := by decide +kernel
theorem d_TK_state_41 : decode b_TK_state 41 = .ok (.getfield 63, 3) := by decide +kernel
theorem d_TK_state_44 : decode b_TK_state 44 = .ok (.invokevirtual 67, 3) := by decide +kernel
theorem d_TK_state_47 : decode b_TK_state 47 = .ok (.ireturn, 1) := by decide +kernel
theorem d_TK_state_48 : decode b_TK_state 48 = .ok (.aload_n 3, 1) := by decide +kernel
theorem d_TK_state_49 : decode b_TK_state 49 = .ok (.getfield 119, 3) := by decide +kernel
theorem d_TK_state_52 : decode b_TK_state 52 = .ok (.getfield 163, 3) := by decide +kernel
theorem d_TK_state_55 : decode b_TK_state 55 = .ok (.invokevirtual 67, 3) := by decide +kernel
theorem d_TK_state_58 : decode b_TK_state 58 = .ok (.ireturn, 1) := by decide +kernel
theorem d_TK_state_59 : decode b_TK_state 59 = .ok (.aload_n 3, 1) := by decide +kernel
theorem d_TK_state_60 : decode b_TK_state 60 = .ok (.getfield 119, 3) := by decide +kernel
theorem d_TK_state_63 : decode b_TK_state 63 = .ok (.getfield 196, 3) := by decide +kernel
theorem q_82 : Cond.fieldLink "TwinKeepers" 196 "TwinKeepers$KeyMap" "units" "I" ∈ xT := xin 82 (by decide +kernel) (by decide +kernel)
theorem d_TK_state_66 : decode b_TK_state 66 = .ok (.ireturn, 1) := by decide +kernel
theorem d_TK_state_67 : decode b_TK_state 67 = .ok (.aload_n 3, 1) := by decide +kernel
theorem d_TK_state_68 : decode b_TK_state 68 = .ok (.invokevirtual 199, 3) := by decide +kernel
theorem q_913 : Cond.methodLink "TwinKeepers" 199 ⟨"TwinKeepers$Machine", "rowBytes", "()I"⟩ ∈ xT := xin 913 (by decide +kernel) (by decide +kernel)
theorem d_TK_state_71 : decode b_TK_state 71 = .ok (.ireturn, 1) := by decide +kernel
theorem d_TK_state_72 : decode b_TK_state 72 = .ok (.aload_n 3, 1) := by decide +kernel
theorem d_TK_state_73 : decode b_TK_state 73 = .ok (.getfield 82, 3) := by decide +kernel
theorem d_TK_state_76 : decode b_TK_state 76 = .ok (.ireturn, 1) := by decide +kernel
theorem d_TK_state_77 : decode b_TK_state 77 = .ok (.new 171, 3) := by decide +kernel
theorem d_TK_state_80 : decode b_TK_state 80 = .ok (.dup, 1) := by decide +kernel
theorem d_TK_state_81 : decode b_TK_state 81 = .ok (.ldc 202, 2) := by decide +kernel
theorem d_TK_state_83 : decode b_TK_state 83 = .ok (.invokespecial 175, 3) := by decide +kernel
theorem d_TK_state_86 : decode b_TK_state 86 = .ok (.athrow, 1) := by decide +kernel
abbrev b_Ma_rowBytes : ByteArray := prog_4_method_11_code
def y_Ma_rowBytes : MethodName := ⟨"TwinKeepers$Machine", "rowBytes", "()I"⟩
theorem kc_Ma_rowBytes : Cond.code y_Ma_rowBytes b_Ma_rowBytes 3 (some .int) ∈ xT := xin 916 (by decide +kernel) (by decide +kernel)
theorem k_Ma_rowBytes : xCode y_Ma_rowBytes b_Ma_rowBytes 3 (some .int) [] := Or.inl ⟨rfl, kc_Ma_rowBytes⟩
theorem h_Ma_rowBytes : plainFor y_Ma_rowBytes = true ∧ (y_Ma_rowBytes.cls ≠ "java/lang/invoke/MethodHandle" ∧ y_Ma_rowBytes.cls ≠ "java/lang/invoke/VarHandle") ∧ (parseMethodDescriptor y_Ma_rowBytes.desc).map (fun d => d.parameters.length) = some 0 := by decide +kernel
theorem v_Ma_rowBytes : Cond.instanceMethod y_Ma_rowBytes ∈ xT := xin 914 (by decide +kernel) (by decide +kernel)
theorem e_Ma_rowBytes : Cond.selects "TwinKeepers$Machine" y_Ma_rowBytes y_Ma_rowBytes ∈ xT := xin 915 (by decide +kernel) (by decide +kernel)
theorem d_Ma_rowBytes_0 : decode b_Ma_rowBytes 0 = .ok (.bipush 8, 2) := by decide +kernel
theorem d_Ma_rowBytes_2 : decode b_Ma_rowBytes 2 = .ok (.istore_n 1, 1) := by decide +kernel
theorem d_Ma_rowBytes_3 : decode b_Ma_rowBytes 3 = .ok (.iconst 0, 1) := by decide +kernel
theorem d_Ma_rowBytes_4 : decode b_Ma_rowBytes 4 = .ok (.istore_n 2, 1) := by decide +kernel
theorem d_Ma_rowBytes_5 : decode b_Ma_rowBytes 5 = .ok (.iload_n 2, 1) := by decide +kernel
theorem d_Ma_rowBytes_6 : decode b_Ma_rowBytes 6 = .ok (.aload_n 0, 1) := by decide +kernel
theorem d_Ma_rowBytes_7 : decode b_Ma_rowBytes 7 = .ok (.getfield 12, 3) := by decide +kernel
theorem d_Ma_rowBytes_10 : decode b_Ma_rowBytes 10 = .ok (.invokevirtual 30, 3) := by decide +kernel
theorem d_Ma_rowBytes_13 : decode b_Ma_rowBytes 13 = .ok (.if_icmp .ge 26, 3) := by decide +kernel
theorem d_Ma_rowBytes_16 : decode b_Ma_rowBytes 16 = .ok (.iload_n 1, 1) := by decide +kernel
theorem d_Ma_rowBytes_17 : decode b_Ma_rowBytes 17 = .ok (.aload_n 0, 1) := by decide +kernel
theorem d_Ma_rowBytes_18 : decode b_Ma_rowBytes 18 = .ok (.getfield 12, 3) := by decide +kernel
theorem d_Ma_rowBytes_21 : decode b_Ma_rowBytes 21 = .ok (.iload_n 2, 1) := by decide +kernel
theorem d_Ma_rowBytes_22 : decode b_Ma_rowBytes 22 = .ok (.invokevirtual 54, 3) := by decide +kernel
theorem d_Ma_rowBytes_25 : decode b_Ma_rowBytes 25 = .ok (.checkcast 41, 3) := by decide +kernel
theorem d_Ma_rowBytes_28 : decode b_Ma_rowBytes 28 = .ok (.invokevirtual 91, 3) := by decide +kernel
theorem q_917 : Cond.methodLink "TwinKeepers$Machine" 91 ⟨"TwinKeepers$Session", "rowBytes", "()I"⟩ ∈ xT := xin 917 (by decide +kernel) (by decide +kernel)
theorem d_Ma_rowBytes_31 : decode b_Ma_rowBytes 31 = .ok (.iadd, 1) := by decide +kernel
theorem d_Ma_rowBytes_32 : decode b_Ma_rowBytes 32 = .ok (.istore_n 1, 1) := by decide +kernel
theorem d_Ma_rowBytes_33 : decode b_Ma_rowBytes 33 = .ok (.iinc 2 1, 3) := by decide +kernel
theorem d_Ma_rowBytes_36 : decode b_Ma_rowBytes 36 = .ok (.goto (-31), 3) := by decide +kernel
theorem d_Ma_rowBytes_39 : decode b_Ma_rowBytes 39 = .ok (.iconst 0, 1) := by decide +kernel
theorem d_Ma_rowBytes_40 : decode b_Ma_rowBytes 40 = .ok (.istore_n 2, 1) := by decide +kernel
theorem d_Ma_rowBytes_41 : decode b_Ma_rowBytes 41 = .ok (.iload_n 2, 1) := by decide +kernel
theorem d_Ma_rowBytes_42 : decode b_Ma_rowBytes 42 = .ok (.aload_n 0, 1) := by decide +kernel
theorem d_Ma_rowBytes_43 : decode b_Ma_rowBytes 43 = .ok (.getfield 21, 3) := by decide +kernel
theorem d_Ma_rowBytes_46 : decode b_Ma_rowBytes 46 = .ok (.getfield 66, 3) := by decide +kernel
theorem d_Ma_rowBytes_49 : decode b_Ma_rowBytes 49 = .ok (.invokevirtual 30, 3) := by decide +kernel
theorem d_Ma_rowBytes_52 : decode b_Ma_rowBytes 52 = .ok (.if_icmp .ge 29, 3) := by decide +kernel
theorem d_Ma_rowBytes_55 : decode b_Ma_rowBytes 55 = .ok (.iload_n 1, 1) := by decide +kernel
theorem d_Ma_rowBytes_56 : decode b_Ma_rowBytes 56 = .ok (.aload_n 0, 1) := by decide +kernel
theorem d_Ma_rowBytes_57 : decode b_Ma_rowBytes 57 = .ok (.getfield 21, 3) := by decide +kernel
theorem d_Ma_rowBytes_60 : decode b_Ma_rowBytes 60 = .ok (.getfield 66, 3) := by decide +kernel
theorem d_Ma_rowBytes_63 : decode b_Ma_rowBytes 63 = .ok (.iload_n 2, 1) := by decide +kernel
theorem d_Ma_rowBytes_64 : decode b_Ma_rowBytes 64 = .ok (.invokevirtual 54, 3) := by decide +kernel
theorem d_Ma_rowBytes_67 : decode b_Ma_rowBytes 67 = .ok (.checkcast 75, 3) := by decide +kernel
theorem d_Ma_rowBytes_70 : decode b_Ma_rowBytes 70 = .ok (.invokevirtual 94, 3) := by decide +kernel
theorem q_921 : Cond.methodLink "TwinKeepers$Machine" 94 ⟨"TwinKeepers$Entry", "rowBytes", "()I"⟩ ∈ xT := xin 921 (by decide +kernel) (by decide +kernel)
theorem d_Ma_rowBytes_73 : decode b_Ma_rowBytes 73 = .ok (.iadd, 1) := by decide +kernel
theorem d_Ma_rowBytes_74 : decode b_Ma_rowBytes 74 = .ok (.istore_n 1, 1) := by decide +kernel
theorem d_Ma_rowBytes_75 : decode b_Ma_rowBytes 75 = .ok (.iinc 2 1, 3) := by decide +kernel
theorem d_Ma_rowBytes_78 : decode b_Ma_rowBytes 78 = .ok (.goto (-37), 3) := by decide +kernel
theorem d_Ma_rowBytes_81 : decode b_Ma_rowBytes 81 = .ok (.iload_n 1, 1) := by decide +kernel
theorem d_Ma_rowBytes_82 : decode b_Ma_rowBytes 82 = .ok (.ireturn, 1) := by decide +kernel
abbrev b_Se_rowBytes : ByteArray := prog_6_method_5_code
def y_Se_rowBytes : MethodName := ⟨"TwinKeepers$Session", "rowBytes", "()I"⟩
theorem kc_Se_rowBytes : Cond.code y_Se_rowBytes b_Se_rowBytes 1 (some .int) ∈ xT := xin 920 (by decide +kernel) (by decide +kernel)
theorem k_Se_rowBytes : xCode y_Se_rowBytes b_Se_rowBytes 1 (some .int) [] := Or.inl ⟨rfl, kc_Se_rowBytes⟩
theorem h_Se_rowBytes : plainFor y_Se_rowBytes = true ∧ (y_Se_rowBytes.cls ≠ "java/lang/invoke/MethodHandle" ∧ y_Se_rowBytes.cls ≠ "java/lang/invoke/VarHandle") ∧ (parseMethodDescriptor y_Se_rowBytes.desc).map (fun d => d.parameters.length) = some 0 := by decide +kernel
theorem v_Se_rowBytes : Cond.instanceMethod y_Se_rowBytes ∈ xT := xin 918 (by decide +kernel) (by decide +kernel)
theorem e_Se_rowBytes : Cond.selects "TwinKeepers$Session" y_Se_rowBytes y_Se_rowBytes ∈ xT := xin 919 (by decide +kernel) (by decide +kernel)
theorem d_Se_rowBytes_0 : decode b_Se_rowBytes 0 = .ok (.bipush 18, 2) := by decide +kernel
theorem d_Se_rowBytes_2 : decode b_Se_rowBytes 2 = .ok (.aload_n 0, 1) := by decide +kernel
theorem d_Se_rowBytes_3 : decode b_Se_rowBytes 3 = .ok (.getfield 22, 3) := by decide +kernel
theorem d_Se_rowBytes_6 : decode b_Se_rowBytes 6 = .ok (.arraylength, 1) := by decide +kernel
theorem d_Se_rowBytes_7 : decode b_Se_rowBytes 7 = .ok (.iadd, 1) := by decide +kernel
theorem d_Se_rowBytes_8 : decode b_Se_rowBytes 8 = .ok (.ireturn, 1) := by decide +kernel
abbrev b_En_rowBytes : ByteArray := prog_2_method_4_code
def y_En_rowBytes : MethodName := ⟨"TwinKeepers$Entry", "rowBytes", "()I"⟩
theorem kc_En_rowBytes : Cond.code y_En_rowBytes b_En_rowBytes 1 (some .int) ∈ xT := xin 924 (by decide +kernel) (by decide +kernel)
theorem k_En_rowBytes : xCode y_En_rowBytes b_En_rowBytes 1 (some .int) [] := Or.inl ⟨rfl, kc_En_rowBytes⟩
theorem h_En_rowBytes : plainFor y_En_rowBytes = true ∧ (y_En_rowBytes.cls ≠ "java/lang/invoke/MethodHandle" ∧ y_En_rowBytes.cls ≠ "java/lang/invoke/VarHandle") ∧ (parseMethodDescriptor y_En_rowBytes.desc).map (fun d => d.parameters.length) = some 0 := by decide +kernel
theorem v_En_rowBytes : Cond.instanceMethod y_En_rowBytes ∈ xT := xin 922 (by decide +kernel) (by decide +kernel)
theorem e_En_rowBytes : Cond.selects "TwinKeepers$Entry" y_En_rowBytes y_En_rowBytes ∈ xT := xin 923 (by decide +kernel) (by decide +kernel)
theorem d_En_rowBytes_0 : decode b_En_rowBytes 0 = .ok (.iconst 3, 1) := by decide +kernel
theorem d_En_rowBytes_1 : decode b_En_rowBytes 1 = .ok (.aload_n 0, 1) := by decide +kernel
theorem d_En_rowBytes_2 : decode b_En_rowBytes 2 = .ok (.getfield 9, 3) := by decide +kernel
theorem d_En_rowBytes_5 : decode b_En_rowBytes 5 = .ok (.arraylength, 1) := by decide +kernel
theorem d_En_rowBytes_6 : decode b_En_rowBytes 6 = .ok (.iadd, 1) := by decide +kernel
theorem d_En_rowBytes_7 : decode b_En_rowBytes 7 = .ok (.aload_n 0, 1) := by decide +kernel
theorem d_En_rowBytes_8 : decode b_En_rowBytes 8 = .ok (.getfield 15, 3) := by decide +kernel
theorem d_En_rowBytes_11 : decode b_En_rowBytes 11 = .ok (.arraylength, 1) := by decide +kernel
theorem d_En_rowBytes_12 : decode b_En_rowBytes 12 = .ok (.iadd, 1) := by decide +kernel
theorem d_En_rowBytes_13 : decode b_En_rowBytes 13 = .ok (.ireturn, 1) := by decide +kernel
abbrev b_TK_byteAt : ByteArray := prog_1_method_13_code
def y_TK_byteAt : MethodName := ⟨"TwinKeepers", "byteAt", "(I)I"⟩
theorem kc_TK_byteAt : Cond.code y_TK_byteAt b_TK_byteAt 2 (some .int) ∈ xT := xin 932 (by decide +kernel) (by decide +kernel)
theorem k_TK_byteAt : xCode y_TK_byteAt b_TK_byteAt 2 (some .int) [] := Or.inl ⟨rfl, kc_TK_byteAt⟩
theorem h_TK_byteAt : plainFor y_TK_byteAt = true ∧ (y_TK_byteAt.cls ≠ "java/lang/invoke/MethodHandle" ∧ y_TK_byteAt.cls ≠ "java/lang/invoke/VarHandle") ∧ (parseMethodDescriptor y_TK_byteAt.desc).map (fun d => d.parameters.length) = some 1 := by decide +kernel
theorem v_TK_byteAt : Cond.instanceMethod y_TK_byteAt ∈ xT := xin 930 (by decide +kernel) (by decide +kernel)
theorem e_TK_byteAt : Cond.selects "TwinKeepers" y_TK_byteAt y_TK_byteAt ∈ xT := xin 931 (by decide +kernel) (by decide +kernel)
theorem d_TK_byteAt_0 : decode b_TK_byteAt 0 = .ok (.iload_n 1, 1) := by decide +kernel
theorem d_TK_byteAt_1 : decode b_TK_byteAt 1 = .ok (.ifCond .lt 14, 3) := by decide +kernel
theorem d_TK_byteAt_4 : decode b_TK_byteAt 4 = .ok (.iload_n 1, 1) := by decide +kernel
theorem d_TK_byteAt_5 : decode b_TK_byteAt 5 = .ok (.aload_n 0, 1) := by decide +kernel
theorem d_TK_byteAt_6 : decode b_TK_byteAt 6 = .ok (.getfield 26, 3) := by decide +kernel
theorem d_TK_byteAt_9 : decode b_TK_byteAt 9 = .ok (.getfield 143, 3) := by decide +kernel
theorem d_TK_byteAt_12 : decode b_TK_byteAt 12 = .ok (.if_icmp .lt 13, 3) := by decide +kernel
theorem d_TK_byteAt_15 : decode b_TK_byteAt 15 = .ok (.new 171, 3) := by decide +kernel
theorem d_TK_byteAt_18 : decode b_TK_byteAt 18 = .ok (.dup, 1) := by decide +kernel
theorem d_TK_byteAt_19 : decode b_TK_byteAt 19 = .ok (.ldc 204, 2) := by decide +kernel
theorem d_TK_byteAt_21 : decode b_TK_byteAt 21 = .ok (.invokespecial 175, 3) := by decide +kernel
theorem d_TK_byteAt_24 : decode b_TK_byteAt 24 = .ok (.athrow, 1) := by decide +kernel
theorem d_TK_byteAt_25 : decode b_TK_byteAt 25 = .ok (.aload_n 0, 1) := by decide +kernel
theorem d_TK_byteAt_26 : decode b_TK_byteAt 26 = .ok (.getfield 26, 3) := by decide +kernel
theorem d_TK_byteAt_29 : decode b_TK_byteAt 29 = .ok (.getfield 206, 3) := by decide +kernel
theorem q_108 : Cond.fieldLink "TwinKeepers" 206 "TwinKeepers$Row" "bytes" "[B" ∈ xT := xin 108 (by decide +kernel) (by decide +kernel)
theorem d_TK_byteAt_32 : decode b_TK_byteAt 32 = .ok (.iload_n 1, 1) := by decide +kernel
theorem d_TK_byteAt_33 : decode b_TK_byteAt 33 = .ok (.baload, 1) := by decide +kernel
theorem d_TK_byteAt_34 : decode b_TK_byteAt 34 = .ok (.sipush 255, 3) := by decide +kernel
theorem d_TK_byteAt_37 : decode b_TK_byteAt 37 = .ok (.iand, 1) := by decide +kernel
theorem d_TK_byteAt_38 : decode b_TK_byteAt 38 = .ok (.ireturn, 1) := by decide +kernel
end
section
/-! JDK: the leaves that ArrayList, Arrays stand on. -/
set_option maxRecDepth 100000 in
set_option maxHeartbeats 4000000 in
theorem c_PC_checkIndex {l : Launch} {D : va_G} {H0 : Heap} {X : xH} {j N : Nat} (hj : j < N) (hN : N < 2 ^ 31) : xMet l D H0 y_PC_checkIndex b_PC_checkIndex 3 (some .int) [] 0 0 0 [.int (nI j), .int (nI N), .null] X (fun o X' => o = .inl (some (.int (nI j))) ∧ X' = X) := by
  refine ⟨[some (.int (nI j)), some (.int (nI N)), some .null], rfl, Nat.le_of_ble_eq_true rfl, fun E hD hH hl _ C => ?_⟩
  subst hD
  subst hH
  subst hl
  refine xr_iload_n C d_PC_checkIndex_0 1 rfl rfl ?_
  refine xr_if_lt C d_PC_checkIndex_1 4 9 rfl (by decide) (fun h => absurd h (nI_pos (by omega))) (fun _ => ?_)
  refine xr_iload_n C d_PC_checkIndex_4 5 rfl rfl ?_
  refine xr_iload_n C d_PC_checkIndex_5 6 rfl rfl ?_
  refine xr_icmp_lt C d_PC_checkIndex_6 9 16 rfl (by decide) (fun _ => ?_) (fun h => absurd (nI_lt hj hN) h)
  refine xr_iload_n C d_PC_checkIndex_16 17 rfl rfl ?_
  exact xr_iret C d_PC_checkIndex_17 (by omega) (by omega) ⟨rfl, rfl⟩
set_option maxRecDepth 100000 in
set_option maxHeartbeats 4000000 in
theorem c_OB_checkIndex {l : Launch} {D : va_G} {H0 : Heap} {X : xH} {j N : Nat} (hj : j < N) (hN : N < 2 ^ 31) : xMet l D H0 y_OB_checkIndex b_OB_checkIndex 2 (some .int) [] 1 0 0 [.int (nI j), .int (nI N)] X (fun o X' => o = .inl (some (.int (nI j))) ∧ X' = X) := by
  refine ⟨[some (.int (nI j)), some (.int (nI N))], rfl, Nat.le_of_ble_eq_true rfl, fun E hD hH hl _ C => ?_⟩
  subst hD
  subst hH
  subst hl
  refine xr_iload_n C d_OB_checkIndex_0 1 rfl rfl ?_
  refine xr_iload_n C d_OB_checkIndex_1 2 rfl rfl ?_
  refine xr_null C d_OB_checkIndex_2 3 rfl ?_
  refine xr_callS C (c_PC_checkIndex hj hN) k_PC_checkIndex d_OB_checkIndex_3 6 rfl (Or.inl q_285) s_PC_checkIndex in_PC_checkIndex h_PC_checkIndex rfl ⟨Nat.le_of_ble_eq_true rfl, Nat.le_of_ble_eq_true rfl, Nat.le_of_ble_eq_true rfl⟩ (by omega) (by omega) (fun v X' hP => ?_) (fun _ _ h => absurd h.1 (by simp))
  obtain ⟨h1, rfl⟩ := hP
  cases h1
  exact xr_iret C d_OB_checkIndex_6 (by omega) (by omega) ⟨rfl, rfl⟩
set_option maxRecDepth 100000 in
set_option maxHeartbeats 4000000 in
theorem c_AC_init {l : Launch} {D : va_G} {H0 : Heap} {X : xH} {a : Nat} : xMet l D H0 y_AC_init b_AC_init 1 none [] 0 0 0 [.ref a] X (fun o X' => o = .inl none ∧ X' = X) := by
  refine ⟨[some (.ref a)], rfl, Nat.le_of_ble_eq_true rfl, fun E hD hH hl _ C => ?_⟩
  subst hD
  subst hH
  subst hl
  refine xr_aload_n C d_AC_init_0 1 rfl rfl ?_
  refine xr_objInit C d_AC_init_1 4 rfl q_54 w_oi w_oc (Nat.le_of_ble_eq_true rfl) ?_
  exact xr_vret C d_AC_init_4 (by omega) (by omega) ⟨rfl, rfl⟩
set_option maxRecDepth 100000 in
set_option maxHeartbeats 4000000 in
theorem c_AB_init {l : Launch} {D : va_G} {H0 : Heap} {X : xH} {a : Nat} {m0 : Int32} {v1 v2 : Value} (ha : X a = some (.inr (7, [.int m0, v1, v2]))) : xMet l D H0 y_AB_init b_AB_init 1 none [] 1 0 0 [.ref a] X (fun o X' => o = .inl none ∧ X' = xup X a (.inr (7, [.int 0, v1, v2]))) := by
  refine ⟨[some (.ref a)], rfl, Nat.le_of_ble_eq_true rfl, fun E hD hH hl _ C => ?_⟩
  subst hD
  subst hH
  subst hl
  refine xr_aload_n C d_AB_init_0 1 rfl rfl ?_
  refine xr_callI C c_AC_init kc_AC_init d_AB_init_1 4 rfl (Or.inl q_51) v_AC_init rfl h_AC_init rfl ⟨Nat.le_of_ble_eq_true rfl, Nat.le_of_ble_eq_true rfl, Nat.le_of_ble_eq_true rfl⟩ (by omega) (by omega) (fun v X' hP => ?_) (fun _ _ h => absurd h.1 (by simp))
  obtain ⟨h1, rfl⟩ := hP
  cases h1
  refine xr_aload_n C d_AB_init_4 5 rfl rfl ?_
  refine xr_iconst (v := 0) C d_AB_init_5 6 rfl (by decide) ?_
  refine xr_put C K_AL 0 d_AB_init_6 9 rfl q_59 (Or.inl rfl) rfl rfl rfl rfl (by first | assumption | exact xup_self | exact (xup_ne (by assumption)).trans (by assumption) | exact (xup_ne (Ne.symm (by assumption))).trans (by assumption) | exact (xup_ne (by assumption)).trans xup_self | exact (xup_ne (Ne.symm (by assumption))).trans xup_self) rfl rfl ?_
  exact xr_vret C d_AB_init_9 (by omega) (by omega) ⟨rfl, rfl⟩
set_option maxRecDepth 100000 in
set_option maxHeartbeats 4000000 in
theorem c_AL_init {l : Launch} {D : va_G} {H0 : Heap} {X : xH} {a : Nat} {m0 : Int32} {v1 v2 : Value} (ha : X a = some (.inr (7, [.int m0, v1, v2]))) : xMet l D H0 y_AL_init b_AL_init 1 none [] 2 0 0 [.ref a] X (fun o X' => o = .inl none ∧ X' = xup X a (.inr (7, [.int 0, .ref (D.2 200 1), v2]))) := by
  refine ⟨[some (.ref a)], rfl, Nat.le_of_ble_eq_true rfl, fun E hD hH hl _ C => ?_⟩
  subst hD
  subst hH
  subst hl
  refine xr_aload_n C d_AL_init_0 1 rfl rfl ?_
  refine xr_callI C (c_AB_init ha) kc_AB_init d_AL_init_1 4 rfl (Or.inl q_48) v_AB_init rfl h_AB_init rfl ⟨Nat.le_of_ble_eq_true rfl, Nat.le_of_ble_eq_true rfl, Nat.le_of_ble_eq_true rfl⟩ (by omega) (by omega) (fun v X' hP => ?_) (fun _ _ h => absurd h.1 (by simp))
  obtain ⟨h1, rfl⟩ := hP
  cases h1
  refine xr_aload_n C d_AL_init_4 5 rfl rfl ?_
  refine xr_gets C C.kk.2.2.2.1 d_AL_init_5 8 rfl (Or.inl q_55) ?_
  refine xr_put C K_AL 1 d_AL_init_8 11 rfl q_57 (Or.inl rfl) rfl rfl rfl rfl (by first | assumption | exact xup_self | exact (xup_ne (by assumption)).trans (by assumption) | exact (xup_ne (Ne.symm (by assumption))).trans (by assumption) | exact (xup_ne (by assumption)).trans xup_self | exact (xup_ne (Ne.symm (by assumption))).trans xup_self) rfl rfl ?_
  refine xG.eqX xup_up ?_
  exact xr_vret C d_AL_init_11 (by omega) (by omega) ⟨rfl, rfl⟩
set_option maxRecDepth 100000 in
set_option maxHeartbeats 4000000 in
theorem c_AL_size {l : Launch} {D : va_G} {H0 : Heap} {X : xH} {a : Nat} {v0 v1 : Value} {n : Int32} (ha : X a = some (.inr (7, [v0, v1, .int n]))) : xMet l D H0 y_AL_size b_AL_size 1 (some .int) [] 0 0 0 [.ref a] X (fun o X' => o = .inl (some (.int n)) ∧ X' = X) := by
  refine ⟨[some (.ref a)], rfl, Nat.le_of_ble_eq_true rfl, fun E hD hH hl _ C => ?_⟩
  subst hD
  subst hH
  subst hl
  refine xr_aload_n C d_AL_size_0 1 rfl rfl ?_
  refine xr_get C K_AL 2 d_AL_size_1 4 rfl q_58 (Or.inl rfl) rfl (by first | assumption | exact xup_self | exact (xup_ne (by assumption)).trans (by assumption) | exact (xup_ne (Ne.symm (by assumption))).trans (by assumption) | exact (xup_ne (by assumption)).trans xup_self | exact (xup_ne (Ne.symm (by assumption))).trans xup_self) rfl ?_
  exact xr_iret C d_AL_size_4 (by omega) (by omega) ⟨rfl, rfl⟩
set_option maxRecDepth 100000 in
set_option maxHeartbeats 4000000 in
theorem c_AL_elementData {l : Launch} {D : va_G} {H0 : Heap} {X : xH} {a b cap j q : Nat} {v0 v2 : Value} {f : Nat → Option Nat} (ha : X a = some (.inr (7, [v0, .ref b, v2]))) (hb : X b = some (.inl (D.1 101, cap, .inr (.inr (.inr (.inr f)))))) (hj : j < cap) (hc : cap < 2 ^ 31) (hf : f j = some q) : xMet l D H0 y_AL_elementData b_AL_elementData 2 (some (.object "java/lang/Object")) [] 0 0 0 [.ref a, .int (nI j)] X (fun o X' => o = .inl (some (.ref q)) ∧ X' = X) := by
  refine ⟨[some (.ref a), some (.int (nI j))], rfl, Nat.le_of_ble_eq_true rfl, fun E hD hH hl _ C => ?_⟩
  subst hD
  subst hH
  subst hl
  refine xr_aload_n C d_AL_elementData_0 1 rfl rfl ?_
  refine xr_get C K_AL 1 d_AL_elementData_1 4 rfl q_57 (Or.inl rfl) rfl (by first | assumption | exact xup_self | exact (xup_ne (by assumption)).trans (by assumption) | exact (xup_ne (Ne.symm (by assumption))).trans (by assumption) | exact (xup_ne (by assumption)).trans xup_self | exact (xup_ne (Ne.symm (by assumption))).trans xup_self) rfl ?_
  refine xr_iload_n C d_AL_elementData_4 5 rfl rfl ?_
  refine xr_aald C d_AL_elementData_5 6 rfl hb rfl hj hc hf ?_
  exact xr_aret C d_AL_elementData_6 (Or.inl ⟨_, rfl⟩) (by omega) (by omega) ⟨rfl, rfl⟩
set_option maxRecDepth 100000 in
set_option maxHeartbeats 4000000 in
theorem c_AL_get {l : Launch} {D : va_G} {H0 : Heap} {X : xH} {a b cap j q n : Nat} {v0 : Value} {f : Nat → Option Nat} (ha : X a = some (.inr (7, [v0, .ref b, .int (nI n)]))) (hb : X b = some (.inl (D.1 101, cap, .inr (.inr (.inr (.inr f)))))) (hj : j < n) (hn : n ≤ cap) (hc : cap < 2 ^ 31) (hf : f j = some q) : xMet l D H0 y_AL_get b_AL_get 2 (some (.object "java/lang/Object")) [] 2 0 0 [.ref a, .int (nI j)] X (fun o X' => o = .inl (some (.ref q)) ∧ X' = X) := by
  refine ⟨[some (.ref a), some (.int (nI j))], rfl, Nat.le_of_ble_eq_true rfl, fun E hD hH hl _ C => ?_⟩
  subst hD
  subst hH
  subst hl
  refine xr_iload_n C d_AL_get_0 1 rfl rfl ?_
  refine xr_aload_n C d_AL_get_1 2 rfl rfl ?_
  refine xr_get C K_AL 2 d_AL_get_2 5 rfl q_58 (Or.inl rfl) rfl (by first | assumption | exact xup_self | exact (xup_ne (by assumption)).trans (by assumption) | exact (xup_ne (Ne.symm (by assumption))).trans (by assumption) | exact (xup_ne (by assumption)).trans xup_self | exact (xup_ne (Ne.symm (by assumption))).trans xup_self) rfl ?_
  refine xr_callS C (c_OB_checkIndex hj (by omega)) k_OB_checkIndex d_AL_get_5 8 rfl (Or.inl q_282) s_OB_checkIndex in_OB_checkIndex h_OB_checkIndex rfl ⟨Nat.le_of_ble_eq_true rfl, Nat.le_of_ble_eq_true rfl, Nat.le_of_ble_eq_true rfl⟩ (by omega) (by omega) (fun v X' hP => ?_) (fun _ _ h => absurd h.1 (by simp))
  obtain ⟨h1, rfl⟩ := hP
  cases h1
  refine xr_pop C d_AL_get_8 9 rfl rfl ?_
  refine xr_aload_n C d_AL_get_9 10 rfl rfl ?_
  refine xr_iload_n C d_AL_get_10 11 rfl rfl ?_
  refine xr_callV C (c_AL_elementData ha hb (by omega) hc hf) k_AL_elementData d_AL_get_11 14 rfl (by first | assumption | exact xup_self | exact (xup_ne (by assumption)).trans (by assumption) | exact (xup_ne (Ne.symm (by assumption))).trans (by assumption) | exact (xup_ne (by assumption)).trans xup_self | exact (xup_ne (Ne.symm (by assumption))).trans xup_self) rfl (Or.inl q_288) v_AL_elementData e_AL_elementData h_AL_elementData rfl ⟨Nat.le_of_ble_eq_true rfl, Nat.le_of_ble_eq_true rfl, Nat.le_of_ble_eq_true rfl⟩ (by omega) (by omega) (fun v X' hP => ?_) (fun _ _ h => absurd h.1 (by simp))
  obtain ⟨h1, rfl⟩ := hP
  cases h1
  exact xr_aret C d_AL_get_14 (Or.inl ⟨_, rfl⟩) (by omega) (by omega) ⟨rfl, rfl⟩
end
section
/-! JDK: ArrayList. -/
/-- an object that may stand in a list -/
def xOb (X : xH) (q : Nat) : Prop := ∃ (ci : Nat) (vs : List Value) (r : vw_C), X q = some (.inr (ci, vs)) ∧ xcl[ci]? = some r ∧ Cond.castable r.1 "java/lang/Object" ∈ xT
/-- what a method leaves alone: all cells but those of S; arrays of no elements always; no cell goes away -/
def xFr (S : List Nat) (X X' : xH) : Prop := (∀ (q : Nat) (v : va_E), X q = some v → (q ∉ S ∨ xz v) → X' q = some v) ∧ ∀ q : Nat, X' q = none → X q = none
theorem xFr.rf {S : List Nat} {X : xH} : xFr S X X := ⟨fun _ _ h _ => h, fun _ h => h⟩
theorem xFr.trans {S : List Nat} {X X' X'' : xH} (h1 : xFr S X X') (h2 : xFr S X' X'') : xFr S X X'' := ⟨fun q v h hs => h2.1 q v (h1.1 q v h hs) hs, fun q h => h1.2 q (h2.2 q h)⟩
theorem xFr.mono {S S' : List Nat} {X X' : xH} (h : xFr S X X') (hs : ∀ q ∈ S, q ∈ S') : xFr S' X X' := ⟨fun q v hq hn => h.1 q v hq (hn.imp (fun h1 h2 => h1 (hs q h2)) id), h.2⟩
theorem xup_dom {X Y : xH} {a : Nat} {v : va_E} (h : ∀ q : Nat, Y q = none → X q = none) : ∀ q : Nat, xup Y a v q = none → X q = none := fun q hq => by
  by_cases e : q = a
  · subst e
    rw [xup_self] at hq
    cases hq
  · rw [xup_ne e] at hq
    exact h q hq
theorem xFr.fresh {S : List Nat} {X Y : xH} {a : Nat} {v : va_E} (h : xFr S X Y) (h0 : X a = none) : xFr S X (xup Y a v) := ⟨fun q w hq hn => (xup_ne (xne_none hq h0)).trans (h.1 q w hq hn), xup_dom h.2⟩
theorem xFr.at {S : List Nat} {X Y : xH} {a : Nat} {v0 v : va_E} (h : xFr S X Y) (h0 : X a = some v0) (hz : ¬ xz v0) (ha : a ∈ S) : xFr S X (xup Y a v) := ⟨fun q w hq hn => by
  by_cases e : q = a
  · subst e
    cases h0.symm.trans hq
    exact (hn.elim (fun h => h ha) hz).elim
  · exact (xup_ne e).trans (h.1 q w hq hn), xup_dom h.2⟩
theorem xFr_up {S : List Nat} {X : xH} {a : Nat} {v0 v : va_E} (h0 : X a = some v0) (hz : ¬ xz v0) (ha : a ∈ S) : xFr S X (xup X a v) := xFr.rf.at h0 hz ha
theorem xFr_new {S : List Nat} {X : xH} {a : Nat} {v : va_E} (h0 : X a = none) : xFr S X (xup X a v) := xFr.rf.fresh h0
theorem xFr.use {S : List Nat} {X X' : xH} {q : Nat} {v : va_E} (h : xFr S X X') (hq : X q = some v) (hn : q ∉ S) : X' q = some v := h.1 q v hq (Or.inl hn)
theorem xFr.ob {S : List Nat} {X X' : xH} {q : Nat} (h : xFr S X X') (hq : xOb X q) (hn : q ∉ S) : xOb X' q := by
  obtain ⟨ci, vs, r, h1, h2⟩ := hq
  exact ⟨ci, vs, r, h.use h1 hn, h2⟩
/-- a list at a, its array at b, holding the objects as -/
def xLi (D : va_G) (X : xH) (a b cap : Nat) (as : List Nat) : Prop := ∃ (mo : Int32) (f : Nat → Option Nat), X a = some (.inr (7, [.int mo, .ref b, .int (nI as.length)])) ∧ X b = some (.inl (D.1 101, cap, .inr (.inr (.inr (.inr f))))) ∧ as.length ≤ cap ∧ cap ≤ 200 ∧ (cap = 0 → b = D.2 200 1) ∧ ∀ i, i < as.length → f i = some (as.getD i 0)
theorem xLi.keep {D : va_G} {X X' : xH} {S : List Nat} {a b cap : Nat} {as : List Nat} (h : xLi D X a b cap as) (hf : xFr S X X') (ha : a ∉ S) (hb : b ∉ S) : xLi D X' a b cap as := by
  obtain ⟨mo, f, h1, h2, h3⟩ := h
  exact ⟨mo, f, hf.use h1 ha, hf.use h2 hb, h3⟩
/-- how a full list of room c grows -/
def nx (c : Nat) : Nat := if c = 0 then 10 else c + (if 1 < c / 2 then c / 2 else 1)
theorem nI_one (n : Nat) : nI n + 1 = nI (n + 1) := nI_1 n
theorem nI_dec {n : Nat} (h : 0 < n) : nI n - 1 = nI (n - 1) := by
  obtain ⟨k, rfl⟩ : ∃ k, n = k + 1 := ⟨n - 1, by omega⟩
  exact nI_pred k
set_option maxRecDepth 100000 in
set_option maxHeartbeats 4000000 in
theorem c_AL_set {l : Launch} {D : va_G} {H0 : Heap} {X : xH} {a b cap j q v n : Nat} {v0 : Value} {f : Nat → Option Nat} (ha : X a = some (.inr (7, [v0, .ref b, .int (nI n)]))) (hb : X b = some (.inl (D.1 101, cap, .inr (.inr (.inr (.inr f)))))) (hj : j < n) (hn : n ≤ cap) (hc : cap < 2 ^ 31) (hf : f j = some q) (hv : xOb X v) : xMet l D H0 y_AL_set b_AL_set 4 (some (.object "java/lang/Object")) [] 2 0 0 [.ref a, .int (nI j), .ref v] X (fun o X' => o = .inl (some (.ref q)) ∧ X' = xup X b (.inl (D.1 101, cap, .inr (.inr (.inr (.inr (va_up f j (some v)))))))) := by
  refine ⟨[some (.ref a), some (.int (nI j)), some (.ref v), none], rfl, Nat.le_of_ble_eq_true rfl, fun E hD hH hl _ C => ?_⟩
  subst hD
  subst hH
  subst hl
  refine xr_iload_n C d_AL_set_0 1 rfl rfl ?_
  refine xr_aload_n C d_AL_set_1 2 rfl rfl ?_
  refine xr_get C K_AL 2 d_AL_set_2 5 rfl q_58 (Or.inl rfl) rfl (by first | assumption | exact xup_self | exact (xup_ne (by assumption)).trans (by assumption) | exact (xup_ne (Ne.symm (by assumption))).trans (by assumption) | exact (xup_ne (by assumption)).trans xup_self | exact (xup_ne (Ne.symm (by assumption))).trans xup_self) rfl ?_
  refine xr_callS C (c_OB_checkIndex hj (by omega)) k_OB_checkIndex d_AL_set_5 8 rfl (Or.inl q_282) s_OB_checkIndex in_OB_checkIndex h_OB_checkIndex rfl ⟨Nat.le_of_ble_eq_true rfl, Nat.le_of_ble_eq_true rfl, Nat.le_of_ble_eq_true rfl⟩ (by omega) (by omega) (fun v X' hP => ?_) (fun _ _ h => absurd h.1 (by simp))
  obtain ⟨h1, rfl⟩ := hP
  cases h1
  refine xr_pop C d_AL_set_8 9 rfl rfl ?_
  refine xr_aload_n C d_AL_set_9 10 rfl rfl ?_
  refine xr_iload_n C d_AL_set_10 11 rfl rfl ?_
  refine xr_callV C (c_AL_elementData ha hb (by omega) hc hf) k_AL_elementData d_AL_set_11 14 rfl (by first | assumption | exact xup_self | exact (xup_ne (by assumption)).trans (by assumption) | exact (xup_ne (Ne.symm (by assumption))).trans (by assumption) | exact (xup_ne (by assumption)).trans xup_self | exact (xup_ne (Ne.symm (by assumption))).trans xup_self) rfl (Or.inl q_288) v_AL_elementData e_AL_elementData h_AL_elementData rfl ⟨Nat.le_of_ble_eq_true rfl, Nat.le_of_ble_eq_true rfl, Nat.le_of_ble_eq_true rfl⟩ (by omega) (by omega) (fun v X' hP => ?_) (fun _ _ h => absurd h.1 (by simp))
  obtain ⟨h1, rfl⟩ := hP
  cases h1
  refine xr_astore_n C d_AL_set_14 15 rfl rfl rfl ?_
  refine xr_aload_n C d_AL_set_15 16 rfl rfl ?_
  refine xr_get C K_AL 1 d_AL_set_16 19 rfl q_57 (Or.inl rfl) rfl (by first | assumption | exact xup_self | exact (xup_ne (by assumption)).trans (by assumption) | exact (xup_ne (Ne.symm (by assumption))).trans (by assumption) | exact (xup_ne (by assumption)).trans xup_self | exact (xup_ne (Ne.symm (by assumption))).trans xup_self) rfl ?_
  refine xr_iload_n C d_AL_set_19 20 rfl rfl ?_
  refine xr_aload_n C d_AL_set_20 21 rfl rfl ?_
  obtain ⟨ci, vs, r, o1, o2, o3⟩ := hv
  refine xr_aast C d_AL_set_21 22 rfl hb rfl (by omega) hc o1 o2 o3 ?_
  refine xr_aload_n C d_AL_set_22 23 rfl rfl ?_
  exact xr_aret C d_AL_set_23 (Or.inl ⟨_, rfl⟩) (by omega) (by omega) ⟨rfl, rfl⟩
set_option maxRecDepth 100000 in
set_option maxHeartbeats 4000000 in
theorem c_AL_fastRemove {l : Launch} {D : va_G} {H0 : Heap} {X : xH} {a b cap j n : Nat} {mo : Int32} {f : Nat → Option Nat} (ha : X a = some (.inr (7, [.int mo, .ref b, .int (nI n)]))) (hb : X b = some (.inl (D.1 101, cap, .inr (.inr (.inr (.inr f)))))) (hj : j < n) (hn : n ≤ cap) (hc : cap < 2 ^ 31) (hel : ∀ i, i < n → ∀ q, f i = some q → xOb X q) : xMet l D H0 y_AL_fastRemove b_AL_fastRemove 4 none [] 0 0 0 [.ref a, .ref b, .int (nI j)] X (fun o X' => o = .inl none ∧ ∃ (mo' : Int32) (f' : Nat → Option Nat), X' = xup (xup X a (.inr (7, [.int mo', .ref b, .int (nI (n - 1))]))) b (.inl (D.1 101, cap, .inr (.inr (.inr (.inr f'))))) ∧ ∀ i, i < n - 1 → f' i = if i < j then f i else f (i + 1)) := by
  refine ⟨[some (.ref a), some (.ref b), some (.int (nI j)), none], rfl, Nat.le_of_ble_eq_true rfl, fun E hD hH hl _ C => ?_⟩
  subst hD
  subst hH
  subst hl
  have hab : a ≠ b := xne ha hb (by intro h; cases h)
  refine xr_aload_n C d_AL_fastRemove_0 1 rfl rfl ?_
  refine xr_dup C d_AL_fastRemove_1 2 rfl rfl ?_
  refine xr_get C K_AL 0 d_AL_fastRemove_2 5 rfl q_60 (Or.inr q_61) rfl (by first | assumption | exact xup_self | exact (xup_ne (by assumption)).trans (by assumption) | exact (xup_ne (Ne.symm (by assumption))).trans (by assumption) | exact (xup_ne (by assumption)).trans xup_self | exact (xup_ne (Ne.symm (by assumption))).trans xup_self) rfl ?_
  refine xr_iconst (v := 1) C d_AL_fastRemove_5 6 rfl (by decide) ?_
  refine xr_iadd C d_AL_fastRemove_6 7 rfl ?_
  refine xr_put C K_AL 0 d_AL_fastRemove_7 10 rfl q_60 (Or.inr q_61) rfl rfl rfl rfl (by first | assumption | exact xup_self | exact (xup_ne (by assumption)).trans (by assumption) | exact (xup_ne (Ne.symm (by assumption))).trans (by assumption) | exact (xup_ne (by assumption)).trans xup_self | exact (xup_ne (Ne.symm (by assumption))).trans xup_self) rfl rfl ?_
  refine xr_aload_n C d_AL_fastRemove_10 11 rfl rfl ?_
  refine xr_get C K_AL 2 d_AL_fastRemove_11 14 rfl q_58 (Or.inl rfl) rfl (by first | assumption | exact xup_self | exact (xup_ne (by assumption)).trans (by assumption) | exact (xup_ne (Ne.symm (by assumption))).trans (by assumption) | exact (xup_ne (by assumption)).trans xup_self | exact (xup_ne (Ne.symm (by assumption))).trans xup_self) rfl ?_
  refine xr_iconst (v := 1) C d_AL_fastRemove_14 15 rfl (by decide) ?_
  refine xr_isub C d_AL_fastRemove_15 16 rfl ?_
  refine xr_toi (nI_dec (by omega)) ?_
  refine xr_dup C d_AL_fastRemove_16 17 rfl rfl ?_
  refine xr_istore_n C d_AL_fastRemove_17 18 rfl rfl rfl ?_
  refine xr_iload_n C d_AL_fastRemove_18 19 rfl rfl ?_
  refine xr_icmp_le C d_AL_fastRemove_19 22 34 rfl (by decide) (fun h19 => ?_) (fun h19 => ?_)
  · have hjn : n - 1 ≤ j := (nI_leI (by omega) (by omega)).mp h19
    refine xr_aload_n C d_AL_fastRemove_34 35 rfl rfl ?_
    refine xr_aload_n C d_AL_fastRemove_35 36 rfl rfl ?_
    refine xr_iload_n C d_AL_fastRemove_36 37 rfl rfl ?_
    refine xr_dup_x1 C d_AL_fastRemove_37 38 rfl rfl rfl ?_
    refine xr_put C K_AL 2 d_AL_fastRemove_38 41 rfl q_58 (Or.inl rfl) rfl rfl rfl rfl (by first | assumption | exact xup_self | exact (xup_ne (by assumption)).trans (by assumption) | exact (xup_ne (Ne.symm (by assumption))).trans (by assumption) | exact (xup_ne (by assumption)).trans xup_self | exact (xup_ne (Ne.symm (by assumption))).trans xup_self) rfl rfl ?_
    refine xr_null C d_AL_fastRemove_41 42 rfl ?_
    refine xr_aastN C d_AL_fastRemove_42 43 rfl (N := cap) ((xup_ne (Ne.symm hab)).trans ((xup_ne (Ne.symm hab)).trans hb)) rfl (by omega) hc ?_
    refine xr_vret C d_AL_fastRemove_43 (by omega) (by omega) ⟨rfl, mo + 1, va_up f (n - 1) none, ?_, fun i hi => ?_⟩
    · rw [xup_up]
      rfl
    · rw [if_pos (by omega)]
      exact va_up_ne _ _ (by omega)
  · have hjn : j < n - 1 := by
      rcases Nat.lt_or_ge j (n - 1) with h | h
      · exact h
      · exact absurd ((nI_leI (by omega) (by omega)).mpr h) h19
    refine xr_aload_n C d_AL_fastRemove_22 23 rfl rfl ?_
    refine xr_iload_n C d_AL_fastRemove_23 24 rfl rfl ?_
    refine xr_iconst (v := 1) C d_AL_fastRemove_24 25 rfl (by decide) ?_
    refine xr_iadd C d_AL_fastRemove_25 26 rfl ?_
    refine xr_aload_n C d_AL_fastRemove_26 27 rfl rfl ?_
    refine xr_iload_n C d_AL_fastRemove_27 28 rfl rfl ?_
    refine xr_iload_n C d_AL_fastRemove_28 29 rfl rfl ?_
    refine xr_iload_n C d_AL_fastRemove_29 30 rfl rfl ?_
    refine xr_isub C d_AL_fastRemove_30 31 rfl ?_
    refine xr_toi (pk_sub (by omega)) ?_
    refine xG.eqS (show _ = [Value.int (nI (n - 1 - j)), Value.int (nI j), Value.ref b, Value.int (nI (j + 1)), Value.ref b] from by rw [nI_one]) ?_
    refine xr_copyq C d_AL_fastRemove_31 34 rfl q_301 w_copy ((xup_ne (Ne.symm hab)).trans hb) ((xup_ne (Ne.symm hab)).trans hb) (by omega) (by omega) hc hc (by omega) (Nat.le_of_ble_eq_true rfl) (fun i hi q hq => ?_) ?_
    · obtain ⟨ci, vs, r, o1, o2, o3⟩ := hel (j + 1 + i) (by omega) q hq
      by_cases hqa : q = a
      · subst hqa
        exact ⟨7, _, _, xup_self, rfl, (by cases ha.symm.trans o1; exact (by cases o2; exact o3))⟩
      · exact ⟨ci, vs, r, (xup_ne hqa).trans o1, o2, o3⟩
    refine xr_aload_n C d_AL_fastRemove_34 35 rfl rfl ?_
    refine xr_aload_n C d_AL_fastRemove_35 36 rfl rfl ?_
    refine xr_iload_n C d_AL_fastRemove_36 37 rfl rfl ?_
    refine xr_dup_x1 C d_AL_fastRemove_37 38 rfl rfl rfl ?_
    refine xr_put C K_AL 2 d_AL_fastRemove_38 41 rfl q_58 (Or.inl rfl) rfl rfl rfl rfl (by first | assumption | exact xup_self | exact (xup_ne (by assumption)).trans (by assumption) | exact (xup_ne (Ne.symm (by assumption))).trans (by assumption) | exact (xup_ne (by assumption)).trans xup_self | exact (xup_ne (Ne.symm (by assumption))).trans xup_self) rfl rfl ?_
    refine xr_null C d_AL_fastRemove_41 42 rfl ?_
    refine xr_aastN C d_AL_fastRemove_42 43 rfl (N := cap) ((xup_ne (Ne.symm hab)).trans xup_self) rfl (by omega) hc ?_
    refine xr_vret C d_AL_fastRemove_43 (by omega) (by omega) ⟨rfl, mo + 1, va_up (va_cpy f f (j + 1) j (n - 1 - j)) (n - 1) none, ?_, fun i hi => ?_⟩
    · rw [xup_comm (Ne.symm hab), xup_up, xup_up]
      rfl
    · rw [va_up_ne _ _ (by omega)]
      by_cases hij : i < j
      · rw [if_pos hij]
        exact pk_cpy_out (Or.inl hij)
      · rw [if_neg hij, pk_cpy_in (by omega) (by omega)]
        congr 1
        omega
end
section
/-! JDK: ArrayList grows. -/
set_option maxRecDepth 100000 in
set_option maxHeartbeats 4000000 in
theorem c_AS_newLength {l : Launch} {D : va_G} {H0 : Heap} {X : xH} {o0 m0 p0 : Nat} (ho : o0 < 1000000) (hm : m0 < 1000000) (hp : p0 < 1000000) (h0 : 0 < m0) : xMet l D H0 y_AS_newLength b_AS_newLength 4 (some .int) [] 0 0 0 [.int (nI o0), .int (nI m0), .int (nI p0)] X (fun o X' => o = .inl (some (.int (nI (o0 + (if m0 < p0 then p0 else m0))))) ∧ X' = X) := by
  refine ⟨[some (.int (nI o0)), some (.int (nI m0)), some (.int (nI p0)), none], rfl, Nat.le_of_ble_eq_true rfl, fun E hD hH hl _ C => ?_⟩
  subst hD
  subst hH
  subst hl
  have hmx : (if nI m0 < nI p0 then nI p0 else nI m0) = nI (if m0 < p0 then p0 else m0) := by
    by_cases h : m0 < p0
    · rw [if_pos h, if_pos ((nI_ltI (by omega) (by omega)).mpr h)]
    · rw [if_neg h, if_neg (fun q => h ((nI_ltI (by omega) (by omega)).mp q))]
  have hmb : (if m0 < p0 then p0 else m0) < 1000000 ∧ 0 < (if m0 < p0 then p0 else m0) := by
    split <;> omega
  generalize (if m0 < p0 then p0 else m0) = z at hmx hmb C ⊢
  refine xr_iload_n C d_AS_newLength_0 1 rfl rfl ?_
  refine xr_iload_n C d_AS_newLength_1 2 rfl rfl ?_
  refine xr_iload_n C d_AS_newLength_2 3 rfl rfl ?_
  refine xr_max C d_AS_newLength_3 6 rfl q_353 w_max (Nat.le_of_ble_eq_true rfl) (by omega) (by omega) ?_
  refine xr_toi hmx ?_
  refine xr_iadd C d_AS_newLength_6 7 rfl ?_
  refine xr_toi (nI_add _ _) ?_
  refine xr_istore_n C d_AS_newLength_7 8 rfl rfl rfl ?_
  refine xr_iconst (v := 0) C d_AS_newLength_8 9 rfl (by decide) ?_
  refine xr_iload_n C d_AS_newLength_9 10 rfl rfl ?_
  refine xr_icmp_ge C d_AS_newLength_10 13 21 rfl (by decide) (fun h10 => absurd h10 (nI_nle (by omega) (by omega))) (fun h10 => ?_)
  refine xr_iload_n C d_AS_newLength_13 14 rfl rfl ?_
  refine xr_ldc (v := 2147483639) C d_AS_newLength_14 16 rfl q_356 ?_
  refine xr_icmp_gt C d_AS_newLength_16 19 21 rfl (by decide) (fun h16 => absurd h16 ?_) (fun h16 => ?_)
  · intro h
    have h2 : (2147483639 : Int32).toInt < (nI (o0 + z)).toInt := Int32.lt_iff_toInt_lt.mp h
    rw [nI_toInt (by omega)] at h2
    have h3 : (2147483639 : Int32).toInt = 2147483639 := by decide
    omega
  refine xr_iload_n C d_AS_newLength_19 20 rfl rfl ?_
  exact xr_iret C d_AS_newLength_20 (by omega) (by omega) ⟨rfl, rfl⟩
set_option maxRecDepth 100000 in
set_option maxHeartbeats 4000000 in
theorem c_AR_copyO3 {l : Launch} {D : va_G} {H0 : Heap} {X : xH} {a n N : Nat} {f : Nat → Option Nat} (ha : X a = some (.inl (D.1 101, n, .inr (.inr (.inr (.inr f)))))) (hn : n < 1000000) (hN : N < 1000000) (hle : n ≤ N) (h0 : 0 < N) (hel : ∀ i, i < n → ∀ q, f i = some q → xOb X q) : xMet l D H0 y_AR_copyO3 b_AR_copyO3 4 (some (.array (.object "java/lang/Object"))) [] 0 1 N [.ref a, .int (nI N), .ref (D.2 200 2)] X (fun o X' => ∃ q : Nat, o = .inl (some (.ref q)) ∧ X q = none ∧ X' = xup X q (.inl (D.1 101, N, .inr (.inr (.inr (.inr (va_cpy f (fun _ => none) 0 0 n))))))) := by
  refine ⟨[some (.ref a), some (.int (nI N)), some (.ref (D.2 200 2)), none], rfl, Nat.le_of_ble_eq_true rfl, fun E hD hH hl _ C => ?_⟩
  subst hD
  subst hH
  subst hl
  refine xr_aload_n C d_AR_copyO3_0 1 rfl rfl ?_
  refine xr_ldcM C d_AR_copyO3_1 3 rfl q_383 ?_
  refine xr_acmp_ne C d_AR_copyO3_3 6 13 rfl (by decide) (fun h => absurd rfl h) (fun _ => ?_)
  refine xr_iload_n C d_AR_copyO3_6 7 rfl rfl ?_
  refine xr_newq C d_AR_copyO3_7 10 rfl q_385 rfl (by omega) (by omega) (by omega) (fun q hq => ?_)
  refine xr_goto C d_AR_copyO3_10 24 (by decide) ?_
  refine xr_astore_n C d_AR_copyO3_24 25 rfl rfl rfl ?_
  refine xr_aload_n C d_AR_copyO3_25 26 rfl rfl ?_
  refine xr_iconst (v := 0) C d_AR_copyO3_26 27 rfl (by decide) ?_
  refine xr_aload_n C d_AR_copyO3_27 28 rfl rfl ?_
  refine xr_iconst (v := 0) C d_AR_copyO3_28 29 rfl (by decide) ?_
  refine xr_aload_n C d_AR_copyO3_29 30 rfl rfl ?_
  have ha' : xup X q (.inl (E.D.1 101, N, .inr (.inr (.inr (.inr (fun _ => none)))))) a = some (.inl (E.D.1 101, n, .inr (.inr (.inr (.inr f))))) := xup_fresh ha hq
  refine xr_alen (t0 := 1) C rfl d_AR_copyO3_30 31 rfl ha' ?_
  refine xr_iload_n C d_AR_copyO3_31 32 rfl rfl ?_
  refine xr_min C d_AR_copyO3_32 35 rfl q_386 w_min (Nat.le_of_ble_eq_true rfl) (by omega) (by omega) ?_
  refine xr_toi (show _ = nI n from by
    by_cases h : n = N
    · subst h
      split <;> rfl
    · exact if_neg (nI_nlt (by omega) (by omega))) ?_
  refine xr_copyq (sp := 0) (dp := 0) C d_AR_copyO3_35 38 rfl q_389 w_copy ha' xup_self (by omega) (by omega) (by omega) (by omega) (by omega) (Nat.le_of_ble_eq_true rfl) (fun i hi q2 hq2 => ?_) ?_
  · obtain ⟨ci, vs, r, o1, o2⟩ := hel i hi q2 (by rw [← hq2]; congr 1; omega)
    exact ⟨ci, vs, r, xup_fresh o1 hq, o2⟩
  refine xG.eqX xup_up ?_
  refine xr_aload_n C d_AR_copyO3_38 39 rfl rfl ?_
  exact xr_aret C d_AR_copyO3_39 (Or.inr ⟨_, rfl⟩) (by omega) (by omega) ⟨q, rfl, hq, rfl⟩
set_option maxRecDepth 100000 in
set_option maxHeartbeats 4000000 in
theorem c_AR_copyO2 {l : Launch} {D : va_G} {H0 : Heap} {X : xH} {a n N : Nat} {f : Nat → Option Nat} (ha : X a = some (.inl (D.1 101, n, .inr (.inr (.inr (.inr f)))))) (hn : n < 1000000) (hN : N < 1000000) (hle : n ≤ N) (h0 : 0 < N) (hel : ∀ i, i < n → ∀ q, f i = some q → xOb X q) : xMet l D H0 y_AR_copyO2 b_AR_copyO2 2 (some (.array (.object "java/lang/Object"))) [] 1 1 N [.ref a, .int (nI N)] X (fun o X' => ∃ q : Nat, o = .inl (some (.ref q)) ∧ X q = none ∧ X' = xup X q (.inl (D.1 101, N, .inr (.inr (.inr (.inr (va_cpy f (fun _ => none) 0 0 n))))))) := by
  refine ⟨[some (.ref a), some (.int (nI N))], rfl, Nat.le_of_ble_eq_true rfl, fun E hD hH hl _ C => ?_⟩
  subst hD
  subst hH
  subst hl
  refine xr_aload_n C d_AR_copyO2_0 1 rfl rfl ?_
  refine xr_iload_n C d_AR_copyO2_1 2 rfl rfl ?_
  refine xr_aload_n C d_AR_copyO2_2 3 rfl rfl ?_
  refine xr_getC C d_AR_copyO2_3 6 rfl ha q_363 w_getC (Nat.le_of_ble_eq_true rfl) ?_
  refine xr_callS C (c_AR_copyO3 ha hn hN hle h0 hel) k_AR_copyO3 d_AR_copyO2_6 9 rfl (Or.inl q_380) s_AR_copyO3 in_AR_copyO3 h_AR_copyO3 rfl ⟨Nat.le_of_ble_eq_true rfl, Nat.le_of_ble_eq_true rfl, Nat.le_of_ble_eq_true rfl⟩ (by omega) (by omega) (fun v X' hP => ?_) (fun _ _ h => by obtain ⟨q, h, -⟩ := h; cases h)
  obtain ⟨q, h1, h2, rfl⟩ := hP
  cases h1
  exact xr_aret C d_AR_copyO2_9 (Or.inr ⟨_, rfl⟩) (by omega) (by omega) ⟨q, rfl, h2, rfl⟩
set_option maxRecDepth 100000 in
set_option maxHeartbeats 4000000 in
theorem c_AL_grow1 {l : Launch} {D : va_G} {H0 : Heap} {X : xH} {a b cap : Nat} {mo : Int32} {f : Nat → Option Nat} (ha : X a = some (.inr (7, [.int mo, .ref b, .int (nI cap)]))) (hb : X b = some (.inl (D.1 101, cap, .inr (.inr (.inr (.inr f)))))) (hc : cap ≤ 128) (hz : cap = 0 → b = D.2 200 1) (hel : ∀ i, i < cap → ∀ q, f i = some q → xOb X q) : xMet l D H0 y_AL_grow1 b_AL_grow1 4 (some (.array (.object "java/lang/Object"))) [] 2 1 200 [.ref a, .int (nI (cap + 1))] X (fun o X' => ∃ (q N : Nat) (f' : Nat → Option Nat), o = .inl (some (.ref q)) ∧ X q = none ∧ cap < N ∧ N ≤ 200 ∧ X' = xup (xup X q (.inl (D.1 101, N, .inr (.inr (.inr (.inr f')))))) a (.inr (7, [.int mo, .ref q, .int (nI cap)])) ∧ (∀ i, i < cap → f' i = f i) ∧ N = nx cap) := by
  refine ⟨[some (.ref a), some (.int (nI (cap + 1))), none, none], rfl, Nat.le_of_ble_eq_true rfl, fun E hD hH hl _ C => ?_⟩
  subst hD
  subst hH
  subst hl
  refine xr_aload_n C d_AL_grow1_0 1 rfl rfl ?_
  refine xr_get C K_AL 1 d_AL_grow1_1 4 rfl q_57 (Or.inl rfl) rfl (by first | assumption | exact xup_self | exact (xup_ne (by assumption)).trans (by assumption) | exact (xup_ne (Ne.symm (by assumption))).trans (by assumption) | exact (xup_ne (by assumption)).trans xup_self | exact (xup_ne (Ne.symm (by assumption))).trans xup_self) rfl ?_
  refine xr_alen (t0 := 1) C rfl d_AL_grow1_4 5 rfl hb ?_
  refine xr_istore_n C d_AL_grow1_5 6 rfl rfl rfl ?_
  refine xr_iload_n C d_AL_grow1_6 7 rfl rfl ?_
  refine xr_if_gt C d_AL_grow1_7 10 20 rfl (by decide) (fun h7 => ?_) (fun h7 => ?_)
  · have hc0 : 0 < cap := by
      rcases Nat.eq_zero_or_pos cap with h | h
      · subst h
        exact absurd h7 (show ¬ (0 : Int32) < nI 0 by decide)
      · exact h
    refine xr_iload_n C d_AL_grow1_20 21 rfl rfl ?_
    refine xr_iload_n C d_AL_grow1_21 22 rfl rfl ?_
    refine xr_iload_n C d_AL_grow1_22 23 rfl rfl ?_
    refine xr_isub C d_AL_grow1_23 24 rfl ?_
    refine xr_toi (show _ = nI 1 from (pk_sub (by omega)).trans (by congr 1; omega)) ?_
    refine xr_iload_n C d_AL_grow1_24 25 rfl rfl ?_
    refine xr_iconst (v := 1) C d_AL_grow1_25 26 rfl (by decide) ?_
    refine xr_ishr C d_AL_grow1_26 27 rfl ?_
    refine xr_toi (show _ = nI (cap / 2) from pk_shrN (by omega) _ 1 (by decide)) ?_
    refine xr_callS C (c_AS_newLength (by omega) (by omega) (by omega) (by omega)) k_AS_newLength d_AL_grow1_27 30 rfl (Or.inl q_350) s_AS_newLength in_AS_newLength h_AS_newLength rfl ⟨Nat.le_of_ble_eq_true rfl, Nat.le_of_ble_eq_true rfl, Nat.le_of_ble_eq_true rfl⟩ (by omega) (by omega) (fun v X' hP => ?_) (fun _ _ h => absurd h.1 (by simp))
    obtain ⟨h1, rfl⟩ := hP
    cases h1
    obtain ⟨z, hz1⟩ : ∃ z, z = cap + (if 1 < cap / 2 then cap / 2 else 1) := ⟨_, rfl⟩
    have hz2 : cap < z ∧ z ≤ 192 := by
      rw [hz1]
      split <;> omega
    refine xr_toi (show _ = nI z by rw [hz1]) ?_
    refine xr_istore_n C d_AL_grow1_30 31 rfl rfl rfl ?_
    refine xr_aload_n C d_AL_grow1_31 32 rfl rfl ?_
    refine xr_aload_n C d_AL_grow1_32 33 rfl rfl ?_
    refine xr_get C K_AL 1 d_AL_grow1_33 36 rfl q_57 (Or.inl rfl) rfl (by first | assumption | exact xup_self | exact (xup_ne (by assumption)).trans (by assumption) | exact (xup_ne (Ne.symm (by assumption))).trans (by assumption) | exact (xup_ne (by assumption)).trans xup_self | exact (xup_ne (Ne.symm (by assumption))).trans xup_self) rfl ?_
    refine xr_iload_n C d_AL_grow1_36 37 rfl rfl ?_
    refine xG.wide (c2 := 0) (s2 := 200 - z) (by omega) (by omega) ?_
    refine xr_callS C (c_AR_copyO2 hb (by omega) (by omega) (by omega) (by omega) hel) k_AR_copyO2 d_AL_grow1_37 40 rfl (Or.inl q_360) s_AR_copyO2 in_AR_copyO2 h_AR_copyO2 rfl ⟨Nat.le_of_ble_eq_true rfl, Nat.le_of_ble_eq_true rfl, Nat.le_of_ble_eq_true rfl⟩ (by omega) (by omega) (fun v X' hP => ?_) (fun _ _ h => by obtain ⟨q, h, -⟩ := h; cases h)
    obtain ⟨q, h1, h2, rfl⟩ := hP
    cases h1
    refine xr_dup_x1 C d_AL_grow1_40 41 rfl rfl rfl ?_
    refine xr_put C K_AL 1 d_AL_grow1_41 44 rfl q_57 (Or.inl rfl) rfl rfl rfl rfl (xup_fresh ha h2) rfl rfl ?_
    refine xr_aret C d_AL_grow1_44 (Or.inr ⟨_, rfl⟩) (by omega) (by omega) ⟨q, z, _, rfl, h2, hz2.1, by omega, rfl, fun i hi => ?_, by rw [hz1]; exact (if_neg (show ¬ cap = 0 by omega)).symm⟩
    rw [pk_cpy_in (by omega) (by omega)]
    congr 1
    omega
  · have hc0 : cap = 0 := by
      rcases Nat.eq_zero_or_pos cap with h | h
      · exact h
      · exact absurd (nI_lt h (by omega)) h7
    subst hc0
    have hbe := hz rfl
    subst hbe
    refine xr_aload_n C d_AL_grow1_10 11 rfl rfl ?_
    refine xr_get C K_AL 1 d_AL_grow1_11 14 rfl q_57 (Or.inl rfl) rfl (by first | assumption | exact xup_self | exact (xup_ne (by assumption)).trans (by assumption) | exact (xup_ne (Ne.symm (by assumption))).trans (by assumption) | exact (xup_ne (by assumption)).trans xup_self | exact (xup_ne (Ne.symm (by assumption))).trans xup_self) rfl ?_
    refine xr_gets C C.kk.2.2.2.1 d_AL_grow1_14 17 rfl (Or.inl q_55) ?_
    refine xr_acmp_eq C d_AL_grow1_17 20 45 rfl (by decide) (fun _ => ?_) (fun h => absurd rfl h)
    refine xr_aload_n C d_AL_grow1_45 46 rfl rfl ?_
    refine xr_bipush (v := 10) C d_AL_grow1_46 48 rfl (by decide) ?_
    refine xr_iload_n C d_AL_grow1_48 49 rfl rfl ?_
    refine xr_max C d_AL_grow1_49 52 rfl q_390 w_max (Nat.le_of_ble_eq_true rfl) (by omega) (by omega) ?_
    refine xr_toi (show _ = nI 10 by decide) ?_
    refine xr_newq C d_AL_grow1_52 55 rfl q_391 rfl (by omega) (by omega) (by omega) (fun q hq => ?_)
    refine xr_dup_x1 C d_AL_grow1_55 56 rfl rfl rfl ?_
    refine xr_put C K_AL 1 d_AL_grow1_56 59 rfl q_57 (Or.inl rfl) rfl rfl rfl rfl (xup_fresh ha hq) rfl rfl ?_
    exact xr_aret C d_AL_grow1_59 (Or.inr ⟨_, rfl⟩) (by omega) (by omega) ⟨q, 10, _, rfl, hq, by omega, by omega, rfl, fun i hi => absurd hi (by omega), rfl⟩
set_option maxRecDepth 100000 in
set_option maxHeartbeats 4000000 in
theorem c_AL_grow0 {l : Launch} {D : va_G} {H0 : Heap} {X : xH} {a b cap : Nat} {mo : Int32} {f : Nat → Option Nat} (ha : X a = some (.inr (7, [.int mo, .ref b, .int (nI cap)]))) (hb : X b = some (.inl (D.1 101, cap, .inr (.inr (.inr (.inr f)))))) (hc : cap ≤ 128) (hz : cap = 0 → b = D.2 200 1) (hel : ∀ i, i < cap → ∀ q, f i = some q → xOb X q) : xMet l D H0 y_AL_grow0 b_AL_grow0 1 (some (.array (.object "java/lang/Object"))) [] 3 1 200 [.ref a] X (fun o X' => ∃ (q N : Nat) (f' : Nat → Option Nat), o = .inl (some (.ref q)) ∧ X q = none ∧ cap < N ∧ N ≤ 200 ∧ X' = xup (xup X q (.inl (D.1 101, N, .inr (.inr (.inr (.inr f')))))) a (.inr (7, [.int mo, .ref q, .int (nI cap)])) ∧ (∀ i, i < cap → f' i = f i) ∧ N = nx cap) := by
  refine ⟨[some (.ref a)], rfl, Nat.le_of_ble_eq_true rfl, fun E hD hH hl _ C => ?_⟩
  subst hD
  subst hH
  subst hl
  refine xr_aload_n C d_AL_grow0_0 1 rfl rfl ?_
  refine xr_aload_n C d_AL_grow0_1 2 rfl rfl ?_
  refine xr_get C K_AL 2 d_AL_grow0_2 5 rfl q_58 (Or.inl rfl) rfl (by first | assumption | exact xup_self | exact (xup_ne (by assumption)).trans (by assumption) | exact (xup_ne (Ne.symm (by assumption))).trans (by assumption) | exact (xup_ne (by assumption)).trans xup_self | exact (xup_ne (Ne.symm (by assumption))).trans xup_self) rfl ?_
  refine xr_iconst (v := 1) C d_AL_grow0_5 6 rfl (by decide) ?_
  refine xr_iadd C d_AL_grow0_6 7 rfl ?_
  refine xr_toi (nI_one _) ?_
  refine xr_callV C (c_AL_grow1 ha hb hc hz hel) k_AL_grow1 d_AL_grow0_7 10 rfl (by first | assumption | exact xup_self | exact (xup_ne (by assumption)).trans (by assumption) | exact (xup_ne (Ne.symm (by assumption))).trans (by assumption) | exact (xup_ne (by assumption)).trans xup_self | exact (xup_ne (Ne.symm (by assumption))).trans xup_self) rfl (Or.inl q_346) v_AL_grow1 e_AL_grow1 h_AL_grow1 rfl ⟨Nat.le_of_ble_eq_true rfl, Nat.le_of_ble_eq_true rfl, Nat.le_of_ble_eq_true rfl⟩ (by omega) (by omega) (fun v X' hP => ?_) (fun _ _ h => by obtain ⟨q, N, f9, h, -⟩ := h; cases h)
  obtain ⟨q, N, f', h1, h2, h3, h4, rfl, h5⟩ := hP
  cases h1
  exact xr_aret C d_AL_grow0_10 (Or.inr ⟨_, rfl⟩) (by omega) (by omega) ⟨q, N, f', rfl, h2, h3, h4, rfl, h5⟩
end
section
/-! JDK: ArrayList, as lists of objects (xLi). -/
theorem xOb.up {X : xH} {q a ci : Nat} {fs fs' : List Value} (h : xOb X q) (ha : X a = some (.inr (ci, fs))) : xOb (xup X a (.inr (ci, fs'))) q := by
  obtain ⟨cj, vs, r, h1, h2, h3⟩ := h
  by_cases hq : q = a
  · subst hq
    cases ha.symm.trans h1
    exact ⟨ci, fs', r, xup_self, h2, h3⟩
  · exact ⟨cj, vs, r, (xup_ne hq).trans h1, h2, h3⟩
theorem xOb.arr {X : xH} {q b : Nat} {x : ClassId × vp_A} {v : va_E} (h : xOb X q) (hb : X b = some (.inl x)) : xOb (xup X b v) q := by
  obtain ⟨cj, vs, r, h1, h2, h3⟩ := h
  exact ⟨cj, vs, r, (xup_ne (xne h1 hb (by intro h; cases h))).trans h1, h2, h3⟩
theorem xOb.fresh {X : xH} {q b : Nat} {v : va_E} (h : xOb X q) (hb : X b = none) : xOb (xup X b v) q := by
  obtain ⟨cj, vs, r, h1, h2, h3⟩ := h
  exact ⟨cj, vs, r, xup_fresh h1 hb, h2, h3⟩
theorem xLi.el {D : va_G} {X : xH} {as : List Nat} {f : Nat → Option Nat} (hf : ∀ i, i < as.length → f i = some (as.getD i 0)) (ho : ∀ q ∈ as, xOb X q) : ∀ i, i < as.length → ∀ q, f i = some q → xOb X q := fun i hi q hq => by
  rw [hf i hi] at hq
  cases hq
  rw [List.getD_eq_getElem?_getD, List.getElem?_eq_getElem hi]
  exact ho _ (List.getElem_mem hi)
theorem getD_snoc {as : List Nat} {v i : Nat} (hi : i < (as ++ [v]).length) : (as ++ [v]).getD i 0 = if i < as.length then as.getD i 0 else v := by
  rw [List.length_append, List.length_singleton] at hi
  by_cases h : i < as.length
  · rw [if_pos h, List.getD_eq_getElem?_getD, List.getD_eq_getElem?_getD, List.getElem?_append_left h]
  · rw [if_neg h, List.getD_eq_getElem?_getD, List.getElem?_append_right (by omega), show i - as.length = 0 by omega]
    rfl
set_option maxRecDepth 100000 in
set_option maxHeartbeats 4000000 in
theorem c_AL_add3 {l : Launch} {D : va_G} {H0 : Heap} {X : xH} {a b cap v : Nat} {mo : Int32} {as : List Nat} {f : Nat → Option Nat} (ha : X a = some (.inr (7, [.int mo, .ref b, .int (nI as.length)]))) (hb : X b = some (.inl (D.1 101, cap, .inr (.inr (.inr (.inr f)))))) (hle : as.length ≤ cap) (hc : cap ≤ 200) (hz : cap = 0 → b = D.2 200 1) (hf : ∀ i, i < as.length → f i = some (as.getD i 0)) (hn : as.length ≤ 128) (ho : ∀ q ∈ as, xOb X q) (hv : xOb X v) {k : Nat} (hk : cap ≤ as.length → 1 ≤ k) : xMet l D H0 y_AL_add3 b_AL_add3 4 none [] 4 k (200 * k) [.ref a, .ref v, .ref b, .int (nI as.length)] X (fun o X' => o = .inl none ∧ ∃ b' : Nat, xLi D X' a b' (if as.length < cap then cap else nx cap) (as ++ [v]) ∧ xFr [a, b] X X' ∧ (b' = b ∨ X b' = none)) := by
  refine ⟨[some (.ref a), some (.ref v), some (.ref b), some (.int (nI as.length))], rfl, Nat.le_of_ble_eq_true rfl, fun E hD hH hl _ C => ?_⟩
  subst hD
  subst hH
  subst hl
  have hab : a ≠ b := xne ha hb (by intro h; cases h)
  refine xr_iload_n C d_AL_add3_0 1 rfl rfl ?_
  refine xr_aload_n C d_AL_add3_1 2 rfl rfl ?_
  refine xr_alen (t0 := 1) C rfl d_AL_add3_2 3 rfl hb ?_
  refine xr_icmp_ne C d_AL_add3_3 6 11 rfl (by decide) (fun h3 => ?_) (fun h3 => ?_)
  · have hlt : as.length < cap := by
      rcases Nat.lt_or_ge as.length cap with h | h
      · exact h
      · exact absurd (show nI as.length = nI cap by rw [show as.length = cap by omega]) h3
    obtain ⟨ci, vs, r, o1, o2, o3⟩ := hv
    refine xr_aload_n C d_AL_add3_11 12 rfl rfl ?_
    refine xr_iload_n C d_AL_add3_12 13 rfl rfl ?_
    refine xr_aload_n C d_AL_add3_13 14 rfl rfl ?_
    refine xr_aast C d_AL_add3_14 15 rfl hb rfl hlt (by omega) o1 o2 o3 ?_
    refine xr_aload_n C d_AL_add3_15 16 rfl rfl ?_
    refine xr_iload_n C d_AL_add3_16 17 rfl rfl ?_
    refine xr_iconst (v := 1) C d_AL_add3_17 18 rfl (by decide) ?_
    refine xr_iadd C d_AL_add3_18 19 rfl ?_
    refine xr_toi (nI_one _) ?_
    refine xr_put C K_AL 2 d_AL_add3_19 22 rfl q_58 (Or.inl rfl) rfl rfl rfl rfl ((xup_ne hab).trans ha) rfl rfl ?_
    refine xr_vret C d_AL_add3_22 (by omega) (by omega) ?_
    rw [if_pos hlt]
    refine ⟨rfl, b, ⟨mo, va_up f as.length (some v), ?_, (xup_ne (Ne.symm hab)).trans xup_self, ?_, hc, hz, fun i hi => ?_⟩, ?_, Or.inl rfl⟩
    · rw [List.length_append, List.length_singleton]
      exact xup_self
    · rw [List.length_append, List.length_singleton]
      omega
    · rw [getD_snoc hi]
      by_cases h : i < as.length
      · rw [if_pos h, va_up_ne _ _ (by omega)]
        exact hf i h
      · rw [if_neg h, show i = as.length by rw [List.length_append, List.length_singleton] at hi; omega]
        exact va_up_self _ _ _
    · exact (xFr_up hb (fun z => absurd z (show cap ≠ 0 by omega)) (by simp)).trans (xFr_up ((xup_ne hab).trans ha) (fun z => z) (by simp))
  · have heq : as.length = cap := (nI_eq (by omega) (by omega)).mp h3
    subst heq
    refine xr_aload_n C d_AL_add3_6 7 rfl rfl ?_
    have hk1 := hk (Nat.le_refl _)
    refine xG.wide (c2 := k - 1) (s2 := 200 * (k - 1)) (by omega) (by omega) ?_
    refine xr_callV C (c_AL_grow0 ha hb hn hz (xLi.el (D := E.D) hf ho)) k_AL_grow0 d_AL_add3_7 10 rfl (by first | assumption | exact xup_self | exact (xup_ne (by assumption)).trans (by assumption) | exact (xup_ne (Ne.symm (by assumption))).trans (by assumption) | exact (xup_ne (by assumption)).trans xup_self | exact (xup_ne (Ne.symm (by assumption))).trans xup_self) rfl (Or.inl q_342) v_AL_grow0 e_AL_grow0 h_AL_grow0 rfl ⟨Nat.le_of_ble_eq_true rfl, Nat.le_of_ble_eq_true rfl, Nat.le_of_ble_eq_true rfl⟩ (by omega) (by omega) (fun v9 X' hP => ?_) (fun _ _ h => by obtain ⟨q, N, f9, h, -⟩ := h; cases h)
    obtain ⟨q, N, f', h1, h2, h4, h5, rfl, h6, h7⟩ := hP
    cases h1
    have hqa : q ≠ a := Ne.symm (xne_none ha h2)
    have hv' := (hv.fresh (v := .inl (E.D.1 101, N, .inr (.inr (.inr (.inr f'))))) h2).up (fs' := [.int mo, .ref q, .int (nI as.length)]) (xup_fresh ha h2)
    obtain ⟨ci, vs, r, o1, o2, o3⟩ := hv'
    refine xr_astore_n C d_AL_add3_10 11 rfl rfl rfl ?_
    refine xr_aload_n C d_AL_add3_11 12 rfl rfl ?_
    refine xr_iload_n C d_AL_add3_12 13 rfl rfl ?_
    refine xr_aload_n C d_AL_add3_13 14 rfl rfl ?_
    refine xr_aast C d_AL_add3_14 15 rfl ((xup_ne hqa).trans xup_self) rfl h4 (by omega) o1 o2 o3 ?_
    refine xr_aload_n C d_AL_add3_15 16 rfl rfl ?_
    refine xr_iload_n C d_AL_add3_16 17 rfl rfl ?_
    refine xr_iconst (v := 1) C d_AL_add3_17 18 rfl (by decide) ?_
    refine xr_iadd C d_AL_add3_18 19 rfl ?_
    refine xr_toi (nI_one _) ?_
    refine xr_put C K_AL 2 d_AL_add3_19 22 rfl q_58 (Or.inl rfl) rfl rfl rfl rfl ((xup_ne (Ne.symm hqa)).trans xup_self) rfl rfl ?_
    refine xr_vret C d_AL_add3_22 (by omega) (by omega) ?_
    rw [if_neg (Nat.lt_irrefl _), ← h7]
    refine ⟨rfl, q, ⟨mo, va_up f' as.length (some v), ?_, (xup_ne hqa).trans xup_self, ?_, h5, fun h0 => absurd h0 (by omega), fun i hi => ?_⟩, ?_, Or.inr h2⟩
    · rw [List.length_append, List.length_singleton]
      exact xup_self
    · rw [List.length_append, List.length_singleton]
      omega
    · rw [getD_snoc hi]
      by_cases h : i < as.length
      · rw [if_pos h, va_up_ne _ _ (by omega), h6 i h]
        exact hf i h
      · rw [if_neg h, show i = as.length by rw [List.length_append, List.length_singleton] at hi; omega]
        exact va_up_self _ _ _
    · exact (((xFr.rf.fresh h2).at ha (fun z => z) (by simp)).fresh h2).at ha (fun z => z) (by simp)
set_option maxRecDepth 100000 in
set_option maxHeartbeats 4000000 in
theorem c_AL_add1 {l : Launch} {D : va_G} {H0 : Heap} {X : xH} {a b cap v : Nat} {as : List Nat} (hL : xLi D X a b cap as) (hn : as.length ≤ 128) (ho : ∀ q ∈ as, xOb X q) (hv : xOb X v) {k : Nat} (hk : cap ≤ as.length → 1 ≤ k) : xMet l D H0 y_AL_add1 b_AL_add1 2 (some .boolean) [] 5 k (200 * k) [.ref a, .ref v] X (fun o X' => o = .inl (some (.int 1)) ∧ ∃ b' : Nat, xLi D X' a b' (if as.length < cap then cap else nx cap) (as ++ [v]) ∧ xFr [a, b] X X' ∧ (b' = b ∨ X b' = none)) := by
  obtain ⟨mo, f, ha, hb, hle, hc, hz, hf⟩ := hL
  refine ⟨[some (.ref a), some (.ref v)], rfl, Nat.le_of_ble_eq_true rfl, fun E hD hH hl _ C => ?_⟩
  subst hD
  subst hH
  subst hl
  have hab : a ≠ b := xne ha hb (by intro h; cases h)
  refine xr_aload_n C d_AL_add1_0 1 rfl rfl ?_
  refine xr_dup C d_AL_add1_1 2 rfl rfl ?_
  refine xr_get C K_AL 0 d_AL_add1_2 5 rfl q_60 (Or.inr q_61) rfl (by first | assumption | exact xup_self | exact (xup_ne (by assumption)).trans (by assumption) | exact (xup_ne (Ne.symm (by assumption))).trans (by assumption) | exact (xup_ne (by assumption)).trans xup_self | exact (xup_ne (Ne.symm (by assumption))).trans xup_self) rfl ?_
  refine xr_iconst (v := 1) C d_AL_add1_5 6 rfl (by decide) ?_
  refine xr_iadd C d_AL_add1_6 7 rfl ?_
  refine xr_put C K_AL 0 d_AL_add1_7 10 rfl q_60 (Or.inr q_61) rfl rfl rfl rfl (by first | assumption | exact xup_self | exact (xup_ne (by assumption)).trans (by assumption) | exact (xup_ne (Ne.symm (by assumption))).trans (by assumption) | exact (xup_ne (by assumption)).trans xup_self | exact (xup_ne (Ne.symm (by assumption))).trans xup_self) rfl rfl ?_
  refine xr_aload_n C d_AL_add1_10 11 rfl rfl ?_
  refine xr_aload_n C d_AL_add1_11 12 rfl rfl ?_
  refine xr_aload_n C d_AL_add1_12 13 rfl rfl ?_
  refine xr_get C K_AL 1 d_AL_add1_13 16 rfl q_57 (Or.inl rfl) rfl (by first | assumption | exact xup_self | exact (xup_ne (by assumption)).trans (by assumption) | exact (xup_ne (Ne.symm (by assumption))).trans (by assumption) | exact (xup_ne (by assumption)).trans xup_self | exact (xup_ne (Ne.symm (by assumption))).trans xup_self) rfl ?_
  refine xr_aload_n C d_AL_add1_16 17 rfl rfl ?_
  refine xr_get C K_AL 2 d_AL_add1_17 20 rfl q_58 (Or.inl rfl) rfl (by first | assumption | exact xup_self | exact (xup_ne (by assumption)).trans (by assumption) | exact (xup_ne (Ne.symm (by assumption))).trans (by assumption) | exact (xup_ne (by assumption)).trans xup_self | exact (xup_ne (Ne.symm (by assumption))).trans xup_self) rfl ?_
  refine xr_callV C (c_AL_add3 (as := as) xup_self ((xup_ne (Ne.symm hab)).trans hb) hle hc hz hf hn (fun q hq => (ho q hq).up ha) (hv.up ha) hk) k_AL_add3 d_AL_add1_20 23 rfl xup_self rfl (Or.inl q_338) v_AL_add3 e_AL_add3 h_AL_add3 rfl ⟨Nat.le_of_ble_eq_true rfl, Nat.le_of_ble_eq_true rfl, Nat.le_of_ble_eq_true rfl⟩ (by omega) (by omega) (fun v9 X' hP => ?_) (fun _ _ h => absurd h.1 (by simp))
  obtain ⟨h1, b', h2, h3, h4⟩ := hP
  cases h1
  refine xr_iconst (v := 1) C d_AL_add1_23 24 rfl (by decide) ?_
  refine xr_zret C d_AL_add1_24 rfl (by omega) (by omega) ⟨rfl, b', h2, (xFr_up ha (fun z => z) (by simp)).trans h3, h4.imp id (fun h => ?_)⟩
  by_cases hq : b' = a
  · subst hq
    rw [xup_self] at h
    cases h
  · rw [xup_ne hq] at h
    exact h
end
section
/-! JDK: ArrayList, the rest, over xLi. -/
theorem getD_erase {as : List Nat} {j i : Nat} : (as.eraseIdx j).getD i 0 = if i < j then as.getD i 0 else as.getD (i + 1) 0 := by
  rw [List.getD_eq_getElem?_getD, List.getElem?_eraseIdx]
  split <;> rw [List.getD_eq_getElem?_getD]
theorem getD_set {as : List Nat} {j i v : Nat} (hj : j < as.length) : (as.set j v).getD i 0 = if i = j then v else as.getD i 0 := by
  rw [List.getD_eq_getElem?_getD, List.getD_eq_getElem?_getD]
  by_cases h : i = j
  · subst h
    rw [if_pos rfl, List.getElem?_set_self hj]
    rfl
  · rw [if_neg h, List.getElem?_set_ne (Ne.symm h)]
def insAt {α : Type} (as : List α) (j : Nat) (v : α) : List α := as.take j ++ v :: as.drop j
theorem insAt_length {α : Type} {as : List α} {j : Nat} {v : α} (hj : j ≤ as.length) : (insAt as j v).length = as.length + 1 := by
  unfold insAt
  rw [List.length_append, List.length_cons, List.length_take, List.length_drop]
  omega
theorem getD_ins {as : List Nat} {j i v : Nat} (hj : j ≤ as.length) : (insAt as j v).getD i 0 = if i < j then as.getD i 0 else if i = j then v else as.getD (i - 1) 0 := by
  unfold insAt
  have ht : (as.take j).length = j := by rw [List.length_take]; omega
  rw [List.getD_eq_getElem?_getD]
  by_cases h : i < j
  · rw [if_pos h, List.getElem?_append_left (by omega), List.getElem?_take_of_lt h, List.getD_eq_getElem?_getD]
  · rw [if_neg h, List.getElem?_append_right (by omega), ht]
    by_cases h2 : i = j
    · subst h2
      rw [if_pos rfl, Nat.sub_self]
      rfl
    · rw [if_neg h2, show i - j = (i - j - 1) + 1 by omega, List.getElem?_cons_succ, List.getElem?_drop, List.getD_eq_getElem?_getD]
      congr 2
      omega
theorem xLi.len {D : va_G} {X : xH} {a b cap : Nat} {as : List Nat} (h : xLi D X a b cap as) : as.length ≤ 200 := by
  obtain ⟨mo, f, -, -, h1, h2, -⟩ := h
  omega
set_option maxRecDepth 100000 in
set_option maxHeartbeats 4000000 in
theorem l_size {l : Launch} {D : va_G} {H0 : Heap} {X : xH} {a b cap : Nat} {as : List Nat} (hL : xLi D X a b cap as) : xMet l D H0 y_AL_size b_AL_size 1 (some .int) [] 0 0 0 [.ref a] X (fun o X' => o = .inl (some (.int (nI as.length))) ∧ X' = X) := by
  obtain ⟨mo, f, ha, -⟩ := hL
  exact c_AL_size ha
set_option maxRecDepth 100000 in
set_option maxHeartbeats 4000000 in
theorem l_get {l : Launch} {D : va_G} {H0 : Heap} {X : xH} {a b cap j : Nat} {as : List Nat} (hL : xLi D X a b cap as) (hj : j < as.length) : xMet l D H0 y_AL_get b_AL_get 2 (some (.object "java/lang/Object")) [] 2 0 0 [.ref a, .int (nI j)] X (fun o X' => o = .inl (some (.ref (as.getD j 0))) ∧ X' = X) := by
  obtain ⟨mo, f, ha, hb, hle, hc, hz, hf⟩ := hL
  exact c_AL_get ha hb hj hle (by omega) (hf j hj)
set_option maxRecDepth 100000 in
set_option maxHeartbeats 4000000 in
theorem l_set {l : Launch} {D : va_G} {H0 : Heap} {X : xH} {a b cap j v : Nat} {as : List Nat} (hL : xLi D X a b cap as) (hj : j < as.length) (hv : xOb X v) : xMet l D H0 y_AL_set b_AL_set 4 (some (.object "java/lang/Object")) [] 2 0 0 [.ref a, .int (nI j), .ref v] X (fun o X' => o = .inl (some (.ref (as.getD j 0))) ∧ xLi D X' a b cap (as.set j v) ∧ xFr [a, b] X X') := by
  obtain ⟨mo, f, ha, hb, hle, hc, hz, hf⟩ := hL
  refine (c_AL_set ha hb hj hle (by omega) (hf j hj) hv).mono (fun r X' hP => ?_)
  obtain ⟨h1, rfl⟩ := hP
  have hab : a ≠ b := xne ha hb (by intro h; cases h)
  refine ⟨h1, ⟨mo, va_up f j (some v), ?_, xup_self, by rw [List.length_set]; exact hle, hc, hz, fun i hi => ?_⟩, xFr_up hb (fun z => absurd z (show cap ≠ 0 by omega)) (by simp)⟩
  · rw [List.length_set]
    exact (xup_ne hab).trans ha
  · rw [List.length_set] at hi
    rw [getD_set hj]
    by_cases h : i = j
    · subst h
      rw [if_pos rfl]
      exact va_up_self _ _ _
    · rw [if_neg h, va_up_ne _ _ h]
      exact hf i hi
set_option maxRecDepth 100000 in
set_option maxHeartbeats 4000000 in
theorem l_remove {l : Launch} {D : va_G} {H0 : Heap} {X : xH} {a b cap j : Nat} {as : List Nat} (hL : xLi D X a b cap as) (hj : j < as.length) (ho : ∀ q ∈ as, xOb X q) : xMet l D H0 y_AL_remove b_AL_remove 4 (some (.object "java/lang/Object")) [] 2 0 0 [.ref a, .int (nI j)] X (fun o X' => o = .inl (some (.ref (as.getD j 0))) ∧ xLi D X' a b cap (as.eraseIdx j) ∧ xFr [a, b] X X') := by
  obtain ⟨mo, f, ha, hb, hle, hc, hz, hf⟩ := hL
  refine ⟨[some (.ref a), some (.int (nI j)), none, none], rfl, Nat.le_of_ble_eq_true rfl, fun E hD hH hl _ C => ?_⟩
  subst hD
  subst hH
  subst hl
  have hab : a ≠ b := xne ha hb (by intro h; cases h)
  refine xr_iload_n C d_AL_remove_0 1 rfl rfl ?_
  refine xr_aload_n C d_AL_remove_1 2 rfl rfl ?_
  refine xr_get C K_AL 2 d_AL_remove_2 5 rfl q_58 (Or.inl rfl) rfl (by first | assumption | exact xup_self | exact (xup_ne (by assumption)).trans (by assumption) | exact (xup_ne (Ne.symm (by assumption))).trans (by assumption) | exact (xup_ne (by assumption)).trans xup_self | exact (xup_ne (Ne.symm (by assumption))).trans xup_self) rfl ?_
  refine xr_callS C (c_OB_checkIndex hj (by omega)) k_OB_checkIndex d_AL_remove_5 8 rfl (Or.inl q_282) s_OB_checkIndex in_OB_checkIndex h_OB_checkIndex rfl ⟨Nat.le_of_ble_eq_true rfl, Nat.le_of_ble_eq_true rfl, Nat.le_of_ble_eq_true rfl⟩ (by omega) (by omega) (fun v9 X hP => ?_) (fun _ _ h => absurd h.1 (by simp))
  obtain ⟨h1, rfl⟩ := hP
  cases h1
  refine xr_pop C d_AL_remove_8 9 rfl rfl ?_
  refine xr_aload_n C d_AL_remove_9 10 rfl rfl ?_
  refine xr_get C K_AL 1 d_AL_remove_10 13 rfl q_57 (Or.inl rfl) rfl (by first | assumption | exact xup_self | exact (xup_ne (by assumption)).trans (by assumption) | exact (xup_ne (Ne.symm (by assumption))).trans (by assumption) | exact (xup_ne (by assumption)).trans xup_self | exact (xup_ne (Ne.symm (by assumption))).trans xup_self) rfl ?_
  refine xr_astore_n C d_AL_remove_13 14 rfl rfl rfl ?_
  refine xr_aload_n C d_AL_remove_14 15 rfl rfl ?_
  refine xr_iload_n C d_AL_remove_15 16 rfl rfl ?_
  refine xr_aald C d_AL_remove_16 17 rfl hb rfl (by omega) (by omega) (hf j hj) ?_
  refine xr_astore_n C d_AL_remove_17 18 rfl rfl rfl ?_
  refine xr_aload_n C d_AL_remove_18 19 rfl rfl ?_
  refine xr_aload_n C d_AL_remove_19 20 rfl rfl ?_
  refine xr_iload_n C d_AL_remove_20 21 rfl rfl ?_
  refine xr_callV C (c_AL_fastRemove ha hb hj hle (by omega) (xLi.el (D := E.D) hf ho)) k_AL_fastRemove d_AL_remove_21 24 rfl (by first | assumption | exact xup_self | exact (xup_ne (by assumption)).trans (by assumption) | exact (xup_ne (Ne.symm (by assumption))).trans (by assumption) | exact (xup_ne (by assumption)).trans xup_self | exact (xup_ne (Ne.symm (by assumption))).trans xup_self) rfl (Or.inl q_297) v_AL_fastRemove e_AL_fastRemove h_AL_fastRemove rfl ⟨Nat.le_of_ble_eq_true rfl, Nat.le_of_ble_eq_true rfl, Nat.le_of_ble_eq_true rfl⟩ (by omega) (by omega) (fun v X' hP => ?_) (fun _ _ h => absurd h.1 (by simp))
  obtain ⟨h1, mo', f', rfl, h2⟩ := hP
  cases h1
  refine xr_aload_n C d_AL_remove_24 25 rfl rfl ?_
  have hlen : (as.eraseIdx j).length = as.length - 1 := List.length_eraseIdx_of_lt hj
  refine xr_aret C d_AL_remove_25 (Or.inl ⟨_, rfl⟩) (by omega) (by omega) ⟨rfl, ⟨mo', f', ?_, xup_self, by omega, hc, hz, fun i hi => ?_⟩, ?_⟩
  · rw [hlen]
    exact (xup_ne hab).trans xup_self
  · rw [hlen] at hi
    rw [h2 i hi, getD_erase]
    by_cases h : i < j
    · rw [if_pos h, if_pos h]
      exact hf i (by omega)
    · rw [if_neg h, if_neg h]
      exact hf (i + 1) (by omega)
  · exact (xFr_up ha (fun z => z) (by simp)).trans (xFr_up ((xup_ne (Ne.symm hab)).trans hb) (fun z => absurd z (show cap ≠ 0 by omega)) (by simp))
set_option maxRecDepth 100000 in
set_option maxHeartbeats 4000000 in
theorem c_AL_rangeCheckForAdd {l : Launch} {D : va_G} {H0 : Heap} {X : xH} {a j n : Nat} {v0 v1 : Value} (ha : X a = some (.inr (7, [v0, v1, .int (nI n)]))) (hj : j ≤ n) (hn : n < 2 ^ 31) : xMet l D H0 y_AL_rangeCheckForAdd b_AL_rangeCheckForAdd 2 none [] 0 0 0 [.ref a, .int (nI j)] X (fun o X' => o = .inl none ∧ X' = X) := by
  refine ⟨[some (.ref a), some (.int (nI j))], rfl, Nat.le_of_ble_eq_true rfl, fun E hD hH hl _ C => ?_⟩
  subst hD
  subst hH
  subst hl
  refine xr_iload_n C d_AL_rangeCheckForAdd_0 1 rfl rfl ?_
  refine xr_aload_n C d_AL_rangeCheckForAdd_1 2 rfl rfl ?_
  refine xr_get C K_AL 2 d_AL_rangeCheckForAdd_2 5 rfl q_58 (Or.inl rfl) rfl (by first | assumption | exact xup_self | exact (xup_ne (by assumption)).trans (by assumption) | exact (xup_ne (Ne.symm (by assumption))).trans (by assumption) | exact (xup_ne (by assumption)).trans xup_self | exact (xup_ne (Ne.symm (by assumption))).trans xup_self) rfl ?_
  refine xr_icmp_gt C d_AL_rangeCheckForAdd_5 8 12 rfl (by decide) (fun h => absurd h (nI_nlt hj hn)) (fun _ => ?_)
  refine xr_iload_n C d_AL_rangeCheckForAdd_8 9 rfl rfl ?_
  refine xr_if_ge C d_AL_rangeCheckForAdd_9 12 25 rfl (by decide) (fun _ => ?_) (fun h => absurd (nI_pos' (by omega)) h)
  exact xr_vret C d_AL_rangeCheckForAdd_25 (by omega) (by omega) ⟨rfl, rfl⟩
set_option maxRecDepth 100000 in
set_option maxHeartbeats 4000000 in
theorem l_insert {l : Launch} {D : va_G} {H0 : Heap} {X : xH} {a b cap j v : Nat} {as : List Nat} (hL : xLi D X a b cap as) (hj : j ≤ as.length) (hn : as.length ≤ 128) (ho : ∀ q ∈ as, xOb X q) (hv : xOb X v) : xMet l D H0 y_AL_add2 b_AL_add2 5 none [] 4 1 200 [.ref a, .int (nI j), .ref v] X (fun o X' => o = .inl none ∧ ∃ b' : Nat, xLi D X' a b' (if as.length < cap then cap else nx cap) (insAt as j v) ∧ xFr [a, b] X X' ∧ (b' = b ∨ X b' = none)) := by
  obtain ⟨mo, f, ha, hb, hle, hc, hz, hf⟩ := hL
  refine ⟨[some (.ref a), some (.int (nI j)), some (.ref v), none, none], rfl, Nat.le_of_ble_eq_true rfl, fun E hD hH hl _ C => ?_⟩
  subst hD
  subst hH
  subst hl
  have hab : a ≠ b := xne ha hb (by intro h; cases h)
  refine xr_aload_n C d_AL_add2_0 1 rfl rfl ?_
  refine xr_iload_n C d_AL_add2_1 2 rfl rfl ?_
  refine xr_callV C (c_AL_rangeCheckForAdd ha hj (by omega)) k_AL_rangeCheckForAdd d_AL_add2_2 5 rfl (by first | assumption | exact xup_self | exact (xup_ne (by assumption)).trans (by assumption) | exact (xup_ne (Ne.symm (by assumption))).trans (by assumption) | exact (xup_ne (by assumption)).trans xup_self | exact (xup_ne (Ne.symm (by assumption))).trans xup_self) rfl (Or.inl q_734) v_AL_rangeCheckForAdd e_AL_rangeCheckForAdd h_AL_rangeCheckForAdd rfl ⟨Nat.le_of_ble_eq_true rfl, Nat.le_of_ble_eq_true rfl, Nat.le_of_ble_eq_true rfl⟩ (by omega) (by omega) (fun v9 X hP => ?_) (fun _ _ h => absurd h.1 (by simp))
  obtain ⟨h1, rfl⟩ := hP
  cases h1
  refine xr_aload_n C d_AL_add2_5 6 rfl rfl ?_
  refine xr_dup C d_AL_add2_6 7 rfl rfl ?_
  refine xr_get C K_AL 0 d_AL_add2_7 10 rfl q_60 (Or.inr q_61) rfl (by first | assumption | exact xup_self | exact (xup_ne (by assumption)).trans (by assumption) | exact (xup_ne (Ne.symm (by assumption))).trans (by assumption) | exact (xup_ne (by assumption)).trans xup_self | exact (xup_ne (Ne.symm (by assumption))).trans xup_self) rfl ?_
  refine xr_iconst (v := 1) C d_AL_add2_10 11 rfl (by decide) ?_
  refine xr_iadd C d_AL_add2_11 12 rfl ?_
  refine xr_put C K_AL 0 d_AL_add2_12 15 rfl q_60 (Or.inr q_61) rfl rfl rfl rfl (by first | assumption | exact xup_self | exact (xup_ne (by assumption)).trans (by assumption) | exact (xup_ne (Ne.symm (by assumption))).trans (by assumption) | exact (xup_ne (by assumption)).trans xup_self | exact (xup_ne (Ne.symm (by assumption))).trans xup_self) rfl rfl ?_
  refine xr_aload_n C d_AL_add2_15 16 rfl rfl ?_
  refine xr_get C K_AL 2 d_AL_add2_16 19 rfl q_58 (Or.inl rfl) rfl (by first | assumption | exact xup_self | exact (xup_ne (by assumption)).trans (by assumption) | exact (xup_ne (Ne.symm (by assumption))).trans (by assumption) | exact (xup_ne (by assumption)).trans xup_self | exact (xup_ne (Ne.symm (by assumption))).trans xup_self) rfl ?_
  refine xr_dup C d_AL_add2_19 20 rfl rfl ?_
  refine xr_istore_n C d_AL_add2_20 21 rfl rfl rfl ?_
  refine xr_aload_n C d_AL_add2_21 22 rfl rfl ?_
  refine xr_get C K_AL 1 d_AL_add2_22 25 rfl q_57 (Or.inl rfl) rfl (by first | assumption | exact xup_self | exact (xup_ne (by assumption)).trans (by assumption) | exact (xup_ne (Ne.symm (by assumption))).trans (by assumption) | exact (xup_ne (by assumption)).trans xup_self | exact (xup_ne (Ne.symm (by assumption))).trans xup_self) rfl ?_
  refine xr_dup C d_AL_add2_25 26 rfl rfl ?_
  refine xr_astore C d_AL_add2_26 28 rfl rfl rfl ?_
  obtain ⟨X1, hX1⟩ : ∃ z, z = xup X a (.inr (7, [.int (mo + 1), .ref b, .int (nI as.length)])) := ⟨_, rfl⟩
  refine xG.eqX (show _ = X1 from hX1.symm) ?_
  have ha1 : X1 a = some (.inr (7, [.int (mo + 1), .ref b, .int (nI as.length)])) := by rw [hX1]; exact xup_self
  have hb1 : X1 b = some (.inl (E.D.1 101, cap, .inr (.inr (.inr (.inr f))))) := by rw [hX1]; exact (xup_ne (Ne.symm hab)).trans hb
  have ho1 : ∀ q ∈ as, xOb X1 q := fun q hq => by rw [hX1]; exact (ho q hq).up ha
  have hv1 : xOb X1 v := by rw [hX1]; exact hv.up ha
  have hfr1 : xFr [a, b] X X1 := by rw [hX1]; exact xFr_up ha (fun z => z) (by simp)
  refine xr_alen (t0 := 1) C rfl d_AL_add2_28 29 rfl hb1 ?_
  refine xr_icmp_ne C d_AL_add2_29 32 38 rfl (by decide) (fun h29 => ?_) (fun h29 => ?_)
  · have hlt : as.length < cap := by
      rcases Nat.lt_or_ge as.length cap with h | h
      · exact h
      · exact absurd (show nI as.length = nI cap by rw [show as.length = cap by omega]) h29
    refine xr_aload C d_AL_add2_38 40 rfl rfl ?_
    refine xr_iload_n C d_AL_add2_40 41 rfl rfl ?_
    refine xr_aload C d_AL_add2_41 43 rfl rfl ?_
    refine xr_iload_n C d_AL_add2_43 44 rfl rfl ?_
    refine xr_iconst (v := 1) C d_AL_add2_44 45 rfl (by decide) ?_
    refine xr_iadd C d_AL_add2_45 46 rfl ?_
    refine xr_iload_n C d_AL_add2_46 47 rfl rfl ?_
    refine xr_iload_n C d_AL_add2_47 48 rfl rfl ?_
    refine xr_isub C d_AL_add2_48 49 rfl ?_
    refine xr_toi (pk_sub hj) ?_
    refine xG.eqS (show _ = [Value.int (nI (as.length - j)), Value.int (nI (j + 1)), Value.ref b, Value.int (nI j), Value.ref b] from by rw [nI_one] <;> rfl) ?_
    refine xr_copyq C d_AL_add2_49 52 rfl q_301 w_copy hb1 hb1 (by omega) (by omega) (by omega) (by omega) (by omega) (Nat.le_of_ble_eq_true rfl) (fun i hi q hq => xLi.el (D := E.D) hf ho1 (j + i) (by omega) q hq) ?_
    obtain ⟨ci, vs, r, o1, o2, o3⟩ := hv1.arr (v := .inl (E.D.1 101, cap, .inr (.inr (.inr (.inr (va_cpy f f j (j + 1) (as.length - j))))))) hb1
    refine xr_aload C d_AL_add2_52 54 rfl rfl ?_
    refine xr_iload_n C d_AL_add2_54 55 rfl rfl ?_
    refine xr_aload_n C d_AL_add2_55 56 rfl rfl ?_
    refine xr_aast C d_AL_add2_56 57 rfl xup_self rfl (by omega) (by omega) o1 o2 o3 ?_
    refine xG.eqX xup_up ?_
    refine xr_aload_n C d_AL_add2_57 58 rfl rfl ?_
    refine xr_iload_n C d_AL_add2_58 59 rfl rfl ?_
    refine xr_iconst (v := 1) C d_AL_add2_59 60 rfl (by decide) ?_
    refine xr_iadd C d_AL_add2_60 61 rfl ?_
    refine xr_toi (nI_one _) ?_
    refine xr_put C K_AL 2 d_AL_add2_61 64 rfl q_58 (Or.inl rfl) rfl rfl rfl rfl ((xup_ne hab).trans ha1) rfl rfl ?_
    refine xr_vret C d_AL_add2_64 (by omega) (by omega) ?_
    rw [if_pos hlt]
    refine ⟨rfl, b, ⟨mo + 1, va_up (va_cpy f f j (j + 1) (as.length - j)) j (some v), ?_, (xup_ne (Ne.symm hab)).trans xup_self, ?_, hc, hz, fun i hi => ?_⟩, ?_, Or.inl rfl⟩
    · rw [insAt_length hj]
      exact xup_self
    · rw [insAt_length hj]
      omega
    · rw [insAt_length hj] at hi
      rw [getD_ins hj]
      by_cases h : i < j
      · rw [if_pos h, va_up_ne _ _ (by omega), pk_cpy_out (by omega)]
        exact hf i (by omega)
      · rw [if_neg h]
        by_cases h2 : i = j
        · subst h2
          rw [if_pos rfl]
          exact va_up_self _ _ _
        · rw [if_neg h2, va_up_ne _ _ h2, pk_cpy_in (by omega) (by omega), show j + (i - (j + 1)) = i - 1 by omega]
          exact hf (i - 1) (by omega)
    · exact hfr1.trans ((xFr_up hb1 (fun z => absurd z (show cap ≠ 0 by omega)) (by simp)).trans (xFr_up ((xup_ne hab).trans ha1) (fun z => z) (by simp)))
  · have heq : as.length = cap := (nI_eq (by omega) (by omega)).mp h29
    subst heq
    refine xr_aload_n C d_AL_add2_32 33 rfl rfl ?_
    refine xr_callV C (c_AL_grow0 ha1 hb1 hn hz (xLi.el (D := E.D) hf ho1)) k_AL_grow0 d_AL_add2_33 36 rfl (by first | assumption | exact xup_self | exact (xup_ne (by assumption)).trans (by assumption) | exact (xup_ne (Ne.symm (by assumption))).trans (by assumption) | exact (xup_ne (by assumption)).trans xup_self | exact (xup_ne (Ne.symm (by assumption))).trans xup_self) rfl (Or.inl q_342) v_AL_grow0 e_AL_grow0 h_AL_grow0 rfl ⟨Nat.le_of_ble_eq_true rfl, Nat.le_of_ble_eq_true rfl, Nat.le_of_ble_eq_true rfl⟩ (by omega) (by omega) (fun v9 X' hP => ?_) (fun _ _ h => by obtain ⟨q, N, f9, h, -⟩ := h; cases h)
    obtain ⟨q, N, f', h1, h2, h4, h5, rfl, h6, h7⟩ := hP
    cases h1
    have hqa : q ≠ a := Ne.symm (xne_none ha1 h2)
    have hX2 : xup (xup X1 q (.inl (E.D.1 101, N, .inr (.inr (.inr (.inr f')))))) a (.inr (7, [.int (mo + 1), .ref q, .int (nI as.length)])) q = some (.inl (E.D.1 101, N, .inr (.inr (.inr (.inr f'))))) := (xup_ne hqa).trans xup_self
    have ho2 : ∀ z ∈ as, xOb (xup (xup X1 q (.inl (E.D.1 101, N, .inr (.inr (.inr (.inr f')))))) a (.inr (7, [.int (mo + 1), .ref q, .int (nI as.length)]))) z := fun z hz => ((ho1 z hz).fresh h2).up (xup_fresh ha1 h2)
    have hf' : ∀ i, i < as.length → f' i = some (as.getD i 0) := fun i hi => (h6 i hi).trans (hf i hi)
    have hv2 := ((hv1.fresh (v := .inl (E.D.1 101, N, .inr (.inr (.inr (.inr f'))))) h2).up (fs' := [.int (mo + 1), .ref q, .int (nI as.length)]) (xup_fresh ha1 h2)).arr (v := .inl (E.D.1 101, N, .inr (.inr (.inr (.inr (va_cpy f' f' j (j + 1) (as.length - j))))))) hX2
    obtain ⟨ci, vs, r, o1, o2, o3⟩ := hv2
    refine xr_astore C d_AL_add2_36 38 rfl rfl rfl ?_
    refine xr_aload C d_AL_add2_38 40 rfl rfl ?_
    refine xr_iload_n C d_AL_add2_40 41 rfl rfl ?_
    refine xr_aload C d_AL_add2_41 43 rfl rfl ?_
    refine xr_iload_n C d_AL_add2_43 44 rfl rfl ?_
    refine xr_iconst (v := 1) C d_AL_add2_44 45 rfl (by decide) ?_
    refine xr_iadd C d_AL_add2_45 46 rfl ?_
    refine xr_iload_n C d_AL_add2_46 47 rfl rfl ?_
    refine xr_iload_n C d_AL_add2_47 48 rfl rfl ?_
    refine xr_isub C d_AL_add2_48 49 rfl ?_
    refine xr_toi (pk_sub hj) ?_
    refine xG.eqS (show _ = [Value.int (nI (as.length - j)), Value.int (nI (j + 1)), Value.ref q, Value.int (nI j), Value.ref q] from by rw [nI_one] <;> rfl) ?_
    refine xr_copyq C d_AL_add2_49 52 rfl q_301 w_copy hX2 hX2 (by omega) (by omega) (by omega) (by omega) (by omega) (Nat.le_of_ble_eq_true rfl) (fun i hi z hz => xLi.el (D := E.D) hf' ho2 (j + i) (by omega) z hz) ?_
    refine xr_aload C d_AL_add2_52 54 rfl rfl ?_
    refine xr_iload_n C d_AL_add2_54 55 rfl rfl ?_
    refine xr_aload_n C d_AL_add2_55 56 rfl rfl ?_
    refine xr_aast C d_AL_add2_56 57 rfl xup_self rfl (by omega) (by omega) o1 o2 o3 ?_
    refine xG.eqX xup_up ?_
    refine xr_aload_n C d_AL_add2_57 58 rfl rfl ?_
    refine xr_iload_n C d_AL_add2_58 59 rfl rfl ?_
    refine xr_iconst (v := 1) C d_AL_add2_59 60 rfl (by decide) ?_
    refine xr_iadd C d_AL_add2_60 61 rfl ?_
    refine xr_toi (nI_one _) ?_
    refine xr_put C K_AL 2 d_AL_add2_61 64 rfl q_58 (Or.inl rfl) rfl rfl rfl rfl ((xup_ne (Ne.symm hqa)).trans xup_self) rfl rfl ?_
    refine xr_vret C d_AL_add2_64 (by omega) (by omega) ?_
    rw [if_neg (Nat.lt_irrefl _), ← h7]
    refine ⟨rfl, q, ⟨mo + 1, va_up (va_cpy f' f' j (j + 1) (as.length - j)) j (some v), ?_, (xup_ne hqa).trans xup_self, ?_, h5, fun h0 => absurd h0 (by omega), fun i hi => ?_⟩, ?_, Or.inr ?_⟩
    · rw [insAt_length hj]
      exact xup_self
    · rw [insAt_length hj]
      omega
    · rw [insAt_length hj] at hi
      rw [getD_ins hj]
      by_cases h : i < j
      · rw [if_pos h, va_up_ne _ _ (by omega), pk_cpy_out (by omega)]
        exact hf' i (by omega)
      · rw [if_neg h]
        by_cases h2 : i = j
        · subst h2
          rw [if_pos rfl]
          exact va_up_self _ _ _
        · rw [if_neg h2, va_up_ne _ _ h2, pk_cpy_in (by omega) (by omega), show j + (i - (j + 1)) = i - 1 by omega]
          exact hf' (i - 1) (by omega)
    · exact hfr1.trans ((((xFr.rf.fresh h2).at ha1 (fun z => z) (by simp)).fresh h2).at ha1 (fun z => z) (by simp))
    · rw [hX1, xup_ne hqa] at h2
      exact h2
end
section
/-! JDK: ArrayList.clear; Arrays.copyOf, copyOfRange of bytes. -/
section XC0
variable {E : xE} {y : MethodName} {cc : ByteArray} {nL : Nat} {ret : Option FieldType} {hs : List (Nat × Nat × Nat × Nat)} {d mc ms : Nat} {Post : xO → xH → Prop} {X : xH} {cells slots pc : Nat} {L : List (Option Value)} {st : List Value}
/-- .. of no bytes, into an array of none -/
theorem xcopy0 (C : xCx E y cc nL ret hs d mc ms Post) {idx a0 a1 n0 n1 sp dp : Nat} {f g : Nat → Int32} (hd : decode cc pc = .ok (.invokestatic idx, 3)) (nx : Nat) (hn : pc + 3 = nx) (hl : Cond.methodLink y.cls idx arraycopyName ∈ xT) (hw : Cond.native arraycopyName ∈ xT ∧ Cond.static arraycopyName ∈ xT ∧ Cond.initialized "java/lang/System" ∈ xT) (hX0 : X a0 = some (.inl (E.D.1 100, n0, .inl f))) (hX1 : X a1 = some (.inl (E.D.1 100, n1, .inl g))) (hs0 : sp ≤ n0) (hz : n1 = 0) (hN0 : n0 < 2 ^ 31 ∧ dp = 0) (hst : (st.map fun v => v.category).sum ≤ 8) (kk : xG E X cells slots nx L st) : xG E X cells slots pc L (.int (nI n1) :: .int (nI dp) :: .ref a1 :: .int (nI sp) :: .ref a0 :: st) := by
  subst hn
  subst hz
  obtain ⟨hN0, rfl⟩ := hN0
  intro H locs ls h1 h2 h3 T hT S
  subst hT
  obtain ⟨cs, b1, b2⟩ := h1.cell hX0
  obtain ⟨cd, b3, b4⟩ := h1.cell hX1
  have m0 : (nI sp).toNatClampNeg = sp := nI_clamp (by omega)
  have m1 : (nI 0).toNatClampNeg = 0 := by decide
  obtain ⟨-, k0, hk0, cm0, hkk0⟩ := b2.of (C.kk.1.2 0 _ rfl).1
  obtain ⟨-, k1, hk1, cm1, hkk1⟩ := b4.of (C.kk.1.2 0 _ rfl).1
  obtain ⟨vm', S', step⟩ := S.arraycopy C.1 C.ow (C.ts _ hl) (C.ts _ hw.1) (C.ts _ hw.2.1) (C.ts _ hw.2.2) (src := a0) (dst := a1) (cs := cs) (cd := cd) (srcPos := nI sp) (destPos := nI 0) (n := nI 0) b1 b3 b2.2.2.1 b4.2.2.1 b2.2.1 b4.2.1 hk0 hk1 hkk0 hkk1 (by simp) (nI_pos (by omega)) (nI_pos (by omega)) (nI_pos (by omega))
    (by rw [nI_toInt (by omega), nI_toInt (by omega), b2.size]; show ¬ _ > (n0 : Int); omega) (by rw [nI_toInt (by omega), b4.size]; show ¬ _ > ((0 : Nat) : Int); omega)
    (fun vm₁ hal i hi => by
      rw [m1] at hi
      exact absurd hi (Nat.not_lt_zero _))
    (g := F0 E.m pc ls (.int (nI 0) :: .int (nI 0) :: .ref a1 :: .int (nI sp) :: .ref a0 :: st)) rfl (by rw [C.2.2.1]; exact h3.1) (rest := st) rfl (by rw [C.2.1]; exact hd) (by rw [C.rm]; show 1 ≤ d + 8; omega) (by rw [C.rm, show nativeFrameWords "java/lang/System" "arraycopy" 5 = 7 from by decide]; show 2 * 0 + _ + _ ≤ 40 * (d + 8); omega)
  have hcpd : copied cs cd (nI sp) (nI 0) (nI 0) = cd := by
    show cd.storeRun (nI 0).toNatClampNeg (cs.stretch (nI sp).toNatClampNeg (nI 0).toNatClampNeg) = _
    rw [m0, m1]
    rfl
  rw [hcpd] at S' step
  have hl1 : a1 < T.heap.size := (Array.getElem?_eq_some_iff.mp b3).1
  have hheap : ((T.setVm vm').setCell a1 cd).heap = T.heap := by
    show T.heap.setIfInBounds a1 cd = T.heap
    apply Array.ext_getElem?
    intro i
    rw [Array.getElem?_setIfInBounds]
    by_cases h : a1 = i
    · subst h
      rw [if_pos rfl, if_pos hl1, b3]
    · simp [h]
  have e : (cs.stretch (nI sp).toNatClampNeg (nI 0).toNatClampNeg).zipIdx.map (fun q => (⟨a1, (nI 0).toNatClampNeg + q.2⟩ : Loc)) = [] := by
    rw [m1]
    rfl
  rw [e, List.append_nil] at S'
  obtain ⟨t, q1, q2⟩ := kk _ _ ls h1 h2 h3 _ hheap S'
  exact ⟨t, step t q1, q2⟩
end XC0

set_option maxRecDepth 100000 in
set_option maxHeartbeats 4000000 in
theorem l_clear {l : Launch} {D : va_G} {H0 : Heap} {X : xH} {a b cap : Nat} {as : List Nat} (hL : xLi D X a b cap as) : xMet l D H0 y_AL_clear b_AL_clear 4 none [] 0 0 0 [.ref a] X (fun o X' => o = .inl none ∧ xLi D X' a b cap [] ∧ xFr [a, b] X X') := by
  obtain ⟨mo, f, ha, hb, hle, hc, hz, hf⟩ := hL
  refine ⟨[some (.ref a), none, none, none], rfl, Nat.le_of_ble_eq_true rfl, fun E hD hH hl _ C => ?_⟩
  subst hD
  subst hH
  subst hl
  have hab : a ≠ b := xne ha hb (by intro h; cases h)
  refine xr_aload_n C d_AL_clear_0 1 rfl rfl ?_
  refine xr_dup C d_AL_clear_1 2 rfl rfl ?_
  refine xr_get C K_AL 0 d_AL_clear_2 5 rfl q_60 (Or.inr q_61) rfl (by first | assumption | exact xup_self | exact (xup_ne (by assumption)).trans (by assumption) | exact (xup_ne (Ne.symm (by assumption))).trans (by assumption) | exact (xup_ne (by assumption)).trans xup_self | exact (xup_ne (Ne.symm (by assumption))).trans xup_self) rfl ?_
  refine xr_iconst (v := 1) C d_AL_clear_5 6 rfl (by decide) ?_
  refine xr_iadd C d_AL_clear_6 7 rfl ?_
  refine xr_put C K_AL 0 d_AL_clear_7 10 rfl q_60 (Or.inr q_61) rfl rfl rfl rfl (by first | assumption | exact xup_self | exact (xup_ne (by assumption)).trans (by assumption) | exact (xup_ne (Ne.symm (by assumption))).trans (by assumption) | exact (xup_ne (by assumption)).trans xup_self | exact (xup_ne (Ne.symm (by assumption))).trans xup_self) rfl rfl ?_
  refine xr_aload_n C d_AL_clear_10 11 rfl rfl ?_
  refine xr_get C K_AL 1 d_AL_clear_11 14 rfl q_57 (Or.inl rfl) rfl (by first | assumption | exact xup_self | exact (xup_ne (by assumption)).trans (by assumption) | exact (xup_ne (Ne.symm (by assumption))).trans (by assumption) | exact (xup_ne (by assumption)).trans xup_self | exact (xup_ne (Ne.symm (by assumption))).trans xup_self) rfl ?_
  refine xr_astore_n C d_AL_clear_14 15 rfl rfl rfl ?_
  refine xr_aload_n C d_AL_clear_15 16 rfl rfl ?_
  refine xr_get C K_AL 2 d_AL_clear_16 19 rfl q_58 (Or.inl rfl) rfl (by first | assumption | exact xup_self | exact (xup_ne (by assumption)).trans (by assumption) | exact (xup_ne (Ne.symm (by assumption))).trans (by assumption) | exact (xup_ne (by assumption)).trans xup_self | exact (xup_ne (Ne.symm (by assumption))).trans xup_self) rfl ?_
  refine xr_istore_n C d_AL_clear_19 20 rfl rfl rfl ?_
  refine xr_aload_n C d_AL_clear_20 21 rfl rfl ?_
  refine xr_iconst (v := 0) C d_AL_clear_21 22 rfl (by decide) ?_
  refine xr_dup_x1 C d_AL_clear_22 23 rfl rfl rfl ?_
  refine xr_put C K_AL 2 d_AL_clear_23 26 rfl q_58 (Or.inl rfl) rfl rfl rfl rfl (by first | assumption | exact xup_self | exact (xup_ne (by assumption)).trans (by assumption) | exact (xup_ne (Ne.symm (by assumption))).trans (by assumption) | exact (xup_ne (by assumption)).trans xup_self | exact (xup_ne (Ne.symm (by assumption))).trans xup_self) rfl rfl ?_
  refine xr_istore_n C d_AL_clear_26 27 rfl rfl rfl ?_
  obtain ⟨X1, hX1⟩ : ∃ z, z = xup X a (.inr (7, [.int (mo + 1), .ref b, .int (nI 0)])) := ⟨_, rfl⟩
  refine xG.eqX (show _ = X1 by rw [hX1, xup_up]; rfl) ?_
  have ha1 : X1 a = some (.inr (7, [.int (mo + 1), .ref b, .int (nI 0)])) := by rw [hX1]; exact xup_self
  have hb1 : X1 b = some (.inl (E.D.1 101, cap, .inr (.inr (.inr (.inr f))))) := by rw [hX1]; exact (xup_ne (Ne.symm hab)).trans hb
  have hfr1 : xFr [a, b] X X1 := by rw [hX1]; exact xFr_up ha (fun z => z) (by simp)
  have loop : ∀ (k i : Nat) (Y : xH) (g : Nat → Option Nat), i + k = as.length → Y a = some (.inr (7, [.int (mo + 1), .ref b, .int (nI 0)])) → Y b = some (.inl (E.D.1 101, cap, .inr (.inr (.inr (.inr g))))) → xFr [a, b] X Y → xG E Y 0 0 27 [some (.ref a), some (.ref b), some (.int (nI as.length)), some (.int (nI i))] [] := by
    intro k
    induction k with
    | zero =>
      intro i Y g hi h1 h2 h3
      refine xr_iload_n C d_AL_clear_27 28 rfl rfl ?_
      refine xr_iload_n C d_AL_clear_28 29 rfl rfl ?_
      refine xr_icmp_ge C d_AL_clear_29 32 42 rfl (by decide) (fun _ => ?_) (fun h => absurd (nI_le (show as.length ≤ i by omega) (by omega)) h)
      exact xr_vret C d_AL_clear_42 (by omega) (by omega) ⟨rfl, ⟨mo + 1, g, h1, h2, Nat.zero_le _, hc, hz, fun i hi => absurd hi (Nat.not_lt_zero _)⟩, h3⟩
    | succ k ih =>
      intro i Y g hi h1 h2 h3
      refine xr_iload_n C d_AL_clear_27 28 rfl rfl ?_
      refine xr_iload_n C d_AL_clear_28 29 rfl rfl ?_
      refine xr_icmp_ge C d_AL_clear_29 32 42 rfl (by decide) (fun h => absurd h (nI_ge (show i < as.length by omega) (by omega))) (fun _ => ?_)
      refine xr_aload_n C d_AL_clear_32 33 rfl rfl ?_
      refine xr_iload_n C d_AL_clear_33 34 rfl rfl ?_
      refine xr_null C d_AL_clear_34 35 rfl ?_
      refine xr_aastN C d_AL_clear_35 36 rfl h2 rfl (by omega) (by omega) ?_
      refine xr_iinc (v := 1) C d_AL_clear_36 39 rfl rfl rfl rfl (by decide) ?_
      refine xr_goto C d_AL_clear_39 27 (by decide) ?_
      refine xG.eqL (show _ = [some (Value.ref a), some (Value.ref b), some (Value.int (nI as.length)), some (Value.int (nI (i + 1)))] by rw [← nI_one]; rfl) ?_
      exact ih (i + 1) _ _ (by omega) ((xup_ne hab).trans h1) xup_self (h3.trans (xFr_up h2 (fun z => absurd z (show cap ≠ 0 by omega)) (by simp)))
  exact loop as.length 0 X1 f (by omega) ha1 hb1 hfr1
/-- bytes -/
def xby (n : Nat) (f : Nat → Int32) : Prop := ∀ i, i < n → fits .byte (.int (f i)) = true
set_option maxRecDepth 100000 in
set_option maxHeartbeats 4000000 in
theorem c_AR_copyB {l : Launch} {D : va_G} {H0 : Heap} {X : xH} {a n N : Nat} {f : Nat → Int32} (ha : X a = some (.inl (D.1 100, n, .inl f))) (hn : n < 1000000) (hN : N < 1000000) (hne : N ≠ n) (h0 : 0 < N) (hb : xby n f) : xMet l D H0 y_AR_copyB b_AR_copyB 3 (some (.array .byte)) [] 0 1 N [.ref a, .int (nI N)] X (fun o X' => ∃ q : Nat, o = .inl (some (.ref q)) ∧ X q = none ∧ X' = xup X q (.inl (D.1 100, N, .inl (va_cpy f (fun _ => 0) 0 0 (if n < N then n else N))))) := by
  refine ⟨[some (.ref a), some (.int (nI N)), none], rfl, Nat.le_of_ble_eq_true rfl, fun E hD hH hl _ C => ?_⟩
  subst hD
  subst hH
  subst hl
  refine xr_iload_n C d_AR_copyB_0 1 rfl rfl ?_
  refine xr_aload_n C d_AR_copyB_1 2 rfl rfl ?_
  refine xr_alen (t0 := 0) C rfl d_AR_copyB_2 3 rfl ha ?_
  refine xr_icmp_ne C d_AR_copyB_3 6 14 rfl (by decide) (fun _ => ?_) (fun h => absurd ((nI_eq (by omega) (by omega)).mp h) hne)
  refine xr_iload_n C d_AR_copyB_14 15 rfl rfl ?_
  refine xr_newb C d_AR_copyB_15 17 rfl q_116 rfl (by omega) (by omega) (by omega) (fun q hq => ?_)
  refine xr_astore_n C d_AR_copyB_17 18 rfl rfl rfl ?_
  refine xr_aload_n C d_AR_copyB_18 19 rfl rfl ?_
  refine xr_iconst (v := 0) C d_AR_copyB_19 20 rfl (by decide) ?_
  refine xr_aload_n C d_AR_copyB_20 21 rfl rfl ?_
  refine xr_iconst (v := 0) C d_AR_copyB_21 22 rfl (by decide) ?_
  refine xr_aload_n C d_AR_copyB_22 23 rfl rfl ?_
  have ha' : xup X q (.inl (E.D.1 100, N, .inl (fun _ => 0))) a = some (.inl (E.D.1 100, n, .inl f)) := xup_fresh ha hq
  refine xr_alen (t0 := 0) C rfl d_AR_copyB_23 24 rfl ha' ?_
  refine xr_iload_n C d_AR_copyB_24 25 rfl rfl ?_
  refine xr_min C d_AR_copyB_25 28 rfl q_386 w_min (Nat.le_of_ble_eq_true rfl) (by omega) (by omega) ?_
  obtain ⟨z, hz⟩ : ∃ z, z = if n < N then n else N := ⟨_, rfl⟩
  have hz1 : z ≤ n ∧ z ≤ N := by rw [hz]; split <;> omega
  refine xr_toi (show _ = nI z from by
    rw [hz]
    by_cases h : n < N
    · rw [if_pos h, if_neg (nI_nlt (by omega) (by omega))]
    · rw [if_neg h, if_pos (nI_lt (by show N < n; omega) (by show n < _; omega))]) ?_
  rw [← hz] at C
  refine xr_copyb (sp := 0) (dp := 0) C d_AR_copyB_28 31 rfl q_389 w_copy ha' xup_self (by omega) (by omega) (by omega) (by omega) (by omega) (Nat.le_of_ble_eq_true rfl) (fun i hi => hb _ (by omega)) ?_
  refine xG.eqX xup_up ?_
  refine xr_aload_n C d_AR_copyB_31 32 rfl rfl ?_
  exact xr_aret C d_AR_copyB_32 (Or.inr ⟨_, rfl⟩) (by omega) (by omega) ⟨q, rfl, hq, rfl⟩
set_option maxRecDepth 100000 in
set_option maxHeartbeats 4000000 in
theorem c_AR_checkLength {l : Launch} {D : va_G} {H0 : Heap} {X : xH} {i j : Nat} (hij : i ≤ j) (hj : j < 2 ^ 31) : xMet l D H0 y_AR_checkLength b_AR_checkLength 2 none [] 0 0 0 [.int (nI i), .int (nI j)] X (fun o X' => o = .inl none ∧ X' = X) := by
  refine ⟨[some (.int (nI i)), some (.int (nI j))], rfl, Nat.le_of_ble_eq_true rfl, fun E hD hH hl _ C => ?_⟩
  subst hD
  subst hH
  subst hl
  refine xr_iload_n C d_AR_checkLength_0 1 rfl rfl ?_
  refine xr_iload_n C d_AR_checkLength_1 2 rfl rfl ?_
  refine xr_icmp_ge C d_AR_checkLength_2 5 37 rfl (by decide) (fun _ => ?_) (fun h => absurd (nI_le hij hj) h)
  exact xr_vret C d_AR_checkLength_37 (by omega) (by omega) ⟨rfl, rfl⟩
set_option maxRecDepth 100000 in
set_option maxHeartbeats 4000000 in
theorem c_AR_copyOfRangeByte {l : Launch} {D : va_G} {H0 : Heap} {X : xH} {a n i j : Nat} {f : Nat → Int32} (ha : X a = some (.inl (D.1 100, n, .inl f))) (hn : n < 1000000) (hij : i ≤ j) (hjn : j ≤ n) (hb : xby n f) : xMet l D H0 y_AR_copyOfRangeByte b_AR_copyOfRangeByte 5 (some (.array .byte)) [] 1 1 (j - i) [.ref a, .int (nI i), .int (nI j)] X (fun o X' => ∃ (q : Nat) (g : Nat → Int32), o = .inl (some (.ref q)) ∧ X q = none ∧ X' = xup X q (.inl (D.1 100, j - i, .inl g)) ∧ ∀ k, k < j - i → g k = f (i + k)) := by
  refine ⟨[some (.ref a), some (.int (nI i)), some (.int (nI j)), none, none], rfl, Nat.le_of_ble_eq_true rfl, fun E hD hH hl _ C => ?_⟩
  subst hD
  subst hH
  subst hl
  refine xr_iload_n C d_AR_copyOfRangeByte_0 1 rfl rfl ?_
  refine xr_iload_n C d_AR_copyOfRangeByte_1 2 rfl rfl ?_
  refine xr_callS C (c_AR_checkLength hij (by omega)) k_AR_checkLength d_AR_copyOfRangeByte_2 5 rfl (Or.inl q_471) s_AR_checkLength in_AR_checkLength h_AR_checkLength rfl ⟨Nat.le_of_ble_eq_true rfl, Nat.le_of_ble_eq_true rfl, Nat.le_of_ble_eq_true rfl⟩ (by omega) (by omega) (fun v9 X hP => ?_) (fun _ _ h => absurd h.1 (by simp))
  obtain ⟨h1, rfl⟩ := hP
  cases h1
  refine xr_iload_n C d_AR_copyOfRangeByte_5 6 rfl rfl ?_
  refine xr_iload_n C d_AR_copyOfRangeByte_6 7 rfl rfl ?_
  refine xr_isub C d_AR_copyOfRangeByte_7 8 rfl ?_
  refine xr_toi (pk_sub hij) ?_
  refine xr_istore_n C d_AR_copyOfRangeByte_8 9 rfl rfl rfl ?_
  refine xr_iload_n C d_AR_copyOfRangeByte_9 10 rfl rfl ?_
  refine xr_newb C d_AR_copyOfRangeByte_10 12 rfl q_116 rfl (by omega) (by omega) (by omega) (fun q hq => ?_)
  refine xr_astore C d_AR_copyOfRangeByte_12 14 rfl rfl rfl ?_
  refine xr_aload_n C d_AR_copyOfRangeByte_14 15 rfl rfl ?_
  refine xr_iload_n C d_AR_copyOfRangeByte_15 16 rfl rfl ?_
  refine xr_aload C d_AR_copyOfRangeByte_16 18 rfl rfl ?_
  refine xr_iconst (v := 0) C d_AR_copyOfRangeByte_18 19 rfl (by decide) ?_
  refine xr_aload_n C d_AR_copyOfRangeByte_19 20 rfl rfl ?_
  have ha' : xup X q (.inl (E.D.1 100, j - i, .inl (fun _ => 0))) a = some (.inl (E.D.1 100, n, .inl f)) := xup_fresh ha hq
  refine xr_alen (t0 := 0) C rfl d_AR_copyOfRangeByte_20 21 rfl ha' ?_
  refine xr_iload_n C d_AR_copyOfRangeByte_21 22 rfl rfl ?_
  refine xr_isub C d_AR_copyOfRangeByte_22 23 rfl ?_
  refine xr_toi (pk_sub (by show i ≤ n; omega)) ?_
  refine xr_iload_n C d_AR_copyOfRangeByte_23 24 rfl rfl ?_
  refine xr_min C d_AR_copyOfRangeByte_24 27 rfl q_386 w_min (Nat.le_of_ble_eq_true rfl) (by omega) (by omega) ?_
  refine xr_toi (show _ = nI (j - i) from by
    by_cases h : n - i = j - i
    · show (if nI (j - i) < nI (n - i) then nI (j - i) else nI (n - i)) = _
      rw [h]
      split <;> rfl
    · exact if_pos (nI_lt (by show j - i < n - i; omega) (by show n - i < _; omega))) ?_
  by_cases hz : j - i = 0
  · refine xcopy0 (sp := i) (dp := 0) C d_AR_copyOfRangeByte_27 30 rfl q_389 w_copy ha' xup_self (by omega) hz ⟨by omega, rfl⟩ (Nat.le_of_ble_eq_true rfl) ?_
    refine xr_aload C d_AR_copyOfRangeByte_30 32 rfl rfl ?_
    exact xr_aret C d_AR_copyOfRangeByte_32 (Or.inr ⟨_, rfl⟩) (by omega) (by omega) ⟨q, _, rfl, hq, rfl, fun k hk => absurd hk (by omega)⟩
  · refine xr_copyb (sp := i) (dp := 0) C d_AR_copyOfRangeByte_27 30 rfl q_389 w_copy ha' xup_self (by omega) (by omega) (by omega) (by omega) hz (Nat.le_of_ble_eq_true rfl) (fun k hk => hb _ (by omega)) ?_
    refine xG.eqX xup_up ?_
    refine xr_aload C d_AR_copyOfRangeByte_30 32 rfl rfl ?_
    exact xr_aret C d_AR_copyOfRangeByte_32 (Or.inr ⟨_, rfl⟩) (by omega) (by omega) ⟨q, _, rfl, hq, rfl, fun k hk => pk_cpy_in (by omega) (by omega)⟩
set_option maxRecDepth 100000 in
set_option maxHeartbeats 4000000 in
theorem c_AR_copyOfRange {l : Launch} {D : va_G} {H0 : Heap} {X : xH} {a n i j : Nat} {f : Nat → Int32} (ha : X a = some (.inl (D.1 100, n, .inl f))) (hn : n < 1000000) (hij : i ≤ j) (hjn : j ≤ n) (hne : i = 0 → j ≠ n) (hb : xby n f) : xMet l D H0 y_AR_copyOfRange b_AR_copyOfRange 3 (some (.array .byte)) [] 2 1 (j - i) [.ref a, .int (nI i), .int (nI j)] X (fun o X' => ∃ (q : Nat) (g : Nat → Int32), o = .inl (some (.ref q)) ∧ X q = none ∧ X' = xup X q (.inl (D.1 100, j - i, .inl g)) ∧ ∀ k, k < j - i → g k = f (i + k)) := by
  refine ⟨[some (.ref a), some (.int (nI i)), some (.int (nI j))], rfl, Nat.le_of_ble_eq_true rfl, fun E hD hH hl _ C => ?_⟩
  subst hD
  subst hH
  subst hl
  have tail : xG E X 0 0 10 [some (.ref a), some (.int (nI i)), some (.int (nI j))] [] := by
    refine xr_aload_n C d_AR_copyOfRange_10 11 rfl rfl ?_
    refine xr_iload_n C d_AR_copyOfRange_11 12 rfl rfl ?_
    refine xr_iload_n C d_AR_copyOfRange_12 13 rfl rfl ?_
    refine xr_callS C (c_AR_copyOfRangeByte ha hn hij hjn hb) k_AR_copyOfRangeByte d_AR_copyOfRange_13 16 rfl (Or.inl q_468) s_AR_copyOfRangeByte in_AR_copyOfRangeByte h_AR_copyOfRangeByte rfl ⟨Nat.le_of_ble_eq_true rfl, Nat.le_of_ble_eq_true rfl, Nat.le_of_ble_eq_true rfl⟩ (by omega) (by omega) (fun v9 X' hP => ?_) (fun _ _ h => by obtain ⟨q, g, h, -⟩ := h; cases h)
    obtain ⟨q, g, h1, h2, rfl, h3⟩ := hP
    cases h1
    exact xr_aret C d_AR_copyOfRange_16 (Or.inr ⟨_, rfl⟩) (by omega) (by omega) ⟨q, g, rfl, h2, rfl, h3⟩
  refine xr_iload_n C d_AR_copyOfRange_0 1 rfl rfl ?_
  refine xr_if_ne C d_AR_copyOfRange_1 4 10 rfl (by decide) (fun _ => tail) (fun h1 => ?_)
  have hi0 : i = 0 := (nI_eq (by omega) (by omega)).mp (show nI i = nI 0 from h1)
  refine xr_iload_n C d_AR_copyOfRange_4 5 rfl rfl ?_
  refine xr_aload_n C d_AR_copyOfRange_5 6 rfl rfl ?_
  refine xr_alen (t0 := 0) C rfl d_AR_copyOfRange_6 7 rfl ha ?_
  refine xr_icmp_eq C d_AR_copyOfRange_7 10 17 rfl (by decide) (fun h7 => absurd ((nI_eq (by omega) (by omega)).mp h7) (hne hi0)) (fun _ => tail)
end
section
/-! The class: rows of bytes (TwinKeepers.Row). -/
def isb (x : Int32) : Prop := fits .byte (.int x) = true
theorem isb_nar {x : Int32} (h : isb x) : vp_nar .byte x = x := by
  have h1 : -128 ≤ x.toInt ∧ x.toInt ≤ 127 := by
    have h2 := h
    simp only [isb, fits] at h2
    have h3 : -128 ≤ x ∧ x ≤ 127 := by simpa using h2
    exact ⟨Int32.le_iff_toInt_le.mp h3.1, Int32.le_iff_toInt_le.mp h3.2⟩
  rw [vp_nar_byte]
  apply Int32.toInt_inj.mp
  rw [Int8.toInt_toInt32, Int32.toInt_toInt8]
  rw [Int.bmod_def]
  have e1 := h1.1
  have e2 := h1.2
  split <;> omega
theorem isb_i2b (z : Int32) : isb z.toInt8.toInt32 := pk_fb z
/-- d is c doubled as often as n wants -/
def isR (c n d : Nat) : Prop := ∃ j : Nat, d = c * 2 ^ j ∧ n ≤ d ∧ ∀ i, i < j → c * 2 ^ i < n
theorem isR.rf {c n : Nat} (h : n ≤ c) : isR c n c := ⟨0, by simp, h, fun i hi => absurd hi (Nat.not_lt_zero _)⟩
theorem isR.ex {c n : Nat} (hc : 0 < c) : ∃ d, isR c n d := by
  have h : ∃ k, n ≤ c * 2 ^ k := ⟨n, Nat.le_trans (Nat.le_of_lt Nat.lt_two_pow_self) (Nat.le_mul_of_pos_left _ hc)⟩
  obtain ⟨k, h1, h2⟩ := pk_least (fun k => n ≤ c * 2 ^ k) h
  exact ⟨_, k, rfl, h1, fun i hi => Nat.not_le.mp (h2 i hi)⟩
theorem isR.le {c n d : Nat} (h : isR c n d) : c ≤ d := by
  obtain ⟨j, rfl, -⟩ := h
  exact Nat.le_mul_of_pos_right _ (Nat.two_pow_pos j)
theorem isR.ge {c n d : Nat} (h : isR c n d) : n ≤ d := by
  obtain ⟨j, rfl, h1, -⟩ := h
  exact h1
theorem isR.then {c m n d1 d : Nat} (h1 : isR c m d1) (h : isR c n d) (hmn : m ≤ n) : isR d1 n d := by
  obtain ⟨j1, rfl, a1, a2⟩ := h1
  obtain ⟨j, rfl, b1, b2⟩ := h
  have hj : j1 ≤ j := by
    rcases Nat.lt_or_ge j j1 with q | q
    · have := a2 j q
      omega
    · exact q
  refine ⟨j - j1, ?_, b1, fun i hi => ?_⟩
  · rw [Nat.mul_assoc, ← Nat.pow_add, show j1 + (j - j1) = j by omega]
  · have := b2 (j1 + i) (by omega)
    rw [Nat.mul_assoc, ← Nat.pow_add]
    exact this
theorem isR.one {c n d : Nat} (h : isR c (n + 1) d) (hn : n ≤ c) (hc : 0 < c) : (n < c ∧ d = c) ∨ (n = c ∧ d = 2 * c) := by
  obtain ⟨j, rfl, h1, h2⟩ := h
  match j with
  | 0 => exact Or.inl ⟨by omega, by omega⟩
  | 1 => 
    have := h2 0 (by omega)
    refine Or.inr ⟨by omega, by omega⟩
  | j + 2 =>
    have h3 := h2 1 (by omega)
    exact absurd h3 (by omega)
theorem isR.fit {c n d : Nat} (h : isR c n d) (hn : n ≤ c) : d = c := by
  obtain ⟨j, rfl, h1, h2⟩ := h
  match j with
  | 0 => omega
  | j + 1 =>
    have := h2 0 (by omega)
    omega
theorem isR.top {c n d : Nat} (h : isR c n d) : d ≤ c ∨ d < 2 * n := by
  obtain ⟨j, rfl, h1, h2⟩ := h
  match j with
  | 0 => exact Or.inl (by omega)
  | j + 1 =>
    have := h2 j (by omega)
    rw [Nat.pow_succ, ← Nat.mul_assoc]
    exact Or.inr (by omega)
/-- a row at r, its bytes in the array at b of cap places -/
def xRow (D : va_G) (X : xH) (r b cap : Nat) (bs : List Int32) : Prop := ∃ f : Nat → Int32, X r = some (.inr (3, [.ref b, .int (nI bs.length)])) ∧ X b = some (.inl (D.1 100, cap, .inl f)) ∧ bs.length ≤ cap ∧ xby cap f ∧ (∀ i, i < bs.length → f i = bs.getD i 0) ∧ 256 ≤ cap ∧ cap ≤ 100000
theorem xRow.keep {D : va_G} {X X' : xH} {S : List Nat} {r b cap : Nat} {bs : List Int32} (h : xRow D X r b cap bs) (hf : xFr S X X') (ha : r ∉ S) (hb : b ∉ S) : xRow D X' r b cap bs := by
  obtain ⟨f, h1, h2, h3⟩ := h
  exact ⟨f, hf.use h1 ha, hf.use h2 hb, h3⟩
theorem getD_snocB {bs : List Int32} {v : Int32} {i : Nat} (hi : i < (bs ++ [v]).length) : (bs ++ [v]).getD i 0 = if i < bs.length then bs.getD i 0 else v := by
  rw [List.length_append, List.length_singleton] at hi
  by_cases h : i < bs.length
  · rw [if_pos h, List.getD_eq_getElem?_getD, List.getD_eq_getElem?_getD, List.getElem?_append_left h]
  · rw [if_neg h, List.getD_eq_getElem?_getD, List.getElem?_append_right (by omega), show i - bs.length = 0 by omega]
    rfl
/-- what comes of adding to a row -/
def xAdd (D : va_G) (X X' : xH) (r b d : Nat) (bs : List Int32) : Prop := ∃ b' : Nat, xRow D X' r b' d bs ∧ xFr [r, b] X X' ∧ (b' = b ∨ X b' = none)
theorem xAdd.then {D : va_G} {X X1 X2 : xH} {r b b1 d2 : Nat} {bs2 : List Int32} (hf : xFr [r, b] X X1) (hb : b1 = b ∨ X b1 = none) (h2 : xAdd D X1 X2 r b1 d2 bs2) : xAdd D X X2 r b d2 bs2 := by
  obtain ⟨b2, h3, h4, h5⟩ := h2
  refine ⟨b2, h3, ⟨fun q v hq hn => ?_, fun q hq => hf.2 q (h4.2 q hq)⟩, ?_⟩
  · refine h4.1 q v (hf.1 q v hq hn) (hn.imp (fun h => ?_) id)
    intro hm
    rcases List.mem_cons.mp hm with e | e
    · exact h (by rw [e]; simp)
    · have e : q = b1 := by simpa using e
      rcases hb with hb | hb
      · exact h (by rw [e, hb]; simp)
      · rw [e, hb] at hq
        cases hq
  · rcases h5 with h5 | h5
    · rw [h5]
      exact hb
    · exact Or.inr (hf.2 _ h5)
set_option maxRecDepth 100000 in
set_option maxHeartbeats 4000000 in
theorem c_Ro_init {l : Launch} {D : va_G} {H0 : Heap} {X : xH} {r : Nat} {v0 : Value} {s0 : Int32} (hr : X r = some (.inr (3, [v0, .int s0]))) : xMet l D H0 y_Ro_init b_Ro_init 1 none [] 0 1 256 [.ref r] X (fun o X' => o = .inl none ∧ ∃ b' : Nat, xRow D X' r b' 256 [] ∧ xFr [r] X X' ∧ X b' = none) := by
  refine ⟨[some (.ref r)], rfl, Nat.le_of_ble_eq_true rfl, fun E hD hH hl _ C => ?_⟩
  subst hD
  subst hH
  subst hl
  refine xr_aload_n C d_Ro_init_0 1 rfl rfl ?_
  refine xr_objInit C d_Ro_init_1 4 rfl q_106 w_oi w_oc (Nat.le_of_ble_eq_true rfl) ?_
  refine xr_aload_n C d_Ro_init_4 5 rfl rfl ?_
  refine xr_sipush (v := 256) C d_Ro_init_5 8 rfl (by decide) ?_
  refine xr_newb (N := 256) C d_Ro_init_8 10 rfl q_116 (by decide) (by omega) (by omega) (by omega) (fun q hq => ?_)
  refine xr_put C K_Ro 0 d_Ro_init_10 13 rfl q_107 (Or.inl rfl) rfl rfl rfl rfl (xup_fresh hr hq) rfl rfl ?_
  refine xr_aload_n C d_Ro_init_13 14 rfl rfl ?_
  refine xr_iconst (v := 0) C d_Ro_init_14 15 rfl (by decide) ?_
  refine xr_put C K_Ro 1 d_Ro_init_15 18 rfl q_109 (Or.inl rfl) rfl rfl rfl rfl xup_self rfl rfl ?_
  have hqr : q ≠ r := Ne.symm (xne_none hr hq)
  refine xG.eqX xup_up ?_
  refine xr_vret C d_Ro_init_18 (by omega) (by omega) ⟨rfl, q, ⟨fun _ => 0, xup_self, (xup_ne hqr).trans xup_self, Nat.zero_le _, fun i hi => (rfl : fits .byte (.int 0) = true), fun i hi => absurd hi (Nat.not_lt_zero _), by omega, by omega⟩, (xFr.rf.fresh hq).at hr (fun z => z) (by simp), hq⟩
set_option maxRecDepth 100000 in
set_option maxHeartbeats 4000000 in
theorem c_Ro_empty {l : Launch} {D : va_G} {H0 : Heap} {X : xH} {r b cap : Nat} {bs : List Int32} (hR : xRow D X r b cap bs) : xMet l D H0 y_Ro_empty b_Ro_empty 1 none [] 0 0 0 [.ref r] X (fun o X' => o = .inl none ∧ xRow D X' r b cap [] ∧ xFr [r] X X') := by
  obtain ⟨f, hr, hb, h1, h2, h3, h4, h5⟩ := hR
  refine ⟨[some (.ref r)], rfl, Nat.le_of_ble_eq_true rfl, fun E hD hH hl _ C => ?_⟩
  subst hD
  subst hH
  subst hl
  have hrb : r ≠ b := xne hr hb (by intro h; cases h)
  refine xr_aload_n C d_Ro_empty_0 1 rfl rfl ?_
  refine xr_iconst (v := 0) C d_Ro_empty_1 2 rfl (by decide) ?_
  refine xr_put C K_Ro 1 d_Ro_empty_2 5 rfl q_109 (Or.inl rfl) rfl rfl rfl rfl (by first | assumption | exact xup_self | exact (xup_ne (by assumption)).trans (by assumption) | exact (xup_ne (Ne.symm (by assumption))).trans (by assumption) | exact (xup_ne (by assumption)).trans xup_self | exact (xup_ne (Ne.symm (by assumption))).trans xup_self) rfl rfl ?_
  exact xr_vret C d_Ro_empty_5 (by omega) (by omega) ⟨rfl, ⟨f, xup_self, (xup_ne (Ne.symm hrb)).trans hb, Nat.zero_le _, h2, fun i hi => absurd hi (Nat.not_lt_zero _), h4, h5⟩, xFr_up hr (fun z => z) (by simp)⟩
set_option maxRecDepth 100000 in
set_option maxHeartbeats 4000000 in
theorem c_Ro_addByte {l : Launch} {D : va_G} {H0 : Heap} {X : xH} {r b cap d : Nat} {bs : List Int32} {x : Int32} (hR : xRow D X r b cap bs) (hx : isb x) (hd : isR cap (bs.length + 1) d) (hd2 : d ≤ 100000) : xMet l D H0 y_Ro_addByte b_Ro_addByte 2 none [] 1 (d - cap) (2 * (d - cap)) [.ref r, .int x] X (fun o X' => o = .inl none ∧ xAdd D X X' r b d (bs ++ [x])) := by
  obtain ⟨f, hr, hb, h1, h2, h3, h4, h5⟩ := hR
  refine ⟨[some (.ref r), some (.int x)], rfl, Nat.le_of_ble_eq_true rfl, fun E hD hH hl _ C => ?_⟩
  subst hD
  subst hH
  subst hl
  have hrb : r ≠ b := xne hr hb (by intro h; cases h)
  have tail : ∀ (Y : xH) (b' k n : Nat) (g : Nat → Int32), k ≤ d - cap → n ≤ 2 * (d - cap) → bs.length < d → Y r = some (.inr (3, [.ref b', .int (nI bs.length)])) → Y b' = some (.inl (E.D.1 100, d, .inl g)) → xby d g → (∀ i, i < bs.length → g i = bs.getD i 0) → xFr [r, b] X Y → (b' = b ∨ X b' = none) → xG E Y k n 30 [some (.ref r), some (.int x)] [] := by
    intro Y b' k n g hk hn hlt hYr hYb hg1 hg2 hfr hbb
    have hrb' : r ≠ b' := xne hYr hYb (by intro h; cases h)
    refine xr_aload_n C d_Ro_addByte_30 31 rfl rfl ?_
    refine xr_get C K_Ro 0 d_Ro_addByte_31 34 rfl q_107 (Or.inl rfl) rfl (by first | assumption | exact xup_self | exact (xup_ne (by assumption)).trans (by assumption) | exact (xup_ne (Ne.symm (by assumption))).trans (by assumption) | exact (xup_ne (by assumption)).trans xup_self | exact (xup_ne (Ne.symm (by assumption))).trans xup_self) rfl ?_
    refine xr_aload_n C d_Ro_addByte_34 35 rfl rfl ?_
    refine xr_get C K_Ro 1 d_Ro_addByte_35 38 rfl q_109 (Or.inl rfl) rfl (by first | assumption | exact xup_self | exact (xup_ne (by assumption)).trans (by assumption) | exact (xup_ne (Ne.symm (by assumption))).trans (by assumption) | exact (xup_ne (by assumption)).trans xup_self | exact (xup_ne (Ne.symm (by assumption))).trans xup_self) rfl ?_
    refine xr_iload_n C d_Ro_addByte_38 39 rfl rfl ?_
    refine xr_bast C d_Ro_addByte_39 40 rfl hYb rfl hlt (by omega) ?_
    refine xr_aload_n C d_Ro_addByte_40 41 rfl rfl ?_
    refine xr_dup C d_Ro_addByte_41 42 rfl rfl ?_
    refine xr_get C K_Ro 1 d_Ro_addByte_42 45 rfl q_109 (Or.inl rfl) rfl ((xup_ne hrb').trans hYr) rfl ?_
    refine xr_iconst (v := 1) C d_Ro_addByte_45 46 rfl (by decide) ?_
    refine xr_iadd C d_Ro_addByte_46 47 rfl ?_
    refine xr_toi (nI_one _) ?_
    refine xr_put C K_Ro 1 d_Ro_addByte_47 50 rfl q_109 (Or.inl rfl) rfl rfl rfl rfl ((xup_ne hrb').trans hYr) rfl rfl ?_
    refine xr_vret C d_Ro_addByte_50 (by omega) (by omega) ⟨rfl, b', ⟨upd g bs.length x, ?_, (xup_ne (Ne.symm hrb')).trans (by rw [isb_nar hx]; exact xup_self), ?_, fun i hi => ?_, fun i hi => ?_, ?_, hd2⟩, ?_, hbb⟩
    · rw [List.length_append, List.length_singleton]
      exact xup_self
    · rw [List.length_append, List.length_singleton]
      omega
    · by_cases h : i = bs.length
      · subst h
        rw [pk_us]
        exact hx
      · rw [pk_un h]
        exact hg1 i hi
    · rw [getD_snocB hi]
      by_cases h : i < bs.length
      · rw [if_pos h, pk_un (by omega)]
        exact hg2 i h
      · rw [if_neg h, show i = bs.length by rw [List.length_append, List.length_singleton] at hi; omega, pk_us]
    · have := hd.le
      omega
    · rcases hbb with e | e
      · subst e
        exact (hfr.at hb (fun z => absurd z (show cap ≠ 0 by omega)) (by simp)).at hr (fun z => z) (by simp)
      · exact (hfr.fresh e).at hr (fun z => z) (by simp)
  refine xr_aload_n C d_Ro_addByte_0 1 rfl rfl ?_
  refine xr_get C K_Ro 1 d_Ro_addByte_1 4 rfl q_109 (Or.inl rfl) rfl (by first | assumption | exact xup_self | exact (xup_ne (by assumption)).trans (by assumption) | exact (xup_ne (Ne.symm (by assumption))).trans (by assumption) | exact (xup_ne (by assumption)).trans xup_self | exact (xup_ne (Ne.symm (by assumption))).trans xup_self) rfl ?_
  refine xr_aload_n C d_Ro_addByte_4 5 rfl rfl ?_
  refine xr_get C K_Ro 0 d_Ro_addByte_5 8 rfl q_107 (Or.inl rfl) rfl (by first | assumption | exact xup_self | exact (xup_ne (by assumption)).trans (by assumption) | exact (xup_ne (Ne.symm (by assumption))).trans (by assumption) | exact (xup_ne (by assumption)).trans xup_self | exact (xup_ne (Ne.symm (by assumption))).trans xup_self) rfl ?_
  refine xr_alen (t0 := 0) C rfl d_Ro_addByte_8 9 rfl hb ?_
  rcases hd.one h1 (by omega) with ⟨q1, q2⟩ | ⟨q1, q2⟩
  · refine xr_icmp_lt C d_Ro_addByte_9 12 30 rfl (by decide) (fun _ => ?_) (fun h => absurd (nI_lt q1 (by omega)) h)
    subst q2
    exact tail X b 0 0 f (by omega) (by omega) q1 hr hb h2 h3 xFr.rf (Or.inl rfl)
  · refine xr_icmp_lt C d_Ro_addByte_9 12 30 rfl (by decide) (fun h => absurd h (nI_nlt (by show cap ≤ _; omega) (by omega))) (fun _ => ?_)
    refine xr_aload_n C d_Ro_addByte_12 13 rfl rfl ?_
    refine xr_aload_n C d_Ro_addByte_13 14 rfl rfl ?_
    refine xr_get C K_Ro 0 d_Ro_addByte_14 17 rfl q_107 (Or.inl rfl) rfl (by first | assumption | exact xup_self | exact (xup_ne (by assumption)).trans (by assumption) | exact (xup_ne (Ne.symm (by assumption))).trans (by assumption) | exact (xup_ne (by assumption)).trans xup_self | exact (xup_ne (Ne.symm (by assumption))).trans xup_self) rfl ?_
    refine xr_iconst (v := 2) C d_Ro_addByte_17 18 rfl (by decide) ?_
    refine xr_aload_n C d_Ro_addByte_18 19 rfl rfl ?_
    refine xr_get C K_Ro 0 d_Ro_addByte_19 22 rfl q_107 (Or.inl rfl) rfl (by first | assumption | exact xup_self | exact (xup_ne (by assumption)).trans (by assumption) | exact (xup_ne (Ne.symm (by assumption))).trans (by assumption) | exact (xup_ne (by assumption)).trans xup_self | exact (xup_ne (Ne.symm (by assumption))).trans xup_self) rfl ?_
    refine xr_alen (t0 := 0) C rfl d_Ro_addByte_22 23 rfl hb ?_
    refine xr_imul C d_Ro_addByte_23 24 rfl ?_
    refine xr_toi (show _ = nI d from (pk_mul 2 cap).trans (by rw [q2])) ?_
    refine xG.wide (c2 := 0) (s2 := 2 * (d - cap) - d) (by omega) (by omega) ?_
    refine xr_callS C (c_AR_copyB hb (by omega) (by omega) (by omega) (by omega) h2) k_AR_copyB d_Ro_addByte_24 27 rfl (Or.inl q_451) s_AR_copyB in_AR_copyB h_AR_copyB rfl ⟨Nat.le_of_ble_eq_true rfl, Nat.le_of_ble_eq_true rfl, Nat.le_of_ble_eq_true rfl⟩ (by omega) (by omega) (fun v9 X' hP => ?_) (fun _ _ h => by obtain ⟨q, h, -⟩ := h; cases h)
    obtain ⟨q, e1, e2, rfl⟩ := hP
    cases e1
    have hqr : q ≠ r := Ne.symm (xne_none hr e2)
    refine xr_put C K_Ro 0 d_Ro_addByte_27 30 rfl q_107 (Or.inl rfl) rfl rfl rfl rfl (xup_fresh hr e2) rfl rfl ?_
    refine tail _ q _ _ (va_cpy f (fun _ => 0) 0 0 (if cap < d then cap else d)) (by omega) (by omega) (by omega) xup_self ((xup_ne hqr).trans xup_self) (fun i hi => ?_) (fun i hi => ?_) ((xFr.rf.fresh e2).at hr (fun z => z) (by simp)) (Or.inr e2)
    · rw [if_pos (by omega)]
      by_cases h : i < cap
      · rw [pk_cpy_in (by omega) (by omega)]
        exact h2 _ (by omega)
      · rw [pk_cpy_out (by omega)]
        decide
    · rw [if_pos (by omega), pk_cpy_in (by omega) (by omega), show 0 + (i - 0) = i by omega]
      exact h3 i hi
end
section
/-! What never changes once it is made: rows of bytes, sessions, entries. -/
abbrev Imm := List Int32 ⊕ (Int32 × Int32 × Int32 × Int32 × Nat) ⊕ (Nat × Nat)
def xBy (D : va_G) (X : xH) (a : Nat) (bs : List Int32) : Prop := bs.length ≤ 300 ∧ ∃ f : Nat → Int32, X a = some (.inl (D.1 100, bs.length, .inl f)) ∧ ∀ i, i < bs.length → f i = bs.getD i 0 ∧ isb (bs.getD i 0)
def xIc (D : va_G) (X : xH) (a : Nat) : Imm → Prop
  | .inl bs => xBy D X a bs
  | .inr (.inl (n, u, s, p, q)) => X a = some (.inr (4, [.int n, .int u, .int s, .int p, .ref q]))
  | .inr (.inr (k, v)) => X a = some (.inr (5, [.ref k, .ref v]))
def xIm (D : va_G) (X : xH) (I : Nat → Option Imm) : Prop := ∀ a v, I a = some v → xIc D X a v
theorem xIc.at {D : va_G} {X : xH} {a : Nat} {v : Imm} (h : xIc D X a v) : ∃ c, X a = some c := by
  rcases v with bs | ⟨n, u, s, p, q⟩ | ⟨k, v⟩
  · obtain ⟨-, f, h1, -⟩ := h
    exact ⟨_, h1⟩
  · exact ⟨_, h⟩
  · exact ⟨_, h⟩
theorem xIc.keep {D : va_G} {X X' : xH} {a : Nat} {v : Imm} (h : xIc D X a v) (hk : ∀ c, X a = some c → X' a = some c) : xIc D X' a v := by
  rcases v with bs | ⟨n, u, s, p, q⟩ | ⟨k, v⟩
  · obtain ⟨h0, f, h1, h2⟩ := h
    exact ⟨h0, f, hk _ h1, h2⟩
  · exact hk _ h
  · exact hk _ h
theorem xIm.keep {D : va_G} {X X' : xH} {I : Nat → Option Imm} {S : List Nat} (h : xIm D X I) (hf : xFr S X X') (hS : ∀ a ∈ S, I a = none) : xIm D X' I := fun a v hv => (h a v hv).keep fun c hc => hf.use hc fun hm => by
  rw [hS a hm] at hv
  cases hv
theorem xIm.nob {D : va_G} {X : xH} {I : Nat → Option Imm} (h : xIm D X I) {a ci : Nat} {fs : List Value} (hx : X a = some (.inr (ci, fs))) (h4 : ci ≠ 4) (h5 : ci ≠ 5) : I a = none := by
  cases e : I a with
  | none => rfl
  | some v =>
    have h1 := h a v e
    rcases v with bs | ⟨n, u, s, p, q⟩ | ⟨k, v⟩
    · obtain ⟨-, f, h1, -⟩ := h1
      cases hx.symm.trans h1
    · cases hx.symm.trans h1
      exact absurd rfl h4
    · cases hx.symm.trans h1
      exact absurd rfl h5
theorem xIm.nar {D : va_G} {X : xH} {I : Nat → Option Imm} (h : xIm D X I) {a N : Nat} {c : ClassId} {p : (Nat → Int64) ⊕ (Nat → UInt32) ⊕ (Nat → UInt64) ⊕ (Nat → Option Nat)} (hx : X a = some (.inl (c, N, .inr p))) : I a = none := by
  cases e : I a with
  | none => rfl
  | some v =>
    have h1 := h a v e
    rcases v with bs | ⟨n, u, s, p, q⟩ | ⟨k, v⟩
    · obtain ⟨-, f, h1, -⟩ := h1
      cases hx.symm.trans h1
    · cases hx.symm.trans h1
    · cases hx.symm.trans h1
theorem xIm.non {D : va_G} {X : xH} {I : Nat → Option Imm} (h : xIm D X I) {a : Nat} (hx : X a = none) : I a = none := by
  cases e : I a with
  | none => rfl
  | some v =>
    obtain ⟨c, h1⟩ := (h a v e).at
    cases hx.symm.trans h1
def imUp (I : Nat → Option Imm) (a : Nat) (v : Imm) : Nat → Option Imm := fun q => if q = a then some v else I q
def imLe (I I' : Nat → Option Imm) : Prop := ∀ a v, I a = some v → I' a = some v
theorem imLe.rf {I : Nat → Option Imm} : imLe I I := fun _ _ h => h
theorem imLe.trans {I I' I'' : Nat → Option Imm} (h1 : imLe I I') (h2 : imLe I' I'') : imLe I I'' := fun a v h => h2 a v (h1 a v h)
theorem imUp_le {I : Nat → Option Imm} {a : Nat} {v : Imm} (h : I a = none) : imLe I (imUp I a v) := fun q w hq => by
  unfold imUp
  rw [if_neg (fun e => by rw [e, h] at hq; cases hq)]
  exact hq
theorem imUp_self {I : Nat → Option Imm} {a : Nat} {v : Imm} : imUp I a v a = some v := if_pos rfl
theorem imUp_ne {I : Nat → Option Imm} {a q : Nat} {v : Imm} (h : q ≠ a) : imUp I a v q = I q := if_neg h
theorem xIm.up {D : va_G} {X : xH} {I : Nat → Option Imm} {a : Nat} {v : Imm} (h : xIm D X I) (hv : xIc D X a v) : xIm D X (imUp I a v) := fun q w hq => by
  unfold imUp at hq
  split at hq
  · next e =>
    cases hq
    rw [e]
    exact hv
  · exact h q w hq
/-- what comes of adding to a row leaves the rest -/
theorem xAdd.im {D : va_G} {X X' : xH} {I : Nat → Option Imm} {r b d : Nat} {bs : List Int32} (h : xAdd D X X' r b d bs) (hI : xIm D X I) (hr : I r = none) (hb : I b = none) : xIm D X' I ∧ ∃ b', xRow D X' r b' d bs ∧ I b' = none := by
  obtain ⟨b', h1, h2, h3⟩ := h
  refine ⟨hI.keep h2 (fun a ha => ?_), b', h1, ?_⟩
  · rcases List.mem_cons.mp ha with e | e
    · rw [e]
      exact hr
    · rw [show a = b by simpa using e]
      exact hb
  · rcases h3 with e | e
    · rw [e]
      exact hb
    · exact hI.non e
theorem xRow.nob {D : va_G} {X : xH} {I : Nat → Option Imm} {r b cap : Nat} {bs : List Int32} (h : xRow D X r b cap bs) (hI : xIm D X I) : I r = none := by
  obtain ⟨f, h1, -⟩ := h
  exact hI.nob h1 (by decide) (by decide)
/-- the bytes of a number -/
def nby (v : Int32) (i : Nat) : Int32 := (v.toUInt32 >>> ((8 * nI i).toUInt32 &&& Int32.toUInt32 31)).toInt32.toInt8.toInt32
def num (v : Int32) (w : Nat) : List Int32 := (List.range w).map (nby v)
theorem num_succ {v : Int32} {w : Nat} : num v (w + 1) = num v w ++ [nby v w] := by
  unfold num
  rw [List.range_succ, List.map_append]
  rfl
theorem num_len {v : Int32} {w : Nat} : (num v w).length = w := by
  unfold num
  rw [List.length_map, List.length_range]
theorem xRow.cap {D : va_G} {X : xH} {r b cap : Nat} {bs : List Int32} (h : xRow D X r b cap bs) : 0 < cap ∧ cap ≤ 100000 ∧ bs.length ≤ cap := by
  obtain ⟨f, -, -, h1, -, -, h4, h5⟩ := h
  omega
theorem xRow.at {D : va_G} {X : xH} {r b cap : Nat} {bs : List Int32} (h : xRow D X r b cap bs) : X r = some (.inr (3, [.ref b, .int (nI bs.length)])) := by
  obtain ⟨f, h1, -⟩ := h
  exact h1
theorem xRow.arr {D : va_G} {X : xH} {r b cap : Nat} {bs : List Int32} (h : xRow D X r b cap bs) : ∃ f, X b = some (.inl (D.1 100, cap, .inl f)) := by
  obtain ⟨f, h1, h2, -⟩ := h
  exact ⟨f, h2⟩
theorem xFr2 {X X' : xH} {r b q : Nat} {v : va_E} (h : xFr [r, b] X X') (hq : X q = some v) (h1 : q ≠ r) (h2 : q ≠ b) : X' q = some v := h.use hq (by simp [h1, h2])
set_option maxRecDepth 100000 in
set_option maxHeartbeats 4000000 in
theorem c_Ro_addNumber {l : Launch} {D : va_G} {H0 : Heap} {X : xH} {r b cap d n : Nat} {bs : List Int32} {v : Int32} (hR : xRow D X r b cap bs) (hn : n ≤ 4) (hd : isR cap (bs.length + n) d) (hd2 : d ≤ 100000) : xMet l D H0 y_Ro_addNumber b_Ro_addNumber 4 none [] 2 (d - cap) (2 * (d - cap)) [.ref r, .int v, .int (nI n)] X (fun o X' => o = .inl none ∧ xAdd D X X' r b d (bs ++ num v n)) := by
  refine ⟨[some (.ref r), some (.int v), some (.int (nI n)), none], rfl, Nat.le_of_ble_eq_true rfl, fun E hD hH hl _ C => ?_⟩
  subst hD
  subst hH
  subst hl
  have hcc := hR.cap
  have loop : ∀ (k i di : Nat) (Y : xH), i + k = n → isR di (bs.length + n) d → cap ≤ di → xAdd E.D X Y r b di (bs ++ num v i) → xG E Y (di - cap) (2 * (di - cap)) 2 [some (.ref r), some (.int v), some (.int (nI n)), some (.int (nI i))] [] := by
    intro k
    induction k with
    | zero =>
      intro i di Y hi h1 h2 h3
      obtain ⟨b1, h4, h5, h6⟩ := h3
      have hcd := h4.cap
      rw [List.length_append, num_len] at hcd
      have e1 : d = di := h1.fit (by omega)
      have e2 : i = n := by omega
      subst e1
      subst e2
      refine xr_iload_n C d_Ro_addNumber_2 3 rfl rfl ?_
      refine xr_iload_n C d_Ro_addNumber_3 4 rfl rfl ?_
      refine xr_icmp_ge C d_Ro_addNumber_4 7 24 rfl (by decide) (fun _ => ?_) (fun h => absurd (nI_le (Nat.le_refl _) (by omega)) h)
      exact xr_vret C d_Ro_addNumber_24 (by omega) (by omega) ⟨rfl, b1, h4, h5, h6⟩
    | succ k ih =>
      intro i di Y hi h1 h2 h3
      obtain ⟨b1, h4, h5, h6⟩ := h3
      have hcd := h4.cap
      have hr1 := h4.at
      obtain ⟨d', hd'⟩ := isR.ex (c := di) (n := bs.length + i + 1) (by omega)
      have hl1 := hd'.le
      have hl2 := hd'.then h1 (by omega)
      have hl3 := hl2.le
      refine xr_iload_n C d_Ro_addNumber_2 3 rfl rfl ?_
      refine xr_iload_n C d_Ro_addNumber_3 4 rfl rfl ?_
      refine xr_icmp_ge C d_Ro_addNumber_4 7 24 rfl (by decide) (fun h => absurd h (nI_ge (show i < n by omega) (by omega))) (fun _ => ?_)
      refine xr_aload_n C d_Ro_addNumber_7 8 rfl rfl ?_
      refine xr_iload_n C d_Ro_addNumber_8 9 rfl rfl ?_
      refine xr_bipush (v := 8) C d_Ro_addNumber_9 11 rfl (by decide) ?_
      refine xr_iload_n C d_Ro_addNumber_11 12 rfl rfl ?_
      refine xr_imul C d_Ro_addNumber_12 13 rfl ?_
      refine xr_iushr C d_Ro_addNumber_13 14 rfl rfl ?_
      refine xr_i2b C d_Ro_addNumber_14 15 rfl rfl ?_
      refine xr_callV C (c_Ro_addByte (d := d') h4 (isb_i2b _) (by rw [List.length_append, num_len]; exact hd') (by omega)) k_Ro_addByte d_Ro_addNumber_15 18 rfl (by first | assumption | exact xup_self | exact (xup_ne (by assumption)).trans (by assumption) | exact (xup_ne (Ne.symm (by assumption))).trans (by assumption) | exact (xup_ne (by assumption)).trans xup_self | exact (xup_ne (Ne.symm (by assumption))).trans xup_self) rfl (Or.inl q_447) v_Ro_addByte e_Ro_addByte h_Ro_addByte rfl ⟨Nat.le_of_ble_eq_true rfl, Nat.le_of_ble_eq_true rfl, Nat.le_of_ble_eq_true rfl⟩ (by omega) (by omega) (fun v9 Y' hP => ?_) (fun _ _ h => absurd h.1 (by simp))
      obtain ⟨e1, e2⟩ := hP
      cases e1
      refine xG.wide (c2 := d' - cap) (s2 := 2 * (d' - cap)) (by omega) (by omega) ?_
      refine xr_iinc (v := 1) C d_Ro_addNumber_18 21 rfl rfl rfl rfl (by decide) ?_
      refine xr_goto C d_Ro_addNumber_21 2 (by decide) ?_
      refine xG.eqL (show _ = [some (Value.ref r), some (Value.int v), some (Value.int (nI n)), some (Value.int (nI (i + 1)))] by rw [← nI_one]; rfl) ?_
      refine ih (i + 1) d' Y' (by omega) hl2 (by omega) ?_
      rw [num_succ, ← List.append_assoc]
      exact xAdd.then h5 h6 e2
  refine xr_iconst (v := 0) C d_Ro_addNumber_0 1 rfl (by decide) ?_
  refine xr_istore_n C d_Ro_addNumber_1 2 rfl rfl rfl ?_
  refine xG.wide (c2 := cap - cap) (s2 := 2 * (cap - cap)) (by omega) (by omega) ?_
  refine loop n 0 cap X (by omega) hd (by omega) ⟨b, ?_, xFr.rf, Or.inl rfl⟩
  rw [show num v 0 = [] from rfl, List.append_nil]
  exact hR
set_option maxRecDepth 100000 in
set_option maxHeartbeats 4000000 in
theorem c_Ro_addAll {l : Launch} {D : va_G} {H0 : Heap} {X : xH} {r b cap d q : Nat} {bs more : List Int32} (hR : xRow D X r b cap bs) (hq : xBy D X q more) (hqb : q ≠ b) (hd : isR cap (bs.length + more.length) d) (hd2 : d ≤ 100000) : xMet l D H0 y_Ro_addAll b_Ro_addAll 3 none [] 2 (d - cap) (2 * (d - cap)) [.ref r, .ref q] X (fun o X' => o = .inl none ∧ xAdd D X X' r b d (bs ++ more)) := by
  obtain ⟨hml, f, hq1, hq2⟩ := hq
  refine ⟨[some (.ref r), some (.ref q), none], rfl, Nat.le_of_ble_eq_true rfl, fun E hD hH hl _ C => ?_⟩
  subst hD
  subst hH
  subst hl
  have hcc := hR.cap
  have hqr : q ≠ r := xne hq1 hR.at (by intro h; cases h)
  have loop : ∀ (k i di : Nat) (Y : xH), i + k = more.length → isR di (bs.length + more.length) d → cap ≤ di → xAdd E.D X Y r b di (bs ++ more.take i) → xG E Y (di - cap) (2 * (di - cap)) 2 [some (.ref r), some (.ref q), some (.int (nI i))] [] := by
    intro k
    induction k with
    | zero =>
      intro i di Y hi h1 h2 h3
      obtain ⟨b1, h4, h5, h6⟩ := h3
      have hcd := h4.cap
      have e2 : i = more.length := by omega
      subst e2
      rw [List.take_length] at h4 hcd
      rw [List.length_append] at hcd
      have e1 : d = di := h1.fit (by omega)
      subst e1
      refine xr_iload_n C d_Ro_addAll_2 3 rfl rfl ?_
      refine xr_aload_n C d_Ro_addAll_3 4 rfl rfl ?_
      refine xr_alen (t0 := 0) C rfl d_Ro_addAll_4 5 rfl (xFr2 h5 hq1 hqr hqb) ?_
      refine xr_icmp_ge C d_Ro_addAll_5 8 21 rfl (by decide) (fun _ => ?_) (fun h => absurd (nI_le (Nat.le_refl _) (by omega)) h)
      exact xr_vret C d_Ro_addAll_21 (by omega) (by omega) ⟨rfl, b1, h4, h5, h6⟩
    | succ k ih =>
      intro i di Y hi h1 h2 h3
      obtain ⟨b1, h4, h5, h6⟩ := h3
      have hcd := h4.cap
      have hr1 := h4.at
      have hi2 : i < more.length := by omega
      obtain ⟨d', hd'⟩ := isR.ex (c := di) (n := bs.length + i + 1) (by omega)
      have hl1 := hd'.le
      have hl2 := hd'.then h1 (by omega)
      have hl3 := hl2.le
      have hq3 := xFr2 h5 hq1 hqr hqb
      refine xr_iload_n C d_Ro_addAll_2 3 rfl rfl ?_
      refine xr_aload_n C d_Ro_addAll_3 4 rfl rfl ?_
      refine xr_alen (t0 := 0) C rfl d_Ro_addAll_4 5 rfl hq3 ?_
      refine xr_icmp_ge C d_Ro_addAll_5 8 21 rfl (by decide) (fun h => absurd h (nI_ge (show i < more.length by omega) (by omega))) (fun _ => ?_)
      refine xr_aload_n C d_Ro_addAll_8 9 rfl rfl ?_
      refine xr_aload_n C d_Ro_addAll_9 10 rfl rfl ?_
      refine xr_iload_n C d_Ro_addAll_10 11 rfl rfl ?_
      refine xr_bald C d_Ro_addAll_11 12 rfl hq3 rfl hi2 (by omega) ?_
      refine xr_toi (hq2 i hi2).1 ?_
      refine xr_callV C (c_Ro_addByte (d := d') h4 (hq2 i hi2).2 (by rw [List.length_append, List.length_take, Nat.min_eq_left (by omega)]; exact hd') (by omega)) k_Ro_addByte d_Ro_addAll_12 15 rfl (by first | assumption | exact xup_self | exact (xup_ne (by assumption)).trans (by assumption) | exact (xup_ne (Ne.symm (by assumption))).trans (by assumption) | exact (xup_ne (by assumption)).trans xup_self | exact (xup_ne (Ne.symm (by assumption))).trans xup_self) rfl (Or.inl q_447) v_Ro_addByte e_Ro_addByte h_Ro_addByte rfl ⟨Nat.le_of_ble_eq_true rfl, Nat.le_of_ble_eq_true rfl, Nat.le_of_ble_eq_true rfl⟩ (by omega) (by omega) (fun v9 Y' hP => ?_) (fun _ _ h => absurd h.1 (by simp))
      obtain ⟨e1, e2⟩ := hP
      cases e1
      refine xG.wide (c2 := d' - cap) (s2 := 2 * (d' - cap)) (by omega) (by omega) ?_
      refine xr_iinc (v := 1) C d_Ro_addAll_15 18 rfl rfl rfl rfl (by decide) ?_
      refine xr_goto C d_Ro_addAll_18 2 (by decide) ?_
      refine xG.eqL (show _ = [some (Value.ref r), some (Value.ref q), some (Value.int (nI (i + 1)))] by rw [← nI_one]; rfl) ?_
      refine ih (i + 1) d' Y' (by omega) hl2 (by omega) ?_
      have e3 : more.take (i + 1) = more.take i ++ [more.getD i 0] := by
        rw [List.getD_eq_getElem?_getD, List.getElem?_eq_getElem hi2, Option.getD_some, List.take_append_getElem]
      rw [e3, ← List.append_assoc]
      exact xAdd.then h5 h6 e2
  refine xr_iconst (v := 0) C d_Ro_addAll_0 1 rfl (by decide) ?_
  refine xr_istore_n C d_Ro_addAll_1 2 rfl rfl rfl ?_
  refine xG.wide (c2 := cap - cap) (s2 := 2 * (cap - cap)) (by omega) (by omega) ?_
  refine loop more.length 0 cap X (by omega) hd (by omega) ⟨b, ?_, xFr.rf, Or.inl rfl⟩
  rw [List.take_zero, List.append_nil]
  exact hR
set_option maxRecDepth 100000 in
set_option maxHeartbeats 4000000 in
theorem c_Ro_copied {l : Launch} {D : va_G} {H0 : Heap} {X : xH} {r b cap : Nat} {bs : List Int32} (hR : xRow D X r b cap bs) (h0 : 0 < bs.length) (h256 : bs.length < 256) : xMet l D H0 y_Ro_copied b_Ro_copied 1 (some (.array .byte)) [] 1 1 256 [.ref r] X (fun o X' => ∃ q : Nat, o = .inl (some (.ref q)) ∧ X q = none ∧ xFr [] X X' ∧ xBy D X' q bs) := by
  obtain ⟨f, hr, hb, h1, h2, h3, h4, h5⟩ := hR
  refine ⟨[some (.ref r)], rfl, Nat.le_of_ble_eq_true rfl, fun E hD hH hl _ C => ?_⟩
  subst hD
  subst hH
  subst hl
  refine xr_aload_n C d_Ro_copied_0 1 rfl rfl ?_
  refine xr_get C K_Ro 0 d_Ro_copied_1 4 rfl q_107 (Or.inl rfl) rfl (by first | assumption | exact xup_self | exact (xup_ne (by assumption)).trans (by assumption) | exact (xup_ne (Ne.symm (by assumption))).trans (by assumption) | exact (xup_ne (by assumption)).trans xup_self | exact (xup_ne (Ne.symm (by assumption))).trans xup_self) rfl ?_
  refine xr_aload_n C d_Ro_copied_4 5 rfl rfl ?_
  refine xr_get C K_Ro 1 d_Ro_copied_5 8 rfl q_109 (Or.inl rfl) rfl (by first | assumption | exact xup_self | exact (xup_ne (by assumption)).trans (by assumption) | exact (xup_ne (Ne.symm (by assumption))).trans (by assumption) | exact (xup_ne (by assumption)).trans xup_self | exact (xup_ne (Ne.symm (by assumption))).trans xup_self) rfl ?_
  refine xG.wide (c2 := 0) (s2 := 256 - bs.length) (by omega) (by omega) ?_
  refine xr_callS C (c_AR_copyB hb (by omega) (by omega) (by omega) h0 h2) k_AR_copyB d_Ro_copied_8 11 rfl (Or.inl q_451) s_AR_copyB in_AR_copyB h_AR_copyB rfl ⟨Nat.le_of_ble_eq_true rfl, Nat.le_of_ble_eq_true rfl, Nat.le_of_ble_eq_true rfl⟩ (by omega) (by omega) (fun v9 X' hP => ?_) (fun _ _ h => by obtain ⟨q, h, -⟩ := h; cases h)
  obtain ⟨q, e1, e2, rfl⟩ := hP
  cases e1
  refine xr_aret C d_Ro_copied_11 (Or.inr ⟨_, rfl⟩) (by omega) (by omega) ⟨q, rfl, e2, xFr_new e2, (by omega), _, xup_self, fun i hi => ⟨?_, by rw [← h3 i hi]; exact h2 i (by omega)⟩⟩
  rw [if_neg (by omega), pk_cpy_in (by omega) (by omega), show 0 + (i - 0) = i by omega]
  exact h3 i hi
end
section
/-! Rows of bytes compared. -/
def u8 (x : Int32) : Int32 := x &&& 255
theorem u8_nat (x : Int32) : (u8 x).toBitVec.toNat = x.toBitVec.toNat % 256 := by
  show (x.toBitVec &&& (255#32)).toNat = _
  rw [BitVec.toNat_and]
  exact Nat.and_two_pow_sub_one_eq_mod _ 8
theorem u8_int (x : Int32) : (u8 x).toInt = ((x.toBitVec.toNat % 256 : Nat) : Int) := by
  show (u8 x).toBitVec.toInt = _
  rw [BitVec.toInt_eq_toNat_of_lt (by rw [u8_nat]; omega), u8_nat]
theorem u8_lo (x : Int32) : 0 ≤ (u8 x).toInt := by rw [u8_int]; omega
theorem u8_hi (x : Int32) : (u8 x).toInt ≤ 255 := by rw [u8_int]; omega
theorem isb_rng {x : Int32} (h : isb x) : -128 ≤ x.toInt ∧ x.toInt ≤ 127 := by
  have h2 := h
  simp only [isb, fits] at h2
  have h3 : -128 ≤ x ∧ x ≤ 127 := by simpa using h2
  exact ⟨Int32.le_iff_toInt_le.mp h3.1, Int32.le_iff_toInt_le.mp h3.2⟩
theorem u8_inj {x y : Int32} (hx : isb x) (hy : isb y) (h : u8 x = u8 y) : x = y := by
  have h1 := isb_rng hx
  have h2 := isb_rng hy
  have h3 : (u8 x).toInt = (u8 y).toInt := by rw [h]
  rw [u8_int, u8_int] at h3
  apply Int32.toInt_inj.mp
  have e1 : x.toInt = if 2 * x.toBitVec.toNat < 2 ^ 32 then (x.toBitVec.toNat : Int) else (x.toBitVec.toNat : Int) - 2 ^ 32 := BitVec.toInt_eq_toNat_cond _
  have e2 : y.toInt = if 2 * y.toBitVec.toNat < 2 ^ 32 then (y.toBitVec.toNat : Int) else (y.toBitVec.toNat : Int) - 2 ^ 32 := BitVec.toInt_eq_toNat_cond _
  split at e1 <;> split at e2 <;> omega
theorem sub_sgn {a b : Int32} (ha : 0 ≤ a.toInt ∧ a.toInt ≤ 1000000) (hb : 0 ≤ b.toInt ∧ b.toInt ≤ 1000000) : (a - b = 0 ↔ a = b) ∧ (a - b < 0 ↔ a < b) := by
  have h : (a - b).toInt = a.toInt - b.toInt := by
    rw [Int32.toInt_sub, Int.bmod_def]
    split <;> omega
  constructor
  · rw [← Int32.toInt_inj, ← Int32.toInt_inj, h]
    show _ = (0 : Int) ↔ _
    omega
  · rw [Int32.lt_iff_toInt_lt, Int32.lt_iff_toInt_lt, h]
    show _ < (0 : Int) ↔ _
    omega
/-- a row of bytes comes before another -/
def bl : List Int32 → List Int32 → Bool
  | [], [] => false
  | [], _ :: _ => true
  | _ :: _, [] => false
  | x :: xs, y :: ys => if u8 x = u8 y then bl xs ys else decide (u8 x < u8 y)
theorem nI_int {n : Nat} (h : n < 2 ^ 31) : (nI n).toInt = n := by
  rw [show nI n = Int32.ofNat n from rfl]
  exact Int32.toInt_ofNat_of_lt h
set_option maxRecDepth 100000 in
set_option maxHeartbeats 4000000 in
theorem c_TK_compare {l : Launch} {D : va_G} {H0 : Heap} {X : xH} {p q : Nat} {as bs : List Int32} (hp : xBy D X p as) (hq : xBy D X q bs) : xMet l D H0 y_TK_compare b_TK_compare 5 (some .int) [] 1 0 0 [.ref p, .ref q] X (fun o X' => ∃ v : Int32, o = .inl (some (.int v)) ∧ X' = X ∧ (v = 0 ↔ as = bs) ∧ (v < 0 ↔ bl as bs = true)) := by
  obtain ⟨ha, f, hp1, hp2⟩ := hp
  obtain ⟨hb, g, hq1, hq2⟩ := hq
  refine ⟨[some (.ref p), some (.ref q), none, none, none], rfl, Nat.le_of_ble_eq_true rfl, fun E hD hH hl _ C => ?_⟩
  subst hD
  subst hH
  subst hl
  obtain ⟨n, hn⟩ : ∃ n, n = if bs.length < as.length then bs.length else as.length := ⟨_, rfl⟩
  have hn1 : n ≤ as.length ∧ n ≤ bs.length ∧ (n = as.length ∨ n = bs.length) := by
    rw [hn]
    split <;> omega
  have loop : ∀ (k i : Nat) (L4 : Option Value), i + k = n → (as.drop i = bs.drop i ↔ as = bs) → bl (as.drop i) (bs.drop i) = bl as bs → xG E X 0 0 10 [some (.ref p), some (.ref q), some (.int (nI n)), some (.int (nI i)), L4] [] := by
    intro k
    induction k with
    | zero =>
      intro i L4 hi h1 h2
      have e : i = n := by omega
      subst e
      refine xr_iload_n C d_TK_compare_10 11 rfl rfl ?_
      refine xr_iload_n C d_TK_compare_11 12 rfl rfl ?_
      refine xr_icmp_ge C d_TK_compare_12 15 46 rfl (by decide) (fun _ => ?_) (fun h => absurd (nI_le (Nat.le_refl _) (by omega)) h)
      refine xr_aload_n C d_TK_compare_46 47 rfl rfl ?_
      refine xr_alen (t0 := 0) C rfl d_TK_compare_47 48 rfl hp1 ?_
      refine xr_aload_n C d_TK_compare_48 49 rfl rfl ?_
      refine xr_alen (t0 := 0) C rfl d_TK_compare_49 50 rfl hq1 ?_
      refine xr_isub C d_TK_compare_50 51 rfl ?_
      have hs := sub_sgn (a := nI as.length) (b := nI bs.length) (by rw [nI_int (by omega)]; omega) (by rw [nI_int (by omega)]; omega)
      refine xr_iret C d_TK_compare_51 (by omega) (by omega) ⟨_, rfl, rfl, ?_, ?_⟩
      · rw [← h1]
        refine hs.1.trans ((nI_eq (by omega) (by omega)).trans ⟨fun h => ?_, fun h => ?_⟩)
        · rw [List.drop_eq_nil_of_le (by omega), List.drop_eq_nil_of_le (by omega)]
        · have h' := congrArg List.length h
          rw [List.length_drop, List.length_drop] at h'
          omega
      · rw [← h2]
        refine hs.2.trans ((nI_ltI (by omega) (by omega)).trans ?_)
        rcases hn1.2.2 with e | e
        · rw [e, List.drop_length]
          cases hc : List.drop as.length bs with
          | nil =>
            have := List.drop_eq_nil_iff.mp hc
            exact ⟨fun h => absurd h (by omega), fun h => by cases h⟩
          | cons z zs =>
            have : as.length < bs.length := by
              rcases Nat.lt_or_ge as.length bs.length with h | h
              · exact h
              · rw [List.drop_eq_nil_of_le h] at hc
                cases hc
            exact ⟨fun _ => rfl, fun _ => this⟩
        · rw [e, List.drop_length]
          cases hc : List.drop bs.length as with
          | nil =>
            have := List.drop_eq_nil_iff.mp hc
            exact ⟨fun h => absurd h (by omega), fun h => by cases h⟩
          | cons z zs => exact ⟨fun h => absurd h (by omega), fun h => by cases h⟩
    | succ k ih =>
      intro i L4 hi h1 h2
      have i1 : i < as.length := by omega
      have i2 : i < bs.length := by omega
      have da : as.drop i = as.getD i 0 :: as.drop (i + 1) := by
        rw [List.getD_eq_getElem?_getD, List.getElem?_eq_getElem i1, Option.getD_some, List.drop_eq_getElem_cons i1]
      have db : bs.drop i = bs.getD i 0 :: bs.drop (i + 1) := by
        rw [List.getD_eq_getElem?_getD, List.getElem?_eq_getElem i2, Option.getD_some, List.drop_eq_getElem_cons i2]
      refine xr_iload_n C d_TK_compare_10 11 rfl rfl ?_
      refine xr_iload_n C d_TK_compare_11 12 rfl rfl ?_
      refine xr_icmp_ge C d_TK_compare_12 15 46 rfl (by decide) (fun h => absurd h (nI_ge (show i < n by omega) (by omega))) (fun _ => ?_)
      refine xr_aload_n C d_TK_compare_15 16 rfl rfl ?_
      refine xr_iload_n C d_TK_compare_16 17 rfl rfl ?_
      refine xr_bald C d_TK_compare_17 18 rfl hp1 rfl i1 (by omega) ?_
      refine xr_toi (hp2 i i1).1 ?_
      refine xr_sipush (v := 255) C d_TK_compare_18 21 rfl (by decide) ?_
      refine xr_iand C d_TK_compare_21 22 rfl ?_
      refine xr_aload_n C d_TK_compare_22 23 rfl rfl ?_
      refine xr_iload_n C d_TK_compare_23 24 rfl rfl ?_
      refine xr_bald C d_TK_compare_24 25 rfl hq1 rfl i2 (by omega) ?_
      refine xr_toi (hq2 i i2).1 ?_
      refine xr_sipush (v := 255) C d_TK_compare_25 28 rfl (by decide) ?_
      refine xr_iand C d_TK_compare_28 29 rfl ?_
      refine xr_isub C d_TK_compare_29 30 rfl ?_
      refine xr_istore C d_TK_compare_30 32 rfl rfl rfl ?_
      refine xr_iload C d_TK_compare_32 34 rfl rfl ?_
      have hs := sub_sgn (a := u8 (as.getD i 0)) (b := u8 (bs.getD i 0)) ⟨u8_lo _, Int.le_trans (u8_hi _) (by decide)⟩ ⟨u8_lo _, Int.le_trans (u8_hi _) (by decide)⟩
      refine xr_if_eq C d_TK_compare_34 37 40 rfl (by decide) (fun h34 => ?_) (fun h34 => ?_)
      · have e0 : u8 (as.getD i 0) = u8 (bs.getD i 0) := hs.1.mp h34
        have e1 : as.getD i 0 = bs.getD i 0 := u8_inj (hp2 i i1).2 (hq2 i i2).2 e0
        refine xr_iinc (v := 1) C d_TK_compare_40 43 rfl rfl rfl rfl (by decide) ?_
        refine xr_goto C d_TK_compare_43 10 (by decide) ?_
        refine xG.eqL (show _ = [some (Value.ref p), some (Value.ref q), some (Value.int (nI n)), some (Value.int (nI (i + 1))), _] by rw [← nI_one]; rfl) ?_
        refine ih (i + 1) _ (by omega) ?_ ?_
        · rw [← h1, da, db, e1]
          exact ⟨fun h => by rw [h], fun h => (List.cons.inj h).2⟩
        · rw [← h2, da, db]
          show _ = if u8 _ = u8 _ then _ else _
          rw [if_pos e0]
      · have e0 : ¬ u8 (as.getD i 0) = u8 (bs.getD i 0) := fun h => h34 (hs.1.mpr h)
        refine xr_iload C d_TK_compare_37 39 rfl rfl ?_
        refine xr_iret C d_TK_compare_39 (by omega) (by omega) ⟨_, rfl, rfl, ?_, ?_⟩
        · rw [← h1, da, db]
          exact ⟨fun h => absurd h h34, fun h => absurd (by rw [(List.cons.inj h).1]) e0⟩
        · rw [← h2, da, db]
          show _ ↔ (if u8 _ = u8 _ then _ else _) = true
          rw [if_neg e0, decide_eq_true_eq]
          exact hs.2
  refine xr_aload_n C d_TK_compare_0 1 rfl rfl ?_
  refine xr_alen (t0 := 0) C rfl d_TK_compare_1 2 rfl hp1 ?_
  refine xr_aload_n C d_TK_compare_2 3 rfl rfl ?_
  refine xr_alen (t0 := 0) C rfl d_TK_compare_3 4 rfl hq1 ?_
  refine xr_min C d_TK_compare_4 7 rfl q_695 w_min (Nat.le_of_ble_eq_true rfl) (by omega) (by omega) ?_
  refine xr_toi (show _ = nI n from by
    rw [hn]
    by_cases h : bs.length < as.length
    · rw [if_pos h, if_pos (nI_lt h (by omega))]
    · rw [if_neg h, if_neg (nI_nlt (by omega) (by omega))]) ?_
  refine xr_istore_n C d_TK_compare_7 8 rfl rfl rfl ?_
  refine xr_iconst (v := 0) C d_TK_compare_8 9 rfl (by decide) ?_
  refine xr_istore_n C d_TK_compare_9 10 rfl rfl rfl ?_
  exact loop n 0 _ (by omega) Iff.rfl rfl
end
section
/-! Sessions and entries. -/
abbrev Ss := Int32 × Int32 × Int32 × Int32 × List Int32
abbrev Es := List Int32 × List Int32
def imS (I : Nat → Option Imm) (a : Nat) (s : Ss) : Prop := ∃ q : Nat, I a = some (.inr (.inl (s.1, s.2.1, s.2.2.1, s.2.2.2.1, q))) ∧ I q = some (.inl s.2.2.2.2)
def imE (I : Nat → Option Imm) (a : Nat) (e : Es) : Prop := ∃ k v : Nat, I a = some (.inr (.inr (k, v))) ∧ I k = some (.inl e.1) ∧ I v = some (.inl e.2)
theorem imS.le {I I' : Nat → Option Imm} {a : Nat} {s : Ss} (h : imS I a s) (hl : imLe I I') : imS I' a s := by
  obtain ⟨q, h1, h2⟩ := h
  exact ⟨q, hl _ _ h1, hl _ _ h2⟩
theorem imE.le {I I' : Nat → Option Imm} {a : Nat} {s : Es} (h : imE I a s) (hl : imLe I I') : imE I' a s := by
  obtain ⟨k, v, h1, h2, h3⟩ := h
  exact ⟨k, v, hl _ _ h1, hl _ _ h2, hl _ _ h3⟩
theorem imS.use {D : va_G} {X : xH} {I : Nat → Option Imm} {a : Nat} {s : Ss} (h : imS I a s) (hI : xIm D X I) : ∃ q : Nat, X a = some (.inr (4, [.int s.1, .int s.2.1, .int s.2.2.1, .int s.2.2.2.1, .ref q])) ∧ xBy D X q s.2.2.2.2 ∧ I q = some (.inl s.2.2.2.2) := by
  obtain ⟨q, h1, h2⟩ := h
  exact ⟨q, hI _ _ h1, hI _ _ h2, h2⟩
theorem imE.use {D : va_G} {X : xH} {I : Nat → Option Imm} {a : Nat} {e : Es} (h : imE I a e) (hI : xIm D X I) : ∃ k v : Nat, X a = some (.inr (5, [.ref k, .ref v])) ∧ xBy D X k e.1 ∧ xBy D X v e.2 ∧ I k = some (.inl e.1) ∧ I v = some (.inl e.2) := by
  obtain ⟨k, v, h1, h2, h3⟩ := h
  exact ⟨k, v, hI _ _ h1, hI _ _ h2, hI _ _ h3, h2, h3⟩
theorem imS.ob {D : va_G} {X : xH} {I : Nat → Option Imm} {a : Nat} {s : Ss} (h : imS I a s) (hI : xIm D X I) : xOb X a := by
  obtain ⟨q, h1, -⟩ := h.use hI
  exact ⟨4, _, _, h1, rfl, q_1199⟩
theorem imE.ob {D : va_G} {X : xH} {I : Nat → Option Imm} {a : Nat} {e : Es} (h : imE I a e) (hI : xIm D X I) : xOb X a := by
  obtain ⟨k, v, h1, -⟩ := h.use hI
  exact ⟨5, _, _, h1, rfl, q_1201⟩
theorem xBy.ar {D : va_G} {X : xH} {a : Nat} {bs : List Int32} (h : xBy D X a bs) : ∃ f, X a = some (.inl (D.1 100, bs.length, .inl f)) := by
  obtain ⟨-, f, h1, -⟩ := h
  exact ⟨f, h1⟩
theorem xBy.len {D : va_G} {X : xH} {a : Nat} {bs : List Int32} (h : xBy D X a bs) : bs.length ≤ 300 := h.1
theorem isR.step {c n total d : Nat} (h : isR c total d) (hn : n ≤ total) (hc : 0 < c) : ∃ d', isR c n d' ∧ isR d' total d ∧ c ≤ d' ∧ d' ≤ d := by
  obtain ⟨d', h1⟩ := isR.ex (n := n) hc
  have h2 := h1.then h hn
  exact ⟨d', h1, h2, h1.le, h2.le⟩
set_option maxRecDepth 100000 in
set_option maxHeartbeats 4000000 in
theorem c_Se_init {l : Launch} {D : va_G} {H0 : Heap} {X : xH} {a q : Nat} {n u s p : Int32} {w0 w1 w2 w3 w4 : Value} (ha : X a = some (.inr (4, [w0, w1, w2, w3, w4]))) : xMet l D H0 y_Se_init b_Se_init 6 none [] 0 0 0 [.ref a, .int n, .int u, .int s, .int p, .ref q] X (fun o X' => o = .inl none ∧ X' = xup X a (.inr (4, [.int n, .int u, .int s, .int p, .ref q]))) := by
  refine ⟨[some (.ref a), some (.int n), some (.int u), some (.int s), some (.int p), some (.ref q)], rfl, Nat.le_of_ble_eq_true rfl, fun E hD hH hl _ C => ?_⟩
  subst hD
  subst hH
  subst hl
  refine xr_aload_n C d_Se_init_0 1 rfl rfl ?_
  refine xr_objInit C d_Se_init_1 4 rfl q_310 w_oi w_oc (Nat.le_of_ble_eq_true rfl) ?_
  refine xr_aload_n C d_Se_init_4 5 rfl rfl ?_
  refine xr_iload_n C d_Se_init_5 6 rfl rfl ?_
  refine xr_putF C K_Se 0 d_Se_init_6 9 rfl q_311 (Or.inl rfl) rfl rfl rfl rfl rfl rfl (by first | assumption | exact xup_self | exact (xup_ne (by assumption)).trans (by assumption) | exact (xup_ne (Ne.symm (by assumption))).trans (by assumption) | exact (xup_ne (by assumption)).trans xup_self | exact (xup_ne (Ne.symm (by assumption))).trans xup_self) rfl rfl ?_
  refine xr_aload_n C d_Se_init_9 10 rfl rfl ?_
  refine xr_iload_n C d_Se_init_10 11 rfl rfl ?_
  refine xr_putF C K_Se 1 d_Se_init_11 14 rfl q_314 (Or.inl rfl) rfl rfl rfl rfl rfl rfl (by first | assumption | exact xup_self | exact (xup_ne (by assumption)).trans (by assumption) | exact (xup_ne (Ne.symm (by assumption))).trans (by assumption) | exact (xup_ne (by assumption)).trans xup_self | exact (xup_ne (Ne.symm (by assumption))).trans xup_self) rfl rfl ?_
  refine xr_aload_n C d_Se_init_14 15 rfl rfl ?_
  refine xr_iload_n C d_Se_init_15 16 rfl rfl ?_
  refine xr_putF C K_Se 2 d_Se_init_16 19 rfl q_317 (Or.inl rfl) rfl rfl rfl rfl rfl rfl (by first | assumption | exact xup_self | exact (xup_ne (by assumption)).trans (by assumption) | exact (xup_ne (Ne.symm (by assumption))).trans (by assumption) | exact (xup_ne (by assumption)).trans xup_self | exact (xup_ne (Ne.symm (by assumption))).trans xup_self) rfl rfl ?_
  refine xr_aload_n C d_Se_init_19 20 rfl rfl ?_
  refine xr_iload C d_Se_init_20 22 rfl rfl ?_
  refine xr_putF C K_Se 3 d_Se_init_22 25 rfl q_319 (Or.inl rfl) rfl rfl rfl rfl rfl rfl (by first | assumption | exact xup_self | exact (xup_ne (by assumption)).trans (by assumption) | exact (xup_ne (Ne.symm (by assumption))).trans (by assumption) | exact (xup_ne (by assumption)).trans xup_self | exact (xup_ne (Ne.symm (by assumption))).trans xup_self) rfl rfl ?_
  refine xr_aload_n C d_Se_init_25 26 rfl rfl ?_
  refine xr_aload C d_Se_init_26 28 rfl rfl ?_
  refine xr_putF C K_Se 4 d_Se_init_28 31 rfl q_321 (Or.inl rfl) rfl rfl rfl rfl rfl rfl (by first | assumption | exact xup_self | exact (xup_ne (by assumption)).trans (by assumption) | exact (xup_ne (Ne.symm (by assumption))).trans (by assumption) | exact (xup_ne (by assumption)).trans xup_self | exact (xup_ne (Ne.symm (by assumption))).trans xup_self) rfl rfl ?_
  exact xr_vret C d_Se_init_31 (by omega) (by omega) ⟨rfl, by simp only [xup_up]; rfl⟩
set_option maxRecDepth 100000 in
set_option maxHeartbeats 4000000 in
theorem c_Se_usedAt {l : Launch} {D : va_G} {H0 : Heap} {X : xH} {a q : Nat} {n u s p z : Int32} (ha : X a = some (.inr (4, [.int n, .int u, .int s, .int p, .ref q]))) : xMet l D H0 y_Se_usedAt b_Se_usedAt 2 (some (.object "TwinKeepers$Session")) [] 1 1 5 [.ref a, .int z] X (fun o X' => ∃ a' : Nat, o = .inl (some (.ref a')) ∧ X a' = none ∧ X' = xup X a' (.inr (4, [.int n, .int z, .int s, .int p, .ref q]))) := by
  refine ⟨[some (.ref a), some (.int z)], rfl, Nat.le_of_ble_eq_true rfl, fun E hD hH hl _ C => ?_⟩
  subst hD
  subst hH
  subst hl
  refine xr_new (fs := [.int 0, .int 0, .int 0, .int 0, .null]) C K_Se d_Se_usedAt_0 3 rfl q_437 q_304 q_18 (by intro j hj; match j, hj with | 0, _ => rfl | 1, _ => rfl | 2, _ => rfl | 3, _ => rfl | 4, _ => rfl) (by omega) (by omega) (fun q9 hq9 => ?_)
  have ha' := xup_fresh (v := .inr (4, [.int 0, .int 0, .int 0, .int 0, .null])) ha hq9
  refine xr_dup C d_Se_usedAt_3 4 rfl rfl ?_
  refine xr_aload_n C d_Se_usedAt_4 5 rfl rfl ?_
  refine xr_get C K_Se 0 d_Se_usedAt_5 8 rfl q_311 (Or.inl rfl) rfl (by first | assumption | exact xup_self | exact (xup_ne (by assumption)).trans (by assumption) | exact (xup_ne (Ne.symm (by assumption))).trans (by assumption) | exact (xup_ne (by assumption)).trans xup_self | exact (xup_ne (Ne.symm (by assumption))).trans xup_self) rfl ?_
  refine xr_iload_n C d_Se_usedAt_8 9 rfl rfl ?_
  refine xr_aload_n C d_Se_usedAt_9 10 rfl rfl ?_
  refine xr_get C K_Se 2 d_Se_usedAt_10 13 rfl q_317 (Or.inl rfl) rfl (by first | assumption | exact xup_self | exact (xup_ne (by assumption)).trans (by assumption) | exact (xup_ne (Ne.symm (by assumption))).trans (by assumption) | exact (xup_ne (by assumption)).trans xup_self | exact (xup_ne (Ne.symm (by assumption))).trans xup_self) rfl ?_
  refine xr_aload_n C d_Se_usedAt_13 14 rfl rfl ?_
  refine xr_get C K_Se 3 d_Se_usedAt_14 17 rfl q_319 (Or.inl rfl) rfl (by first | assumption | exact xup_self | exact (xup_ne (by assumption)).trans (by assumption) | exact (xup_ne (Ne.symm (by assumption))).trans (by assumption) | exact (xup_ne (by assumption)).trans xup_self | exact (xup_ne (Ne.symm (by assumption))).trans xup_self) rfl ?_
  refine xr_aload_n C d_Se_usedAt_17 18 rfl rfl ?_
  refine xr_get C K_Se 4 d_Se_usedAt_18 21 rfl q_321 (Or.inl rfl) rfl (by first | assumption | exact xup_self | exact (xup_ne (by assumption)).trans (by assumption) | exact (xup_ne (Ne.symm (by assumption))).trans (by assumption) | exact (xup_ne (by assumption)).trans xup_self | exact (xup_ne (Ne.symm (by assumption))).trans xup_self) rfl ?_
  refine xr_callI C (c_Se_init xup_self) kc_Se_init d_Se_usedAt_21 24 rfl (Or.inl q_438) v_Se_init rfl h_Se_init rfl ⟨Nat.le_of_ble_eq_true rfl, Nat.le_of_ble_eq_true rfl, Nat.le_of_ble_eq_true rfl⟩ (by omega) (by omega) (fun v9 X' hP => ?_) (fun _ _ h => absurd h.1 (by simp))
  obtain ⟨h1, rfl⟩ := hP
  cases h1
  refine xG.eqX xup_up ?_
  exact xr_aret C d_Se_usedAt_24 (Or.inl ⟨_, rfl⟩) (by omega) (by omega) ⟨q9, rfl, hq9, rfl⟩
set_option maxRecDepth 100000 in
set_option maxHeartbeats 4000000 in
theorem c_Se_answered {l : Launch} {D : va_G} {H0 : Heap} {X : xH} {a q q1 : Nat} {n u s p s1 z : Int32} (ha : X a = some (.inr (4, [.int n, .int u, .int s, .int p, .ref q]))) : xMet l D H0 y_Se_answered b_Se_answered 4 (some (.object "TwinKeepers$Session")) [] 1 1 5 [.ref a, .int s1, .int z, .ref q1] X (fun o X' => ∃ a' : Nat, o = .inl (some (.ref a')) ∧ X a' = none ∧ X' = xup X a' (.inr (4, [.int n, .int z, .int s1, .int z, .ref q1]))) := by
  refine ⟨[some (.ref a), some (.int s1), some (.int z), some (.ref q1)], rfl, Nat.le_of_ble_eq_true rfl, fun E hD hH hl _ C => ?_⟩
  subst hD
  subst hH
  subst hl
  refine xr_new (fs := [.int 0, .int 0, .int 0, .int 0, .null]) C K_Se d_Se_answered_0 3 rfl q_437 q_304 q_18 (by intro j hj; match j, hj with | 0, _ => rfl | 1, _ => rfl | 2, _ => rfl | 3, _ => rfl | 4, _ => rfl) (by omega) (by omega) (fun q9 hq9 => ?_)
  have ha' := xup_fresh (v := .inr (4, [.int 0, .int 0, .int 0, .int 0, .null])) ha hq9
  refine xr_dup C d_Se_answered_3 4 rfl rfl ?_
  refine xr_aload_n C d_Se_answered_4 5 rfl rfl ?_
  refine xr_get C K_Se 0 d_Se_answered_5 8 rfl q_311 (Or.inl rfl) rfl (by first | assumption | exact xup_self | exact (xup_ne (by assumption)).trans (by assumption) | exact (xup_ne (Ne.symm (by assumption))).trans (by assumption) | exact (xup_ne (by assumption)).trans xup_self | exact (xup_ne (Ne.symm (by assumption))).trans xup_self) rfl ?_
  refine xr_iload_n C d_Se_answered_8 9 rfl rfl ?_
  refine xr_iload_n C d_Se_answered_9 10 rfl rfl ?_
  refine xr_iload_n C d_Se_answered_10 11 rfl rfl ?_
  refine xr_aload_n C d_Se_answered_11 12 rfl rfl ?_
  refine xr_callI C (c_Se_init xup_self) kc_Se_init d_Se_answered_12 15 rfl (Or.inl q_438) v_Se_init rfl h_Se_init rfl ⟨Nat.le_of_ble_eq_true rfl, Nat.le_of_ble_eq_true rfl, Nat.le_of_ble_eq_true rfl⟩ (by omega) (by omega) (fun v9 X' hP => ?_) (fun _ _ h => absurd h.1 (by simp))
  obtain ⟨h1, rfl⟩ := hP
  cases h1
  refine xG.eqX xup_up ?_
  exact xr_aret C d_Se_answered_15 (Or.inl ⟨_, rfl⟩) (by omega) (by omega) ⟨q9, rfl, hq9, rfl⟩
set_option maxRecDepth 100000 in
set_option maxHeartbeats 4000000 in
theorem c_Se_isLike {l : Launch} {D : va_G} {H0 : Heap} {X : xH} {a b : Nat} {I : Nat → Option Imm} {s t : Ss} (hI : xIm D X I) (ha : imS I a s) (hb : imS I b t) : xMet l D H0 y_Se_isLike b_Se_isLike 2 (some .boolean) [] 2 0 0 [.ref a, .ref b] X (fun o X' => o = .inl (some (.int (if s = t then 1 else 0))) ∧ X' = X) := by
  obtain ⟨p, ha1, ha2, -⟩ := ha.use hI
  obtain ⟨q, hb1, hb2, -⟩ := hb.use hI
  refine ⟨[some (.ref a), some (.ref b)], rfl, Nat.le_of_ble_eq_true rfl, fun E hD hH hl _ C => ?_⟩
  subst hD
  subst hH
  subst hl
  have no : s ≠ t → xG E X 0 0 62 [some (.ref a), some (.ref b)] [] := by
    intro h
    refine xr_iconst (v := 0) C d_Se_isLike_62 63 rfl (by decide) ?_
    exact xr_zret C d_Se_isLike_63 rfl (by omega) (by omega) ⟨by rw [if_neg h], rfl⟩
  refine xr_aload_n C d_Se_isLike_0 1 rfl rfl ?_
  refine xr_get C K_Se 0 d_Se_isLike_1 4 rfl q_311 (Or.inl rfl) rfl (by first | assumption | exact xup_self | exact (xup_ne (by assumption)).trans (by assumption) | exact (xup_ne (Ne.symm (by assumption))).trans (by assumption) | exact (xup_ne (by assumption)).trans xup_self | exact (xup_ne (Ne.symm (by assumption))).trans xup_self) rfl ?_
  refine xr_aload_n C d_Se_isLike_4 5 rfl rfl ?_
  refine xr_get C K_Se 0 d_Se_isLike_5 8 rfl q_311 (Or.inl rfl) rfl (by first | assumption | exact xup_self | exact (xup_ne (by assumption)).trans (by assumption) | exact (xup_ne (Ne.symm (by assumption))).trans (by assumption) | exact (xup_ne (by assumption)).trans xup_self | exact (xup_ne (Ne.symm (by assumption))).trans xup_self) rfl ?_
  refine xr_icmp_ne C d_Se_isLike_8 11 62 rfl (by decide) (fun j1 => no (fun e => j1 (by rw [e]))) (fun j1 => ?_)
  refine xr_aload_n C d_Se_isLike_11 12 rfl rfl ?_
  refine xr_get C K_Se 1 d_Se_isLike_12 15 rfl q_314 (Or.inl rfl) rfl (by first | assumption | exact xup_self | exact (xup_ne (by assumption)).trans (by assumption) | exact (xup_ne (Ne.symm (by assumption))).trans (by assumption) | exact (xup_ne (by assumption)).trans xup_self | exact (xup_ne (Ne.symm (by assumption))).trans xup_self) rfl ?_
  refine xr_aload_n C d_Se_isLike_15 16 rfl rfl ?_
  refine xr_get C K_Se 1 d_Se_isLike_16 19 rfl q_314 (Or.inl rfl) rfl (by first | assumption | exact xup_self | exact (xup_ne (by assumption)).trans (by assumption) | exact (xup_ne (Ne.symm (by assumption))).trans (by assumption) | exact (xup_ne (by assumption)).trans xup_self | exact (xup_ne (Ne.symm (by assumption))).trans xup_self) rfl ?_
  refine xr_icmp_ne C d_Se_isLike_19 22 62 rfl (by decide) (fun j2 => no (fun e => j2 (by rw [e]))) (fun j2 => ?_)
  refine xr_aload_n C d_Se_isLike_22 23 rfl rfl ?_
  refine xr_get C K_Se 2 d_Se_isLike_23 26 rfl q_317 (Or.inl rfl) rfl (by first | assumption | exact xup_self | exact (xup_ne (by assumption)).trans (by assumption) | exact (xup_ne (Ne.symm (by assumption))).trans (by assumption) | exact (xup_ne (by assumption)).trans xup_self | exact (xup_ne (Ne.symm (by assumption))).trans xup_self) rfl ?_
  refine xr_aload_n C d_Se_isLike_26 27 rfl rfl ?_
  refine xr_get C K_Se 2 d_Se_isLike_27 30 rfl q_317 (Or.inl rfl) rfl (by first | assumption | exact xup_self | exact (xup_ne (by assumption)).trans (by assumption) | exact (xup_ne (Ne.symm (by assumption))).trans (by assumption) | exact (xup_ne (by assumption)).trans xup_self | exact (xup_ne (Ne.symm (by assumption))).trans xup_self) rfl ?_
  refine xr_icmp_ne C d_Se_isLike_30 33 62 rfl (by decide) (fun j3 => no (fun e => j3 (by rw [e]))) (fun j3 => ?_)
  refine xr_aload_n C d_Se_isLike_33 34 rfl rfl ?_
  refine xr_get C K_Se 3 d_Se_isLike_34 37 rfl q_319 (Or.inl rfl) rfl (by first | assumption | exact xup_self | exact (xup_ne (by assumption)).trans (by assumption) | exact (xup_ne (Ne.symm (by assumption))).trans (by assumption) | exact (xup_ne (by assumption)).trans xup_self | exact (xup_ne (Ne.symm (by assumption))).trans xup_self) rfl ?_
  refine xr_aload_n C d_Se_isLike_37 38 rfl rfl ?_
  refine xr_get C K_Se 3 d_Se_isLike_38 41 rfl q_319 (Or.inl rfl) rfl (by first | assumption | exact xup_self | exact (xup_ne (by assumption)).trans (by assumption) | exact (xup_ne (Ne.symm (by assumption))).trans (by assumption) | exact (xup_ne (by assumption)).trans xup_self | exact (xup_ne (Ne.symm (by assumption))).trans xup_self) rfl ?_
  refine xr_icmp_ne C d_Se_isLike_41 44 62 rfl (by decide) (fun j4 => no (fun e => j4 (by rw [e]))) (fun j4 => ?_)
  refine xr_aload_n C d_Se_isLike_44 45 rfl rfl ?_
  refine xr_get C K_Se 4 d_Se_isLike_45 48 rfl q_321 (Or.inl rfl) rfl (by first | assumption | exact xup_self | exact (xup_ne (by assumption)).trans (by assumption) | exact (xup_ne (Ne.symm (by assumption))).trans (by assumption) | exact (xup_ne (by assumption)).trans xup_self | exact (xup_ne (Ne.symm (by assumption))).trans xup_self) rfl ?_
  refine xr_aload_n C d_Se_isLike_48 49 rfl rfl ?_
  refine xr_get C K_Se 4 d_Se_isLike_49 52 rfl q_321 (Or.inl rfl) rfl (by first | assumption | exact xup_self | exact (xup_ne (by assumption)).trans (by assumption) | exact (xup_ne (Ne.symm (by assumption))).trans (by assumption) | exact (xup_ne (by assumption)).trans xup_self | exact (xup_ne (Ne.symm (by assumption))).trans xup_self) rfl ?_
  refine xr_callS C (c_TK_compare ha2 hb2) k_TK_compare d_Se_isLike_52 55 rfl (Or.inr ⟨_, q_856⟩) s_TK_compare in_TK_compare h_TK_compare rfl ⟨Nat.le_of_ble_eq_true rfl, Nat.le_of_ble_eq_true rfl, Nat.le_of_ble_eq_true rfl⟩ (by omega) (by omega) (fun v9 X hP => ?_) (fun _ _ h => by obtain ⟨v, h, -⟩ := h; cases h)
  obtain ⟨v, h1, rfl, h2, -⟩ := hP
  cases h1
  refine xr_if_ne C d_Se_isLike_55 58 62 rfl (by decide) (fun j5 => no (fun e => j5 (h2.mpr (by rw [e])))) (fun j5 => ?_)
  refine xr_iconst (v := 1) C d_Se_isLike_58 59 rfl (by decide) ?_
  refine xr_goto C d_Se_isLike_59 63 (by decide) ?_
  exact xr_zret C d_Se_isLike_63 rfl (by omega) (by omega) ⟨by rw [if_pos (show s = t from Prod.ext j1 (Prod.ext j2 (Prod.ext j3 (Prod.ext j4 (h2.mp j5)))))], rfl⟩
set_option maxRecDepth 100000 in
set_option maxHeartbeats 4000000 in
theorem c_Se_rowBytes {l : Launch} {D : va_G} {H0 : Heap} {X : xH} {a : Nat} {I : Nat → Option Imm} {s : Ss} (hI : xIm D X I) (ha : imS I a s) : xMet l D H0 y_Se_rowBytes b_Se_rowBytes 1 (some .int) [] 0 0 0 [.ref a] X (fun o X' => o = .inl (some (.int (nI (18 + s.2.2.2.2.length)))) ∧ X' = X) := by
  obtain ⟨p, ha1, ha2, -⟩ := ha.use hI
  obtain ⟨f, hp⟩ := ha2.ar
  refine ⟨[some (.ref a)], rfl, Nat.le_of_ble_eq_true rfl, fun E hD hH hl _ C => ?_⟩
  subst hD
  subst hH
  subst hl
  refine xr_bipush (v := 18) C d_Se_rowBytes_0 2 rfl (by decide) ?_
  refine xr_aload_n C d_Se_rowBytes_2 3 rfl rfl ?_
  refine xr_get C K_Se 4 d_Se_rowBytes_3 6 rfl q_321 (Or.inl rfl) rfl (by first | assumption | exact xup_self | exact (xup_ne (by assumption)).trans (by assumption) | exact (xup_ne (Ne.symm (by assumption))).trans (by assumption) | exact (xup_ne (by assumption)).trans xup_self | exact (xup_ne (Ne.symm (by assumption))).trans xup_self) rfl ?_
  refine xr_alen (t0 := 0) C rfl d_Se_rowBytes_6 7 rfl hp ?_
  refine xr_iadd C d_Se_rowBytes_7 8 rfl ?_
  refine xr_toi (show _ = nI (18 + s.2.2.2.2.length) from nI_add 18 _) ?_
  exact xr_iret C d_Se_rowBytes_8 (by omega) (by omega) ⟨rfl, rfl⟩
/-- the row of a session, of an entry -/
def tellS (s : Ss) : List Int32 := num s.1 4 ++ (num s.2.1 4 ++ (num s.2.2.1 4 ++ (num s.2.2.2.1 4 ++ (num (nI s.2.2.2.2.length) 2 ++ s.2.2.2.2))))
def tellE (e : Es) : List Int32 := num (nI e.1.length) 1 ++ (num (nI e.2.length) 2 ++ (e.1 ++ e.2))
theorem tellS_len {s : Ss} : (tellS s).length = 18 + s.2.2.2.2.length := by
  unfold tellS
  simp only [List.length_append, num_len]
  omega
theorem tellE_len {e : Es} : (tellE e).length = 3 + e.1.length + e.2.length := by
  unfold tellE
  simp only [List.length_append, num_len]
  omega
set_option maxRecDepth 100000 in
set_option maxHeartbeats 4000000 in
theorem c_Se_tell {l : Launch} {D : va_G} {H0 : Heap} {X : xH} {a r b cap d : Nat} {I : Nat → Option Imm} {s : Ss} {bs : List Int32} (hI : xIm D X I) (ha : imS I a s) (hR : xRow D X r b cap bs) (hb : I b = none) (hd : isR cap (bs.length + (18 + s.2.2.2.2.length)) d) (hd2 : d ≤ 100000) : xMet l D H0 y_Se_tell b_Se_tell 2 none [] 3 (d - cap) (2 * (d - cap)) [.ref a, .ref r] X (fun o X' => o = .inl none ∧ xAdd D X X' r b d (bs ++ tellS s)) := by
  obtain ⟨p, ha1, ha2, hp⟩ := ha.use hI
  have hr := hR.nob hI
  have hcd : cap ≤ cap := Nat.le_refl _
  have hT := hd
  have hA : xAdd D X X r b cap bs := ⟨b, hR, xFr.rf, Or.inl rfl⟩
  have hln := ha2.len
  refine ⟨[some (.ref a), some (.ref r)], rfl, Nat.le_of_ble_eq_true rfl, fun E hD hH hl _ C => ?_⟩
  subst hD
  subst hH
  subst hl
  refine xG.wide (c2 := cap - cap) (s2 := 2 * (cap - cap)) (by omega) (by omega) ?_
  obtain ⟨b1, h4, h5, h6⟩ := hA
  have hr1 := h4.at
  have hcp := h4.cap
  obtain ⟨hI1, -⟩ := xAdd.im ⟨b1, h4, h5, h6⟩ hI hr hb
  obtain ⟨p1, k1, k2, k3⟩ := ha.use hI1
  obtain ⟨f1, k4⟩ := k2.ar
  obtain ⟨d1, g1, g2, g3, g4⟩ := hT.step (n := (bs).length + 4) (by first | omega | (simp only [List.length_append, num_len]; omega)) hcp.1
  refine xr_aload_n C d_Se_tell_0 1 rfl rfl ?_
  refine xr_aload_n C d_Se_tell_1 2 rfl rfl ?_
  refine xr_get C K_Se 0 d_Se_tell_2 5 rfl q_311 (Or.inl rfl) rfl (by first | assumption | exact xup_self | exact (xup_ne (by assumption)).trans (by assumption) | exact (xup_ne (Ne.symm (by assumption))).trans (by assumption) | exact (xup_ne (by assumption)).trans xup_self | exact (xup_ne (Ne.symm (by assumption))).trans xup_self) rfl ?_
  refine xr_iconst (v := 4) C d_Se_tell_5 6 rfl (by decide) ?_
  refine xr_callV C (c_Ro_addNumber (v := s.1) (n := 4) h4 (by omega) g1 (by omega)) k_Ro_addNumber d_Se_tell_6 9 rfl (by first | assumption | exact xup_self | exact (xup_ne (by assumption)).trans (by assumption) | exact (xup_ne (Ne.symm (by assumption))).trans (by assumption) | exact (xup_ne (by assumption)).trans xup_self | exact (xup_ne (Ne.symm (by assumption))).trans xup_self) rfl (Or.inl q_828) v_Ro_addNumber e_Ro_addNumber h_Ro_addNumber rfl ⟨Nat.le_of_ble_eq_true rfl, Nat.le_of_ble_eq_true rfl, Nat.le_of_ble_eq_true rfl⟩ (by omega) (by omega) (fun v9 X' hP => ?_) (fun _ _ h => absurd h.1 (by simp))
  obtain ⟨e1, e2⟩ := hP
  cases e1
  replace hA := xAdd.then h5 h6 e2
  replace hT := g2
  refine xG.wide (c2 := d1 - cap) (s2 := 2 * (d1 - cap)) (by omega) (by omega) ?_
  replace hcd : cap ≤ d1 := by omega
  clear g1 g2 g3 h4 h5 h6 hr1 hcp e2
  clear hI1 k1 k2 k3 k4
  obtain ⟨b1, h4, h5, h6⟩ := hA
  have hr1 := h4.at
  have hcp := h4.cap
  obtain ⟨hI1, -⟩ := xAdd.im ⟨b1, h4, h5, h6⟩ hI hr hb
  obtain ⟨p1, k1, k2, k3⟩ := ha.use hI1
  obtain ⟨f1, k4⟩ := k2.ar
  obtain ⟨d1, g1, g2, g3, g4⟩ := hT.step (n := (bs ++ num s.1 4).length + 4) (by first | omega | (simp only [List.length_append, num_len]; omega)) hcp.1
  refine xr_aload_n C d_Se_tell_9 10 rfl rfl ?_
  refine xr_aload_n C d_Se_tell_10 11 rfl rfl ?_
  refine xr_get C K_Se 1 d_Se_tell_11 14 rfl q_314 (Or.inl rfl) rfl (by first | assumption | exact xup_self | exact (xup_ne (by assumption)).trans (by assumption) | exact (xup_ne (Ne.symm (by assumption))).trans (by assumption) | exact (xup_ne (by assumption)).trans xup_self | exact (xup_ne (Ne.symm (by assumption))).trans xup_self) rfl ?_
  refine xr_iconst (v := 4) C d_Se_tell_14 15 rfl (by decide) ?_
  refine xr_callV C (c_Ro_addNumber (v := s.2.1) (n := 4) h4 (by omega) g1 (by omega)) k_Ro_addNumber d_Se_tell_15 18 rfl (by first | assumption | exact xup_self | exact (xup_ne (by assumption)).trans (by assumption) | exact (xup_ne (Ne.symm (by assumption))).trans (by assumption) | exact (xup_ne (by assumption)).trans xup_self | exact (xup_ne (Ne.symm (by assumption))).trans xup_self) rfl (Or.inl q_828) v_Ro_addNumber e_Ro_addNumber h_Ro_addNumber rfl ⟨Nat.le_of_ble_eq_true rfl, Nat.le_of_ble_eq_true rfl, Nat.le_of_ble_eq_true rfl⟩ (by omega) (by omega) (fun v9 X' hP => ?_) (fun _ _ h => absurd h.1 (by simp))
  obtain ⟨e1, e2⟩ := hP
  cases e1
  replace hA := xAdd.then h5 h6 e2
  replace hT := g2
  refine xG.wide (c2 := d1 - cap) (s2 := 2 * (d1 - cap)) (by omega) (by omega) ?_
  replace hcd : cap ≤ d1 := by omega
  clear g1 g2 g3 h4 h5 h6 hr1 hcp e2
  clear hI1 k1 k2 k3 k4
  obtain ⟨b1, h4, h5, h6⟩ := hA
  have hr1 := h4.at
  have hcp := h4.cap
  obtain ⟨hI1, -⟩ := xAdd.im ⟨b1, h4, h5, h6⟩ hI hr hb
  obtain ⟨p1, k1, k2, k3⟩ := ha.use hI1
  obtain ⟨f1, k4⟩ := k2.ar
  obtain ⟨d1, g1, g2, g3, g4⟩ := hT.step (n := (bs ++ num s.1 4 ++ num s.2.1 4).length + 4) (by first | omega | (simp only [List.length_append, num_len]; omega)) hcp.1
  refine xr_aload_n C d_Se_tell_18 19 rfl rfl ?_
  refine xr_aload_n C d_Se_tell_19 20 rfl rfl ?_
  refine xr_get C K_Se 2 d_Se_tell_20 23 rfl q_317 (Or.inl rfl) rfl (by first | assumption | exact xup_self | exact (xup_ne (by assumption)).trans (by assumption) | exact (xup_ne (Ne.symm (by assumption))).trans (by assumption) | exact (xup_ne (by assumption)).trans xup_self | exact (xup_ne (Ne.symm (by assumption))).trans xup_self) rfl ?_
  refine xr_iconst (v := 4) C d_Se_tell_23 24 rfl (by decide) ?_
  refine xr_callV C (c_Ro_addNumber (v := s.2.2.1) (n := 4) h4 (by omega) g1 (by omega)) k_Ro_addNumber d_Se_tell_24 27 rfl (by first | assumption | exact xup_self | exact (xup_ne (by assumption)).trans (by assumption) | exact (xup_ne (Ne.symm (by assumption))).trans (by assumption) | exact (xup_ne (by assumption)).trans xup_self | exact (xup_ne (Ne.symm (by assumption))).trans xup_self) rfl (Or.inl q_828) v_Ro_addNumber e_Ro_addNumber h_Ro_addNumber rfl ⟨Nat.le_of_ble_eq_true rfl, Nat.le_of_ble_eq_true rfl, Nat.le_of_ble_eq_true rfl⟩ (by omega) (by omega) (fun v9 X' hP => ?_) (fun _ _ h => absurd h.1 (by simp))
  obtain ⟨e1, e2⟩ := hP
  cases e1
  replace hA := xAdd.then h5 h6 e2
  replace hT := g2
  refine xG.wide (c2 := d1 - cap) (s2 := 2 * (d1 - cap)) (by omega) (by omega) ?_
  replace hcd : cap ≤ d1 := by omega
  clear g1 g2 g3 h4 h5 h6 hr1 hcp e2
  clear hI1 k1 k2 k3 k4
  obtain ⟨b1, h4, h5, h6⟩ := hA
  have hr1 := h4.at
  have hcp := h4.cap
  obtain ⟨hI1, -⟩ := xAdd.im ⟨b1, h4, h5, h6⟩ hI hr hb
  obtain ⟨p1, k1, k2, k3⟩ := ha.use hI1
  obtain ⟨f1, k4⟩ := k2.ar
  obtain ⟨d1, g1, g2, g3, g4⟩ := hT.step (n := (bs ++ num s.1 4 ++ num s.2.1 4 ++ num s.2.2.1 4).length + 4) (by first | omega | (simp only [List.length_append, num_len]; omega)) hcp.1
  refine xr_aload_n C d_Se_tell_27 28 rfl rfl ?_
  refine xr_aload_n C d_Se_tell_28 29 rfl rfl ?_
  refine xr_get C K_Se 3 d_Se_tell_29 32 rfl q_319 (Or.inl rfl) rfl (by first | assumption | exact xup_self | exact (xup_ne (by assumption)).trans (by assumption) | exact (xup_ne (Ne.symm (by assumption))).trans (by assumption) | exact (xup_ne (by assumption)).trans xup_self | exact (xup_ne (Ne.symm (by assumption))).trans xup_self) rfl ?_
  refine xr_iconst (v := 4) C d_Se_tell_32 33 rfl (by decide) ?_
  refine xr_callV C (c_Ro_addNumber (v := s.2.2.2.1) (n := 4) h4 (by omega) g1 (by omega)) k_Ro_addNumber d_Se_tell_33 36 rfl (by first | assumption | exact xup_self | exact (xup_ne (by assumption)).trans (by assumption) | exact (xup_ne (Ne.symm (by assumption))).trans (by assumption) | exact (xup_ne (by assumption)).trans xup_self | exact (xup_ne (Ne.symm (by assumption))).trans xup_self) rfl (Or.inl q_828) v_Ro_addNumber e_Ro_addNumber h_Ro_addNumber rfl ⟨Nat.le_of_ble_eq_true rfl, Nat.le_of_ble_eq_true rfl, Nat.le_of_ble_eq_true rfl⟩ (by omega) (by omega) (fun v9 X' hP => ?_) (fun _ _ h => absurd h.1 (by simp))
  obtain ⟨e1, e2⟩ := hP
  cases e1
  replace hA := xAdd.then h5 h6 e2
  replace hT := g2
  refine xG.wide (c2 := d1 - cap) (s2 := 2 * (d1 - cap)) (by omega) (by omega) ?_
  replace hcd : cap ≤ d1 := by omega
  clear g1 g2 g3 h4 h5 h6 hr1 hcp e2
  clear hI1 k1 k2 k3 k4
  obtain ⟨b1, h4, h5, h6⟩ := hA
  have hr1 := h4.at
  have hcp := h4.cap
  obtain ⟨hI1, -⟩ := xAdd.im ⟨b1, h4, h5, h6⟩ hI hr hb
  obtain ⟨p1, k1, k2, k3⟩ := ha.use hI1
  obtain ⟨f1, k4⟩ := k2.ar
  obtain ⟨d1, g1, g2, g3, g4⟩ := hT.step (n := (bs ++ num s.1 4 ++ num s.2.1 4 ++ num s.2.2.1 4 ++ num s.2.2.2.1 4).length + 2) (by first | omega | (simp only [List.length_append, num_len]; omega)) hcp.1
  refine xr_aload_n C d_Se_tell_36 37 rfl rfl ?_
  refine xr_aload_n C d_Se_tell_37 38 rfl rfl ?_
  refine xr_get C K_Se 4 d_Se_tell_38 41 rfl q_321 (Or.inl rfl) rfl (by first | assumption | exact xup_self | exact (xup_ne (by assumption)).trans (by assumption) | exact (xup_ne (Ne.symm (by assumption))).trans (by assumption) | exact (xup_ne (by assumption)).trans xup_self | exact (xup_ne (Ne.symm (by assumption))).trans xup_self) rfl ?_
  refine xr_alen (t0 := 0) C rfl d_Se_tell_41 42 rfl k4 ?_
  refine xr_iconst (v := 2) C d_Se_tell_42 43 rfl (by decide) ?_
  refine xr_callV C (c_Ro_addNumber (v := (nI s.2.2.2.2.length)) (n := 2) h4 (by omega) g1 (by omega)) k_Ro_addNumber d_Se_tell_43 46 rfl (by first | assumption | exact xup_self | exact (xup_ne (by assumption)).trans (by assumption) | exact (xup_ne (Ne.symm (by assumption))).trans (by assumption) | exact (xup_ne (by assumption)).trans xup_self | exact (xup_ne (Ne.symm (by assumption))).trans xup_self) rfl (Or.inl q_828) v_Ro_addNumber e_Ro_addNumber h_Ro_addNumber rfl ⟨Nat.le_of_ble_eq_true rfl, Nat.le_of_ble_eq_true rfl, Nat.le_of_ble_eq_true rfl⟩ (by omega) (by omega) (fun v9 X' hP => ?_) (fun _ _ h => absurd h.1 (by simp))
  obtain ⟨e1, e2⟩ := hP
  cases e1
  replace hA := xAdd.then h5 h6 e2
  replace hT := g2
  refine xG.wide (c2 := d1 - cap) (s2 := 2 * (d1 - cap)) (by omega) (by omega) ?_
  replace hcd : cap ≤ d1 := by omega
  clear g1 g2 g3 h4 h5 h6 hr1 hcp e2
  clear hI1 k1 k2 k3 k4
  obtain ⟨b1, h4, h5, h6⟩ := hA
  have hr1 := h4.at
  have hcp := h4.cap
  obtain ⟨hI1, b2, k5, k6⟩ := xAdd.im ⟨b1, h4, h5, h6⟩ hI hr hb
  obtain ⟨p1, k1, k2, k3⟩ := ha.use hI1
  have k7 : p1 ≠ b1 := by
    intro e
    rw [e, show I b1 = none from h6.elim (fun e => by rw [e]; exact hb) (fun e => hI.non e)] at k3
    cases k3
  obtain ⟨d1, g1, g2, g3, g4⟩ := hT.step (n := (bs ++ num s.1 4 ++ num s.2.1 4 ++ num s.2.2.1 4 ++ num s.2.2.2.1 4 ++ num (nI s.2.2.2.2.length) 2).length + s.2.2.2.2.length) (by first | omega | (simp only [List.length_append, num_len]; omega)) hcp.1
  refine xr_aload_n C d_Se_tell_46 47 rfl rfl ?_
  refine xr_aload_n C d_Se_tell_47 48 rfl rfl ?_
  refine xr_get C K_Se 4 d_Se_tell_48 51 rfl q_321 (Or.inl rfl) rfl (by first | assumption | exact xup_self | exact (xup_ne (by assumption)).trans (by assumption) | exact (xup_ne (Ne.symm (by assumption))).trans (by assumption) | exact (xup_ne (by assumption)).trans xup_self | exact (xup_ne (Ne.symm (by assumption))).trans xup_self) rfl ?_
  refine xr_callV C (c_Ro_addAll h4 k2 k7 g1 (by omega)) k_Ro_addAll d_Se_tell_51 54 rfl (by first | assumption | exact xup_self | exact (xup_ne (by assumption)).trans (by assumption) | exact (xup_ne (Ne.symm (by assumption))).trans (by assumption) | exact (xup_ne (by assumption)).trans xup_self | exact (xup_ne (Ne.symm (by assumption))).trans xup_self) rfl (Or.inl q_829) v_Ro_addAll e_Ro_addAll h_Ro_addAll rfl ⟨Nat.le_of_ble_eq_true rfl, Nat.le_of_ble_eq_true rfl, Nat.le_of_ble_eq_true rfl⟩ (by omega) (by omega) (fun v9 X' hP => ?_) (fun _ _ h => absurd h.1 (by simp))
  obtain ⟨e1, e2⟩ := hP
  cases e1
  replace hA := xAdd.then h5 h6 e2
  replace hT := g2
  refine xG.wide (c2 := d1 - cap) (s2 := 2 * (d1 - cap)) (by omega) (by omega) ?_
  replace hcd : cap ≤ d1 := by omega
  clear g1 g2 g3 h4 h5 h6 hr1 hcp e2
  have e9 : d1 = d := by
    obtain ⟨b1, h4, h5, h6⟩ := hA
    have := h4.cap
    simp only [List.length_append, num_len] at this
    exact (hT.fit (by omega)).symm
  subst e9
  refine xr_vret C d_Se_tell_54 (by omega) (by omega) ⟨rfl, ?_⟩
  rw [show bs ++ tellS s = bs ++ num s.1 4 ++ num s.2.1 4 ++ num s.2.2.1 4 ++ num s.2.2.2.1 4 ++ num (nI s.2.2.2.2.length) 2 ++ s.2.2.2.2 by unfold tellS; simp only [List.append_assoc]]
  exact hA
set_option maxRecDepth 100000 in
set_option maxHeartbeats 4000000 in
theorem c_En_init {l : Launch} {D : va_G} {H0 : Heap} {X : xH} {a k v : Nat} {w0 w1 : Value} (ha : X a = some (.inr (5, [w0, w1]))) : xMet l D H0 y_En_init b_En_init 3 none [] 0 0 0 [.ref a, .ref k, .ref v] X (fun o X' => o = .inl none ∧ X' = xup X a (.inr (5, [.ref k, .ref v]))) := by
  refine ⟨[some (.ref a), some (.ref k), some (.ref v)], rfl, Nat.le_of_ble_eq_true rfl, fun E hD hH hl _ C => ?_⟩
  subst hD
  subst hH
  subst hl
  refine xr_aload_n C d_En_init_0 1 rfl rfl ?_
  refine xr_objInit C d_En_init_1 4 rfl q_709 w_oi w_oc (Nat.le_of_ble_eq_true rfl) ?_
  refine xr_aload_n C d_En_init_4 5 rfl rfl ?_
  refine xr_aload_n C d_En_init_5 6 rfl rfl ?_
  refine xr_putF C K_En 0 d_En_init_6 9 rfl q_710 (Or.inl rfl) rfl rfl rfl rfl rfl rfl (by first | assumption | exact xup_self | exact (xup_ne (by assumption)).trans (by assumption) | exact (xup_ne (Ne.symm (by assumption))).trans (by assumption) | exact (xup_ne (by assumption)).trans xup_self | exact (xup_ne (Ne.symm (by assumption))).trans xup_self) rfl rfl ?_
  refine xr_aload_n C d_En_init_9 10 rfl rfl ?_
  refine xr_aload_n C d_En_init_10 11 rfl rfl ?_
  refine xr_putF C K_En 1 d_En_init_11 14 rfl q_713 (Or.inl rfl) rfl rfl rfl rfl rfl rfl (by first | assumption | exact xup_self | exact (xup_ne (by assumption)).trans (by assumption) | exact (xup_ne (Ne.symm (by assumption))).trans (by assumption) | exact (xup_ne (by assumption)).trans xup_self | exact (xup_ne (Ne.symm (by assumption))).trans xup_self) rfl rfl ?_
  exact xr_vret C d_En_init_14 (by omega) (by omega) ⟨rfl, by simp only [xup_up]; rfl⟩
def un (e : Es) : Nat := (e.1.length + e.2.length + 15) / 16
set_option maxRecDepth 100000 in
set_option maxHeartbeats 4000000 in
theorem c_En_units {l : Launch} {D : va_G} {H0 : Heap} {X : xH} {a : Nat} {I : Nat → Option Imm} {e : Es} (hI : xIm D X I) (ha : imE I a e) : xMet l D H0 y_En_units b_En_units 1 (some .int) [] 0 0 0 [.ref a] X (fun o X' => o = .inl (some (.int (nI (un e)))) ∧ X' = X) := by
  obtain ⟨p, q, ha1, ha2, ha3, -⟩ := ha.use hI
  obtain ⟨f, hp⟩ := ha2.ar
  obtain ⟨g, hq⟩ := ha3.ar
  have l1 := ha2.len
  have l2 := ha3.len
  refine ⟨[some (.ref a)], rfl, Nat.le_of_ble_eq_true rfl, fun E hD hH hl _ C => ?_⟩
  subst hD
  subst hH
  subst hl
  refine xr_aload_n C d_En_units_0 1 rfl rfl ?_
  refine xr_get C K_En 0 d_En_units_1 4 rfl q_710 (Or.inl rfl) rfl (by first | assumption | exact xup_self | exact (xup_ne (by assumption)).trans (by assumption) | exact (xup_ne (Ne.symm (by assumption))).trans (by assumption) | exact (xup_ne (by assumption)).trans xup_self | exact (xup_ne (Ne.symm (by assumption))).trans xup_self) rfl ?_
  refine xr_alen (t0 := 0) C rfl d_En_units_4 5 rfl hp ?_
  refine xr_aload_n C d_En_units_5 6 rfl rfl ?_
  refine xr_get C K_En 1 d_En_units_6 9 rfl q_713 (Or.inl rfl) rfl (by first | assumption | exact xup_self | exact (xup_ne (by assumption)).trans (by assumption) | exact (xup_ne (Ne.symm (by assumption))).trans (by assumption) | exact (xup_ne (by assumption)).trans xup_self | exact (xup_ne (Ne.symm (by assumption))).trans xup_self) rfl ?_
  refine xr_alen (t0 := 0) C rfl d_En_units_9 10 rfl hq ?_
  refine xr_iadd C d_En_units_10 11 rfl ?_
  refine xr_toi (show _ = nI (e.1.length + e.2.length) from nI_add _ _) ?_
  refine xr_bipush (v := 16) C d_En_units_11 13 rfl (by decide) ?_
  refine xr_iadd C d_En_units_13 14 rfl ?_
  refine xr_toi (show _ = nI (e.1.length + e.2.length + 16) from nI_add _ 16) ?_
  refine xr_iconst (v := 1) C d_En_units_14 15 rfl (by decide) ?_
  refine xr_isub C d_En_units_15 16 rfl ?_
  refine xr_toi (show _ = nI (e.1.length + e.2.length + 15) from nI_pred _) ?_
  refine xr_bipush (v := 16) C d_En_units_16 18 rfl (by decide) ?_
  refine xr_idiv C d_En_units_18 19 rfl (by decide) ?_
  refine xr_toi (show _ = nI (un e) from pk_div (d := 16) (by omega) (by omega) (by omega)) ?_
  exact xr_iret C d_En_units_19 (by omega) (by omega) ⟨rfl, rfl⟩
set_option maxRecDepth 100000 in
set_option maxHeartbeats 4000000 in
theorem c_En_rowBytes {l : Launch} {D : va_G} {H0 : Heap} {X : xH} {a : Nat} {I : Nat → Option Imm} {e : Es} (hI : xIm D X I) (ha : imE I a e) : xMet l D H0 y_En_rowBytes b_En_rowBytes 1 (some .int) [] 0 0 0 [.ref a] X (fun o X' => o = .inl (some (.int (nI (3 + e.1.length + e.2.length)))) ∧ X' = X) := by
  obtain ⟨p, q, ha1, ha2, ha3, -⟩ := ha.use hI
  obtain ⟨f, hp⟩ := ha2.ar
  obtain ⟨g, hq⟩ := ha3.ar
  have l1 := ha2.len
  have l2 := ha3.len
  refine ⟨[some (.ref a)], rfl, Nat.le_of_ble_eq_true rfl, fun E hD hH hl _ C => ?_⟩
  subst hD
  subst hH
  subst hl
  refine xr_iconst (v := 3) C d_En_rowBytes_0 1 rfl (by decide) ?_
  refine xr_aload_n C d_En_rowBytes_1 2 rfl rfl ?_
  refine xr_get C K_En 0 d_En_rowBytes_2 5 rfl q_710 (Or.inl rfl) rfl (by first | assumption | exact xup_self | exact (xup_ne (by assumption)).trans (by assumption) | exact (xup_ne (Ne.symm (by assumption))).trans (by assumption) | exact (xup_ne (by assumption)).trans xup_self | exact (xup_ne (Ne.symm (by assumption))).trans xup_self) rfl ?_
  refine xr_alen (t0 := 0) C rfl d_En_rowBytes_5 6 rfl hp ?_
  refine xr_iadd C d_En_rowBytes_6 7 rfl ?_
  refine xr_toi (show _ = nI (3 + e.1.length) from nI_add 3 _) ?_
  refine xr_aload_n C d_En_rowBytes_7 8 rfl rfl ?_
  refine xr_get C K_En 1 d_En_rowBytes_8 11 rfl q_713 (Or.inl rfl) rfl (by first | assumption | exact xup_self | exact (xup_ne (by assumption)).trans (by assumption) | exact (xup_ne (Ne.symm (by assumption))).trans (by assumption) | exact (xup_ne (by assumption)).trans xup_self | exact (xup_ne (Ne.symm (by assumption))).trans xup_self) rfl ?_
  refine xr_alen (t0 := 0) C rfl d_En_rowBytes_11 12 rfl hq ?_
  refine xr_iadd C d_En_rowBytes_12 13 rfl ?_
  refine xr_toi (show _ = nI (3 + e.1.length + e.2.length) from nI_add _ _) ?_
  exact xr_iret C d_En_rowBytes_13 (by omega) (by omega) ⟨rfl, rfl⟩
set_option maxRecDepth 100000 in
set_option maxHeartbeats 4000000 in
theorem c_En_isLike {l : Launch} {D : va_G} {H0 : Heap} {X : xH} {a b : Nat} {I : Nat → Option Imm} {s t : Es} (hI : xIm D X I) (ha : imE I a s) (hb : imE I b t) : xMet l D H0 y_En_isLike b_En_isLike 2 (some .boolean) [] 2 0 0 [.ref a, .ref b] X (fun o X' => o = .inl (some (.int (if s = t then 1 else 0))) ∧ X' = X) := by
  obtain ⟨p, q, ha1, ha2, ha3, -⟩ := ha.use hI
  obtain ⟨p', q', hb1, hb2, hb3, -⟩ := hb.use hI
  refine ⟨[some (.ref a), some (.ref b)], rfl, Nat.le_of_ble_eq_true rfl, fun E hD hH hl _ C => ?_⟩
  subst hD
  subst hH
  subst hl
  have no : s ≠ t → xG E X 0 0 32 [some (.ref a), some (.ref b)] [] := by
    intro h
    refine xr_iconst (v := 0) C d_En_isLike_32 33 rfl (by decide) ?_
    exact xr_zret C d_En_isLike_33 rfl (by omega) (by omega) ⟨by rw [if_neg h], rfl⟩
  refine xr_aload_n C d_En_isLike_0 1 rfl rfl ?_
  refine xr_get C K_En 0 d_En_isLike_1 4 rfl q_710 (Or.inl rfl) rfl (by first | assumption | exact xup_self | exact (xup_ne (by assumption)).trans (by assumption) | exact (xup_ne (Ne.symm (by assumption))).trans (by assumption) | exact (xup_ne (by assumption)).trans xup_self | exact (xup_ne (Ne.symm (by assumption))).trans xup_self) rfl ?_
  refine xr_aload_n C d_En_isLike_4 5 rfl rfl ?_
  refine xr_get C K_En 0 d_En_isLike_5 8 rfl q_710 (Or.inl rfl) rfl (by first | assumption | exact xup_self | exact (xup_ne (by assumption)).trans (by assumption) | exact (xup_ne (Ne.symm (by assumption))).trans (by assumption) | exact (xup_ne (by assumption)).trans xup_self | exact (xup_ne (Ne.symm (by assumption))).trans xup_self) rfl ?_
  refine xr_callS C (c_TK_compare ha2 hb2) k_TK_compare d_En_isLike_8 11 rfl (Or.inr ⟨_, q_865⟩) s_TK_compare in_TK_compare h_TK_compare rfl ⟨Nat.le_of_ble_eq_true rfl, Nat.le_of_ble_eq_true rfl, Nat.le_of_ble_eq_true rfl⟩ (by omega) (by omega) (fun v9 X hP => ?_) (fun _ _ h => by obtain ⟨v, h, -⟩ := h; cases h)
  obtain ⟨v, h1, rfl, h2, -⟩ := hP
  cases h1
  refine xr_if_ne C d_En_isLike_11 14 32 rfl (by decide) (fun j5 => no (fun e => j5 (h2.mpr (by rw [e])))) (fun j5 => ?_)
  refine xr_aload_n C d_En_isLike_14 15 rfl rfl ?_
  refine xr_get C K_En 1 d_En_isLike_15 18 rfl q_713 (Or.inl rfl) rfl (by first | assumption | exact xup_self | exact (xup_ne (by assumption)).trans (by assumption) | exact (xup_ne (Ne.symm (by assumption))).trans (by assumption) | exact (xup_ne (by assumption)).trans xup_self | exact (xup_ne (Ne.symm (by assumption))).trans xup_self) rfl ?_
  refine xr_aload_n C d_En_isLike_18 19 rfl rfl ?_
  refine xr_get C K_En 1 d_En_isLike_19 22 rfl q_713 (Or.inl rfl) rfl (by first | assumption | exact xup_self | exact (xup_ne (by assumption)).trans (by assumption) | exact (xup_ne (Ne.symm (by assumption))).trans (by assumption) | exact (xup_ne (by assumption)).trans xup_self | exact (xup_ne (Ne.symm (by assumption))).trans xup_self) rfl ?_
  refine xr_callS C (c_TK_compare ha3 hb3) k_TK_compare d_En_isLike_22 25 rfl (Or.inr ⟨_, q_865⟩) s_TK_compare in_TK_compare h_TK_compare rfl ⟨Nat.le_of_ble_eq_true rfl, Nat.le_of_ble_eq_true rfl, Nat.le_of_ble_eq_true rfl⟩ (by omega) (by omega) (fun v9 X hP => ?_) (fun _ _ h => by obtain ⟨v, h, -⟩ := h; cases h)
  obtain ⟨v', h1, rfl, h3, -⟩ := hP
  cases h1
  refine xr_if_ne C d_En_isLike_25 28 32 rfl (by decide) (fun j6 => no (fun e => j6 (h3.mpr (by rw [e])))) (fun j6 => ?_)
  refine xr_iconst (v := 1) C d_En_isLike_28 29 rfl (by decide) ?_
  refine xr_goto C d_En_isLike_29 33 (by decide) ?_
  exact xr_zret C d_En_isLike_33 rfl (by omega) (by omega) ⟨by rw [if_pos (show s = t from Prod.ext (h2.mp j5) (h3.mp j6))], rfl⟩
set_option maxRecDepth 100000 in
set_option maxHeartbeats 4000000 in
theorem c_En_tell {l : Launch} {D : va_G} {H0 : Heap} {X : xH} {a r b cap d : Nat} {I : Nat → Option Imm} {e : Es} {bs : List Int32} (hI : xIm D X I) (ha : imE I a e) (hR : xRow D X r b cap bs) (hb : I b = none) (hd : isR cap (bs.length + (3 + e.1.length + e.2.length)) d) (hd2 : d ≤ 100000) : xMet l D H0 y_En_tell b_En_tell 2 none [] 3 (d - cap) (2 * (d - cap)) [.ref a, .ref r] X (fun o X' => o = .inl none ∧ xAdd D X X' r b d (bs ++ tellE e)) := by
  obtain ⟨p, q, ha1, ha2, ha3, hp, hq⟩ := ha.use hI
  have hr := hR.nob hI
  have hcd : cap ≤ cap := Nat.le_refl _
  have hT := hd
  have hA : xAdd D X X r b cap bs := ⟨b, hR, xFr.rf, Or.inl rfl⟩
  have hln := ha2.len
  have hln2 := ha3.len
  refine ⟨[some (.ref a), some (.ref r)], rfl, Nat.le_of_ble_eq_true rfl, fun E hD hH hl _ C => ?_⟩
  subst hD
  subst hH
  subst hl
  refine xG.wide (c2 := cap - cap) (s2 := 2 * (cap - cap)) (by omega) (by omega) ?_
  obtain ⟨b1, h4, h5, h6⟩ := hA
  have hr1 := h4.at
  have hcp := h4.cap
  obtain ⟨hI1, -⟩ := xAdd.im ⟨b1, h4, h5, h6⟩ hI hr hb
  obtain ⟨p1, q1, k1, k2, k3, -⟩ := ha.use hI1
  obtain ⟨f1, k5⟩ := k2.ar
  obtain ⟨f2, k6⟩ := k3.ar
  obtain ⟨d1, g1, g2, g3, g4⟩ := hT.step (n := (bs).length + 1) (by first | omega | (simp only [List.length_append, num_len]; omega)) hcp.1
  refine xr_aload_n C d_En_tell_0 1 rfl rfl ?_
  refine xr_aload_n C d_En_tell_1 2 rfl rfl ?_
  refine xr_get C K_En 0 d_En_tell_2 5 rfl q_710 (Or.inl rfl) rfl (by first | assumption | exact xup_self | exact (xup_ne (by assumption)).trans (by assumption) | exact (xup_ne (Ne.symm (by assumption))).trans (by assumption) | exact (xup_ne (by assumption)).trans xup_self | exact (xup_ne (Ne.symm (by assumption))).trans xup_self) rfl ?_
  refine xr_alen (t0 := 0) C rfl d_En_tell_5 6 rfl k5 ?_
  refine xr_iconst (v := 1) C d_En_tell_6 7 rfl (by decide) ?_
  refine xr_callV C (c_Ro_addNumber (v := (nI e.1.length)) (n := 1) h4 (by omega) g1 (by omega)) k_Ro_addNumber d_En_tell_7 10 rfl (by first | assumption | exact xup_self | exact (xup_ne (by assumption)).trans (by assumption) | exact (xup_ne (Ne.symm (by assumption))).trans (by assumption) | exact (xup_ne (by assumption)).trans xup_self | exact (xup_ne (Ne.symm (by assumption))).trans xup_self) rfl (Or.inl q_835) v_Ro_addNumber e_Ro_addNumber h_Ro_addNumber rfl ⟨Nat.le_of_ble_eq_true rfl, Nat.le_of_ble_eq_true rfl, Nat.le_of_ble_eq_true rfl⟩ (by omega) (by omega) (fun v9 X' hP => ?_) (fun _ _ h => absurd h.1 (by simp))
  obtain ⟨e1, e2⟩ := hP
  cases e1
  replace hA := xAdd.then h5 h6 e2
  replace hT := g2
  refine xG.wide (c2 := d1 - cap) (s2 := 2 * (d1 - cap)) (by omega) (by omega) ?_
  replace hcd : cap ≤ d1 := by omega
  clear g1 g2 g3 h4 h5 h6 hr1 hcp e2
  clear hI1 k1 k2 k3 k5 k6
  obtain ⟨b1, h4, h5, h6⟩ := hA
  have hr1 := h4.at
  have hcp := h4.cap
  obtain ⟨hI1, -⟩ := xAdd.im ⟨b1, h4, h5, h6⟩ hI hr hb
  obtain ⟨p1, q1, k1, k2, k3, -⟩ := ha.use hI1
  obtain ⟨f1, k5⟩ := k2.ar
  obtain ⟨f2, k6⟩ := k3.ar
  obtain ⟨d1, g1, g2, g3, g4⟩ := hT.step (n := (bs ++ num (nI e.1.length) 1).length + 2) (by first | omega | (simp only [List.length_append, num_len]; omega)) hcp.1
  refine xr_aload_n C d_En_tell_10 11 rfl rfl ?_
  refine xr_aload_n C d_En_tell_11 12 rfl rfl ?_
  refine xr_get C K_En 1 d_En_tell_12 15 rfl q_713 (Or.inl rfl) rfl (by first | assumption | exact xup_self | exact (xup_ne (by assumption)).trans (by assumption) | exact (xup_ne (Ne.symm (by assumption))).trans (by assumption) | exact (xup_ne (by assumption)).trans xup_self | exact (xup_ne (Ne.symm (by assumption))).trans xup_self) rfl ?_
  refine xr_alen (t0 := 0) C rfl d_En_tell_15 16 rfl k6 ?_
  refine xr_iconst (v := 2) C d_En_tell_16 17 rfl (by decide) ?_
  refine xr_callV C (c_Ro_addNumber (v := (nI e.2.length)) (n := 2) h4 (by omega) g1 (by omega)) k_Ro_addNumber d_En_tell_17 20 rfl (by first | assumption | exact xup_self | exact (xup_ne (by assumption)).trans (by assumption) | exact (xup_ne (Ne.symm (by assumption))).trans (by assumption) | exact (xup_ne (by assumption)).trans xup_self | exact (xup_ne (Ne.symm (by assumption))).trans xup_self) rfl (Or.inl q_835) v_Ro_addNumber e_Ro_addNumber h_Ro_addNumber rfl ⟨Nat.le_of_ble_eq_true rfl, Nat.le_of_ble_eq_true rfl, Nat.le_of_ble_eq_true rfl⟩ (by omega) (by omega) (fun v9 X' hP => ?_) (fun _ _ h => absurd h.1 (by simp))
  obtain ⟨e1, e2⟩ := hP
  cases e1
  replace hA := xAdd.then h5 h6 e2
  replace hT := g2
  refine xG.wide (c2 := d1 - cap) (s2 := 2 * (d1 - cap)) (by omega) (by omega) ?_
  replace hcd : cap ≤ d1 := by omega
  clear g1 g2 g3 h4 h5 h6 hr1 hcp e2
  clear hI1 k1 k2 k3 k5 k6
  obtain ⟨b1, h4, h5, h6⟩ := hA
  have hr1 := h4.at
  have hcp := h4.cap
  obtain ⟨hI1, -⟩ := xAdd.im ⟨b1, h4, h5, h6⟩ hI hr hb
  obtain ⟨p1, q1, k1, k2, k3, k5, k6⟩ := ha.use hI1
  have k7 : p1 ≠ b1 := by
    intro e
    rw [e, show I b1 = none from h6.elim (fun e => by rw [e]; exact hb) (fun e => hI.non e)] at k5
    cases k5
  obtain ⟨d1, g1, g2, g3, g4⟩ := hT.step (n := (bs ++ num (nI e.1.length) 1 ++ num (nI e.2.length) 2).length + e.1.length) (by first | omega | (simp only [List.length_append, num_len]; omega)) hcp.1
  refine xr_aload_n C d_En_tell_20 21 rfl rfl ?_
  refine xr_aload_n C d_En_tell_21 22 rfl rfl ?_
  refine xr_get C K_En 0 d_En_tell_22 25 rfl q_710 (Or.inl rfl) rfl (by first | assumption | exact xup_self | exact (xup_ne (by assumption)).trans (by assumption) | exact (xup_ne (Ne.symm (by assumption))).trans (by assumption) | exact (xup_ne (by assumption)).trans xup_self | exact (xup_ne (Ne.symm (by assumption))).trans xup_self) rfl ?_
  refine xr_callV C (c_Ro_addAll h4 k2 k7 g1 (by omega)) k_Ro_addAll d_En_tell_25 28 rfl (by first | assumption | exact xup_self | exact (xup_ne (by assumption)).trans (by assumption) | exact (xup_ne (Ne.symm (by assumption))).trans (by assumption) | exact (xup_ne (by assumption)).trans xup_self | exact (xup_ne (Ne.symm (by assumption))).trans xup_self) rfl (Or.inl q_836) v_Ro_addAll e_Ro_addAll h_Ro_addAll rfl ⟨Nat.le_of_ble_eq_true rfl, Nat.le_of_ble_eq_true rfl, Nat.le_of_ble_eq_true rfl⟩ (by omega) (by omega) (fun v9 X' hP => ?_) (fun _ _ h => absurd h.1 (by simp))
  obtain ⟨e1, e2⟩ := hP
  cases e1
  replace hA := xAdd.then h5 h6 e2
  replace hT := g2
  refine xG.wide (c2 := d1 - cap) (s2 := 2 * (d1 - cap)) (by omega) (by omega) ?_
  replace hcd : cap ≤ d1 := by omega
  clear g1 g2 g3 h4 h5 h6 hr1 hcp e2
  clear hI1 k1 k2 k3 k5 k6 k7
  obtain ⟨b1, h4, h5, h6⟩ := hA
  have hr1 := h4.at
  have hcp := h4.cap
  obtain ⟨hI1, -⟩ := xAdd.im ⟨b1, h4, h5, h6⟩ hI hr hb
  obtain ⟨p1, q1, k1, k2, k3, k5, k6⟩ := ha.use hI1
  have k7 : q1 ≠ b1 := by
    intro e
    rw [e, show I b1 = none from h6.elim (fun e => by rw [e]; exact hb) (fun e => hI.non e)] at k6
    cases k6
  obtain ⟨d1, g1, g2, g3, g4⟩ := hT.step (n := (bs ++ num (nI e.1.length) 1 ++ num (nI e.2.length) 2 ++ e.1).length + e.2.length) (by first | omega | (simp only [List.length_append, num_len]; omega)) hcp.1
  refine xr_aload_n C d_En_tell_28 29 rfl rfl ?_
  refine xr_aload_n C d_En_tell_29 30 rfl rfl ?_
  refine xr_get C K_En 1 d_En_tell_30 33 rfl q_713 (Or.inl rfl) rfl (by first | assumption | exact xup_self | exact (xup_ne (by assumption)).trans (by assumption) | exact (xup_ne (Ne.symm (by assumption))).trans (by assumption) | exact (xup_ne (by assumption)).trans xup_self | exact (xup_ne (Ne.symm (by assumption))).trans xup_self) rfl ?_
  refine xr_callV C (c_Ro_addAll h4 k3 k7 g1 (by omega)) k_Ro_addAll d_En_tell_33 36 rfl (by first | assumption | exact xup_self | exact (xup_ne (by assumption)).trans (by assumption) | exact (xup_ne (Ne.symm (by assumption))).trans (by assumption) | exact (xup_ne (by assumption)).trans xup_self | exact (xup_ne (Ne.symm (by assumption))).trans xup_self) rfl (Or.inl q_836) v_Ro_addAll e_Ro_addAll h_Ro_addAll rfl ⟨Nat.le_of_ble_eq_true rfl, Nat.le_of_ble_eq_true rfl, Nat.le_of_ble_eq_true rfl⟩ (by omega) (by omega) (fun v9 X' hP => ?_) (fun _ _ h => absurd h.1 (by simp))
  obtain ⟨e1, e2⟩ := hP
  cases e1
  replace hA := xAdd.then h5 h6 e2
  replace hT := g2
  refine xG.wide (c2 := d1 - cap) (s2 := 2 * (d1 - cap)) (by omega) (by omega) ?_
  replace hcd : cap ≤ d1 := by omega
  clear g1 g2 g3 h4 h5 h6 hr1 hcp e2
  clear hI1 k1 k2 k3 k5 k6 k7
  have e9 : d1 = d := by
    obtain ⟨b1, h4, h5, h6⟩ := hA
    have := h4.cap
    simp only [List.length_append, num_len] at this
    exact (hT.fit (by omega)).symm
  subst e9
  refine xr_vret C d_En_tell_36 (by omega) (by omega) ⟨rfl, ?_⟩
  rw [show bs ++ tellE e = bs ++ num (nI e.1.length) 1 ++ num (nI e.2.length) 2 ++ e.1 ++ e.2 by unfold tellE; simp only [List.append_assoc]]
  exact hA
end
section
/-! The map: looking for keys. -/
def eD (es : List Es) (i : Nat) : Es := es.getD i ([], [])
def fnb : List Es → List Int32 → Nat
  | [], _ => 0
  | e :: es, k => if bl e.1 k = true then fnb es k + 1 else 0
theorem fnb_le (k : List Int32) : ∀ es : List Es, fnb es k ≤ es.length
  | [] => Nat.le_refl _
  | e :: es => by
    have := fnb_le k es
    unfold fnb
    rw [List.length_cons]
    split <;> omega
theorem fnb_at {k : List Int32} : ∀ {es : List Es} {i : Nat}, i ≤ es.length → (∀ j, j < i → bl (eD es j).1 k = true) → (i < es.length → bl (eD es i).1 k = false) → fnb es k = i
  | [], i, hi, _, _ => by
    rw [List.length_nil] at hi
    show 0 = i
    omega
  | e :: es, 0, _, _, h => by
    have h1 : bl e.1 k = false := h (Nat.succ_pos _)
    unfold fnb
    rw [h1]
    rfl
  | e :: es, i + 1, hi, ha, h => by
    have h0 : bl e.1 k = true := ha 0 (Nat.succ_pos _)
    have ih := fnb_at (k := k) (es := es) (i := i) (by rw [List.length_cons] at hi; omega) (fun j hj => ha (j + 1) (by omega)) (fun hl => h (by rw [List.length_cons]; omega))
    unfold fnb
    rw [if_pos h0, ih]
def okE (e : Es) : Prop := 1 ≤ e.1.length ∧ e.1.length ≤ 32 ∧ e.2.length ≤ 100
def uns (es : List Es) : Nat := (es.map un).sum
def imEs (I : Nat → Option Imm) (as : List Nat) (es : List Es) : Prop := as.length = es.length ∧ ∀ i, i < as.length → imE I (as.getD i 0) (eD es i)
def okM (es : List Es) : Prop := es.length ≤ 128 ∧ uns es ≤ 700 ∧ ∀ e ∈ es, okE e
/-- a map at mp: its list at l, the list's array at b -/
def xMap (D : va_G) (X : xH) (I : Nat → Option Imm) (mp l b cap : Nat) (as : List Nat) (es : List Es) : Prop := X mp = some (.inr (2, [.ref l, .int (nI (uns es))])) ∧ xLi D X l b cap as ∧ imEs I as es ∧ okM es
theorem eD_mem {es : List Es} {i : Nat} (h : i < es.length) : eD es i ∈ es := by
  unfold eD
  rw [List.getD_eq_getElem?_getD, List.getElem?_eq_getElem h]
  exact List.getElem_mem h
theorem imEs.le {I I' : Nat → Option Imm} {as : List Nat} {es : List Es} (h : imEs I as es) (hl : imLe I I') : imEs I' as es := ⟨h.1, fun i hi => (h.2 i hi).le hl⟩
theorem mem_getD {as : List Nat} {q : Nat} (h : q ∈ as) : ∃ i, i < as.length ∧ as.getD i 0 = q := by
  obtain ⟨i, hi, e⟩ := List.getElem_of_mem h
  exact ⟨i, hi, by rw [List.getD_eq_getElem?_getD, List.getElem?_eq_getElem hi]; exact e⟩
theorem imEs.ob {D : va_G} {X : xH} {I : Nat → Option Imm} {as : List Nat} {es : List Es} (h : imEs I as es) (hI : xIm D X I) : ∀ q ∈ as, xOb X q := fun q hq => by
  obtain ⟨i, hi, rfl⟩ := mem_getD hq
  exact (h.2 i hi).ob hI
theorem xLi.ob {D : va_G} {X : xH} {a b cap : Nat} {as : List Nat} (h : xLi D X a b cap as) : ∃ vs, X a = some (.inr (7, vs)) := by
  obtain ⟨mo, f, h1, -⟩ := h
  exact ⟨_, h1⟩
theorem xMap.keep {D : va_G} {X X' : xH} {I : Nat → Option Imm} {S : List Nat} {mp l b cap : Nat} {as : List Nat} {es : List Es} (h : xMap D X I mp l b cap as es) (hf : xFr S X X') (h1 : mp ∉ S) (h2 : l ∉ S) (h3 : b ∉ S) : xMap D X' I mp l b cap as es := ⟨hf.use h.1 h1, h.2.1.keep hf h2 h3, h.2.2⟩
theorem xLi.ar {D : va_G} {X : xH} {a b cap : Nat} {as : List Nat} (h : xLi D X a b cap as) : ∃ f, X b = some (.inl (D.1 101, cap, .inr (.inr (.inr (.inr f))))) := by
  obtain ⟨mo, f, h1, h2, -⟩ := h
  exact ⟨f, h2⟩
theorem xkd {c c' : ClassId} {n n' : Nat} {f : Nat → Int32} {p : (Nat → Int64) ⊕ (Nat → UInt32) ⊕ (Nat → UInt64) ⊕ (Nat → Option Nat)} : (Sum.inl (c, n, Sum.inr p) : va_E) ≠ Sum.inl (c', n', Sum.inl f) := fun h => by
  have h1 := (Prod.ext_iff.mp (Prod.ext_iff.mp (Sum.inl.inj h)).2).2
  cases h1
/-- a row's cells are none of a map's -/
theorem xMap.keepR {D : va_G} {X X' : xH} {I : Nat → Option Imm} {r br rc : Nat} {bs : List Int32} {mp l b cap : Nat} {as : List Nat} {es : List Es} (h : xMap D X I mp l b cap as es) (hR : xRow D X r br rc bs) (hf : xFr [r, br] X X') : xMap D X' I mp l b cap as es := by
  obtain ⟨vs, hl⟩ := h.2.1.ob
  obtain ⟨f, hb⟩ := h.2.1.ar
  obtain ⟨g, hr⟩ := hR.arr
  refine h.keep hf ?_ ?_ ?_
  · simp only [List.mem_cons, List.not_mem_nil, or_false, not_or]
    exact ⟨xne h.1 hR.at (by intro h; cases h), xne h.1 hr (by intro h; cases h)⟩
  · simp only [List.mem_cons, List.not_mem_nil, or_false, not_or]
    exact ⟨xne hl hR.at (by intro h; cases h), xne hl hr (by intro h; cases h)⟩
  · simp only [List.mem_cons, List.not_mem_nil, or_false, not_or]
    exact ⟨xne hb hR.at (by intro h; cases h), xne hb hr xkd⟩
def hasK (es : List Es) (k : List Int32) : Prop := fnb es k < es.length ∧ (eD es (fnb es k)).1 = k
def ixK (es : List Es) (k : List Int32) : Int32 := if fnb es k < es.length ∧ (eD es (fnb es k)).1 = k then nI (fnb es k) else -1
set_option maxRecDepth 100000 in
set_option maxHeartbeats 4000000 in
theorem c_KM_firstNotBelow {l : Launch} {D : va_G} {H0 : Heap} {X : xH} {mp la b cap : Nat} {as : List Nat} {es : List Es} {I : Nat → Option Imm} (hI : xIm D X I) (hM : xMap D X I mp la b cap as es) {kq : Nat} {key : List Int32} (hk : xBy D X kq key) : xMet l D H0 y_KM_firstNotBelow b_KM_firstNotBelow 3 (some .int) [] 3 0 0 [.ref mp, .ref kq] X (fun o X' => o = .inl (some (.int (nI (fnb es key)))) ∧ X' = X) := by
  obtain ⟨hmp, hL, hE, hok⟩ := hM
  obtain ⟨vl, hl⟩ := hL.ob
  have hlen := hE.1
  have hle := hL.len
  refine ⟨[some (.ref mp), some (.ref kq), none], rfl, Nat.le_of_ble_eq_true rfl, fun E hD hH hl _ C => ?_⟩
  subst hD
  subst hH
  subst hl
  have loop : ∀ (k i : Nat), i + k = es.length → (∀ j, j < i → bl (eD es j).1 key = true) → xG E X 0 0 2 [some (.ref mp), some (.ref kq), some (.int (nI i))] [] := by
    intro k
    induction k with
    | zero =>
      intro i hi h1
      have e : i = es.length := by omega
      refine xr_iload_n C d_KM_firstNotBelow_2 3 rfl rfl ?_
      refine xr_aload_n C d_KM_firstNotBelow_3 4 rfl rfl ?_
      refine xr_get C K_KM 0 d_KM_firstNotBelow_4 7 rfl q_77 (Or.inl rfl) rfl (by first | assumption | exact xup_self | exact (xup_ne (by assumption)).trans (by assumption) | exact (xup_ne (Ne.symm (by assumption))).trans (by assumption) | exact (xup_ne (by assumption)).trans xup_self | exact (xup_ne (Ne.symm (by assumption))).trans xup_self) rfl ?_
      refine xr_callV C (l_size hL) k_AL_size d_KM_firstNotBelow_7 10 rfl (by first | assumption | exact xup_self | exact (xup_ne (by assumption)).trans (by assumption) | exact (xup_ne (Ne.symm (by assumption))).trans (by assumption) | exact (xup_ne (by assumption)).trans xup_self | exact (xup_ne (Ne.symm (by assumption))).trans xup_self) rfl (Or.inl q_689) v_AL_size e_AL_size h_AL_size rfl ⟨Nat.le_of_ble_eq_true rfl, Nat.le_of_ble_eq_true rfl, Nat.le_of_ble_eq_true rfl⟩ (by omega) (by omega) (fun v9 X hP => ?_) (fun _ _ h => absurd h.1 (by simp))
      obtain ⟨h1, rfl⟩ := hP
      cases h1
      refine xr_icmp_ge C d_KM_firstNotBelow_10 13 42 rfl (by decide) (fun _ => ?_) (fun h => absurd (nI_le (show as.length ≤ i by omega) (by omega)) h)
      refine xr_aload_n C d_KM_firstNotBelow_42 43 rfl rfl ?_
      refine xr_get C K_KM 0 d_KM_firstNotBelow_43 46 rfl q_77 (Or.inl rfl) rfl (by first | assumption | exact xup_self | exact (xup_ne (by assumption)).trans (by assumption) | exact (xup_ne (Ne.symm (by assumption))).trans (by assumption) | exact (xup_ne (by assumption)).trans xup_self | exact (xup_ne (Ne.symm (by assumption))).trans xup_self) rfl ?_
      refine xr_callV C (l_size hL) k_AL_size d_KM_firstNotBelow_46 49 rfl (by first | assumption | exact xup_self | exact (xup_ne (by assumption)).trans (by assumption) | exact (xup_ne (Ne.symm (by assumption))).trans (by assumption) | exact (xup_ne (by assumption)).trans xup_self | exact (xup_ne (Ne.symm (by assumption))).trans xup_self) rfl (Or.inl q_689) v_AL_size e_AL_size h_AL_size rfl ⟨Nat.le_of_ble_eq_true rfl, Nat.le_of_ble_eq_true rfl, Nat.le_of_ble_eq_true rfl⟩ (by omega) (by omega) (fun v9 X hP => ?_) (fun _ _ h => absurd h.1 (by simp))
      obtain ⟨h1, rfl⟩ := hP
      cases h1
      exact xr_iret C d_KM_firstNotBelow_49 (by omega) (by omega) ⟨by rw [fnb_at (i := i) (by omega) h1 (fun h => absurd h (by omega)), hlen, e], rfl⟩
    | succ k ih =>
      intro i hi h1
      have i1 : i < as.length := by omega
      obtain ⟨p, q, k1, k2, k3, -⟩ := (hE.2 i i1).use hI
      refine xr_iload_n C d_KM_firstNotBelow_2 3 rfl rfl ?_
      refine xr_aload_n C d_KM_firstNotBelow_3 4 rfl rfl ?_
      refine xr_get C K_KM 0 d_KM_firstNotBelow_4 7 rfl q_77 (Or.inl rfl) rfl (by first | assumption | exact xup_self | exact (xup_ne (by assumption)).trans (by assumption) | exact (xup_ne (Ne.symm (by assumption))).trans (by assumption) | exact (xup_ne (by assumption)).trans xup_self | exact (xup_ne (Ne.symm (by assumption))).trans xup_self) rfl ?_
      refine xr_callV C (l_size hL) k_AL_size d_KM_firstNotBelow_7 10 rfl (by first | assumption | exact xup_self | exact (xup_ne (by assumption)).trans (by assumption) | exact (xup_ne (Ne.symm (by assumption))).trans (by assumption) | exact (xup_ne (by assumption)).trans xup_self | exact (xup_ne (Ne.symm (by assumption))).trans xup_self) rfl (Or.inl q_689) v_AL_size e_AL_size h_AL_size rfl ⟨Nat.le_of_ble_eq_true rfl, Nat.le_of_ble_eq_true rfl, Nat.le_of_ble_eq_true rfl⟩ (by omega) (by omega) (fun v9 X hP => ?_) (fun _ _ h => absurd h.1 (by simp))
      obtain ⟨h1, rfl⟩ := hP
      cases h1
      refine xr_icmp_ge C d_KM_firstNotBelow_10 13 42 rfl (by decide) (fun h => absurd h (nI_ge i1 (by omega))) (fun _ => ?_)
      refine xr_aload_n C d_KM_firstNotBelow_13 14 rfl rfl ?_
      refine xr_get C K_KM 0 d_KM_firstNotBelow_14 17 rfl q_77 (Or.inl rfl) rfl (by first | assumption | exact xup_self | exact (xup_ne (by assumption)).trans (by assumption) | exact (xup_ne (Ne.symm (by assumption))).trans (by assumption) | exact (xup_ne (by assumption)).trans xup_self | exact (xup_ne (Ne.symm (by assumption))).trans xup_self) rfl ?_
      refine xr_iload_n C d_KM_firstNotBelow_17 18 rfl rfl ?_
      refine xr_callV C (l_get hL i1) k_AL_get d_KM_firstNotBelow_18 21 rfl (by first | assumption | exact xup_self | exact (xup_ne (by assumption)).trans (by assumption) | exact (xup_ne (Ne.symm (by assumption))).trans (by assumption) | exact (xup_ne (by assumption)).trans xup_self | exact (xup_ne (Ne.symm (by assumption))).trans xup_self) rfl (Or.inl q_690) v_AL_get e_AL_get h_AL_get rfl ⟨Nat.le_of_ble_eq_true rfl, Nat.le_of_ble_eq_true rfl, Nat.le_of_ble_eq_true rfl⟩ (by omega) (by omega) (fun v9 X hP => ?_) (fun _ _ h => absurd h.1 (by simp))
      obtain ⟨h1, rfl⟩ := hP
      cases h1
      refine xr_cast C d_KM_firstNotBelow_21 24 rfl k1 rfl q_691 ?_
      refine xr_get C K_En 0 d_KM_firstNotBelow_24 27 rfl q_711 (Or.inl rfl) rfl (by first | assumption | exact xup_self | exact (xup_ne (by assumption)).trans (by assumption) | exact (xup_ne (Ne.symm (by assumption))).trans (by assumption) | exact (xup_ne (by assumption)).trans xup_self | exact (xup_ne (Ne.symm (by assumption))).trans xup_self) rfl ?_
      refine xr_aload_n C d_KM_firstNotBelow_27 28 rfl rfl ?_
      refine xr_callS C (c_TK_compare k2 hk) k_TK_compare d_KM_firstNotBelow_28 31 rfl (Or.inr ⟨_, q_692⟩) s_TK_compare in_TK_compare h_TK_compare rfl ⟨Nat.le_of_ble_eq_true rfl, Nat.le_of_ble_eq_true rfl, Nat.le_of_ble_eq_true rfl⟩ (by omega) (by omega) (fun v9 X hP => ?_) (fun _ _ h => by obtain ⟨v, h, -⟩ := h; cases h)
      obtain ⟨v, h1, rfl, c1, c2⟩ := hP
      cases h1
      refine xr_if_lt C d_KM_firstNotBelow_31 34 36 rfl (by decide) (fun j31 => ?_) (fun j31 => ?_)
      · refine xr_iinc (v := 1) C d_KM_firstNotBelow_36 39 rfl rfl rfl rfl (by decide) ?_
        refine xr_goto C d_KM_firstNotBelow_39 2 (by decide) ?_
        refine xG.eqL (show _ = [some (Value.ref mp), some (Value.ref kq), some (Value.int (nI (i + 1)))] by rw [← nI_one]; rfl) ?_
        refine ih (i + 1) (by omega) (fun j hj => ?_)
        by_cases e : j = i
        · rw [e]
          exact c2.mp j31
        · exact h1 j (by omega)
      · refine xr_iload_n C d_KM_firstNotBelow_34 35 rfl rfl ?_
        exact xr_iret C d_KM_firstNotBelow_35 (by omega) (by omega) ⟨by rw [fnb_at (i := i) (by omega) h1 (fun _ => by cases hb : bl (eD es i).1 key with | false => rfl | true => exact absurd (c2.mpr hb) j31)], rfl⟩
  refine xr_iconst (v := 0) C d_KM_firstNotBelow_0 1 rfl (by decide) ?_
  refine xr_istore_n C d_KM_firstNotBelow_1 2 rfl rfl rfl ?_
  exact loop es.length 0 (by omega) (fun j hj => absurd hj (Nat.not_lt_zero _))
set_option maxRecDepth 100000 in
set_option maxHeartbeats 4000000 in
theorem c_KM_isAt {l : Launch} {D : va_G} {H0 : Heap} {X : xH} {mp la b cap : Nat} {as : List Nat} {es : List Es} {I : Nat → Option Imm} (hI : xIm D X I) (hM : xMap D X I mp la b cap as es) {kq j : Nat} {key : List Int32} (hk : xBy D X kq key) (hj : j ≤ 1000) : xMet l D H0 y_KM_isAt b_KM_isAt 3 (some .boolean) [] 3 0 0 [.ref mp, .int (nI j), .ref kq] X (fun o X' => o = .inl (some (.int (if j < es.length ∧ (eD es j).1 = key then 1 else 0))) ∧ X' = X) := by
  obtain ⟨hmp, hL, hE, hok⟩ := hM
  obtain ⟨vl, hl⟩ := hL.ob
  have hlen := hE.1
  have hle := hL.len
  refine ⟨[some (.ref mp), some (.int (nI j)), some (.ref kq)], rfl, Nat.le_of_ble_eq_true rfl, fun E hD hH hl _ C => ?_⟩
  subst hD
  subst hH
  subst hl
  have no : ¬ (j < es.length ∧ (eD es j).1 = key) → xG E X 0 0 36 [some (.ref mp), some (.int (nI j)), some (.ref kq)] [] := by
    intro h
    refine xr_iconst (v := 0) C d_KM_isAt_36 37 rfl (by decide) ?_
    exact xr_zret C d_KM_isAt_37 rfl (by omega) (by omega) ⟨by rw [if_neg h], rfl⟩
  refine xr_iload_n C d_KM_isAt_0 1 rfl rfl ?_
  refine xr_aload_n C d_KM_isAt_1 2 rfl rfl ?_
  refine xr_get C K_KM 0 d_KM_isAt_2 5 rfl q_77 (Or.inl rfl) rfl (by first | assumption | exact xup_self | exact (xup_ne (by assumption)).trans (by assumption) | exact (xup_ne (Ne.symm (by assumption))).trans (by assumption) | exact (xup_ne (by assumption)).trans xup_self | exact (xup_ne (Ne.symm (by assumption))).trans xup_self) rfl ?_
  refine xr_callV C (l_size hL) k_AL_size d_KM_isAt_5 8 rfl (by first | assumption | exact xup_self | exact (xup_ne (by assumption)).trans (by assumption) | exact (xup_ne (Ne.symm (by assumption))).trans (by assumption) | exact (xup_ne (by assumption)).trans xup_self | exact (xup_ne (Ne.symm (by assumption))).trans xup_self) rfl (Or.inl q_689) v_AL_size e_AL_size h_AL_size rfl ⟨Nat.le_of_ble_eq_true rfl, Nat.le_of_ble_eq_true rfl, Nat.le_of_ble_eq_true rfl⟩ (by omega) (by omega) (fun v9 X hP => ?_) (fun _ _ h => absurd h.1 (by simp))
  obtain ⟨h1, rfl⟩ := hP
  cases h1
  refine xr_icmp_ge C d_KM_isAt_8 11 36 rfl (by decide) (fun h => no (fun q => nI_ge (show j < as.length by omega) (by omega) h)) (fun h8 => ?_)
  have i1 : j < as.length := by
    rcases Nat.lt_or_ge j as.length with h | h
    · exact h
    · exact absurd (nI_le h (by omega)) h8
  obtain ⟨p, q, k1, k2, k3, -⟩ := (hE.2 j i1).use hI
  refine xr_aload_n C d_KM_isAt_11 12 rfl rfl ?_
  refine xr_get C K_KM 0 d_KM_isAt_12 15 rfl q_77 (Or.inl rfl) rfl (by first | assumption | exact xup_self | exact (xup_ne (by assumption)).trans (by assumption) | exact (xup_ne (Ne.symm (by assumption))).trans (by assumption) | exact (xup_ne (by assumption)).trans xup_self | exact (xup_ne (Ne.symm (by assumption))).trans xup_self) rfl ?_
  refine xr_iload_n C d_KM_isAt_15 16 rfl rfl ?_
  refine xr_callV C (l_get hL i1) k_AL_get d_KM_isAt_16 19 rfl (by first | assumption | exact xup_self | exact (xup_ne (by assumption)).trans (by assumption) | exact (xup_ne (Ne.symm (by assumption))).trans (by assumption) | exact (xup_ne (by assumption)).trans xup_self | exact (xup_ne (Ne.symm (by assumption))).trans xup_self) rfl (Or.inl q_690) v_AL_get e_AL_get h_AL_get rfl ⟨Nat.le_of_ble_eq_true rfl, Nat.le_of_ble_eq_true rfl, Nat.le_of_ble_eq_true rfl⟩ (by omega) (by omega) (fun v9 X hP => ?_) (fun _ _ h => absurd h.1 (by simp))
  obtain ⟨h1, rfl⟩ := hP
  cases h1
  refine xr_cast C d_KM_isAt_19 22 rfl k1 rfl q_691 ?_
  refine xr_get C K_En 0 d_KM_isAt_22 25 rfl q_711 (Or.inl rfl) rfl (by first | assumption | exact xup_self | exact (xup_ne (by assumption)).trans (by assumption) | exact (xup_ne (Ne.symm (by assumption))).trans (by assumption) | exact (xup_ne (by assumption)).trans xup_self | exact (xup_ne (Ne.symm (by assumption))).trans xup_self) rfl ?_
  refine xr_aload_n C d_KM_isAt_25 26 rfl rfl ?_
  refine xr_callS C (c_TK_compare k2 hk) k_TK_compare d_KM_isAt_26 29 rfl (Or.inr ⟨_, q_692⟩) s_TK_compare in_TK_compare h_TK_compare rfl ⟨Nat.le_of_ble_eq_true rfl, Nat.le_of_ble_eq_true rfl, Nat.le_of_ble_eq_true rfl⟩ (by omega) (by omega) (fun v9 X hP => ?_) (fun _ _ h => by obtain ⟨v, h, -⟩ := h; cases h)
  obtain ⟨v, h1, rfl, c1, c2⟩ := hP
  cases h1
  refine xr_if_ne C d_KM_isAt_29 32 36 rfl (by decide) (fun j5 => no (fun q => j5 (c1.mpr q.2))) (fun j5 => ?_)
  refine xr_iconst (v := 1) C d_KM_isAt_32 33 rfl (by decide) ?_
  refine xr_goto C d_KM_isAt_33 37 (by decide) ?_
  exact xr_zret C d_KM_isAt_37 rfl (by omega) (by omega) ⟨by rw [if_pos ⟨by omega, c1.mp j5⟩], rfl⟩
set_option maxRecDepth 100000 in
set_option maxHeartbeats 4000000 in
theorem c_KM_indexOf {l : Launch} {D : va_G} {H0 : Heap} {X : xH} {mp la b cap : Nat} {as : List Nat} {es : List Es} {I : Nat → Option Imm} (hI : xIm D X I) (hM : xMap D X I mp la b cap as es) {kq : Nat} {key : List Int32} (hk : xBy D X kq key) : xMet l D H0 y_KM_indexOf b_KM_indexOf 3 (some .int) [] 4 0 0 [.ref mp, .ref kq] X (fun o X' => o = .inl (some (.int (ixK es key))) ∧ X' = X) := by
  have hmp := hM.1
  have hfl := fnb_le key es
  have hok := hM.2.2.2.1
  refine ⟨[some (.ref mp), some (.ref kq), none], rfl, Nat.le_of_ble_eq_true rfl, fun E hD hH hl _ C => ?_⟩
  subst hD
  subst hH
  subst hl
  refine xr_aload_n C d_KM_indexOf_0 1 rfl rfl ?_
  refine xr_aload_n C d_KM_indexOf_1 2 rfl rfl ?_
  refine xr_callV C (c_KM_firstNotBelow hI hM hk) k_KM_firstNotBelow d_KM_indexOf_2 5 rfl (by first | assumption | exact xup_self | exact (xup_ne (by assumption)).trans (by assumption) | exact (xup_ne (Ne.symm (by assumption))).trans (by assumption) | exact (xup_ne (by assumption)).trans xup_self | exact (xup_ne (Ne.symm (by assumption))).trans xup_self) rfl (Or.inl q_685) v_KM_firstNotBelow e_KM_firstNotBelow h_KM_firstNotBelow rfl ⟨Nat.le_of_ble_eq_true rfl, Nat.le_of_ble_eq_true rfl, Nat.le_of_ble_eq_true rfl⟩ (by omega) (by omega) (fun v9 X hP => ?_) (fun _ _ h => absurd h.1 (by simp))
  obtain ⟨h1, rfl⟩ := hP
  cases h1
  refine xr_istore_n C d_KM_indexOf_5 6 rfl rfl rfl ?_
  refine xr_aload_n C d_KM_indexOf_6 7 rfl rfl ?_
  refine xr_iload_n C d_KM_indexOf_7 8 rfl rfl ?_
  refine xr_aload_n C d_KM_indexOf_8 9 rfl rfl ?_
  refine xr_callV C (c_KM_isAt hI hM hk (by omega)) k_KM_isAt d_KM_indexOf_9 12 rfl (by first | assumption | exact xup_self | exact (xup_ne (by assumption)).trans (by assumption) | exact (xup_ne (Ne.symm (by assumption))).trans (by assumption) | exact (xup_ne (by assumption)).trans xup_self | exact (xup_ne (Ne.symm (by assumption))).trans xup_self) rfl (Or.inl q_696) v_KM_isAt e_KM_isAt h_KM_isAt rfl ⟨Nat.le_of_ble_eq_true rfl, Nat.le_of_ble_eq_true rfl, Nat.le_of_ble_eq_true rfl⟩ (by omega) (by omega) (fun v9 X hP => ?_) (fun _ _ h => absurd h.1 (by simp))
  obtain ⟨h1, rfl⟩ := hP
  cases h1
  by_cases hc : fnb es key < es.length ∧ (eD es (fnb es key)).1 = key
  · refine xr_toi (if_pos hc) ?_
    refine xr_if_eq C d_KM_indexOf_12 15 19 rfl (by decide) (fun h => absurd h (by decide)) (fun _ => ?_)
    refine xr_iload_n C d_KM_indexOf_15 16 rfl rfl ?_
    refine xr_goto C d_KM_indexOf_16 20 (by decide) ?_
    exact xr_iret C d_KM_indexOf_20 (by omega) (by omega) ⟨by unfold ixK; rw [if_pos hc], rfl⟩
  · refine xr_toi (if_neg hc) ?_
    refine xr_if_eq C d_KM_indexOf_12 15 19 rfl (by decide) (fun _ => ?_) (fun h => absurd rfl h)
    refine xr_iconst (v := (-1)) C d_KM_indexOf_19 20 rfl (by decide) ?_
    exact xr_iret C d_KM_indexOf_20 (by omega) (by omega) ⟨by unfold ixK; rw [if_neg hc], rfl⟩
end
section
/-! The map: its answers. -/
theorem xRow.ge {D : va_G} {X : xH} {r b cap : Nat} {bs : List Int32} (h : xRow D X r b cap bs) : 256 ≤ cap := by
  obtain ⟨f, -, -, h1, -, -, h4, h5⟩ := h
  exact h4
/-- a row with more in it, all else as it was -/
def xRs (D : va_G) (X X' : xH) (I : Nat → Option Imm) (r br rc : Nat) (bs : List Int32) : Prop := ∃ br' : Nat, xRow D X' r br' rc bs ∧ I br' = none ∧ xIm D X' I ∧ xFr [r, br] X X' ∧ (br' = br ∨ X br' = none)
theorem xFr.fr {S S' : List Nat} {X X1 X2 : xH} (h1 : xFr S X X1) (h2 : xFr S' X1 X2) (h : ∀ q ∈ S', q ∈ S ∨ X q = none) : xFr S X X2 := ⟨fun q v hq hn => by
  refine h2.1 q v (h1.1 q v hq hn) (hn.imp (fun hs hm => ?_) id)
  rcases h q hm with e | e
  · exact hs e
  · rw [e] at hq
    exact absurd hq (by simp), fun q hq => h1.2 q (h2.2 q hq)⟩
theorem xRs.then {D : va_G} {X X1 X2 : xH} {I : Nat → Option Imm} {r br b1 rc : Nat} {bs2 : List Int32} (hf : xFr [r, br] X X1) (hb : b1 = br ∨ X b1 = none) (h2 : xRs D X1 X2 I r b1 rc bs2) : xRs D X X2 I r br rc bs2 := by
  obtain ⟨b2, a1, a2, a3, a4, a5⟩ := h2
  refine ⟨b2, a1, a2, a3, hf.fr a4 (fun q hq => ?_), ?_⟩
  · rcases List.mem_cons.mp hq with e | e
    · exact Or.inl (by rw [e]; simp)
    · rw [show q = b1 by simpa using e]
      exact hb.imp (fun e => by rw [e]; simp) id
  · rcases a5 with e | e
    · rw [e]
      exact hb
    · exact Or.inr (hf.2 _ e)
def imX (X : xH) (I I' : Nat → Option Imm) : Prop := imLe I I' ∧ ∀ q c, X q = some c → I q = none → I' q = none
theorem imX.rf {X : xH} {I : Nat → Option Imm} : imX X I I := ⟨imLe.rf, fun _ _ _ h => h⟩
theorem imX.trans {X X1 : xH} {S : List Nat} {I I1 I2 : Nat → Option Imm} (h1 : imX X I I1) (hf : ∀ q c, X q = some c → ∃ c', X1 q = some c') (h2 : imX X1 I1 I2) : imX X I I2 := ⟨h1.1.trans h2.1, fun q c hq hi => by
  obtain ⟨c', hc'⟩ := hf q c hq
  exact h2.2 q c' hc' (h1.2 q c hq hi)⟩
theorem imX_up {D : va_G} {X : xH} {I : Nat → Option Imm} {q : Nat} {v : Imm} (hI : xIm D X I) (hq : X q = none) : imX X I (imUp I q v) := ⟨imUp_le (hI.non hq), fun p c hp hi => by
  rw [imUp_ne (fun e => by rw [e, hq] at hp; cases hp)]
  exact hi⟩
theorem xFr.dom {S : List Nat} {X X' : xH} (h : xFr S X X') : ∀ q c, X q = some c → ∃ c', X' q = some c' := fun q c hq => by
  cases e : X' q with
  | none =>
    rw [h.2 q e] at hq
    cases hq
  | some c' => exact ⟨c', rfl⟩
/-- a map after a change -/
def xMs (D : va_G) (X X' : xH) (I : Nat → Option Imm) (mp la b cap : Nat) (es' : List Es) : Prop := ∃ (I' : Nat → Option Imm) (b' cap' : Nat) (as' : List Nat), imX X I I' ∧ xIm D X' I' ∧ xMap D X' I' mp la b' cap' as' es' ∧ xFr [mp, la, b] X X' ∧ (b' = b ∨ X b' = none) ∧ cap ≤ cap'
/-- a map after a change, and a row with the answer -/
def xQ (D : va_G) (X X' : xH) (I : Nat → Option Imm) (r br rc mp la b cap : Nat) (es' : List Es) (ans : List Int32) : Prop := ∃ (I' : Nat → Option Imm) (b' cap' : Nat) (as' : List Nat) (br' : Nat), imX X I I' ∧ xIm D X' I' ∧ xMap D X' I' mp la b' cap' as' es' ∧ xRow D X' r br' rc ans ∧ I' br' = none ∧ xFr [mp, la, b, r, br] X X' ∧ (b' = b ∨ X b' = none) ∧ (br' = br ∨ X br' = none) ∧ cap ≤ cap'
theorem xRow.keepM {D : va_G} {X X' : xH} {I : Nat → Option Imm} {r br rc : Nat} {bs : List Int32} {mp l b cap : Nat} {as : List Nat} {es : List Es} (hR : xRow D X r br rc bs) (h : xMap D X I mp l b cap as es) (hf : xFr [mp, l, b] X X') : xRow D X' r br rc bs := by
  obtain ⟨vs, hl⟩ := h.2.1.ob
  obtain ⟨f, hb⟩ := h.2.1.ar
  obtain ⟨g, hr⟩ := hR.arr
  refine hR.keep hf ?_ ?_
  · simp only [List.mem_cons, List.not_mem_nil, or_false, not_or]
    exact ⟨xne hR.at h.1 (by intro h; cases h), xne hR.at hl (by intro h; cases h), xne hR.at hb (by intro h; cases h)⟩
  · simp only [List.mem_cons, List.not_mem_nil, or_false, not_or]
    exact ⟨xne hr h.1 (by intro h; cases h), xne hr hl (by intro h; cases h), (xne hb hr xkd).symm⟩
theorem xQ_mk {D : va_G} {X X1 X2 : xH} {I I1 : Nat → Option Imm} {r br rc mp la b cap b1 cap1 : Nat} {as1 : List Nat} {es1 : List Es} {bs ans : List Int32} (m1 : imX X I I1) (m3 : xMap D X1 I1 mp la b1 cap1 as1 es1) (m4 : xFr [mp, la, b] X X1) (m5 : b1 = b ∨ X b1 = none) (m6 : cap ≤ cap1) (hR1 : xRow D X1 r br rc bs) (h : xRs D X1 X2 I1 r br rc ans) : xQ D X X2 I r br rc mp la b cap es1 ans := by
  obtain ⟨br', a1, a2, a3, a4, a5⟩ := h
  refine ⟨I1, b1, cap1, as1, br', m1, a3, m3.keepR hR1 a4, a1, a2, (m4.mono ?_).trans (a4.mono ?_), m5, a5.imp id (fun e => m4.2 _ e), m6⟩
  · intro q hq
    simp only [List.mem_cons, List.not_mem_nil, or_false] at hq ⊢
    rcases hq with e | e | e
    · exact Or.inl e
    · exact Or.inr (Or.inl e)
    · exact Or.inr (Or.inr (Or.inl e))
  · intro q hq
    simp only [List.mem_cons, List.not_mem_nil, or_false] at hq ⊢
    exact Or.inr (Or.inr (Or.inr hq))
theorem xRs.q {D : va_G} {X X2 : xH} {I : Nat → Option Imm} {r br rc mp la b cap : Nat} {as : List Nat} {es : List Es} {bs ans : List Int32} (h : xRs D X X2 I r br rc ans) (m3 : xMap D X I mp la b cap as es) (hR : xRow D X r br rc bs) : xQ D X X2 I r br rc mp la b cap es ans := xQ_mk imX.rf m3 xFr.rf (Or.inl rfl) (Nat.le_refl _) hR h
theorem xAdd.rs {D : va_G} {X X' : xH} {I : Nat → Option Imm} {r b d : Nat} {bs : List Int32} (h : xAdd D X X' r b d bs) (hI : xIm D X I) (hr : I r = none) (hb : I b = none) : xRs D X X' I r b d bs := by
  obtain ⟨h7, b1, h8, h9⟩ := h.im hI hr hb
  obtain ⟨b', h1, h2, h3⟩ := h
  exact ⟨b', h1, h3.elim (fun e => by rw [e]; exact hb) (fun e => hI.non e), h7, h2, h3⟩
theorem xBy.ne {D : va_G} {X : xH} {I : Nat → Option Imm} {q b : Nat} {bs : List Int32} (h : I q = some (.inl bs)) (hb : I b = none) : q ≠ b := fun e => by
  rw [e, hb] at h
  cases h
set_option maxRecDepth 100000 in
set_option maxHeartbeats 4000000 in
theorem n_addNumber {l : Launch} {D : va_G} {H0 : Heap} {X : xH} {r br rc : Nat} {bs : List Int32} {I : Nat → Option Imm} (hI : xIm D X I) (hR : xRow D X r br rc bs) (hb : I br = none) {v : Int32} {n : Nat} (hn : n ≤ 4) (hfit : bs.length + n ≤ rc) : xMet l D H0 y_Ro_addNumber b_Ro_addNumber 4 none [] 2 0 0 [.ref r, .int v, .int (nI n)] X (fun o X' => o = .inl none ∧ xRs D X X' I r br rc (bs ++ num v n)) := by
  have h := c_Ro_addNumber (l := l) (H0 := H0) (v := v) hR hn (isR.rf hfit) hR.cap.2.1
  rw [Nat.sub_self] at h
  exact h.mono (fun r X' hP => ⟨hP.1, hP.2.rs hI (hR.nob hI) hb⟩)
set_option maxRecDepth 100000 in
set_option maxHeartbeats 4000000 in
theorem n_addAll {l : Launch} {D : va_G} {H0 : Heap} {X : xH} {r br rc : Nat} {bs : List Int32} {I : Nat → Option Imm} (hI : xIm D X I) (hR : xRow D X r br rc bs) (hb : I br = none) {q : Nat} {more : List Int32} (hq : I q = some (.inl more)) (hfit : bs.length + more.length ≤ rc) : xMet l D H0 y_Ro_addAll b_Ro_addAll 3 none [] 2 0 0 [.ref r, .ref q] X (fun o X' => o = .inl none ∧ xRs D X X' I r br rc (bs ++ more)) := by
  have h := c_Ro_addAll (l := l) (H0 := H0) hR (hI _ _ hq) (xBy.ne (D := D) (X := X) hq hb) (isR.rf hfit) hR.cap.2.1
  rw [Nat.sub_self] at h
  exact h.mono (fun r X' hP => ⟨hP.1, hP.2.rs hI (hR.nob hI) hb⟩)
def tvK (es : List Es) (k : List Int32) : List Int32 := if fnb es k < es.length ∧ (eD es (fnb es k)).1 = k then num 1 1 ++ (eD es (fnb es k)).2 else num 0 1
set_option maxRecDepth 100000 in
set_option maxHeartbeats 4000000 in
theorem c_KM_tellValue {l : Launch} {D : va_G} {H0 : Heap} {X : xH} {mp la b cap : Nat} {as : List Nat} {es : List Es} {I : Nat → Option Imm} (hI : xIm D X I) (hM : xMap D X I mp la b cap as es) {r br rc : Nat} (hR : xRow D X r br rc []) (hb : I br = none) {key : List Int32} : xMet l D H0 y_KM_tellValue b_KM_tellValue 3 none [] 3 0 0 [.ref mp, .int (ixK es key), .ref r] X (fun o X' => o = .inl none ∧ xRs D X X' I r br rc (tvK es key)) := by
  obtain ⟨hmp, hL, hE, hok⟩ := hM
  obtain ⟨vl, hl⟩ := hL.ob
  have hlen := hE.1
  have hle := hL.len
  have hrg := hR.ge
  refine ⟨[some (.ref mp), some (.int (ixK es key)), some (.ref r)], rfl, Nat.le_of_ble_eq_true rfl, fun E hD hH hl _ C => ?_⟩
  subst hD
  subst hH
  subst hl
  by_cases hc : fnb es key < es.length ∧ (eD es (fnb es key)).1 = key
  · have e0 : ixK es key = nI (fnb es key) := by unfold ixK; rw [if_pos hc]
    have e1 : tvK es key = ([] ++ num 1 1) ++ (eD es (fnb es key)).2 := by unfold tvK; rw [if_pos hc]; rfl
    refine xG.eqL (show _ = [some (.ref mp), some (.int (nI (fnb es key))), some (.ref r)] by rw [e0]) ?_
    refine xr_iload_n C d_KM_tellValue_0 1 rfl rfl ?_
    refine xr_iconst (v := (-1)) C d_KM_tellValue_1 2 rfl (by decide) ?_
    refine xr_icmp_ne C d_KM_tellValue_2 5 12 rfl (by decide) (fun _ => ?_) (fun h => absurd (show nI (fnb es key) < 0 by rw [h]; decide) (nI_pos (by omega)))
    refine xr_aload_n C d_KM_tellValue_12 13 rfl rfl ?_
    refine xr_iconst (v := 1) C d_KM_tellValue_13 14 rfl (by decide) ?_
    refine xr_iconst (v := 1) C d_KM_tellValue_14 15 rfl (by decide) ?_
    have hr0 := hR.at
    refine xr_callV C (n_addNumber (v := 1) (n := 1) hI hR hb (by omega) (by rw [List.length_nil]; omega)) k_Ro_addNumber d_KM_tellValue_15 18 rfl hr0 rfl (Or.inl q_751) v_Ro_addNumber e_Ro_addNumber h_Ro_addNumber rfl ⟨Nat.le_of_ble_eq_true rfl, Nat.le_of_ble_eq_true rfl, Nat.le_of_ble_eq_true rfl⟩ (by omega) (by omega) (fun v9 X' hP => ?_) (fun _ _ h => absurd h.1 (by simp))
    obtain ⟨e1, hS⟩ := hP
    cases e1
    obtain ⟨br1, hR1, hb1, hI1, hf1, hn1⟩ := hS
    have hM1 := (show xMap E.D X I mp la b cap as es from ⟨hmp, hL, hE, hok⟩).keepR hR hf1
    obtain ⟨hmp1, hL1, -, -⟩ := hM1
    obtain ⟨vl1, hl1⟩ := hL1.ob
    have i1 : fnb es key < as.length := by omega
    obtain ⟨p, q, k1, k2, k3, k4, k5⟩ := (hE.2 _ i1).use hI1
    have hr1 := hR1.at
    have hv := (hok.2.2 _ (eD_mem hc.1)).2.2
    refine xr_aload_n C d_KM_tellValue_18 19 rfl rfl ?_
    refine xr_aload_n C d_KM_tellValue_19 20 rfl rfl ?_
    refine xr_get C K_KM 0 d_KM_tellValue_20 23 rfl q_77 (Or.inl rfl) rfl (by first | assumption | exact xup_self | exact (xup_ne (by assumption)).trans (by assumption) | exact (xup_ne (Ne.symm (by assumption))).trans (by assumption) | exact (xup_ne (by assumption)).trans xup_self | exact (xup_ne (Ne.symm (by assumption))).trans xup_self) rfl ?_
    refine xr_iload_n C d_KM_tellValue_23 24 rfl rfl ?_
    refine xr_callV C (l_get hL1 i1) k_AL_get d_KM_tellValue_24 27 rfl (by first | assumption | exact xup_self | exact (xup_ne (by assumption)).trans (by assumption) | exact (xup_ne (Ne.symm (by assumption))).trans (by assumption) | exact (xup_ne (by assumption)).trans xup_self | exact (xup_ne (Ne.symm (by assumption))).trans xup_self) rfl (Or.inl q_690) v_AL_get e_AL_get h_AL_get rfl ⟨Nat.le_of_ble_eq_true rfl, Nat.le_of_ble_eq_true rfl, Nat.le_of_ble_eq_true rfl⟩ (by omega) (by omega) (fun v9 X' hP => ?_) (fun _ _ h => absurd h.1 (by simp))
    obtain ⟨h1, rfl⟩ := hP
    cases h1
    refine xr_cast C d_KM_tellValue_27 30 rfl k1 rfl q_691 ?_
    refine xr_get C K_En 1 d_KM_tellValue_30 33 rfl q_714 (Or.inl rfl) rfl (by first | assumption | exact xup_self | exact (xup_ne (by assumption)).trans (by assumption) | exact (xup_ne (Ne.symm (by assumption))).trans (by assumption) | exact (xup_ne (by assumption)).trans xup_self | exact (xup_ne (Ne.symm (by assumption))).trans xup_self) rfl ?_
    refine xr_callV C (n_addAll hI1 hR1 hb1 k5 (by rw [List.length_append, num_len, List.length_nil]; omega)) k_Ro_addAll d_KM_tellValue_33 36 rfl hr1 rfl (Or.inl q_755) v_Ro_addAll e_Ro_addAll h_Ro_addAll rfl ⟨Nat.le_of_ble_eq_true rfl, Nat.le_of_ble_eq_true rfl, Nat.le_of_ble_eq_true rfl⟩ (by omega) (by omega) (fun v9 X' hP => ?_) (fun _ _ h => absurd h.1 (by simp))
    obtain ⟨e2, hS⟩ := hP
    cases e2
    rw [← e1] at hS
    exact xr_vret C d_KM_tellValue_36 (by omega) (by omega) ⟨rfl, xRs.then hf1 hn1 hS⟩
  · have e0 : ixK es key = -1 := by unfold ixK; rw [if_neg hc]
    have e1 : tvK es key = [] ++ num 0 1 := by unfold tvK; rw [if_neg hc]; rfl
    refine xG.eqL (show _ = [some (.ref mp), some (.int (-1)), some (.ref r)] by rw [e0]) ?_
    refine xr_iload_n C d_KM_tellValue_0 1 rfl rfl ?_
    refine xr_iconst (v := (-1)) C d_KM_tellValue_1 2 rfl (by decide) ?_
    refine xr_icmp_ne C d_KM_tellValue_2 5 12 rfl (by decide) (fun h => absurd rfl h) (fun _ => ?_)
    refine xr_aload_n C d_KM_tellValue_5 6 rfl rfl ?_
    refine xr_iconst (v := 0) C d_KM_tellValue_6 7 rfl (by decide) ?_
    refine xr_iconst (v := 1) C d_KM_tellValue_7 8 rfl (by decide) ?_
    have hr0 := hR.at
    refine xr_callV C (n_addNumber (v := 0) (n := 1) hI hR hb (by omega) (by rw [List.length_nil]; omega)) k_Ro_addNumber d_KM_tellValue_8 11 rfl hr0 rfl (Or.inl q_751) v_Ro_addNumber e_Ro_addNumber h_Ro_addNumber rfl ⟨Nat.le_of_ble_eq_true rfl, Nat.le_of_ble_eq_true rfl, Nat.le_of_ble_eq_true rfl⟩ (by omega) (by omega) (fun v9 X' hP => ?_) (fun _ _ h => absurd h.1 (by simp))
    obtain ⟨e1, hS⟩ := hP
    cases e1
    rw [← e1] at hS
    exact xr_vret C d_KM_tellValue_11 (by omega) (by omega) ⟨rfl, hS⟩
set_option maxRecDepth 100000 in
set_option maxHeartbeats 4000000 in
theorem c_KM_get {l : Launch} {D : va_G} {H0 : Heap} {X : xH} {mp la b cap : Nat} {as : List Nat} {es : List Es} {I : Nat → Option Imm} (hI : xIm D X I) (hM : xMap D X I mp la b cap as es) {r br rc : Nat} (hR : xRow D X r br rc []) (hb : I br = none) {kq : Nat} {key : List Int32} (hk : I kq = some (.inl key)) : xMet l D H0 y_KM_get b_KM_get 3 none [] 5 0 0 [.ref mp, .ref kq, .ref r] X (fun o X' => o = .inl none ∧ xQ D X X' I r br rc mp la b cap es (tvK es key)) := by
  have hmp := hM.1
  refine ⟨[some (.ref mp), some (.ref kq), some (.ref r)], rfl, Nat.le_of_ble_eq_true rfl, fun E hD hH hl _ C => ?_⟩
  subst hD
  subst hH
  subst hl
  refine xr_aload_n C d_KM_get_0 1 rfl rfl ?_
  refine xr_aload_n C d_KM_get_1 2 rfl rfl ?_
  refine xr_aload_n C d_KM_get_2 3 rfl rfl ?_
  refine xr_callV C (c_KM_indexOf hI hM (hI _ _ hk)) k_KM_indexOf d_KM_get_3 6 rfl (by first | assumption | exact xup_self | exact (xup_ne (by assumption)).trans (by assumption) | exact (xup_ne (Ne.symm (by assumption))).trans (by assumption) | exact (xup_ne (by assumption)).trans xup_self | exact (xup_ne (Ne.symm (by assumption))).trans xup_self) rfl (Or.inl q_760) v_KM_indexOf e_KM_indexOf h_KM_indexOf rfl ⟨Nat.le_of_ble_eq_true rfl, Nat.le_of_ble_eq_true rfl, Nat.le_of_ble_eq_true rfl⟩ (by omega) (by omega) (fun v9 X hP => ?_) (fun _ _ h => absurd h.1 (by simp))
  obtain ⟨h1, rfl⟩ := hP
  cases h1
  refine xr_aload_n C d_KM_get_6 7 rfl rfl ?_
  refine xr_callV C (c_KM_tellValue hI hM hR hb) k_KM_tellValue d_KM_get_7 10 rfl (by first | assumption | exact xup_self | exact (xup_ne (by assumption)).trans (by assumption) | exact (xup_ne (Ne.symm (by assumption))).trans (by assumption) | exact (xup_ne (by assumption)).trans xup_self | exact (xup_ne (Ne.symm (by assumption))).trans xup_self) rfl (Or.inl q_768) v_KM_tellValue e_KM_tellValue h_KM_tellValue rfl ⟨Nat.le_of_ble_eq_true rfl, Nat.le_of_ble_eq_true rfl, Nat.le_of_ble_eq_true rfl⟩ (by omega) (by omega) (fun v9 X' hP => ?_) (fun _ _ h => absurd h.1 (by simp))
  obtain ⟨e1, hS⟩ := hP
  cases e1
  exact xr_vret C d_KM_get_10 (by omega) (by omega) ⟨rfl, hS.q hM hR⟩
set_option maxRecDepth 100000 in
set_option maxHeartbeats 4000000 in
theorem c_KM_count {l : Launch} {D : va_G} {H0 : Heap} {X : xH} {mp la b cap : Nat} {as : List Nat} {es : List Es} {I : Nat → Option Imm} (hI : xIm D X I) (hM : xMap D X I mp la b cap as es) {r br rc : Nat} (hR : xRow D X r br rc []) (hb : I br = none) {lq hq : Nat} {low high : List Int32} (hlo : I lq = some (.inl low)) (hhi : I hq = some (.inl high)) : xMet l D H0 y_KM_count b_KM_count 4 none [] 4 0 0 [.ref mp, .ref lq, .ref hq, .ref r] X (fun o X' => o = .inl none ∧ xQ D X X' I r br rc mp la b cap es (num (nI (fnb es high - fnb es low)) 2)) := by
  have hmp := hM.1
  have hrg := hR.ge
  have hok := hM.2.2.2.1
  have f1 := fnb_le low es
  have f2 := fnb_le high es
  refine ⟨[some (.ref mp), some (.ref lq), some (.ref hq), some (.ref r)], rfl, Nat.le_of_ble_eq_true rfl, fun E hD hH hl _ C => ?_⟩
  subst hD
  subst hH
  subst hl
  refine xr_aload_n C d_KM_count_0 1 rfl rfl ?_
  refine xr_iconst (v := 0) C d_KM_count_1 2 rfl (by decide) ?_
  refine xr_aload_n C d_KM_count_2 3 rfl rfl ?_
  refine xr_aload_n C d_KM_count_3 4 rfl rfl ?_
  refine xr_callV C (c_KM_firstNotBelow hI hM (hI _ _ hhi)) k_KM_firstNotBelow d_KM_count_4 7 rfl (by first | assumption | exact xup_self | exact (xup_ne (by assumption)).trans (by assumption) | exact (xup_ne (Ne.symm (by assumption))).trans (by assumption) | exact (xup_ne (by assumption)).trans xup_self | exact (xup_ne (Ne.symm (by assumption))).trans xup_self) rfl (Or.inl q_685) v_KM_firstNotBelow e_KM_firstNotBelow h_KM_firstNotBelow rfl ⟨Nat.le_of_ble_eq_true rfl, Nat.le_of_ble_eq_true rfl, Nat.le_of_ble_eq_true rfl⟩ (by omega) (by omega) (fun v9 X hP => ?_) (fun _ _ h => absurd h.1 (by simp))
  obtain ⟨h1, rfl⟩ := hP
  cases h1
  refine xr_aload_n C d_KM_count_7 8 rfl rfl ?_
  refine xr_aload_n C d_KM_count_8 9 rfl rfl ?_
  refine xr_callV C (c_KM_firstNotBelow hI hM (hI _ _ hlo)) k_KM_firstNotBelow d_KM_count_9 12 rfl (by first | assumption | exact xup_self | exact (xup_ne (by assumption)).trans (by assumption) | exact (xup_ne (Ne.symm (by assumption))).trans (by assumption) | exact (xup_ne (by assumption)).trans xup_self | exact (xup_ne (Ne.symm (by assumption))).trans xup_self) rfl (Or.inl q_685) v_KM_firstNotBelow e_KM_firstNotBelow h_KM_firstNotBelow rfl ⟨Nat.le_of_ble_eq_true rfl, Nat.le_of_ble_eq_true rfl, Nat.le_of_ble_eq_true rfl⟩ (by omega) (by omega) (fun v9 X hP => ?_) (fun _ _ h => absurd h.1 (by simp))
  obtain ⟨h1, rfl⟩ := hP
  cases h1
  refine xr_isub C d_KM_count_12 13 rfl ?_
  refine xr_max C d_KM_count_13 16 rfl q_807 w_max (Nat.le_of_ble_eq_true rfl) (by omega) (by omega) ?_
  refine xr_toi (show _ = nI (fnb es high - fnb es low) from by
    by_cases h : fnb es low < fnb es high
    · rw [pk_sub (by omega)]
      exact if_pos (show nI 0 < nI (fnb es high - fnb es low) from nI_lt (by omega) (by omega))
    · rw [show fnb es high - fnb es low = 0 by omega, if_neg]
      · rfl
      · intro h2
        rw [Int32.lt_iff_toInt_lt, pk_sub_toInt (by omega) (by omega)] at h2
        have h3 : (0 : Int) < (fnb es high : Int) - fnb es low := h2
        omega) ?_
  refine xr_iconst (v := 2) C d_KM_count_16 17 rfl (by decide) ?_
  have hr0 := hR.at
  refine xr_callV C (n_addNumber (n := 2) hI hR hb (by omega) (by rw [List.length_nil]; omega)) k_Ro_addNumber d_KM_count_17 20 rfl hr0 rfl (Or.inl q_751) v_Ro_addNumber e_Ro_addNumber h_Ro_addNumber rfl ⟨Nat.le_of_ble_eq_true rfl, Nat.le_of_ble_eq_true rfl, Nat.le_of_ble_eq_true rfl⟩ (by omega) (by omega) (fun v9 X' hP => ?_) (fun _ _ h => absurd h.1 (by simp))
  obtain ⟨e1, hS⟩ := hP
  cases e1
  rw [List.nil_append] at hS
  exact xr_vret C d_KM_count_20 (by omega) (by omega) ⟨rfl, hS.q hM hR⟩
def nxK (es : List Es) (k : List Int32) : List Int32 := if fnb es k < es.length then num 1 1 ++ num (nI (eD es (fnb es k)).1.length) 1 ++ (eD es (fnb es k)).1 ++ (eD es (fnb es k)).2 else num 0 1
set_option maxRecDepth 100000 in
set_option maxHeartbeats 4000000 in
theorem c_KM_next {l : Launch} {D : va_G} {H0 : Heap} {X : xH} {mp la b cap : Nat} {as : List Nat} {es : List Es} {I : Nat → Option Imm} (hI : xIm D X I) (hM : xMap D X I mp la b cap as es) {r br rc : Nat} (hR : xRow D X r br rc []) (hb : I br = none) {kq : Nat} {key : List Int32} (hk : I kq = some (.inl key)) : xMet l D H0 y_KM_next b_KM_next 5 none [] 4 0 0 [.ref mp, .ref kq, .ref r] X (fun o X' => o = .inl none ∧ xQ D X X' I r br rc mp la b cap es (nxK es key)) := by
  have hM0 := hM
  obtain ⟨hmp, hL, hE, hok⟩ := hM
  obtain ⟨vl, hl⟩ := hL.ob
  have hlen := hE.1
  have hle := hL.len
  have hrg := hR.ge
  have hfl := fnb_le key es
  refine ⟨[some (.ref mp), some (.ref kq), some (.ref r), none, none], rfl, Nat.le_of_ble_eq_true rfl, fun E hD hH hl _ C => ?_⟩
  subst hD
  subst hH
  subst hl
  refine xr_aload_n C d_KM_next_0 1 rfl rfl ?_
  refine xr_aload_n C d_KM_next_1 2 rfl rfl ?_
  refine xr_callV C (c_KM_firstNotBelow hI hM0 (hI _ _ hk)) k_KM_firstNotBelow d_KM_next_2 5 rfl (by first | assumption | exact xup_self | exact (xup_ne (by assumption)).trans (by assumption) | exact (xup_ne (Ne.symm (by assumption))).trans (by assumption) | exact (xup_ne (by assumption)).trans xup_self | exact (xup_ne (Ne.symm (by assumption))).trans xup_self) rfl (Or.inl q_685) v_KM_firstNotBelow e_KM_firstNotBelow h_KM_firstNotBelow rfl ⟨Nat.le_of_ble_eq_true rfl, Nat.le_of_ble_eq_true rfl, Nat.le_of_ble_eq_true rfl⟩ (by omega) (by omega) (fun v9 X hP => ?_) (fun _ _ h => absurd h.1 (by simp))
  obtain ⟨h1, rfl⟩ := hP
  cases h1
  refine xr_istore_n C d_KM_next_5 6 rfl rfl rfl ?_
  refine xr_iload_n C d_KM_next_6 7 rfl rfl ?_
  refine xr_aload_n C d_KM_next_7 8 rfl rfl ?_
  refine xr_get C K_KM 0 d_KM_next_8 11 rfl q_77 (Or.inl rfl) rfl (by first | assumption | exact xup_self | exact (xup_ne (by assumption)).trans (by assumption) | exact (xup_ne (Ne.symm (by assumption))).trans (by assumption) | exact (xup_ne (by assumption)).trans xup_self | exact (xup_ne (Ne.symm (by assumption))).trans xup_self) rfl ?_
  refine xr_callV C (l_size hL) k_AL_size d_KM_next_11 14 rfl (by first | assumption | exact xup_self | exact (xup_ne (by assumption)).trans (by assumption) | exact (xup_ne (Ne.symm (by assumption))).trans (by assumption) | exact (xup_ne (by assumption)).trans xup_self | exact (xup_ne (Ne.symm (by assumption))).trans xup_self) rfl (Or.inl q_689) v_AL_size e_AL_size h_AL_size rfl ⟨Nat.le_of_ble_eq_true rfl, Nat.le_of_ble_eq_true rfl, Nat.le_of_ble_eq_true rfl⟩ (by omega) (by omega) (fun v9 X hP => ?_) (fun _ _ h => absurd h.1 (by simp))
  obtain ⟨h1, rfl⟩ := hP
  cases h1
  refine xr_icmp_lt C d_KM_next_14 17 24 rfl (by decide) (fun h14 => ?_) (fun h14 => ?_)
  · have i1 : fnb es key < as.length := (nI_ltI (by omega) (by omega)).mp h14
    have i2 : fnb es key < es.length := by omega
    have hv := hok.2.2 _ (eD_mem i2)
    obtain ⟨p0, q0, k10, -⟩ := (hE.2 _ i1).use hI
    have e1 : nxK es key = (([] ++ num 1 1) ++ num (nI (eD es (fnb es key)).1.length) 1 ++ (eD es (fnb es key)).1) ++ (eD es (fnb es key)).2 := by unfold nxK; rw [if_pos i2]; rfl
    refine xr_aload_n C d_KM_next_24 25 rfl rfl ?_
    refine xr_get C K_KM 0 d_KM_next_25 28 rfl q_77 (Or.inl rfl) rfl (by first | assumption | exact xup_self | exact (xup_ne (by assumption)).trans (by assumption) | exact (xup_ne (Ne.symm (by assumption))).trans (by assumption) | exact (xup_ne (by assumption)).trans xup_self | exact (xup_ne (Ne.symm (by assumption))).trans xup_self) rfl ?_
    refine xr_iload_n C d_KM_next_28 29 rfl rfl ?_
    refine xr_callV C (l_get hL i1) k_AL_get d_KM_next_29 32 rfl (by first | assumption | exact xup_self | exact (xup_ne (by assumption)).trans (by assumption) | exact (xup_ne (Ne.symm (by assumption))).trans (by assumption) | exact (xup_ne (by assumption)).trans xup_self | exact (xup_ne (Ne.symm (by assumption))).trans xup_self) rfl (Or.inl q_690) v_AL_get e_AL_get h_AL_get rfl ⟨Nat.le_of_ble_eq_true rfl, Nat.le_of_ble_eq_true rfl, Nat.le_of_ble_eq_true rfl⟩ (by omega) (by omega) (fun v9 X hP => ?_) (fun _ _ h => absurd h.1 (by simp))
    obtain ⟨h1, rfl⟩ := hP
    cases h1
    refine xr_cast C d_KM_next_32 35 rfl k10 rfl q_691 ?_
    refine xr_astore C d_KM_next_35 37 rfl rfl rfl ?_
    refine xr_aload_n C d_KM_next_37 38 rfl rfl ?_
    refine xr_iconst (v := 1) C d_KM_next_38 39 rfl (by decide) ?_
    refine xr_iconst (v := 1) C d_KM_next_39 40 rfl (by decide) ?_
    have hr0 := hR.at
    refine xr_callV C (n_addNumber (v := 1) (n := 1) hI hR hb (by omega) (by rw [List.length_nil]; omega)) k_Ro_addNumber d_KM_next_40 43 rfl hr0 rfl (Or.inl q_751) v_Ro_addNumber e_Ro_addNumber h_Ro_addNumber rfl ⟨Nat.le_of_ble_eq_true rfl, Nat.le_of_ble_eq_true rfl, Nat.le_of_ble_eq_true rfl⟩ (by omega) (by omega) (fun v9 X' hP => ?_) (fun _ _ h => absurd h.1 (by simp))
    obtain ⟨e1, hS⟩ := hP
    cases e1
    have hS0 := hS
    obtain ⟨br1, hR1, hb1, hI1, hf1, hn1⟩ := hS
    have hr1 := hR1.at
    obtain ⟨p, q, k1, k2, k3, k4, k5⟩ := (hE.2 _ i1).use hI1
    obtain ⟨fp, k6⟩ := k2.ar
    refine xr_aload_n C d_KM_next_43 44 rfl rfl ?_
    refine xr_aload C d_KM_next_44 46 rfl rfl ?_
    refine xr_get C K_En 0 d_KM_next_46 49 rfl q_711 (Or.inl rfl) rfl (by first | assumption | exact xup_self | exact (xup_ne (by assumption)).trans (by assumption) | exact (xup_ne (Ne.symm (by assumption))).trans (by assumption) | exact (xup_ne (by assumption)).trans xup_self | exact (xup_ne (Ne.symm (by assumption))).trans xup_self) rfl ?_
    refine xr_alen (t0 := 0) C rfl d_KM_next_49 50 rfl k6 ?_
    refine xr_iconst (v := 1) C d_KM_next_50 51 rfl (by decide) ?_
    refine xr_callV C (n_addNumber (v := nI (eD es (fnb es key)).1.length) (n := 1) hI1 hR1 hb1 (by omega) (by simp only [List.length_append, num_len, List.length_nil]; omega)) k_Ro_addNumber d_KM_next_51 54 rfl hr1 rfl (Or.inl q_751) v_Ro_addNumber e_Ro_addNumber h_Ro_addNumber rfl ⟨Nat.le_of_ble_eq_true rfl, Nat.le_of_ble_eq_true rfl, Nat.le_of_ble_eq_true rfl⟩ (by omega) (by omega) (fun v9 X' hP => ?_) (fun _ _ h => absurd h.1 (by simp))
    obtain ⟨e2, hS2⟩ := hP
    cases e2
    replace hS2 := xRs.then hf1 hn1 hS2
    clear hS0 hR1 hb1 hI1 hf1 hn1 hr1 k1 k2 k3 k4 k5 k6
    have hS := hS2
    clear hS2
    have hS0 := hS
    obtain ⟨br1, hR1, hb1, hI1, hf1, hn1⟩ := hS
    have hr1 := hR1.at
    obtain ⟨p, q, k1, k2, k3, k4, k5⟩ := (hE.2 _ i1).use hI1
    obtain ⟨fp, k6⟩ := k2.ar
    refine xr_aload_n C d_KM_next_54 55 rfl rfl ?_
    refine xr_aload C d_KM_next_55 57 rfl rfl ?_
    refine xr_get C K_En 0 d_KM_next_57 60 rfl q_711 (Or.inl rfl) rfl (by first | assumption | exact xup_self | exact (xup_ne (by assumption)).trans (by assumption) | exact (xup_ne (Ne.symm (by assumption))).trans (by assumption) | exact (xup_ne (by assumption)).trans xup_self | exact (xup_ne (Ne.symm (by assumption))).trans xup_self) rfl ?_
    refine xr_callV C (n_addAll hI1 hR1 hb1 k4 (by simp only [List.length_append, num_len, List.length_nil]; have := hv.2.1; omega)) k_Ro_addAll d_KM_next_60 63 rfl hr1 rfl (Or.inl q_755) v_Ro_addAll e_Ro_addAll h_Ro_addAll rfl ⟨Nat.le_of_ble_eq_true rfl, Nat.le_of_ble_eq_true rfl, Nat.le_of_ble_eq_true rfl⟩ (by omega) (by omega) (fun v9 X' hP => ?_) (fun _ _ h => absurd h.1 (by simp))
    obtain ⟨e2, hS2⟩ := hP
    cases e2
    replace hS2 := xRs.then hf1 hn1 hS2
    clear hS0 hR1 hb1 hI1 hf1 hn1 hr1 k1 k2 k3 k4 k5 k6
    have hS := hS2
    clear hS2
    have hS0 := hS
    obtain ⟨br1, hR1, hb1, hI1, hf1, hn1⟩ := hS
    have hr1 := hR1.at
    obtain ⟨p, q, k1, k2, k3, k4, k5⟩ := (hE.2 _ i1).use hI1
    obtain ⟨fp, k6⟩ := k2.ar
    refine xr_aload_n C d_KM_next_63 64 rfl rfl ?_
    refine xr_aload C d_KM_next_64 66 rfl rfl ?_
    refine xr_get C K_En 1 d_KM_next_66 69 rfl q_714 (Or.inl rfl) rfl (by first | assumption | exact xup_self | exact (xup_ne (by assumption)).trans (by assumption) | exact (xup_ne (Ne.symm (by assumption))).trans (by assumption) | exact (xup_ne (by assumption)).trans xup_self | exact (xup_ne (Ne.symm (by assumption))).trans xup_self) rfl ?_
    refine xr_callV C (n_addAll hI1 hR1 hb1 k5 (by simp only [List.length_append, num_len, List.length_nil]; have := hv.2.1; have := hv.2.2; omega)) k_Ro_addAll d_KM_next_69 72 rfl hr1 rfl (Or.inl q_755) v_Ro_addAll e_Ro_addAll h_Ro_addAll rfl ⟨Nat.le_of_ble_eq_true rfl, Nat.le_of_ble_eq_true rfl, Nat.le_of_ble_eq_true rfl⟩ (by omega) (by omega) (fun v9 X' hP => ?_) (fun _ _ h => absurd h.1 (by simp))
    obtain ⟨e2, hS2⟩ := hP
    cases e2
    replace hS2 := xRs.then hf1 hn1 hS2
    clear hS0 hR1 hb1 hI1 hf1 hn1 hr1 k1 k2 k3 k4 k5 k6
    have hS := hS2
    clear hS2
    rw [← e1] at hS
    exact xr_vret C d_KM_next_72 (by omega) (by omega) ⟨rfl, hS.q hM0 hR⟩
  · have i2 : ¬ fnb es key < es.length := fun h => h14 (nI_lt (by omega) (by omega))
    have e1 : nxK es key = [] ++ num 0 1 := by unfold nxK; rw [if_neg i2]; rfl
    refine xr_aload_n C d_KM_next_17 18 rfl rfl ?_
    refine xr_iconst (v := 0) C d_KM_next_18 19 rfl (by decide) ?_
    refine xr_iconst (v := 1) C d_KM_next_19 20 rfl (by decide) ?_
    have hr0 := hR.at
    refine xr_callV C (n_addNumber (v := 0) (n := 1) hI hR hb (by omega) (by rw [List.length_nil]; omega)) k_Ro_addNumber d_KM_next_20 23 rfl hr0 rfl (Or.inl q_751) v_Ro_addNumber e_Ro_addNumber h_Ro_addNumber rfl ⟨Nat.le_of_ble_eq_true rfl, Nat.le_of_ble_eq_true rfl, Nat.le_of_ble_eq_true rfl⟩ (by omega) (by omega) (fun v9 X' hP => ?_) (fun _ _ h => absurd h.1 (by simp))
    obtain ⟨e1, hS⟩ := hP
    cases e1
    rw [← e1] at hS
    exact xr_vret C d_KM_next_23 (by omega) (by omega) ⟨rfl, hS.q hM0 hR⟩
end
section
/-! The map: its changes. -/
theorem getDg_ins {α : Type} {d : α} {as : List α} {j i : Nat} {v : α} (hj : j ≤ as.length) : (insAt as j v).getD i d = if i < j then as.getD i d else if i = j then v else as.getD (i - 1) d := by
  unfold insAt
  have ht : (as.take j).length = j := by rw [List.length_take]; omega
  rw [List.getD_eq_getElem?_getD]
  by_cases h : i < j
  · rw [if_pos h, List.getElem?_append_left (by omega), List.getElem?_take_of_lt h, List.getD_eq_getElem?_getD]
  · rw [if_neg h, List.getElem?_append_right (by omega), ht]
    by_cases h2 : i = j
    · subst h2
      rw [if_pos rfl, Nat.sub_self]
      rfl
    · rw [if_neg h2, show i - j = (i - j - 1) + 1 by omega, List.getElem?_cons_succ, List.getElem?_drop, List.getD_eq_getElem?_getD]
      congr 2
      omega
theorem getDg_set {α : Type} {d : α} {as : List α} {j i : Nat} {v : α} (hj : j < as.length) : (as.set j v).getD i d = if i = j then v else as.getD i d := by
  rw [List.getD_eq_getElem?_getD, List.getD_eq_getElem?_getD]
  by_cases h : i = j
  · subst h
    rw [if_pos rfl, List.getElem?_set_self hj]
    rfl
  · rw [if_neg h, List.getElem?_set_ne (Ne.symm h)]
theorem getDg_erase {α : Type} {d : α} {as : List α} {j i : Nat} : (as.eraseIdx j).getD i d = if i < j then as.getD i d else as.getD (i + 1) d := by
  rw [List.getD_eq_getElem?_getD, List.getElem?_eraseIdx]
  split <;> rw [List.getD_eq_getElem?_getD]
theorem uns_cons {e : Es} {es : List Es} : uns (e :: es) = un e + uns es := rfl
theorem uns_ins {e : Es} : ∀ {es : List Es} {j : Nat}, j ≤ es.length → uns (insAt es j e) = uns es + un e := by
  intro es j hj
  unfold insAt uns
  rw [List.map_append, List.sum_append, List.map_cons, List.sum_cons]
  have h : (es.map un).sum = ((es.take j).map un).sum + ((es.drop j).map un).sum := by
    rw [← List.sum_append, ← List.map_append, List.take_append_drop]
  omega
theorem uns_set {e : Es} : ∀ {es : List Es} {j : Nat}, j < es.length → uns (es.set j e) + un (eD es j) = uns es + un e
  | [], j, h => absurd h (Nat.not_lt_zero _)
  | a :: es, 0, _ => by
    show un e + uns es + un a = un a + uns es + un e
    omega
  | a :: es, j + 1, h => by
    have ih := uns_set (e := e) (es := es) (j := j) (by rw [List.length_cons] at h; omega)
    show un a + uns (es.set j e) + un (eD es j) = un a + uns es + un e
    omega
theorem uns_erase : ∀ {es : List Es} {j : Nat}, j < es.length → uns (es.eraseIdx j) + un (eD es j) = uns es
  | [], j, h => absurd h (Nat.not_lt_zero _)
  | a :: es, 0, _ => by
    show uns es + un a = un a + uns es
    omega
  | a :: es, j + 1, h => by
    have ih := uns_erase (es := es) (j := j) (by rw [List.length_cons] at h; omega)
    show un a + uns (es.eraseIdx j) + un (eD es j) = un a + uns es
    omega
theorem imEs.ins {I : Nat → Option Imm} {as : List Nat} {es : List Es} {j q : Nat} {e : Es} (h : imEs I as es) (hj : j ≤ es.length) (hq : imE I q e) : imEs I (insAt as j q) (insAt es j e) := by
  have hl := h.1
  refine ⟨by rw [insAt_length (by omega), insAt_length hj, hl], fun i hi => ?_⟩
  rw [insAt_length (by omega)] at hi
  unfold eD
  rw [getDg_ins (by omega), getDg_ins hj]
  by_cases h1 : i < j
  · rw [if_pos h1, if_pos h1]
    exact h.2 i (by omega)
  · rw [if_neg h1, if_neg h1]
    by_cases h2 : i = j
    · rw [if_pos h2, if_pos h2]
      exact hq
    · rw [if_neg h2, if_neg h2]
      exact h.2 (i - 1) (by omega)
theorem imEs.set {I : Nat → Option Imm} {as : List Nat} {es : List Es} {j q : Nat} {e : Es} (h : imEs I as es) (hj : j < es.length) (hq : imE I q e) : imEs I (as.set j q) (es.set j e) := by
  have hl := h.1
  refine ⟨by rw [List.length_set, List.length_set, hl], fun i hi => ?_⟩
  rw [List.length_set] at hi
  unfold eD
  rw [getDg_set (by omega), getDg_set hj]
  by_cases h2 : i = j
  · rw [if_pos h2, if_pos h2]
    exact hq
  · rw [if_neg h2, if_neg h2]
    exact h.2 i hi
theorem imEs.erase {I : Nat → Option Imm} {as : List Nat} {es : List Es} {j : Nat} (h : imEs I as es) (hj : j < es.length) : imEs I (as.eraseIdx j) (es.eraseIdx j) := by
  have hl := h.1
  refine ⟨by rw [List.length_eraseIdx_of_lt (by omega), List.length_eraseIdx_of_lt hj, hl], fun i hi => ?_⟩
  rw [List.length_eraseIdx_of_lt (by omega)] at hi
  unfold eD
  rw [getDg_erase, getDg_erase]
  by_cases h2 : i < j
  · rw [if_pos h2, if_pos h2]
    exact h.2 i (by omega)
  · rw [if_neg h2, if_neg h2]
    exact h.2 (i + 1) (by omega)
theorem mem_ins {α : Type} {as : List α} {j : Nat} {v x : α} (h : x ∈ insAt as j v) : x = v ∨ x ∈ as := by
  unfold insAt at h
  rcases List.mem_append.mp h with h | h
  · exact Or.inr (List.mem_of_mem_take h)
  · rcases List.mem_cons.mp h with h | h
    · exact Or.inl h
    · exact Or.inr (List.mem_of_mem_drop h)
theorem nx_ge {c : Nat} : c ≤ nx c := by
  unfold nx
  split
  · omega
  · split <;> omega
theorem xLi.keep1 {D : va_G} {X : xH} {a b cap mp ci : Nat} {as : List Nat} {fs : List Value} {v : va_E} (h : xLi D X a b cap as) (hm : X mp = some (.inr (ci, fs))) (hc : ci ≠ 7) : xLi D (xup X mp v) a b cap as := by
  obtain ⟨vs, h1⟩ := h.ob
  obtain ⟨f, h2⟩ := h.ar
  refine h.keep (S := [mp]) (xFr_up hm (fun z => z) (by simp)) ?_ ?_
  · rw [List.mem_singleton]
    exact xne h1 hm (by intro h; cases h; exact hc rfl)
  · rw [List.mem_singleton]
    exact xne h2 hm (by intro h; cases h)
theorem xIm.keepL {D : va_G} {X X' : xH} {I : Nat → Option Imm} {a b cap : Nat} {as : List Nat} (hI : xIm D X I) (h : xLi D X a b cap as) (hf : xFr [a, b] X X') : xIm D X' I := by
  obtain ⟨vs, h1⟩ := h.ob
  obtain ⟨f, h2⟩ := h.ar
  refine hI.keep hf (fun q hq => ?_)
  rcases List.mem_cons.mp hq with e | e
  · rw [e]
    exact hI.nob h1 (by decide) (by decide)
  · rw [show q = b by simpa using e]
    exact hI.nar h2
theorem xIm.up1 {D : va_G} {X : xH} {I : Nat → Option Imm} {a ci : Nat} {fs : List Value} {v : va_E} (hI : xIm D X I) (h : X a = some (.inr (ci, fs))) (h4 : ci ≠ 4) (h5 : ci ≠ 5) : xIm D (xup X a v) I := hI.keep (S := [a]) (xFr_up h (fun z => z) (by simp)) (fun q hq => by
  rw [show q = a by simpa using hq]
  exact hI.nob h h4 h5)
/-- a new entry, session or row of bytes -/
theorem xIm.new {D : va_G} {X : xH} {I : Nat → Option Imm} {q : Nat} {v : Imm} {c : va_E} (hI : xIm D X I) (hq : X q = none) (hv : xIc D (xup X q c) q v) : xIm D (xup X q c) (imUp I q v) := (hI.keep (S := []) (xFr_new hq) (fun _ h => absurd h (List.not_mem_nil))).up hv
set_option maxRecDepth 100000 in
set_option maxHeartbeats 4000000 in
theorem c_KM_insert {l : Launch} {D : va_G} {H0 : Heap} {X : xH} {mp la b cap : Nat} {as : List Nat} {es : List Es} {I : Nat → Option Imm} (hI : xIm D X I) (hM : xMap D X I mp la b cap as es) {kq vq j : Nat} {key value : List Int32} (hk : I kq = some (.inl key)) (hv : I vq = some (.inl value)) (hj : j ≤ es.length) (hoe : okE (key, value)) : xMet l D H0 y_KM_insert b_KM_insert 5 (some .boolean) [] 5 2 202 [.ref mp, .int (nI j), .ref kq, .ref vq] X (fun o X' => o = .inl (some (.int (if es.length < 128 ∧ uns es + un (key, value) ≤ 700 then 1 else 0))) ∧ xMs D X X' I mp la b cap (if es.length < 128 ∧ uns es + un (key, value) ≤ 700 then insAt es j (key, value) else es)) := by
  obtain ⟨hmp, hL, hE, hok⟩ := hM
  obtain ⟨vl, hl⟩ := hL.ob
  have hlen := hE.1
  have hle := hL.len
  refine ⟨[some (.ref mp), some (.int (nI j)), some (.ref kq), some (.ref vq), none], rfl, Nat.le_of_ble_eq_true rfl, fun E hD hH hl _ C => ?_⟩
  subst hD
  subst hH
  subst hl
  refine xr_new (fs := [.null, .null]) C K_En d_KM_insert_0 3 rfl q_691 q_705 q_28 (by intro j hj; match j, hj with | 0, _ => rfl | 1, _ => rfl) (by omega) (by omega) (fun q9 hq9 => ?_)
  refine xr_dup C d_KM_insert_3 4 rfl rfl ?_
  refine xr_aload_n C d_KM_insert_4 5 rfl rfl ?_
  refine xr_aload_n C d_KM_insert_5 6 rfl rfl ?_
  refine xr_callI C (c_En_init xup_self) kc_En_init d_KM_insert_6 9 rfl (Or.inl q_706) v_En_init rfl h_En_init rfl ⟨Nat.le_of_ble_eq_true rfl, Nat.le_of_ble_eq_true rfl, Nat.le_of_ble_eq_true rfl⟩ (by omega) (by omega) (fun v9 X' hP => ?_) (fun _ _ h => absurd h.1 (by simp))
  obtain ⟨h1, rfl⟩ := hP
  cases h1
  refine xG.eqX xup_up ?_
  obtain ⟨I1, hI1d⟩ : ∃ I1, I1 = imUp I q9 (.inr (.inr (kq, vq))) := ⟨_, rfl⟩
  obtain ⟨X1, hX1⟩ : ∃ z, z = xup X q9 (.inr (5, [.ref kq, .ref vq])) := ⟨_, rfl⟩
  refine xG.eqX (show _ = X1 from hX1.symm) ?_
  have hfr0 : xFr [] X X1 := by rw [hX1]; exact xFr_new hq9
  have hI1 : xIm E.D X1 I1 := by rw [hX1, hI1d]; exact hI.new hq9 xup_self
  have hle1 : imX X I I1 := by rw [hI1d]; exact imX_up hI hq9
  have hE1 : imE I1 q9 (key, value) := ⟨kq, vq, by rw [hI1d]; exact imUp_self, hle1.1 _ _ hk, hle1.1 _ _ hv⟩
  obtain ⟨p9, q8, hq9c, -⟩ := hE1.use hI1
  have hM1 : xMap E.D X1 I1 mp la b cap as es := ⟨hfr0.use hmp List.not_mem_nil, hL.keep hfr0 List.not_mem_nil List.not_mem_nil, hE.le hle1.1, hok⟩
  obtain ⟨hmp1, hL1, hE2, -⟩ := id hM1
  obtain ⟨vl1, hl1⟩ := hL1.ob
  obtain ⟨fb1, hb1⟩ := hL1.ar
  have hu : un (key, value) ≤ 9 := by
    have h1 := hoe.2.1
    have h2 := hoe.2.2
    unfold un
    omega
  have hus := hok.2.1
  have hal := hok.1
  have no : ¬ (es.length < 128 ∧ uns es + un (key, value) ≤ 700) → ∀ (c s : Nat), c ≤ 2 → s ≤ 202 → xG E X1 c s 40 [some (.ref mp), some (.int (nI j)), some (.ref kq), some (.ref vq), some (.ref q9)] [] := by
    intro h c s hc1 hs1
    refine xr_iconst (v := 0) C d_KM_insert_40 41 rfl (by decide) ?_
    exact xr_zret C d_KM_insert_41 rfl (by omega) (by omega) ⟨by rw [if_neg h], by rw [if_neg h]; exact ⟨I1, b, cap, as, hle1, hI1, hM1, hfr0.mono (fun q hq => absurd hq List.not_mem_nil), Or.inl rfl, Nat.le_refl _⟩⟩
  refine xr_astore C d_KM_insert_9 11 rfl rfl rfl ?_
  refine xr_aload_n C d_KM_insert_11 12 rfl rfl ?_
  refine xr_get C K_KM 0 d_KM_insert_12 15 rfl q_77 (Or.inl rfl) rfl (by first | assumption | exact xup_self | exact (xup_ne (by assumption)).trans (by assumption) | exact (xup_ne (Ne.symm (by assumption))).trans (by assumption) | exact (xup_ne (by assumption)).trans xup_self | exact (xup_ne (Ne.symm (by assumption))).trans xup_self) rfl ?_
  refine xr_callV C (l_size hL1) k_AL_size d_KM_insert_15 18 rfl (by first | assumption | exact xup_self | exact (xup_ne (by assumption)).trans (by assumption) | exact (xup_ne (Ne.symm (by assumption))).trans (by assumption) | exact (xup_ne (by assumption)).trans xup_self | exact (xup_ne (Ne.symm (by assumption))).trans xup_self) rfl (Or.inl q_689) v_AL_size e_AL_size h_AL_size rfl ⟨Nat.le_of_ble_eq_true rfl, Nat.le_of_ble_eq_true rfl, Nat.le_of_ble_eq_true rfl⟩ (by omega) (by omega) (fun v9 X1 hP => ?_) (fun _ _ h => absurd h.1 (by simp))
  obtain ⟨h1, rfl⟩ := hP
  cases h1
  refine xr_sipush (v := 128) C d_KM_insert_18 21 rfl (by decide) ?_
  refine xr_toi (show _ = nI 128 from rfl) ?_
  refine xr_icmp_ge C d_KM_insert_21 24 40 rfl (by decide) (fun h => no (fun q => nI_ge (show as.length < 128 by omega) (by omega) h) _ _ (by omega) (by omega)) (fun h21 => ?_)
  have hal2 : es.length < 128 := by
    rcases Nat.lt_or_ge es.length 128 with h | h
    · exact h
    · exact absurd (nI_le (show 128 ≤ as.length by omega) (by omega)) h21
  refine xr_aload_n C d_KM_insert_24 25 rfl rfl ?_
  refine xr_get C K_KM 1 d_KM_insert_25 28 rfl q_80 (Or.inl rfl) rfl (by first | assumption | exact xup_self | exact (xup_ne (by assumption)).trans (by assumption) | exact (xup_ne (Ne.symm (by assumption))).trans (by assumption) | exact (xup_ne (by assumption)).trans xup_self | exact (xup_ne (Ne.symm (by assumption))).trans xup_self) rfl ?_
  refine xr_aload C d_KM_insert_28 30 rfl rfl ?_
  refine xr_callV C (c_En_units hI1 hE1) k_En_units d_KM_insert_30 33 rfl hq9c rfl (Or.inl q_721) v_En_units e_En_units h_En_units rfl ⟨Nat.le_of_ble_eq_true rfl, Nat.le_of_ble_eq_true rfl, Nat.le_of_ble_eq_true rfl⟩ (by omega) (by omega) (fun v9 X1 hP => ?_) (fun _ _ h => absurd h.1 (by simp))
  obtain ⟨h1, rfl⟩ := hP
  cases h1
  refine xr_iadd C d_KM_insert_33 34 rfl ?_
  refine xr_toi (show _ = nI (uns es + un (key, value)) from nI_add _ _) ?_
  refine xr_sipush (v := 700) C d_KM_insert_34 37 rfl (by decide) ?_
  refine xr_toi (show _ = nI 700 from rfl) ?_
  refine xr_icmp_le C d_KM_insert_37 40 42 rfl (by decide) (fun h37 => ?_) (fun h => no (fun q => h (nI_le q.2 (by omega))) _ _ (by omega) (by omega))
  have hcd : es.length < 128 ∧ uns es + un (key, value) ≤ 700 := ⟨hal2, (nI_leI (by omega) (by omega)).mp h37⟩
  refine xr_aload_n C d_KM_insert_42 43 rfl rfl ?_
  refine xr_get C K_KM 0 d_KM_insert_43 46 rfl q_77 (Or.inl rfl) rfl (by first | assumption | exact xup_self | exact (xup_ne (by assumption)).trans (by assumption) | exact (xup_ne (Ne.symm (by assumption))).trans (by assumption) | exact (xup_ne (by assumption)).trans xup_self | exact (xup_ne (Ne.symm (by assumption))).trans xup_self) rfl ?_
  refine xr_iload_n C d_KM_insert_46 47 rfl rfl ?_
  refine xr_aload C d_KM_insert_47 49 rfl rfl ?_
  refine xr_callV C (l_insert hL1 (by omega) (by omega) (hE2.ob hI1) (hE1.ob hI1)) k_AL_add2 d_KM_insert_49 52 rfl (by first | assumption | exact xup_self | exact (xup_ne (by assumption)).trans (by assumption) | exact (xup_ne (Ne.symm (by assumption))).trans (by assumption) | exact (xup_ne (by assumption)).trans xup_self | exact (xup_ne (Ne.symm (by assumption))).trans xup_self) rfl (Or.inl q_730) v_AL_add2 e_AL_add2 h_AL_add2 rfl ⟨Nat.le_of_ble_eq_true rfl, Nat.le_of_ble_eq_true rfl, Nat.le_of_ble_eq_true rfl⟩ (by omega) (by omega) (fun v9 X2 hP => ?_) (fun _ _ h => absurd h.1 (by simp))
  obtain ⟨h1, b2, hL2, hfr2, hb2⟩ := hP
  cases h1
  have hI2 := hI1.keepL hL1 hfr2
  have hmp2 : X2 mp = some (.inr (2, [.ref la, .int (nI (uns es))])) := hfr2.use hmp1 (by
    simp only [List.mem_cons, List.not_mem_nil, or_false, not_or]
    exact ⟨xne hmp1 hl1 (by intro h; cases h), xne hmp1 hb1 (by intro h; cases h)⟩)
  obtain ⟨p7, q7, hq9d, -⟩ := hE1.use hI2
  refine xr_aload_n C d_KM_insert_52 53 rfl rfl ?_
  refine xr_dup C d_KM_insert_53 54 rfl rfl ?_
  refine xr_get C K_KM 1 d_KM_insert_54 57 rfl q_80 (Or.inl rfl) rfl (by first | assumption | exact xup_self | exact (xup_ne (by assumption)).trans (by assumption) | exact (xup_ne (Ne.symm (by assumption))).trans (by assumption) | exact (xup_ne (by assumption)).trans xup_self | exact (xup_ne (Ne.symm (by assumption))).trans xup_self) rfl ?_
  refine xr_aload C d_KM_insert_57 59 rfl rfl ?_
  refine xr_callV C (c_En_units hI2 hE1) k_En_units d_KM_insert_59 62 rfl hq9d rfl (Or.inl q_721) v_En_units e_En_units h_En_units rfl ⟨Nat.le_of_ble_eq_true rfl, Nat.le_of_ble_eq_true rfl, Nat.le_of_ble_eq_true rfl⟩ (by omega) (by omega) (fun v9 X2 hP => ?_) (fun _ _ h => absurd h.1 (by simp))
  obtain ⟨h1, rfl⟩ := hP
  cases h1
  refine xr_iadd C d_KM_insert_62 63 rfl ?_
  refine xr_toi (show _ = nI (uns es + un (key, value)) from nI_add _ _) ?_
  refine xr_put C K_KM 1 d_KM_insert_63 66 rfl q_80 (Or.inl rfl) rfl rfl rfl rfl (by first | assumption | exact xup_self | exact (xup_ne (by assumption)).trans (by assumption) | exact (xup_ne (Ne.symm (by assumption))).trans (by assumption) | exact (xup_ne (by assumption)).trans xup_self | exact (xup_ne (Ne.symm (by assumption))).trans xup_self) rfl rfl ?_
  refine xr_iconst (v := 1) C d_KM_insert_66 67 rfl (by decide) ?_
  refine xr_zret C d_KM_insert_67 rfl (by omega) (by omega) ⟨by rw [if_pos hcd], ?_⟩
  rw [if_pos hcd]
  refine ⟨I1, b2, _, insAt as j q9, hle1, hI2.up1 hmp2 (by decide) (by decide), ⟨?_, hL2.keep1 hmp2 (by decide), hE2.ins hj hE1, ?_, ?_, ?_⟩, ?_, ?_, ?_⟩
  · rw [uns_ins hj]
    exact xup_self
  · rw [insAt_length hj]
    omega
  · rw [uns_ins hj]
    exact hcd.2
  · intro e he
    rcases mem_ins he with h | h
    · rw [h]
      exact hoe
    · exact hok.2.2 e h
  · refine ((hfr0.mono (fun q hq => absurd hq List.not_mem_nil)).trans (hfr2.mono ?_)).trans (xFr_up hmp2 (fun z => z) (by simp))
    intro q hq
    exact List.mem_cons_of_mem _ hq
  · exact hb2.imp id (fun e => hfr0.2 _ e)
  · split
    · exact Nat.le_refl _
    · exact nx_ge
set_option maxRecDepth 100000 in
set_option maxHeartbeats 4000000 in
theorem c_KM_replace {l : Launch} {D : va_G} {H0 : Heap} {X : xH} {mp la b cap : Nat} {as : List Nat} {es : List Es} {I : Nat → Option Imm} (hI : xIm D X I) (hM : xMap D X I mp la b cap as es) {vq j : Nat} {value : List Int32} (hv : I vq = some (.inl value)) (hj : j < es.length) (hvl : value.length ≤ 100) : xMet l D H0 y_KM_replace b_KM_replace 6 (some .boolean) [] 3 1 2 [.ref mp, .int (nI j), .ref vq] X (fun o X' => o = .inl (some (.int (if uns (es.set j ((eD es j).1, value)) ≤ 700 then 1 else 0))) ∧ xMs D X X' I mp la b cap (if uns (es.set j ((eD es j).1, value)) ≤ 700 then es.set j ((eD es j).1, value) else es)) := by
  obtain ⟨hmp, hL, hE, hok⟩ := hM
  obtain ⟨vl, hl⟩ := hL.ob
  have hlen := hE.1
  have hle := hL.len
  refine ⟨[some (.ref mp), some (.int (nI j)), some (.ref vq), none, none, none], rfl, Nat.le_of_ble_eq_true rfl, fun E hD hH hl _ C => ?_⟩
  subst hD
  subst hH
  subst hl
  have hja : j < as.length := by omega
  obtain ⟨p0, q0, k1, k2, k3, k4, k5⟩ := (hE.2 j hja).use hI
  have hoe0 := hok.2.2 _ (eD_mem hj)
  have hus := hok.2.1
  have hal := hok.1
  have hst := uns_set (e := ((eD es j).1, value)) hj
  refine xr_aload_n C d_KM_replace_0 1 rfl rfl ?_
  refine xr_get C K_KM 0 d_KM_replace_1 4 rfl q_77 (Or.inl rfl) rfl (by first | assumption | exact xup_self | exact (xup_ne (by assumption)).trans (by assumption) | exact (xup_ne (Ne.symm (by assumption))).trans (by assumption) | exact (xup_ne (by assumption)).trans xup_self | exact (xup_ne (Ne.symm (by assumption))).trans xup_self) rfl ?_
  refine xr_iload_n C d_KM_replace_4 5 rfl rfl ?_
  refine xr_callV C (l_get hL hja) k_AL_get d_KM_replace_5 8 rfl (by first | assumption | exact xup_self | exact (xup_ne (by assumption)).trans (by assumption) | exact (xup_ne (Ne.symm (by assumption))).trans (by assumption) | exact (xup_ne (by assumption)).trans xup_self | exact (xup_ne (Ne.symm (by assumption))).trans xup_self) rfl (Or.inl q_690) v_AL_get e_AL_get h_AL_get rfl ⟨Nat.le_of_ble_eq_true rfl, Nat.le_of_ble_eq_true rfl, Nat.le_of_ble_eq_true rfl⟩ (by omega) (by omega) (fun v9 X hP => ?_) (fun _ _ h => absurd h.1 (by simp))
  obtain ⟨h1, rfl⟩ := hP
  cases h1
  refine xr_cast C d_KM_replace_8 11 rfl k1 rfl q_691 ?_
  refine xr_astore_n C d_KM_replace_11 12 rfl rfl rfl ?_
  refine xr_new (fs := [.null, .null]) C K_En d_KM_replace_12 15 rfl q_691 q_705 q_28 (by intro j hj; match j, hj with | 0, _ => rfl | 1, _ => rfl) (by omega) (by omega) (fun q9 hq9 => ?_)
  have k1' := xup_fresh (v := .inr (5, [.null, .null])) k1 hq9
  refine xr_dup C d_KM_replace_15 16 rfl rfl ?_
  refine xr_aload_n C d_KM_replace_16 17 rfl rfl ?_
  refine xr_get C K_En 0 d_KM_replace_17 20 rfl q_711 (Or.inl rfl) rfl k1' rfl ?_
  refine xr_aload_n C d_KM_replace_20 21 rfl rfl ?_
  refine xr_callI C (c_En_init xup_self) kc_En_init d_KM_replace_21 24 rfl (Or.inl q_706) v_En_init rfl h_En_init rfl ⟨Nat.le_of_ble_eq_true rfl, Nat.le_of_ble_eq_true rfl, Nat.le_of_ble_eq_true rfl⟩ (by omega) (by omega) (fun v9 X' hP => ?_) (fun _ _ h => absurd h.1 (by simp))
  obtain ⟨h1, rfl⟩ := hP
  cases h1
  refine xG.eqX xup_up ?_
  obtain ⟨I1, hI1d⟩ : ∃ I1, I1 = imUp I q9 (.inr (.inr (p0, vq))) := ⟨_, rfl⟩
  obtain ⟨X1, hX1⟩ : ∃ z, z = xup X q9 (.inr (5, [.ref p0, .ref vq])) := ⟨_, rfl⟩
  refine xG.eqX (show _ = X1 from hX1.symm) ?_
  have hfr0 : xFr [] X X1 := by rw [hX1]; exact xFr_new hq9
  have hI1 : xIm E.D X1 I1 := by rw [hX1, hI1d]; exact hI.new hq9 xup_self
  have hle1 : imX X I I1 := by rw [hI1d]; exact imX_up hI hq9
  have hE1 : imE I1 q9 ((eD es j).1, value) := ⟨p0, vq, by rw [hI1d]; exact imUp_self, hle1.1 _ _ k4, hle1.1 _ _ hv⟩
  obtain ⟨p9, q8, hq9c, -⟩ := hE1.use hI1
  have hM1 : xMap E.D X1 I1 mp la b cap as es := ⟨hfr0.use hmp List.not_mem_nil, hL.keep hfr0 List.not_mem_nil List.not_mem_nil, hE.le hle1.1, hok⟩
  obtain ⟨hmp1, hL1, hE2, -⟩ := id hM1
  obtain ⟨vl1, hl1⟩ := hL1.ob
  obtain ⟨fb1, hb1⟩ := hL1.ar
  have hE0 := hE2.2 j hja
  obtain ⟨p5, q5, k6, -⟩ := hE0.use hI1
  have hu : un ((eD es j).1, value) ≤ 9 := by
    have h1 := hoe0.2.1
    unfold un
    show ((eD es j).1.length + value.length + 15) / 16 ≤ 9
    omega
  have hle0 : un (eD es j) ≤ uns es := by
    have := uns_erase hj
    omega
  refine xr_astore C d_KM_replace_24 26 rfl rfl rfl ?_
  refine xr_aload_n C d_KM_replace_26 27 rfl rfl ?_
  refine xr_get C K_KM 1 d_KM_replace_27 30 rfl q_80 (Or.inl rfl) rfl (by first | assumption | exact xup_self | exact (xup_ne (by assumption)).trans (by assumption) | exact (xup_ne (Ne.symm (by assumption))).trans (by assumption) | exact (xup_ne (by assumption)).trans xup_self | exact (xup_ne (Ne.symm (by assumption))).trans xup_self) rfl ?_
  refine xr_aload_n C d_KM_replace_30 31 rfl rfl ?_
  refine xr_callV C (c_En_units hI1 hE0) k_En_units d_KM_replace_31 34 rfl k6 rfl (Or.inl q_721) v_En_units e_En_units h_En_units rfl ⟨Nat.le_of_ble_eq_true rfl, Nat.le_of_ble_eq_true rfl, Nat.le_of_ble_eq_true rfl⟩ (by omega) (by omega) (fun v9 X1 hP => ?_) (fun _ _ h => absurd h.1 (by simp))
  obtain ⟨h1, rfl⟩ := hP
  cases h1
  refine xr_isub C d_KM_replace_34 35 rfl ?_
  refine xr_toi (show _ = nI (uns es - un (eD es j)) from pk_sub hle0) ?_
  refine xr_aload C d_KM_replace_35 37 rfl rfl ?_
  refine xr_callV C (c_En_units hI1 hE1) k_En_units d_KM_replace_37 40 rfl hq9c rfl (Or.inl q_721) v_En_units e_En_units h_En_units rfl ⟨Nat.le_of_ble_eq_true rfl, Nat.le_of_ble_eq_true rfl, Nat.le_of_ble_eq_true rfl⟩ (by omega) (by omega) (fun v9 X1 hP => ?_) (fun _ _ h => absurd h.1 (by simp))
  obtain ⟨h1, rfl⟩ := hP
  cases h1
  refine xr_iadd C d_KM_replace_40 41 rfl ?_
  refine xr_toi (show _ = nI (uns (es.set j ((eD es j).1, value))) from (nI_add _ _).trans (by congr 1; omega)) ?_
  refine xr_istore C d_KM_replace_41 43 rfl rfl rfl ?_
  refine xr_iload C d_KM_replace_43 45 rfl rfl ?_
  refine xr_sipush (v := 700) C d_KM_replace_45 48 rfl (by decide) ?_
  refine xr_toi (show _ = nI 700 from rfl) ?_
  refine xr_icmp_le C d_KM_replace_48 51 53 rfl (by decide) (fun h48 => ?_) (fun h48 => ?_)
  · have hcd : uns (es.set j ((eD es j).1, value)) ≤ 700 := (nI_leI (by omega) (by omega)).mp h48
    refine xr_aload_n C d_KM_replace_53 54 rfl rfl ?_
    refine xr_get C K_KM 0 d_KM_replace_54 57 rfl q_77 (Or.inl rfl) rfl (by first | assumption | exact xup_self | exact (xup_ne (by assumption)).trans (by assumption) | exact (xup_ne (Ne.symm (by assumption))).trans (by assumption) | exact (xup_ne (by assumption)).trans xup_self | exact (xup_ne (Ne.symm (by assumption))).trans xup_self) rfl ?_
    refine xr_iload_n C d_KM_replace_57 58 rfl rfl ?_
    refine xr_aload C d_KM_replace_58 60 rfl rfl ?_
    refine xr_callV C (l_set hL1 hja (hE1.ob hI1)) k_AL_set d_KM_replace_60 63 rfl (by first | assumption | exact xup_self | exact (xup_ne (by assumption)).trans (by assumption) | exact (xup_ne (Ne.symm (by assumption))).trans (by assumption) | exact (xup_ne (by assumption)).trans xup_self | exact (xup_ne (Ne.symm (by assumption))).trans xup_self) rfl (Or.inl q_725) v_AL_set e_AL_set h_AL_set rfl ⟨Nat.le_of_ble_eq_true rfl, Nat.le_of_ble_eq_true rfl, Nat.le_of_ble_eq_true rfl⟩ (by omega) (by omega) (fun v9 X2 hP => ?_) (fun _ _ h => absurd h.1 (by simp))
    obtain ⟨h1, hL2, hfr2⟩ := hP
    cases h1
    have hI2 := hI1.keepL hL1 hfr2
    have hmp2 : X2 mp = some (.inr (2, [.ref la, .int (nI (uns es))])) := hfr2.use hmp1 (by
      simp only [List.mem_cons, List.not_mem_nil, or_false, not_or]
      exact ⟨xne hmp1 hl1 (by intro h; cases h), xne hmp1 hb1 (by intro h; cases h)⟩)
    refine xr_pop C d_KM_replace_63 64 rfl rfl ?_
    refine xr_aload_n C d_KM_replace_64 65 rfl rfl ?_
    refine xr_iload C d_KM_replace_65 67 rfl rfl ?_
    refine xr_put C K_KM 1 d_KM_replace_67 70 rfl q_80 (Or.inl rfl) rfl rfl rfl rfl (by first | assumption | exact xup_self | exact (xup_ne (by assumption)).trans (by assumption) | exact (xup_ne (Ne.symm (by assumption))).trans (by assumption) | exact (xup_ne (by assumption)).trans xup_self | exact (xup_ne (Ne.symm (by assumption))).trans xup_self) rfl rfl ?_
    refine xr_iconst (v := 1) C d_KM_replace_70 71 rfl (by decide) ?_
    refine xr_zret C d_KM_replace_71 rfl (by omega) (by omega) ⟨by rw [if_pos hcd], ?_⟩
    rw [if_pos hcd]
    refine ⟨I1, b, cap, as.set j q9, hle1, hI2.up1 hmp2 (by decide) (by decide), ⟨xup_self, hL2.keep1 hmp2 (by decide), hE2.set hj hE1, ?_, hcd, ?_⟩, ?_, Or.inl rfl, Nat.le_refl _⟩
    · rw [List.length_set]
      exact hal
    · intro e he
      rcases List.mem_or_eq_of_mem_set he with h | h
      · exact hok.2.2 e h
      · rw [h]
        exact ⟨hoe0.1, hoe0.2.1, hvl⟩
    · refine ((hfr0.mono (fun q hq => absurd hq List.not_mem_nil)).trans (hfr2.mono ?_)).trans (xFr_up hmp2 (fun z => z) (by simp))
      intro q hq
      exact List.mem_cons_of_mem _ hq
  · have hcd : ¬ uns (es.set j ((eD es j).1, value)) ≤ 700 := fun q => h48 (nI_le q (by omega))
    refine xr_iconst (v := 0) C d_KM_replace_51 52 rfl (by decide) ?_
    exact xr_zret C d_KM_replace_52 rfl (by omega) (by omega) ⟨by rw [if_neg hcd], by rw [if_neg hcd]; exact ⟨I1, b, cap, as, hle1, hI1, hM1, hfr0.mono (fun q hq => absurd hq List.not_mem_nil), Or.inl rfl, Nat.le_refl _⟩⟩
end
section
/-! The map: put, swap, remove. -/
def putK (es : List Es) (k v : List Int32) : List Es × List Int32 :=
  if fnb es k < es.length ∧ (eD es (fnb es k)).1 = k then
    if uns (es.set (fnb es k) ((eD es (fnb es k)).1, v)) ≤ 700 then (es.set (fnb es k) ((eD es (fnb es k)).1, v), num 1 1 ++ (eD es (fnb es k)).2) else (es, num 2 1)
  else if es.length < 128 ∧ uns es + un (k, v) ≤ 700 then (insAt es (fnb es k) (k, v), num 0 1) else (es, num 2 1)
def swapK (es : List Es) (k x v : List Int32) : List Es × List Int32 :=
  if fnb es k < es.length ∧ (eD es (fnb es k)).1 = k then
    if (eD es (fnb es k)).2 = x then
      if uns (es.set (fnb es k) ((eD es (fnb es k)).1, v)) ≤ 700 then (es.set (fnb es k) ((eD es (fnb es k)).1, v), num 1 1) else (es, num 2 1)
    else (es, num 0 1 ++ (eD es (fnb es k)).2)
  else (es, num 3 1)
def remK (es : List Es) (k : List Int32) : List Es × List Int32 :=
  if fnb es k < es.length ∧ (eD es (fnb es k)).1 = k then (es.eraseIdx (fnb es k), num 1 1 ++ (eD es (fnb es k)).2) else (es, num 0 1)
set_option maxRecDepth 100000 in
set_option maxHeartbeats 4000000 in
theorem c_KM_put {l : Launch} {D : va_G} {H0 : Heap} {X : xH} {mp la b cap : Nat} {as : List Nat} {es : List Es} {I : Nat → Option Imm} (hI : xIm D X I) (hM : xMap D X I mp la b cap as es) {r br rc : Nat} (hR : xRow D X r br rc []) (hb : I br = none) {kq : Nat} {key : List Int32} (hk : I kq = some (.inl key)) {vq : Nat} {value : List Int32} (hv : I vq = some (.inl value)) (hoe : okE (key, value)) (hEm : I (D.2 200 0) = some (.inl [])) : xMet l D H0 y_KM_put b_KM_put 8 none [] 6 2 202 [.ref mp, .ref kq, .ref vq, .ref r] X (fun o X' => o = .inl none ∧ xQ D X X' I r br rc mp la b cap (putK es key value).1 (putK es key value).2) := by
  have hM0 := hM
  obtain ⟨hmp, hL, hE, hok⟩ := hM
  obtain ⟨vl, hl⟩ := hL.ob
  have hlen := hE.1
  have hle := hL.len
  have hrg := hR.ge
  obtain ⟨fr0, hbr0⟩ := hR.arr
  have hfl := fnb_le key es
  refine ⟨[some (.ref mp), some (.ref kq), some (.ref vq), some (.ref r), none, none, none, none], rfl, Nat.le_of_ble_eq_true rfl, fun E hD hH hl _ C => ?_⟩
  subst hD
  subst hH
  subst hl
  have fail : ∀ (X1 : xH) (I1 : Nat → Option Imm) (b1 cap1 c s : Nat) (as1 : List Nat) (h : Int32) (bq : Nat) (es1 : List Es), imX X I I1 → xIm E.D X1 I1 → xMap E.D X1 I1 mp la b1 cap1 as1 es1 → xFr [mp, la, b] X X1 → (b1 = b ∨ X b1 = none) → cap ≤ cap1 → c ≤ 2 → s ≤ 202 → putK es key value = (es1, num 2 1) → xG E X1 c s 67 [some (.ref mp), some (.ref kq), some (.ref vq), some (.ref r), some (.int (nI (fnb es key))), some (.int h), some (.ref bq), none] [.int 0] := by
    intro X1 I1 b1 cap1 c s as1 h bq es1 m1 m2 m3 m4 m5 m6 hc1 hs1 hpk
    have hR1 := hR.keepM hM0 m4
    have hr1 := hR1.at
    have hb1 := m1.2 _ _ hbr0 hb
    refine xr_istore C d_KM_put_67 69 rfl rfl rfl ?_
    refine xr_iload C d_KM_put_69 71 rfl rfl ?_
    refine xr_if_ne C d_KM_put_71 74 81 rfl (by decide) (fun h => absurd rfl h) (fun _ => ?_)
    refine xr_aload_n C d_KM_put_74 75 rfl rfl ?_
    refine xr_iconst (v := 2) C d_KM_put_75 76 rfl (by decide) ?_
    refine xr_iconst (v := 1) C d_KM_put_76 77 rfl (by decide) ?_
    refine xr_callV C (n_addNumber (v := 2) (n := 1) m2 hR1 hb1 (by omega) (by rw [List.length_nil]; omega)) k_Ro_addNumber d_KM_put_77 80 rfl hr1 rfl (Or.inl q_751) v_Ro_addNumber e_Ro_addNumber h_Ro_addNumber rfl ⟨Nat.le_of_ble_eq_true rfl, Nat.le_of_ble_eq_true rfl, Nat.le_of_ble_eq_true rfl⟩ (by omega) (by omega) (fun v9 X' hP => ?_) (fun _ _ h => absurd h.1 (by simp))
    obtain ⟨e1, hS⟩ := hP
    cases e1
    rw [List.nil_append] at hS
    refine xr_vret C d_KM_put_80 (by omega) (by omega) ⟨rfl, ?_⟩
    rw [hpk]
    exact xQ_mk m1 m3 m4 m5 m6 hR1 hS
  have done : ∀ (X1 : xH) (I1 : Nat → Option Imm) (b1 cap1 c s : Nat) (as1 : List Nat) (h : Int32) (bq : Nat) (es1 : List Es) (bef : List Int32), imX X I I1 → xIm E.D X1 I1 → xMap E.D X1 I1 mp la b1 cap1 as1 es1 → xFr [mp, la, b] X X1 → (b1 = b ∨ X b1 = none) → cap ≤ cap1 → c ≤ 2 → s ≤ 202 → (h = 0 ∨ h = 1) → I1 bq = some (.inl bef) → bef.length ≤ 100 → putK es key value = (es1, num h 1 ++ bef) → xG E X1 c s 67 [some (.ref mp), some (.ref kq), some (.ref vq), some (.ref r), some (.int (nI (fnb es key))), some (.int h), some (.ref bq), none] [.int 1] := by
    intro X1 I1 b1 cap1 c s as1 h bq es1 bef m1 m2 m3 m4 m5 m6 hc1 hs1 hh hbe hbl hpk
    have hR1 := hR.keepM hM0 m4
    have hr1 := hR1.at
    have hb1 := m1.2 _ _ hbr0 hb
    have t92 : xG E X1 c s 92 [some (.ref mp), some (.ref kq), some (.ref vq), some (.ref r), some (.int (nI (fnb es key))), some (.int h), some (.ref bq), some (.int 1)] [.int h, .ref r] := by
      refine xr_iconst (v := 1) C d_KM_put_92 93 rfl (by decide) ?_
      refine xr_callV C (n_addNumber (v := h) (n := 1) m2 hR1 hb1 (by omega) (by rw [List.length_nil]; omega)) k_Ro_addNumber d_KM_put_93 96 rfl hr1 rfl (Or.inl q_751) v_Ro_addNumber e_Ro_addNumber h_Ro_addNumber rfl ⟨Nat.le_of_ble_eq_true rfl, Nat.le_of_ble_eq_true rfl, Nat.le_of_ble_eq_true rfl⟩ (by omega) (by omega) (fun v9 X' hP => ?_) (fun _ _ h => absurd h.1 (by simp))
      obtain ⟨e1, hS⟩ := hP
      cases e1
      obtain ⟨br2, hR2, hb2, hI2, hf2, hn2⟩ := hS
      have hr2 := hR2.at
      refine xr_aload_n C d_KM_put_96 97 rfl rfl ?_
      refine xr_aload C d_KM_put_97 99 rfl rfl ?_
      refine xr_callV C (n_addAll hI2 hR2 hb2 hbe (by simp only [List.length_append, num_len, List.length_nil]; omega)) k_Ro_addAll d_KM_put_99 102 rfl hr2 rfl (Or.inl q_755) v_Ro_addAll e_Ro_addAll h_Ro_addAll rfl ⟨Nat.le_of_ble_eq_true rfl, Nat.le_of_ble_eq_true rfl, Nat.le_of_ble_eq_true rfl⟩ (by omega) (by omega) (fun v9 X' hP => ?_) (fun _ _ h => absurd h.1 (by simp))
      obtain ⟨e1, hS⟩ := hP
      cases e1
      replace hS := xRs.then hf2 hn2 hS
      rw [List.nil_append] at hS
      refine xr_vret C d_KM_put_102 (by omega) (by omega) ⟨rfl, ?_⟩
      rw [hpk]
      exact xQ_mk m1 m3 m4 m5 m6 hR1 hS
    refine xr_istore C d_KM_put_67 69 rfl rfl rfl ?_
    refine xr_iload C d_KM_put_69 71 rfl rfl ?_
    refine xr_if_ne C d_KM_put_71 74 81 rfl (by decide) (fun _ => ?_) (fun h => absurd h (by decide))
    refine xr_aload_n C d_KM_put_81 82 rfl rfl ?_
    refine xr_iload C d_KM_put_82 84 rfl rfl ?_
    rcases hh with e | e
    · subst e
      refine xr_if_eq C d_KM_put_84 87 91 rfl (by decide) (fun _ => ?_) (fun h => absurd rfl h)
      refine xr_iconst (v := 0) C d_KM_put_91 92 rfl (by decide) ?_
      exact t92
    · subst e
      refine xr_if_eq C d_KM_put_84 87 91 rfl (by decide) (fun h => absurd h (by decide)) (fun _ => ?_)
      refine xr_iconst (v := 1) C d_KM_put_87 88 rfl (by decide) ?_
      refine xr_goto C d_KM_put_88 92 (by decide) ?_
      exact t92
  refine xr_aload_n C d_KM_put_0 1 rfl rfl ?_
  refine xr_aload_n C d_KM_put_1 2 rfl rfl ?_
  refine xr_callV C (c_KM_firstNotBelow hI hM0 (hI _ _ hk)) k_KM_firstNotBelow d_KM_put_2 5 rfl (by first | assumption | exact xup_self | exact (xup_ne (by assumption)).trans (by assumption) | exact (xup_ne (Ne.symm (by assumption))).trans (by assumption) | exact (xup_ne (by assumption)).trans xup_self | exact (xup_ne (Ne.symm (by assumption))).trans xup_self) rfl (Or.inl q_685) v_KM_firstNotBelow e_KM_firstNotBelow h_KM_firstNotBelow rfl ⟨Nat.le_of_ble_eq_true rfl, Nat.le_of_ble_eq_true rfl, Nat.le_of_ble_eq_true rfl⟩ (by omega) (by omega) (fun v9 X hP => ?_) (fun _ _ h => absurd h.1 (by simp))
  obtain ⟨h1, rfl⟩ := hP
  cases h1
  refine xr_istore C d_KM_put_5 7 rfl rfl rfl ?_
  refine xr_aload_n C d_KM_put_7 8 rfl rfl ?_
  refine xr_iload C d_KM_put_8 10 rfl rfl ?_
  refine xr_aload_n C d_KM_put_10 11 rfl rfl ?_
  refine xr_callV C (c_KM_isAt hI hM0 (hI _ _ hk) (by omega)) k_KM_isAt d_KM_put_11 14 rfl (by first | assumption | exact xup_self | exact (xup_ne (by assumption)).trans (by assumption) | exact (xup_ne (Ne.symm (by assumption))).trans (by assumption) | exact (xup_ne (by assumption)).trans xup_self | exact (xup_ne (Ne.symm (by assumption))).trans xup_self) rfl (Or.inl q_696) v_KM_isAt e_KM_isAt h_KM_isAt rfl ⟨Nat.le_of_ble_eq_true rfl, Nat.le_of_ble_eq_true rfl, Nat.le_of_ble_eq_true rfl⟩ (by omega) (by omega) (fun v9 X hP => ?_) (fun _ _ h => absurd h.1 (by simp))
  obtain ⟨h1, rfl⟩ := hP
  cases h1
  by_cases hc : fnb es key < es.length ∧ (eD es (fnb es key)).1 = key
  · have i1 : fnb es key < as.length := by omega
    obtain ⟨p, q, k1, k2, k3, k4, k5⟩ := (hE.2 _ i1).use hI
    have hok1 := hok.2.2 _ (eD_mem hc.1)
    refine xr_toi (if_pos hc) ?_
    refine xr_istore C d_KM_put_14 16 rfl rfl rfl ?_
    refine xr_iload C d_KM_put_16 18 rfl rfl ?_
    refine xr_if_eq C d_KM_put_18 21 39 rfl (by decide) (fun h => absurd h (by decide)) (fun _ => ?_)
    refine xr_aload_n C d_KM_put_21 22 rfl rfl ?_
    refine xr_get C K_KM 0 d_KM_put_22 25 rfl q_77 (Or.inl rfl) rfl (by first | assumption | exact xup_self | exact (xup_ne (by assumption)).trans (by assumption) | exact (xup_ne (Ne.symm (by assumption))).trans (by assumption) | exact (xup_ne (by assumption)).trans xup_self | exact (xup_ne (Ne.symm (by assumption))).trans xup_self) rfl ?_
    refine xr_iload C d_KM_put_25 27 rfl rfl ?_
    refine xr_callV C (l_get hL i1) k_AL_get d_KM_put_27 30 rfl (by first | assumption | exact xup_self | exact (xup_ne (by assumption)).trans (by assumption) | exact (xup_ne (Ne.symm (by assumption))).trans (by assumption) | exact (xup_ne (by assumption)).trans xup_self | exact (xup_ne (Ne.symm (by assumption))).trans xup_self) rfl (Or.inl q_690) v_AL_get e_AL_get h_AL_get rfl ⟨Nat.le_of_ble_eq_true rfl, Nat.le_of_ble_eq_true rfl, Nat.le_of_ble_eq_true rfl⟩ (by omega) (by omega) (fun v9 X hP => ?_) (fun _ _ h => absurd h.1 (by simp))
    obtain ⟨h1, rfl⟩ := hP
    cases h1
    refine xr_cast C d_KM_put_30 33 rfl k1 rfl q_691 ?_
    refine xr_get C K_En 1 d_KM_put_33 36 rfl q_714 (Or.inl rfl) rfl (by first | assumption | exact xup_self | exact (xup_ne (by assumption)).trans (by assumption) | exact (xup_ne (Ne.symm (by assumption))).trans (by assumption) | exact (xup_ne (by assumption)).trans xup_self | exact (xup_ne (Ne.symm (by assumption))).trans xup_self) rfl ?_
    refine xr_goto C d_KM_put_36 42 (by decide) ?_
    refine xr_astore C d_KM_put_42 44 rfl rfl rfl ?_
    refine xr_iload C d_KM_put_44 46 rfl rfl ?_
    refine xr_if_eq C d_KM_put_46 49 59 rfl (by decide) (fun h => absurd h (by decide)) (fun _ => ?_)
    refine xr_aload_n C d_KM_put_49 50 rfl rfl ?_
    refine xr_iload C d_KM_put_50 52 rfl rfl ?_
    refine xr_aload_n C d_KM_put_52 53 rfl rfl ?_
    refine xr_callV C (c_KM_replace hI hM0 hv hc.1 hoe.2.2) k_KM_replace d_KM_put_53 56 rfl (by first | assumption | exact xup_self | exact (xup_ne (by assumption)).trans (by assumption) | exact (xup_ne (Ne.symm (by assumption))).trans (by assumption) | exact (xup_ne (by assumption)).trans xup_self | exact (xup_ne (Ne.symm (by assumption))).trans xup_self) rfl (Or.inl q_701) v_KM_replace e_KM_replace h_KM_replace rfl ⟨Nat.le_of_ble_eq_true rfl, Nat.le_of_ble_eq_true rfl, Nat.le_of_ble_eq_true rfl⟩ (by omega) (by omega) (fun v9 X1 hP => ?_) (fun _ _ h => absurd h.1 (by simp))
    obtain ⟨e1, I1, b1, cap1, as1, m1, m2, m3, m4, m5, m6⟩ := hP
    cases e1
    refine xr_goto C d_KM_put_56 67 (by decide) ?_
    by_cases hcd : uns (es.set (fnb es key) ((eD es (fnb es key)).1, value)) ≤ 700
    · rw [if_pos hcd] at m3
      refine xr_toi (if_pos hcd) ?_
      exact done X1 I1 b1 cap1 _ _ as1 1 q _ (eD es (fnb es key)).2 m1 m2 m3 m4 m5 m6 (by omega) (by omega) (Or.inr rfl) (m1.1 _ _ k5) hok1.2.2 (by unfold putK; rw [if_pos hc, if_pos hcd])
    · rw [if_neg hcd] at m3
      refine xr_toi (if_neg hcd) ?_
      exact fail X1 I1 b1 cap1 _ _ as1 1 q _ m1 m2 m3 m4 m5 m6 (by omega) (by omega) (by unfold putK; rw [if_pos hc, if_neg hcd])
  · refine xr_toi (if_neg hc) ?_
    refine xr_istore C d_KM_put_14 16 rfl rfl rfl ?_
    refine xr_iload C d_KM_put_16 18 rfl rfl ?_
    refine xr_if_eq C d_KM_put_18 21 39 rfl (by decide) (fun _ => ?_) (fun h => absurd rfl h)
    refine xr_gets C C.kk.2.2.1 d_KM_put_39 42 rfl (Or.inr ⟨_, q_700⟩) ?_
    refine xr_astore C d_KM_put_42 44 rfl rfl rfl ?_
    refine xr_iload C d_KM_put_44 46 rfl rfl ?_
    refine xr_if_eq C d_KM_put_46 49 59 rfl (by decide) (fun _ => ?_) (fun h => absurd rfl h)
    refine xr_aload_n C d_KM_put_59 60 rfl rfl ?_
    refine xr_iload C d_KM_put_60 62 rfl rfl ?_
    refine xr_aload_n C d_KM_put_62 63 rfl rfl ?_
    refine xr_aload_n C d_KM_put_63 64 rfl rfl ?_
    refine xr_callV C (c_KM_insert hI hM0 hk hv hfl hoe) k_KM_insert d_KM_put_64 67 rfl (by first | assumption | exact xup_self | exact (xup_ne (by assumption)).trans (by assumption) | exact (xup_ne (Ne.symm (by assumption))).trans (by assumption) | exact (xup_ne (by assumption)).trans xup_self | exact (xup_ne (Ne.symm (by assumption))).trans xup_self) rfl (Or.inl q_726) v_KM_insert e_KM_insert h_KM_insert rfl ⟨Nat.le_of_ble_eq_true rfl, Nat.le_of_ble_eq_true rfl, Nat.le_of_ble_eq_true rfl⟩ (by omega) (by omega) (fun v9 X1 hP => ?_) (fun _ _ h => absurd h.1 (by simp))
    obtain ⟨e1, I1, b1, cap1, as1, m1, m2, m3, m4, m5, m6⟩ := hP
    cases e1
    by_cases hcd : es.length < 128 ∧ uns es + un (key, value) ≤ 700
    · rw [if_pos hcd] at m3
      refine xr_toi (if_pos hcd) ?_
      exact done X1 I1 b1 cap1 _ _ as1 0 _ _ [] m1 m2 m3 m4 m5 m6 (by omega) (by omega) (Or.inl rfl) (m1.1 _ _ hEm) (by rw [List.length_nil]; omega) (by unfold putK; rw [if_neg hc, if_pos hcd]; rfl)
    · rw [if_neg hcd] at m3
      refine xr_toi (if_neg hcd) ?_
      exact fail X1 I1 b1 cap1 _ _ as1 0 _ _ m1 m2 m3 m4 m5 m6 (by omega) (by omega) (by unfold putK; rw [if_neg hc, if_neg hcd])
set_option maxRecDepth 100000 in
set_option maxHeartbeats 4000000 in
theorem c_KM_swap {l : Launch} {D : va_G} {H0 : Heap} {X : xH} {mp la b cap : Nat} {as : List Nat} {es : List Es} {I : Nat → Option Imm} (hI : xIm D X I) (hM : xMap D X I mp la b cap as es) {r br rc : Nat} (hR : xRow D X r br rc []) (hb : I br = none) {kq : Nat} {key : List Int32} (hk : I kq = some (.inl key)) {xq vq : Nat} {expd value : List Int32} (hx : I xq = some (.inl expd)) (hv : I vq = some (.inl value)) (hvl : value.length ≤ 100) : xMet l D H0 y_KM_swap b_KM_swap 7 none [] 5 1 2 [.ref mp, .ref kq, .ref xq, .ref vq, .ref r] X (fun o X' => o = .inl none ∧ xQ D X X' I r br rc mp la b cap (swapK es key expd value).1 (swapK es key expd value).2) := by
  have hM0 := hM
  obtain ⟨hmp, hL, hE, hok⟩ := hM
  obtain ⟨vl, hl⟩ := hL.ob
  have hlen := hE.1
  have hle := hL.len
  have hrg := hR.ge
  obtain ⟨fr0, hbr0⟩ := hR.arr
  have hfl := fnb_le key es
  refine ⟨[some (.ref mp), some (.ref kq), some (.ref xq), some (.ref vq), some (.ref r), none, none], rfl, Nat.le_of_ble_eq_true rfl, fun E hD hH hl _ C => ?_⟩
  subst hD
  subst hH
  subst hl
  refine xr_aload_n C d_KM_swap_0 1 rfl rfl ?_
  refine xr_aload_n C d_KM_swap_1 2 rfl rfl ?_
  refine xr_callV C (c_KM_indexOf hI hM0 (hI _ _ hk)) k_KM_indexOf d_KM_swap_2 5 rfl (by first | assumption | exact xup_self | exact (xup_ne (by assumption)).trans (by assumption) | exact (xup_ne (Ne.symm (by assumption))).trans (by assumption) | exact (xup_ne (by assumption)).trans xup_self | exact (xup_ne (Ne.symm (by assumption))).trans xup_self) rfl (Or.inl q_760) v_KM_indexOf e_KM_indexOf h_KM_indexOf rfl ⟨Nat.le_of_ble_eq_true rfl, Nat.le_of_ble_eq_true rfl, Nat.le_of_ble_eq_true rfl⟩ (by omega) (by omega) (fun v9 X hP => ?_) (fun _ _ h => absurd h.1 (by simp))
  obtain ⟨h1, rfl⟩ := hP
  cases h1
  by_cases hc : fnb es key < es.length ∧ (eD es (fnb es key)).1 = key
  · refine xr_toi (show _ = nI (fnb es key) by unfold ixK; rw [if_pos hc]) ?_
    have i1 : fnb es key < as.length := by omega
    obtain ⟨p, q, k1, k2, k3, k4, k5⟩ := (hE.2 _ i1).use hI
    have hok1 := hok.2.2 _ (eD_mem hc.1)
    refine xr_istore C d_KM_swap_5 7 rfl rfl rfl ?_
    refine xr_iload C d_KM_swap_7 9 rfl rfl ?_
    refine xr_iconst (v := (-1)) C d_KM_swap_9 10 rfl (by decide) ?_
    refine xr_icmp_ne C d_KM_swap_10 13 21 rfl (by decide) (fun _ => ?_) (fun h => absurd (show nI (fnb es key) < 0 by rw [h]; decide) (nI_pos (by omega)))
    refine xr_aload_n C d_KM_swap_21 22 rfl rfl ?_
    refine xr_get C K_KM 0 d_KM_swap_22 25 rfl q_77 (Or.inl rfl) rfl (by first | assumption | exact xup_self | exact (xup_ne (by assumption)).trans (by assumption) | exact (xup_ne (Ne.symm (by assumption))).trans (by assumption) | exact (xup_ne (by assumption)).trans xup_self | exact (xup_ne (Ne.symm (by assumption))).trans xup_self) rfl ?_
    refine xr_iload C d_KM_swap_25 27 rfl rfl ?_
    refine xr_callV C (l_get hL i1) k_AL_get d_KM_swap_27 30 rfl (by first | assumption | exact xup_self | exact (xup_ne (by assumption)).trans (by assumption) | exact (xup_ne (Ne.symm (by assumption))).trans (by assumption) | exact (xup_ne (by assumption)).trans xup_self | exact (xup_ne (Ne.symm (by assumption))).trans xup_self) rfl (Or.inl q_690) v_AL_get e_AL_get h_AL_get rfl ⟨Nat.le_of_ble_eq_true rfl, Nat.le_of_ble_eq_true rfl, Nat.le_of_ble_eq_true rfl⟩ (by omega) (by omega) (fun v9 X hP => ?_) (fun _ _ h => absurd h.1 (by simp))
    obtain ⟨h1, rfl⟩ := hP
    cases h1
    refine xr_cast C d_KM_swap_30 33 rfl k1 rfl q_691 ?_
    refine xr_get C K_En 1 d_KM_swap_33 36 rfl q_714 (Or.inl rfl) rfl (by first | assumption | exact xup_self | exact (xup_ne (by assumption)).trans (by assumption) | exact (xup_ne (Ne.symm (by assumption))).trans (by assumption) | exact (xup_ne (by assumption)).trans xup_self | exact (xup_ne (Ne.symm (by assumption))).trans xup_self) rfl ?_
    refine xr_astore C d_KM_swap_36 38 rfl rfl rfl ?_
    refine xr_aload C d_KM_swap_38 40 rfl rfl ?_
    refine xr_aload_n C d_KM_swap_40 41 rfl rfl ?_
    refine xr_callS C (c_TK_compare k3 (hI _ _ hx)) k_TK_compare d_KM_swap_41 44 rfl (Or.inr ⟨_, q_692⟩) s_TK_compare in_TK_compare h_TK_compare rfl ⟨Nat.le_of_ble_eq_true rfl, Nat.le_of_ble_eq_true rfl, Nat.le_of_ble_eq_true rfl⟩ (by omega) (by omega) (fun v9 X hP => ?_) (fun _ _ h => by obtain ⟨v, h, -⟩ := h; cases h)
    obtain ⟨v, h1, rfl, c1, c2⟩ := hP
    cases h1
    refine xr_if_eq C d_KM_swap_44 47 62 rfl (by decide) (fun j44 => ?_) (fun j44 => ?_)
    · have hx2 := c1.mp j44
      refine xr_aload C d_KM_swap_62 64 rfl rfl ?_
      refine xr_aload_n C d_KM_swap_64 65 rfl rfl ?_
      refine xr_iload C d_KM_swap_65 67 rfl rfl ?_
      refine xr_aload_n C d_KM_swap_67 68 rfl rfl ?_
      refine xr_callV C (c_KM_replace hI hM0 hv hc.1 hvl) k_KM_replace d_KM_swap_68 71 rfl (by first | assumption | exact xup_self | exact (xup_ne (by assumption)).trans (by assumption) | exact (xup_ne (Ne.symm (by assumption))).trans (by assumption) | exact (xup_ne (by assumption)).trans xup_self | exact (xup_ne (Ne.symm (by assumption))).trans xup_self) rfl (Or.inl q_701) v_KM_replace e_KM_replace h_KM_replace rfl ⟨Nat.le_of_ble_eq_true rfl, Nat.le_of_ble_eq_true rfl, Nat.le_of_ble_eq_true rfl⟩ (by omega) (by omega) (fun v9 X1 hP => ?_) (fun _ _ h => absurd h.1 (by simp))
      obtain ⟨e1, I1, b1, cap1, as1, m1, m2, m3, m4, m5, m6⟩ := hP
      cases e1
      have hR1 := hR.keepM hM0 m4
      have hr1 := hR1.at
      have hb1 := m1.2 _ _ hbr0 hb
      by_cases hcd : uns (es.set (fnb es key) ((eD es (fnb es key)).1, value)) ≤ 700
      · rw [if_pos hcd] at m3
        refine xr_toi (if_pos hcd) ?_
        refine xr_if_eq C d_KM_swap_71 74 78 rfl (by decide) (fun h => absurd h (by decide)) (fun _ => ?_)
        refine xr_iconst (v := 1) C d_KM_swap_74 75 rfl (by decide) ?_
        refine xr_goto C d_KM_swap_75 79 (by decide) ?_
        refine xr_iconst (v := 1) C d_KM_swap_79 80 rfl (by decide) ?_
        refine xr_callV C (n_addNumber (v := 1) (n := 1) m2 hR1 hb1 (by omega) (by rw [List.length_nil]; omega)) k_Ro_addNumber d_KM_swap_80 83 rfl hr1 rfl (Or.inl q_751) v_Ro_addNumber e_Ro_addNumber h_Ro_addNumber rfl ⟨Nat.le_of_ble_eq_true rfl, Nat.le_of_ble_eq_true rfl, Nat.le_of_ble_eq_true rfl⟩ (by omega) (by omega) (fun v9 X' hP => ?_) (fun _ _ h => absurd h.1 (by simp))
        obtain ⟨e1, hS⟩ := hP
        cases e1
        rw [List.nil_append] at hS
        refine xr_vret C d_KM_swap_83 (by omega) (by omega) ⟨rfl, ?_⟩
        rw [show swapK es key expd value = (es.set (fnb es key) ((eD es (fnb es key)).1, value), num 1 1) by unfold swapK; rw [if_pos hc, if_pos hx2, if_pos hcd]]
        exact xQ_mk m1 m3 m4 m5 m6 hR1 hS
      · rw [if_neg hcd] at m3
        refine xr_toi (if_neg hcd) ?_
        refine xr_if_eq C d_KM_swap_71 74 78 rfl (by decide) (fun _ => ?_) (fun h => absurd rfl h)
        refine xr_iconst (v := 2) C d_KM_swap_78 79 rfl (by decide) ?_
        refine xr_iconst (v := 1) C d_KM_swap_79 80 rfl (by decide) ?_
        refine xr_callV C (n_addNumber (v := 2) (n := 1) m2 hR1 hb1 (by omega) (by rw [List.length_nil]; omega)) k_Ro_addNumber d_KM_swap_80 83 rfl hr1 rfl (Or.inl q_751) v_Ro_addNumber e_Ro_addNumber h_Ro_addNumber rfl ⟨Nat.le_of_ble_eq_true rfl, Nat.le_of_ble_eq_true rfl, Nat.le_of_ble_eq_true rfl⟩ (by omega) (by omega) (fun v9 X' hP => ?_) (fun _ _ h => absurd h.1 (by simp))
        obtain ⟨e1, hS⟩ := hP
        cases e1
        rw [List.nil_append] at hS
        refine xr_vret C d_KM_swap_83 (by omega) (by omega) ⟨rfl, ?_⟩
        rw [show swapK es key expd value = (es, num 2 1) by unfold swapK; rw [if_pos hc, if_pos hx2, if_neg hcd]]
        exact xQ_mk m1 m3 m4 m5 m6 hR1 hS
    · have hx2 : ¬ (eD es (fnb es key)).2 = expd := fun h => j44 (c1.mpr h)
      refine xr_aload C d_KM_swap_47 49 rfl rfl ?_
      refine xr_iconst (v := 0) C d_KM_swap_49 50 rfl (by decide) ?_
      refine xr_iconst (v := 1) C d_KM_swap_50 51 rfl (by decide) ?_
      have hr0 := hR.at
      refine xr_callV C (n_addNumber (v := 0) (n := 1) hI hR hb (by omega) (by rw [List.length_nil]; omega)) k_Ro_addNumber d_KM_swap_51 54 rfl hr0 rfl (Or.inl q_751) v_Ro_addNumber e_Ro_addNumber h_Ro_addNumber rfl ⟨Nat.le_of_ble_eq_true rfl, Nat.le_of_ble_eq_true rfl, Nat.le_of_ble_eq_true rfl⟩ (by omega) (by omega) (fun v9 X' hP => ?_) (fun _ _ h => absurd h.1 (by simp))
      obtain ⟨e1, hS⟩ := hP
      cases e1
      obtain ⟨br2, hR2, hb2, hI2, hf2, hn2⟩ := hS
      have hr2 := hR2.at
      refine xr_aload C d_KM_swap_54 56 rfl rfl ?_
      refine xr_aload C d_KM_swap_56 58 rfl rfl ?_
      refine xr_callV C (n_addAll hI2 hR2 hb2 k5 (by simp only [List.length_append, num_len, List.length_nil]; have := hok1.2.2; omega)) k_Ro_addAll d_KM_swap_58 61 rfl hr2 rfl (Or.inl q_755) v_Ro_addAll e_Ro_addAll h_Ro_addAll rfl ⟨Nat.le_of_ble_eq_true rfl, Nat.le_of_ble_eq_true rfl, Nat.le_of_ble_eq_true rfl⟩ (by omega) (by omega) (fun v9 X' hP => ?_) (fun _ _ h => absurd h.1 (by simp))
      obtain ⟨e1, hS⟩ := hP
      cases e1
      replace hS := xRs.then hf2 hn2 hS
      rw [List.nil_append] at hS
      refine xr_vret C d_KM_swap_61 (by omega) (by omega) ⟨rfl, ?_⟩
      rw [show swapK es key expd value = (es, num 0 1 ++ (eD es (fnb es key)).2) by unfold swapK; rw [if_pos hc, if_neg hx2]]
      exact hS.q hM0 hR
  · refine xr_toi (show _ = -1 by unfold ixK; rw [if_neg hc]) ?_
    refine xr_istore C d_KM_swap_5 7 rfl rfl rfl ?_
    refine xr_iload C d_KM_swap_7 9 rfl rfl ?_
    refine xr_iconst (v := (-1)) C d_KM_swap_9 10 rfl (by decide) ?_
    refine xr_icmp_ne C d_KM_swap_10 13 21 rfl (by decide) (fun h => absurd rfl h) (fun _ => ?_)
    refine xr_aload C d_KM_swap_13 15 rfl rfl ?_
    refine xr_iconst (v := 3) C d_KM_swap_15 16 rfl (by decide) ?_
    refine xr_iconst (v := 1) C d_KM_swap_16 17 rfl (by decide) ?_
    have hr0 := hR.at
    refine xr_callV C (n_addNumber (v := 3) (n := 1) hI hR hb (by omega) (by rw [List.length_nil]; omega)) k_Ro_addNumber d_KM_swap_17 20 rfl hr0 rfl (Or.inl q_751) v_Ro_addNumber e_Ro_addNumber h_Ro_addNumber rfl ⟨Nat.le_of_ble_eq_true rfl, Nat.le_of_ble_eq_true rfl, Nat.le_of_ble_eq_true rfl⟩ (by omega) (by omega) (fun v9 X' hP => ?_) (fun _ _ h => absurd h.1 (by simp))
    obtain ⟨e1, hS⟩ := hP
    cases e1
    rw [List.nil_append] at hS
    refine xr_vret C d_KM_swap_20 (by omega) (by omega) ⟨rfl, ?_⟩
    rw [show swapK es key expd value = (es, num 3 1) by unfold swapK; rw [if_neg hc]]
    exact hS.q hM0 hR
set_option maxRecDepth 100000 in
set_option maxHeartbeats 4000000 in
theorem c_KM_remove {l : Launch} {D : va_G} {H0 : Heap} {X : xH} {mp la b cap : Nat} {as : List Nat} {es : List Es} {I : Nat → Option Imm} (hI : xIm D X I) (hM : xMap D X I mp la b cap as es) {r br rc : Nat} (hR : xRow D X r br rc []) (hb : I br = none) {kq : Nat} {key : List Int32} (hk : I kq = some (.inl key)) : xMet l D H0 y_KM_remove b_KM_remove 4 none [] 5 0 0 [.ref mp, .ref kq, .ref r] X (fun o X' => o = .inl none ∧ xQ D X X' I r br rc mp la b cap (remK es key).1 (remK es key).2) := by
  have hM0 := hM
  obtain ⟨hmp, hL, hE, hok⟩ := hM
  obtain ⟨vl, hl⟩ := hL.ob
  have hlen := hE.1
  have hle := hL.len
  have hrg := hR.ge
  have hfl := fnb_le key es
  refine ⟨[some (.ref mp), some (.ref kq), some (.ref r), none], rfl, Nat.le_of_ble_eq_true rfl, fun E hD hH hl _ C => ?_⟩
  subst hD
  subst hH
  subst hl
  refine xr_aload_n C d_KM_remove_0 1 rfl rfl ?_
  refine xr_aload_n C d_KM_remove_1 2 rfl rfl ?_
  refine xr_callV C (c_KM_indexOf hI hM0 (hI _ _ hk)) k_KM_indexOf d_KM_remove_2 5 rfl (by first | assumption | exact xup_self | exact (xup_ne (by assumption)).trans (by assumption) | exact (xup_ne (Ne.symm (by assumption))).trans (by assumption) | exact (xup_ne (by assumption)).trans xup_self | exact (xup_ne (Ne.symm (by assumption))).trans xup_self) rfl (Or.inl q_760) v_KM_indexOf e_KM_indexOf h_KM_indexOf rfl ⟨Nat.le_of_ble_eq_true rfl, Nat.le_of_ble_eq_true rfl, Nat.le_of_ble_eq_true rfl⟩ (by omega) (by omega) (fun v9 X hP => ?_) (fun _ _ h => absurd h.1 (by simp))
  obtain ⟨h1, rfl⟩ := hP
  cases h1
  refine xr_istore_n C d_KM_remove_5 6 rfl rfl rfl ?_
  refine xr_aload_n C d_KM_remove_6 7 rfl rfl ?_
  refine xr_iload_n C d_KM_remove_7 8 rfl rfl ?_
  refine xr_aload_n C d_KM_remove_8 9 rfl rfl ?_
  refine xr_callV C (c_KM_tellValue hI hM0 hR hb) k_KM_tellValue d_KM_remove_9 12 rfl (by first | assumption | exact xup_self | exact (xup_ne (by assumption)).trans (by assumption) | exact (xup_ne (Ne.symm (by assumption))).trans (by assumption) | exact (xup_ne (by assumption)).trans xup_self | exact (xup_ne (Ne.symm (by assumption))).trans xup_self) rfl (Or.inl q_768) v_KM_tellValue e_KM_tellValue h_KM_tellValue rfl ⟨Nat.le_of_ble_eq_true rfl, Nat.le_of_ble_eq_true rfl, Nat.le_of_ble_eq_true rfl⟩ (by omega) (by omega) (fun v9 X1 hP => ?_) (fun _ _ h => absurd h.1 (by simp))
  obtain ⟨e1, hS⟩ := hP
  cases e1
  by_cases hc : fnb es key < es.length ∧ (eD es (fnb es key)).1 = key
  · have e0 : ixK es key = nI (fnb es key) := by unfold ixK; rw [if_pos hc]
    refine xG.eqL (show _ = [some (.ref mp), some (.ref kq), some (.ref r), some (.int (nI (fnb es key)))] by rw [e0]; rfl) ?_
    have i1 : fnb es key < as.length := by omega
    have hrk : remK es key = (es.eraseIdx (fnb es key), tvK es key) := by unfold remK tvK; rw [if_pos hc, if_pos hc]
    obtain ⟨br1, hR1, hb1, hI1, hf1, hn1⟩ := hS
    have hM1 := hM0.keepR hR hf1
    obtain ⟨hmp1, hL1, -, -⟩ := id hM1
    obtain ⟨vl1, hl1⟩ := hL1.ob
    obtain ⟨fb1, hbb1⟩ := hL1.ar
    have hEe := hE.2 _ i1
    obtain ⟨p, q, k1, k2, k3, k4, k5⟩ := hEe.use hI1
    have hus := uns_erase hc.1
    refine xr_iload_n C d_KM_remove_12 13 rfl rfl ?_
    refine xr_iconst (v := (-1)) C d_KM_remove_13 14 rfl (by decide) ?_
    refine xr_icmp_eq C d_KM_remove_14 17 49 rfl (by decide) (fun h => absurd (show nI (fnb es key) < 0 by rw [h]; decide) (nI_pos (by omega))) (fun _ => ?_)
    refine xr_aload_n C d_KM_remove_17 18 rfl rfl ?_
    refine xr_dup C d_KM_remove_18 19 rfl rfl ?_
    refine xr_get C K_KM 1 d_KM_remove_19 22 rfl q_80 (Or.inl rfl) rfl (by first | assumption | exact xup_self | exact (xup_ne (by assumption)).trans (by assumption) | exact (xup_ne (Ne.symm (by assumption))).trans (by assumption) | exact (xup_ne (by assumption)).trans xup_self | exact (xup_ne (Ne.symm (by assumption))).trans xup_self) rfl ?_
    refine xr_aload_n C d_KM_remove_22 23 rfl rfl ?_
    refine xr_get C K_KM 0 d_KM_remove_23 26 rfl q_77 (Or.inl rfl) rfl (by first | assumption | exact xup_self | exact (xup_ne (by assumption)).trans (by assumption) | exact (xup_ne (Ne.symm (by assumption))).trans (by assumption) | exact (xup_ne (by assumption)).trans xup_self | exact (xup_ne (Ne.symm (by assumption))).trans xup_self) rfl ?_
    refine xr_iload_n C d_KM_remove_26 27 rfl rfl ?_
    refine xr_callV C (l_get hL1 i1) k_AL_get d_KM_remove_27 30 rfl (by first | assumption | exact xup_self | exact (xup_ne (by assumption)).trans (by assumption) | exact (xup_ne (Ne.symm (by assumption))).trans (by assumption) | exact (xup_ne (by assumption)).trans xup_self | exact (xup_ne (Ne.symm (by assumption))).trans xup_self) rfl (Or.inl q_690) v_AL_get e_AL_get h_AL_get rfl ⟨Nat.le_of_ble_eq_true rfl, Nat.le_of_ble_eq_true rfl, Nat.le_of_ble_eq_true rfl⟩ (by omega) (by omega) (fun v9 X1 hP => ?_) (fun _ _ h => absurd h.1 (by simp))
    obtain ⟨h1, rfl⟩ := hP
    cases h1
    refine xr_cast C d_KM_remove_30 33 rfl k1 rfl q_691 ?_
    refine xr_callV C (c_En_units hI1 hEe) k_En_units d_KM_remove_33 36 rfl k1 rfl (Or.inl q_721) v_En_units e_En_units h_En_units rfl ⟨Nat.le_of_ble_eq_true rfl, Nat.le_of_ble_eq_true rfl, Nat.le_of_ble_eq_true rfl⟩ (by omega) (by omega) (fun v9 X1 hP => ?_) (fun _ _ h => absurd h.1 (by simp))
    obtain ⟨h1, rfl⟩ := hP
    cases h1
    refine xr_isub C d_KM_remove_36 37 rfl ?_
    refine xr_toi (show _ = nI (uns (es.eraseIdx (fnb es key))) from (pk_sub (by omega)).trans (by congr 1; omega)) ?_
    refine xr_put C K_KM 1 d_KM_remove_37 40 rfl q_80 (Or.inl rfl) rfl rfl rfl rfl (by first | assumption | exact xup_self | exact (xup_ne (by assumption)).trans (by assumption) | exact (xup_ne (Ne.symm (by assumption))).trans (by assumption) | exact (xup_ne (by assumption)).trans xup_self | exact (xup_ne (Ne.symm (by assumption))).trans xup_self) rfl rfl ?_
    refine xr_aload_n C d_KM_remove_40 41 rfl rfl ?_
    refine xr_get C K_KM 0 d_KM_remove_41 44 rfl q_77 (Or.inl rfl) rfl xup_self rfl ?_
    refine xr_iload_n C d_KM_remove_44 45 rfl rfl ?_
    have hL2 := hL1.keep1 (v := .inr (2, [.ref la, .int (nI (uns (es.eraseIdx (fnb es key))))])) hmp1 (by decide)
    have hI2 := hI1.up1 (v := .inr (2, [.ref la, .int (nI (uns (es.eraseIdx (fnb es key))))])) hmp1 (by decide) (by decide)
    obtain ⟨vl2, hl2⟩ := hL2.ob
    obtain ⟨fb2, hbb2⟩ := hL2.ar
    refine xr_callV C (l_remove hL2 i1 (hE.ob hI2)) k_AL_remove d_KM_remove_45 48 rfl (by first | assumption | exact xup_self | exact (xup_ne (by assumption)).trans (by assumption) | exact (xup_ne (Ne.symm (by assumption))).trans (by assumption) | exact (xup_ne (by assumption)).trans xup_self | exact (xup_ne (Ne.symm (by assumption))).trans xup_self) rfl (Or.inl q_772) v_AL_remove e_AL_remove h_AL_remove rfl ⟨Nat.le_of_ble_eq_true rfl, Nat.le_of_ble_eq_true rfl, Nat.le_of_ble_eq_true rfl⟩ (by omega) (by omega) (fun v9 X3 hP => ?_) (fun _ _ h => absurd h.1 (by simp))
    obtain ⟨e1, hL3, hf3⟩ := hP
    cases e1
    refine xr_pop C d_KM_remove_48 49 rfl rfl ?_
    refine xr_vret C d_KM_remove_49 (by omega) (by omega) ⟨rfl, ?_⟩
    rw [hrk]
    have hmpS : mp ∉ [la, b] := by
      simp only [List.mem_cons, List.not_mem_nil, or_false, not_or]
      exact ⟨xne hmp1 hl1 (by intro h; cases h), xne hmp1 hbb1 (by intro h; cases h)⟩
    have hfA : xFr [mp, la, b] X1 X3 := (xFr_up hmp1 (fun z => z) (by simp)).trans (hf3.mono (fun q hq => List.mem_cons_of_mem _ hq))
    have hR3 := hR1.keepM hM1 hfA
    refine ⟨I, b, cap, _, br1, imX.rf, hI2.keepL hL2 hf3, ⟨hf3.use xup_self hmpS, hL3, hE.erase hc.1, ?_, ?_, ?_⟩, hR3, hb1, (hf1.mono ?_).trans (hfA.mono ?_), Or.inl rfl, hn1, Nat.le_refl _⟩
    · rw [List.length_eraseIdx_of_lt hc.1]
      have := hok.1
      omega
    · show uns (es.eraseIdx (fnb es key)) ≤ 700
      have := hok.2.1
      omega
    · intro e he
      exact hok.2.2 e (List.mem_of_mem_eraseIdx he)
    · intro q hq
      simp only [List.mem_cons, List.not_mem_nil, or_false] at hq ⊢
      exact Or.inr (Or.inr (Or.inr hq))
    · intro q hq
      simp only [List.mem_cons, List.not_mem_nil, or_false] at hq ⊢
      rcases hq with e | e | e
      · exact Or.inl e
      · exact Or.inr (Or.inl e)
      · exact Or.inr (Or.inr (Or.inl e))
  · have e0 : ixK es key = -1 := by unfold ixK; rw [if_neg hc]
    refine xG.eqL (show _ = [some (.ref mp), some (.ref kq), some (.ref r), some (.int (-1))] by rw [e0]; rfl) ?_
    have hrk : remK es key = (es, tvK es key) := by unfold remK tvK; rw [if_neg hc, if_neg hc]
    refine xr_iload_n C d_KM_remove_12 13 rfl rfl ?_
    refine xr_iconst (v := (-1)) C d_KM_remove_13 14 rfl (by decide) ?_
    refine xr_icmp_eq C d_KM_remove_14 17 49 rfl (by decide) (fun _ => ?_) (fun h => absurd rfl h)
    refine xr_vret C d_KM_remove_49 (by omega) (by omega) ⟨rfl, ?_⟩
    rw [hrk]
    exact hS.q hM0 hR
set_option maxRecDepth 100000 in
set_option maxHeartbeats 4000000 in
theorem c_KM_init {l : Launch} {D : va_G} {H0 : Heap} {X : xH} {mp : Nat} {w0 w1 : Value} (hm : X mp = some (.inr (2, [w0, w1]))) : xMet l D H0 y_KM_init b_KM_init 1 none [] 3 1 3 [.ref mp] X (fun o X' => o = .inl none ∧ ∃ la : Nat, X la = none ∧ X' = xup (xup X la (.inr (7, [.int 0, .ref (D.2 200 1), .int 0]))) mp (.inr (2, [.ref la, .int 0]))) := by
  refine ⟨[some (.ref mp)], rfl, Nat.le_of_ble_eq_true rfl, fun E hD hH hl _ C => ?_⟩
  subst hD
  subst hH
  subst hl
  refine xr_aload_n C d_KM_init_0 1 rfl rfl ?_
  refine xr_objInit C d_KM_init_1 4 rfl q_74 w_oi w_oc (Nat.le_of_ble_eq_true rfl) ?_
  refine xr_aload_n C d_KM_init_4 5 rfl rfl ?_
  refine xr_new (fs := [.int 0, .null, .int 0]) C K_AL d_KM_init_5 8 rfl q_75 q_44 q_5 (by intro j hj; match j, hj with | 0, _ => rfl | 1, _ => rfl | 2, _ => rfl) (by omega) (by omega) (fun q9 hq9 => ?_)
  refine xr_dup C d_KM_init_8 9 rfl rfl ?_
  refine xr_callI C (c_AL_init xup_self) kc_AL_init d_KM_init_9 12 rfl (Or.inl q_76) v_AL_init rfl h_AL_init rfl ⟨Nat.le_of_ble_eq_true rfl, Nat.le_of_ble_eq_true rfl, Nat.le_of_ble_eq_true rfl⟩ (by omega) (by omega) (fun v9 X' hP => ?_) (fun _ _ h => absurd h.1 (by simp))
  obtain ⟨h1, rfl⟩ := hP
  cases h1
  refine xG.eqX xup_up ?_
  refine xr_putF C K_KM 0 d_KM_init_12 15 rfl q_77 (Or.inl rfl) rfl rfl rfl rfl rfl rfl (xup_fresh hm hq9) rfl rfl ?_
  refine xr_aload_n C d_KM_init_15 16 rfl rfl ?_
  refine xr_iconst (v := 0) C d_KM_init_16 17 rfl (by decide) ?_
  refine xr_put C K_KM 1 d_KM_init_17 20 rfl q_80 (Or.inl rfl) rfl rfl rfl rfl (by first | assumption | exact xup_self | exact (xup_ne (by assumption)).trans (by assumption) | exact (xup_ne (Ne.symm (by assumption))).trans (by assumption) | exact (xup_ne (by assumption)).trans xup_self | exact (xup_ne (Ne.symm (by assumption))).trans xup_self) rfl rfl ?_
  exact xr_vret C d_KM_init_20 (by omega) (by omega) ⟨rfl, q9, hq9, by simp only [xup_up]; rfl⟩
end
section
/-! Machines. -/
def sD (ss : List Ss) (i : Nat) : Ss := ss.getD i (0, 0, 0, 0, [])
def imSs (I : Nat → Option Imm) (as : List Nat) (ss : List Ss) : Prop := as.length = ss.length ∧ ∀ i, i < as.length → imS I (as.getD i 0) (sD ss i)
def okS (ss : List Ss) : Prop := ss.length ≤ 16 ∧ ∀ s ∈ ss, s.2.2.2.2.length ≤ 104
def xz0 (X : xH) (b : Nat) : Prop := ∃ v, X b = some v ∧ xz v
theorem xz0.keep {S : List Nat} {X X' : xH} {b : Nat} (h : xz0 X b) (hf : xFr S X X') : xz0 X' b := by
  obtain ⟨v, h1, h2⟩ := h
  exact ⟨v, hf.1 b v h1 (Or.inr h2), h2⟩
def sepB (X : xH) (b1 b2 : Nat) : Prop := b1 ≠ b2 ∨ xz0 X b1
theorem sepB.symm {X : xH} {b1 b2 : Nat} (h : sepB X b1 b2) : sepB X b2 b1 := by
  rcases Nat.decEq b1 b2 with e | e
  · exact Or.inl (Ne.symm e)
  · rcases h with h | h
    · exact absurd e h
    · exact Or.inr (e ▸ h)
theorem sepB.keep {S : List Nat} {X X' : xH} {b1 b2 : Nat} (h : sepB X b1 b2) (hf : xFr S X X') : sepB X' b1 b2 := h.imp id (fun h => h.keep hf)
/-- one of the two arrays is new -/
theorem sepB.new {S : List Nat} {X X' : xH} {b1 b1' b2 : Nat} {v : va_E} (h : sepB X b1 b2) (hf : xFr S X X') (hn : b1' = b1 ∨ X b1' = none) (h2 : X b2 = some v) : sepB X' b1' b2 := by
  rcases hn with e | e
  · rw [e]
    exact h.keep hf
  · exact Or.inl (Ne.symm (xne_none h2 e))
theorem xFr.usez {S : List Nat} {X X' : xH} {q : Nat} {v : va_E} (h : xFr S X X') (hq : X q = some v) (hn : q ∉ S ∨ xz0 X q) : X' q = some v := by
  rcases hn with hn | ⟨w, h1, h2⟩
  · exact h.use hq hn
  · cases hq.symm.trans h1
    exact h.1 q v hq (Or.inr h2)
theorem xLi.keepz {D : va_G} {X X' : xH} {S : List Nat} {a b cap : Nat} {as : List Nat} (h : xLi D X a b cap as) (hf : xFr S X X') (ha : a ∉ S) (hb : b ∉ S ∨ xz0 X b) : xLi D X' a b cap as := by
  obtain ⟨mo, f, h1, h2, h3⟩ := h
  exact ⟨mo, f, hf.use h1 ha, hf.usez h2 hb, h3⟩
theorem xMap.keepz {D : va_G} {X X' : xH} {I : Nat → Option Imm} {S : List Nat} {mp l b cap : Nat} {as : List Nat} {es : List Es} (h : xMap D X I mp l b cap as es) (hf : xFr S X X') (h1 : mp ∉ S) (h2 : l ∉ S) (h3 : b ∉ S ∨ xz0 X b) : xMap D X' I mp l b cap as es := ⟨hf.use h.1 h1, h.2.1.keepz hf h2 h3, h.2.2⟩
theorem xMap.le {D : va_G} {X : xH} {I I' : Nat → Option Imm} {mp l b cap : Nat} {as : List Nat} {es : List Es} (h : xMap D X I mp l b cap as es) (hl : imLe I I') : xMap D X I' mp l b cap as es := ⟨h.1, h.2.1, h.2.2.1.le hl, h.2.2.2⟩
theorem imSs.le {I I' : Nat → Option Imm} {as : List Nat} {ss : List Ss} (h : imSs I as ss) (hl : imLe I I') : imSs I' as ss := ⟨h.1, fun i hi => (h.2 i hi).le hl⟩
theorem imSs.ob {D : va_G} {X : xH} {I : Nat → Option Imm} {as : List Nat} {ss : List Ss} (h : imSs I as ss) (hI : xIm D X I) : ∀ q ∈ as, xOb X q := fun q hq => by
  obtain ⟨i, hi, rfl⟩ := mem_getD hq
  exact (h.2 i hi).ob hI
theorem imSs.set {I : Nat → Option Imm} {as : List Nat} {es : List Ss} {j q : Nat} {e : Ss} (h : imSs I as es) (hj : j < es.length) (hq : imS I q e) : imSs I (as.set j q) (es.set j e) := by
  have hl := h.1
  refine ⟨by rw [List.length_set, List.length_set, hl], fun i hi => ?_⟩
  rw [List.length_set] at hi
  unfold sD
  rw [getDg_set (by omega), getDg_set hj]
  by_cases h2 : i = j
  · rw [if_pos h2, if_pos h2]
    exact hq
  · rw [if_neg h2, if_neg h2]
    exact h.2 i hi
theorem imSs.erase {I : Nat → Option Imm} {as : List Nat} {es : List Ss} {j : Nat} (h : imSs I as es) (hj : j < es.length) : imSs I (as.eraseIdx j) (es.eraseIdx j) := by
  have hl := h.1
  refine ⟨by rw [List.length_eraseIdx_of_lt (by omega), List.length_eraseIdx_of_lt hj, hl], fun i hi => ?_⟩
  rw [List.length_eraseIdx_of_lt (by omega)] at hi
  unfold sD
  rw [getDg_erase, getDg_erase]
  by_cases h2 : i < j
  · rw [if_pos h2, if_pos h2]
    exact h.2 i (by omega)
  · rw [if_neg h2, if_neg h2]
    exact h.2 (i + 1) (by omega)
theorem getDg_snoc {α : Type} {d : α} {as : List α} {v : α} {i : Nat} (hi : i < as.length + 1) : (as ++ [v]).getD i d = if i < as.length then as.getD i d else v := by
  by_cases h : i < as.length
  · rw [if_pos h, List.getD_eq_getElem?_getD, List.getD_eq_getElem?_getD, List.getElem?_append_left h]
  · rw [if_neg h, List.getD_eq_getElem?_getD, List.getElem?_append_right (by omega), show i - as.length = 0 by omega]
    rfl
theorem imSs.snoc {I : Nat → Option Imm} {as : List Nat} {es : List Ss} {q : Nat} {e : Ss} (h : imSs I as es) (hq : imS I q e) : imSs I (as ++ [q]) (es ++ [e]) := by
  have hl := h.1
  refine ⟨by rw [List.length_append, List.length_append, hl]; rfl, fun i hi => ?_⟩
  rw [List.length_append, List.length_singleton] at hi
  unfold sD
  rw [getDg_snoc hi, getDg_snoc (by omega)]
  by_cases h2 : i < as.length
  · rw [if_pos h2, if_pos (by omega)]
    exact h.2 i h2
  · rw [if_neg h2, if_neg (by omega)]
    exact hq
theorem sD_mem {ss : List Ss} {i : Nat} (h : i < ss.length) : sD ss i ∈ ss := by
  unfold sD
  rw [List.getD_eq_getElem?_getD, List.getElem?_eq_getElem h]
  exact List.getElem_mem h
/-- a machine at a: its sessions in the list at ls, its map at mp -/
def xMac (D : va_G) (X : xH) (I : Nat → Option Imm) (a ls bs cs mp la be ce : Nat) (as1 as2 : List Nat) (ss : List Ss) (es : List Es) (g : Int32) : Prop :=
  X a = some (.inr (1, [.ref ls, .ref mp, .int g])) ∧ xLi D X ls bs cs as1 ∧ imSs I as1 ss ∧ okS ss ∧ xMap D X I mp la be ce as2 es ∧ ls ≠ la ∧ sepB X bs be
def fsn : List Ss → Int32 → Nat
  | [], _ => 0
  | s :: ss, n => if s.1 = n then 0 else fsn ss n + 1
theorem fsn_le (n : Int32) : ∀ ss : List Ss, fsn ss n ≤ ss.length
  | [] => Nat.le_refl _
  | e :: es => by
    have := fsn_le n es
    unfold fsn
    rw [List.length_cons]
    split <;> omega
theorem fsn_at {n : Int32} : ∀ {es : List Ss} {i : Nat}, i ≤ es.length → (∀ j, j < i → ¬ (sD es j).1 = n) → (i < es.length → (sD es i).1 = n) → fsn es n = i
  | [], i, hi, _, _ => by
    rw [List.length_nil] at hi
    show 0 = i
    omega
  | e :: es, 0, _, _, h => by
    have h1 : e.1 = n := h (Nat.succ_pos _)
    unfold fsn
    rw [if_pos h1]
  | e :: es, i + 1, hi, ha, h => by
    have h0 : ¬ e.1 = n := ha 0 (Nat.succ_pos _)
    have ih := fsn_at (n := n) (es := es) (i := i) (by rw [List.length_cons] at hi; omega) (fun j hj => ha (j + 1) (by omega)) (fun hl => h (by rw [List.length_cons]; omega))
    unfold fsn
    rw [if_neg h0, ih]
def ixS (ss : List Ss) (n : Int32) : Int32 := if fsn ss n < ss.length then nI (fsn ss n) else -1
/-- the first of the longest unused of the first n + 1 -/
def luf (ss : List Ss) : Nat → Nat
  | 0 => 0
  | n + 1 => if (sD ss (n + 1)).2.1 < (sD ss (luf ss n)).2.1 then n + 1 else luf ss n
theorem luf_le (ss : List Ss) : ∀ n, luf ss n ≤ n
  | 0 => Nat.le_refl _
  | n + 1 => by
    have := luf_le ss n
    unfold luf
    split <;> omega
def lu (ss : List Ss) : Nat := luf ss (ss.length - 1)
def opS (ss : List Ss) (p : Int32) : List Ss := (if 16 ≤ ss.length then ss.eraseIdx (lu ss) else ss) ++ [(p, p, 0, p, [])]
set_option maxRecDepth 100000 in
set_option maxHeartbeats 4000000 in
theorem c_Ma_takes {l : Launch} {D : va_G} {H0 : Heap} {X : xH} {a : Nat} {v0 v1 : Value} {g z : Int32} (ha : X a = some (.inr (1, [v0, v1, .int g]))) : xMet l D H0 y_Ma_takes b_Ma_takes 2 (some .boolean) [] 0 0 0 [.ref a, .int z] X (fun o X' => o = .inl (some (.int (if g < z ∧ z ≤ 1000000 then 1 else 0))) ∧ X' = X) := by
  refine ⟨[some (.ref a), some (.int z)], rfl, Nat.le_of_ble_eq_true rfl, fun E hD hH hl _ C => ?_⟩
  subst hD
  subst hH
  subst hl
  have no : ¬ (g < z ∧ z ≤ 1000000) → xG E X 0 0 18 [some (.ref a), some (.int z)] [] := by
    intro h
    refine xr_iconst (v := 0) C d_Ma_takes_18 19 rfl (by decide) ?_
    exact xr_zret C d_Ma_takes_19 rfl (by omega) (by omega) ⟨by rw [if_neg h], rfl⟩
  refine xr_iload_n C d_Ma_takes_0 1 rfl rfl ?_
  refine xr_aload_n C d_Ma_takes_1 2 rfl rfl ?_
  refine xr_get C K_Ma 2 d_Ma_takes_2 5 rfl q_92 (Or.inl rfl) rfl (by first | assumption | exact xup_self | exact (xup_ne (by assumption)).trans (by assumption) | exact (xup_ne (Ne.symm (by assumption))).trans (by assumption) | exact (xup_ne (by assumption)).trans xup_self | exact (xup_ne (Ne.symm (by assumption))).trans xup_self) rfl ?_
  refine xr_icmp_le C d_Ma_takes_5 8 18 rfl (by decide) (fun h => no (fun q => absurd h (Int32.not_le.mpr q.1))) (fun h5 => ?_)
  refine xr_iload_n C d_Ma_takes_8 9 rfl rfl ?_
  refine xr_ldc (v := 1000000) C d_Ma_takes_9 11 rfl q_264 ?_
  refine xr_icmp_gt C d_Ma_takes_11 14 18 rfl (by decide) (fun h => no (fun q => absurd q.2 (Int32.not_le.mpr h))) (fun h11 => ?_)
  refine xr_iconst (v := 1) C d_Ma_takes_14 15 rfl (by decide) ?_
  refine xr_goto C d_Ma_takes_15 19 (by decide) ?_
  exact xr_zret C d_Ma_takes_19 rfl (by omega) (by omega) ⟨by rw [if_pos ⟨Int32.not_le.mp h5, Int32.not_lt.mp h11⟩], rfl⟩
set_option maxRecDepth 100000 in
set_option maxHeartbeats 4000000 in
theorem c_Ma_indexOfSession {l : Launch} {D : va_G} {H0 : Heap} {X : xH} {a ls bs cs mp la be ce : Nat} {as1 as2 : List Nat} {ss : List Ss} {es : List Es} {g : Int32} {I : Nat → Option Imm} (hI : xIm D X I) (hA : xMac D X I a ls bs cs mp la be ce as1 as2 ss es g) {z : Int32} : xMet l D H0 y_Ma_indexOfSession b_Ma_indexOfSession 3 (some .int) [] 3 0 0 [.ref a, .int z] X (fun o X' => o = .inl (some (.int (ixS ss z))) ∧ X' = X) := by
  obtain ⟨ha, hL, hE, hok, hM, hll, hbb⟩ := id hA
  obtain ⟨vl, hl⟩ := hL.ob
  have hlen := hE.1
  have hle := hL.len
  have hok1 := hok.1
  refine ⟨[some (.ref a), some (.int z), none], rfl, Nat.le_of_ble_eq_true rfl, fun E hD hH hl _ C => ?_⟩
  subst hD
  subst hH
  subst hl
  have loop : ∀ (k i : Nat), i + k = ss.length → (∀ j, j < i → ¬ (sD ss j).1 = z) → xG E X 0 0 2 [some (.ref a), some (.int z), some (.int (nI i))] [] := by
    intro k
    induction k with
    | zero =>
      intro i hi h1
      have e : i = ss.length := by omega
      refine xr_iload_n C d_Ma_indexOfSession_2 3 rfl rfl ?_
      refine xr_aload_n C d_Ma_indexOfSession_3 4 rfl rfl ?_
      refine xr_get C K_Ma 0 d_Ma_indexOfSession_4 7 rfl q_88 (Or.inl rfl) rfl (by first | assumption | exact xup_self | exact (xup_ne (by assumption)).trans (by assumption) | exact (xup_ne (Ne.symm (by assumption))).trans (by assumption) | exact (xup_ne (by assumption)).trans xup_self | exact (xup_ne (Ne.symm (by assumption))).trans xup_self) rfl ?_
      refine xr_callV C (l_size hL) k_AL_size d_Ma_indexOfSession_7 10 rfl (by first | assumption | exact xup_self | exact (xup_ne (by assumption)).trans (by assumption) | exact (xup_ne (Ne.symm (by assumption))).trans (by assumption) | exact (xup_ne (by assumption)).trans xup_self | exact (xup_ne (Ne.symm (by assumption))).trans xup_self) rfl (Or.inl q_270) v_AL_size e_AL_size h_AL_size rfl ⟨Nat.le_of_ble_eq_true rfl, Nat.le_of_ble_eq_true rfl, Nat.le_of_ble_eq_true rfl⟩ (by omega) (by omega) (fun v9 X hP => ?_) (fun _ _ h => absurd h.1 (by simp))
      obtain ⟨h1, rfl⟩ := hP
      cases h1
      refine xr_icmp_ge C d_Ma_indexOfSession_10 13 39 rfl (by decide) (fun _ => ?_) (fun h => absurd (nI_le (show as1.length ≤ i by omega) (by omega)) h)
      refine xr_iconst (v := (-1)) C d_Ma_indexOfSession_39 40 rfl (by decide) ?_
      exact xr_iret C d_Ma_indexOfSession_40 (by omega) (by omega) ⟨by unfold ixS; rw [fsn_at (i := i) (by omega) h1 (fun h => absurd h (by omega)), if_neg (by omega)], rfl⟩
    | succ k ih =>
      intro i hi h1
      have i1 : i < as1.length := by omega
      obtain ⟨q, k1, k2, k3⟩ := (hE.2 i i1).use hI
      refine xr_iload_n C d_Ma_indexOfSession_2 3 rfl rfl ?_
      refine xr_aload_n C d_Ma_indexOfSession_3 4 rfl rfl ?_
      refine xr_get C K_Ma 0 d_Ma_indexOfSession_4 7 rfl q_88 (Or.inl rfl) rfl (by first | assumption | exact xup_self | exact (xup_ne (by assumption)).trans (by assumption) | exact (xup_ne (Ne.symm (by assumption))).trans (by assumption) | exact (xup_ne (by assumption)).trans xup_self | exact (xup_ne (Ne.symm (by assumption))).trans xup_self) rfl ?_
      refine xr_callV C (l_size hL) k_AL_size d_Ma_indexOfSession_7 10 rfl (by first | assumption | exact xup_self | exact (xup_ne (by assumption)).trans (by assumption) | exact (xup_ne (Ne.symm (by assumption))).trans (by assumption) | exact (xup_ne (by assumption)).trans xup_self | exact (xup_ne (Ne.symm (by assumption))).trans xup_self) rfl (Or.inl q_270) v_AL_size e_AL_size h_AL_size rfl ⟨Nat.le_of_ble_eq_true rfl, Nat.le_of_ble_eq_true rfl, Nat.le_of_ble_eq_true rfl⟩ (by omega) (by omega) (fun v9 X hP => ?_) (fun _ _ h => absurd h.1 (by simp))
      obtain ⟨h1, rfl⟩ := hP
      cases h1
      refine xr_icmp_ge C d_Ma_indexOfSession_10 13 39 rfl (by decide) (fun h => absurd h (nI_ge i1 (by omega))) (fun _ => ?_)
      refine xr_aload_n C d_Ma_indexOfSession_13 14 rfl rfl ?_
      refine xr_get C K_Ma 0 d_Ma_indexOfSession_14 17 rfl q_88 (Or.inl rfl) rfl (by first | assumption | exact xup_self | exact (xup_ne (by assumption)).trans (by assumption) | exact (xup_ne (Ne.symm (by assumption))).trans (by assumption) | exact (xup_ne (by assumption)).trans xup_self | exact (xup_ne (Ne.symm (by assumption))).trans xup_self) rfl ?_
      refine xr_iload_n C d_Ma_indexOfSession_17 18 rfl rfl ?_
      refine xr_callV C (l_get hL i1) k_AL_get d_Ma_indexOfSession_18 21 rfl (by first | assumption | exact xup_self | exact (xup_ne (by assumption)).trans (by assumption) | exact (xup_ne (Ne.symm (by assumption))).trans (by assumption) | exact (xup_ne (by assumption)).trans xup_self | exact (xup_ne (Ne.symm (by assumption))).trans xup_self) rfl (Or.inl q_278) v_AL_get e_AL_get h_AL_get rfl ⟨Nat.le_of_ble_eq_true rfl, Nat.le_of_ble_eq_true rfl, Nat.le_of_ble_eq_true rfl⟩ (by omega) (by omega) (fun v9 X hP => ?_) (fun _ _ h => absurd h.1 (by simp))
      obtain ⟨h1, rfl⟩ := hP
      cases h1
      refine xr_cast C d_Ma_indexOfSession_21 24 rfl k1 rfl q_292 ?_
      refine xr_get C K_Se 0 d_Ma_indexOfSession_24 27 rfl q_312 (Or.inl rfl) rfl (by first | assumption | exact xup_self | exact (xup_ne (by assumption)).trans (by assumption) | exact (xup_ne (Ne.symm (by assumption))).trans (by assumption) | exact (xup_ne (by assumption)).trans xup_self | exact (xup_ne (Ne.symm (by assumption))).trans xup_self) rfl ?_
      refine xr_iload_n C d_Ma_indexOfSession_27 28 rfl rfl ?_
      refine xr_icmp_ne C d_Ma_indexOfSession_28 31 33 rfl (by decide) (fun j31 => ?_) (fun j31 => ?_)
      · refine xr_iinc (v := 1) C d_Ma_indexOfSession_33 36 rfl rfl rfl rfl (by decide) ?_
        refine xr_goto C d_Ma_indexOfSession_36 2 (by decide) ?_
        refine xG.eqL (show _ = [some (Value.ref a), some (Value.int z), some (Value.int (nI (i + 1)))] by rw [← nI_one]; rfl) ?_
        refine ih (i + 1) (by omega) (fun j hj => ?_)
        by_cases e : j = i
        · rw [e]
          exact j31
        · exact h1 j (by omega)
      · refine xr_iload_n C d_Ma_indexOfSession_31 32 rfl rfl ?_
        exact xr_iret C d_Ma_indexOfSession_32 (by omega) (by omega) ⟨by unfold ixS; rw [fsn_at (i := i) (by omega) h1 (fun _ => j31), if_pos (by omega)], rfl⟩
  refine xr_iconst (v := 0) C d_Ma_indexOfSession_0 1 rfl (by decide) ?_
  refine xr_istore_n C d_Ma_indexOfSession_1 2 rfl rfl rfl ?_
  exact loop ss.length 0 (by omega) (fun j hj => absurd hj (Nat.not_lt_zero _))
set_option maxRecDepth 100000 in
set_option maxHeartbeats 4000000 in
theorem c_Ma_longestUnused {l : Launch} {D : va_G} {H0 : Heap} {X : xH} {a ls bs cs mp la be ce : Nat} {as1 as2 : List Nat} {ss : List Ss} {es : List Es} {g : Int32} {I : Nat → Option Imm} (hI : xIm D X I) (hA : xMac D X I a ls bs cs mp la be ce as1 as2 ss es g) (hne : 0 < ss.length) : xMet l D H0 y_Ma_longestUnused b_Ma_longestUnused 3 (some .int) [] 3 0 0 [.ref a] X (fun o X' => o = .inl (some (.int (nI (lu ss)))) ∧ X' = X) := by
  obtain ⟨ha, hL, hE, hok, hM, hll, hbb⟩ := id hA
  obtain ⟨vl, hl⟩ := hL.ob
  have hlen := hE.1
  have hle := hL.len
  have hok1 := hok.1
  refine ⟨[some (.ref a), none, none], rfl, Nat.le_of_ble_eq_true rfl, fun E hD hH hl _ C => ?_⟩
  subst hD
  subst hH
  subst hl
  have loop : ∀ (k i : Nat), i + 1 + k = ss.length → xG E X 0 0 4 [some (.ref a), some (.int (nI (luf ss i))), some (.int (nI (i + 1)))] [] := by
    intro k
    induction k with
    | zero =>
      intro i hi
      have e : i = ss.length - 1 := by omega
      refine xr_iload_n C d_Ma_longestUnused_4 5 rfl rfl ?_
      refine xr_aload_n C d_Ma_longestUnused_5 6 rfl rfl ?_
      refine xr_get C K_Ma 0 d_Ma_longestUnused_6 9 rfl q_88 (Or.inl rfl) rfl (by first | assumption | exact xup_self | exact (xup_ne (by assumption)).trans (by assumption) | exact (xup_ne (Ne.symm (by assumption))).trans (by assumption) | exact (xup_ne (by assumption)).trans xup_self | exact (xup_ne (Ne.symm (by assumption))).trans xup_self) rfl ?_
      refine xr_callV C (l_size hL) k_AL_size d_Ma_longestUnused_9 12 rfl (by first | assumption | exact xup_self | exact (xup_ne (by assumption)).trans (by assumption) | exact (xup_ne (Ne.symm (by assumption))).trans (by assumption) | exact (xup_ne (by assumption)).trans xup_self | exact (xup_ne (Ne.symm (by assumption))).trans xup_self) rfl (Or.inl q_270) v_AL_size e_AL_size h_AL_size rfl ⟨Nat.le_of_ble_eq_true rfl, Nat.le_of_ble_eq_true rfl, Nat.le_of_ble_eq_true rfl⟩ (by omega) (by omega) (fun v9 X hP => ?_) (fun _ _ h => absurd h.1 (by simp))
      obtain ⟨h1, rfl⟩ := hP
      cases h1
      refine xr_icmp_ge C d_Ma_longestUnused_12 15 54 rfl (by decide) (fun _ => ?_) (fun h => absurd (nI_le (show as1.length ≤ i + 1 by omega) (by omega)) h)
      refine xr_iload_n C d_Ma_longestUnused_54 55 rfl rfl ?_
      exact xr_iret C d_Ma_longestUnused_55 (by omega) (by omega) ⟨by unfold lu; rw [e], rfl⟩
    | succ k ih =>
      intro i hi
      have i1 : i + 1 < as1.length := by omega
      have i2 : luf ss i < as1.length := by
        have := luf_le ss i
        omega
      obtain ⟨q, k1, k2, k3⟩ := (hE.2 (i + 1) i1).use hI
      obtain ⟨q', k1', k2', k3'⟩ := (hE.2 _ i2).use hI
      have t48 : ∀ o : Int32, o = nI (luf ss (i + 1)) → xG E X 0 0 48 [some (.ref a), some (.int o), some (.int (nI (i + 1)))] [] := by
        intro o ho
        subst ho
        refine xr_iinc (v := 1) C d_Ma_longestUnused_48 51 rfl rfl rfl rfl (by decide) ?_
        refine xr_goto C d_Ma_longestUnused_51 4 (by decide) ?_
        refine xG.eqL (show _ = [some (Value.ref a), some (Value.int (nI (luf ss (i + 1)))), some (Value.int (nI (i + 1 + 1)))] by rw [← nI_one (i + 1)]; rfl) ?_
        exact ih (i + 1) (by omega)
      refine xr_iload_n C d_Ma_longestUnused_4 5 rfl rfl ?_
      refine xr_aload_n C d_Ma_longestUnused_5 6 rfl rfl ?_
      refine xr_get C K_Ma 0 d_Ma_longestUnused_6 9 rfl q_88 (Or.inl rfl) rfl (by first | assumption | exact xup_self | exact (xup_ne (by assumption)).trans (by assumption) | exact (xup_ne (Ne.symm (by assumption))).trans (by assumption) | exact (xup_ne (by assumption)).trans xup_self | exact (xup_ne (Ne.symm (by assumption))).trans xup_self) rfl ?_
      refine xr_callV C (l_size hL) k_AL_size d_Ma_longestUnused_9 12 rfl (by first | assumption | exact xup_self | exact (xup_ne (by assumption)).trans (by assumption) | exact (xup_ne (Ne.symm (by assumption))).trans (by assumption) | exact (xup_ne (by assumption)).trans xup_self | exact (xup_ne (Ne.symm (by assumption))).trans xup_self) rfl (Or.inl q_270) v_AL_size e_AL_size h_AL_size rfl ⟨Nat.le_of_ble_eq_true rfl, Nat.le_of_ble_eq_true rfl, Nat.le_of_ble_eq_true rfl⟩ (by omega) (by omega) (fun v9 X hP => ?_) (fun _ _ h => absurd h.1 (by simp))
      obtain ⟨h1, rfl⟩ := hP
      cases h1
      refine xr_icmp_ge C d_Ma_longestUnused_12 15 54 rfl (by decide) (fun h => absurd h (nI_ge i1 (by omega))) (fun _ => ?_)
      refine xr_aload_n C d_Ma_longestUnused_15 16 rfl rfl ?_
      refine xr_get C K_Ma 0 d_Ma_longestUnused_16 19 rfl q_88 (Or.inl rfl) rfl (by first | assumption | exact xup_self | exact (xup_ne (by assumption)).trans (by assumption) | exact (xup_ne (Ne.symm (by assumption))).trans (by assumption) | exact (xup_ne (by assumption)).trans xup_self | exact (xup_ne (Ne.symm (by assumption))).trans xup_self) rfl ?_
      refine xr_iload_n C d_Ma_longestUnused_19 20 rfl rfl ?_
      refine xr_callV C (l_get hL i1) k_AL_get d_Ma_longestUnused_20 23 rfl (by first | assumption | exact xup_self | exact (xup_ne (by assumption)).trans (by assumption) | exact (xup_ne (Ne.symm (by assumption))).trans (by assumption) | exact (xup_ne (by assumption)).trans xup_self | exact (xup_ne (Ne.symm (by assumption))).trans xup_self) rfl (Or.inl q_278) v_AL_get e_AL_get h_AL_get rfl ⟨Nat.le_of_ble_eq_true rfl, Nat.le_of_ble_eq_true rfl, Nat.le_of_ble_eq_true rfl⟩ (by omega) (by omega) (fun v9 X hP => ?_) (fun _ _ h => absurd h.1 (by simp))
      obtain ⟨h1, rfl⟩ := hP
      cases h1
      refine xr_cast C d_Ma_longestUnused_23 26 rfl k1 rfl q_292 ?_
      refine xr_get C K_Se 1 d_Ma_longestUnused_26 29 rfl q_315 (Or.inl rfl) rfl (by first | assumption | exact xup_self | exact (xup_ne (by assumption)).trans (by assumption) | exact (xup_ne (Ne.symm (by assumption))).trans (by assumption) | exact (xup_ne (by assumption)).trans xup_self | exact (xup_ne (Ne.symm (by assumption))).trans xup_self) rfl ?_
      refine xr_aload_n C d_Ma_longestUnused_29 30 rfl rfl ?_
      refine xr_get C K_Ma 0 d_Ma_longestUnused_30 33 rfl q_88 (Or.inl rfl) rfl (by first | assumption | exact xup_self | exact (xup_ne (by assumption)).trans (by assumption) | exact (xup_ne (Ne.symm (by assumption))).trans (by assumption) | exact (xup_ne (by assumption)).trans xup_self | exact (xup_ne (Ne.symm (by assumption))).trans xup_self) rfl ?_
      refine xr_iload_n C d_Ma_longestUnused_33 34 rfl rfl ?_
      refine xr_callV C (l_get hL i2) k_AL_get d_Ma_longestUnused_34 37 rfl (by first | assumption | exact xup_self | exact (xup_ne (by assumption)).trans (by assumption) | exact (xup_ne (Ne.symm (by assumption))).trans (by assumption) | exact (xup_ne (by assumption)).trans xup_self | exact (xup_ne (Ne.symm (by assumption))).trans xup_self) rfl (Or.inl q_278) v_AL_get e_AL_get h_AL_get rfl ⟨Nat.le_of_ble_eq_true rfl, Nat.le_of_ble_eq_true rfl, Nat.le_of_ble_eq_true rfl⟩ (by omega) (by omega) (fun v9 X hP => ?_) (fun _ _ h => absurd h.1 (by simp))
      obtain ⟨h1, rfl⟩ := hP
      cases h1
      refine xr_cast C d_Ma_longestUnused_37 40 rfl k1' rfl q_292 ?_
      refine xr_get C K_Se 1 d_Ma_longestUnused_40 43 rfl q_315 (Or.inl rfl) rfl (by first | assumption | exact xup_self | exact (xup_ne (by assumption)).trans (by assumption) | exact (xup_ne (Ne.symm (by assumption))).trans (by assumption) | exact (xup_ne (by assumption)).trans xup_self | exact (xup_ne (Ne.symm (by assumption))).trans xup_self) rfl ?_
      refine xr_icmp_ge C d_Ma_longestUnused_43 46 48 rfl (by decide) (fun j43 => ?_) (fun j43 => ?_)
      · refine t48 _ ?_
        show _ = nI (if _ then _ else _)
        rw [if_neg (Int32.not_lt.mpr j43)]
      · refine xr_iload_n C d_Ma_longestUnused_46 47 rfl rfl ?_
        refine xr_istore_n C d_Ma_longestUnused_47 48 rfl rfl rfl ?_
        refine t48 _ ?_
        show _ = nI (if _ then _ else _)
        rw [if_pos (Int32.not_le.mp j43)]
  refine xr_iconst (v := 0) C d_Ma_longestUnused_0 1 rfl (by decide) ?_
  refine xr_istore_n C d_Ma_longestUnused_1 2 rfl rfl rfl ?_
  refine xr_iconst (v := 1) C d_Ma_longestUnused_2 3 rfl (by decide) ?_
  refine xr_istore_n C d_Ma_longestUnused_3 4 rfl rfl rfl ?_
  refine xG.eqL (show _ = [some (Value.ref a), some (Value.int (nI (luf ss 0))), some (Value.int (nI (0 + 1)))] from rfl) ?_
  exact loop (ss.length - 1) 0 (by omega)
set_option maxRecDepth 100000 in
set_option maxHeartbeats 4000000 in
theorem c_Ma_addSession {l : Launch} {D : va_G} {H0 : Heap} {X : xH} {a ls bs cs mp la be ce : Nat} {as1 as2 : List Nat} {ss : List Ss} {es : List Es} {g : Int32} {I : Nat → Option Imm} (hI : xIm D X I) (hA : xMac D X I a ls bs cs mp la be ce as1 as2 ss es g) {z : Int32} (hEm : I (D.2 200 0) = some (.inl [])) : xMet l D H0 y_Ma_addSession b_Ma_addSession 2 none [] 6 2 205 [.ref a, .int z] X (fun o X' => o = .inl none ∧ ∃ (I' : Nat → Option Imm) (bs' cs' : Nat) (as1' : List Nat), imX X I I' ∧ xIm D X' I' ∧ xMac D X' I' a ls bs' cs' mp la be ce as1' as2 (opS ss z) es z ∧ xFr [a, ls, bs] X X' ∧ (bs' = bs ∨ X bs' = none) ∧ cs ≤ cs') := by
  obtain ⟨ha, hL, hE, hok, hM, hll, hbb⟩ := id hA
  obtain ⟨vl, hl⟩ := hL.ob
  have hlen := hE.1
  have hle := hL.len
  have hok1 := hok.1
  obtain ⟨fbs, hbs⟩ := hL.ar
  obtain ⟨fbe, hbe⟩ := hM.2.1.ar
  obtain ⟨vla, hla⟩ := hM.2.1.ob
  have hmp := hM.1
  have n1 : a ∉ [ls, bs] := by
    simp only [List.mem_cons, List.not_mem_nil, or_false, not_or]
    exact ⟨xne ha hl (by intro h; cases h), xne ha hbs (by intro h; cases h)⟩
  have n2 : mp ∉ [a, ls, bs] := by
    simp only [List.mem_cons, List.not_mem_nil, or_false, not_or]
    exact ⟨xne hmp ha (by intro h; cases h), xne hmp hl (by intro h; cases h), xne hmp hbs (by intro h; cases h)⟩
  have n3 : la ∉ [a, ls, bs] := by
    simp only [List.mem_cons, List.not_mem_nil, or_false, not_or]
    exact ⟨xne hla ha (by intro h; cases h), Ne.symm hll, xne hla hbs (by intro h; cases h)⟩
  have n4 : be ∉ [a, ls, bs] ∨ xz0 X be := by
    rcases hbb.symm with h | h
    · left
      simp only [List.mem_cons, List.not_mem_nil, or_false, not_or]
      exact ⟨xne hbe ha (by intro h; cases h), xne hbe hl (by intro h; cases h), h⟩
    · exact Or.inr h
  refine ⟨[some (.ref a), some (.int z)], rfl, Nat.le_of_ble_eq_true rfl, fun E hD hH hl _ C => ?_⟩
  subst hD
  subst hH
  subst hl
  have tail : ∀ (Y : xH) (as' : List Nat) (ss' : List Ss), xIm E.D Y I → Y a = some (.inr (1, [.ref ls, .ref mp, .int g])) → xLi E.D Y ls bs cs as' → imSs I as' ss' → ss'.length < 16 → (∀ s ∈ ss', s.2.2.2.2.length ≤ 104) → xFr [a, ls, bs] X Y → opS ss z = ss' ++ [(z, z, 0, z, [])] → xG E Y 0 0 24 [some (.ref a), some (.int z)] [] := by
    intro Y as' ss' hIY haY hLY hEY hlY hoY hfY hop
    have hlenY := hEY.1
    obtain ⟨vlY, hlsY⟩ := hLY.ob
    refine xr_aload_n C d_Ma_addSession_24 25 rfl rfl ?_
    refine xr_get C K_Ma 0 d_Ma_addSession_25 28 rfl q_88 (Or.inl rfl) rfl (by first | assumption | exact xup_self | exact (xup_ne (by assumption)).trans (by assumption) | exact (xup_ne (Ne.symm (by assumption))).trans (by assumption) | exact (xup_ne (by assumption)).trans xup_self | exact (xup_ne (Ne.symm (by assumption))).trans xup_self) rfl ?_
    refine xr_new (fs := [.int 0, .int 0, .int 0, .int 0, .null]) C K_Se d_Ma_addSession_28 31 rfl q_292 q_304 q_18 (by intro j hj; match j, hj with | 0, _ => rfl | 1, _ => rfl | 2, _ => rfl | 3, _ => rfl | 4, _ => rfl) (by omega) (by omega) (fun q9 hq9 => ?_)
    refine xr_dup C d_Ma_addSession_31 32 rfl rfl ?_
    refine xr_iload_n C d_Ma_addSession_32 33 rfl rfl ?_
    refine xr_iload_n C d_Ma_addSession_33 34 rfl rfl ?_
    refine xr_iconst (v := 0) C d_Ma_addSession_34 35 rfl (by decide) ?_
    refine xr_iload_n C d_Ma_addSession_35 36 rfl rfl ?_
    refine xr_gets C C.kk.2.2.1 d_Ma_addSession_36 39 rfl (Or.inr ⟨_, q_305⟩) ?_
    refine xr_callI C (c_Se_init xup_self) kc_Se_init d_Ma_addSession_39 42 rfl (Or.inl q_307) v_Se_init rfl h_Se_init rfl ⟨Nat.le_of_ble_eq_true rfl, Nat.le_of_ble_eq_true rfl, Nat.le_of_ble_eq_true rfl⟩ (by omega) (by omega) (fun v9 X' hP => ?_) (fun _ _ h => absurd h.1 (by simp))
    obtain ⟨h1, rfl⟩ := hP
    cases h1
    refine xG.eqX xup_up ?_
    obtain ⟨I1, hI1d⟩ : ∃ I1, I1 = imUp I q9 (.inr (.inl (z, z, 0, z, E.D.2 200 0))) := ⟨_, rfl⟩
    obtain ⟨X1, hX1⟩ : ∃ w, w = xup Y q9 (.inr (4, [.int z, .int z, .int 0, .int z, .ref (E.D.2 200 0)])) := ⟨_, rfl⟩
    refine xG.eqX (show _ = X1 from hX1.symm) ?_
    have hfr0 : xFr [] Y X1 := by rw [hX1]; exact xFr_new hq9
    have hI1 : xIm E.D X1 I1 := by rw [hX1, hI1d]; exact hIY.new hq9 xup_self
    have hle1 : imX Y I I1 := by rw [hI1d]; exact imX_up hIY hq9
    have hS1 : imS I1 q9 (z, z, 0, z, []) := ⟨E.D.2 200 0, by rw [hI1d]; exact imUp_self, hle1.1 _ _ hEm⟩
    have hL1 := hLY.keep hfr0 List.not_mem_nil List.not_mem_nil
    have ha1 := hfr0.use haY List.not_mem_nil
    obtain ⟨vl1, hl1⟩ := hL1.ob
    obtain ⟨fb1, hb1⟩ := hL1.ar
    refine xr_callV C (c_AL_add1 hL1 (by omega) ((hEY.le hle1.1).ob hI1) (hS1.ob hI1) (k := 1) (fun _ => Nat.le_refl _)) k_AL_add1 d_Ma_addSession_42 45 rfl (by first | assumption | exact xup_self | exact (xup_ne (by assumption)).trans (by assumption) | exact (xup_ne (Ne.symm (by assumption))).trans (by assumption) | exact (xup_ne (by assumption)).trans xup_self | exact (xup_ne (Ne.symm (by assumption))).trans xup_self) rfl (Or.inl q_334) v_AL_add1 e_AL_add1 h_AL_add1 rfl ⟨Nat.le_of_ble_eq_true rfl, Nat.le_of_ble_eq_true rfl, Nat.le_of_ble_eq_true rfl⟩ (by omega) (by omega) (fun v9 X2 hP => ?_) (fun _ _ h => absurd h.1 (by simp))
    obtain ⟨h1, b2, hL2, hfr2, hb2⟩ := hP
    cases h1
    have hI2 := hI1.keepL hL1 hfr2
    have ha2 := hfr2.use ha1 n1
    refine xr_pop C d_Ma_addSession_45 46 rfl rfl ?_
    refine xr_aload_n C d_Ma_addSession_46 47 rfl rfl ?_
    refine xr_iload_n C d_Ma_addSession_47 48 rfl rfl ?_
    refine xr_put C K_Ma 2 d_Ma_addSession_48 51 rfl q_92 (Or.inl rfl) rfl rfl rfl rfl (by first | assumption | exact xup_self | exact (xup_ne (by assumption)).trans (by assumption) | exact (xup_ne (Ne.symm (by assumption))).trans (by assumption) | exact (xup_ne (by assumption)).trans xup_self | exact (xup_ne (Ne.symm (by assumption))).trans xup_self) rfl rfl ?_
    have hfA : xFr [a, ls, bs] X X2 := (hfY.trans (hfr0.mono (fun q hq => absurd hq List.not_mem_nil))).trans (hfr2.mono (fun q hq => List.mem_cons_of_mem _ hq))
    have hfB : xFr [a, ls, bs] X (xup X2 a (.inr (1, [.ref ls, .ref mp, .int z]))) := hfA.trans (xFr_up ha2 (fun z => z) (by simp))
    have hbn : b2 = bs ∨ X b2 = none := hb2.imp id (fun e => hfY.2 _ (hfr0.2 _ e))
    refine xr_vret C d_Ma_addSession_51 (by omega) (by omega) ⟨rfl, I1, b2, _, as' ++ [q9], ⟨hle1.1, fun q c hq hi => ?_⟩, hI2.up1 ha2 (by decide) (by decide), ⟨xup_self, hL2.keep1 ha2 (by decide), ?_, ⟨?_, ?_⟩, (hM.le hle1.1).keepz hfB n2 n3 n4, hll, hbb.new hfB hbn hbe⟩, hfB, hbn, ?_⟩
    · obtain ⟨c', hc'⟩ := hfY.dom q c hq
      exact hle1.2 q c' hc' hi
    · rw [hop]
      exact (hEY.le hle1.1).snoc hS1
    · rw [hop, List.length_append, List.length_singleton]
      omega
    · intro s hs
      rw [hop] at hs
      rcases List.mem_append.mp hs with h | h
      · exact hoY s h
      · rw [List.mem_singleton.mp h]
        exact Nat.zero_le _
    · split
      · exact Nat.le_refl _
      · exact nx_ge
  refine xr_aload_n C d_Ma_addSession_0 1 rfl rfl ?_
  refine xr_get C K_Ma 0 d_Ma_addSession_1 4 rfl q_88 (Or.inl rfl) rfl (by first | assumption | exact xup_self | exact (xup_ne (by assumption)).trans (by assumption) | exact (xup_ne (Ne.symm (by assumption))).trans (by assumption) | exact (xup_ne (by assumption)).trans xup_self | exact (xup_ne (Ne.symm (by assumption))).trans xup_self) rfl ?_
  refine xr_callV C (l_size hL) k_AL_size d_Ma_addSession_4 7 rfl (by first | assumption | exact xup_self | exact (xup_ne (by assumption)).trans (by assumption) | exact (xup_ne (Ne.symm (by assumption))).trans (by assumption) | exact (xup_ne (by assumption)).trans xup_self | exact (xup_ne (Ne.symm (by assumption))).trans xup_self) rfl (Or.inl q_270) v_AL_size e_AL_size h_AL_size rfl ⟨Nat.le_of_ble_eq_true rfl, Nat.le_of_ble_eq_true rfl, Nat.le_of_ble_eq_true rfl⟩ (by omega) (by omega) (fun v9 X hP => ?_) (fun _ _ h => absurd h.1 (by simp))
  obtain ⟨h1, rfl⟩ := hP
  cases h1
  refine xr_bipush (v := 16) C d_Ma_addSession_7 9 rfl (by decide) ?_
  refine xr_toi (show _ = nI 16 from rfl) ?_
  refine xr_icmp_lt C d_Ma_addSession_9 12 24 rfl (by decide) (fun h9 => ?_) (fun h9 => ?_)
  · have h16 : as1.length < 16 := (nI_ltI (by omega) (by omega)).mp h9
    exact tail X as1 ss hI ha hL hE (by omega) hok.2 xFr.rf (by unfold opS; rw [if_neg (by omega)])
  · have h16 : ¬ as1.length < 16 := fun h => h9 (nI_lt h (by omega))
    have hlu : lu ss < ss.length := by
      have := luf_le ss (ss.length - 1)
      unfold lu
      omega
    refine xr_aload_n C d_Ma_addSession_12 13 rfl rfl ?_
    refine xr_get C K_Ma 0 d_Ma_addSession_13 16 rfl q_88 (Or.inl rfl) rfl (by first | assumption | exact xup_self | exact (xup_ne (by assumption)).trans (by assumption) | exact (xup_ne (Ne.symm (by assumption))).trans (by assumption) | exact (xup_ne (by assumption)).trans xup_self | exact (xup_ne (Ne.symm (by assumption))).trans xup_self) rfl ?_
    refine xr_aload_n C d_Ma_addSession_16 17 rfl rfl ?_
    refine xr_callV C (c_Ma_longestUnused hI hA (by omega)) k_Ma_longestUnused d_Ma_addSession_17 20 rfl (by first | assumption | exact xup_self | exact (xup_ne (by assumption)).trans (by assumption) | exact (xup_ne (Ne.symm (by assumption))).trans (by assumption) | exact (xup_ne (by assumption)).trans xup_self | exact (xup_ne (Ne.symm (by assumption))).trans xup_self) rfl (Or.inl q_274) v_Ma_longestUnused e_Ma_longestUnused h_Ma_longestUnused rfl ⟨Nat.le_of_ble_eq_true rfl, Nat.le_of_ble_eq_true rfl, Nat.le_of_ble_eq_true rfl⟩ (by omega) (by omega) (fun v9 X hP => ?_) (fun _ _ h => absurd h.1 (by simp))
    obtain ⟨h1, rfl⟩ := hP
    cases h1
    refine xr_callV C (l_remove hL (by omega) (hE.ob hI)) k_AL_remove d_Ma_addSession_20 23 rfl (by first | assumption | exact xup_self | exact (xup_ne (by assumption)).trans (by assumption) | exact (xup_ne (Ne.symm (by assumption))).trans (by assumption) | exact (xup_ne (by assumption)).trans xup_self | exact (xup_ne (Ne.symm (by assumption))).trans xup_self) rfl (Or.inl q_293) v_AL_remove e_AL_remove h_AL_remove rfl ⟨Nat.le_of_ble_eq_true rfl, Nat.le_of_ble_eq_true rfl, Nat.le_of_ble_eq_true rfl⟩ (by omega) (by omega) (fun v9 X2 hP => ?_) (fun _ _ h => absurd h.1 (by simp))
    obtain ⟨h1, hL2, hf2⟩ := hP
    cases h1
    refine xr_pop C d_Ma_addSession_23 24 rfl rfl ?_
    refine tail X2 _ (ss.eraseIdx (lu ss)) (hI.keepL hL hf2) (hf2.use ha n1) hL2 (hE.erase hlu) ?_ (fun s hs => hok.2 s (List.mem_of_mem_eraseIdx hs)) (hf2.mono (fun q hq => List.mem_cons_of_mem _ hq)) (by unfold opS; rw [if_pos (by omega)])
    rw [List.length_eraseIdx_of_lt hlu]
    omega
set_option maxRecDepth 100000 in
set_option maxHeartbeats 4000000 in
theorem c_Ma_forget {l : Launch} {D : va_G} {H0 : Heap} {X : xH} {a ls bs cs mp la be ce : Nat} {as1 as2 : List Nat} {ss : List Ss} {es : List Es} {g : Int32} {I : Nat → Option Imm} (hI : xIm D X I) (hA : xMac D X I a ls bs cs mp la be ce as1 as2 ss es g) : xMet l D H0 y_Ma_forget b_Ma_forget 1 none [] 1 0 0 [.ref a] X (fun o X' => o = .inl none ∧ xIm D X' I ∧ xMac D X' I a ls bs cs mp la be ce [] [] [] [] g ∧ xFr [ls, bs, mp, la, be] X X') := by
  obtain ⟨ha, hL, hE, hok, hM, hll, hbb⟩ := id hA
  obtain ⟨vl, hl⟩ := hL.ob
  have hlen := hE.1
  have hle := hL.len
  have hok1 := hok.1
  obtain ⟨fbs, hbs⟩ := hL.ar
  obtain ⟨fbe, hbe⟩ := hM.2.1.ar
  obtain ⟨vla, hla⟩ := hM.2.1.ob
  have hmp := hM.1
  have n1 : a ∉ [ls, bs] := by
    simp only [List.mem_cons, List.not_mem_nil, or_false, not_or]
    exact ⟨xne ha hl (by intro h; cases h), xne ha hbs (by intro h; cases h)⟩
  have n2 : mp ∉ [ls, bs] := by
    simp only [List.mem_cons, List.not_mem_nil, or_false, not_or]
    exact ⟨xne hmp hl (by intro h; cases h), xne hmp hbs (by intro h; cases h)⟩
  have n3 : la ∉ [ls, bs] := by
    simp only [List.mem_cons, List.not_mem_nil, or_false, not_or]
    exact ⟨Ne.symm hll, xne hla hbs (by intro h; cases h)⟩
  have n4 : be ∉ [ls, bs] ∨ xz0 X be := by
    rcases hbb.symm with h | h
    · left
      simp only [List.mem_cons, List.not_mem_nil, or_false, not_or]
      exact ⟨xne hbe hl (by intro h; cases h), h⟩
    · exact Or.inr h
  have n5 : mp ∉ [la, be] := by
    simp only [List.mem_cons, List.not_mem_nil, or_false, not_or]
    exact ⟨xne hmp hla (by intro h; cases h), xne hmp hbe (by intro h; cases h)⟩
  have n6 : a ∉ [la, be] := by
    simp only [List.mem_cons, List.not_mem_nil, or_false, not_or]
    exact ⟨xne ha hla (by intro h; cases h), xne ha hbe (by intro h; cases h)⟩
  refine ⟨[some (.ref a)], rfl, Nat.le_of_ble_eq_true rfl, fun E hD hH hl _ C => ?_⟩
  subst hD
  subst hH
  subst hl
  refine xr_aload_n C d_Ma_forget_0 1 rfl rfl ?_
  refine xr_get C K_Ma 0 d_Ma_forget_1 4 rfl q_88 (Or.inl rfl) rfl (by first | assumption | exact xup_self | exact (xup_ne (by assumption)).trans (by assumption) | exact (xup_ne (Ne.symm (by assumption))).trans (by assumption) | exact (xup_ne (by assumption)).trans xup_self | exact (xup_ne (Ne.symm (by assumption))).trans xup_self) rfl ?_
  refine xr_callV C (l_clear hL) k_AL_clear d_Ma_forget_4 7 rfl (by first | assumption | exact xup_self | exact (xup_ne (by assumption)).trans (by assumption) | exact (xup_ne (Ne.symm (by assumption))).trans (by assumption) | exact (xup_ne (by assumption)).trans xup_self | exact (xup_ne (Ne.symm (by assumption))).trans xup_self) rfl (Or.inl q_874) v_AL_clear e_AL_clear h_AL_clear rfl ⟨Nat.le_of_ble_eq_true rfl, Nat.le_of_ble_eq_true rfl, Nat.le_of_ble_eq_true rfl⟩ (by omega) (by omega) (fun v9 X1 hP => ?_) (fun _ _ h => absurd h.1 (by simp))
  obtain ⟨h1, hL1, hf1⟩ := hP
  cases h1
  have ha1 := hf1.use ha n1
  have hM1 := hM.keepz hf1 n2 n3 n4
  have hmp1 := hM1.1
  have hI1 := hI.keepL hL hf1
  obtain ⟨vla1, hla1⟩ := hM1.2.1.ob
  refine xr_aload_n C d_Ma_forget_7 8 rfl rfl ?_
  refine xr_get C K_Ma 1 d_Ma_forget_8 11 rfl q_90 (Or.inl rfl) rfl (by first | assumption | exact xup_self | exact (xup_ne (by assumption)).trans (by assumption) | exact (xup_ne (Ne.symm (by assumption))).trans (by assumption) | exact (xup_ne (by assumption)).trans xup_self | exact (xup_ne (Ne.symm (by assumption))).trans xup_self) rfl ?_
  refine xr_get C K_KM 0 d_Ma_forget_11 14 rfl q_78 (Or.inl rfl) rfl (by first | assumption | exact xup_self | exact (xup_ne (by assumption)).trans (by assumption) | exact (xup_ne (Ne.symm (by assumption))).trans (by assumption) | exact (xup_ne (by assumption)).trans xup_self | exact (xup_ne (Ne.symm (by assumption))).trans xup_self) rfl ?_
  refine xr_callV C (l_clear hM1.2.1) k_AL_clear d_Ma_forget_14 17 rfl (by first | assumption | exact xup_self | exact (xup_ne (by assumption)).trans (by assumption) | exact (xup_ne (Ne.symm (by assumption))).trans (by assumption) | exact (xup_ne (by assumption)).trans xup_self | exact (xup_ne (Ne.symm (by assumption))).trans xup_self) rfl (Or.inl q_874) v_AL_clear e_AL_clear h_AL_clear rfl ⟨Nat.le_of_ble_eq_true rfl, Nat.le_of_ble_eq_true rfl, Nat.le_of_ble_eq_true rfl⟩ (by omega) (by omega) (fun v9 X2 hP => ?_) (fun _ _ h => absurd h.1 (by simp))
  obtain ⟨h1, hL2, hf2⟩ := hP
  cases h1
  have ha2 := hf2.use ha1 n6
  have hmp2 := hf2.use hmp1 n5
  have hI2 := hI1.keepL hM1.2.1 hf2
  have n7 : ls ∉ [la, be] := by
    simp only [List.mem_cons, List.not_mem_nil, or_false, not_or]
    exact ⟨hll, xne hl hbe (by intro h; cases h)⟩
  have n8 : bs ∉ [la, be] ∨ xz0 X1 bs := by
    rcases hbb with h | h
    · left
      simp only [List.mem_cons, List.not_mem_nil, or_false, not_or]
      exact ⟨xne hbs hla (by intro h; cases h), h⟩
    · exact Or.inr (h.keep hf1)
  have hL3 := hL1.keepz hf2 n7 n8
  refine xr_aload_n C d_Ma_forget_17 18 rfl rfl ?_
  refine xr_get C K_Ma 1 d_Ma_forget_18 21 rfl q_90 (Or.inl rfl) rfl (by first | assumption | exact xup_self | exact (xup_ne (by assumption)).trans (by assumption) | exact (xup_ne (Ne.symm (by assumption))).trans (by assumption) | exact (xup_ne (by assumption)).trans xup_self | exact (xup_ne (Ne.symm (by assumption))).trans xup_self) rfl ?_
  refine xr_iconst (v := 0) C d_Ma_forget_21 22 rfl (by decide) ?_
  refine xr_put C K_KM 1 d_Ma_forget_22 25 rfl q_81 (Or.inl rfl) rfl rfl rfl rfl (by first | assumption | exact xup_self | exact (xup_ne (by assumption)).trans (by assumption) | exact (xup_ne (Ne.symm (by assumption))).trans (by assumption) | exact (xup_ne (by assumption)).trans xup_self | exact (xup_ne (Ne.symm (by assumption))).trans xup_self) rfl rfl ?_
  have hfA : xFr [ls, bs, mp, la, be] X (xup X2 mp (.inr (2, [.ref la, .int 0]))) := by
    refine ((hf1.mono ?_).trans (hf2.mono ?_)).trans (xFr_up hmp2 (fun z => z) (by simp))
    · intro q hq
      simp only [List.mem_cons, List.not_mem_nil, or_false] at hq ⊢
      rcases hq with e | e
      · exact Or.inl e
      · exact Or.inr (Or.inl e)
    · intro q hq
      simp only [List.mem_cons, List.not_mem_nil, or_false] at hq ⊢
      exact Or.inr (Or.inr (Or.inr hq))
  refine xr_vret C d_Ma_forget_25 (by omega) (by omega) ⟨rfl, hI2.up1 hmp2 (by decide) (by decide), ⟨?_, hL3.keep1 hmp2 (by decide), ⟨rfl, fun i hi => absurd hi (Nat.not_lt_zero _)⟩, ⟨Nat.zero_le _, fun s hs => absurd hs List.not_mem_nil⟩, ⟨xup_self, hL2.keep1 hmp2 (by decide), ⟨rfl, fun i hi => absurd hi (Nat.not_lt_zero _)⟩, Nat.zero_le _, Nat.zero_le _, fun s hs => absurd hs List.not_mem_nil⟩, hll, hbb.keep hfA⟩, hfA⟩
  exact (xup_ne (xne ha2 hmp2 (by intro h; cases h))).trans ha2
end
section
/-! Machines: compared, told. -/
theorem ss_ext {ss tt : List Ss} (hl : ss.length = tt.length) (h : ∀ i, i < ss.length → sD ss i = sD tt i) : ss = tt := by
  refine List.ext_getElem hl (fun i h1 h2 => ?_)
  have := h i h1
  unfold sD at this
  rw [List.getD_eq_getElem?_getD, List.getD_eq_getElem?_getD, List.getElem?_eq_getElem h1, List.getElem?_eq_getElem h2] at this
  exact this
theorem es_ext {ss tt : List Es} (hl : ss.length = tt.length) (h : ∀ i, i < ss.length → eD ss i = eD tt i) : ss = tt := by
  refine List.ext_getElem hl (fun i h1 h2 => ?_)
  have := h i h1
  unfold eD at this
  rw [List.getD_eq_getElem?_getD, List.getD_eq_getElem?_getD, List.getElem?_eq_getElem h1, List.getElem?_eq_getElem h2] at this
  exact this
theorem takeg {α : Type} {l : List α} {i : Nat} (d : α) (h : i < l.length) : l.take (i + 1) = l.take i ++ [l.getD i d] := by
  rw [List.getD_eq_getElem?_getD, List.getElem?_eq_getElem h, Option.getD_some, List.take_append_getElem]
def rbS (ss : List Ss) : Nat := (ss.map (fun s => 18 + s.2.2.2.2.length)).sum
def rbE (es : List Es) : Nat := (es.map (fun e => 3 + e.1.length + e.2.length)).sum
def telS (ss : List Ss) : List Int32 := ss.flatMap tellS
def telE (es : List Es) : List Int32 := es.flatMap tellE
theorem rbS_take {ss : List Ss} {i : Nat} (h : i < ss.length) : rbS (ss.take (i + 1)) = rbS (ss.take i) + (18 + (sD ss i).2.2.2.2.length) := by
  unfold rbS
  rw [takeg (0, 0, 0, 0, []) h, List.map_append, List.sum_append]
  rfl
theorem rbE_take {es : List Es} {i : Nat} (h : i < es.length) : rbE (es.take (i + 1)) = rbE (es.take i) + (3 + (eD es i).1.length + (eD es i).2.length) := by
  unfold rbE
  rw [takeg ([], []) h, List.map_append, List.sum_append]
  rfl
theorem telS_take {ss : List Ss} {i : Nat} (h : i < ss.length) : telS (ss.take (i + 1)) = telS (ss.take i) ++ tellS (sD ss i) := by
  unfold telS
  rw [takeg (0, 0, 0, 0, []) h, List.flatMap_append]
  simp [sD]
theorem telE_take {es : List Es} {i : Nat} (h : i < es.length) : telE (es.take (i + 1)) = telE (es.take i) ++ tellE (eD es i) := by
  unfold telE
  rw [takeg ([], []) h, List.flatMap_append]
  simp [eD]
theorem telS_len : ∀ ss : List Ss, (telS ss).length = rbS ss
  | [] => rfl
  | s :: ss => by
    have ih := telS_len ss
    show (tellS s ++ telS ss).length = (18 + s.2.2.2.2.length) + rbS ss
    rw [List.length_append, tellS_len, ih]
theorem telE_len : ∀ es : List Es, (telE es).length = rbE es
  | [] => rfl
  | e :: es => by
    have ih := telE_len es
    show (tellE e ++ telE es).length = (3 + e.1.length + e.2.length) + rbE es
    rw [List.length_append, tellE_len, ih]
theorem rbS_mono {ss : List Ss} {i : Nat} : rbS (ss.take i) ≤ rbS ss := by
  have h : rbS ss = rbS (ss.take i) + rbS (ss.drop i) := by
    unfold rbS
    rw [← List.sum_append, ← List.map_append, List.take_append_drop]
  omega
theorem rbE_mono {ss : List Es} {i : Nat} : rbE (ss.take i) ≤ rbE ss := by
  have h : rbE ss = rbE (ss.take i) + rbE (ss.drop i) := by
    unfold rbE
    rw [← List.sum_append, ← List.map_append, List.take_append_drop]
  omega
theorem rbS_le {ss : List Ss} (h : ∀ s ∈ ss, s.2.2.2.2.length ≤ 104) : rbS ss ≤ 122 * ss.length := by
  induction ss with
  | nil => exact Nat.le_refl _
  | cons s ss ih =>
    have h1 := h s (List.mem_cons_self)
    have h2 := ih (fun t ht => h t (List.mem_cons_of_mem _ ht))
    show 18 + s.2.2.2.2.length + rbS ss ≤ 122 * (ss.length + 1)
    omega
theorem rbE_le {es : List Es} : rbE es ≤ 3 * es.length + 16 * uns es := by
  induction es with
  | nil => exact Nat.le_refl _
  | cons e es ih =>
    show 3 + e.1.length + e.2.length + rbE es ≤ 3 * (es.length + 1) + 16 * (un e + uns es)
    have : e.1.length + e.2.length ≤ 16 * un e := by
      unfold un
      omega
    omega
theorem rb_top {ss : List Ss} {es : List Es} (h1 : okS ss) (h2 : okM es) : rbS ss + rbE es ≤ 13536 := by
  have a := rbS_le h1.2
  have b := rbE_le (es := es)
  have c := h1.1
  have d := h2.1
  have e := h2.2.1
  omega
set_option maxRecDepth 100000 in
set_option maxHeartbeats 4000000 in
theorem c_Ma_hasSessionsOf {l : Launch} {D : va_G} {H0 : Heap} {X : xH} {a ls bs cs mp la be ce : Nat} {as1 as2 : List Nat} {ss : List Ss} {es : List Es} {g : Int32} {a' ls' bs' cs' mp' la' be' ce' : Nat} {as1' as2' : List Nat} {ss' : List Ss} {es' : List Es} {g' : Int32} {I : Nat → Option Imm} (hI : xIm D X I) (hA : xMac D X I a ls bs cs mp la be ce as1 as2 ss es g) (hB : xMac D X I a' ls' bs' cs' mp' la' be' ce' as1' as2' ss' es' g') : xMet l D H0 y_Ma_hasSessionsOf b_Ma_hasSessionsOf 3 (some .boolean) [] 3 0 0 [.ref a, .ref a'] X (fun o X' => o = .inl (some ((.int (if ss = ss' then 1 else 0)))) ∧ X' = X) := by
  obtain ⟨ha, hL, hE, hok, hM, hll, hbb⟩ := id hA
  obtain ⟨vl, hl⟩ := hL.ob
  have hlen := hE.1
  have hle := hL.len
  have hok1 := hok.1
  obtain ⟨ha', hL', hE', hok', hM', hll', hbb'⟩ := id hB
  obtain ⟨vl', hl'⟩ := hL'.ob
  have hlen' := hE'.1
  have hle' := hL'.len
  refine ⟨[some (.ref a), some (.ref a'), none], rfl, Nat.le_of_ble_eq_true rfl, fun E hD hH hl _ C => ?_⟩
  subst hD
  subst hH
  subst hl
  have no : ∀ pc, (pc = 17 ∨ pc = 60) → ss ≠ ss' → ∀ w, xG E X 0 0 pc [some (.ref a), some (.ref a'), w] [] := by
    intro pc hpc h w
    rcases hpc with e | e
    · subst e
      refine xr_iconst (v := 0) C d_Ma_hasSessionsOf_17 18 rfl (by decide) ?_
      exact xr_zret C d_Ma_hasSessionsOf_18 rfl (by omega) (by omega) ⟨by rw [if_neg h], rfl⟩
    · subst e
      refine xr_iconst (v := 0) C d_Ma_hasSessionsOf_60 61 rfl (by decide) ?_
      exact xr_zret C d_Ma_hasSessionsOf_61 rfl (by omega) (by omega) ⟨by rw [if_neg h], rfl⟩
  refine xr_aload_n C d_Ma_hasSessionsOf_0 1 rfl rfl ?_
  refine xr_get C K_Ma 0 d_Ma_hasSessionsOf_1 4 rfl q_88 (Or.inl rfl) rfl (by first | assumption | exact xup_self | exact (xup_ne (by assumption)).trans (by assumption) | exact (xup_ne (Ne.symm (by assumption))).trans (by assumption) | exact (xup_ne (by assumption)).trans xup_self | exact (xup_ne (Ne.symm (by assumption))).trans xup_self) rfl ?_
  refine xr_callV C (l_size hL) k_AL_size d_Ma_hasSessionsOf_4 7 rfl (by first | assumption | exact xup_self | exact (xup_ne (by assumption)).trans (by assumption) | exact (xup_ne (Ne.symm (by assumption))).trans (by assumption) | exact (xup_ne (by assumption)).trans xup_self | exact (xup_ne (Ne.symm (by assumption))).trans xup_self) rfl (Or.inl q_270) v_AL_size e_AL_size h_AL_size rfl ⟨Nat.le_of_ble_eq_true rfl, Nat.le_of_ble_eq_true rfl, Nat.le_of_ble_eq_true rfl⟩ (by omega) (by omega) (fun v9 X hP => ?_) (fun _ _ h => absurd h.1 (by simp))
  obtain ⟨h1, rfl⟩ := hP
  cases h1
  refine xr_aload_n C d_Ma_hasSessionsOf_7 8 rfl rfl ?_
  refine xr_get C K_Ma 0 d_Ma_hasSessionsOf_8 11 rfl q_88 (Or.inl rfl) rfl (by first | assumption | exact xup_self | exact (xup_ne (by assumption)).trans (by assumption) | exact (xup_ne (Ne.symm (by assumption))).trans (by assumption) | exact (xup_ne (by assumption)).trans xup_self | exact (xup_ne (Ne.symm (by assumption))).trans xup_self) rfl ?_
  refine xr_callV C (l_size hL') k_AL_size d_Ma_hasSessionsOf_11 14 rfl (by first | assumption | exact xup_self | exact (xup_ne (by assumption)).trans (by assumption) | exact (xup_ne (Ne.symm (by assumption))).trans (by assumption) | exact (xup_ne (by assumption)).trans xup_self | exact (xup_ne (Ne.symm (by assumption))).trans xup_self) rfl (Or.inl q_270) v_AL_size e_AL_size h_AL_size rfl ⟨Nat.le_of_ble_eq_true rfl, Nat.le_of_ble_eq_true rfl, Nat.le_of_ble_eq_true rfl⟩ (by omega) (by omega) (fun v9 X hP => ?_) (fun _ _ h => absurd h.1 (by simp))
  obtain ⟨h1, rfl⟩ := hP
  cases h1
  refine xr_icmp_eq C d_Ma_hasSessionsOf_14 17 19 rfl (by decide) (fun h14 => ?_) (fun h14 => no 17 (Or.inl rfl) (fun e => h14 (by rw [hlen, hlen', e])) _)
  have hll2 : as1.length = as1'.length := (nI_eq (by omega) (by omega)).mp h14
  have loop : ∀ (k i : Nat), i + k = ss.length → (∀ j, j < i → sD ss j = sD ss' j) → xG E X 0 0 21 [some (.ref a), some (.ref a'), some (.int (nI i))] [] := by
    intro k
    induction k with
    | zero =>
      intro i hi h1
      refine xr_iload_n C d_Ma_hasSessionsOf_21 22 rfl rfl ?_
      refine xr_aload_n C d_Ma_hasSessionsOf_22 23 rfl rfl ?_
      refine xr_get C K_Ma 0 d_Ma_hasSessionsOf_23 26 rfl q_88 (Or.inl rfl) rfl (by first | assumption | exact xup_self | exact (xup_ne (by assumption)).trans (by assumption) | exact (xup_ne (Ne.symm (by assumption))).trans (by assumption) | exact (xup_ne (by assumption)).trans xup_self | exact (xup_ne (Ne.symm (by assumption))).trans xup_self) rfl ?_
      refine xr_callV C (l_size hL) k_AL_size d_Ma_hasSessionsOf_26 29 rfl (by first | assumption | exact xup_self | exact (xup_ne (by assumption)).trans (by assumption) | exact (xup_ne (Ne.symm (by assumption))).trans (by assumption) | exact (xup_ne (by assumption)).trans xup_self | exact (xup_ne (Ne.symm (by assumption))).trans xup_self) rfl (Or.inl q_270) v_AL_size e_AL_size h_AL_size rfl ⟨Nat.le_of_ble_eq_true rfl, Nat.le_of_ble_eq_true rfl, Nat.le_of_ble_eq_true rfl⟩ (by omega) (by omega) (fun v9 X hP => ?_) (fun _ _ h => absurd h.1 (by simp))
      obtain ⟨h1, rfl⟩ := hP
      cases h1
      refine xr_icmp_ge C d_Ma_hasSessionsOf_29 32 68 rfl (by decide) (fun _ => ?_) (fun h => absurd (nI_le (show as1.length ≤ i by omega) (by omega)) h)
      refine xr_iconst (v := 1) C d_Ma_hasSessionsOf_68 69 rfl (by decide) ?_
      exact xr_zret C d_Ma_hasSessionsOf_69 rfl (by omega) (by omega) ⟨by rw [if_pos (ss_ext (by omega) (fun j hj => h1 j (by omega)))], rfl⟩
    | succ k ih =>
      intro i hi h1
      have i1 : i < as1.length := by omega
      have i2 : i < as1'.length := by omega
      obtain ⟨q, k1, k2, k3⟩ := (hE.2 i i1).use hI
      obtain ⟨q', k1', k2', k3'⟩ := (hE'.2 i i2).use hI
      refine xr_iload_n C d_Ma_hasSessionsOf_21 22 rfl rfl ?_
      refine xr_aload_n C d_Ma_hasSessionsOf_22 23 rfl rfl ?_
      refine xr_get C K_Ma 0 d_Ma_hasSessionsOf_23 26 rfl q_88 (Or.inl rfl) rfl (by first | assumption | exact xup_self | exact (xup_ne (by assumption)).trans (by assumption) | exact (xup_ne (Ne.symm (by assumption))).trans (by assumption) | exact (xup_ne (by assumption)).trans xup_self | exact (xup_ne (Ne.symm (by assumption))).trans xup_self) rfl ?_
      refine xr_callV C (l_size hL) k_AL_size d_Ma_hasSessionsOf_26 29 rfl (by first | assumption | exact xup_self | exact (xup_ne (by assumption)).trans (by assumption) | exact (xup_ne (Ne.symm (by assumption))).trans (by assumption) | exact (xup_ne (by assumption)).trans xup_self | exact (xup_ne (Ne.symm (by assumption))).trans xup_self) rfl (Or.inl q_270) v_AL_size e_AL_size h_AL_size rfl ⟨Nat.le_of_ble_eq_true rfl, Nat.le_of_ble_eq_true rfl, Nat.le_of_ble_eq_true rfl⟩ (by omega) (by omega) (fun v9 X hP => ?_) (fun _ _ h => absurd h.1 (by simp))
      obtain ⟨h1, rfl⟩ := hP
      cases h1
      refine xr_icmp_ge C d_Ma_hasSessionsOf_29 32 68 rfl (by decide) (fun h => absurd h (nI_ge i1 (by omega))) (fun _ => ?_)
      refine xr_aload_n C d_Ma_hasSessionsOf_32 33 rfl rfl ?_
      refine xr_get C K_Ma 0 d_Ma_hasSessionsOf_33 36 rfl q_88 (Or.inl rfl) rfl (by first | assumption | exact xup_self | exact (xup_ne (by assumption)).trans (by assumption) | exact (xup_ne (Ne.symm (by assumption))).trans (by assumption) | exact (xup_ne (by assumption)).trans xup_self | exact (xup_ne (Ne.symm (by assumption))).trans xup_self) rfl ?_
      refine xr_iload_n C d_Ma_hasSessionsOf_36 37 rfl rfl ?_
      refine xr_callV C (l_get hL i1) k_AL_get d_Ma_hasSessionsOf_37 40 rfl (by first | assumption | exact xup_self | exact (xup_ne (by assumption)).trans (by assumption) | exact (xup_ne (Ne.symm (by assumption))).trans (by assumption) | exact (xup_ne (by assumption)).trans xup_self | exact (xup_ne (Ne.symm (by assumption))).trans xup_self) rfl (Or.inl q_278) v_AL_get e_AL_get h_AL_get rfl ⟨Nat.le_of_ble_eq_true rfl, Nat.le_of_ble_eq_true rfl, Nat.le_of_ble_eq_true rfl⟩ (by omega) (by omega) (fun v9 X hP => ?_) (fun _ _ h => absurd h.1 (by simp))
      obtain ⟨h1, rfl⟩ := hP
      cases h1
      refine xr_cast C d_Ma_hasSessionsOf_40 43 rfl k1 rfl q_292 ?_
      refine xr_aload_n C d_Ma_hasSessionsOf_43 44 rfl rfl ?_
      refine xr_get C K_Ma 0 d_Ma_hasSessionsOf_44 47 rfl q_88 (Or.inl rfl) rfl (by first | assumption | exact xup_self | exact (xup_ne (by assumption)).trans (by assumption) | exact (xup_ne (Ne.symm (by assumption))).trans (by assumption) | exact (xup_ne (by assumption)).trans xup_self | exact (xup_ne (Ne.symm (by assumption))).trans xup_self) rfl ?_
      refine xr_iload_n C d_Ma_hasSessionsOf_47 48 rfl rfl ?_
      refine xr_callV C (l_get hL' i2) k_AL_get d_Ma_hasSessionsOf_48 51 rfl (by first | assumption | exact xup_self | exact (xup_ne (by assumption)).trans (by assumption) | exact (xup_ne (Ne.symm (by assumption))).trans (by assumption) | exact (xup_ne (by assumption)).trans xup_self | exact (xup_ne (Ne.symm (by assumption))).trans xup_self) rfl (Or.inl q_278) v_AL_get e_AL_get h_AL_get rfl ⟨Nat.le_of_ble_eq_true rfl, Nat.le_of_ble_eq_true rfl, Nat.le_of_ble_eq_true rfl⟩ (by omega) (by omega) (fun v9 X hP => ?_) (fun _ _ h => absurd h.1 (by simp))
      obtain ⟨h1, rfl⟩ := hP
      cases h1
      refine xr_cast C d_Ma_hasSessionsOf_51 54 rfl k1' rfl q_292 ?_
      refine xr_callV C (c_Se_isLike hI (hE.2 i i1) (hE'.2 i i2)) k_Se_isLike d_Ma_hasSessionsOf_54 57 rfl k1 rfl (Or.inl q_852) v_Se_isLike e_Se_isLike h_Se_isLike rfl ⟨Nat.le_of_ble_eq_true rfl, Nat.le_of_ble_eq_true rfl, Nat.le_of_ble_eq_true rfl⟩ (by omega) (by omega) (fun v9 X hP => ?_) (fun _ _ h => absurd h.1 (by simp))
      obtain ⟨h1, rfl⟩ := hP
      cases h1
      by_cases hc : sD ss i = sD ss' i
      · refine xr_toi (if_pos hc) ?_
        refine xr_if_ne C d_Ma_hasSessionsOf_57 60 62 rfl (by decide) (fun _ => ?_) (fun h => absurd h (by decide))
        refine xr_iinc (v := 1) C d_Ma_hasSessionsOf_62 65 rfl rfl rfl rfl (by decide) ?_
        refine xr_goto C d_Ma_hasSessionsOf_65 21 (by decide) ?_
        refine xG.eqL (show _ = [some (Value.ref a), some (Value.ref a'), some (Value.int (nI (i + 1)))] by rw [← nI_one]; rfl) ?_
        refine ih (i + 1) (by omega) (fun j hj => ?_)
        by_cases e : j = i
        · rw [e]
          exact hc
        · exact h1 j (by omega)
      · refine xr_toi (if_neg hc) ?_
        refine xr_if_ne C d_Ma_hasSessionsOf_57 60 62 rfl (by decide) (fun h => absurd rfl h) (fun _ => no 60 (Or.inr rfl) (fun e => hc (by rw [e])) _)
  refine xr_iconst (v := 0) C d_Ma_hasSessionsOf_19 20 rfl (by decide) ?_
  refine xr_istore_n C d_Ma_hasSessionsOf_20 21 rfl rfl rfl ?_
  exact loop ss.length 0 (by omega) (fun j hj => absurd hj (Nat.not_lt_zero _))
set_option maxRecDepth 100000 in
set_option maxHeartbeats 4000000 in
theorem c_Ma_hasEntriesOf {l : Launch} {D : va_G} {H0 : Heap} {X : xH} {a ls bs cs mp la be ce : Nat} {as1 as2 : List Nat} {ss : List Ss} {es : List Es} {g : Int32} {a' ls' bs' cs' mp' la' be' ce' : Nat} {as1' as2' : List Nat} {ss' : List Ss} {es' : List Es} {g' : Int32} {I : Nat → Option Imm} (hI : xIm D X I) (hA : xMac D X I a ls bs cs mp la be ce as1 as2 ss es g) (hB : xMac D X I a' ls' bs' cs' mp' la' be' ce' as1' as2' ss' es' g') : xMet l D H0 y_Ma_hasEntriesOf b_Ma_hasEntriesOf 3 (some .boolean) [] 3 0 0 [.ref a, .ref a'] X (fun o X' => o = .inl (some ((.int (if es = es' then 1 else 0)))) ∧ X' = X) := by
  obtain ⟨ha, hL, hE, hok, hM, hll, hbb⟩ := id hA
  obtain ⟨vl, hl⟩ := hL.ob
  have hlen := hE.1
  have hle := hL.len
  have hok1 := hok.1
  obtain ⟨ha', hL', hE', hok', hM', hll', hbb'⟩ := id hB
  obtain ⟨vl', hl'⟩ := hL'.ob
  have hlen' := hE'.1
  have hle' := hL'.len
  obtain ⟨hmp, hK, hF, hokm⟩ := id hM
  obtain ⟨vk, hk⟩ := hK.ob
  have hkl := hK.len
  have hkn := hF.1
  obtain ⟨hmp', hK', hF', hokm'⟩ := id hM'
  obtain ⟨vk', hk'⟩ := hK'.ob
  have hkl' := hK'.len
  have hkn' := hF'.1
  refine ⟨[some (.ref a), some (.ref a'), none], rfl, Nat.le_of_ble_eq_true rfl, fun E hD hH hl _ C => ?_⟩
  subst hD
  subst hH
  subst hl
  have no : ∀ pc, (pc = 23 ∨ pc = 75) → es ≠ es' → ∀ w, xG E X 0 0 pc [some (.ref a), some (.ref a'), w] [] := by
    intro pc hpc h w
    rcases hpc with e | e
    · subst e
      refine xr_iconst (v := 0) C d_Ma_hasEntriesOf_23 24 rfl (by decide) ?_
      exact xr_zret C d_Ma_hasEntriesOf_24 rfl (by omega) (by omega) ⟨by rw [if_neg h], rfl⟩
    · subst e
      refine xr_iconst (v := 0) C d_Ma_hasEntriesOf_75 76 rfl (by decide) ?_
      exact xr_zret C d_Ma_hasEntriesOf_76 rfl (by omega) (by omega) ⟨by rw [if_neg h], rfl⟩
  refine xr_aload_n C d_Ma_hasEntriesOf_0 1 rfl rfl ?_
  refine xr_get C K_Ma 1 d_Ma_hasEntriesOf_1 4 rfl q_90 (Or.inl rfl) rfl (by first | assumption | exact xup_self | exact (xup_ne (by assumption)).trans (by assumption) | exact (xup_ne (Ne.symm (by assumption))).trans (by assumption) | exact (xup_ne (by assumption)).trans xup_self | exact (xup_ne (Ne.symm (by assumption))).trans xup_self) rfl ?_
  refine xr_get C K_KM 0 d_Ma_hasEntriesOf_4 7 rfl q_78 (Or.inl rfl) rfl (by first | assumption | exact xup_self | exact (xup_ne (by assumption)).trans (by assumption) | exact (xup_ne (Ne.symm (by assumption))).trans (by assumption) | exact (xup_ne (by assumption)).trans xup_self | exact (xup_ne (Ne.symm (by assumption))).trans xup_self) rfl ?_
  refine xr_callV C (l_size hK) k_AL_size d_Ma_hasEntriesOf_7 10 rfl (by first | assumption | exact xup_self | exact (xup_ne (by assumption)).trans (by assumption) | exact (xup_ne (Ne.symm (by assumption))).trans (by assumption) | exact (xup_ne (by assumption)).trans xup_self | exact (xup_ne (Ne.symm (by assumption))).trans xup_self) rfl (Or.inl q_270) v_AL_size e_AL_size h_AL_size rfl ⟨Nat.le_of_ble_eq_true rfl, Nat.le_of_ble_eq_true rfl, Nat.le_of_ble_eq_true rfl⟩ (by omega) (by omega) (fun v9 X hP => ?_) (fun _ _ h => absurd h.1 (by simp))
  obtain ⟨h1, rfl⟩ := hP
  cases h1
  refine xr_aload_n C d_Ma_hasEntriesOf_10 11 rfl rfl ?_
  refine xr_get C K_Ma 1 d_Ma_hasEntriesOf_11 14 rfl q_90 (Or.inl rfl) rfl (by first | assumption | exact xup_self | exact (xup_ne (by assumption)).trans (by assumption) | exact (xup_ne (Ne.symm (by assumption))).trans (by assumption) | exact (xup_ne (by assumption)).trans xup_self | exact (xup_ne (Ne.symm (by assumption))).trans xup_self) rfl ?_
  refine xr_get C K_KM 0 d_Ma_hasEntriesOf_14 17 rfl q_78 (Or.inl rfl) rfl (by first | assumption | exact xup_self | exact (xup_ne (by assumption)).trans (by assumption) | exact (xup_ne (Ne.symm (by assumption))).trans (by assumption) | exact (xup_ne (by assumption)).trans xup_self | exact (xup_ne (Ne.symm (by assumption))).trans xup_self) rfl ?_
  refine xr_callV C (l_size hK') k_AL_size d_Ma_hasEntriesOf_17 20 rfl (by first | assumption | exact xup_self | exact (xup_ne (by assumption)).trans (by assumption) | exact (xup_ne (Ne.symm (by assumption))).trans (by assumption) | exact (xup_ne (by assumption)).trans xup_self | exact (xup_ne (Ne.symm (by assumption))).trans xup_self) rfl (Or.inl q_270) v_AL_size e_AL_size h_AL_size rfl ⟨Nat.le_of_ble_eq_true rfl, Nat.le_of_ble_eq_true rfl, Nat.le_of_ble_eq_true rfl⟩ (by omega) (by omega) (fun v9 X hP => ?_) (fun _ _ h => absurd h.1 (by simp))
  obtain ⟨h1, rfl⟩ := hP
  cases h1
  refine xr_icmp_eq C d_Ma_hasEntriesOf_20 23 25 rfl (by decide) (fun h14 => ?_) (fun h14 => no 23 (Or.inl rfl) (fun e => h14 (by rw [hkn, hkn', e])) _)
  have hll2 : as2.length = as2'.length := (nI_eq (by omega) (by omega)).mp h14
  have loop : ∀ (k i : Nat), i + k = es.length → (∀ j, j < i → eD es j = eD es' j) → xG E X 0 0 27 [some (.ref a), some (.ref a'), some (.int (nI i))] [] := by
    intro k
    induction k with
    | zero =>
      intro i hi h1
      refine xr_iload_n C d_Ma_hasEntriesOf_27 28 rfl rfl ?_
      refine xr_aload_n C d_Ma_hasEntriesOf_28 29 rfl rfl ?_
      refine xr_get C K_Ma 1 d_Ma_hasEntriesOf_29 32 rfl q_90 (Or.inl rfl) rfl (by first | assumption | exact xup_self | exact (xup_ne (by assumption)).trans (by assumption) | exact (xup_ne (Ne.symm (by assumption))).trans (by assumption) | exact (xup_ne (by assumption)).trans xup_self | exact (xup_ne (Ne.symm (by assumption))).trans xup_self) rfl ?_
      refine xr_get C K_KM 0 d_Ma_hasEntriesOf_32 35 rfl q_78 (Or.inl rfl) rfl (by first | assumption | exact xup_self | exact (xup_ne (by assumption)).trans (by assumption) | exact (xup_ne (Ne.symm (by assumption))).trans (by assumption) | exact (xup_ne (by assumption)).trans xup_self | exact (xup_ne (Ne.symm (by assumption))).trans xup_self) rfl ?_
      refine xr_callV C (l_size hK) k_AL_size d_Ma_hasEntriesOf_35 38 rfl (by first | assumption | exact xup_self | exact (xup_ne (by assumption)).trans (by assumption) | exact (xup_ne (Ne.symm (by assumption))).trans (by assumption) | exact (xup_ne (by assumption)).trans xup_self | exact (xup_ne (Ne.symm (by assumption))).trans xup_self) rfl (Or.inl q_270) v_AL_size e_AL_size h_AL_size rfl ⟨Nat.le_of_ble_eq_true rfl, Nat.le_of_ble_eq_true rfl, Nat.le_of_ble_eq_true rfl⟩ (by omega) (by omega) (fun v9 X hP => ?_) (fun _ _ h => absurd h.1 (by simp))
      obtain ⟨h1, rfl⟩ := hP
      cases h1
      refine xr_icmp_ge C d_Ma_hasEntriesOf_38 41 83 rfl (by decide) (fun _ => ?_) (fun h => absurd (nI_le (show as2.length ≤ i by omega) (by omega)) h)
      refine xr_iconst (v := 1) C d_Ma_hasEntriesOf_83 84 rfl (by decide) ?_
      exact xr_zret C d_Ma_hasEntriesOf_84 rfl (by omega) (by omega) ⟨by rw [if_pos (es_ext (by omega) (fun j hj => h1 j (by omega)))], rfl⟩
    | succ k ih =>
      intro i hi h1
      have i1 : i < as2.length := by omega
      have i2 : i < as2'.length := by omega
      obtain ⟨p, q, k1, k2, k3, -⟩ := (hF.2 i i1).use hI
      obtain ⟨p', q', k1', k2', k3', -⟩ := (hF'.2 i i2).use hI
      refine xr_iload_n C d_Ma_hasEntriesOf_27 28 rfl rfl ?_
      refine xr_aload_n C d_Ma_hasEntriesOf_28 29 rfl rfl ?_
      refine xr_get C K_Ma 1 d_Ma_hasEntriesOf_29 32 rfl q_90 (Or.inl rfl) rfl (by first | assumption | exact xup_self | exact (xup_ne (by assumption)).trans (by assumption) | exact (xup_ne (Ne.symm (by assumption))).trans (by assumption) | exact (xup_ne (by assumption)).trans xup_self | exact (xup_ne (Ne.symm (by assumption))).trans xup_self) rfl ?_
      refine xr_get C K_KM 0 d_Ma_hasEntriesOf_32 35 rfl q_78 (Or.inl rfl) rfl (by first | assumption | exact xup_self | exact (xup_ne (by assumption)).trans (by assumption) | exact (xup_ne (Ne.symm (by assumption))).trans (by assumption) | exact (xup_ne (by assumption)).trans xup_self | exact (xup_ne (Ne.symm (by assumption))).trans xup_self) rfl ?_
      refine xr_callV C (l_size hK) k_AL_size d_Ma_hasEntriesOf_35 38 rfl (by first | assumption | exact xup_self | exact (xup_ne (by assumption)).trans (by assumption) | exact (xup_ne (Ne.symm (by assumption))).trans (by assumption) | exact (xup_ne (by assumption)).trans xup_self | exact (xup_ne (Ne.symm (by assumption))).trans xup_self) rfl (Or.inl q_270) v_AL_size e_AL_size h_AL_size rfl ⟨Nat.le_of_ble_eq_true rfl, Nat.le_of_ble_eq_true rfl, Nat.le_of_ble_eq_true rfl⟩ (by omega) (by omega) (fun v9 X hP => ?_) (fun _ _ h => absurd h.1 (by simp))
      obtain ⟨h1, rfl⟩ := hP
      cases h1
      refine xr_icmp_ge C d_Ma_hasEntriesOf_38 41 83 rfl (by decide) (fun h => absurd h (nI_ge i1 (by omega))) (fun _ => ?_)
      refine xr_aload_n C d_Ma_hasEntriesOf_41 42 rfl rfl ?_
      refine xr_get C K_Ma 1 d_Ma_hasEntriesOf_42 45 rfl q_90 (Or.inl rfl) rfl (by first | assumption | exact xup_self | exact (xup_ne (by assumption)).trans (by assumption) | exact (xup_ne (Ne.symm (by assumption))).trans (by assumption) | exact (xup_ne (by assumption)).trans xup_self | exact (xup_ne (Ne.symm (by assumption))).trans xup_self) rfl ?_
      refine xr_get C K_KM 0 d_Ma_hasEntriesOf_45 48 rfl q_78 (Or.inl rfl) rfl (by first | assumption | exact xup_self | exact (xup_ne (by assumption)).trans (by assumption) | exact (xup_ne (Ne.symm (by assumption))).trans (by assumption) | exact (xup_ne (by assumption)).trans xup_self | exact (xup_ne (Ne.symm (by assumption))).trans xup_self) rfl ?_
      refine xr_iload_n C d_Ma_hasEntriesOf_48 49 rfl rfl ?_
      refine xr_callV C (l_get hK i1) k_AL_get d_Ma_hasEntriesOf_49 52 rfl (by first | assumption | exact xup_self | exact (xup_ne (by assumption)).trans (by assumption) | exact (xup_ne (Ne.symm (by assumption))).trans (by assumption) | exact (xup_ne (by assumption)).trans xup_self | exact (xup_ne (Ne.symm (by assumption))).trans xup_self) rfl (Or.inl q_278) v_AL_get e_AL_get h_AL_get rfl ⟨Nat.le_of_ble_eq_true rfl, Nat.le_of_ble_eq_true rfl, Nat.le_of_ble_eq_true rfl⟩ (by omega) (by omega) (fun v9 X hP => ?_) (fun _ _ h => absurd h.1 (by simp))
      obtain ⟨h1, rfl⟩ := hP
      cases h1
      refine xr_cast C d_Ma_hasEntriesOf_52 55 rfl k1 rfl q_830 ?_
      refine xr_aload_n C d_Ma_hasEntriesOf_55 56 rfl rfl ?_
      refine xr_get C K_Ma 1 d_Ma_hasEntriesOf_56 59 rfl q_90 (Or.inl rfl) rfl (by first | assumption | exact xup_self | exact (xup_ne (by assumption)).trans (by assumption) | exact (xup_ne (Ne.symm (by assumption))).trans (by assumption) | exact (xup_ne (by assumption)).trans xup_self | exact (xup_ne (Ne.symm (by assumption))).trans xup_self) rfl ?_
      refine xr_get C K_KM 0 d_Ma_hasEntriesOf_59 62 rfl q_78 (Or.inl rfl) rfl (by first | assumption | exact xup_self | exact (xup_ne (by assumption)).trans (by assumption) | exact (xup_ne (Ne.symm (by assumption))).trans (by assumption) | exact (xup_ne (by assumption)).trans xup_self | exact (xup_ne (Ne.symm (by assumption))).trans xup_self) rfl ?_
      refine xr_iload_n C d_Ma_hasEntriesOf_62 63 rfl rfl ?_
      refine xr_callV C (l_get hK' i2) k_AL_get d_Ma_hasEntriesOf_63 66 rfl (by first | assumption | exact xup_self | exact (xup_ne (by assumption)).trans (by assumption) | exact (xup_ne (Ne.symm (by assumption))).trans (by assumption) | exact (xup_ne (by assumption)).trans xup_self | exact (xup_ne (Ne.symm (by assumption))).trans xup_self) rfl (Or.inl q_278) v_AL_get e_AL_get h_AL_get rfl ⟨Nat.le_of_ble_eq_true rfl, Nat.le_of_ble_eq_true rfl, Nat.le_of_ble_eq_true rfl⟩ (by omega) (by omega) (fun v9 X hP => ?_) (fun _ _ h => absurd h.1 (by simp))
      obtain ⟨h1, rfl⟩ := hP
      cases h1
      refine xr_cast C d_Ma_hasEntriesOf_66 69 rfl k1' rfl q_830 ?_
      refine xr_callV C (c_En_isLike hI (hF.2 i i1) (hF'.2 i i2)) k_En_isLike d_Ma_hasEntriesOf_69 72 rfl k1 rfl (Or.inl q_861) v_En_isLike e_En_isLike h_En_isLike rfl ⟨Nat.le_of_ble_eq_true rfl, Nat.le_of_ble_eq_true rfl, Nat.le_of_ble_eq_true rfl⟩ (by omega) (by omega) (fun v9 X hP => ?_) (fun _ _ h => absurd h.1 (by simp))
      obtain ⟨h1, rfl⟩ := hP
      cases h1
      by_cases hc : eD es i = eD es' i
      · refine xr_toi (if_pos hc) ?_
        refine xr_if_ne C d_Ma_hasEntriesOf_72 75 77 rfl (by decide) (fun _ => ?_) (fun h => absurd h (by decide))
        refine xr_iinc (v := 1) C d_Ma_hasEntriesOf_77 80 rfl rfl rfl rfl (by decide) ?_
        refine xr_goto C d_Ma_hasEntriesOf_80 27 (by decide) ?_
        refine xG.eqL (show _ = [some (Value.ref a), some (Value.ref a'), some (Value.int (nI (i + 1)))] by rw [← nI_one]; rfl) ?_
        refine ih (i + 1) (by omega) (fun j hj => ?_)
        by_cases e : j = i
        · rw [e]
          exact hc
        · exact h1 j (by omega)
      · refine xr_toi (if_neg hc) ?_
        refine xr_if_ne C d_Ma_hasEntriesOf_72 75 77 rfl (by decide) (fun h => absurd rfl h) (fun _ => no 75 (Or.inr rfl) (fun e => hc (by rw [e])) _)
  refine xr_iconst (v := 0) C d_Ma_hasEntriesOf_25 26 rfl (by decide) ?_
  refine xr_istore_n C d_Ma_hasEntriesOf_26 27 rfl rfl rfl ?_
  exact loop es.length 0 (by omega) (fun j hj => absurd hj (Nat.not_lt_zero _))
set_option maxRecDepth 100000 in
set_option maxHeartbeats 4000000 in
theorem c_Ma_hasRowOf {l : Launch} {D : va_G} {H0 : Heap} {X : xH} {a ls bs cs mp la be ce : Nat} {as1 as2 : List Nat} {ss : List Ss} {es : List Es} {g : Int32} {a' ls' bs' cs' mp' la' be' ce' : Nat} {as1' as2' : List Nat} {ss' : List Ss} {es' : List Es} {g' : Int32} {I : Nat → Option Imm} (hI : xIm D X I) (hA : xMac D X I a ls bs cs mp la be ce as1 as2 ss es g) (hB : xMac D X I a' ls' bs' cs' mp' la' be' ce' as1' as2' ss' es' g') : xMet l D H0 y_Ma_hasRowOf b_Ma_hasRowOf 2 (some .boolean) [] 4 0 0 [.ref a, .ref a'] X (fun o X' => o = .inl (some ((.int (if ss = ss' ∧ es = es' then 1 else 0)))) ∧ X' = X) := by
  have ha := hA.1
  have ha' := hB.1
  refine ⟨[some (.ref a), some (.ref a')], rfl, Nat.le_of_ble_eq_true rfl, fun E hD hH hl _ C => ?_⟩
  subst hD
  subst hH
  subst hl
  have no : ¬ (ss = ss' ∧ es = es') → xG E X 0 0 20 [some (.ref a), some (.ref a')] [] := by
    intro h
    refine xr_iconst (v := 0) C d_Ma_hasRowOf_20 21 rfl (by decide) ?_
    exact xr_zret C d_Ma_hasRowOf_21 rfl (by omega) (by omega) ⟨by rw [if_neg h], rfl⟩
  refine xr_aload_n C d_Ma_hasRowOf_0 1 rfl rfl ?_
  refine xr_aload_n C d_Ma_hasRowOf_1 2 rfl rfl ?_
  refine xr_callV C (c_Ma_hasSessionsOf hI hA hB) k_Ma_hasSessionsOf d_Ma_hasRowOf_2 5 rfl (by first | assumption | exact xup_self | exact (xup_ne (by assumption)).trans (by assumption) | exact (xup_ne (Ne.symm (by assumption))).trans (by assumption) | exact (xup_ne (by assumption)).trans xup_self | exact (xup_ne (Ne.symm (by assumption))).trans xup_self) rfl (Or.inl q_848) v_Ma_hasSessionsOf e_Ma_hasSessionsOf h_Ma_hasSessionsOf rfl ⟨Nat.le_of_ble_eq_true rfl, Nat.le_of_ble_eq_true rfl, Nat.le_of_ble_eq_true rfl⟩ (by omega) (by omega) (fun v9 X hP => ?_) (fun _ _ h => absurd h.1 (by simp))
  obtain ⟨h1, rfl⟩ := hP
  cases h1
  by_cases h1 : ss = ss'
  · refine xr_toi (if_pos h1) ?_
    refine xr_if_eq C d_Ma_hasRowOf_5 8 20 rfl (by decide) (fun h => absurd h (by decide)) (fun _ => ?_)
    refine xr_aload_n C d_Ma_hasRowOf_8 9 rfl rfl ?_
    refine xr_aload_n C d_Ma_hasRowOf_9 10 rfl rfl ?_
    refine xr_callV C (c_Ma_hasEntriesOf hI hA hB) k_Ma_hasEntriesOf d_Ma_hasRowOf_10 13 rfl (by first | assumption | exact xup_self | exact (xup_ne (by assumption)).trans (by assumption) | exact (xup_ne (Ne.symm (by assumption))).trans (by assumption) | exact (xup_ne (by assumption)).trans xup_self | exact (xup_ne (Ne.symm (by assumption))).trans xup_self) rfl (Or.inl q_857) v_Ma_hasEntriesOf e_Ma_hasEntriesOf h_Ma_hasEntriesOf rfl ⟨Nat.le_of_ble_eq_true rfl, Nat.le_of_ble_eq_true rfl, Nat.le_of_ble_eq_true rfl⟩ (by omega) (by omega) (fun v9 X hP => ?_) (fun _ _ h => absurd h.1 (by simp))
    obtain ⟨h1, rfl⟩ := hP
    cases h1
    by_cases h2 : es = es'
    · refine xr_toi (if_pos h2) ?_
      refine xr_if_eq C d_Ma_hasRowOf_13 16 20 rfl (by decide) (fun h => absurd h (by decide)) (fun _ => ?_)
      refine xr_iconst (v := 1) C d_Ma_hasRowOf_16 17 rfl (by decide) ?_
      refine xr_goto C d_Ma_hasRowOf_17 21 (by decide) ?_
      exact xr_zret C d_Ma_hasRowOf_21 rfl (by omega) (by omega) ⟨by rw [if_pos ⟨h1, h2⟩], rfl⟩
    · refine xr_toi (if_neg h2) ?_
      refine xr_if_eq C d_Ma_hasRowOf_13 16 20 rfl (by decide) (fun _ => no (fun q => h2 q.2)) (fun h => absurd rfl h)
  · refine xr_toi (if_neg h1) ?_
    refine xr_if_eq C d_Ma_hasRowOf_5 8 20 rfl (by decide) (fun _ => no (fun q => h1 q.1)) (fun h => absurd rfl h)
set_option maxRecDepth 100000 in
set_option maxHeartbeats 4000000 in
theorem c_Ma_rowBytes {l : Launch} {D : va_G} {H0 : Heap} {X : xH} {a ls bs cs mp la be ce : Nat} {as1 as2 : List Nat} {ss : List Ss} {es : List Es} {g : Int32} {I : Nat → Option Imm} (hI : xIm D X I) (hA : xMac D X I a ls bs cs mp la be ce as1 as2 ss es g) : xMet l D H0 y_Ma_rowBytes b_Ma_rowBytes 3 (some .int) [] 3 0 0 [.ref a] X (fun o X' => o = .inl (some (.int (nI (8 + rbS ss + rbE es)))) ∧ X' = X) := by
  obtain ⟨ha, hL, hE, hok, hM, hll, hbb⟩ := id hA
  obtain ⟨vl, hl⟩ := hL.ob
  have hlen := hE.1
  have hle := hL.len
  have hok1 := hok.1
  obtain ⟨hmp, hK, hF, hokm⟩ := id hM
  obtain ⟨vk, hk⟩ := hK.ob
  have hkl := hK.len
  have hkn := hF.1
  refine ⟨[some (.ref a), none, none], rfl, Nat.le_of_ble_eq_true rfl, fun E hD hH hl _ C => ?_⟩
  subst hD
  subst hH
  subst hl
  have loop2 : ∀ (k i : Nat), i + k = es.length → xG E X 0 0 41 [some (.ref a), some (.int (nI (8 + rbS ss + rbE (es.take i)))), some (.int (nI i))] [] := by
    intro k
    induction k with
    | zero =>
      intro i hi
      refine xr_iload_n C d_Ma_rowBytes_41 42 rfl rfl ?_
      refine xr_aload_n C d_Ma_rowBytes_42 43 rfl rfl ?_
      refine xr_get C K_Ma 1 d_Ma_rowBytes_43 46 rfl q_90 (Or.inl rfl) rfl (by first | assumption | exact xup_self | exact (xup_ne (by assumption)).trans (by assumption) | exact (xup_ne (Ne.symm (by assumption))).trans (by assumption) | exact (xup_ne (by assumption)).trans xup_self | exact (xup_ne (Ne.symm (by assumption))).trans xup_self) rfl ?_
      refine xr_get C K_KM 0 d_Ma_rowBytes_46 49 rfl q_78 (Or.inl rfl) rfl (by first | assumption | exact xup_self | exact (xup_ne (by assumption)).trans (by assumption) | exact (xup_ne (Ne.symm (by assumption))).trans (by assumption) | exact (xup_ne (by assumption)).trans xup_self | exact (xup_ne (Ne.symm (by assumption))).trans xup_self) rfl ?_
      refine xr_callV C (l_size hK) k_AL_size d_Ma_rowBytes_49 52 rfl (by first | assumption | exact xup_self | exact (xup_ne (by assumption)).trans (by assumption) | exact (xup_ne (Ne.symm (by assumption))).trans (by assumption) | exact (xup_ne (by assumption)).trans xup_self | exact (xup_ne (Ne.symm (by assumption))).trans xup_self) rfl (Or.inl q_270) v_AL_size e_AL_size h_AL_size rfl ⟨Nat.le_of_ble_eq_true rfl, Nat.le_of_ble_eq_true rfl, Nat.le_of_ble_eq_true rfl⟩ (by omega) (by omega) (fun v9 X hP => ?_) (fun _ _ h => absurd h.1 (by simp))
      obtain ⟨h1, rfl⟩ := hP
      cases h1
      refine xr_icmp_ge C d_Ma_rowBytes_52 55 81 rfl (by decide) (fun _ => ?_) (fun h => absurd (nI_le (show as2.length ≤ i by omega) (by omega)) h)
      refine xr_iload_n C d_Ma_rowBytes_81 82 rfl rfl ?_
      exact xr_iret C d_Ma_rowBytes_82 (by omega) (by omega) ⟨by rw [List.take_of_length_le (show es.length ≤ i by omega)], rfl⟩
    | succ k ih =>
      intro i hi
      have i1 : i < as2.length := by omega
      obtain ⟨p, q, k1, k2, k3, -⟩ := (hF.2 i i1).use hI
      refine xr_iload_n C d_Ma_rowBytes_41 42 rfl rfl ?_
      refine xr_aload_n C d_Ma_rowBytes_42 43 rfl rfl ?_
      refine xr_get C K_Ma 1 d_Ma_rowBytes_43 46 rfl q_90 (Or.inl rfl) rfl (by first | assumption | exact xup_self | exact (xup_ne (by assumption)).trans (by assumption) | exact (xup_ne (Ne.symm (by assumption))).trans (by assumption) | exact (xup_ne (by assumption)).trans xup_self | exact (xup_ne (Ne.symm (by assumption))).trans xup_self) rfl ?_
      refine xr_get C K_KM 0 d_Ma_rowBytes_46 49 rfl q_78 (Or.inl rfl) rfl (by first | assumption | exact xup_self | exact (xup_ne (by assumption)).trans (by assumption) | exact (xup_ne (Ne.symm (by assumption))).trans (by assumption) | exact (xup_ne (by assumption)).trans xup_self | exact (xup_ne (Ne.symm (by assumption))).trans xup_self) rfl ?_
      refine xr_callV C (l_size hK) k_AL_size d_Ma_rowBytes_49 52 rfl (by first | assumption | exact xup_self | exact (xup_ne (by assumption)).trans (by assumption) | exact (xup_ne (Ne.symm (by assumption))).trans (by assumption) | exact (xup_ne (by assumption)).trans xup_self | exact (xup_ne (Ne.symm (by assumption))).trans xup_self) rfl (Or.inl q_270) v_AL_size e_AL_size h_AL_size rfl ⟨Nat.le_of_ble_eq_true rfl, Nat.le_of_ble_eq_true rfl, Nat.le_of_ble_eq_true rfl⟩ (by omega) (by omega) (fun v9 X hP => ?_) (fun _ _ h => absurd h.1 (by simp))
      obtain ⟨h1, rfl⟩ := hP
      cases h1
      refine xr_icmp_ge C d_Ma_rowBytes_52 55 81 rfl (by decide) (fun h => absurd h (nI_ge i1 (by omega))) (fun _ => ?_)
      refine xr_iload_n C d_Ma_rowBytes_55 56 rfl rfl ?_
      refine xr_aload_n C d_Ma_rowBytes_56 57 rfl rfl ?_
      refine xr_get C K_Ma 1 d_Ma_rowBytes_57 60 rfl q_90 (Or.inl rfl) rfl (by first | assumption | exact xup_self | exact (xup_ne (by assumption)).trans (by assumption) | exact (xup_ne (Ne.symm (by assumption))).trans (by assumption) | exact (xup_ne (by assumption)).trans xup_self | exact (xup_ne (Ne.symm (by assumption))).trans xup_self) rfl ?_
      refine xr_get C K_KM 0 d_Ma_rowBytes_60 63 rfl q_78 (Or.inl rfl) rfl (by first | assumption | exact xup_self | exact (xup_ne (by assumption)).trans (by assumption) | exact (xup_ne (Ne.symm (by assumption))).trans (by assumption) | exact (xup_ne (by assumption)).trans xup_self | exact (xup_ne (Ne.symm (by assumption))).trans xup_self) rfl ?_
      refine xr_iload_n C d_Ma_rowBytes_63 64 rfl rfl ?_
      refine xr_callV C (l_get hK i1) k_AL_get d_Ma_rowBytes_64 67 rfl (by first | assumption | exact xup_self | exact (xup_ne (by assumption)).trans (by assumption) | exact (xup_ne (Ne.symm (by assumption))).trans (by assumption) | exact (xup_ne (by assumption)).trans xup_self | exact (xup_ne (Ne.symm (by assumption))).trans xup_self) rfl (Or.inl q_278) v_AL_get e_AL_get h_AL_get rfl ⟨Nat.le_of_ble_eq_true rfl, Nat.le_of_ble_eq_true rfl, Nat.le_of_ble_eq_true rfl⟩ (by omega) (by omega) (fun v9 X hP => ?_) (fun _ _ h => absurd h.1 (by simp))
      obtain ⟨h1, rfl⟩ := hP
      cases h1
      refine xr_cast C d_Ma_rowBytes_67 70 rfl k1 rfl q_830 ?_
      refine xr_callV C (c_En_rowBytes hI (hF.2 i i1)) k_En_rowBytes d_Ma_rowBytes_70 73 rfl k1 rfl (Or.inl q_921) v_En_rowBytes e_En_rowBytes h_En_rowBytes rfl ⟨Nat.le_of_ble_eq_true rfl, Nat.le_of_ble_eq_true rfl, Nat.le_of_ble_eq_true rfl⟩ (by omega) (by omega) (fun v9 X hP => ?_) (fun _ _ h => absurd h.1 (by simp))
      obtain ⟨h1, rfl⟩ := hP
      cases h1
      refine xr_iadd C d_Ma_rowBytes_73 74 rfl ?_
      refine xr_toi (show _ = nI (8 + rbS ss + rbE (es.take (i + 1))) from (nI_add _ _).trans (by rw [rbE_take (by omega)]; congr 1; omega)) ?_
      refine xr_istore_n C d_Ma_rowBytes_74 75 rfl rfl rfl ?_
      refine xr_iinc (v := 1) C d_Ma_rowBytes_75 78 rfl rfl rfl rfl (by decide) ?_
      refine xr_goto C d_Ma_rowBytes_78 41 (by decide) ?_
      refine xG.eqL (show _ = [some (Value.ref a), some (Value.int (nI (8 + rbS ss + rbE (es.take (i + 1))))), some (Value.int (nI (i + 1)))] by rw [← nI_one i]; rfl) ?_
      exact ih (i + 1) (by omega)
  have loop1 : ∀ (k i : Nat), i + k = ss.length → xG E X 0 0 5 [some (.ref a), some (.int (nI (8 + rbS (ss.take i)))), some (.int (nI i))] [] := by
    intro k
    induction k with
    | zero =>
      intro i hi
      refine xr_iload_n C d_Ma_rowBytes_5 6 rfl rfl ?_
      refine xr_aload_n C d_Ma_rowBytes_6 7 rfl rfl ?_
      refine xr_get C K_Ma 0 d_Ma_rowBytes_7 10 rfl q_88 (Or.inl rfl) rfl (by first | assumption | exact xup_self | exact (xup_ne (by assumption)).trans (by assumption) | exact (xup_ne (Ne.symm (by assumption))).trans (by assumption) | exact (xup_ne (by assumption)).trans xup_self | exact (xup_ne (Ne.symm (by assumption))).trans xup_self) rfl ?_
      refine xr_callV C (l_size hL) k_AL_size d_Ma_rowBytes_10 13 rfl (by first | assumption | exact xup_self | exact (xup_ne (by assumption)).trans (by assumption) | exact (xup_ne (Ne.symm (by assumption))).trans (by assumption) | exact (xup_ne (by assumption)).trans xup_self | exact (xup_ne (Ne.symm (by assumption))).trans xup_self) rfl (Or.inl q_270) v_AL_size e_AL_size h_AL_size rfl ⟨Nat.le_of_ble_eq_true rfl, Nat.le_of_ble_eq_true rfl, Nat.le_of_ble_eq_true rfl⟩ (by omega) (by omega) (fun v9 X hP => ?_) (fun _ _ h => absurd h.1 (by simp))
      obtain ⟨h1, rfl⟩ := hP
      cases h1
      refine xr_icmp_ge C d_Ma_rowBytes_13 16 39 rfl (by decide) (fun _ => ?_) (fun h => absurd (nI_le (show as1.length ≤ i by omega) (by omega)) h)
      refine xr_iconst (v := 0) C d_Ma_rowBytes_39 40 rfl (by decide) ?_
      refine xr_istore_n C d_Ma_rowBytes_40 41 rfl rfl rfl ?_
      refine xG.eqL (show _ = [some (Value.ref a), some (Value.int (nI (8 + rbS ss + rbE (es.take 0)))), some (Value.int (nI 0))] by rw [List.take_of_length_le (show ss.length ≤ i by omega)]; rfl) ?_
      exact loop2 es.length 0 (by omega)
    | succ k ih =>
      intro i hi
      have i1 : i < as1.length := by omega
      obtain ⟨q, k1, k2, k3⟩ := (hE.2 i i1).use hI
      refine xr_iload_n C d_Ma_rowBytes_5 6 rfl rfl ?_
      refine xr_aload_n C d_Ma_rowBytes_6 7 rfl rfl ?_
      refine xr_get C K_Ma 0 d_Ma_rowBytes_7 10 rfl q_88 (Or.inl rfl) rfl (by first | assumption | exact xup_self | exact (xup_ne (by assumption)).trans (by assumption) | exact (xup_ne (Ne.symm (by assumption))).trans (by assumption) | exact (xup_ne (by assumption)).trans xup_self | exact (xup_ne (Ne.symm (by assumption))).trans xup_self) rfl ?_
      refine xr_callV C (l_size hL) k_AL_size d_Ma_rowBytes_10 13 rfl (by first | assumption | exact xup_self | exact (xup_ne (by assumption)).trans (by assumption) | exact (xup_ne (Ne.symm (by assumption))).trans (by assumption) | exact (xup_ne (by assumption)).trans xup_self | exact (xup_ne (Ne.symm (by assumption))).trans xup_self) rfl (Or.inl q_270) v_AL_size e_AL_size h_AL_size rfl ⟨Nat.le_of_ble_eq_true rfl, Nat.le_of_ble_eq_true rfl, Nat.le_of_ble_eq_true rfl⟩ (by omega) (by omega) (fun v9 X hP => ?_) (fun _ _ h => absurd h.1 (by simp))
      obtain ⟨h1, rfl⟩ := hP
      cases h1
      refine xr_icmp_ge C d_Ma_rowBytes_13 16 39 rfl (by decide) (fun h => absurd h (nI_ge i1 (by omega))) (fun _ => ?_)
      refine xr_iload_n C d_Ma_rowBytes_16 17 rfl rfl ?_
      refine xr_aload_n C d_Ma_rowBytes_17 18 rfl rfl ?_
      refine xr_get C K_Ma 0 d_Ma_rowBytes_18 21 rfl q_88 (Or.inl rfl) rfl (by first | assumption | exact xup_self | exact (xup_ne (by assumption)).trans (by assumption) | exact (xup_ne (Ne.symm (by assumption))).trans (by assumption) | exact (xup_ne (by assumption)).trans xup_self | exact (xup_ne (Ne.symm (by assumption))).trans xup_self) rfl ?_
      refine xr_iload_n C d_Ma_rowBytes_21 22 rfl rfl ?_
      refine xr_callV C (l_get hL i1) k_AL_get d_Ma_rowBytes_22 25 rfl (by first | assumption | exact xup_self | exact (xup_ne (by assumption)).trans (by assumption) | exact (xup_ne (Ne.symm (by assumption))).trans (by assumption) | exact (xup_ne (by assumption)).trans xup_self | exact (xup_ne (Ne.symm (by assumption))).trans xup_self) rfl (Or.inl q_278) v_AL_get e_AL_get h_AL_get rfl ⟨Nat.le_of_ble_eq_true rfl, Nat.le_of_ble_eq_true rfl, Nat.le_of_ble_eq_true rfl⟩ (by omega) (by omega) (fun v9 X hP => ?_) (fun _ _ h => absurd h.1 (by simp))
      obtain ⟨h1, rfl⟩ := hP
      cases h1
      refine xr_cast C d_Ma_rowBytes_25 28 rfl k1 rfl q_292 ?_
      refine xr_callV C (c_Se_rowBytes hI (hE.2 i i1)) k_Se_rowBytes d_Ma_rowBytes_28 31 rfl k1 rfl (Or.inl q_917) v_Se_rowBytes e_Se_rowBytes h_Se_rowBytes rfl ⟨Nat.le_of_ble_eq_true rfl, Nat.le_of_ble_eq_true rfl, Nat.le_of_ble_eq_true rfl⟩ (by omega) (by omega) (fun v9 X hP => ?_) (fun _ _ h => absurd h.1 (by simp))
      obtain ⟨h1, rfl⟩ := hP
      cases h1
      refine xr_iadd C d_Ma_rowBytes_31 32 rfl ?_
      refine xr_toi (show _ = nI (8 + rbS (ss.take (i + 1))) from (nI_add _ _).trans (by rw [rbS_take (by omega)]; congr 1; omega)) ?_
      refine xr_istore_n C d_Ma_rowBytes_32 33 rfl rfl rfl ?_
      refine xr_iinc (v := 1) C d_Ma_rowBytes_33 36 rfl rfl rfl rfl (by decide) ?_
      refine xr_goto C d_Ma_rowBytes_36 5 (by decide) ?_
      refine xG.eqL (show _ = [some (Value.ref a), some (Value.int (nI (8 + rbS (ss.take (i + 1))))), some (Value.int (nI (i + 1)))] by rw [← nI_one i]; rfl) ?_
      exact ih (i + 1) (by omega)
  refine xr_bipush (v := 8) C d_Ma_rowBytes_0 2 rfl (by decide) ?_
  refine xr_istore_n C d_Ma_rowBytes_2 3 rfl rfl rfl ?_
  refine xr_iconst (v := 0) C d_Ma_rowBytes_3 4 rfl (by decide) ?_
  refine xr_istore_n C d_Ma_rowBytes_4 5 rfl rfl rfl ?_
  exact loop1 ss.length 0 (by omega)
def telM (ss : List Ss) (es : List Es) : List Int32 := num (nI ss.length) 4 ++ telS ss ++ num (nI es.length) 4 ++ telE es
theorem telM_len {ss : List Ss} {es : List Es} : (telM ss es).length = 8 + rbS ss + rbE es := by
  unfold telM
  simp only [List.length_append, num_len, telS_len, telE_len]
  omega
/-- a row's cells are none of a machine's -/
theorem xMac.keepR {D : va_G} {X X' : xH} {I : Nat → Option Imm} {r br rc : Nat} {zs : List Int32} {a ls bs cs mp la be ce : Nat} {as1 as2 : List Nat} {ss : List Ss} {es : List Es} {g : Int32} (h : xMac D X I a ls bs cs mp la be ce as1 as2 ss es g) (hR : xRow D X r br rc zs) (hf : xFr [r, br] X X') : xMac D X' I a ls bs cs mp la be ce as1 as2 ss es g := by
  obtain ⟨ha, hL, hE, hok, hM, hll, hbb⟩ := h
  obtain ⟨vs, hl⟩ := hL.ob
  obtain ⟨f, hb⟩ := hL.ar
  obtain ⟨gg, hr⟩ := hR.arr
  refine ⟨hf.use ha ?_, hL.keep hf ?_ ?_, hE, hok, hM.keepR hR hf, hll, hbb.keep hf⟩
  · simp only [List.mem_cons, List.not_mem_nil, or_false, not_or]
    exact ⟨xne ha hR.at (by intro h; cases h), xne ha hr (by intro h; cases h)⟩
  · simp only [List.mem_cons, List.not_mem_nil, or_false, not_or]
    exact ⟨xne hl hR.at (by intro h; cases h), xne hl hr (by intro h; cases h)⟩
  · simp only [List.mem_cons, List.not_mem_nil, or_false, not_or]
    exact ⟨xne hb hR.at (by intro h; cases h), xne hb hr xkd⟩
set_option maxRecDepth 100000 in
set_option maxHeartbeats 4000000 in
theorem c_Ma_tell {l : Launch} {D : va_G} {H0 : Heap} {X : xH} {a ls bs cs mp la be ce : Nat} {as1 as2 : List Nat} {ss : List Ss} {es : List Es} {g : Int32} {I : Nat → Option Imm} (hI : xIm D X I) (hA : xMac D X I a ls bs cs mp la be ce as1 as2 ss es g) {r b cap d : Nat} (hR : xRow D X r b cap []) (hb : I b = none) (hd : isR cap (8 + rbS ss + rbE es) d) (hd2 : d ≤ 100000) : xMet l D H0 y_Ma_tell b_Ma_tell 3 none [] 4 (d - cap) (2 * (d - cap)) [.ref a, .ref r] X (fun o X' => o = .inl none ∧ xAdd D X X' r b d (telM ss es)) := by
  obtain ⟨ha, hL, hE, hok, hM, hll, hbb⟩ := id hA
  obtain ⟨vl, hl⟩ := hL.ob
  have hlen := hE.1
  have hle := hL.len
  have hok1 := hok.1
  obtain ⟨hmp, hK, hF, hokm⟩ := id hM
  obtain ⟨vk, hk⟩ := hK.ob
  have hkl := hK.len
  have hkn := hF.1
  have hrn := hR.nob hI
  have htop := rb_top hok hokm
  have hcc := hR.cap
  refine ⟨[some (.ref a), some (.ref r), none], rfl, Nat.le_of_ble_eq_true rfl, fun E hD hH hl _ C => ?_⟩
  subst hD
  subst hH
  subst hl
  have loop2 : ∀ (k i di : Nat) (Y : xH), i + k = es.length → isR di (8 + rbS ss + rbE es) d → cap ≤ di → xAdd E.D X Y r b di (num (nI ss.length) 4 ++ telS ss ++ num (nI es.length) 4 ++ telE (es.take i)) → xG E Y (di - cap) (2 * (di - cap)) 63 [some (.ref a), some (.ref r), some (.int (nI i))] [] := by
    intro k
    induction k with
    | zero =>
      intro i di Y hi hT hcd hZ
      obtain ⟨b1, h4, h5, h6⟩ := hZ
      have hr1 := h4.at
      have hcp := h4.cap
      have hled := hT.le
      have hb1 : I b1 = none := h6.elim (fun e => by rw [e]; exact hb) (fun e => hI.non e)
      obtain ⟨hI1, -⟩ := xAdd.im ⟨b1, h4, h5, h6⟩ hI hrn hb
      have hA1 := hA.keepR hR h5
      obtain ⟨ha1, hL1, hE1, -, hM1, -, -⟩ := id hA1
      obtain ⟨vl1, hl1⟩ := hL1.ob
      obtain ⟨hmp1, hK1, hF1, -⟩ := id hM1
      obtain ⟨vk1, hk1⟩ := hK1.ob
      refine xr_iload_n C d_Ma_tell_63 64 rfl rfl ?_
      refine xr_aload_n C d_Ma_tell_64 65 rfl rfl ?_
      refine xr_get C K_Ma 1 d_Ma_tell_65 68 rfl q_90 (Or.inl rfl) rfl (by first | assumption | exact xup_self | exact (xup_ne (by assumption)).trans (by assumption) | exact (xup_ne (Ne.symm (by assumption))).trans (by assumption) | exact (xup_ne (by assumption)).trans xup_self | exact (xup_ne (Ne.symm (by assumption))).trans xup_self) rfl ?_
      refine xr_get C K_KM 0 d_Ma_tell_68 71 rfl q_78 (Or.inl rfl) rfl (by first | assumption | exact xup_self | exact (xup_ne (by assumption)).trans (by assumption) | exact (xup_ne (Ne.symm (by assumption))).trans (by assumption) | exact (xup_ne (by assumption)).trans xup_self | exact (xup_ne (Ne.symm (by assumption))).trans xup_self) rfl ?_
      refine xr_callV C (l_size hK1) k_AL_size d_Ma_tell_71 74 rfl (by first | assumption | exact xup_self | exact (xup_ne (by assumption)).trans (by assumption) | exact (xup_ne (Ne.symm (by assumption))).trans (by assumption) | exact (xup_ne (by assumption)).trans xup_self | exact (xup_ne (Ne.symm (by assumption))).trans xup_self) rfl (Or.inl q_270) v_AL_size e_AL_size h_AL_size rfl ⟨Nat.le_of_ble_eq_true rfl, Nat.le_of_ble_eq_true rfl, Nat.le_of_ble_eq_true rfl⟩ (by omega) (by omega) (fun v9 Y hP => ?_) (fun _ _ h => absurd h.1 (by simp))
      obtain ⟨h1, rfl⟩ := hP
      cases h1
      refine xr_icmp_ge C d_Ma_tell_74 77 101 rfl (by decide) (fun _ => ?_) (fun h => absurd (nI_le (show as2.length ≤ i by omega) (by omega)) h)
      rw [List.take_of_length_le (show es.length ≤ i by omega)] at h4 hcp
      simp only [List.length_append, num_len, telS_len, telE_len] at hcp
      have e9 : d = di := hT.fit (by omega)
      subst e9
      exact xr_vret C d_Ma_tell_101 (by omega) (by omega) ⟨rfl, b1, h4, h5, h6⟩
    | succ k ih =>
      intro i di Y hi hT hcd hZ
      obtain ⟨b1, h4, h5, h6⟩ := hZ
      have hr1 := h4.at
      have hcp := h4.cap
      have hled := hT.le
      have hb1 : I b1 = none := h6.elim (fun e => by rw [e]; exact hb) (fun e => hI.non e)
      obtain ⟨hI1, -⟩ := xAdd.im ⟨b1, h4, h5, h6⟩ hI hrn hb
      have hA1 := hA.keepR hR h5
      obtain ⟨ha1, hL1, hE1, -, hM1, -, -⟩ := id hA1
      obtain ⟨vl1, hl1⟩ := hL1.ob
      obtain ⟨hmp1, hK1, hF1, -⟩ := id hM1
      obtain ⟨vk1, hk1⟩ := hK1.ob
      have i1 : i < as2.length := by omega
      obtain ⟨p, q, k1, k2, k3, -⟩ := (hF1.2 i i1).use hI1
      have hmo := rbE_mono (ss := es) (i := i + 1)
      rw [rbE_take (by omega)] at hmo
      obtain ⟨d1, g1, g2, g3, g4⟩ := hT.step (n := (num (nI ss.length) 4 ++ telS ss ++ num (nI es.length) 4 ++ telE (es.take i)).length + (3 + (eD es i).1.length + (eD es i).2.length)) (by simp only [List.length_append, num_len, telS_len, telE_len]; omega) hcp.1
      refine xr_iload_n C d_Ma_tell_63 64 rfl rfl ?_
      refine xr_aload_n C d_Ma_tell_64 65 rfl rfl ?_
      refine xr_get C K_Ma 1 d_Ma_tell_65 68 rfl q_90 (Or.inl rfl) rfl (by first | assumption | exact xup_self | exact (xup_ne (by assumption)).trans (by assumption) | exact (xup_ne (Ne.symm (by assumption))).trans (by assumption) | exact (xup_ne (by assumption)).trans xup_self | exact (xup_ne (Ne.symm (by assumption))).trans xup_self) rfl ?_
      refine xr_get C K_KM 0 d_Ma_tell_68 71 rfl q_78 (Or.inl rfl) rfl (by first | assumption | exact xup_self | exact (xup_ne (by assumption)).trans (by assumption) | exact (xup_ne (Ne.symm (by assumption))).trans (by assumption) | exact (xup_ne (by assumption)).trans xup_self | exact (xup_ne (Ne.symm (by assumption))).trans xup_self) rfl ?_
      refine xr_callV C (l_size hK1) k_AL_size d_Ma_tell_71 74 rfl (by first | assumption | exact xup_self | exact (xup_ne (by assumption)).trans (by assumption) | exact (xup_ne (Ne.symm (by assumption))).trans (by assumption) | exact (xup_ne (by assumption)).trans xup_self | exact (xup_ne (Ne.symm (by assumption))).trans xup_self) rfl (Or.inl q_270) v_AL_size e_AL_size h_AL_size rfl ⟨Nat.le_of_ble_eq_true rfl, Nat.le_of_ble_eq_true rfl, Nat.le_of_ble_eq_true rfl⟩ (by omega) (by omega) (fun v9 Y hP => ?_) (fun _ _ h => absurd h.1 (by simp))
      obtain ⟨h1, rfl⟩ := hP
      cases h1
      refine xr_icmp_ge C d_Ma_tell_74 77 101 rfl (by decide) (fun h => absurd h (nI_ge i1 (by omega))) (fun _ => ?_)
      refine xr_aload_n C d_Ma_tell_77 78 rfl rfl ?_
      refine xr_get C K_Ma 1 d_Ma_tell_78 81 rfl q_90 (Or.inl rfl) rfl (by first | assumption | exact xup_self | exact (xup_ne (by assumption)).trans (by assumption) | exact (xup_ne (Ne.symm (by assumption))).trans (by assumption) | exact (xup_ne (by assumption)).trans xup_self | exact (xup_ne (Ne.symm (by assumption))).trans xup_self) rfl ?_
      refine xr_get C K_KM 0 d_Ma_tell_81 84 rfl q_78 (Or.inl rfl) rfl (by first | assumption | exact xup_self | exact (xup_ne (by assumption)).trans (by assumption) | exact (xup_ne (Ne.symm (by assumption))).trans (by assumption) | exact (xup_ne (by assumption)).trans xup_self | exact (xup_ne (Ne.symm (by assumption))).trans xup_self) rfl ?_
      refine xr_iload_n C d_Ma_tell_84 85 rfl rfl ?_
      refine xr_callV C (l_get hK1 i1) k_AL_get d_Ma_tell_85 88 rfl (by first | assumption | exact xup_self | exact (xup_ne (by assumption)).trans (by assumption) | exact (xup_ne (Ne.symm (by assumption))).trans (by assumption) | exact (xup_ne (by assumption)).trans xup_self | exact (xup_ne (Ne.symm (by assumption))).trans xup_self) rfl (Or.inl q_278) v_AL_get e_AL_get h_AL_get rfl ⟨Nat.le_of_ble_eq_true rfl, Nat.le_of_ble_eq_true rfl, Nat.le_of_ble_eq_true rfl⟩ (by omega) (by omega) (fun v9 Y hP => ?_) (fun _ _ h => absurd h.1 (by simp))
      obtain ⟨h1, rfl⟩ := hP
      cases h1
      refine xr_cast C d_Ma_tell_88 91 rfl k1 rfl q_830 ?_
      refine xr_aload_n C d_Ma_tell_91 92 rfl rfl ?_
      refine xr_callV C (c_En_tell hI1 (hF1.2 i i1) h4 hb1 g1 (by omega)) k_En_tell d_Ma_tell_92 95 rfl k1 rfl (Or.inl q_831) v_En_tell e_En_tell h_En_tell rfl ⟨Nat.le_of_ble_eq_true rfl, Nat.le_of_ble_eq_true rfl, Nat.le_of_ble_eq_true rfl⟩ (by omega) (by omega) (fun v9 Y' hP => ?_) (fun _ _ h => absurd h.1 (by simp))
      obtain ⟨e1, e2⟩ := hP
      cases e1
      refine xG.wide (c2 := d1 - cap) (s2 := 2 * (d1 - cap)) (by omega) (by omega) ?_
      refine xr_iinc (v := 1) C d_Ma_tell_95 98 rfl rfl rfl rfl (by decide) ?_
      refine xr_goto C d_Ma_tell_98 63 (by decide) ?_
      refine xG.eqL (show _ = [some (Value.ref a), some (Value.ref r), some (Value.int (nI (i + 1)))] by rw [← nI_one i]; rfl) ?_
      refine ih (i + 1) d1 Y' (by omega) g2 (by omega) ?_
      rw [telE_take (by omega), ← List.append_assoc]
      exact xAdd.then h5 h6 e2
  have loop1 : ∀ (k i di : Nat) (Y : xH), i + k = ss.length → isR di (8 + rbS ss + rbE es) d → cap ≤ di → xAdd E.D X Y r b di (num (nI ss.length) 4 ++ telS (ss.take i)) → xG E Y (di - cap) (2 * (di - cap)) 14 [some (.ref a), some (.ref r), some (.int (nI i))] [] := by
    intro k
    induction k with
    | zero =>
      intro i di Y hi hT hcd hZ
      obtain ⟨b1, h4, h5, h6⟩ := hZ
      have hr1 := h4.at
      have hcp := h4.cap
      have hled := hT.le
      have hb1 : I b1 = none := h6.elim (fun e => by rw [e]; exact hb) (fun e => hI.non e)
      obtain ⟨hI1, -⟩ := xAdd.im ⟨b1, h4, h5, h6⟩ hI hrn hb
      have hA1 := hA.keepR hR h5
      obtain ⟨ha1, hL1, hE1, -, hM1, -, -⟩ := id hA1
      obtain ⟨vl1, hl1⟩ := hL1.ob
      obtain ⟨hmp1, hK1, hF1, -⟩ := id hM1
      obtain ⟨vk1, hk1⟩ := hK1.ob
      refine xr_iload_n C d_Ma_tell_14 15 rfl rfl ?_
      refine xr_aload_n C d_Ma_tell_15 16 rfl rfl ?_
      refine xr_get C K_Ma 0 d_Ma_tell_16 19 rfl q_88 (Or.inl rfl) rfl (by first | assumption | exact xup_self | exact (xup_ne (by assumption)).trans (by assumption) | exact (xup_ne (Ne.symm (by assumption))).trans (by assumption) | exact (xup_ne (by assumption)).trans xup_self | exact (xup_ne (Ne.symm (by assumption))).trans xup_self) rfl ?_
      refine xr_callV C (l_size hL1) k_AL_size d_Ma_tell_19 22 rfl (by first | assumption | exact xup_self | exact (xup_ne (by assumption)).trans (by assumption) | exact (xup_ne (Ne.symm (by assumption))).trans (by assumption) | exact (xup_ne (by assumption)).trans xup_self | exact (xup_ne (Ne.symm (by assumption))).trans xup_self) rfl (Or.inl q_270) v_AL_size e_AL_size h_AL_size rfl ⟨Nat.le_of_ble_eq_true rfl, Nat.le_of_ble_eq_true rfl, Nat.le_of_ble_eq_true rfl⟩ (by omega) (by omega) (fun v9 Y hP => ?_) (fun _ _ h => absurd h.1 (by simp))
      obtain ⟨h1, rfl⟩ := hP
      cases h1
      refine xr_icmp_ge C d_Ma_tell_22 25 46 rfl (by decide) (fun _ => ?_) (fun h => absurd (nI_le (show as1.length ≤ i by omega) (by omega)) h)
      rw [List.take_of_length_le (show ss.length ≤ i by omega)] at h4
      obtain ⟨d1, g1, g2, g3, g4⟩ := hT.step (n := (num (nI ss.length) 4 ++ telS ss).length + 4) (by simp only [List.length_append, num_len, telS_len]; omega) hcp.1
      refine xr_aload_n C d_Ma_tell_46 47 rfl rfl ?_
      refine xr_aload_n C d_Ma_tell_47 48 rfl rfl ?_
      refine xr_get C K_Ma 1 d_Ma_tell_48 51 rfl q_90 (Or.inl rfl) rfl (by first | assumption | exact xup_self | exact (xup_ne (by assumption)).trans (by assumption) | exact (xup_ne (Ne.symm (by assumption))).trans (by assumption) | exact (xup_ne (by assumption)).trans xup_self | exact (xup_ne (Ne.symm (by assumption))).trans xup_self) rfl ?_
      refine xr_get C K_KM 0 d_Ma_tell_51 54 rfl q_78 (Or.inl rfl) rfl (by first | assumption | exact xup_self | exact (xup_ne (by assumption)).trans (by assumption) | exact (xup_ne (Ne.symm (by assumption))).trans (by assumption) | exact (xup_ne (by assumption)).trans xup_self | exact (xup_ne (Ne.symm (by assumption))).trans xup_self) rfl ?_
      refine xr_callV C (l_size hK1) k_AL_size d_Ma_tell_54 57 rfl (by first | assumption | exact xup_self | exact (xup_ne (by assumption)).trans (by assumption) | exact (xup_ne (Ne.symm (by assumption))).trans (by assumption) | exact (xup_ne (by assumption)).trans xup_self | exact (xup_ne (Ne.symm (by assumption))).trans xup_self) rfl (Or.inl q_270) v_AL_size e_AL_size h_AL_size rfl ⟨Nat.le_of_ble_eq_true rfl, Nat.le_of_ble_eq_true rfl, Nat.le_of_ble_eq_true rfl⟩ (by omega) (by omega) (fun v9 Y hP => ?_) (fun _ _ h => absurd h.1 (by simp))
      obtain ⟨h1, rfl⟩ := hP
      cases h1
      refine xr_iconst (v := 4) C d_Ma_tell_57 58 rfl (by decide) ?_
      refine xG.eqS (show _ = [Value.int (nI 4), Value.int (nI es.length), Value.ref r] by rw [hkn]; rfl) ?_
      refine xr_callV C (c_Ro_addNumber (n := 4) h4 (by omega) g1 (by omega)) k_Ro_addNumber d_Ma_tell_58 61 rfl (by first | assumption | exact xup_self | exact (xup_ne (by assumption)).trans (by assumption) | exact (xup_ne (Ne.symm (by assumption))).trans (by assumption) | exact (xup_ne (by assumption)).trans xup_self | exact (xup_ne (Ne.symm (by assumption))).trans xup_self) rfl (Or.inl q_823) v_Ro_addNumber e_Ro_addNumber h_Ro_addNumber rfl ⟨Nat.le_of_ble_eq_true rfl, Nat.le_of_ble_eq_true rfl, Nat.le_of_ble_eq_true rfl⟩ (by omega) (by omega) (fun v9 Y' hP => ?_) (fun _ _ h => absurd h.1 (by simp))
      obtain ⟨e1, e2⟩ := hP
      cases e1
      refine xG.wide (c2 := d1 - cap) (s2 := 2 * (d1 - cap)) (by omega) (by omega) ?_
      refine xr_iconst (v := 0) C d_Ma_tell_61 62 rfl (by decide) ?_
      refine xr_istore_n C d_Ma_tell_62 63 rfl rfl rfl ?_
      refine loop2 es.length 0 d1 Y' (by omega) g2 (by omega) ?_
      rw [List.take_zero, show telE [] = [] from rfl, List.append_nil]
      exact xAdd.then h5 h6 e2
    | succ k ih =>
      intro i di Y hi hT hcd hZ
      obtain ⟨b1, h4, h5, h6⟩ := hZ
      have hr1 := h4.at
      have hcp := h4.cap
      have hled := hT.le
      have hb1 : I b1 = none := h6.elim (fun e => by rw [e]; exact hb) (fun e => hI.non e)
      obtain ⟨hI1, -⟩ := xAdd.im ⟨b1, h4, h5, h6⟩ hI hrn hb
      have hA1 := hA.keepR hR h5
      obtain ⟨ha1, hL1, hE1, -, hM1, -, -⟩ := id hA1
      obtain ⟨vl1, hl1⟩ := hL1.ob
      obtain ⟨hmp1, hK1, hF1, -⟩ := id hM1
      obtain ⟨vk1, hk1⟩ := hK1.ob
      have i1 : i < as1.length := by omega
      obtain ⟨q, k1, k2, k3⟩ := (hE1.2 i i1).use hI1
      have hmo := rbS_mono (ss := ss) (i := i + 1)
      rw [rbS_take (by omega)] at hmo
      obtain ⟨d1, g1, g2, g3, g4⟩ := hT.step (n := (num (nI ss.length) 4 ++ telS (ss.take i)).length + (18 + (sD ss i).2.2.2.2.length)) (by simp only [List.length_append, num_len, telS_len]; omega) hcp.1
      refine xr_iload_n C d_Ma_tell_14 15 rfl rfl ?_
      refine xr_aload_n C d_Ma_tell_15 16 rfl rfl ?_
      refine xr_get C K_Ma 0 d_Ma_tell_16 19 rfl q_88 (Or.inl rfl) rfl (by first | assumption | exact xup_self | exact (xup_ne (by assumption)).trans (by assumption) | exact (xup_ne (Ne.symm (by assumption))).trans (by assumption) | exact (xup_ne (by assumption)).trans xup_self | exact (xup_ne (Ne.symm (by assumption))).trans xup_self) rfl ?_
      refine xr_callV C (l_size hL1) k_AL_size d_Ma_tell_19 22 rfl (by first | assumption | exact xup_self | exact (xup_ne (by assumption)).trans (by assumption) | exact (xup_ne (Ne.symm (by assumption))).trans (by assumption) | exact (xup_ne (by assumption)).trans xup_self | exact (xup_ne (Ne.symm (by assumption))).trans xup_self) rfl (Or.inl q_270) v_AL_size e_AL_size h_AL_size rfl ⟨Nat.le_of_ble_eq_true rfl, Nat.le_of_ble_eq_true rfl, Nat.le_of_ble_eq_true rfl⟩ (by omega) (by omega) (fun v9 Y hP => ?_) (fun _ _ h => absurd h.1 (by simp))
      obtain ⟨h1, rfl⟩ := hP
      cases h1
      refine xr_icmp_ge C d_Ma_tell_22 25 46 rfl (by decide) (fun h => absurd h (nI_ge i1 (by omega))) (fun _ => ?_)
      refine xr_aload_n C d_Ma_tell_25 26 rfl rfl ?_
      refine xr_get C K_Ma 0 d_Ma_tell_26 29 rfl q_88 (Or.inl rfl) rfl (by first | assumption | exact xup_self | exact (xup_ne (by assumption)).trans (by assumption) | exact (xup_ne (Ne.symm (by assumption))).trans (by assumption) | exact (xup_ne (by assumption)).trans xup_self | exact (xup_ne (Ne.symm (by assumption))).trans xup_self) rfl ?_
      refine xr_iload_n C d_Ma_tell_29 30 rfl rfl ?_
      refine xr_callV C (l_get hL1 i1) k_AL_get d_Ma_tell_30 33 rfl (by first | assumption | exact xup_self | exact (xup_ne (by assumption)).trans (by assumption) | exact (xup_ne (Ne.symm (by assumption))).trans (by assumption) | exact (xup_ne (by assumption)).trans xup_self | exact (xup_ne (Ne.symm (by assumption))).trans xup_self) rfl (Or.inl q_278) v_AL_get e_AL_get h_AL_get rfl ⟨Nat.le_of_ble_eq_true rfl, Nat.le_of_ble_eq_true rfl, Nat.le_of_ble_eq_true rfl⟩ (by omega) (by omega) (fun v9 Y hP => ?_) (fun _ _ h => absurd h.1 (by simp))
      obtain ⟨h1, rfl⟩ := hP
      cases h1
      refine xr_cast C d_Ma_tell_33 36 rfl k1 rfl q_292 ?_
      refine xr_aload_n C d_Ma_tell_36 37 rfl rfl ?_
      refine xr_callV C (c_Se_tell hI1 (hE1.2 i i1) h4 hb1 g1 (by omega)) k_Se_tell d_Ma_tell_37 40 rfl k1 rfl (Or.inl q_824) v_Se_tell e_Se_tell h_Se_tell rfl ⟨Nat.le_of_ble_eq_true rfl, Nat.le_of_ble_eq_true rfl, Nat.le_of_ble_eq_true rfl⟩ (by omega) (by omega) (fun v9 Y' hP => ?_) (fun _ _ h => absurd h.1 (by simp))
      obtain ⟨e1, e2⟩ := hP
      cases e1
      refine xG.wide (c2 := d1 - cap) (s2 := 2 * (d1 - cap)) (by omega) (by omega) ?_
      refine xr_iinc (v := 1) C d_Ma_tell_40 43 rfl rfl rfl rfl (by decide) ?_
      refine xr_goto C d_Ma_tell_43 14 (by decide) ?_
      refine xG.eqL (show _ = [some (Value.ref a), some (Value.ref r), some (Value.int (nI (i + 1)))] by rw [← nI_one i]; rfl) ?_
      refine ih (i + 1) d1 Y' (by omega) g2 (by omega) ?_
      rw [telS_take (by omega), ← List.append_assoc]
      exact xAdd.then h5 h6 e2
  have hr1 := hR.at
  obtain ⟨d1, g1, g2, g3, g4⟩ := hd.step (n := ([] : List Int32).length + 4) (by rw [List.length_nil]; omega) hcc.1
  refine xG.wide (c2 := cap - cap) (s2 := 2 * (cap - cap)) (by omega) (by omega) ?_
  refine xr_aload_n C d_Ma_tell_0 1 rfl rfl ?_
  refine xr_aload_n C d_Ma_tell_1 2 rfl rfl ?_
  refine xr_get C K_Ma 0 d_Ma_tell_2 5 rfl q_88 (Or.inl rfl) rfl (by first | assumption | exact xup_self | exact (xup_ne (by assumption)).trans (by assumption) | exact (xup_ne (Ne.symm (by assumption))).trans (by assumption) | exact (xup_ne (by assumption)).trans xup_self | exact (xup_ne (Ne.symm (by assumption))).trans xup_self) rfl ?_
  refine xr_callV C (l_size hL) k_AL_size d_Ma_tell_5 8 rfl (by first | assumption | exact xup_self | exact (xup_ne (by assumption)).trans (by assumption) | exact (xup_ne (Ne.symm (by assumption))).trans (by assumption) | exact (xup_ne (by assumption)).trans xup_self | exact (xup_ne (Ne.symm (by assumption))).trans xup_self) rfl (Or.inl q_270) v_AL_size e_AL_size h_AL_size rfl ⟨Nat.le_of_ble_eq_true rfl, Nat.le_of_ble_eq_true rfl, Nat.le_of_ble_eq_true rfl⟩ (by omega) (by omega) (fun v9 X hP => ?_) (fun _ _ h => absurd h.1 (by simp))
  obtain ⟨h1, rfl⟩ := hP
  cases h1
  refine xr_iconst (v := 4) C d_Ma_tell_8 9 rfl (by decide) ?_
  refine xG.eqS (show _ = [Value.int (nI 4), Value.int (nI ss.length), Value.ref r] by rw [hlen]; rfl) ?_
  refine xr_callV C (c_Ro_addNumber (n := 4) hR (by omega) g1 (by omega)) k_Ro_addNumber d_Ma_tell_9 12 rfl (by first | assumption | exact xup_self | exact (xup_ne (by assumption)).trans (by assumption) | exact (xup_ne (Ne.symm (by assumption))).trans (by assumption) | exact (xup_ne (by assumption)).trans xup_self | exact (xup_ne (Ne.symm (by assumption))).trans xup_self) rfl (Or.inl q_823) v_Ro_addNumber e_Ro_addNumber h_Ro_addNumber rfl ⟨Nat.le_of_ble_eq_true rfl, Nat.le_of_ble_eq_true rfl, Nat.le_of_ble_eq_true rfl⟩ (by omega) (by omega) (fun v9 Y' hP => ?_) (fun _ _ h => absurd h.1 (by simp))
  obtain ⟨e1, e2⟩ := hP
  cases e1
  refine xG.wide (c2 := d1 - cap) (s2 := 2 * (d1 - cap)) (by omega) (by omega) ?_
  refine xr_iconst (v := 0) C d_Ma_tell_12 13 rfl (by decide) ?_
  refine xr_istore_n C d_Ma_tell_13 14 rfl rfl rfl ?_
  refine loop1 ss.length 0 d1 Y' (by omega) g2 (by omega) ?_
  rw [List.take_zero, show telS [] = [] from rfl, List.append_nil]
  exact e2
end
section
/-! Machines: copied. -/
def nxs : Nat → Nat → Nat
  | 0, c => c
  | j + 1, c => nxs j (nx c)
/-- a list of room c that has grown for n is of room d -/
def isL (c n d : Nat) : Prop := ∃ j : Nat, d = nxs j c ∧ n ≤ d ∧ ∀ i, i < j → nxs i c < n
theorem nx_gt {c : Nat} : c < nx c := by
  unfold nx
  split
  · omega
  · split <;> omega
theorem nxs_ge : ∀ (j c : Nat), c + j ≤ nxs j c
  | 0, c => Nat.le_refl _
  | j + 1, c => by
    have h1 := nxs_ge j (nx c)
    have h2 := nx_gt (c := c)
    show c + (j + 1) ≤ nxs j (nx c)
    omega
theorem isL.le {c n d : Nat} (h : isL c n d) : c ≤ d := by
  obtain ⟨j, rfl, -⟩ := h
  have := nxs_ge j c
  omega
theorem isL.fit {c n d : Nat} (h : isL c n d) (hn : n ≤ c) : d = c := by
  obtain ⟨j, rfl, h1, h2⟩ := h
  match j with
  | 0 => rfl
  | j + 1 =>
    have h3 : c < n := h2 0 (by omega)
    omega
theorem isL.ex (c n : Nat) : ∃ d, isL c n d := by
  obtain ⟨k, h1, h2⟩ := pk_least (fun k => n ≤ nxs k c) ⟨n, by have := nxs_ge n c; omega⟩
  exact ⟨_, k, rfl, h1, fun i hi => Nat.not_le.mp (h2 i hi)⟩
theorem isL.step {c n d i : Nat} (h : isL c n d) (hi : i < n) (hc : i ≤ c) : isL (if i < c then c else nx c) n d := by
  by_cases h0 : i < c
  · rw [if_pos h0]
    exact h
  · rw [if_neg h0]
    obtain ⟨j, rfl, h1, h2⟩ := h
    match j with
    | 0 =>
      have h3 : n ≤ c := h1
      omega
    | j + 1 => exact ⟨j, rfl, h1, fun i hi => h2 (i + 1) (by omega)⟩
theorem nxs_top {n : Nat} (hn : n ≤ 128) : ∀ (j c : Nat), c ≤ 200 → (∀ i, i < j → nxs i c < n) → nxs j c ≤ 200
  | 0, c, hc, _ => hc
  | j + 1, c, hc, h => by
    have h0 : c < n := h 0 (by omega)
    refine nxs_top hn j (nx c) ?_ (fun i hi => h (i + 1) (by omega))
    unfold nx
    split
    · omega
    · split <;> omega
theorem isL.top {c n d : Nat} (h : isL c n d) (hc : c ≤ 200) (hn : n ≤ 128) : d ≤ 200 := by
  obtain ⟨j, rfl, h1, h2⟩ := h
  exact nxs_top hn j c hc h2
/-- two machines have nothing in common -/
def xSep (X : xH) (a ls bs mp la be a' ls' bs' mp' la' be' : Nat) : Prop := a ≠ a' ∧ mp ≠ mp' ∧ ls ≠ ls' ∧ ls ≠ la' ∧ la ≠ ls' ∧ la ≠ la' ∧ sepB X bs bs' ∧ sepB X bs be' ∧ sepB X be bs' ∧ sepB X be be'
theorem xSep.symm {X : xH} {a ls bs mp la be a' ls' bs' mp' la' be' : Nat} (h : xSep X a ls bs mp la be a' ls' bs' mp' la' be') : xSep X a' ls' bs' mp' la' be' a ls bs mp la be := by
  obtain ⟨h1, h2, h3, h4, h5, h6, h7, h8, h9, h10⟩ := h
  exact ⟨h1.symm, h2.symm, h3.symm, h5.symm, h4.symm, h6.symm, h7.symm, h9.symm, h8.symm, h10.symm⟩
theorem xMac.keepS {D : va_G} {X X' : xH} {S : List Nat} {I : Nat → Option Imm} {a ls bs cs mp la be ce : Nat} {as1 as2 : List Nat} {ss : List Ss} {es : List Es} {g : Int32} (h : xMac D X I a ls bs cs mp la be ce as1 as2 ss es g) (hf : xFr S X X') (h1 : a ∉ S) (h2 : ls ∉ S) (h3 : bs ∉ S ∨ xz0 X bs) (h4 : mp ∉ S) (h5 : la ∉ S) (h6 : be ∉ S ∨ xz0 X be) : xMac D X' I a ls bs cs mp la be ce as1 as2 ss es g := by
  obtain ⟨ha, hL, hE, hok, hM, hll, hbb⟩ := h
  exact ⟨hf.use ha h1, hL.keepz hf h2 h3, hE, hok, hM.keepz hf h4 h5 h6, hll, hbb.keep hf⟩
theorem xMac.keepO {D : va_G} {X X' : xH} {I : Nat → Option Imm} {a ls bs cs mp la be ce : Nat} {as1 as2 : List Nat} {ss : List Ss} {es : List Es} {g : Int32} {a' ls' bs' cs' mp' la' be' ce' : Nat} {as1' as2' : List Nat} {ss' : List Ss} {es' : List Es} {g' : Int32} (hA : xMac D X I a ls bs cs mp la be ce as1 as2 ss es g) (hB : xMac D X I a' ls' bs' cs' mp' la' be' ce' as1' as2' ss' es' g') (hs : xSep X a ls bs mp la be a' ls' bs' mp' la' be') (hf : xFr [a, ls, bs, mp, la, be] X X') : xMac D X' I a' ls' bs' cs' mp' la' be' ce' as1' as2' ss' es' g' := by
  obtain ⟨ha, hL, hE, hok, hM, hll, hbb⟩ := hA
  obtain ⟨vl, hl⟩ := hL.ob
  obtain ⟨fb, hb⟩ := hL.ar
  obtain ⟨vk, hk⟩ := hM.2.1.ob
  obtain ⟨fe, he⟩ := hM.2.1.ar
  have hm := hM.1
  obtain ⟨ha', hL', hE', hok', hM', hll', hbb'⟩ := id hB
  obtain ⟨vl', hl'⟩ := hL'.ob
  obtain ⟨fb', hb'⟩ := hL'.ar
  obtain ⟨vk', hk'⟩ := hM'.2.1.ob
  obtain ⟨fe', he'⟩ := hM'.2.1.ar
  have hm' := hM'.1
  obtain ⟨s1, s2, s3, s4, s5, s6, s7, s8, s9, s10⟩ := hs
  refine hB.keepS hf ?_ ?_ ?_ ?_ ?_ ?_
  · simp only [List.mem_cons, List.not_mem_nil, or_false, not_or]
    exact ⟨s1.symm, xne ha' hl (by intro h; cases h), xne ha' hb (by intro h; cases h), xne ha' hm (by intro h; cases h), xne ha' hk (by intro h; cases h), xne ha' he (by intro h; cases h)⟩
  · simp only [List.mem_cons, List.not_mem_nil, or_false, not_or]
    exact ⟨xne hl' ha (by intro h; cases h), s3.symm, xne hl' hb (by intro h; cases h), xne hl' hm (by intro h; cases h), s5.symm, xne hl' he (by intro h; cases h)⟩
  · rcases s7.symm with h1 | h1
    · rcases s9.symm with h2 | h2
      · left
        simp only [List.mem_cons, List.not_mem_nil, or_false, not_or]
        exact ⟨xne hb' ha (by intro h; cases h), xne hb' hl (by intro h; cases h), h1, xne hb' hm (by intro h; cases h), xne hb' hk (by intro h; cases h), h2⟩
      · exact Or.inr h2
    · exact Or.inr h1
  · simp only [List.mem_cons, List.not_mem_nil, or_false, not_or]
    exact ⟨xne hm' ha (by intro h; cases h), xne hm' hl (by intro h; cases h), xne hm' hb (by intro h; cases h), s2.symm, xne hm' hk (by intro h; cases h), xne hm' he (by intro h; cases h)⟩
  · simp only [List.mem_cons, List.not_mem_nil, or_false, not_or]
    exact ⟨xne hk' ha (by intro h; cases h), s4.symm, xne hk' hb (by intro h; cases h), xne hk' hm (by intro h; cases h), s6.symm, xne hk' he (by intro h; cases h)⟩
  · rcases s8.symm with h1 | h1
    · rcases s10.symm with h2 | h2
      · left
        simp only [List.mem_cons, List.not_mem_nil, or_false, not_or]
        exact ⟨xne he' ha (by intro h; cases h), xne he' hl (by intro h; cases h), h1, xne he' hm (by intro h; cases h), xne he' hk (by intro h; cases h), h2⟩
      · exact Or.inr h2
    · exact Or.inr h1
/-- a machine while it is filled -/
def xTwo (D : va_G) (X Y : xH) (I : Nat → Option Imm) (a ls bs mp la be b1 c1 b2 c2 : Nat) (l1 l2 : List Nat) (g : Int32) : Prop :=
  Y a = some (.inr (1, [.ref ls, .ref mp, .int g])) ∧ Y mp = some (.inr (2, [.ref la, .int 0])) ∧ xLi D Y ls b1 c1 l1 ∧ xLi D Y la b2 c2 l2 ∧ sepB Y b1 b2 ∧ xIm D Y I ∧ xFr [ls, bs, mp, la, be] X Y ∧ (b1 = bs ∨ X b1 = none) ∧ (b2 = be ∨ X b2 = none)
theorem xTwo.l {D : va_G} {X Y Y2 : xH} {I : Nat → Option Imm} {a ls bs mp la be b1 c1 b2 c2 b1' c1' : Nat} {l1 l2 l1' : List Nat} {g : Int32} (h : xTwo D X Y I a ls bs mp la be b1 c1 b2 c2 l1 l2 g) (hll : ls ≠ la) (hL : xLi D Y2 ls b1' c1' l1') (hf : xFr [ls, b1] Y Y2) (hn : b1' = b1 ∨ Y b1' = none) : xTwo D X Y2 I a ls bs mp la be b1' c1' b2 c2 l1' l2 g := by
  obtain ⟨h1, h2, h3, h4, h5, h6, h7, h8, h9⟩ := h
  obtain ⟨vl, k1⟩ := h3.ob
  obtain ⟨fl, k2⟩ := h3.ar
  obtain ⟨vk, k3⟩ := h4.ob
  obtain ⟨fk, k4⟩ := h4.ar
  refine ⟨hf.use h1 ?_, hf.use h2 ?_, hL, h4.keepz hf ?_ ?_, h5.new hf hn k4, h6.keepL h3 hf, h7.fr hf (fun q hq => ?_), ?_, h9⟩
  · simp only [List.mem_cons, List.not_mem_nil, or_false, not_or]
    exact ⟨xne h1 k1 (by intro h; cases h), xne h1 k2 (by intro h; cases h)⟩
  · simp only [List.mem_cons, List.not_mem_nil, or_false, not_or]
    exact ⟨xne h2 k1 (by intro h; cases h), xne h2 k2 (by intro h; cases h)⟩
  · simp only [List.mem_cons, List.not_mem_nil, or_false, not_or]
    exact ⟨hll.symm, xne k3 k2 (by intro h; cases h)⟩
  · rcases h5.symm with e | e
    · left
      simp only [List.mem_cons, List.not_mem_nil, or_false, not_or]
      exact ⟨xne k4 k1 (by intro h; cases h), e⟩
    · exact Or.inr e
  · rcases List.mem_cons.mp hq with e | e
    · exact Or.inl (by rw [e]; simp)
    · rw [show q = b1 by simpa using e]
      exact h8.imp (fun e => by rw [e]; simp) id
  · rcases hn with e | e
    · rw [e]
      exact h8
    · exact Or.inr (h7.2 _ e)
theorem xTwo.r {D : va_G} {X Y Y2 : xH} {I : Nat → Option Imm} {a ls bs mp la be b1 c1 b2 c2 b2' c2' : Nat} {l1 l2 l2' : List Nat} {g : Int32} (h : xTwo D X Y I a ls bs mp la be b1 c1 b2 c2 l1 l2 g) (hll : ls ≠ la) (hL : xLi D Y2 la b2' c2' l2') (hf : xFr [la, b2] Y Y2) (hn : b2' = b2 ∨ Y b2' = none) : xTwo D X Y2 I a ls bs mp la be b1 c1 b2' c2' l1 l2' g := by
  obtain ⟨h1, h2, h3, h4, h5, h6, h7, h8, h9⟩ := h
  obtain ⟨vl, k1⟩ := h3.ob
  obtain ⟨fl, k2⟩ := h3.ar
  obtain ⟨vk, k3⟩ := h4.ob
  obtain ⟨fk, k4⟩ := h4.ar
  refine ⟨hf.use h1 ?_, hf.use h2 ?_, h3.keepz hf ?_ ?_, hL, (h5.symm.new hf hn k2).symm, h6.keepL h4 hf, h7.fr hf (fun q hq => ?_), h8, ?_⟩
  · simp only [List.mem_cons, List.not_mem_nil, or_false, not_or]
    exact ⟨xne h1 k3 (by intro h; cases h), xne h1 k4 (by intro h; cases h)⟩
  · simp only [List.mem_cons, List.not_mem_nil, or_false, not_or]
    exact ⟨xne h2 k3 (by intro h; cases h), xne h2 k4 (by intro h; cases h)⟩
  · simp only [List.mem_cons, List.not_mem_nil, or_false, not_or]
    exact ⟨hll, xne k1 k4 (by intro h; cases h)⟩
  · rcases h5 with e | e
    · left
      simp only [List.mem_cons, List.not_mem_nil, or_false, not_or]
      exact ⟨xne k2 k3 (by intro h; cases h), e⟩
    · exact Or.inr e
  · rcases List.mem_cons.mp hq with e | e
    · exact Or.inl (by rw [e]; simp)
    · rw [show q = b2 by simpa using e]
      exact h9.imp (fun e => by rw [e]; simp) id
  · rcases hn with e | e
    · rw [e]
      exact h9
    · exact Or.inr (h7.2 _ e)
theorem take_len {α : Type} {l : List α} {i : Nat} (h : i ≤ l.length) : (l.take i).length = i := by rw [List.length_take]; omega
theorem mem_tk {α : Type} {l : List α} {i : Nat} {x : α} (h : x ∈ l.take i) : x ∈ l := List.mem_of_mem_take h
theorem xLi.lenc {D : va_G} {X : xH} {a b cap : Nat} {as : List Nat} (h : xLi D X a b cap as) : as.length ≤ cap := by
  obtain ⟨mo, f, -, -, h1, -⟩ := h
  exact h1
theorem xLi.capc {D : va_G} {X : xH} {a b cap : Nat} {as : List Nat} (h : xLi D X a b cap as) : cap ≤ 200 := by
  obtain ⟨mo, f, -, -, -, h1, -⟩ := h
  exact h1
set_option maxRecDepth 100000 in
set_option maxHeartbeats 4000000 in
theorem c_Ma_copyRowOf {l : Launch} {D : va_G} {H0 : Heap} {X : xH} {a ls bs cs mp la be ce : Nat} {as1 as2 : List Nat} {ss : List Ss} {es : List Es} {g : Int32} {a' ls' bs' cs' mp' la' be' ce' : Nat} {as1' as2' : List Nat} {ss' : List Ss} {es' : List Es} {g' : Int32} {I : Nat → Option Imm} (hI : xIm D X I) (hA : xMac D X I a ls bs cs mp la be ce as1 as2 ss es g) (hB : xMac D X I a' ls' bs' cs' mp' la' be' ce' as1' as2' ss' es' g') {d1 d2 : Nat} (hs : xSep X a ls bs mp la be a' ls' bs' mp' la' be') (hd1 : isL cs ss'.length d1) (hd2 : isL ce es'.length d2) : xMet l D H0 y_Ma_copyRowOf b_Ma_copyRowOf 3 none [] 6 ((d1 - cs) + (d2 - ce)) (200 * ((d1 - cs) + (d2 - ce))) [.ref a, .ref a'] X (fun o X' => o = .inl none ∧ xIm D X' I ∧ ∃ (b1 b2 : Nat), xMac D X' I a ls b1 d1 mp la b2 d2 as1' as2' ss' es' g ∧ xFr [ls, bs, mp, la, be] X X' ∧ (b1 = bs ∨ X b1 = none) ∧ (b2 = be ∨ X b2 = none)) := by
  obtain ⟨ha, hL, hE, hok, hM, hll, hbb⟩ := id hA
  obtain ⟨vl, hl⟩ := hL.ob
  have hlen := hE.1
  have hle := hL.len
  have hok1 := hok.1
  obtain ⟨ha', hL', hE', hok', hM', hll', hbb'⟩ := id hB
  obtain ⟨vl', hl'⟩ := hL'.ob
  have hlen' := hE'.1
  have hle' := hL'.len
  obtain ⟨hmp, hK, hF, hokm⟩ := id hM
  obtain ⟨vk, hk⟩ := hK.ob
  have hkl := hK.len
  have hkn := hF.1
  obtain ⟨hmp', hK', hF', hokm'⟩ := id hM'
  obtain ⟨vk', hk'⟩ := hK'.ob
  have hkl' := hK'.len
  have hkn' := hF'.1
  have hok1' := hok'.1
  have hokm1' := hokm'.1
  have hsub : ∀ q ∈ [ls, bs, mp, la, be], q ∈ [a, ls, bs, mp, la, be] := fun q hq => List.mem_cons_of_mem _ hq
  have hd1l := hd1.le
  have hd2l := hd2.le
  refine ⟨[some (.ref a), some (.ref a'), none], rfl, Nat.le_of_ble_eq_true rfl, fun E hD hH hl _ C => ?_⟩
  subst hD
  subst hH
  subst hl
  have loop2 : ∀ (k i c2 b1 b2 : Nat) (Y : xH), i + k = es'.length → isL c2 es'.length d2 → ce ≤ c2 → xTwo E.D X Y I a ls bs mp la be b1 d1 b2 c2 as1' (as2'.take i) g → xG E Y ((d1 - cs) + (c2 - ce)) (200 * ((d1 - cs) + (c2 - ce))) 44 [some (.ref a), some (.ref a'), some (.int (nI i))] [] := by
    intro k
    induction k with
    | zero =>
      intro i c2 b1 b2 Y hi hT hcc hZ
      have hTl := hT.le
      have hBY := hA.keepO hB hs (hZ.2.2.2.2.2.2.1.mono hsub)
      obtain ⟨haY, hmY, hlY, hkY, -, hIY, -⟩ := id hZ
      obtain ⟨vlY, hlY1⟩ := hlY.ob
      obtain ⟨vkY, hkY1⟩ := hkY.ob
      obtain ⟨haB, hLB, hEB, -, hMB, -, -⟩ := id hBY
      obtain ⟨hmB, hKB, hFB, -⟩ := id hMB
      obtain ⟨vlB, hlB1⟩ := hLB.ob
      obtain ⟨vkB, hkB1⟩ := hKB.ob
      refine xr_iload_n C d_Ma_copyRowOf_44 45 rfl rfl ?_
      refine xr_aload_n C d_Ma_copyRowOf_45 46 rfl rfl ?_
      refine xr_get C K_Ma 1 d_Ma_copyRowOf_46 49 rfl q_90 (Or.inl rfl) rfl (by first | assumption | exact xup_self | exact (xup_ne (by assumption)).trans (by assumption) | exact (xup_ne (Ne.symm (by assumption))).trans (by assumption) | exact (xup_ne (by assumption)).trans xup_self | exact (xup_ne (Ne.symm (by assumption))).trans xup_self) rfl ?_
      refine xr_get C K_KM 0 d_Ma_copyRowOf_49 52 rfl q_78 (Or.inl rfl) rfl (by first | assumption | exact xup_self | exact (xup_ne (by assumption)).trans (by assumption) | exact (xup_ne (Ne.symm (by assumption))).trans (by assumption) | exact (xup_ne (by assumption)).trans xup_self | exact (xup_ne (Ne.symm (by assumption))).trans xup_self) rfl ?_
      refine xr_callV C (l_size hKB) k_AL_size d_Ma_copyRowOf_52 55 rfl (by first | assumption | exact xup_self | exact (xup_ne (by assumption)).trans (by assumption) | exact (xup_ne (Ne.symm (by assumption))).trans (by assumption) | exact (xup_ne (by assumption)).trans xup_self | exact (xup_ne (Ne.symm (by assumption))).trans xup_self) rfl (Or.inl q_270) v_AL_size e_AL_size h_AL_size rfl ⟨Nat.le_of_ble_eq_true rfl, Nat.le_of_ble_eq_true rfl, Nat.le_of_ble_eq_true rfl⟩ (by omega) (by omega) (fun v9 Y hP => ?_) (fun _ _ h => absurd h.1 (by simp))
      obtain ⟨h1, rfl⟩ := hP
      cases h1
      refine xr_icmp_ge C d_Ma_copyRowOf_55 58 89 rfl (by decide) (fun _ => ?_) (fun h => absurd (nI_le (show as2'.length ≤ i by omega) (by omega)) h)
      have hcl := hkY.lenc
      rw [List.take_of_length_le (show as2'.length ≤ i by omega)] at hkY hcl
      have e9 : d2 = c2 := hT.fit (by omega)
      subst e9
      refine xr_aload_n C d_Ma_copyRowOf_89 90 rfl rfl ?_
      refine xr_get C K_Ma 1 d_Ma_copyRowOf_90 93 rfl q_90 (Or.inl rfl) rfl (by first | assumption | exact xup_self | exact (xup_ne (by assumption)).trans (by assumption) | exact (xup_ne (Ne.symm (by assumption))).trans (by assumption) | exact (xup_ne (by assumption)).trans xup_self | exact (xup_ne (Ne.symm (by assumption))).trans xup_self) rfl ?_
      refine xr_aload_n C d_Ma_copyRowOf_93 94 rfl rfl ?_
      refine xr_get C K_Ma 1 d_Ma_copyRowOf_94 97 rfl q_90 (Or.inl rfl) rfl (by first | assumption | exact xup_self | exact (xup_ne (by assumption)).trans (by assumption) | exact (xup_ne (Ne.symm (by assumption))).trans (by assumption) | exact (xup_ne (by assumption)).trans xup_self | exact (xup_ne (Ne.symm (by assumption))).trans xup_self) rfl ?_
      refine xr_get C K_KM 1 d_Ma_copyRowOf_97 100 rfl q_81 (Or.inl rfl) rfl (by first | assumption | exact xup_self | exact (xup_ne (by assumption)).trans (by assumption) | exact (xup_ne (Ne.symm (by assumption))).trans (by assumption) | exact (xup_ne (by assumption)).trans xup_self | exact (xup_ne (Ne.symm (by assumption))).trans xup_self) rfl ?_
      refine xr_put C K_KM 1 d_Ma_copyRowOf_100 103 rfl q_81 (Or.inl rfl) rfl rfl rfl rfl (by first | assumption | exact xup_self | exact (xup_ne (by assumption)).trans (by assumption) | exact (xup_ne (Ne.symm (by assumption))).trans (by assumption) | exact (xup_ne (by assumption)).trans xup_self | exact (xup_ne (Ne.symm (by assumption))).trans xup_self) rfl rfl ?_
      obtain ⟨-, -, -, -, z5, z6, z7, z8, z9⟩ := hZ
      have hfU : xFr [ls, bs, mp, la, be] X (xup Y mp (.inr (2, [.ref la, .int (nI (uns es'))]))) := z7.trans (xFr_up hmY (fun z => z) (by simp))
      refine xr_vret C d_Ma_copyRowOf_103 (by omega) (by omega) ⟨rfl, z6.up1 hmY (by decide) (by decide), b1, b2, ⟨?_, hlY.keep1 hmY (by decide), hE', hok', ⟨xup_self, hkY.keep1 hmY (by decide), hF', hokm'⟩, hll, z5.keep (S := [mp]) (xFr_up hmY (fun z => z) (by simp))⟩, hfU, z8, z9⟩
      exact (xup_ne (xne haY hmY (by intro h; cases h))).trans haY
    | succ k ih =>
      intro i c2 b1 b2 Y hi hT hcc hZ
      have hTl := hT.le
      have hBY := hA.keepO hB hs (hZ.2.2.2.2.2.2.1.mono hsub)
      obtain ⟨haY, hmY, hlY, hkY, -, hIY, -⟩ := id hZ
      obtain ⟨vlY, hlY1⟩ := hlY.ob
      obtain ⟨vkY, hkY1⟩ := hkY.ob
      obtain ⟨haB, hLB, hEB, -, hMB, -, -⟩ := id hBY
      obtain ⟨hmB, hKB, hFB, -⟩ := id hMB
      obtain ⟨vlB, hlB1⟩ := hLB.ob
      obtain ⟨vkB, hkB1⟩ := hKB.ob
      have i1 : i < as2'.length := by omega
      obtain ⟨p9, q9, k1, k2, k3, -⟩ := (hFB.2 i i1).use hIY
      have hkp : xLi E.D Y la b2 c2 (as2'.take i) ∧ i ≤ c2 := ⟨hkY, by have := hkY.lenc; rw [take_len (by omega)] at this; omega⟩
      refine xr_iload_n C d_Ma_copyRowOf_44 45 rfl rfl ?_
      refine xr_aload_n C d_Ma_copyRowOf_45 46 rfl rfl ?_
      refine xr_get C K_Ma 1 d_Ma_copyRowOf_46 49 rfl q_90 (Or.inl rfl) rfl (by first | assumption | exact xup_self | exact (xup_ne (by assumption)).trans (by assumption) | exact (xup_ne (Ne.symm (by assumption))).trans (by assumption) | exact (xup_ne (by assumption)).trans xup_self | exact (xup_ne (Ne.symm (by assumption))).trans xup_self) rfl ?_
      refine xr_get C K_KM 0 d_Ma_copyRowOf_49 52 rfl q_78 (Or.inl rfl) rfl (by first | assumption | exact xup_self | exact (xup_ne (by assumption)).trans (by assumption) | exact (xup_ne (Ne.symm (by assumption))).trans (by assumption) | exact (xup_ne (by assumption)).trans xup_self | exact (xup_ne (Ne.symm (by assumption))).trans xup_self) rfl ?_
      refine xr_callV C (l_size hKB) k_AL_size d_Ma_copyRowOf_52 55 rfl (by first | assumption | exact xup_self | exact (xup_ne (by assumption)).trans (by assumption) | exact (xup_ne (Ne.symm (by assumption))).trans (by assumption) | exact (xup_ne (by assumption)).trans xup_self | exact (xup_ne (Ne.symm (by assumption))).trans xup_self) rfl (Or.inl q_270) v_AL_size e_AL_size h_AL_size rfl ⟨Nat.le_of_ble_eq_true rfl, Nat.le_of_ble_eq_true rfl, Nat.le_of_ble_eq_true rfl⟩ (by omega) (by omega) (fun v9 Y hP => ?_) (fun _ _ h => absurd h.1 (by simp))
      obtain ⟨h1, rfl⟩ := hP
      cases h1
      refine xr_icmp_ge C d_Ma_copyRowOf_55 58 89 rfl (by decide) (fun h => absurd h (nI_ge i1 (by omega))) (fun _ => ?_)
      refine xr_aload_n C d_Ma_copyRowOf_58 59 rfl rfl ?_
      refine xr_get C K_Ma 1 d_Ma_copyRowOf_59 62 rfl q_90 (Or.inl rfl) rfl (by first | assumption | exact xup_self | exact (xup_ne (by assumption)).trans (by assumption) | exact (xup_ne (Ne.symm (by assumption))).trans (by assumption) | exact (xup_ne (by assumption)).trans xup_self | exact (xup_ne (Ne.symm (by assumption))).trans xup_self) rfl ?_
      refine xr_get C K_KM 0 d_Ma_copyRowOf_62 65 rfl q_78 (Or.inl rfl) rfl (by first | assumption | exact xup_self | exact (xup_ne (by assumption)).trans (by assumption) | exact (xup_ne (Ne.symm (by assumption))).trans (by assumption) | exact (xup_ne (by assumption)).trans xup_self | exact (xup_ne (Ne.symm (by assumption))).trans xup_self) rfl ?_
      refine xr_aload_n C d_Ma_copyRowOf_65 66 rfl rfl ?_
      refine xr_get C K_Ma 1 d_Ma_copyRowOf_66 69 rfl q_90 (Or.inl rfl) rfl (by first | assumption | exact xup_self | exact (xup_ne (by assumption)).trans (by assumption) | exact (xup_ne (Ne.symm (by assumption))).trans (by assumption) | exact (xup_ne (by assumption)).trans xup_self | exact (xup_ne (Ne.symm (by assumption))).trans xup_self) rfl ?_
      refine xr_get C K_KM 0 d_Ma_copyRowOf_69 72 rfl q_78 (Or.inl rfl) rfl (by first | assumption | exact xup_self | exact (xup_ne (by assumption)).trans (by assumption) | exact (xup_ne (Ne.symm (by assumption))).trans (by assumption) | exact (xup_ne (by assumption)).trans xup_self | exact (xup_ne (Ne.symm (by assumption))).trans xup_self) rfl ?_
      refine xr_iload_n C d_Ma_copyRowOf_72 73 rfl rfl ?_
      refine xr_callV C (l_get hKB i1) k_AL_get d_Ma_copyRowOf_73 76 rfl (by first | assumption | exact xup_self | exact (xup_ne (by assumption)).trans (by assumption) | exact (xup_ne (Ne.symm (by assumption))).trans (by assumption) | exact (xup_ne (by assumption)).trans xup_self | exact (xup_ne (Ne.symm (by assumption))).trans xup_self) rfl (Or.inl q_278) v_AL_get e_AL_get h_AL_get rfl ⟨Nat.le_of_ble_eq_true rfl, Nat.le_of_ble_eq_true rfl, Nat.le_of_ble_eq_true rfl⟩ (by omega) (by omega) (fun v9 Y hP => ?_) (fun _ _ h => absurd h.1 (by simp))
      obtain ⟨h1, rfl⟩ := hP
      cases h1
      refine xr_cast C d_Ma_copyRowOf_76 79 rfl k1 rfl q_830 ?_
      obtain ⟨k9, hk9, hk8⟩ : ∃ k : Nat, (c2 ≤ (as2'.take i).length → 1 ≤ k) ∧ k + c2 ≤ (if (as2'.take i).length < c2 then c2 else nx c2) := by
        by_cases h : (as2'.take i).length < c2
        · exact ⟨0, fun h1 => by omega, by rw [if_pos h]; omega⟩
        · exact ⟨1, fun _ => Nat.le_refl _, by rw [if_neg h]; have := nx_gt (c := c2); omega⟩
      rw [take_len (by omega)] at hk9 hk8
      have hst := hT.step (i := i) (by omega) (by have := hkp.2; omega)
      have hsl := hst.le
      refine xr_callV C (c_AL_add1 hkp.1 (by rw [take_len (by omega)]; omega) (fun q hq => (hFB.ob hIY) q (mem_tk hq)) ((hFB.2 i i1).ob hIY) (k := k9) (by rw [take_len (by omega)]; exact hk9)) k_AL_add1 d_Ma_copyRowOf_79 82 rfl (by first | assumption | exact xup_self | exact (xup_ne (by assumption)).trans (by assumption) | exact (xup_ne (Ne.symm (by assumption))).trans (by assumption) | exact (xup_ne (by assumption)).trans xup_self | exact (xup_ne (Ne.symm (by assumption))).trans xup_self) rfl (Or.inl q_334) v_AL_add1 e_AL_add1 h_AL_add1 rfl ⟨Nat.le_of_ble_eq_true rfl, Nat.le_of_ble_eq_true rfl, Nat.le_of_ble_eq_true rfl⟩ (by omega) (by omega) (fun v9 Y2 hP => ?_) (fun _ _ h => absurd h.1 (by simp))
      obtain ⟨e1, b9, g1, g2, g3⟩ := hP
      cases e1
      rw [take_len (by omega), ← takeg 0 (by omega)] at g1
      have hZ2 := hZ.r hll g1 g2 g3
      refine xr_pop C d_Ma_copyRowOf_82 83 rfl rfl ?_
      refine xr_iinc (v := 1) C d_Ma_copyRowOf_83 86 rfl rfl rfl rfl (by decide) ?_
      refine xr_goto C d_Ma_copyRowOf_86 44 (by decide) ?_
      refine xG.eqL (show _ = [some (Value.ref a), some (Value.ref a'), some (Value.int (nI (i + 1)))] by rw [← nI_one i]; rfl) ?_
      refine xG.wide (c2 := (d1 - cs) + ((if i < c2 then c2 else nx c2) - ce)) (s2 := 200 * ((d1 - cs) + ((if i < c2 then c2 else nx c2) - ce))) (by omega) (by omega) ?_
      exact ih (i + 1) _ _ _ Y2 (by omega) hst (by omega) hZ2
  have loop1 : ∀ (k i c1 b1 : Nat) (Y : xH), i + k = ss'.length → isL c1 ss'.length d1 → cs ≤ c1 → xTwo E.D X Y I a ls bs mp la be b1 c1 be ce (as1'.take i) [] g → xG E Y (c1 - cs) (200 * (c1 - cs)) 6 [some (.ref a), some (.ref a'), some (.int (nI i))] [] := by
    intro k
    induction k with
    | zero =>
      intro i c1 b1 Y hi hT hcc hZ
      have hTl := hT.le
      have hBY := hA.keepO hB hs (hZ.2.2.2.2.2.2.1.mono hsub)
      obtain ⟨haY, hmY, hlY, hkY, -, hIY, -⟩ := id hZ
      obtain ⟨vlY, hlY1⟩ := hlY.ob
      obtain ⟨vkY, hkY1⟩ := hkY.ob
      obtain ⟨haB, hLB, hEB, -, hMB, -, -⟩ := id hBY
      obtain ⟨hmB, hKB, hFB, -⟩ := id hMB
      obtain ⟨vlB, hlB1⟩ := hLB.ob
      obtain ⟨vkB, hkB1⟩ := hKB.ob
      refine xr_iload_n C d_Ma_copyRowOf_6 7 rfl rfl ?_
      refine xr_aload_n C d_Ma_copyRowOf_7 8 rfl rfl ?_
      refine xr_get C K_Ma 0 d_Ma_copyRowOf_8 11 rfl q_88 (Or.inl rfl) rfl (by first | assumption | exact xup_self | exact (xup_ne (by assumption)).trans (by assumption) | exact (xup_ne (Ne.symm (by assumption))).trans (by assumption) | exact (xup_ne (by assumption)).trans xup_self | exact (xup_ne (Ne.symm (by assumption))).trans xup_self) rfl ?_
      refine xr_callV C (l_size hLB) k_AL_size d_Ma_copyRowOf_11 14 rfl (by first | assumption | exact xup_self | exact (xup_ne (by assumption)).trans (by assumption) | exact (xup_ne (Ne.symm (by assumption))).trans (by assumption) | exact (xup_ne (by assumption)).trans xup_self | exact (xup_ne (Ne.symm (by assumption))).trans xup_self) rfl (Or.inl q_270) v_AL_size e_AL_size h_AL_size rfl ⟨Nat.le_of_ble_eq_true rfl, Nat.le_of_ble_eq_true rfl, Nat.le_of_ble_eq_true rfl⟩ (by omega) (by omega) (fun v9 Y hP => ?_) (fun _ _ h => absurd h.1 (by simp))
      obtain ⟨h1, rfl⟩ := hP
      cases h1
      refine xr_icmp_ge C d_Ma_copyRowOf_14 17 42 rfl (by decide) (fun _ => ?_) (fun h => absurd (nI_le (show as1'.length ≤ i by omega) (by omega)) h)
      have hcl := hlY.lenc
      rw [List.take_of_length_le (show as1'.length ≤ i by omega)] at hZ hcl
      have e9 : d1 = c1 := hT.fit (by omega)
      subst e9
      refine xr_iconst (v := 0) C d_Ma_copyRowOf_42 43 rfl (by decide) ?_
      refine xr_istore_n C d_Ma_copyRowOf_43 44 rfl rfl rfl ?_
      refine xG.wide (c2 := (d1 - cs) + (ce - ce)) (s2 := 200 * ((d1 - cs) + (ce - ce))) (by omega) (by omega) ?_
      exact loop2 es'.length 0 ce b1 be Y (by omega) hd2 (Nat.le_refl _) hZ
    | succ k ih =>
      intro i c1 b1 Y hi hT hcc hZ
      have hTl := hT.le
      have hBY := hA.keepO hB hs (hZ.2.2.2.2.2.2.1.mono hsub)
      obtain ⟨haY, hmY, hlY, hkY, -, hIY, -⟩ := id hZ
      obtain ⟨vlY, hlY1⟩ := hlY.ob
      obtain ⟨vkY, hkY1⟩ := hkY.ob
      obtain ⟨haB, hLB, hEB, -, hMB, -, -⟩ := id hBY
      obtain ⟨hmB, hKB, hFB, -⟩ := id hMB
      obtain ⟨vlB, hlB1⟩ := hLB.ob
      obtain ⟨vkB, hkB1⟩ := hKB.ob
      have i1 : i < as1'.length := by omega
      obtain ⟨q9, k1, k2, k3⟩ := (hEB.2 i i1).use hIY
      have hkp : xLi E.D Y ls b1 c1 (as1'.take i) ∧ i ≤ c1 := ⟨hlY, by have := hlY.lenc; rw [take_len (by omega)] at this; omega⟩
      refine xr_iload_n C d_Ma_copyRowOf_6 7 rfl rfl ?_
      refine xr_aload_n C d_Ma_copyRowOf_7 8 rfl rfl ?_
      refine xr_get C K_Ma 0 d_Ma_copyRowOf_8 11 rfl q_88 (Or.inl rfl) rfl (by first | assumption | exact xup_self | exact (xup_ne (by assumption)).trans (by assumption) | exact (xup_ne (Ne.symm (by assumption))).trans (by assumption) | exact (xup_ne (by assumption)).trans xup_self | exact (xup_ne (Ne.symm (by assumption))).trans xup_self) rfl ?_
      refine xr_callV C (l_size hLB) k_AL_size d_Ma_copyRowOf_11 14 rfl (by first | assumption | exact xup_self | exact (xup_ne (by assumption)).trans (by assumption) | exact (xup_ne (Ne.symm (by assumption))).trans (by assumption) | exact (xup_ne (by assumption)).trans xup_self | exact (xup_ne (Ne.symm (by assumption))).trans xup_self) rfl (Or.inl q_270) v_AL_size e_AL_size h_AL_size rfl ⟨Nat.le_of_ble_eq_true rfl, Nat.le_of_ble_eq_true rfl, Nat.le_of_ble_eq_true rfl⟩ (by omega) (by omega) (fun v9 Y hP => ?_) (fun _ _ h => absurd h.1 (by simp))
      obtain ⟨h1, rfl⟩ := hP
      cases h1
      refine xr_icmp_ge C d_Ma_copyRowOf_14 17 42 rfl (by decide) (fun h => absurd h (nI_ge i1 (by omega))) (fun _ => ?_)
      refine xr_aload_n C d_Ma_copyRowOf_17 18 rfl rfl ?_
      refine xr_get C K_Ma 0 d_Ma_copyRowOf_18 21 rfl q_88 (Or.inl rfl) rfl (by first | assumption | exact xup_self | exact (xup_ne (by assumption)).trans (by assumption) | exact (xup_ne (Ne.symm (by assumption))).trans (by assumption) | exact (xup_ne (by assumption)).trans xup_self | exact (xup_ne (Ne.symm (by assumption))).trans xup_self) rfl ?_
      refine xr_aload_n C d_Ma_copyRowOf_21 22 rfl rfl ?_
      refine xr_get C K_Ma 0 d_Ma_copyRowOf_22 25 rfl q_88 (Or.inl rfl) rfl (by first | assumption | exact xup_self | exact (xup_ne (by assumption)).trans (by assumption) | exact (xup_ne (Ne.symm (by assumption))).trans (by assumption) | exact (xup_ne (by assumption)).trans xup_self | exact (xup_ne (Ne.symm (by assumption))).trans xup_self) rfl ?_
      refine xr_iload_n C d_Ma_copyRowOf_25 26 rfl rfl ?_
      refine xr_callV C (l_get hLB i1) k_AL_get d_Ma_copyRowOf_26 29 rfl (by first | assumption | exact xup_self | exact (xup_ne (by assumption)).trans (by assumption) | exact (xup_ne (Ne.symm (by assumption))).trans (by assumption) | exact (xup_ne (by assumption)).trans xup_self | exact (xup_ne (Ne.symm (by assumption))).trans xup_self) rfl (Or.inl q_278) v_AL_get e_AL_get h_AL_get rfl ⟨Nat.le_of_ble_eq_true rfl, Nat.le_of_ble_eq_true rfl, Nat.le_of_ble_eq_true rfl⟩ (by omega) (by omega) (fun v9 Y hP => ?_) (fun _ _ h => absurd h.1 (by simp))
      obtain ⟨h1, rfl⟩ := hP
      cases h1
      refine xr_cast C d_Ma_copyRowOf_29 32 rfl k1 rfl q_292 ?_
      obtain ⟨k9, hk9, hk8⟩ : ∃ k : Nat, (c1 ≤ (as1'.take i).length → 1 ≤ k) ∧ k + c1 ≤ (if (as1'.take i).length < c1 then c1 else nx c1) := by
        by_cases h : (as1'.take i).length < c1
        · exact ⟨0, fun h1 => by omega, by rw [if_pos h]; omega⟩
        · exact ⟨1, fun _ => Nat.le_refl _, by rw [if_neg h]; have := nx_gt (c := c1); omega⟩
      rw [take_len (by omega)] at hk9 hk8
      have hst := hT.step (i := i) (by omega) (by have := hkp.2; omega)
      have hsl := hst.le
      refine xr_callV C (c_AL_add1 hkp.1 (by rw [take_len (by omega)]; omega) (fun q hq => (hEB.ob hIY) q (mem_tk hq)) ((hEB.2 i i1).ob hIY) (k := k9) (by rw [take_len (by omega)]; exact hk9)) k_AL_add1 d_Ma_copyRowOf_32 35 rfl (by first | assumption | exact xup_self | exact (xup_ne (by assumption)).trans (by assumption) | exact (xup_ne (Ne.symm (by assumption))).trans (by assumption) | exact (xup_ne (by assumption)).trans xup_self | exact (xup_ne (Ne.symm (by assumption))).trans xup_self) rfl (Or.inl q_334) v_AL_add1 e_AL_add1 h_AL_add1 rfl ⟨Nat.le_of_ble_eq_true rfl, Nat.le_of_ble_eq_true rfl, Nat.le_of_ble_eq_true rfl⟩ (by omega) (by omega) (fun v9 Y2 hP => ?_) (fun _ _ h => absurd h.1 (by simp))
      obtain ⟨e1, b9, g1, g2, g3⟩ := hP
      cases e1
      rw [take_len (by omega), ← takeg 0 (by omega)] at g1
      have hZ2 := hZ.l hll g1 g2 g3
      refine xr_pop C d_Ma_copyRowOf_35 36 rfl rfl ?_
      refine xr_iinc (v := 1) C d_Ma_copyRowOf_36 39 rfl rfl rfl rfl (by decide) ?_
      refine xr_goto C d_Ma_copyRowOf_39 6 (by decide) ?_
      refine xG.eqL (show _ = [some (Value.ref a), some (Value.ref a'), some (Value.int (nI (i + 1)))] by rw [← nI_one i]; rfl) ?_
      refine xG.wide (c2 := ((if i < c1 then c1 else nx c1) - cs)) (s2 := 200 * ((if i < c1 then c1 else nx c1) - cs)) (by omega) (by omega) ?_
      exact ih (i + 1) _ _ Y2 (by omega) hst (by omega) hZ2
  refine xr_aload_n C d_Ma_copyRowOf_0 1 rfl rfl ?_
  refine xr_callV C (c_Ma_forget hI hA) k_Ma_forget d_Ma_copyRowOf_1 4 rfl (by first | assumption | exact xup_self | exact (xup_ne (by assumption)).trans (by assumption) | exact (xup_ne (Ne.symm (by assumption))).trans (by assumption) | exact (xup_ne (by assumption)).trans xup_self | exact (xup_ne (Ne.symm (by assumption))).trans xup_self) rfl (Or.inl q_870) v_Ma_forget e_Ma_forget h_Ma_forget rfl ⟨Nat.le_of_ble_eq_true rfl, Nat.le_of_ble_eq_true rfl, Nat.le_of_ble_eq_true rfl⟩ (by omega) (by omega) (fun v9 Y hP => ?_) (fun _ _ h => absurd h.1 (by simp))
  obtain ⟨e1, f1, f2, f3⟩ := hP
  cases e1
  obtain ⟨w1, w2, w3, w4, w5, w6, w7⟩ := f2
  refine xr_iconst (v := 0) C d_Ma_copyRowOf_4 5 rfl (by decide) ?_
  refine xr_istore_n C d_Ma_copyRowOf_5 6 rfl rfl rfl ?_
  refine xG.wide (c2 := cs - cs) (s2 := 200 * (cs - cs)) (by omega) (by omega) ?_
  exact loop1 ss'.length 0 cs bs Y (by omega) hd1 (Nat.le_refl _) ⟨w1, w5.1, w2, w5.2.1, w7, f1, f3, Or.inl rfl, Or.inl rfl⟩
set_option maxRecDepth 100000 in
set_option maxHeartbeats 4000000 in
theorem c_Ma_init {l : Launch} {D : va_G} {H0 : Heap} {X : xH} {a : Nat} {w0 w1 w2 : Value} (ha : X a = some (.inr (1, [w0, w1, w2]))) : xMet l D H0 y_Ma_init b_Ma_init 1 none [] 4 3 8 [.ref a] X (fun o X' => o = .inl none ∧ ∃ ls mp la : Nat, X ls = none ∧ X mp = none ∧ X la = none ∧ ls ≠ la ∧ X' ls = some (.inr (7, [.int 0, .ref (D.2 200 1), .int 0])) ∧ X' la = some (.inr (7, [.int 0, .ref (D.2 200 1), .int 0])) ∧ X' mp = some (.inr (2, [.ref la, .int 0])) ∧ X' a = some (.inr (1, [.ref ls, .ref mp, .int 0])) ∧ xFr [a] X X') := by
  refine ⟨[some (.ref a)], rfl, Nat.le_of_ble_eq_true rfl, fun E hD hH hl _ C => ?_⟩
  subst hD
  subst hH
  subst hl
  refine xr_aload_n C d_Ma_init_0 1 rfl rfl ?_
  refine xr_objInit C d_Ma_init_1 4 rfl q_42 w_oi w_oc (Nat.le_of_ble_eq_true rfl) ?_
  refine xr_aload_n C d_Ma_init_4 5 rfl rfl ?_
  refine xr_new (fs := [.int 0, .null, .int 0]) C K_AL d_Ma_init_5 8 rfl q_43 q_44 q_5 (by intro j hj; match j, hj with | 0, _ => rfl | 1, _ => rfl | 2, _ => rfl) (by omega) (by omega) (fun ls hls => ?_)
  refine xr_dup C d_Ma_init_8 9 rfl rfl ?_
  refine xr_callI C (c_AL_init xup_self) kc_AL_init d_Ma_init_9 12 rfl (Or.inl q_45) v_AL_init rfl h_AL_init rfl ⟨Nat.le_of_ble_eq_true rfl, Nat.le_of_ble_eq_true rfl, Nat.le_of_ble_eq_true rfl⟩ (by omega) (by omega) (fun v9 X' hP => ?_) (fun _ _ h => absurd h.1 (by simp))
  obtain ⟨h1, rfl⟩ := hP
  cases h1
  refine xG.eqX xup_up ?_
  refine xr_putF C K_Ma 0 d_Ma_init_12 15 rfl q_88 (Or.inl rfl) rfl rfl rfl rfl rfl rfl (xup_fresh ha hls) rfl rfl ?_
  refine xr_aload_n C d_Ma_init_15 16 rfl rfl ?_
  obtain ⟨X1, hX1⟩ : ∃ z, z = xup (xup X ls (.inr (7, [.int 0, .ref (E.D.2 200 1), .int 0]))) a (.inr (1, [.ref ls, w1, w2])) := ⟨_, rfl⟩
  refine xG.eqX (show _ = X1 from hX1.symm) ?_
  have hlsa : ls ≠ a := Ne.symm (xne_none ha hls)
  have hls1 : X1 ls = some (.inr (7, [.int 0, .ref (E.D.2 200 1), .int 0])) := by rw [hX1]; exact (xup_ne hlsa).trans xup_self
  have ha1 : X1 a = some (.inr (1, [.ref ls, w1, w2])) := by rw [hX1]; exact xup_self
  have hf1 : xFr [a] X X1 := by rw [hX1]; exact (xFr_new hls).trans (xFr_up (xup_fresh ha hls) (fun z => z) (by simp))
  refine xr_new (fs := [.null, .int 0]) C K_KM d_Ma_init_16 19 rfl q_69 q_70 q_6 (by intro j hj; match j, hj with | 0, _ => rfl | 1, _ => rfl) (by omega) (by omega) (fun mp hmp => ?_)
  refine xr_dup C d_Ma_init_19 20 rfl rfl ?_
  refine xr_callI C (c_KM_init xup_self) kc_KM_init d_Ma_init_20 23 rfl (Or.inr ⟨_, q_71⟩) v_KM_init rfl h_KM_init rfl ⟨Nat.le_of_ble_eq_true rfl, Nat.le_of_ble_eq_true rfl, Nat.le_of_ble_eq_true rfl⟩ (by omega) (by omega) (fun v9 X' hP => ?_) (fun _ _ h => absurd h.1 (by simp))
  obtain ⟨h1, la, hla, rfl⟩ := hP
  cases h1
  have hmla : mp ≠ la := xne_none xup_self hla
  have hla1 : X1 la = none := (xup_ne (Ne.symm hmla)).symm.trans hla
  have hamp : a ≠ mp := xne_none ha1 hmp
  have hala : a ≠ la := xne_none ha1 hla1
  have hlsmp : ls ≠ mp := xne_none hls1 hmp
  have hlsla : ls ≠ la := xne_none hls1 hla1
  obtain ⟨X2, hX2⟩ : ∃ z, z = xup (xup (xup X1 mp (.inr (2, [.null, .int 0]))) la (.inr (7, [.int 0, .ref (E.D.2 200 1), .int 0]))) mp (.inr (2, [.ref la, .int 0])) := ⟨_, rfl⟩
  refine xG.eqX (show _ = X2 from hX2.symm) ?_
  have ha2 : X2 a = some (.inr (1, [.ref ls, w1, w2])) := by rw [hX2]; exact (xup_ne hamp).trans ((xup_ne hala).trans ((xup_ne hamp).trans ha1))
  have hls2 : X2 ls = some (.inr (7, [.int 0, .ref (E.D.2 200 1), .int 0])) := by rw [hX2]; exact (xup_ne hlsmp).trans ((xup_ne hlsla).trans ((xup_ne hlsmp).trans hls1))
  have hmp2 : X2 mp = some (.inr (2, [.ref la, .int 0])) := by rw [hX2]; exact xup_self
  have hla2 : X2 la = some (.inr (7, [.int 0, .ref (E.D.2 200 1), .int 0])) := by rw [hX2]; exact (xup_ne (Ne.symm hmla)).trans xup_self
  have hf2 : xFr [a] X1 X2 := by rw [hX2]; exact ((xFr_new hmp).fresh hla1).fresh hmp
  refine xr_putF C K_Ma 1 d_Ma_init_23 26 rfl q_90 (Or.inl rfl) rfl rfl rfl rfl rfl rfl (by first | assumption | exact xup_self | exact (xup_ne (by assumption)).trans (by assumption) | exact (xup_ne (Ne.symm (by assumption))).trans (by assumption) | exact (xup_ne (by assumption)).trans xup_self | exact (xup_ne (Ne.symm (by assumption))).trans xup_self) rfl rfl ?_
  refine xr_aload_n C d_Ma_init_26 27 rfl rfl ?_
  refine xr_iconst (v := 0) C d_Ma_init_27 28 rfl (by decide) ?_
  refine xr_put C K_Ma 2 d_Ma_init_28 31 rfl q_92 (Or.inl rfl) rfl rfl rfl rfl (by first | assumption | exact xup_self | exact (xup_ne (by assumption)).trans (by assumption) | exact (xup_ne (Ne.symm (by assumption))).trans (by assumption) | exact (xup_ne (by assumption)).trans xup_self | exact (xup_ne (Ne.symm (by assumption))).trans xup_self) rfl rfl ?_
  refine xr_vret C d_Ma_init_31 (by omega) (by omega) ⟨rfl, ls, mp, la, hls, hf1.2 _ hmp, hf1.2 _ hla1, hlsla, ?_, ?_, ?_, xup_self, ?_⟩
  · exact (xup_ne hlsa).trans ((xup_ne hlsa).trans hls2)
  · exact (xup_ne (Ne.symm hala)).trans ((xup_ne (Ne.symm hala)).trans hla2)
  · exact (xup_ne (Ne.symm hamp)).trans ((xup_ne (Ne.symm hamp)).trans hmp2)
  · exact (hf1.trans hf2).trans ((xFr_up ha2 (fun z => z) (by simp)).trans (xFr_up xup_self (fun z => z) (by simp)))
end
section
theorem q_12 : Cond.initialized "java/lang/IllegalArgumentException" ∈ xT := xin 12 (by decide +kernel) (by decide +kernel)
theorem q_13 : Cond.initialized "java/lang/IllegalStateException" ∈ xT := xin 13 (by decide +kernel) (by decide +kernel)
theorem q_14 : Cond.initialized "java/lang/IndexOutOfBoundsException" ∈ xT := xin 14 (by decide +kernel) (by decide +kernel)
/-! The class's helpers. -/
theorem tw_IAE : xThW "TwinKeepers" 37 41 "java/lang/IllegalArgumentException" := ⟨by decide +kernel, q_149, q_12, by decide +kernel, by decide +kernel⟩
theorem tw_ISE : xThW "TwinKeepers" 44 48 "java/lang/IllegalStateException" := ⟨by decide +kernel, q_216, q_13, by decide +kernel, by decide +kernel⟩
theorem tw_IOB : xThW "TwinKeepers" 171 175 "java/lang/IndexOutOfBoundsException" := ⟨by decide +kernel, q_244, q_14, by decide +kernel, by decide +kernel⟩
theorem xs_39 : (39, "n is not 1 .. 8") ∈ xstr := by decide +kernel
theorem xs_46 : (46, "the tape would have more than 300 bytes") ∈ xstr := by decide +kernel
theorem xs_209 : (209, "no such machine") ∈ xstr := by decide +kernel
theorem xs_57 : (57, "place is not 1 to 1000000 and above those before") ∈ xstr := by decide +kernel
theorem xs_80 : (80, "serial is below 0, or shape and tape are no operation") ∈ xstr := by decide +kernel
theorem xs_138 : (138, "shape and tape are no reading") ∈ xstr := by decide +kernel
theorem xs_173 : (173, "no such session") ∈ xstr := by decide +kernel
theorem xs_182 : (182, "no such thing of a session") ∈ xstr := by decide +kernel
theorem xs_184 : (184, "no such key") ∈ xstr := by decide +kernel
theorem xs_186 : (186, "no such thing of a key") ∈ xstr := by decide +kernel
theorem xs_202 : (202, "no such thing of a machine") ∈ xstr := by decide +kernel
theorem xs_204 : (204, "the result has no such byte") ∈ xstr := by decide +kernel
set_option maxRecDepth 100000 in
set_option maxHeartbeats 4000000 in
theorem c_TK_machineOf {l : Launch} {D : va_G} {H0 : Heap} {X : xH} {tk a0 a1 i : Nat} {v2 v3 v4 v5 : Value} (htk : X tk = some (.inr (0, [.ref a0, .ref a1, v2, v3, v4, v5]))) (hi : i < 2) : xMet l D H0 y_TK_machineOf b_TK_machineOf 2 (some (.object "TwinKeepers$Machine")) [] 0 0 0 [.ref tk, .int (nI i)] X (fun o X' => o = .inl (some (.ref (if i = 0 then a0 else a1))) ∧ X' = X) := by
  refine ⟨[some (.ref tk), some (.int (nI i))], rfl, Nat.le_of_ble_eq_true rfl, fun E hD hH hl _ C => ?_⟩
  subst hD
  subst hH
  subst hl
  refine xr_iload_n C d_TK_machineOf_0 1 rfl rfl ?_
  refine xr_if_lt C d_TK_machineOf_1 4 9 rfl (by decide) (fun h => absurd h (nI_pos (by omega))) (fun _ => ?_)
  refine xr_iload_n C d_TK_machineOf_4 5 rfl rfl ?_
  refine xr_iconst (v := 1) C d_TK_machineOf_5 6 rfl (by decide) ?_
  refine xr_icmp_le C d_TK_machineOf_6 9 19 rfl (by decide) (fun _ => ?_) (fun h => absurd (nI_le (show i ≤ 1 by omega) (by omega)) h)
  refine xr_iload_n C d_TK_machineOf_19 20 rfl rfl ?_
  by_cases h0 : i = 0
  · subst h0
    refine xr_if_ne C d_TK_machineOf_20 23 30 rfl (by decide) (fun h => absurd rfl h) (fun _ => ?_)
    refine xr_aload_n C d_TK_machineOf_23 24 rfl rfl ?_
    refine xr_get C K_TK 0 d_TK_machineOf_24 27 rfl q_117 (Or.inl rfl) rfl (by first | assumption | exact xup_self | exact (xup_ne (by assumption)).trans (by assumption) | exact (xup_ne (Ne.symm (by assumption))).trans (by assumption) | exact (xup_ne (by assumption)).trans xup_self | exact (xup_ne (Ne.symm (by assumption))).trans xup_self) rfl ?_
    refine xr_goto C d_TK_machineOf_27 34 (by decide) ?_
    exact xr_aret C d_TK_machineOf_34 (Or.inl ⟨_, rfl⟩) (by omega) (by omega) ⟨rfl, rfl⟩
  · have h1 : i = 1 := by omega
    subst h1
    refine xr_if_ne C d_TK_machineOf_20 23 30 rfl (by decide) (fun _ => ?_) (fun h => absurd h (by decide))
    refine xr_aload_n C d_TK_machineOf_30 31 rfl rfl ?_
    refine xr_get C K_TK 1 d_TK_machineOf_31 34 rfl q_118 (Or.inl rfl) rfl (by first | assumption | exact xup_self | exact (xup_ne (by assumption)).trans (by assumption) | exact (xup_ne (Ne.symm (by assumption))).trans (by assumption) | exact (xup_ne (by assumption)).trans xup_self | exact (xup_ne (Ne.symm (by assumption))).trans xup_self) rfl ?_
    exact xr_aret C d_TK_machineOf_34 (Or.inl ⟨_, rfl⟩) (by omega) (by omega) ⟨rfl, rfl⟩
set_option maxRecDepth 100000 in
set_option maxHeartbeats 4000000 in
theorem c_TK_machineOfX {l : Launch} {D : va_G} {H0 : Heap} {X : xH} {tk : Nat} {z : Int32} (hz : z < 0 ∨ nI 2 ≤ z) : xMet l D H0 y_TK_machineOf b_TK_machineOf 2 (some (.object "TwinKeepers$Machine")) [] 0 1 6 [.ref tk, .int z] X (fun o X' => o = .inr "java/lang/IndexOutOfBoundsException" ∧ X' = X) := by
  refine ⟨[some (.ref tk), some (.int z)], rfl, Nat.le_of_ble_eq_true rfl, fun E hD hH hl _ C => ?_⟩
  subst hD
  subst hH
  subst hl
  have t : xG E X 0 0 9 [some (.ref tk), some (.int z)] [] := by
    exact xr_throw C rfl d_TK_machineOf_9 d_TK_machineOf_12 d_TK_machineOf_13 d_TK_machineOf_15 d_TK_machineOf_18 tw_IOB xs_209 (Nat.le_of_ble_eq_true rfl) (by omega) (by omega) ⟨rfl, rfl⟩
  refine xr_iload_n C d_TK_machineOf_0 1 rfl rfl ?_
  refine xr_if_lt C d_TK_machineOf_1 4 9 rfl (by decide) (fun _ => t) (fun h1 => ?_)
  refine xr_iload_n C d_TK_machineOf_4 5 rfl rfl ?_
  refine xr_iconst (v := 1) C d_TK_machineOf_5 6 rfl (by decide) ?_
  refine xr_icmp_le C d_TK_machineOf_6 9 19 rfl (by decide) (fun h => ?_) (fun _ => t)
  rcases hz with h | h2
  · exact absurd h h1
  · exact absurd (Int32.le_trans h2 h) (by decide)
set_option maxRecDepth 100000 in
set_option maxHeartbeats 4000000 in
theorem c_TK_takeTape {l : Launch} {D : va_G} {H0 : Heap} {X : xH} {tk : Nat} {v0 v1 v2 v3 v5 : Value} {n : Int32} (htk : X tk = some (.inr (0, [v0, v1, v2, v3, .int n, v5]))) : xMet l D H0 y_TK_takeTape b_TK_takeTape 2 (some .int) [] 0 0 0 [.ref tk] X (fun o X' => o = .inl (some (.int n)) ∧ X' = xup X tk (.inr (0, [v0, v1, v2, v3, .int 0, v5]))) := by
  refine ⟨[some (.ref tk), none], rfl, Nat.le_of_ble_eq_true rfl, fun E hD hH hl _ C => ?_⟩
  subst hD
  subst hH
  subst hl
  refine xr_aload_n C d_TK_takeTape_0 1 rfl rfl ?_
  refine xr_get C K_TK 4 d_TK_takeTape_1 4 rfl q_121 (Or.inl rfl) rfl (by first | assumption | exact xup_self | exact (xup_ne (by assumption)).trans (by assumption) | exact (xup_ne (Ne.symm (by assumption))).trans (by assumption) | exact (xup_ne (by assumption)).trans xup_self | exact (xup_ne (Ne.symm (by assumption))).trans xup_self) rfl ?_
  refine xr_istore_n C d_TK_takeTape_4 5 rfl rfl rfl ?_
  refine xr_aload_n C d_TK_takeTape_5 6 rfl rfl ?_
  refine xr_iconst (v := 0) C d_TK_takeTape_6 7 rfl (by decide) ?_
  refine xr_put C K_TK 4 d_TK_takeTape_7 10 rfl q_121 (Or.inl rfl) rfl rfl rfl rfl (by first | assumption | exact xup_self | exact (xup_ne (by assumption)).trans (by assumption) | exact (xup_ne (Ne.symm (by assumption))).trans (by assumption) | exact (xup_ne (by assumption)).trans xup_self | exact (xup_ne (Ne.symm (by assumption))).trans xup_self) rfl rfl ?_
  refine xr_iload_n C d_TK_takeTape_10 11 rfl rfl ?_
  exact xr_iret C d_TK_takeTape_11 (by omega) (by omega) ⟨rfl, rfl⟩
set_option maxRecDepth 100000 in
set_option maxHeartbeats 4000000 in
theorem c_TK_kindOf {l : Launch} {D : va_G} {H0 : Heap} {X : xH} {s : Nat} (hs : s < 2 ^ 31) : xMet l D H0 y_TK_kindOf b_TK_kindOf 1 (some .int) [] 0 0 0 [.int (nI s)] X (fun o X' => o = .inl (some (.int (nI (s % 8)))) ∧ X' = X) := by
  refine ⟨[some (.int (nI s))], rfl, Nat.le_of_ble_eq_true rfl, fun E hD hH hl _ C => ?_⟩
  subst hD
  subst hH
  subst hl
  refine xr_iload_n C d_TK_kindOf_0 1 rfl rfl ?_
  refine xr_bipush (v := 7) C d_TK_kindOf_1 3 rfl (by decide) ?_
  refine xr_iand C d_TK_kindOf_3 4 rfl ?_
  refine xr_toi (show _ = nI (s % 8) from pk_andN (by omega) 3 (by decide)) ?_
  exact xr_iret C d_TK_kindOf_4 (by omega) (by omega) ⟨rfl, rfl⟩
set_option maxRecDepth 100000 in
set_option maxHeartbeats 4000000 in
theorem c_TK_operationKeySize {l : Launch} {D : va_G} {H0 : Heap} {X : xH} {s : Nat} (hs : s < 2 ^ 31) : xMet l D H0 y_TK_operationKeySize b_TK_operationKeySize 1 (some .int) [] 0 0 0 [.int (nI s)] X (fun o X' => o = .inl (some (.int (nI (s / 8 % 64)))) ∧ X' = X) := by
  refine ⟨[some (.int (nI s))], rfl, Nat.le_of_ble_eq_true rfl, fun E hD hH hl _ C => ?_⟩
  subst hD
  subst hH
  subst hl
  refine xr_iload_n C d_TK_operationKeySize_0 1 rfl rfl ?_
  refine xr_iconst (v := 3) C d_TK_operationKeySize_1 2 rfl (by decide) ?_
  refine xr_ishr C d_TK_operationKeySize_2 3 rfl ?_
  refine xr_toi (show _ = nI (s / 8) from pk_shrN (by omega) _ 3 (by decide)) ?_
  refine xr_bipush (v := 63) C d_TK_operationKeySize_3 5 rfl (by decide) ?_
  refine xr_iand C d_TK_operationKeySize_5 6 rfl ?_
  refine xr_toi (show _ = nI (s / 8 % 64) from pk_andN (by omega) 6 (by decide)) ?_
  exact xr_iret C d_TK_operationKeySize_6 (by omega) (by omega) ⟨rfl, rfl⟩
set_option maxRecDepth 100000 in
set_option maxHeartbeats 4000000 in
theorem c_TK_expectedSize {l : Launch} {D : va_G} {H0 : Heap} {X : xH} {s : Nat} (hs : s < 2 ^ 31) : xMet l D H0 y_TK_expectedSize b_TK_expectedSize 1 (some .int) [] 0 0 0 [.int (nI s)] X (fun o X' => o = .inl (some (.int (nI (s / 512)))) ∧ X' = X) := by
  refine ⟨[some (.int (nI s))], rfl, Nat.le_of_ble_eq_true rfl, fun E hD hH hl _ C => ?_⟩
  subst hD
  subst hH
  subst hl
  refine xr_iload_n C d_TK_expectedSize_0 1 rfl rfl ?_
  refine xr_bipush (v := 9) C d_TK_expectedSize_1 3 rfl (by decide) ?_
  refine xr_ishr C d_TK_expectedSize_3 4 rfl ?_
  refine xr_toi (show _ = nI (s / 512) from pk_shrN (by omega) _ 9 (by decide)) ?_
  exact xr_iret C d_TK_expectedSize_4 (by omega) (by omega) ⟨rfl, rfl⟩
set_option maxRecDepth 100000 in
set_option maxHeartbeats 4000000 in
theorem c_TK_readingKeySize {l : Launch} {D : va_G} {H0 : Heap} {X : xH} {s : Nat} (hs : s < 2 ^ 31) : xMet l D H0 y_TK_readingKeySize b_TK_readingKeySize 1 (some .int) [] 0 0 0 [.int (nI s)] X (fun o X' => o = .inl (some (.int (nI (s / 8)))) ∧ X' = X) := by
  refine ⟨[some (.int (nI s))], rfl, Nat.le_of_ble_eq_true rfl, fun E hD hH hl _ C => ?_⟩
  subst hD
  subst hH
  subst hl
  refine xr_iload_n C d_TK_readingKeySize_0 1 rfl rfl ?_
  refine xr_iconst (v := 3) C d_TK_readingKeySize_1 2 rfl (by decide) ?_
  refine xr_ishr C d_TK_readingKeySize_2 3 rfl ?_
  refine xr_toi (show _ = nI (s / 8) from pk_shrN (by omega) _ 3 (by decide)) ?_
  exact xr_iret C d_TK_readingKeySize_3 (by omega) (by omega) ⟨rfl, rfl⟩
theorem le_int {x y : Int32} {a b : Int} (hx : x.toInt = a) (hy : y.toInt = b) : x ≤ y ↔ a ≤ b := by rw [Int32.le_iff_toInt_le, hx, hy]
theorem lt_int {x y : Int32} {a b : Int} (hx : x.toInt = a) (hy : y.toInt = b) : x < y ↔ a < b := by rw [Int32.lt_iff_toInt_lt, hx, hy]
set_option maxRecDepth 100000 in
set_option maxHeartbeats 4000000 in
theorem c_TK_isKeySize {l : Launch} {D : va_G} {H0 : Heap} {X : xH} {z : Int32} {a : Int} (hz : z.toInt = a) : xMet l D H0 y_TK_isKeySize b_TK_isKeySize 1 (some .boolean) [] 0 0 0 [.int z] X (fun o X' => o = .inl (some (.int (if 1 ≤ a ∧ a ≤ 32 then 1 else 0))) ∧ X' = X) := by
  refine ⟨[some (.int z)], rfl, Nat.le_of_ble_eq_true rfl, fun E hD hH hl _ C => ?_⟩
  subst hD
  subst hH
  subst hl
  have no : ¬ (1 ≤ a ∧ a ≤ 32) → xG E X 0 0 15 [some (.int z)] [] := by
    intro h
    refine xr_iconst (v := 0) C d_TK_isKeySize_15 16 rfl (by decide) ?_
    exact xr_zret C d_TK_isKeySize_16 rfl (by omega) (by omega) ⟨by rw [if_neg h], rfl⟩
  refine xr_iload_n C d_TK_isKeySize_0 1 rfl rfl ?_
  refine xr_iconst (v := 1) C d_TK_isKeySize_1 2 rfl (by decide) ?_
  refine xr_icmp_lt C d_TK_isKeySize_2 5 15 rfl (by decide) (fun h => no (fun q => by have := (lt_int (b := 1) hz rfl).mp h; omega)) (fun h2 => ?_)
  refine xr_iload_n C d_TK_isKeySize_5 6 rfl rfl ?_
  refine xr_bipush (v := 32) C d_TK_isKeySize_6 8 rfl (by decide) ?_
  refine xr_icmp_gt C d_TK_isKeySize_8 11 15 rfl (by decide) (fun h => no (fun q => by have := (lt_int (a := 32) rfl hz).mp h; omega)) (fun h8 => ?_)
  refine xr_iconst (v := 1) C d_TK_isKeySize_11 12 rfl (by decide) ?_
  refine xr_goto C d_TK_isKeySize_12 16 (by decide) ?_
  exact xr_zret C d_TK_isKeySize_16 rfl (by omega) (by omega) ⟨by rw [if_pos ⟨by have := mt (lt_int (b := 1) hz rfl).mpr h2; omega, by have := mt (lt_int (a := 32) rfl hz).mpr h8; omega⟩], rfl⟩
set_option maxRecDepth 100000 in
set_option maxHeartbeats 4000000 in
theorem c_TK_isValueSize {l : Launch} {D : va_G} {H0 : Heap} {X : xH} {z : Int32} {a : Int} (hz : z.toInt = a) : xMet l D H0 y_TK_isValueSize b_TK_isValueSize 1 (some .boolean) [] 0 0 0 [.int z] X (fun o X' => o = .inl (some (.int (if 0 ≤ a ∧ a ≤ 100 then 1 else 0))) ∧ X' = X) := by
  refine ⟨[some (.int z)], rfl, Nat.le_of_ble_eq_true rfl, fun E hD hH hl _ C => ?_⟩
  subst hD
  subst hH
  subst hl
  have no : ¬ (0 ≤ a ∧ a ≤ 100) → xG E X 0 0 14 [some (.int z)] [] := by
    intro h
    refine xr_iconst (v := 0) C d_TK_isValueSize_14 15 rfl (by decide) ?_
    exact xr_zret C d_TK_isValueSize_15 rfl (by omega) (by omega) ⟨by rw [if_neg h], rfl⟩
  refine xr_iload_n C d_TK_isValueSize_0 1 rfl rfl ?_
  refine xr_if_lt C d_TK_isValueSize_1 4 14 rfl (by decide) (fun h => no (fun q => by have := (lt_int (b := 0) hz rfl).mp h; omega)) (fun h2 => ?_)
  refine xr_iload_n C d_TK_isValueSize_4 5 rfl rfl ?_
  refine xr_bipush (v := 100) C d_TK_isValueSize_5 7 rfl (by decide) ?_
  refine xr_icmp_gt C d_TK_isValueSize_7 10 14 rfl (by decide) (fun h => no (fun q => by have := (lt_int (a := 100) rfl hz).mp h; omega)) (fun h8 => ?_)
  refine xr_iconst (v := 1) C d_TK_isValueSize_10 11 rfl (by decide) ?_
  refine xr_goto C d_TK_isValueSize_11 15 (by decide) ?_
  exact xr_zret C d_TK_isValueSize_15 rfl (by omega) (by omega) ⟨by rw [if_pos ⟨by have := mt (lt_int (b := 0) hz rfl).mpr h2; omega, by have := mt (lt_int (a := 100) rfl hz).mpr h8; omega⟩], rfl⟩
abbrev okOp (s n : Nat) : Prop := s % 8 ≤ 2 ∧ (1 ≤ s / 8 % 64 ∧ s / 8 % 64 ≤ 32) ∧ (if s % 8 = 1 then s / 512 ≤ 100 else s / 512 = 0) ∧ (if s % 8 = 2 then n = s / 8 % 64 + s / 512 else s / 8 % 64 + s / 512 ≤ n ∧ n ≤ s / 8 % 64 + s / 512 + 100)
abbrev okRd (s n : Nat) : Prop := (3 ≤ s % 8 ∧ s % 8 ≤ 5) ∧ (1 ≤ s / 8 ∧ s / 8 ≤ 32) ∧ (if s % 8 = 4 then s / 8 + 1 ≤ n ∧ n ≤ s / 8 + 32 else n = s / 8)
theorem sub2_int {a b : Nat} (ha : a < 2 ^ 30) (hb : b < 2 ^ 30) : (nI a - nI b).toInt = (a : Int) - b := pk_sub_toInt ha hb
theorem sub3_int {a b c : Nat} (ha : a < 2 ^ 20) (hb : b < 2 ^ 20) (hc : c < 2 ^ 23) : (nI a - nI b - nI c).toInt = (a : Int) - b - c := by
  rw [Int32.toInt_sub, pk_sub_toInt (by omega) (by omega), nI_int (by omega), Int.bmod_def]
  split <;> omega
set_option maxRecDepth 100000 in
set_option maxHeartbeats 4000000 in
theorem c_TK_isOperation {l : Launch} {D : va_G} {H0 : Heap} {X : xH} {s n : Nat} (hs : s < 2 ^ 31) (hn : n ≤ 300) : xMet l D H0 y_TK_isOperation b_TK_isOperation 5 (some .boolean) [] 1 0 0 [.int (nI s), .int (nI n)] X (fun o X' => o = .inl (some (.int (if okOp s n then 1 else 0))) ∧ X' = X) := by
  refine ⟨[some (.int (nI s)), some (.int (nI n)), none, none, none], rfl, Nat.le_of_ble_eq_true rfl, fun E hD hH hl _ C => ?_⟩
  subst hD
  subst hH
  subst hl
  obtain ⟨k, hk⟩ : ∃ k, k = s / 8 % 64 := ⟨_, rfl⟩
  obtain ⟨x, hx⟩ : ∃ x, x = s / 512 := ⟨_, rfl⟩
  obtain ⟨p, hp⟩ : ∃ p, p = s % 8 := ⟨_, rfl⟩
  have hko : okOp s n ↔ p ≤ 2 ∧ (1 ≤ k ∧ k ≤ 32) ∧ (if p = 1 then x ≤ 100 else x = 0) ∧ (if p = 2 then n = k + x else k + x ≤ n ∧ n ≤ k + x + 100) := by rw [hk, hx, hp]
  have k64 : k < 64 := by omega
  have x23 : x < 2 ^ 23 := by omega
  have p8 : p < 8 := by omega
  have no14 : ∀ a b c, ¬ okOp s n → xG E X 0 0 14 [some (.int (nI s)), some (.int (nI n)), a, b, c] [] := by
    intro a b c h
    refine xr_iconst (v := 0) C d_TK_isOperation_14 15 rfl (by decide) ?_
    exact xr_zret C d_TK_isOperation_15 rfl (by omega) (by omega) ⟨by rw [if_neg h], rfl⟩
  have no85 : ∀ a b c, ¬ okOp s n → xG E X 0 0 85 [some (.int (nI s)), some (.int (nI n)), a, b, c] [] := by
    intro a b c h
    refine xr_iconst (v := 0) C d_TK_isOperation_85 86 rfl (by decide) ?_
    exact xr_zret C d_TK_isOperation_86 rfl (by omega) (by omega) ⟨by rw [if_neg h], rfl⟩
  have yes81 : ∀ a b c, okOp s n → xG E X 0 0 81 [some (.int (nI s)), some (.int (nI n)), a, b, c] [] := by
    intro a b c h
    refine xr_iconst (v := 1) C d_TK_isOperation_81 82 rfl (by decide) ?_
    refine xr_goto C d_TK_isOperation_82 86 (by decide) ?_
    exact xr_zret C d_TK_isOperation_86 rfl (by omega) (by omega) ⟨by rw [if_pos h], rfl⟩
  have t60 : p ≤ 2 → (1 ≤ k ∧ k ≤ 32) → (if p = 1 then x ≤ 100 else x = 0) → xG E X 0 0 60 [some (.int (nI s)), some (.int (nI n)), some (.int (nI p)), some (.int (nI x)), some (.int (nI n - nI k - nI x))] [] := by
    intro g1 g2 g3
    have hv := sub3_int (a := n) (b := k) (c := x) (by omega) (by omega) (by omega)
    refine xr_iload_n C d_TK_isOperation_60 61 rfl rfl ?_
    refine xr_iconst (v := 2) C d_TK_isOperation_61 62 rfl (by decide) ?_
    refine xr_toi (show _ = nI 2 from rfl) ?_
    refine xr_icmp_ne C d_TK_isOperation_62 65 73 rfl (by decide) (fun h => ?_) (fun h => ?_)
    · have hp2 : ¬ p = 2 := fun e => h (by rw [e])
      refine xr_iload C d_TK_isOperation_73 75 rfl rfl ?_
      refine xr_callS C (c_TK_isValueSize hv) k_TK_isValueSize d_TK_isOperation_75 78 rfl (Or.inl q_419) s_TK_isValueSize in_TK_isValueSize h_TK_isValueSize rfl ⟨Nat.le_of_ble_eq_true rfl, Nat.le_of_ble_eq_true rfl, Nat.le_of_ble_eq_true rfl⟩ (by omega) (by omega) (fun v9 X hP => ?_) (fun _ _ h => absurd h.1 (by simp))
      obtain ⟨h1, rfl⟩ := hP
      cases h1
      by_cases hc : (0 : Int) ≤ (n : Int) - k - x ∧ (n : Int) - k - x ≤ 100
      · refine xr_toi (if_pos hc) ?_
        refine xr_if_eq C d_TK_isOperation_78 81 85 rfl (by decide) (fun h => absurd h (by decide)) (fun _ => yes81 _ _ _ (hko.mpr ⟨g1, g2, g3, by rw [if_neg hp2]; omega⟩))
      · refine xr_toi (if_neg hc) ?_
        refine xr_if_eq C d_TK_isOperation_78 81 85 rfl (by decide) (fun _ => no85 _ _ _ (fun q => by have h9 := (hko.mp q).2.2.2; rw [if_neg hp2] at h9; omega)) (fun h => absurd rfl h)
    · have hp2 : p = 2 := (nI_eq (by omega) (by omega)).mp h
      refine xr_iload C d_TK_isOperation_65 67 rfl rfl ?_
      refine xr_if_ne C d_TK_isOperation_67 70 85 rfl (by decide) (fun h => no85 _ _ _ (fun q => by have h9 := (hko.mp q).2.2.2; rw [if_pos hp2] at h9; exact h (Int32.toInt_inj.mp (hv.trans (show _ = (0 : Int) by omega))))) (fun h => ?_)
      refine xr_goto C d_TK_isOperation_70 81 (by decide) ?_
      have h0 : (n : Int) - k - x = 0 := by rw [← hv, h]; rfl
      exact yes81 _ _ _ (hko.mpr ⟨g1, g2, g3, by rw [if_pos hp2]; omega⟩)
  refine xr_iload_n C d_TK_isOperation_0 1 rfl rfl ?_
  refine xr_callS C (c_TK_kindOf hs) k_TK_kindOf d_TK_isOperation_1 4 rfl (Or.inl q_407) s_TK_kindOf in_TK_kindOf h_TK_kindOf rfl ⟨Nat.le_of_ble_eq_true rfl, Nat.le_of_ble_eq_true rfl, Nat.le_of_ble_eq_true rfl⟩ (by omega) (by omega) (fun v9 X hP => ?_) (fun _ _ h => absurd h.1 (by simp))
  obtain ⟨h1, rfl⟩ := hP
  cases h1
  refine xr_toi (show _ = nI p by rw [hp]) ?_
  refine xr_istore_n C d_TK_isOperation_4 5 rfl rfl rfl ?_
  refine xr_iload_n C d_TK_isOperation_5 6 rfl rfl ?_
  refine xr_if_lt C d_TK_isOperation_6 9 14 rfl (by decide) (fun h => absurd h (nI_pos (by omega))) (fun _ => ?_)
  refine xr_iload_n C d_TK_isOperation_9 10 rfl rfl ?_
  refine xr_iconst (v := 2) C d_TK_isOperation_10 11 rfl (by decide) ?_
  refine xr_toi (show _ = nI 2 from rfl) ?_
  refine xr_icmp_le C d_TK_isOperation_11 14 16 rfl (by decide) (fun h11 => ?_) (fun h => no14 _ _ _ (fun q => h (nI_le (hko.mp q).1 (by omega))))
  have g1 : p ≤ 2 := (nI_leI (by omega) (by omega)).mp h11
  refine xr_iload_n C d_TK_isOperation_16 17 rfl rfl ?_
  refine xr_callS C (c_TK_expectedSize hs) k_TK_expectedSize d_TK_isOperation_17 20 rfl (Or.inl q_410) s_TK_expectedSize in_TK_expectedSize h_TK_expectedSize rfl ⟨Nat.le_of_ble_eq_true rfl, Nat.le_of_ble_eq_true rfl, Nat.le_of_ble_eq_true rfl⟩ (by omega) (by omega) (fun v9 X hP => ?_) (fun _ _ h => absurd h.1 (by simp))
  obtain ⟨h1, rfl⟩ := hP
  cases h1
  refine xr_toi (show _ = nI x by rw [hx]) ?_
  refine xr_istore_n C d_TK_isOperation_20 21 rfl rfl rfl ?_
  refine xr_iload_n C d_TK_isOperation_21 22 rfl rfl ?_
  refine xr_iload_n C d_TK_isOperation_22 23 rfl rfl ?_
  refine xr_callS C (c_TK_operationKeySize hs) k_TK_operationKeySize d_TK_isOperation_23 26 rfl (Or.inl q_413) s_TK_operationKeySize in_TK_operationKeySize h_TK_operationKeySize rfl ⟨Nat.le_of_ble_eq_true rfl, Nat.le_of_ble_eq_true rfl, Nat.le_of_ble_eq_true rfl⟩ (by omega) (by omega) (fun v9 X hP => ?_) (fun _ _ h => absurd h.1 (by simp))
  obtain ⟨h1, rfl⟩ := hP
  cases h1
  refine xr_toi (show _ = nI k by rw [hk]) ?_
  refine xr_isub C d_TK_isOperation_26 27 rfl ?_
  refine xr_iload_n C d_TK_isOperation_27 28 rfl rfl ?_
  refine xr_isub C d_TK_isOperation_28 29 rfl ?_
  refine xr_istore C d_TK_isOperation_29 31 rfl rfl rfl ?_
  refine xr_iload_n C d_TK_isOperation_31 32 rfl rfl ?_
  refine xr_callS C (c_TK_operationKeySize hs) k_TK_operationKeySize d_TK_isOperation_32 35 rfl (Or.inl q_413) s_TK_operationKeySize in_TK_operationKeySize h_TK_operationKeySize rfl ⟨Nat.le_of_ble_eq_true rfl, Nat.le_of_ble_eq_true rfl, Nat.le_of_ble_eq_true rfl⟩ (by omega) (by omega) (fun v9 X hP => ?_) (fun _ _ h => absurd h.1 (by simp))
  obtain ⟨h1, rfl⟩ := hP
  cases h1
  refine xr_toi (show _ = nI k by rw [hk]) ?_
  refine xr_callS C (c_TK_isKeySize (nI_int (show k < 2 ^ 31 by omega))) k_TK_isKeySize d_TK_isOperation_35 38 rfl (Or.inl q_416) s_TK_isKeySize in_TK_isKeySize h_TK_isKeySize rfl ⟨Nat.le_of_ble_eq_true rfl, Nat.le_of_ble_eq_true rfl, Nat.le_of_ble_eq_true rfl⟩ (by omega) (by omega) (fun v9 X hP => ?_) (fun _ _ h => absurd h.1 (by simp))
  obtain ⟨h1, rfl⟩ := hP
  cases h1
  by_cases g2 : (1 : Int) ≤ (k : Int) ∧ (k : Int) ≤ 32
  · refine xr_toi (if_pos g2) ?_
    refine xr_if_eq C d_TK_isOperation_38 41 85 rfl (by decide) (fun h => absurd h (by decide)) (fun _ => ?_)
    refine xr_iload_n C d_TK_isOperation_41 42 rfl rfl ?_
    refine xr_iconst (v := 1) C d_TK_isOperation_42 43 rfl (by decide) ?_
    refine xr_toi (show _ = nI 1 from rfl) ?_
    refine xr_icmp_ne C d_TK_isOperation_43 46 56 rfl (by decide) (fun h => ?_) (fun h => ?_)
    · have hp1 : ¬ p = 1 := fun e => h (by rw [e])
      refine xr_iload_n C d_TK_isOperation_56 57 rfl rfl ?_
      refine xr_if_ne C d_TK_isOperation_57 60 85 rfl (by decide) (fun h => no85 _ _ _ (fun q => by have h9 := (hko.mp q).2.2.1; rw [if_neg hp1] at h9; exact h (by rw [h9]; rfl))) (fun h => ?_)
      have hx0 : x = 0 := (nI_eq (by omega) (by omega)).mp h
      exact t60 g1 ⟨by omega, by omega⟩ (by rw [if_neg hp1]; exact hx0)
    · have hp1 : p = 1 := (nI_eq (by omega) (by omega)).mp h
      refine xr_iload_n C d_TK_isOperation_46 47 rfl rfl ?_
      refine xr_callS C (c_TK_isValueSize (nI_int (show x < 2 ^ 31 by omega))) k_TK_isValueSize d_TK_isOperation_47 50 rfl (Or.inl q_419) s_TK_isValueSize in_TK_isValueSize h_TK_isValueSize rfl ⟨Nat.le_of_ble_eq_true rfl, Nat.le_of_ble_eq_true rfl, Nat.le_of_ble_eq_true rfl⟩ (by omega) (by omega) (fun v9 X hP => ?_) (fun _ _ h => absurd h.1 (by simp))
      obtain ⟨h1, rfl⟩ := hP
      cases h1
      by_cases hc : (0 : Int) ≤ (x : Int) ∧ (x : Int) ≤ 100
      · refine xr_toi (if_pos hc) ?_
        refine xr_if_eq C d_TK_isOperation_50 53 85 rfl (by decide) (fun h => absurd h (by decide)) (fun _ => ?_)
        refine xr_goto C d_TK_isOperation_53 60 (by decide) ?_
        exact t60 g1 ⟨by omega, by omega⟩ (by rw [if_pos hp1]; omega)
      · refine xr_toi (if_neg hc) ?_
        refine xr_if_eq C d_TK_isOperation_50 53 85 rfl (by decide) (fun _ => no85 _ _ _ (fun q => by have h9 := (hko.mp q).2.2.1; rw [if_pos hp1] at h9; omega)) (fun h => absurd rfl h)
  · refine xr_toi (if_neg g2) ?_
    refine xr_if_eq C d_TK_isOperation_38 41 85 rfl (by decide) (fun _ => no85 _ _ _ (fun q => by have h9 := (hko.mp q).2.1; omega)) (fun h => absurd rfl h)
set_option maxRecDepth 100000 in
set_option maxHeartbeats 4000000 in
theorem c_TK_isReading {l : Launch} {D : va_G} {H0 : Heap} {X : xH} {s n : Nat} (hs : s < 2 ^ 31) (hn : n ≤ 300) : xMet l D H0 y_TK_isReading b_TK_isReading 4 (some .boolean) [] 1 0 0 [.int (nI s), .int (nI n)] X (fun o X' => o = .inl (some (.int (if okRd s n then 1 else 0))) ∧ X' = X) := by
  refine ⟨[some (.int (nI s)), some (.int (nI n)), none, none], rfl, Nat.le_of_ble_eq_true rfl, fun E hD hH hl _ C => ?_⟩
  subst hD
  subst hH
  subst hl
  obtain ⟨k, hk⟩ : ∃ k, k = s / 8 := ⟨_, rfl⟩
  obtain ⟨p, hp⟩ : ∃ p, p = s % 8 := ⟨_, rfl⟩
  have hko : okRd s n ↔ (3 ≤ p ∧ p ≤ 5) ∧ (1 ≤ k ∧ k ≤ 32) ∧ (if p = 4 then k + 1 ≤ n ∧ n ≤ k + 32 else n = k) := by rw [hk, hp]
  have k28 : k < 2 ^ 28 := by omega
  have p8 : p < 8 := by omega
  have hv := sub2_int (a := n) (b := k) (by omega) (by omega)
  have no19 : ∀ a b, ¬ okRd s n → xG E X 0 0 19 [some (.int (nI s)), some (.int (nI n)), a, b] [] := by
    intro a b h
    refine xr_iconst (v := 0) C d_TK_isReading_19 20 rfl (by decide) ?_
    exact xr_zret C d_TK_isReading_20 rfl (by omega) (by omega) ⟨by rw [if_neg h], rfl⟩
  have no61 : ∀ a b, ¬ okRd s n → xG E X 0 0 61 [some (.int (nI s)), some (.int (nI n)), a, b] [] := by
    intro a b h
    refine xr_iconst (v := 0) C d_TK_isReading_61 62 rfl (by decide) ?_
    exact xr_zret C d_TK_isReading_62 rfl (by omega) (by omega) ⟨by rw [if_neg h], rfl⟩
  have yes57 : ∀ a b, okRd s n → xG E X 0 0 57 [some (.int (nI s)), some (.int (nI n)), a, b] [] := by
    intro a b h
    refine xr_iconst (v := 1) C d_TK_isReading_57 58 rfl (by decide) ?_
    refine xr_goto C d_TK_isReading_58 62 (by decide) ?_
    exact xr_zret C d_TK_isReading_62 rfl (by omega) (by omega) ⟨by rw [if_pos h], rfl⟩
  refine xr_iload_n C d_TK_isReading_0 1 rfl rfl ?_
  refine xr_callS C (c_TK_kindOf hs) k_TK_kindOf d_TK_isReading_1 4 rfl (Or.inl q_407) s_TK_kindOf in_TK_kindOf h_TK_kindOf rfl ⟨Nat.le_of_ble_eq_true rfl, Nat.le_of_ble_eq_true rfl, Nat.le_of_ble_eq_true rfl⟩ (by omega) (by omega) (fun v9 X hP => ?_) (fun _ _ h => absurd h.1 (by simp))
  obtain ⟨h1, rfl⟩ := hP
  cases h1
  refine xr_toi (show _ = nI p by rw [hp]) ?_
  refine xr_istore_n C d_TK_isReading_4 5 rfl rfl rfl ?_
  refine xr_iload_n C d_TK_isReading_5 6 rfl rfl ?_
  refine xr_if_lt C d_TK_isReading_6 9 19 rfl (by decide) (fun h => absurd h (nI_pos (by omega))) (fun _ => ?_)
  refine xr_iload_n C d_TK_isReading_9 10 rfl rfl ?_
  refine xr_iconst (v := 3) C d_TK_isReading_10 11 rfl (by decide) ?_
  refine xr_toi (show _ = nI 3 from rfl) ?_
  refine xr_icmp_lt C d_TK_isReading_11 14 19 rfl (by decide) (fun h => no19 _ _ (fun q => nI_nlt (hko.mp q).1.1 (by omega) h)) (fun h11 => ?_)
  refine xr_iload_n C d_TK_isReading_14 15 rfl rfl ?_
  refine xr_iconst (v := 5) C d_TK_isReading_15 16 rfl (by decide) ?_
  refine xr_toi (show _ = nI 5 from rfl) ?_
  refine xr_icmp_le C d_TK_isReading_16 19 21 rfl (by decide) (fun h16 => ?_) (fun h => no19 _ _ (fun q => h (nI_le (hko.mp q).1.2 (by omega))))
  have g1 : 3 ≤ p ∧ p ≤ 5 := ⟨by
    rcases Nat.lt_or_ge p 3 with h | h
    · exact absurd (nI_lt h (by omega)) h11
    · exact h, (nI_leI (by omega) (by omega)).mp h16⟩
  refine xr_iload_n C d_TK_isReading_21 22 rfl rfl ?_
  refine xr_iload_n C d_TK_isReading_22 23 rfl rfl ?_
  refine xr_callS C (c_TK_readingKeySize hs) k_TK_readingKeySize d_TK_isReading_23 26 rfl (Or.inl q_791) s_TK_readingKeySize in_TK_readingKeySize h_TK_readingKeySize rfl ⟨Nat.le_of_ble_eq_true rfl, Nat.le_of_ble_eq_true rfl, Nat.le_of_ble_eq_true rfl⟩ (by omega) (by omega) (fun v9 X hP => ?_) (fun _ _ h => absurd h.1 (by simp))
  obtain ⟨h1, rfl⟩ := hP
  cases h1
  refine xr_toi (show _ = nI k by rw [hk]) ?_
  refine xr_isub C d_TK_isReading_26 27 rfl ?_
  refine xr_istore_n C d_TK_isReading_27 28 rfl rfl rfl ?_
  refine xr_iload_n C d_TK_isReading_28 29 rfl rfl ?_
  refine xr_callS C (c_TK_readingKeySize hs) k_TK_readingKeySize d_TK_isReading_29 32 rfl (Or.inl q_791) s_TK_readingKeySize in_TK_readingKeySize h_TK_readingKeySize rfl ⟨Nat.le_of_ble_eq_true rfl, Nat.le_of_ble_eq_true rfl, Nat.le_of_ble_eq_true rfl⟩ (by omega) (by omega) (fun v9 X hP => ?_) (fun _ _ h => absurd h.1 (by simp))
  obtain ⟨h1, rfl⟩ := hP
  cases h1
  refine xr_toi (show _ = nI k by rw [hk]) ?_
  refine xr_callS C (c_TK_isKeySize (nI_int (show k < 2 ^ 31 by omega))) k_TK_isKeySize d_TK_isReading_32 35 rfl (Or.inl q_416) s_TK_isKeySize in_TK_isKeySize h_TK_isKeySize rfl ⟨Nat.le_of_ble_eq_true rfl, Nat.le_of_ble_eq_true rfl, Nat.le_of_ble_eq_true rfl⟩ (by omega) (by omega) (fun v9 X hP => ?_) (fun _ _ h => absurd h.1 (by simp))
  obtain ⟨h1, rfl⟩ := hP
  cases h1
  by_cases g2 : (1 : Int) ≤ (k : Int) ∧ (k : Int) ≤ 32
  · refine xr_toi (if_pos g2) ?_
    refine xr_if_eq C d_TK_isReading_35 38 61 rfl (by decide) (fun h => absurd h (by decide)) (fun _ => ?_)
    refine xr_iload_n C d_TK_isReading_38 39 rfl rfl ?_
    refine xr_iconst (v := 4) C d_TK_isReading_39 40 rfl (by decide) ?_
    refine xr_toi (show _ = nI 4 from rfl) ?_
    refine xr_icmp_ne C d_TK_isReading_40 43 53 rfl (by decide) (fun h => ?_) (fun h => ?_)
    · have hp1 : ¬ p = 4 := fun e => h (by rw [e])
      refine xr_iload_n C d_TK_isReading_53 54 rfl rfl ?_
      refine xr_if_ne C d_TK_isReading_54 57 61 rfl (by decide) (fun h => no61 _ _ (fun q => by have h9 := (hko.mp q).2.2; rw [if_neg hp1] at h9; exact h (Int32.toInt_inj.mp (hv.trans (show _ = (0 : Int) by omega))))) (fun h => ?_)
      have h0 : (n : Int) - k = 0 := by rw [← hv, h]; rfl
      exact yes57 _ _ (hko.mpr ⟨g1, ⟨by omega, by omega⟩, by rw [if_neg hp1]; omega⟩)
    · have hp1 : p = 4 := (nI_eq (by omega) (by omega)).mp h
      refine xr_iload_n C d_TK_isReading_43 44 rfl rfl ?_
      refine xr_callS C (c_TK_isKeySize hv) k_TK_isKeySize d_TK_isReading_44 47 rfl (Or.inl q_416) s_TK_isKeySize in_TK_isKeySize h_TK_isKeySize rfl ⟨Nat.le_of_ble_eq_true rfl, Nat.le_of_ble_eq_true rfl, Nat.le_of_ble_eq_true rfl⟩ (by omega) (by omega) (fun v9 X hP => ?_) (fun _ _ h => absurd h.1 (by simp))
      obtain ⟨h1, rfl⟩ := hP
      cases h1
      by_cases hc : (1 : Int) ≤ (n : Int) - k ∧ (n : Int) - k ≤ 32
      · refine xr_toi (if_pos hc) ?_
        refine xr_if_eq C d_TK_isReading_47 50 61 rfl (by decide) (fun h => absurd h (by decide)) (fun _ => ?_)
        refine xr_goto C d_TK_isReading_50 57 (by decide) ?_
        exact yes57 _ _ (hko.mpr ⟨g1, ⟨by omega, by omega⟩, by rw [if_pos hp1]; omega⟩)
      · refine xr_toi (if_neg hc) ?_
        refine xr_if_eq C d_TK_isReading_47 50 61 rfl (by decide) (fun _ => no61 _ _ (fun q => by have h9 := (hko.mp q).2.2; rw [if_pos hp1] at h9; omega)) (fun h => absurd rfl h)
  · refine xr_toi (if_neg g2) ?_
    refine xr_if_eq C d_TK_isReading_35 38 61 rfl (by decide) (fun _ => no61 _ _ (fun q => by have h9 := (hko.mp q).2.1; omega)) (fun h => absurd rfl h)
end
section
/-! Doing an operation, a reading. -/
def xTape (D : va_G) (X : xH) (tp : Nat) (ts : List Int32) : Prop := ∃ f : Nat → Int32, X tp = some (.inl (D.1 100, 300, .inl f)) ∧ xby 300 f ∧ ts.length ≤ 300 ∧ ∀ i, i < ts.length → f i = ts.getD i 0
def sl (ts : List Int32) (i j : Nat) : List Int32 := (ts.drop i).take (j - i)
theorem sl_len {ts : List Int32} {i j : Nat} (hj : j ≤ ts.length) : (sl ts i j).length = j - i := by
  unfold sl
  rw [List.length_take, List.length_drop]
  omega
theorem sl_at {ts : List Int32} {i j k : Nat} (hk : k < j - i) : (sl ts i j).getD k 0 = ts.getD (i + k) 0 := by
  unfold sl
  rw [List.getD_eq_getElem?_getD, List.getElem?_take_of_lt hk, List.getElem?_drop, List.getD_eq_getElem?_getD]
theorem xTape.keep {D : va_G} {X X' : xH} {S : List Nat} {tp : Nat} {ts : List Int32} (h : xTape D X tp ts) (hf : xFr S X X') (hn : tp ∉ S) : xTape D X' tp ts := by
  obtain ⟨f, h1, h2⟩ := h
  exact ⟨f, hf.use h1 hn, h2⟩
theorem xTape.len {D : va_G} {X : xH} {tp : Nat} {ts : List Int32} (h : xTape D X tp ts) : ts.length ≤ 300 := by
  obtain ⟨f, -, -, h1, -⟩ := h
  exact h1
theorem xQ.pre {D : va_G} {X X1 X' : xH} {I I1 : Nat → Option Imm} {r br rc mp la b cap : Nat} {es' : List Es} {ans : List Int32} (h : xQ D X1 X' I1 r br rc mp la b cap es' ans) (hf : xFr [] X X1) (hi : imX X I I1) : xQ D X X' I r br rc mp la b cap es' ans := by
  obtain ⟨I', b', cap', as', br', h1, h2, h3, h4, h5, h6, h7, h8, h9⟩ := h
  exact ⟨I', b', cap', as', br', imX.trans (S := []) hi hf.dom h1, h2, h3, h4, h5, (hf.mono (fun q hq => absurd hq List.not_mem_nil)).trans h6, h7.imp id (fun e => hf.2 _ e), h8.imp id (fun e => hf.2 _ e), h9⟩
theorem xRow.keep0 {D : va_G} {X X' : xH} {r b cap : Nat} {bs : List Int32} (h : xRow D X r b cap bs) (hf : xFr [] X X') : xRow D X' r b cap bs := h.keep hf List.not_mem_nil List.not_mem_nil
def opF (s : Nat) (es : List Es) (ts : List Int32) : List Es × List Int32 :=
  if s % 8 = 0 then putK es (sl ts 0 (s / 8 % 64)) (sl ts (s / 8 % 64 + s / 512) ts.length)
  else if s % 8 = 1 then swapK es (sl ts 0 (s / 8 % 64)) (sl ts (s / 8 % 64) (s / 8 % 64 + s / 512)) (sl ts (s / 8 % 64 + s / 512) ts.length)
  else remK es (sl ts 0 (s / 8 % 64))
def lookF (s : Nat) (es : List Es) (ts : List Int32) : List Int32 :=
  if s % 8 = 3 then tvK es (sl ts 0 (s / 8))
  else if s % 8 = 4 then num (nI (fnb es (sl ts (s / 8) ts.length) - fnb es (sl ts 0 (s / 8)))) 2
  else nxK es (sl ts 0 (s / 8))
set_option maxRecDepth 100000 in
set_option maxHeartbeats 4000000 in
theorem n_slice {l : Launch} {D : va_G} {H0 : Heap} {X : xH} {tp i j : Nat} {ts : List Int32} {I : Nat → Option Imm} (hI : xIm D X I) (hT : xTape D X tp ts) (hij : i ≤ j) (hj : j ≤ ts.length) (hne : i = 0 → j < 300) : xMet l D H0 y_AR_copyOfRange b_AR_copyOfRange 3 (some (.array .byte)) [] 2 1 (j - i) [.ref tp, .int (nI i), .int (nI j)] X (fun o X' => ∃ q : Nat, o = .inl (some (.ref q)) ∧ X q = none ∧ xFr [] X X' ∧ xIm D X' (imUp I q (.inl (sl ts i j)))) := by
  obtain ⟨f, h1, h2, h3, h4⟩ := hT
  have hm := c_AR_copyOfRange (l := l) (H0 := H0) h1 (by omega) hij (show j ≤ 300 by omega) (fun e => by have := hne e; omega) h2
  refine hm.mono (fun r X' hP => ?_)
  obtain ⟨q, g, e1, e2, rfl, e4⟩ := hP
  refine ⟨q, e1, e2, xFr_new e2, hI.new e2 ⟨by rw [sl_len hj]; omega, g, ?_, fun k hk => ?_⟩⟩
  · rw [sl_len hj]
    exact xup_self
  · rw [sl_len hj] at hk
    rw [sl_at hk]
    have e5 : f (i + k) = ts.getD (i + k) 0 := h4 (i + k) (by omega)
    exact ⟨(e4 k hk).trans e5, by rw [← e5]; exact h2 (i + k) (by omega)⟩
set_option maxRecDepth 100000 in
set_option maxHeartbeats 4000000 in
theorem c_TK_operate {l : Launch} {D : va_G} {H0 : Heap} {X : xH} {mp la b cap : Nat} {as : List Nat} {es : List Es} {I : Nat → Option Imm} (hI : xIm D X I) (hM : xMap D X I mp la b cap as es) {tk tp r br rc s : Nat} {v0 v1 v5 : Value} {n0 : Int32} {ts : List Int32} (hs : s < 2 ^ 31) (htk : X tk = some (.inr (0, [v0, v1, .ref tp, .ref r, .int n0, v5]))) (hT : xTape D X tp ts) (hR : xRow D X r br rc []) (hb : I br = none) (hEm : I (D.2 200 0) = some (.inl [])) (hop : okOp s ts.length) : xMet l D H0 y_TK_operate b_TK_operate 8 none [] 7 5 1200 [.ref tk, .ref mp, .int (nI s), .int (nI ts.length)] X (fun o X' => o = .inl none ∧ xQ D X X' I r br rc mp la b cap (opF s es ts).1 (opF s es ts).2) := by
  obtain ⟨k, hk⟩ : ∃ k, k = s / 8 % 64 := ⟨_, rfl⟩
  obtain ⟨x, hx⟩ : ∃ x, x = s / 512 := ⟨_, rfl⟩
  obtain ⟨p, hp⟩ : ∃ p, p = s % 8 := ⟨_, rfl⟩
  obtain ⟨n, hn⟩ : ∃ n, n = ts.length := ⟨_, rfl⟩
  rw [← hn] at hop
  have hko : p ≤ 2 ∧ (1 ≤ k ∧ k ≤ 32) ∧ (if p = 1 then x ≤ 100 else x = 0) ∧ (if p = 2 then n = k + x else k + x ≤ n ∧ n ≤ k + x + 100) := by rw [hk, hx, hp]; exact hop
  obtain ⟨g1, ⟨g2, g3⟩, g4, g5⟩ := hko
  have hx100 : x ≤ 100 := by
    split at g4 <;> omega
  have hn1 : k + x ≤ n ∧ n ≤ k + x + 100 := by
    split at g5 <;> omega
  have hn3 := hT.len
  rw [← hn] at hn3
  have p8 : p < 8 := by omega
  obtain ⟨frb, hbr0⟩ := hR.arr
  refine ⟨[some (.ref tk), some (.ref mp), some (.int (nI s)), some (.int (nI ts.length)), none, none, none, none], rfl, Nat.le_of_ble_eq_true rfl, fun E hD hH hl _ C => ?_⟩
  subst hD
  subst hH
  subst hl
  refine xr_iload_n C d_TK_operate_0 1 rfl rfl ?_
  refine xr_callS C (c_TK_operationKeySize hs) k_TK_operationKeySize d_TK_operate_1 4 rfl (Or.inl q_413) s_TK_operationKeySize in_TK_operationKeySize h_TK_operationKeySize rfl ⟨Nat.le_of_ble_eq_true rfl, Nat.le_of_ble_eq_true rfl, Nat.le_of_ble_eq_true rfl⟩ (by omega) (by omega) (fun v9 X hP => ?_) (fun _ _ h => absurd h.1 (by simp))
  obtain ⟨h1, rfl⟩ := hP
  cases h1
  refine xr_toi (show _ = nI k by rw [hk]) ?_
  refine xr_istore C d_TK_operate_4 6 rfl rfl rfl ?_
  refine xr_iload C d_TK_operate_6 8 rfl rfl ?_
  refine xr_iload_n C d_TK_operate_8 9 rfl rfl ?_
  refine xr_callS C (c_TK_expectedSize hs) k_TK_expectedSize d_TK_operate_9 12 rfl (Or.inl q_410) s_TK_expectedSize in_TK_expectedSize h_TK_expectedSize rfl ⟨Nat.le_of_ble_eq_true rfl, Nat.le_of_ble_eq_true rfl, Nat.le_of_ble_eq_true rfl⟩ (by omega) (by omega) (fun v9 X hP => ?_) (fun _ _ h => absurd h.1 (by simp))
  obtain ⟨h1, rfl⟩ := hP
  cases h1
  refine xr_toi (show _ = nI x by rw [hx]) ?_
  refine xr_iadd C d_TK_operate_12 13 rfl ?_
  refine xr_toi (show _ = nI (k + x) from nI_add _ _) ?_
  refine xr_istore C d_TK_operate_13 15 rfl rfl rfl ?_
  refine xr_aload_n C d_TK_operate_15 16 rfl rfl ?_
  refine xr_get C K_TK 2 d_TK_operate_16 19 rfl q_119 (Or.inl rfl) rfl (by first | assumption | exact xup_self | exact (xup_ne (by assumption)).trans (by assumption) | exact (xup_ne (Ne.symm (by assumption))).trans (by assumption) | exact (xup_ne (by assumption)).trans xup_self | exact (xup_ne (Ne.symm (by assumption))).trans xup_self) rfl ?_
  refine xr_iconst (v := 0) C d_TK_operate_19 20 rfl (by decide) ?_
  refine xr_iload C d_TK_operate_20 22 rfl rfl ?_
  refine xr_callS C (n_slice (i := 0) (j := k) hI hT (by omega) (by omega) (fun _ => by omega)) k_AR_copyOfRange d_TK_operate_22 25 rfl (Or.inl q_465) s_AR_copyOfRange in_AR_copyOfRange h_AR_copyOfRange rfl ⟨Nat.le_of_ble_eq_true rfl, Nat.le_of_ble_eq_true rfl, Nat.le_of_ble_eq_true rfl⟩ (by omega) (by omega) (fun v9 X1 hP => ?_) (fun _ _ h => by obtain ⟨q, h, -⟩ := h; cases h)
  obtain ⟨q1, e1, u1, f1, i1⟩ := hP
  cases e1
  have t1 := f1.use htk List.not_mem_nil
  have T1 := hT.keep f1 List.not_mem_nil
  have x1 := imX_up (v := .inl (sl ts 0 k)) hI u1
  refine xr_astore C d_TK_operate_25 27 rfl rfl rfl ?_
  refine xr_aload_n C d_TK_operate_27 28 rfl rfl ?_
  refine xr_get C K_TK 2 d_TK_operate_28 31 rfl q_119 (Or.inl rfl) rfl (by first | assumption | exact xup_self | exact (xup_ne (by assumption)).trans (by assumption) | exact (xup_ne (Ne.symm (by assumption))).trans (by assumption) | exact (xup_ne (by assumption)).trans xup_self | exact (xup_ne (Ne.symm (by assumption))).trans xup_self) rfl ?_
  refine xr_iload C d_TK_operate_31 33 rfl rfl ?_
  refine xr_iload_n C d_TK_operate_33 34 rfl rfl ?_
  refine xr_callS C (n_slice (i := k + x) (j := ts.length) i1 T1 (by omega) (by omega) (fun h => by omega)) k_AR_copyOfRange d_TK_operate_34 37 rfl (Or.inl q_465) s_AR_copyOfRange in_AR_copyOfRange h_AR_copyOfRange rfl ⟨Nat.le_of_ble_eq_true rfl, Nat.le_of_ble_eq_true rfl, Nat.le_of_ble_eq_true rfl⟩ (by omega) (by omega) (fun v9 X2 hP => ?_) (fun _ _ h => by obtain ⟨q, h, -⟩ := h; cases h)
  obtain ⟨q2, e1, u2, f2, i2⟩ := hP
  cases e1
  have t2 := f2.use t1 List.not_mem_nil
  have T2 := T1.keep f2 List.not_mem_nil
  have x2 := imX_up (v := .inl (sl ts (k + x) ts.length)) i1 u2
  obtain ⟨I2, hI2⟩ : ∃ z, z = imUp (imUp I q1 (.inl (sl ts 0 k))) q2 (.inl (sl ts (k + x) ts.length)) := ⟨_, rfl⟩
  rw [← hI2] at i2 x2
  have f12 : xFr [] X X2 := f1.trans f2
  have x12 : imX X I I2 := imX.trans (S := []) x1 f1.dom x2
  have M2 : xMap E.D X2 I2 mp la b cap as es := (hM.keep f12 List.not_mem_nil List.not_mem_nil List.not_mem_nil).le x12.1
  have R2 := hR.keep0 f12
  have hb2 : I2 br = none := x12.2 _ _ hbr0 hb
  have hk2 : I2 q1 = some (.inl (sl ts 0 k)) := x2.1 _ _ imUp_self
  have hv2 : I2 q2 = some (.inl (sl ts (k + x) ts.length)) := by rw [hI2]; exact imUp_self
  have hl1 : (sl ts 0 k).length = k := by rw [sl_len (by omega)]; omega
  have hl2 : (sl ts (k + x) ts.length).length ≤ 100 := by rw [sl_len (by omega)]; omega
  have m2 := M2.1
  refine xr_astore C d_TK_operate_37 39 rfl rfl rfl ?_
  refine xr_iload_n C d_TK_operate_39 40 rfl rfl ?_
  refine xr_callS C (c_TK_kindOf hs) k_TK_kindOf d_TK_operate_40 43 rfl (Or.inl q_407) s_TK_kindOf in_TK_kindOf h_TK_kindOf rfl ⟨Nat.le_of_ble_eq_true rfl, Nat.le_of_ble_eq_true rfl, Nat.le_of_ble_eq_true rfl⟩ (by omega) (by omega) (fun v9 X2 hP => ?_) (fun _ _ h => absurd h.1 (by simp))
  obtain ⟨h1, rfl⟩ := hP
  cases h1
  refine xr_toi (show _ = nI p by rw [hp]) ?_
  have hp012 : p = 0 ∨ p = 1 ∨ p = 2 := by omega
  rcases hp012 with e | e | e
  · have hof : opF s es ts = putK es (sl ts 0 k) (sl ts (k + x) ts.length) := by unfold opF; rw [if_pos (by omega), hk, hx]
    rw [hof] at C
    rw [e]
    refine xr_lookup C d_TK_operate_43 68 (by decide) (show _ = (25 : Int) from rfl) (by decide) ?_
    refine xr_aload_n C d_TK_operate_68 69 rfl rfl ?_
    refine xr_aload C d_TK_operate_69 71 rfl rfl ?_
    refine xr_aload C d_TK_operate_71 73 rfl rfl ?_
    refine xr_aload_n C d_TK_operate_73 74 rfl rfl ?_
    refine xr_get C K_TK 3 d_TK_operate_74 77 rfl q_120 (Or.inl rfl) rfl (by first | assumption | exact xup_self | exact (xup_ne (by assumption)).trans (by assumption) | exact (xup_ne (Ne.symm (by assumption))).trans (by assumption) | exact (xup_ne (by assumption)).trans xup_self | exact (xup_ne (Ne.symm (by assumption))).trans xup_self) rfl ?_
    refine xr_callV C (c_KM_put i2 M2 R2 hb2 hk2 hv2 ⟨by rw [hl1]; exact g2, by rw [hl1]; exact g3, hl2⟩ (x12.1 _ _ hEm)) k_KM_put d_TK_operate_77 80 rfl (by first | assumption | exact xup_self | exact (xup_ne (by assumption)).trans (by assumption) | exact (xup_ne (Ne.symm (by assumption))).trans (by assumption) | exact (xup_ne (by assumption)).trans xup_self | exact (xup_ne (Ne.symm (by assumption))).trans xup_self) rfl (Or.inl q_681) v_KM_put e_KM_put h_KM_put rfl ⟨Nat.le_of_ble_eq_true rfl, Nat.le_of_ble_eq_true rfl, Nat.le_of_ble_eq_true rfl⟩ (by omega) (by omega) (fun v9 X' hP => ?_) (fun _ _ h => absurd h.1 (by simp))
    obtain ⟨e1, hQ⟩ := hP
    cases e1
    refine xr_goto C d_TK_operate_80 119 (by decide) ?_
    exact xr_vret C d_TK_operate_119 (by omega) (by omega) ⟨rfl, hQ.pre f12 x12⟩
  · have hof : opF s es ts = swapK es (sl ts 0 k) (sl ts k (k + x)) (sl ts (k + x) ts.length) := by unfold opF; rw [if_neg (by omega), if_pos (by omega), hk, hx]
    rw [hof] at C
    rw [e]
    refine xr_lookup C d_TK_operate_43 83 (by decide) (show _ = (40 : Int) from rfl) (by decide) ?_
    refine xr_aload_n C d_TK_operate_83 84 rfl rfl ?_
    refine xr_aload C d_TK_operate_84 86 rfl rfl ?_
    refine xr_aload_n C d_TK_operate_86 87 rfl rfl ?_
    refine xr_get C K_TK 2 d_TK_operate_87 90 rfl q_119 (Or.inl rfl) rfl (by first | assumption | exact xup_self | exact (xup_ne (by assumption)).trans (by assumption) | exact (xup_ne (Ne.symm (by assumption))).trans (by assumption) | exact (xup_ne (by assumption)).trans xup_self | exact (xup_ne (Ne.symm (by assumption))).trans xup_self) rfl ?_
    refine xr_iload C d_TK_operate_90 92 rfl rfl ?_
    refine xr_iload C d_TK_operate_92 94 rfl rfl ?_
    refine xr_callS C (n_slice (i := k) (j := k + x) i2 T2 (by omega) (by omega) (fun h => by omega)) k_AR_copyOfRange d_TK_operate_94 97 rfl (Or.inl q_465) s_AR_copyOfRange in_AR_copyOfRange h_AR_copyOfRange rfl ⟨Nat.le_of_ble_eq_true rfl, Nat.le_of_ble_eq_true rfl, Nat.le_of_ble_eq_true rfl⟩ (by omega) (by omega) (fun v9 X3 hP => ?_) (fun _ _ h => by obtain ⟨q, h, -⟩ := h; cases h)
    obtain ⟨q3, e1, u3, f3, i3⟩ := hP
    cases e1
    have t3 := f3.use t2 List.not_mem_nil
    have x3 := imX_up (v := .inl (sl ts k (k + x))) i2 u3
    have f13 : xFr [] X X3 := f12.trans f3
    have x13 : imX X I _ := imX.trans (S := []) x12 f12.dom x3
    have M3 := (M2.keep f3 List.not_mem_nil List.not_mem_nil List.not_mem_nil).le x3.1
    have R3 := R2.keep0 f3
    obtain ⟨frb2, hbr2⟩ := R2.arr
    have hb3 := x3.2 _ _ hbr2 hb2
    have m3 := M3.1
    refine xr_aload C d_TK_operate_97 99 rfl rfl ?_
    refine xr_aload_n C d_TK_operate_99 100 rfl rfl ?_
    refine xr_get C K_TK 3 d_TK_operate_100 103 rfl q_120 (Or.inl rfl) rfl (by first | assumption | exact xup_self | exact (xup_ne (by assumption)).trans (by assumption) | exact (xup_ne (Ne.symm (by assumption))).trans (by assumption) | exact (xup_ne (by assumption)).trans xup_self | exact (xup_ne (Ne.symm (by assumption))).trans xup_self) rfl ?_
    refine xr_callV C (c_KM_swap i3 M3 R3 hb3 (x3.1 _ _ hk2) imUp_self (x3.1 _ _ hv2) hl2) k_KM_swap d_TK_operate_103 106 rfl (by first | assumption | exact xup_self | exact (xup_ne (by assumption)).trans (by assumption) | exact (xup_ne (Ne.symm (by assumption))).trans (by assumption) | exact (xup_ne (by assumption)).trans xup_self | exact (xup_ne (Ne.symm (by assumption))).trans xup_self) rfl (Or.inl q_756) v_KM_swap e_KM_swap h_KM_swap rfl ⟨Nat.le_of_ble_eq_true rfl, Nat.le_of_ble_eq_true rfl, Nat.le_of_ble_eq_true rfl⟩ (by omega) (by omega) (fun v9 X' hP => ?_) (fun _ _ h => absurd h.1 (by simp))
    obtain ⟨e1, hQ⟩ := hP
    cases e1
    refine xr_goto C d_TK_operate_106 119 (by decide) ?_
    exact xr_vret C d_TK_operate_119 (by omega) (by omega) ⟨rfl, hQ.pre f13 x13⟩
  · have hof : opF s es ts = remK es (sl ts 0 k) := by unfold opF; rw [if_neg (by omega), if_neg (by omega), hk]
    rw [hof] at C
    rw [e]
    refine xr_lookup C d_TK_operate_43 109 (by decide) (show _ = (66 : Int) from rfl) (by decide) ?_
    refine xr_aload_n C d_TK_operate_109 110 rfl rfl ?_
    refine xr_aload C d_TK_operate_110 112 rfl rfl ?_
    refine xr_aload_n C d_TK_operate_112 113 rfl rfl ?_
    refine xr_get C K_TK 3 d_TK_operate_113 116 rfl q_120 (Or.inl rfl) rfl (by first | assumption | exact xup_self | exact (xup_ne (by assumption)).trans (by assumption) | exact (xup_ne (Ne.symm (by assumption))).trans (by assumption) | exact (xup_ne (by assumption)).trans xup_self | exact (xup_ne (Ne.symm (by assumption))).trans xup_self) rfl ?_
    refine xr_callV C (c_KM_remove i2 M2 R2 hb2 hk2) k_KM_remove d_TK_operate_116 119 rfl (by first | assumption | exact xup_self | exact (xup_ne (by assumption)).trans (by assumption) | exact (xup_ne (Ne.symm (by assumption))).trans (by assumption) | exact (xup_ne (by assumption)).trans xup_self | exact (xup_ne (Ne.symm (by assumption))).trans xup_self) rfl (Or.inl q_764) v_KM_remove e_KM_remove h_KM_remove rfl ⟨Nat.le_of_ble_eq_true rfl, Nat.le_of_ble_eq_true rfl, Nat.le_of_ble_eq_true rfl⟩ (by omega) (by omega) (fun v9 X' hP => ?_) (fun _ _ h => absurd h.1 (by simp))
    obtain ⟨e1, hQ⟩ := hP
    cases e1
    exact xr_vret C d_TK_operate_119 (by omega) (by omega) ⟨rfl, hQ.pre f12 x12⟩
set_option maxRecDepth 100000 in
set_option maxHeartbeats 4000000 in
theorem c_TK_look {l : Launch} {D : va_G} {H0 : Heap} {X : xH} {mp la b cap : Nat} {as : List Nat} {es : List Es} {I : Nat → Option Imm} (hI : xIm D X I) (hM : xMap D X I mp la b cap as es) {tk tp r br rc s : Nat} {v0 v1 v5 : Value} {n0 : Int32} {ts : List Int32} (hs : s < 2 ^ 31) (htk : X tk = some (.inr (0, [v0, v1, .ref tp, .ref r, .int n0, v5]))) (hT : xTape D X tp ts) (hR : xRow D X r br rc []) (hb : I br = none) (hop : okRd s ts.length) : xMet l D H0 y_TK_look b_TK_look 6 none [] 6 2 600 [.ref tk, .ref mp, .int (nI s), .int (nI ts.length)] X (fun o X' => o = .inl none ∧ xQ D X X' I r br rc mp la b cap es (lookF s es ts)) := by
  obtain ⟨k, hk⟩ : ∃ k, k = s / 8 := ⟨_, rfl⟩
  obtain ⟨p, hp⟩ : ∃ p, p = s % 8 := ⟨_, rfl⟩
  obtain ⟨n, hn⟩ : ∃ n, n = ts.length := ⟨_, rfl⟩
  rw [← hn] at hop
  have hko : (3 ≤ p ∧ p ≤ 5) ∧ (1 ≤ k ∧ k ≤ 32) ∧ (if p = 4 then k + 1 ≤ n ∧ n ≤ k + 32 else n = k) := by rw [hk, hp]; exact hop
  obtain ⟨g1, ⟨g2, g3⟩, g5⟩ := hko
  have hn1 : k ≤ n ∧ n ≤ k + 32 := by
    split at g5 <;> omega
  have hn3 := hT.len
  rw [← hn] at hn3
  obtain ⟨frb, hbr0⟩ := hR.arr
  refine ⟨[some (.ref tk), some (.ref mp), some (.int (nI s)), some (.int (nI ts.length)), none, none], rfl, Nat.le_of_ble_eq_true rfl, fun E hD hH hl _ C => ?_⟩
  subst hD
  subst hH
  subst hl
  refine xr_iload_n C d_TK_look_0 1 rfl rfl ?_
  refine xr_callS C (c_TK_readingKeySize hs) k_TK_readingKeySize d_TK_look_1 4 rfl (Or.inl q_791) s_TK_readingKeySize in_TK_readingKeySize h_TK_readingKeySize rfl ⟨Nat.le_of_ble_eq_true rfl, Nat.le_of_ble_eq_true rfl, Nat.le_of_ble_eq_true rfl⟩ (by omega) (by omega) (fun v9 X hP => ?_) (fun _ _ h => absurd h.1 (by simp))
  obtain ⟨h1, rfl⟩ := hP
  cases h1
  refine xr_toi (show _ = nI k by rw [hk]) ?_
  refine xr_istore C d_TK_look_4 6 rfl rfl rfl ?_
  refine xr_aload_n C d_TK_look_6 7 rfl rfl ?_
  refine xr_get C K_TK 2 d_TK_look_7 10 rfl q_119 (Or.inl rfl) rfl (by first | assumption | exact xup_self | exact (xup_ne (by assumption)).trans (by assumption) | exact (xup_ne (Ne.symm (by assumption))).trans (by assumption) | exact (xup_ne (by assumption)).trans xup_self | exact (xup_ne (Ne.symm (by assumption))).trans xup_self) rfl ?_
  refine xr_iconst (v := 0) C d_TK_look_10 11 rfl (by decide) ?_
  refine xr_iload C d_TK_look_11 13 rfl rfl ?_
  refine xr_callS C (n_slice (i := 0) (j := k) hI hT (by omega) (by omega) (fun _ => by omega)) k_AR_copyOfRange d_TK_look_13 16 rfl (Or.inl q_465) s_AR_copyOfRange in_AR_copyOfRange h_AR_copyOfRange rfl ⟨Nat.le_of_ble_eq_true rfl, Nat.le_of_ble_eq_true rfl, Nat.le_of_ble_eq_true rfl⟩ (by omega) (by omega) (fun v9 X1 hP => ?_) (fun _ _ h => by obtain ⟨q, h, -⟩ := h; cases h)
  obtain ⟨q1, e1, u1, f1, i1⟩ := hP
  cases e1
  have t1 := f1.use htk List.not_mem_nil
  have T1 := hT.keep f1 List.not_mem_nil
  have x1 := imX_up (v := .inl (sl ts 0 k)) hI u1
  have M1 := (hM.keep f1 List.not_mem_nil List.not_mem_nil List.not_mem_nil).le x1.1
  have R1 := hR.keep0 f1
  have hb1 := x1.2 _ _ hbr0 hb
  have m1 := M1.1
  refine xr_astore C d_TK_look_16 18 rfl rfl rfl ?_
  refine xr_iload_n C d_TK_look_18 19 rfl rfl ?_
  refine xr_callS C (c_TK_kindOf hs) k_TK_kindOf d_TK_look_19 22 rfl (Or.inl q_407) s_TK_kindOf in_TK_kindOf h_TK_kindOf rfl ⟨Nat.le_of_ble_eq_true rfl, Nat.le_of_ble_eq_true rfl, Nat.le_of_ble_eq_true rfl⟩ (by omega) (by omega) (fun v9 X1 hP => ?_) (fun _ _ h => absurd h.1 (by simp))
  obtain ⟨h1, rfl⟩ := hP
  cases h1
  refine xr_toi (show _ = nI p by rw [hp]) ?_
  have hp012 : p = 3 ∨ p = 4 ∨ p = 5 := by omega
  rcases hp012 with e | e | e
  · have hof : lookF s es ts = tvK es (sl ts 0 k) := by unfold lookF; rw [if_pos (by omega), hk]
    rw [hof] at C
    rw [e]
    refine xr_lookup C d_TK_look_22 48 (by decide) (show _ = (26 : Int) from rfl) (by decide) ?_
    refine xr_aload_n C d_TK_look_48 49 rfl rfl ?_
    refine xr_aload C d_TK_look_49 51 rfl rfl ?_
    refine xr_aload_n C d_TK_look_51 52 rfl rfl ?_
    refine xr_get C K_TK 3 d_TK_look_52 55 rfl q_120 (Or.inl rfl) rfl (by first | assumption | exact xup_self | exact (xup_ne (by assumption)).trans (by assumption) | exact (xup_ne (Ne.symm (by assumption))).trans (by assumption) | exact (xup_ne (by assumption)).trans xup_self | exact (xup_ne (Ne.symm (by assumption))).trans xup_self) rfl ?_
    refine xr_callV C (c_KM_get i1 M1 R1 hb1 imUp_self) k_KM_get d_TK_look_55 58 rfl (by first | assumption | exact xup_self | exact (xup_ne (by assumption)).trans (by assumption) | exact (xup_ne (Ne.symm (by assumption))).trans (by assumption) | exact (xup_ne (by assumption)).trans xup_self | exact (xup_ne (Ne.symm (by assumption))).trans xup_self) rfl (Or.inl q_799) v_KM_get e_KM_get h_KM_get rfl ⟨Nat.le_of_ble_eq_true rfl, Nat.le_of_ble_eq_true rfl, Nat.le_of_ble_eq_true rfl⟩ (by omega) (by omega) (fun v9 X' hP => ?_) (fun _ _ h => absurd h.1 (by simp))
    obtain ⟨e1, hQ⟩ := hP
    cases e1
    refine xr_goto C d_TK_look_58 94 (by decide) ?_
    exact xr_vret C d_TK_look_94 (by omega) (by omega) ⟨rfl, hQ.pre f1 x1⟩
  · have hof : lookF s es ts = num (nI (fnb es (sl ts k ts.length) - fnb es (sl ts 0 k))) 2 := by unfold lookF; rw [if_neg (by omega), if_pos (by omega), hk]
    rw [hof] at C
    rw [e]
    refine xr_lookup C d_TK_look_22 61 (by decide) (show _ = (39 : Int) from rfl) (by decide) ?_
    refine xr_aload_n C d_TK_look_61 62 rfl rfl ?_
    refine xr_aload C d_TK_look_62 64 rfl rfl ?_
    refine xr_aload_n C d_TK_look_64 65 rfl rfl ?_
    refine xr_get C K_TK 2 d_TK_look_65 68 rfl q_119 (Or.inl rfl) rfl (by first | assumption | exact xup_self | exact (xup_ne (by assumption)).trans (by assumption) | exact (xup_ne (Ne.symm (by assumption))).trans (by assumption) | exact (xup_ne (by assumption)).trans xup_self | exact (xup_ne (Ne.symm (by assumption))).trans xup_self) rfl ?_
    refine xr_iload C d_TK_look_68 70 rfl rfl ?_
    refine xr_iload_n C d_TK_look_70 71 rfl rfl ?_
    refine xr_callS C (n_slice (i := k) (j := ts.length) i1 T1 (by omega) (by omega) (fun h => by omega)) k_AR_copyOfRange d_TK_look_71 74 rfl (Or.inl q_465) s_AR_copyOfRange in_AR_copyOfRange h_AR_copyOfRange rfl ⟨Nat.le_of_ble_eq_true rfl, Nat.le_of_ble_eq_true rfl, Nat.le_of_ble_eq_true rfl⟩ (by omega) (by omega) (fun v9 X3 hP => ?_) (fun _ _ h => by obtain ⟨q, h, -⟩ := h; cases h)
    obtain ⟨q3, e1, u3, f3, i3⟩ := hP
    cases e1
    have t3 := f3.use t1 List.not_mem_nil
    have x3 := imX_up (v := .inl (sl ts k ts.length)) i1 u3
    have f13 : xFr [] X X3 := f1.trans f3
    have x13 : imX X I _ := imX.trans (S := []) x1 f1.dom x3
    have M3 := (M1.keep f3 List.not_mem_nil List.not_mem_nil List.not_mem_nil).le x3.1
    have R3 := R1.keep0 f3
    obtain ⟨frb2, hbr2⟩ := R1.arr
    have hb3 := x3.2 _ _ hbr2 hb1
    have m3 := M3.1
    refine xr_aload_n C d_TK_look_74 75 rfl rfl ?_
    refine xr_get C K_TK 3 d_TK_look_75 78 rfl q_120 (Or.inl rfl) rfl (by first | assumption | exact xup_self | exact (xup_ne (by assumption)).trans (by assumption) | exact (xup_ne (Ne.symm (by assumption))).trans (by assumption) | exact (xup_ne (by assumption)).trans xup_self | exact (xup_ne (Ne.symm (by assumption))).trans xup_self) rfl ?_
    refine xr_callV C (c_KM_count i3 M3 R3 hb3 (x3.1 _ _ imUp_self) imUp_self) k_KM_count d_TK_look_78 81 rfl (by first | assumption | exact xup_self | exact (xup_ne (by assumption)).trans (by assumption) | exact (xup_ne (Ne.symm (by assumption))).trans (by assumption) | exact (xup_ne (by assumption)).trans xup_self | exact (xup_ne (Ne.symm (by assumption))).trans xup_self) rfl (Or.inl q_803) v_KM_count e_KM_count h_KM_count rfl ⟨Nat.le_of_ble_eq_true rfl, Nat.le_of_ble_eq_true rfl, Nat.le_of_ble_eq_true rfl⟩ (by omega) (by omega) (fun v9 X' hP => ?_) (fun _ _ h => absurd h.1 (by simp))
    obtain ⟨e1, hQ⟩ := hP
    cases e1
    refine xr_goto C d_TK_look_81 94 (by decide) ?_
    exact xr_vret C d_TK_look_94 (by omega) (by omega) ⟨rfl, hQ.pre f13 x13⟩
  · have hof : lookF s es ts = nxK es (sl ts 0 k) := by unfold lookF; rw [if_neg (by omega), if_neg (by omega), hk]
    rw [hof] at C
    rw [e]
    refine xr_lookup C d_TK_look_22 84 (by decide) (show _ = (62 : Int) from rfl) (by decide) ?_
    refine xr_aload_n C d_TK_look_84 85 rfl rfl ?_
    refine xr_aload C d_TK_look_85 87 rfl rfl ?_
    refine xr_aload_n C d_TK_look_87 88 rfl rfl ?_
    refine xr_get C K_TK 3 d_TK_look_88 91 rfl q_120 (Or.inl rfl) rfl (by first | assumption | exact xup_self | exact (xup_ne (by assumption)).trans (by assumption) | exact (xup_ne (Ne.symm (by assumption))).trans (by assumption) | exact (xup_ne (by assumption)).trans xup_self | exact (xup_ne (Ne.symm (by assumption))).trans xup_self) rfl ?_
    refine xr_callV C (c_KM_next i1 M1 R1 hb1 imUp_self) k_KM_next d_TK_look_91 94 rfl (by first | assumption | exact xup_self | exact (xup_ne (by assumption)).trans (by assumption) | exact (xup_ne (Ne.symm (by assumption))).trans (by assumption) | exact (xup_ne (by assumption)).trans xup_self | exact (xup_ne (Ne.symm (by assumption))).trans xup_self) rfl (Or.inl q_808) v_KM_next e_KM_next h_KM_next rfl ⟨Nat.le_of_ble_eq_true rfl, Nat.le_of_ble_eq_true rfl, Nat.le_of_ble_eq_true rfl⟩ (by omega) (by omega) (fun v9 X' hP => ?_) (fun _ _ h => absurd h.1 (by simp))
    obtain ⟨e1, hQ⟩ := hP
    cases e1
    exact xr_vret C d_TK_look_94 (by omega) (by omega) ⟨rfl, hQ.pre f1 x1⟩
end
section
/-! The whole object. -/
abbrev Mc := List Ss × List Es × Int32
abbrev St := List Int32 × (Nat → Mc) × List Int32 × Int32
/-- a machine: its fixed addresses in F, its arrays and their rooms in V -/
def xMm (D : va_G) (X : xH) (I : Nat → Option Imm) (F V : Nat → Nat) (i : Nat) (m : Mc) : Prop := ∃ as1 as2, xMac D X I (F (10 + i)) (F (20 + i)) (V (10 + i)) (V (20 + i)) (F (30 + i)) (F (40 + i)) (V (30 + i)) (V (40 + i)) as1 as2 m.1 m.2.1 m.2.2
def xTK (D : va_G) (X : xH) (F V : Nat → Nat) (I : Nat → Option Imm) (s : St) : Prop :=
  X (F 0) = some (.inr (0, [.ref (F 10), .ref (F 11), .ref (F 1), .ref (F 2), .int (nI s.1.length), .int s.2.2.2])) ∧ xTape D X (F 1) s.1 ∧ I (F 1) = none ∧ F 1 ≠ V 0 ∧ xRow D X (F 2) (V 0) (V 1) s.2.2.1 ∧ I (V 0) = none ∧ xIm D X I ∧ I (D.2 200 0) = some (.inl []) ∧ xMm D X I F V 0 (s.2.1 0) ∧ xMm D X I F V 1 (s.2.1 1) ∧ xSep X (F 10) (F 20) (V 10) (F 30) (F 40) (V 30) (F 11) (F 21) (V 11) (F 31) (F 41) (V 31)
def vU (V : Nat → Nat) (i bs cs be ce br rc : Nat) : Nat → Nat := fun k => if k = 0 then br else if k = 1 then rc else if k = 10 + i then bs else if k = 20 + i then cs else if k = 30 + i then be else if k = 40 + i then ce else V k
theorem vU_id {V : Nat → Nat} {i : Nat} : vU V i (V (10 + i)) (V (20 + i)) (V (30 + i)) (V (40 + i)) (V 0) (V 1) = V := by
  funext k
  unfold vU
  split
  · next h => rw [h]
  · split
    · next h => rw [h]
    · split
      · next h => rw [h]
      · split
        · next h => rw [h]
        · split
          · next h => rw [h]
          · split
            · next h => rw [h]
            · rfl
/-- the object, looked at from machine i: xOw, and the other -/
def xOw (D : va_G) (X : xH) (F V : Nat → Nat) (I : Nat → Option Imm) (i : Nat) (m o : Mc) (bs cs be ce br rc : Nat) (ts res : List Int32) (n lp : Int32) (as1 as2 : List Nat) : Prop :=
  X (F 0) = some (.inr (0, [.ref (F 10), .ref (F 11), .ref (F 1), .ref (F 2), .int n, .int lp])) ∧ xTape D X (F 1) ts ∧ I (F 1) = none ∧ F 1 ≠ br ∧ xRow D X (F 2) br rc res ∧ I br = none ∧ xIm D X I ∧ I (D.2 200 0) = some (.inl []) ∧ xMac D X I (F (10 + i)) (F (20 + i)) bs cs (F (30 + i)) (F (40 + i)) be ce as1 as2 m.1 m.2.1 m.2.2 ∧ xMm D X I F V (1 - i) o ∧ xSep X (F (10 + i)) (F (20 + i)) bs (F (30 + i)) (F (40 + i)) be (F (10 + (1 - i))) (F (20 + (1 - i))) (V (10 + (1 - i))) (F (30 + (1 - i))) (F (40 + (1 - i))) (V (30 + (1 - i)))
theorem xTK.ow {D : va_G} {X : xH} {F V : Nat → Nat} {I : Nat → Option Imm} {s : St} (h : xTK D X F V I s) {i : Nat} (hi : i < 2) : ∃ as1 as2, xOw D X F V I i (s.2.1 i) (s.2.1 (1 - i)) (V (10 + i)) (V (20 + i)) (V (30 + i)) (V (40 + i)) (V 0) (V 1) s.1 s.2.2.1 (nI s.1.length) s.2.2.2 as1 as2 := by
  obtain ⟨h1, h2, h3, h4, h5, h6, h7, h8, h9, h10, h11⟩ := h
  match i, hi with
  | 0, _ =>
    obtain ⟨as1, as2, h⟩ := h9
    exact ⟨as1, as2, h1, h2, h3, h4, h5, h6, h7, h8, h, h10, h11⟩
  | 1, _ =>
    obtain ⟨as1, as2, h⟩ := h10
    exact ⟨as1, as2, h1, h2, h3, h4, h5, h6, h7, h8, h, h9, h11.symm⟩
theorem xOw.tk {D : va_G} {X : xH} {F V : Nat → Nat} {I : Nat → Option Imm} {i : Nat} {m o : Mc} {bs cs be ce br rc : Nat} {ts res : List Int32} {lp : Int32} {as1 as2 : List Nat} {M : Nat → Mc} (h : xOw D X F V I i m o bs cs be ce br rc ts res (nI ts.length) lp as1 as2) (hi : i < 2) (hm : M i = m) (ho : M (1 - i) = o) : xTK D X F (vU V i bs cs be ce br rc) I (ts, M, res, lp) := by
  obtain ⟨h1, h2, h3, h4, h5, h6, h7, h8, h9, h10, h11⟩ := h
  subst hm
  subst ho
  obtain ⟨W, hW⟩ : ∃ W, W = vU V i bs cs be ce br rc := ⟨_, rfl⟩
  rw [← hW]
  have w0 : W 0 = br := by rw [hW]; exact if_pos rfl
  have w1 : W 1 = rc := by rw [hW]; exact (if_neg (by omega)).trans (if_pos rfl)
  have w10 : W (10 + i) = bs := by rw [hW]; exact (if_neg (by omega)).trans ((if_neg (by omega)).trans (if_pos rfl))
  have w20 : W (20 + i) = cs := by rw [hW]; exact (if_neg (by omega)).trans ((if_neg (by omega)).trans ((if_neg (by omega)).trans (if_pos rfl)))
  have w30 : W (30 + i) = be := by rw [hW]; exact (if_neg (by omega)).trans ((if_neg (by omega)).trans ((if_neg (by omega)).trans ((if_neg (by omega)).trans (if_pos rfl))))
  have w40 : W (40 + i) = ce := by rw [hW]; exact (if_neg (by omega)).trans ((if_neg (by omega)).trans ((if_neg (by omega)).trans ((if_neg (by omega)).trans ((if_neg (by omega)).trans (if_pos rfl)))))
  have wo : ∀ k, 2 ≤ k → k ≠ 10 + i → k ≠ 20 + i → k ≠ 30 + i → k ≠ 40 + i → W k = V k := fun k k1 k2 k3 k4 k5 => by rw [hW]; exact (if_neg (by omega)).trans ((if_neg (by omega)).trans ((if_neg k2).trans ((if_neg k3).trans ((if_neg k4).trans (if_neg k5)))))
  have o10 := wo (10 + (1 - i)) (by omega) (by omega) (by omega) (by omega) (by omega)
  have o20 := wo (20 + (1 - i)) (by omega) (by omega) (by omega) (by omega) (by omega)
  have o30 := wo (30 + (1 - i)) (by omega) (by omega) (by omega) (by omega) (by omega)
  have o40 := wo (40 + (1 - i)) (by omega) (by omega) (by omega) (by omega) (by omega)
  clear wo hW
  subst w0 w1 w10 w20 w30 w40
  have q10 : xMm D X I F W (1 - i) (M (1 - i)) := by
    unfold xMm
    rw [o10, o20, o30, o40]
    exact h10
  rw [← o10, ← o30] at h11
  have q9 : xMm D X I F W i (M i) := ⟨as1, as2, h9⟩
  have h01 : i = 0 ∨ i = 1 := by omega
  rcases h01 with e | e
  · subst e
    exact ⟨h1, h2, h3, h4, h5, h6, h7, h8, q9, q10, h11⟩
  · subst e
    exact ⟨h1, h2, h3, h4, h5, h6, h7, h8, q10, q9, h11.symm⟩
theorem xMac.le {D : va_G} {X : xH} {I I' : Nat → Option Imm} {a ls bs cs mp la be ce : Nat} {as1 as2 : List Nat} {ss : List Ss} {es : List Es} {g : Int32} (h : xMac D X I a ls bs cs mp la be ce as1 as2 ss es g) (hl : imLe I I') : xMac D X I' a ls bs cs mp la be ce as1 as2 ss es g := by
  obtain ⟨ha, hL, hE, hok, hM, hll, hbb⟩ := h
  exact ⟨ha, hL, hE.le hl, hok, hM.le hl, hll, hbb⟩
theorem xSep.new {X X' : xH} {S : List Nat} {a ls bs mp la be a' ls' bs' mp' la' be' b1 b2 : Nat} {v1 v2 : va_E} (h : xSep X a ls bs mp la be a' ls' bs' mp' la' be') (hf : xFr S X X') (n1 : b1 = bs ∨ X b1 = none) (n2 : b2 = be ∨ X b2 = none) (e1 : X bs' = some v1) (e2 : X be' = some v2) : xSep X' a ls b1 mp la b2 a' ls' bs' mp' la' be' := by
  obtain ⟨h1, h2, h3, h4, h5, h6, h7, h8, h9, h10⟩ := h
  exact ⟨h1, h2, h3, h4, h5, h6, h7.new hf n1 e1, h8.new hf n1 e2, h9.new hf n2 e1, h10.new hf n2 e2⟩
section XO
variable {D : va_G} {X X' : xH} {F V : Nat → Nat} {I I' : Nat → Option Imm} {i : Nat} {m o m' : Mc} {bs cs be ce br rc b1 c1 b2 c2 br' rc' : Nat} {ts res res' : List Int32} {n lp n' lp' : Int32} {as1 as2 as1' as2' : List Nat}
/-- the machine has changed -/
theorem xOw.mach (h : xOw D X F V I i m o bs cs be ce br rc ts res n lp as1 as2) (hx : imX X I I') (hI : xIm D X' I') (hm : xMac D X' I' (F (10 + i)) (F (20 + i)) b1 c1 (F (30 + i)) (F (40 + i)) b2 c2 as1' as2' m'.1 m'.2.1 m'.2.2) (hf : xFr [F (10 + i), F (20 + i), bs, F (30 + i), F (40 + i), be] X X') (n1 : b1 = bs ∨ X b1 = none) (n2 : b2 = be ∨ X b2 = none) : xOw D X' F V I' i m' o b1 c1 b2 c2 br rc ts res n lp as1' as2' := by
  obtain ⟨h1, h2, h3, h4, h5, h6, h7, h8, h9, h10, h11⟩ := h
  obtain ⟨ha, hL, hE, hok, hM, hll, hbb⟩ := id h9
  obtain ⟨vl, hl⟩ := hL.ob
  obtain ⟨fb, hb⟩ := hL.ar
  obtain ⟨vk, hk⟩ := hM.2.1.ob
  obtain ⟨fe, he⟩ := hM.2.1.ar
  have hmm := hM.1
  obtain ⟨ft, ht, htt⟩ := id h2
  obtain ⟨fr, hr⟩ := h5.arr
  have hra := h5.at
  obtain ⟨a3, a4, hB⟩ := h10
  obtain ⟨fb', hb'⟩ := hB.2.1.ar
  obtain ⟨fe', he'⟩ := hB.2.2.2.2.1.2.1.ar
  refine ⟨hf.use h1 ?_, h2.keep hf ?_, hx.2 _ _ ht h3, h4, h5.keep hf ?_ ?_, hx.2 _ _ hr h6, hI, hx.1 _ _ h8, hm, ⟨a3, a4, (h9.keepO hB h11 hf).le hx.1⟩, h11.new hf n1 n2 hb' he'⟩
  · simp only [List.mem_cons, List.not_mem_nil, or_false, not_or]
    exact ⟨xne h1 ha (by intro h; cases h), xne h1 hl (by intro h; cases h), xne h1 hb (by intro h; cases h), xne h1 hmm (by intro h; cases h), xne h1 hk (by intro h; cases h), xne h1 he (by intro h; cases h)⟩
  · simp only [List.mem_cons, List.not_mem_nil, or_false, not_or]
    exact ⟨xne ht ha (by intro h; cases h), xne ht hl (by intro h; cases h), (xne hb ht xkd).symm, xne ht hmm (by intro h; cases h), xne ht hk (by intro h; cases h), (xne he ht xkd).symm⟩
  · simp only [List.mem_cons, List.not_mem_nil, or_false, not_or]
    exact ⟨xne hra ha (by intro h; cases h), xne hra hl (by intro h; cases h), xne hra hb (by intro h; cases h), xne hra hmm (by intro h; cases h), xne hra hk (by intro h; cases h), xne hra he (by intro h; cases h)⟩
  · simp only [List.mem_cons, List.not_mem_nil, or_false, not_or]
    exact ⟨xne hr ha (by intro h; cases h), xne hr hl (by intro h; cases h), (xne hb hr xkd).symm, xne hr hmm (by intro h; cases h), xne hr hk (by intro h; cases h), (xne he hr xkd).symm⟩
/-- the row has changed -/
theorem xOw.row (h : xOw D X F V I i m o bs cs be ce br rc ts res n lp as1 as2) (hI : xIm D X' I) (hr : xRow D X' (F 2) br' rc' res') (hb : I br' = none) (hf : xFr [F 2, br] X X') (hn : br' = br ∨ X br' = none) : xOw D X' F V I i m o bs cs be ce br' rc' ts res' n lp as1 as2 := by
  obtain ⟨h1, h2, h3, h4, h5, h6, h7, h8, h9, h10, h11⟩ := h
  obtain ⟨a3, a4, hB⟩ := h10
  obtain ⟨ft, ht, htt⟩ := id h2
  obtain ⟨fr, hr0⟩ := h5.arr
  obtain ⟨fb, hb1⟩ := h9.2.1.ar
  obtain ⟨fe, he1⟩ := h9.2.2.2.2.1.2.1.ar
  obtain ⟨fb', hb'⟩ := hB.2.1.ar
  obtain ⟨fe', he'⟩ := hB.2.2.2.2.1.2.1.ar
  refine ⟨hf.use h1 ?_, h2.keep hf ?_, h3, ?_, hr, hb, hI, h8, h9.keepR h5 hf, ⟨a3, a4, hB.keepR h5 hf⟩, h11.new hf (Or.inl rfl) (Or.inl rfl) hb' he'⟩
  · simp only [List.mem_cons, List.not_mem_nil, or_false, not_or]
    exact ⟨xne h1 h5.at (by intro h; cases h), xne h1 hr0 (by intro h; cases h)⟩
  · simp only [List.mem_cons, List.not_mem_nil, or_false, not_or]
    exact ⟨xne ht h5.at (by intro h; cases h), h4⟩
  · rcases hn with e | e
    · rw [e]
      exact h4
    · exact xne_none ht e
/-- fields of the object itself have changed -/
theorem xOw.self (h : xOw D X F V I i m o bs cs be ce br rc ts res n lp as1 as2) : xOw D (xup X (F 0) (.inr (0, [.ref (F 10), .ref (F 11), .ref (F 1), .ref (F 2), .int n', .int lp']))) F V I i m o bs cs be ce br rc ts res n' lp' as1 as2 := by
  obtain ⟨h1, h2, h3, h4, h5, h6, h7, h8, h9, h10, h11⟩ := h
  have hf : xFr [F 0] X (xup X (F 0) (.inr (0, [.ref (F 10), .ref (F 11), .ref (F 1), .ref (F 2), .int n', .int lp']))) := xFr_up h1 (fun z => z) (by simp)
  have one : ∀ {q : Nat} {v : va_E}, X q = some v → (∀ fs, v ≠ .inr (0, fs)) → q ∉ [F 0] := fun hq hv => by
    rw [List.mem_singleton]
    exact xne hq h1 (hv _)
  have mk : ∀ {j : Nat} {mm : Mc} {a b c d : Nat} {x1 x2 : List Nat}, xMac D X I (F (10 + j)) (F (20 + j)) a b (F (30 + j)) (F (40 + j)) c d x1 x2 mm.1 mm.2.1 mm.2.2 → xMac D (xup X (F 0) (.inr (0, [.ref (F 10), .ref (F 11), .ref (F 1), .ref (F 2), .int n', .int lp']))) I (F (10 + j)) (F (20 + j)) a b (F (30 + j)) (F (40 + j)) c d x1 x2 mm.1 mm.2.1 mm.2.2 := by
    intro j mm a b c d x1 x2 hm
    obtain ⟨ha, hL, hE, hok, hM, hll, hbb⟩ := id hm
    obtain ⟨vl, hl⟩ := hL.ob
    obtain ⟨fb, hb⟩ := hL.ar
    obtain ⟨vk, hk⟩ := hM.2.1.ob
    obtain ⟨fe, he⟩ := hM.2.1.ar
    exact hm.keepS hf (one ha (by intro fs h; cases h)) (one hl (by intro fs h; cases h)) (Or.inl (one hb (by intro fs h; cases h))) (one hM.1 (by intro fs h; cases h)) (one hk (by intro fs h; cases h)) (Or.inl (one he (by intro fs h; cases h)))
  obtain ⟨a3, a4, hB⟩ := h10
  obtain ⟨fb', hb'⟩ := hB.2.1.ar
  obtain ⟨fe', he'⟩ := hB.2.2.2.2.1.2.1.ar
  obtain ⟨ft, ht, htt⟩ := id h2
  obtain ⟨fr, hr0⟩ := h5.arr
  exact ⟨xup_self, h2.keep hf (one ht (by intro fs h; cases h)), h3, h4, h5.keep hf (one h5.at (by intro fs h; cases h)) (one hr0 (by intro fs h; cases h)), h6, h7.up1 h1 (by decide) (by decide), h8, mk h9, ⟨a3, a4, mk hB⟩, h11.new hf (Or.inl rfl) (Or.inl rfl) hb' he'⟩
end XO
/-- how a call ends: r = 0 with a value, or one of the two exceptions -/
def xEnd (c1 c2 : String) (r : Nat × Int32) (o : xO) : Prop := (r.1 = 0 ∧ o = .inl (some (.int r.2))) ∨ (r.1 = 1 ∧ o = .inr c1) ∨ (r.1 = 2 ∧ o = .inr c2)
theorem xEnd_ok {c1 c2 : String} {v : Int32} : xEnd c1 c2 (0, v) (.inl (some (.int v))) := Or.inl ⟨rfl, rfl⟩
theorem xEnd_1 {c1 c2 : String} {v : Int32} : xEnd c1 c2 (1, v) (.inr c1) := Or.inr (Or.inl ⟨rfl, rfl⟩)
theorem xEnd_2 {c1 c2 : String} {v : Int32} : xEnd c1 c2 (2, v) (.inr c2) := Or.inr (Or.inr ⟨rfl, rfl⟩)
def upM (M : Nat → Mc) (i : Nat) (m : Mc) : Nat → Mc := fun k => if k = i then m else M k
theorem upM_self {M : Nat → Mc} {i : Nat} {m : Mc} : upM M i m i = m := if_pos rfl
theorem upM_ne {M : Nat → Mc} {i k : Nat} {m : Mc} (h : k ≠ i) : upM M i m k = M k := if_neg h
theorem oth_ne {i : Nat} (h : i < 2) : 1 - i ≠ i := by omega
/-- rooms only grow -/
def vLe (V V' : Nat → Nat) : Prop := V' 1 = V 1 ∧ V 20 ≤ V' 20 ∧ V 21 ≤ V' 21 ∧ V 40 ≤ V' 40 ∧ V 41 ≤ V' 41
theorem vLe.rf {V : Nat → Nat} : vLe V V := ⟨rfl, Nat.le_refl _, Nat.le_refl _, Nat.le_refl _, Nat.le_refl _⟩
theorem vLe_U {V : Nat → Nat} {i bs cs be ce br : Nat} (hi : i < 2) (h1 : V (20 + i) ≤ cs) (h2 : V (40 + i) ≤ ce) : vLe V (vU V i bs cs be ce br (V 1)) := by
  have wo : ∀ k, 2 ≤ k → k ≠ 10 + i → k ≠ 20 + i → k ≠ 30 + i → k ≠ 40 + i → vU V i bs cs be ce br (V 1) k = V k := fun k k1 k2 k3 k4 k5 => (if_neg (by omega)).trans ((if_neg (by omega)).trans ((if_neg k2).trans ((if_neg k3).trans ((if_neg k4).trans (if_neg k5)))))
  have w1 : vU V i bs cs be ce br (V 1) 1 = V 1 := (if_neg (by omega)).trans (if_pos rfl)
  have w20 : vU V i bs cs be ce br (V 1) (20 + i) = cs := (if_neg (by omega)).trans ((if_neg (by omega)).trans ((if_neg (by omega)).trans (if_pos rfl)))
  have w40 : vU V i bs cs be ce br (V 1) (40 + i) = ce := (if_neg (by omega)).trans ((if_neg (by omega)).trans ((if_neg (by omega)).trans ((if_neg (by omega)).trans ((if_neg (by omega)).trans (if_pos rfl)))))
  have o20 := wo (20 + (1 - i)) (by omega) (by omega) (by omega) (by omega) (by omega)
  have o40 := wo (40 + (1 - i)) (by omega) (by omega) (by omega) (by omega) (by omega)
  clear wo
  rw [← w20] at h1
  rw [← w40] at h2
  generalize vU V i bs cs be ce br (V 1) = W at *
  match i, hi with
  | 0, _ => exact ⟨w1, h1, Nat.le_of_eq o20.symm, h2, Nat.le_of_eq o40.symm⟩
  | 1, _ => exact ⟨w1, Nat.le_of_eq o20.symm, h1, Nat.le_of_eq o40.symm, h2⟩
end
