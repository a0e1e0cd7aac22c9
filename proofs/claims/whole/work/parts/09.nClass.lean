abbrev b_TK_init : ByteArray := prog_1_method_1_code
def y_TK_init : MethodName := ⟨"TwinKeepers", "<init>", "()V"⟩
theorem kc_TK_init : Cond.code y_TK_init b_TK_init 1 none ∈ xT := xin 33 (by decide +kernel) (by decide +kernel)
theorem k_TK_init : xCode y_TK_init b_TK_init 1 none [] := Or.inl ⟨rfl, kc_TK_init⟩
theorem h_TK_init : plainFor y_TK_init = true ∧ (y_TK_init.cls ≠ "java/lang/invoke/MethodHandle" ∧ y_TK_init.cls ≠ "java/lang/invoke/VarHandle") ∧ (parseMethodDescriptor y_TK_init.desc).map (fun d => d.parameters.length) = some 0 := by decide +kernel
theorem v_TK_init : Cond.instanceMethod y_TK_init ∈ xT := xin 32 (by decide +kernel) (by decide +kernel)
theorem d_TK_init_0 : decode b_TK_init 0 = .ok (.aload_n 0, 1) := by decide +kernel
theorem d_TK_init_1 : decode b_TK_init 1 = .ok (.invokespecial 1, 3) := by decide +kernel
theorem q_34 : Cond.methodLink "TwinKeepers" 1 ⟨"java/lang/Object", "<init>", "()V"⟩ ∈ xT := xin 34 (by decide +kernel) (by decide +kernel)
theorem d_TK_init_4 : decode b_TK_init 4 = .ok (.aload_n 0, 1) := by decide +kernel
theorem d_TK_init_5 : decode b_TK_init 5 = .ok (.new 7, 3) := by decide +kernel
theorem q_37 : Cond.classLink "TwinKeepers" 7 "TwinKeepers$Machine" ∈ xT := xin 37 (by decide +kernel) (by decide +kernel)
theorem d_TK_init_8 : decode b_TK_init 8 = .ok (.dup, 1) := by decide +kernel
theorem d_TK_init_9 : decode b_TK_init 9 = .ok (.invokespecial 9, 3) := by decide +kernel
theorem q_39 : Cond.methodLinkNest "TwinKeepers" 9 ⟨"TwinKeepers$Machine", "<init>", "()V"⟩ "TwinKeepers" ∈ xT := xin 39 (by decide +kernel) (by decide +kernel)
theorem d_TK_init_12 : decode b_TK_init 12 = .ok (.putfield 10, 3) := by decide +kernel
theorem q_117 : Cond.fieldLink "TwinKeepers" 10 "TwinKeepers" "first" "LTwinKeepers$Machine;" ∈ xT := xin 117 (by decide +kernel) (by decide +kernel)
theorem d_TK_init_15 : decode b_TK_init 15 = .ok (.aload_n 0, 1) := by decide +kernel
theorem d_TK_init_16 : decode b_TK_init 16 = .ok (.new 7, 3) := by decide +kernel
theorem d_TK_init_19 : decode b_TK_init 19 = .ok (.dup, 1) := by decide +kernel
theorem d_TK_init_20 : decode b_TK_init 20 = .ok (.invokespecial 9, 3) := by decide +kernel
theorem d_TK_init_23 : decode b_TK_init 23 = .ok (.putfield 16, 3) := by decide +kernel
theorem q_118 : Cond.fieldLink "TwinKeepers" 16 "TwinKeepers" "second" "LTwinKeepers$Machine;" ∈ xT := xin 118 (by decide +kernel) (by decide +kernel)
theorem d_TK_init_26 : decode b_TK_init 26 = .ok (.aload_n 0, 1) := by decide +kernel
theorem d_TK_init_27 : decode b_TK_init 27 = .ok (.sipush 300, 3) := by decide +kernel
theorem d_TK_init_30 : decode b_TK_init 30 = .ok (.newarray .byte, 2) := by decide +kernel
theorem d_TK_init_32 : decode b_TK_init 32 = .ok (.putfield 19, 3) := by decide +kernel
theorem q_119 : Cond.fieldLink "TwinKeepers" 19 "TwinKeepers" "tape" "[B" ∈ xT := xin 119 (by decide +kernel) (by decide +kernel)
theorem d_TK_init_35 : decode b_TK_init 35 = .ok (.aload_n 0, 1) := by decide +kernel
theorem d_TK_init_36 : decode b_TK_init 36 = .ok (.new 23, 3) := by decide +kernel
theorem q_101 : Cond.classLink "TwinKeepers" 23 "TwinKeepers$Row" ∈ xT := xin 101 (by decide +kernel) (by decide +kernel)
theorem d_TK_init_39 : decode b_TK_init 39 = .ok (.dup, 1) := by decide +kernel
theorem d_TK_init_40 : decode b_TK_init 40 = .ok (.invokespecial 25, 3) := by decide +kernel
theorem q_103 : Cond.methodLinkNest "TwinKeepers" 25 ⟨"TwinKeepers$Row", "<init>", "()V"⟩ "TwinKeepers" ∈ xT := xin 103 (by decide +kernel) (by decide +kernel)
theorem d_TK_init_43 : decode b_TK_init 43 = .ok (.putfield 26, 3) := by decide +kernel
theorem q_120 : Cond.fieldLink "TwinKeepers" 26 "TwinKeepers" "result" "LTwinKeepers$Row;" ∈ xT := xin 120 (by decide +kernel) (by decide +kernel)
theorem d_TK_init_46 : decode b_TK_init 46 = .ok (.aload_n 0, 1) := by decide +kernel
theorem d_TK_init_47 : decode b_TK_init 47 = .ok (.iconst 0, 1) := by decide +kernel
theorem d_TK_init_48 : decode b_TK_init 48 = .ok (.putfield 30, 3) := by decide +kernel
theorem q_121 : Cond.fieldLink "TwinKeepers" 30 "TwinKeepers" "tapeSize" "I" ∈ xT := xin 121 (by decide +kernel) (by decide +kernel)
theorem d_TK_init_51 : decode b_TK_init 51 = .ok (.aload_n 0, 1) := by decide +kernel
theorem d_TK_init_52 : decode b_TK_init 52 = .ok (.iconst 0, 1) := by decide +kernel
theorem d_TK_init_53 : decode b_TK_init 53 = .ok (.putfield 34, 3) := by decide +kernel
theorem q_122 : Cond.fieldLink "TwinKeepers" 34 "TwinKeepers" "latestPlace" "I" ∈ xT := xin 122 (by decide +kernel) (by decide +kernel)
theorem d_TK_init_56 : decode b_TK_init 56 = .ok (.return_, 1) := by decide +kernel
abbrev b_Ma_init : ByteArray := prog_4_method_1_code
def y_Ma_init : MethodName := ⟨"TwinKeepers$Machine", "<init>", "()V"⟩
theorem kc_Ma_init : Cond.code y_Ma_init b_Ma_init 1 none ∈ xT := xin 41 (by decide +kernel) (by decide +kernel)
theorem k_Ma_init : xCode y_Ma_init b_Ma_init 1 none [] := Or.inl ⟨rfl, kc_Ma_init⟩
theorem h_Ma_init : plainFor y_Ma_init = true ∧ (y_Ma_init.cls ≠ "java/lang/invoke/MethodHandle" ∧ y_Ma_init.cls ≠ "java/lang/invoke/VarHandle") ∧ (parseMethodDescriptor y_Ma_init.desc).map (fun d => d.parameters.length) = some 0 := by decide +kernel
theorem v_Ma_init : Cond.instanceMethod y_Ma_init ∈ xT := xin 40 (by decide +kernel) (by decide +kernel)
theorem d_Ma_init_0 : decode b_Ma_init 0 = .ok (.aload_n 0, 1) := by decide +kernel
theorem d_Ma_init_1 : decode b_Ma_init 1 = .ok (.invokespecial 3, 3) := by decide +kernel
theorem q_42 : Cond.methodLink "TwinKeepers$Machine" 3 ⟨"java/lang/Object", "<init>", "()V"⟩ ∈ xT := xin 42 (by decide +kernel) (by decide +kernel)
theorem d_Ma_init_4 : decode b_Ma_init 4 = .ok (.aload_n 0, 1) := by decide +kernel
theorem d_Ma_init_5 : decode b_Ma_init 5 = .ok (.new 9, 3) := by decide +kernel
theorem q_43 : Cond.classLink "TwinKeepers$Machine" 9 "java/util/ArrayList" ∈ xT := xin 43 (by decide +kernel) (by decide +kernel)
theorem d_Ma_init_8 : decode b_Ma_init 8 = .ok (.dup, 1) := by decide +kernel
theorem d_Ma_init_9 : decode b_Ma_init 9 = .ok (.invokespecial 11, 3) := by decide +kernel
theorem q_45 : Cond.methodLink "TwinKeepers$Machine" 11 ⟨"java/util/ArrayList", "<init>", "()V"⟩ ∈ xT := xin 45 (by decide +kernel) (by decide +kernel)
theorem d_Ma_init_12 : decode b_Ma_init 12 = .ok (.putfield 12, 3) := by decide +kernel
theorem q_88 : Cond.fieldLink "TwinKeepers$Machine" 12 "TwinKeepers$Machine" "sessions" "Ljava/util/ArrayList;" ∈ xT := xin 88 (by decide +kernel) (by decide +kernel)
theorem d_Ma_init_15 : decode b_Ma_init 15 = .ok (.aload_n 0, 1) := by decide +kernel
theorem d_Ma_init_16 : decode b_Ma_init 16 = .ok (.new 18, 3) := by decide +kernel
theorem q_69 : Cond.classLink "TwinKeepers$Machine" 18 "TwinKeepers$KeyMap" ∈ xT := xin 69 (by decide +kernel) (by decide +kernel)
theorem d_Ma_init_19 : decode b_Ma_init 19 = .ok (.dup, 1) := by decide +kernel
theorem d_Ma_init_20 : decode b_Ma_init 20 = .ok (.invokespecial 20, 3) := by decide +kernel
theorem q_71 : Cond.methodLinkNest "TwinKeepers$Machine" 20 ⟨"TwinKeepers$KeyMap", "<init>", "()V"⟩ "TwinKeepers" ∈ xT := xin 71 (by decide +kernel) (by decide +kernel)
theorem d_Ma_init_23 : decode b_Ma_init 23 = .ok (.putfield 21, 3) := by decide +kernel
theorem q_90 : Cond.fieldLink "TwinKeepers$Machine" 21 "TwinKeepers$Machine" "map" "LTwinKeepers$KeyMap;" ∈ xT := xin 90 (by decide +kernel) (by decide +kernel)
theorem d_Ma_init_26 : decode b_Ma_init 26 = .ok (.aload_n 0, 1) := by decide +kernel
theorem d_Ma_init_27 : decode b_Ma_init 27 = .ok (.iconst 0, 1) := by decide +kernel
theorem d_Ma_init_28 : decode b_Ma_init 28 = .ok (.putfield 25, 3) := by decide +kernel
theorem q_92 : Cond.fieldLink "TwinKeepers$Machine" 25 "TwinKeepers$Machine" "greatestPlace" "I" ∈ xT := xin 92 (by decide +kernel) (by decide +kernel)
theorem d_Ma_init_31 : decode b_Ma_init 31 = .ok (.return_, 1) := by decide +kernel
abbrev b_KM_init : ByteArray := prog_3_method_1_code
def y_KM_init : MethodName := ⟨"TwinKeepers$KeyMap", "<init>", "()V"⟩
theorem kc_KM_init : Cond.code y_KM_init b_KM_init 1 none ∈ xT := xin 73 (by decide +kernel) (by decide +kernel)
theorem k_KM_init : xCode y_KM_init b_KM_init 1 none [] := Or.inl ⟨rfl, kc_KM_init⟩
theorem h_KM_init : plainFor y_KM_init = true ∧ (y_KM_init.cls ≠ "java/lang/invoke/MethodHandle" ∧ y_KM_init.cls ≠ "java/lang/invoke/VarHandle") ∧ (parseMethodDescriptor y_KM_init.desc).map (fun d => d.parameters.length) = some 0 := by decide +kernel
theorem v_KM_init : Cond.instanceMethod y_KM_init ∈ xT := xin 72 (by decide +kernel) (by decide +kernel)
theorem d_KM_init_0 : decode b_KM_init 0 = .ok (.aload_n 0, 1) := by decide +kernel
theorem d_KM_init_1 : decode b_KM_init 1 = .ok (.invokespecial 3, 3) := by decide +kernel
theorem q_74 : Cond.methodLink "TwinKeepers$KeyMap" 3 ⟨"java/lang/Object", "<init>", "()V"⟩ ∈ xT := xin 74 (by decide +kernel) (by decide +kernel)
theorem d_KM_init_4 : decode b_KM_init 4 = .ok (.aload_n 0, 1) := by decide +kernel
theorem d_KM_init_5 : decode b_KM_init 5 = .ok (.new 9, 3) := by decide +kernel
theorem q_75 : Cond.classLink "TwinKeepers$KeyMap" 9 "java/util/ArrayList" ∈ xT := xin 75 (by decide +kernel) (by decide +kernel)
theorem d_KM_init_8 : decode b_KM_init 8 = .ok (.dup, 1) := by decide +kernel
theorem d_KM_init_9 : decode b_KM_init 9 = .ok (.invokespecial 11, 3) := by decide +kernel
theorem q_76 : Cond.methodLink "TwinKeepers$KeyMap" 11 ⟨"java/util/ArrayList", "<init>", "()V"⟩ ∈ xT := xin 76 (by decide +kernel) (by decide +kernel)
theorem d_KM_init_12 : decode b_KM_init 12 = .ok (.putfield 12, 3) := by decide +kernel
theorem q_77 : Cond.fieldLink "TwinKeepers$KeyMap" 12 "TwinKeepers$KeyMap" "entries" "Ljava/util/ArrayList;" ∈ xT := xin 77 (by decide +kernel) (by decide +kernel)
theorem d_KM_init_15 : decode b_KM_init 15 = .ok (.aload_n 0, 1) := by decide +kernel
theorem d_KM_init_16 : decode b_KM_init 16 = .ok (.iconst 0, 1) := by decide +kernel
theorem d_KM_init_17 : decode b_KM_init 17 = .ok (.putfield 18, 3) := by decide +kernel
theorem q_80 : Cond.fieldLink "TwinKeepers$KeyMap" 18 "TwinKeepers$KeyMap" "units" "I" ∈ xT := xin 80 (by decide +kernel) (by decide +kernel)
theorem d_KM_init_20 : decode b_KM_init 20 = .ok (.return_, 1) := by decide +kernel
abbrev b_Ro_init : ByteArray := prog_5_method_1_code
def y_Ro_init : MethodName := ⟨"TwinKeepers$Row", "<init>", "()V"⟩
theorem kc_Ro_init : Cond.code y_Ro_init b_Ro_init 1 none ∈ xT := xin 105 (by decide +kernel) (by decide +kernel)
theorem k_Ro_init : xCode y_Ro_init b_Ro_init 1 none [] := Or.inl ⟨rfl, kc_Ro_init⟩
theorem h_Ro_init : plainFor y_Ro_init = true ∧ (y_Ro_init.cls ≠ "java/lang/invoke/MethodHandle" ∧ y_Ro_init.cls ≠ "java/lang/invoke/VarHandle") ∧ (parseMethodDescriptor y_Ro_init.desc).map (fun d => d.parameters.length) = some 0 := by decide +kernel
theorem v_Ro_init : Cond.instanceMethod y_Ro_init ∈ xT := xin 104 (by decide +kernel) (by decide +kernel)
theorem d_Ro_init_0 : decode b_Ro_init 0 = .ok (.aload_n 0, 1) := by decide +kernel
theorem d_Ro_init_1 : decode b_Ro_init 1 = .ok (.invokespecial 1, 3) := by decide +kernel
theorem q_106 : Cond.methodLink "TwinKeepers$Row" 1 ⟨"java/lang/Object", "<init>", "()V"⟩ ∈ xT := xin 106 (by decide +kernel) (by decide +kernel)
theorem d_Ro_init_4 : decode b_Ro_init 4 = .ok (.aload_n 0, 1) := by decide +kernel
theorem d_Ro_init_5 : decode b_Ro_init 5 = .ok (.sipush 256, 3) := by decide +kernel
theorem d_Ro_init_8 : decode b_Ro_init 8 = .ok (.newarray .byte, 2) := by decide +kernel
theorem d_Ro_init_10 : decode b_Ro_init 10 = .ok (.putfield 9, 3) := by decide +kernel
theorem q_107 : Cond.fieldLink "TwinKeepers$Row" 9 "TwinKeepers$Row" "bytes" "[B" ∈ xT := xin 107 (by decide +kernel) (by decide +kernel)
theorem d_Ro_init_13 : decode b_Ro_init 13 = .ok (.aload_n 0, 1) := by decide +kernel
theorem d_Ro_init_14 : decode b_Ro_init 14 = .ok (.iconst 0, 1) := by decide +kernel
theorem d_Ro_init_15 : decode b_Ro_init 15 = .ok (.putfield 13, 3) := by decide +kernel
theorem q_109 : Cond.fieldLink "TwinKeepers$Row" 13 "TwinKeepers$Row" "size" "I" ∈ xT := xin 109 (by decide +kernel) (by decide +kernel)
theorem d_Ro_init_18 : decode b_Ro_init 18 = .ok (.return_, 1) := by decide +kernel
abbrev b_TK_place : ByteArray := prog_1_method_12_code
def y_TK_place : MethodName := ⟨"TwinKeepers", "place", "()I"⟩
theorem kc_TK_place : Cond.code y_TK_place b_TK_place 1 (some .int) ∈ xT := xin 139 (by decide +kernel) (by decide +kernel)
theorem k_TK_place : xCode y_TK_place b_TK_place 1 (some .int) [] := Or.inl ⟨rfl, kc_TK_place⟩
theorem h_TK_place : plainFor y_TK_place = true ∧ (y_TK_place.cls ≠ "java/lang/invoke/MethodHandle" ∧ y_TK_place.cls ≠ "java/lang/invoke/VarHandle") ∧ (parseMethodDescriptor y_TK_place.desc).map (fun d => d.parameters.length) = some 0 := by decide +kernel
theorem v_TK_place : Cond.instanceMethod y_TK_place ∈ xT := xin 137 (by decide +kernel) (by decide +kernel)
theorem e_TK_place : Cond.selects "TwinKeepers" y_TK_place y_TK_place ∈ xT := xin 138 (by decide +kernel) (by decide +kernel)
theorem d_TK_place_0 : decode b_TK_place 0 = .ok (.aload_n 0, 1) := by decide +kernel
theorem d_TK_place_1 : decode b_TK_place 1 = .ok (.getfield 34, 3) := by decide +kernel
theorem d_TK_place_4 : decode b_TK_place 4 = .ok (.ireturn, 1) := by decide +kernel
abbrev b_TK_feed : ByteArray := prog_1_method_2_code
def y_TK_feed : MethodName := ⟨"TwinKeepers", "feed", "(JI)I"⟩
theorem kc_TK_feed : Cond.code y_TK_feed b_TK_feed 5 (some .int) ∈ xT := xin 148 (by decide +kernel) (by decide +kernel)
theorem k_TK_feed : xCode y_TK_feed b_TK_feed 5 (some .int) [] := Or.inl ⟨rfl, kc_TK_feed⟩
theorem h_TK_feed : plainFor y_TK_feed = true ∧ (y_TK_feed.cls ≠ "java/lang/invoke/MethodHandle" ∧ y_TK_feed.cls ≠ "java/lang/invoke/VarHandle") ∧ (parseMethodDescriptor y_TK_feed.desc).map (fun d => d.parameters.length) = some 2 := by decide +kernel
theorem v_TK_feed : Cond.instanceMethod y_TK_feed ∈ xT := xin 146 (by decide +kernel) (by decide +kernel)
theorem e_TK_feed : Cond.selects "TwinKeepers" y_TK_feed y_TK_feed ∈ xT := xin 147 (by decide +kernel) (by decide +kernel)
theorem d_TK_feed_0 : decode b_TK_feed 0 = .ok (.iload_n 3, 1) := by decide +kernel
theorem d_TK_feed_1 : decode b_TK_feed 1 = .ok (.iconst 1, 1) := by decide +kernel
theorem d_TK_feed_2 : decode b_TK_feed 2 = .ok (.if_icmp .lt 9, 3) := by decide +kernel
theorem d_TK_feed_5 : decode b_TK_feed 5 = .ok (.iload_n 3, 1) := by decide +kernel
theorem d_TK_feed_6 : decode b_TK_feed 6 = .ok (.bipush 8, 2) := by decide +kernel
theorem d_TK_feed_8 : decode b_TK_feed 8 = .ok (.if_icmp .le 13, 3) := by decide +kernel
theorem d_TK_feed_11 : decode b_TK_feed 11 = .ok (.new 37, 3) := by decide +kernel
theorem q_149 : Cond.classLink "TwinKeepers" 37 "java/lang/IllegalArgumentException" ∈ xT := xin 149 (by decide +kernel) (by decide +kernel)
theorem d_TK_feed_14 : decode b_TK_feed 14 = .ok (.dup, 1) := by decide +kernel
theorem d_TK_feed_15 : decode b_TK_feed 15 = .ok (.ldc 39, 2) := by decide +kernel
theorem d_TK_feed_17 : decode b_TK_feed 17 = .ok (.invokespecial 41, 3) := by decide +kernel
theorem q_191 : Cond.methodLink "TwinKeepers" 41 ⟨"java/lang/IllegalArgumentException", "<init>", "(Ljava/lang/String;)V"⟩ ∈ xT := xin 191 (by decide +kernel) (by decide +kernel)
theorem d_TK_feed_20 : decode b_TK_feed 20 = .ok (.athrow, 1) := by decide +kernel
theorem d_TK_feed_21 : decode b_TK_feed 21 = .ok (.aload_n 0, 1) := by decide +kernel
theorem d_TK_feed_22 : decode b_TK_feed 22 = .ok (.getfield 30, 3) := by decide +kernel
theorem d_TK_feed_25 : decode b_TK_feed 25 = .ok (.iload_n 3, 1) := by decide +kernel
theorem d_TK_feed_26 : decode b_TK_feed 26 = .ok (.iadd, 1) := by decide +kernel
theorem d_TK_feed_27 : decode b_TK_feed 27 = .ok (.sipush 300, 3) := by decide +kernel
theorem d_TK_feed_30 : decode b_TK_feed 30 = .ok (.if_icmp .le 13, 3) := by decide +kernel
theorem d_TK_feed_33 : decode b_TK_feed 33 = .ok (.new 44, 3) := by decide +kernel
theorem q_216 : Cond.classLink "TwinKeepers" 44 "java/lang/IllegalStateException" ∈ xT := xin 216 (by decide +kernel) (by decide +kernel)
theorem d_TK_feed_36 : decode b_TK_feed 36 = .ok (.dup, 1) := by decide +kernel
theorem d_TK_feed_37 : decode b_TK_feed 37 = .ok (.ldc 46, 2) := by decide +kernel
theorem d_TK_feed_39 : decode b_TK_feed 39 = .ok (.invokespecial 48, 3) := by decide +kernel
theorem q_226 : Cond.methodLink "TwinKeepers" 48 ⟨"java/lang/IllegalStateException", "<init>", "(Ljava/lang/String;)V"⟩ ∈ xT := xin 226 (by decide +kernel) (by decide +kernel)
theorem d_TK_feed_42 : decode b_TK_feed 42 = .ok (.athrow, 1) := by decide +kernel
theorem d_TK_feed_43 : decode b_TK_feed 43 = .ok (.iconst 0, 1) := by decide +kernel
theorem d_TK_feed_44 : decode b_TK_feed 44 = .ok (.istore 4, 2) := by decide +kernel
theorem d_TK_feed_46 : decode b_TK_feed 46 = .ok (.iload 4, 2) := by decide +kernel
theorem d_TK_feed_48 : decode b_TK_feed 48 = .ok (.iload_n 3, 1) := by decide +kernel
theorem d_TK_feed_49 : decode b_TK_feed 49 = .ok (.if_icmp .ge 30, 3) := by decide +kernel
theorem d_TK_feed_52 : decode b_TK_feed 52 = .ok (.aload_n 0, 1) := by decide +kernel
theorem d_TK_feed_53 : decode b_TK_feed 53 = .ok (.getfield 19, 3) := by decide +kernel
theorem d_TK_feed_56 : decode b_TK_feed 56 = .ok (.aload_n 0, 1) := by decide +kernel
theorem d_TK_feed_57 : decode b_TK_feed 57 = .ok (.getfield 30, 3) := by decide +kernel
theorem d_TK_feed_60 : decode b_TK_feed 60 = .ok (.iload 4, 2) := by decide +kernel
theorem d_TK_feed_62 : decode b_TK_feed 62 = .ok (.iadd, 1) := by decide +kernel
theorem d_TK_feed_63 : decode b_TK_feed 63 = .ok (.lload_n 1, 1) := by decide +kernel
theorem d_TK_feed_64 : decode b_TK_feed 64 = .ok (.bipush 8, 2) := by decide +kernel
theorem d_TK_feed_66 : decode b_TK_feed 66 = .ok (.iload 4, 2) := by decide +kernel
theorem d_TK_feed_68 : decode b_TK_feed 68 = .ok (.imul, 1) := by decide +kernel
theorem d_TK_feed_69 : decode b_TK_feed 69 = .ok (.lushr, 1) := by decide +kernel
theorem d_TK_feed_70 : decode b_TK_feed 70 = .ok (.l2i, 1) := by decide +kernel
theorem d_TK_feed_71 : decode b_TK_feed 71 = .ok (.i2b, 1) := by decide +kernel
theorem d_TK_feed_72 : decode b_TK_feed 72 = .ok (.bastore, 1) := by decide +kernel
theorem d_TK_feed_73 : decode b_TK_feed 73 = .ok (.iinc 4 1, 3) := by decide +kernel
theorem d_TK_feed_76 : decode b_TK_feed 76 = .ok (.goto (-30), 3) := by decide +kernel
theorem d_TK_feed_79 : decode b_TK_feed 79 = .ok (.aload_n 0, 1) := by decide +kernel
theorem d_TK_feed_80 : decode b_TK_feed 80 = .ok (.dup, 1) := by decide +kernel
theorem d_TK_feed_81 : decode b_TK_feed 81 = .ok (.getfield 30, 3) := by decide +kernel
theorem d_TK_feed_84 : decode b_TK_feed 84 = .ok (.iload_n 3, 1) := by decide +kernel
theorem d_TK_feed_85 : decode b_TK_feed 85 = .ok (.iadd, 1) := by decide +kernel
theorem d_TK_feed_86 : decode b_TK_feed 86 = .ok (.putfield 30, 3) := by decide +kernel
theorem d_TK_feed_89 : decode b_TK_feed 89 = .ok (.aload_n 0, 1) := by decide +kernel
theorem d_TK_feed_90 : decode b_TK_feed 90 = .ok (.getfield 30, 3) := by decide +kernel
theorem d_TK_feed_93 : decode b_TK_feed 93 = .ok (.ireturn, 1) := by decide +kernel
abbrev b_TK_open : ByteArray := prog_1_method_3_code
def y_TK_open : MethodName := ⟨"TwinKeepers", "open", "(II)I"⟩
theorem kc_TK_open : Cond.code y_TK_open b_TK_open 4 (some .int) ∈ xT := xin 239 (by decide +kernel) (by decide +kernel)
theorem k_TK_open : xCode y_TK_open b_TK_open 4 (some .int) [] := Or.inl ⟨rfl, kc_TK_open⟩
theorem h_TK_open : plainFor y_TK_open = true ∧ (y_TK_open.cls ≠ "java/lang/invoke/MethodHandle" ∧ y_TK_open.cls ≠ "java/lang/invoke/VarHandle") ∧ (parseMethodDescriptor y_TK_open.desc).map (fun d => d.parameters.length) = some 2 := by decide +kernel
theorem v_TK_open : Cond.instanceMethod y_TK_open ∈ xT := xin 237 (by decide +kernel) (by decide +kernel)
theorem e_TK_open : Cond.selects "TwinKeepers" y_TK_open y_TK_open ∈ xT := xin 238 (by decide +kernel) (by decide +kernel)
theorem d_TK_open_0 : decode b_TK_open 0 = .ok (.aload_n 0, 1) := by decide +kernel
theorem d_TK_open_1 : decode b_TK_open 1 = .ok (.iload_n 1, 1) := by decide +kernel
theorem d_TK_open_2 : decode b_TK_open 2 = .ok (.invokevirtual 49, 3) := by decide +kernel
theorem q_240 : Cond.methodLink "TwinKeepers" 49 ⟨"TwinKeepers", "machineOf", "(I)LTwinKeepers$Machine;"⟩ ∈ xT := xin 240 (by decide +kernel) (by decide +kernel)
theorem d_TK_open_5 : decode b_TK_open 5 = .ok (.astore_n 3, 1) := by decide +kernel
theorem d_TK_open_6 : decode b_TK_open 6 = .ok (.aload_n 3, 1) := by decide +kernel
theorem d_TK_open_7 : decode b_TK_open 7 = .ok (.iload_n 2, 1) := by decide +kernel
theorem d_TK_open_8 : decode b_TK_open 8 = .ok (.invokevirtual 53, 3) := by decide +kernel
theorem q_260 : Cond.methodLink "TwinKeepers" 53 ⟨"TwinKeepers$Machine", "takes", "(I)Z"⟩ ∈ xT := xin 260 (by decide +kernel) (by decide +kernel)
theorem d_TK_open_11 : decode b_TK_open 11 = .ok (.ifCond .ne 13, 3) := by decide +kernel
theorem d_TK_open_14 : decode b_TK_open 14 = .ok (.new 37, 3) := by decide +kernel
theorem d_TK_open_17 : decode b_TK_open 17 = .ok (.dup, 1) := by decide +kernel
theorem d_TK_open_18 : decode b_TK_open 18 = .ok (.ldc 57, 2) := by decide +kernel
theorem d_TK_open_20 : decode b_TK_open 20 = .ok (.invokespecial 41, 3) := by decide +kernel
theorem d_TK_open_23 : decode b_TK_open 23 = .ok (.athrow, 1) := by decide +kernel
theorem d_TK_open_24 : decode b_TK_open 24 = .ok (.aload_n 3, 1) := by decide +kernel
theorem d_TK_open_25 : decode b_TK_open 25 = .ok (.iload_n 2, 1) := by decide +kernel
theorem d_TK_open_26 : decode b_TK_open 26 = .ok (.invokevirtual 59, 3) := by decide +kernel
theorem q_266 : Cond.methodLink "TwinKeepers" 59 ⟨"TwinKeepers$Machine", "addSession", "(I)V"⟩ ∈ xT := xin 266 (by decide +kernel) (by decide +kernel)
theorem d_TK_open_29 : decode b_TK_open 29 = .ok (.aload_n 0, 1) := by decide +kernel
theorem d_TK_open_30 : decode b_TK_open 30 = .ok (.iload_n 2, 1) := by decide +kernel
theorem d_TK_open_31 : decode b_TK_open 31 = .ok (.putfield 34, 3) := by decide +kernel
theorem d_TK_open_34 : decode b_TK_open 34 = .ok (.aload_n 3, 1) := by decide +kernel
theorem d_TK_open_35 : decode b_TK_open 35 = .ok (.getfield 63, 3) := by decide +kernel
theorem q_89 : Cond.fieldLink "TwinKeepers" 63 "TwinKeepers$Machine" "sessions" "Ljava/util/ArrayList;" ∈ xT := xin 89 (by decide +kernel) (by decide +kernel)
theorem d_TK_open_38 : decode b_TK_open 38 = .ok (.invokevirtual 67, 3) := by decide +kernel
theorem q_392 : Cond.methodLink "TwinKeepers" 67 ⟨"java/util/ArrayList", "size", "()I"⟩ ∈ xT := xin 392 (by decide +kernel) (by decide +kernel)
theorem d_TK_open_41 : decode b_TK_open 41 = .ok (.ireturn, 1) := by decide +kernel
abbrev b_TK_machineOf : ByteArray := prog_1_method_14_code
def y_TK_machineOf : MethodName := ⟨"TwinKeepers", "machineOf", "(I)LTwinKeepers$Machine;"⟩
theorem kc_TK_machineOf : Cond.code y_TK_machineOf b_TK_machineOf 2 (some (.object "TwinKeepers$Machine")) ∈ xT := xin 243 (by decide +kernel) (by decide +kernel)
theorem k_TK_machineOf : xCode y_TK_machineOf b_TK_machineOf 2 (some (.object "TwinKeepers$Machine")) [] := Or.inl ⟨rfl, kc_TK_machineOf⟩
theorem h_TK_machineOf : plainFor y_TK_machineOf = true ∧ (y_TK_machineOf.cls ≠ "java/lang/invoke/MethodHandle" ∧ y_TK_machineOf.cls ≠ "java/lang/invoke/VarHandle") ∧ (parseMethodDescriptor y_TK_machineOf.desc).map (fun d => d.parameters.length) = some 1 := by decide +kernel
theorem v_TK_machineOf : Cond.instanceMethod y_TK_machineOf ∈ xT := xin 242 (by decide +kernel) (by decide +kernel)
theorem e_TK_machineOf : Cond.selects "TwinKeepers" y_TK_machineOf y_TK_machineOf ∈ xT := xinp 1 (by decide +kernel) (by decide +kernel)
theorem d_TK_machineOf_0 : decode b_TK_machineOf 0 = .ok (.iload_n 1, 1) := by decide +kernel
theorem d_TK_machineOf_1 : decode b_TK_machineOf 1 = .ok (.ifCond .lt 8, 3) := by decide +kernel
theorem d_TK_machineOf_4 : decode b_TK_machineOf 4 = .ok (.iload_n 1, 1) := by decide +kernel
theorem d_TK_machineOf_5 : decode b_TK_machineOf 5 = .ok (.iconst 1, 1) := by decide +kernel
theorem d_TK_machineOf_6 : decode b_TK_machineOf 6 = .ok (.if_icmp .le 13, 3) := by decide +kernel
theorem d_TK_machineOf_9 : decode b_TK_machineOf 9 = .ok (.new 171, 3) := by decide +kernel
theorem q_244 : Cond.classLink "TwinKeepers" 171 "java/lang/IndexOutOfBoundsException" ∈ xT := xin 244 (by decide +kernel) (by decide +kernel)
theorem d_TK_machineOf_12 : decode b_TK_machineOf 12 = .ok (.dup, 1) := by decide +kernel
theorem d_TK_machineOf_13 : decode b_TK_machineOf 13 = .ok (.ldc 209, 2) := by decide +kernel
theorem d_TK_machineOf_15 : decode b_TK_machineOf 15 = .ok (.invokespecial 175, 3) := by decide +kernel
theorem q_254 : Cond.methodLink "TwinKeepers" 175 ⟨"java/lang/IndexOutOfBoundsException", "<init>", "(Ljava/lang/String;)V"⟩ ∈ xT := xin 254 (by decide +kernel) (by decide +kernel)
theorem d_TK_machineOf_18 : decode b_TK_machineOf 18 = .ok (.athrow, 1) := by decide +kernel
theorem d_TK_machineOf_19 : decode b_TK_machineOf 19 = .ok (.iload_n 1, 1) := by decide +kernel
theorem d_TK_machineOf_20 : decode b_TK_machineOf 20 = .ok (.ifCond .ne 10, 3) := by decide +kernel
theorem d_TK_machineOf_23 : decode b_TK_machineOf 23 = .ok (.aload_n 0, 1) := by decide +kernel
theorem d_TK_machineOf_24 : decode b_TK_machineOf 24 = .ok (.getfield 10, 3) := by decide +kernel
theorem d_TK_machineOf_27 : decode b_TK_machineOf 27 = .ok (.goto 7, 3) := by decide +kernel
theorem d_TK_machineOf_30 : decode b_TK_machineOf 30 = .ok (.aload_n 0, 1) := by decide +kernel
theorem d_TK_machineOf_31 : decode b_TK_machineOf 31 = .ok (.getfield 16, 3) := by decide +kernel
theorem d_TK_machineOf_34 : decode b_TK_machineOf 34 = .ok (.areturn, 1) := by decide +kernel
abbrev b_Ma_takes : ByteArray := prog_4_method_2_code
def y_Ma_takes : MethodName := ⟨"TwinKeepers$Machine", "takes", "(I)Z"⟩
theorem kc_Ma_takes : Cond.code y_Ma_takes b_Ma_takes 2 (some .boolean) ∈ xT := xin 263 (by decide +kernel) (by decide +kernel)
theorem k_Ma_takes : xCode y_Ma_takes b_Ma_takes 2 (some .boolean) [] := Or.inl ⟨rfl, kc_Ma_takes⟩
theorem h_Ma_takes : plainFor y_Ma_takes = true ∧ (y_Ma_takes.cls ≠ "java/lang/invoke/MethodHandle" ∧ y_Ma_takes.cls ≠ "java/lang/invoke/VarHandle") ∧ (parseMethodDescriptor y_Ma_takes.desc).map (fun d => d.parameters.length) = some 1 := by decide +kernel
theorem v_Ma_takes : Cond.instanceMethod y_Ma_takes ∈ xT := xin 261 (by decide +kernel) (by decide +kernel)
theorem e_Ma_takes : Cond.selects "TwinKeepers$Machine" y_Ma_takes y_Ma_takes ∈ xT := xin 262 (by decide +kernel) (by decide +kernel)
theorem d_Ma_takes_0 : decode b_Ma_takes 0 = .ok (.iload_n 1, 1) := by decide +kernel
theorem d_Ma_takes_1 : decode b_Ma_takes 1 = .ok (.aload_n 0, 1) := by decide +kernel
theorem d_Ma_takes_2 : decode b_Ma_takes 2 = .ok (.getfield 25, 3) := by decide +kernel
theorem d_Ma_takes_5 : decode b_Ma_takes 5 = .ok (.if_icmp .le 13, 3) := by decide +kernel
theorem d_Ma_takes_8 : decode b_Ma_takes 8 = .ok (.iload_n 1, 1) := by decide +kernel
theorem d_Ma_takes_9 : decode b_Ma_takes 9 = .ok (.ldc 29, 2) := by decide +kernel
theorem q_264 : Cond.constant "TwinKeepers$Machine" 29 (1000000) ∈ xT := xin 264 (by decide +kernel) (by decide +kernel)
theorem d_Ma_takes_11 : decode b_Ma_takes 11 = .ok (.if_icmp .gt 7, 3) := by decide +kernel
theorem d_Ma_takes_14 : decode b_Ma_takes 14 = .ok (.iconst 1, 1) := by decide +kernel
theorem d_Ma_takes_15 : decode b_Ma_takes 15 = .ok (.goto 4, 3) := by decide +kernel
theorem d_Ma_takes_18 : decode b_Ma_takes 18 = .ok (.iconst 0, 1) := by decide +kernel
theorem d_Ma_takes_19 : decode b_Ma_takes 19 = .ok (.ireturn, 1) := by decide +kernel
abbrev b_Ma_addSession : ByteArray := prog_4_method_3_code
def y_Ma_addSession : MethodName := ⟨"TwinKeepers$Machine", "addSession", "(I)V"⟩
theorem kc_Ma_addSession : Cond.code y_Ma_addSession b_Ma_addSession 2 none ∈ xT := xin 269 (by decide +kernel) (by decide +kernel)
theorem k_Ma_addSession : xCode y_Ma_addSession b_Ma_addSession 2 none [] := Or.inl ⟨rfl, kc_Ma_addSession⟩
theorem h_Ma_addSession : plainFor y_Ma_addSession = true ∧ (y_Ma_addSession.cls ≠ "java/lang/invoke/MethodHandle" ∧ y_Ma_addSession.cls ≠ "java/lang/invoke/VarHandle") ∧ (parseMethodDescriptor y_Ma_addSession.desc).map (fun d => d.parameters.length) = some 1 := by decide +kernel
theorem v_Ma_addSession : Cond.instanceMethod y_Ma_addSession ∈ xT := xin 267 (by decide +kernel) (by decide +kernel)
theorem e_Ma_addSession : Cond.selects "TwinKeepers$Machine" y_Ma_addSession y_Ma_addSession ∈ xT := xin 268 (by decide +kernel) (by decide +kernel)
theorem d_Ma_addSession_0 : decode b_Ma_addSession 0 = .ok (.aload_n 0, 1) := by decide +kernel
theorem d_Ma_addSession_1 : decode b_Ma_addSession 1 = .ok (.getfield 12, 3) := by decide +kernel
theorem d_Ma_addSession_4 : decode b_Ma_addSession 4 = .ok (.invokevirtual 30, 3) := by decide +kernel
theorem q_270 : Cond.methodLink "TwinKeepers$Machine" 30 ⟨"java/util/ArrayList", "size", "()I"⟩ ∈ xT := xin 270 (by decide +kernel) (by decide +kernel)
theorem d_Ma_addSession_7 : decode b_Ma_addSession 7 = .ok (.bipush 16, 2) := by decide +kernel
theorem d_Ma_addSession_9 : decode b_Ma_addSession 9 = .ok (.if_icmp .lt 15, 3) := by decide +kernel
theorem d_Ma_addSession_12 : decode b_Ma_addSession 12 = .ok (.aload_n 0, 1) := by decide +kernel
theorem d_Ma_addSession_13 : decode b_Ma_addSession 13 = .ok (.getfield 12, 3) := by decide +kernel
theorem d_Ma_addSession_16 : decode b_Ma_addSession 16 = .ok (.aload_n 0, 1) := by decide +kernel
theorem d_Ma_addSession_17 : decode b_Ma_addSession 17 = .ok (.invokevirtual 34, 3) := by decide +kernel
theorem q_274 : Cond.methodLink "TwinKeepers$Machine" 34 ⟨"TwinKeepers$Machine", "longestUnused", "()I"⟩ ∈ xT := xin 274 (by decide +kernel) (by decide +kernel)
theorem d_Ma_addSession_20 : decode b_Ma_addSession 20 = .ok (.invokevirtual 37, 3) := by decide +kernel
theorem q_293 : Cond.methodLink "TwinKeepers$Machine" 37 ⟨"java/util/ArrayList", "remove", "(I)Ljava/lang/Object;"⟩ ∈ xT := xin 293 (by decide +kernel) (by decide +kernel)
theorem d_Ma_addSession_23 : decode b_Ma_addSession 23 = .ok (.pop, 1) := by decide +kernel
theorem d_Ma_addSession_24 : decode b_Ma_addSession 24 = .ok (.aload_n 0, 1) := by decide +kernel
theorem d_Ma_addSession_25 : decode b_Ma_addSession 25 = .ok (.getfield 12, 3) := by decide +kernel
theorem d_Ma_addSession_28 : decode b_Ma_addSession 28 = .ok (.new 41, 3) := by decide +kernel
theorem q_292 : Cond.classLink "TwinKeepers$Machine" 41 "TwinKeepers$Session" ∈ xT := xin 292 (by decide +kernel) (by decide +kernel)
theorem d_Ma_addSession_31 : decode b_Ma_addSession 31 = .ok (.dup, 1) := by decide +kernel
theorem d_Ma_addSession_32 : decode b_Ma_addSession 32 = .ok (.iload_n 1, 1) := by decide +kernel
theorem d_Ma_addSession_33 : decode b_Ma_addSession 33 = .ok (.iload_n 1, 1) := by decide +kernel
theorem d_Ma_addSession_34 : decode b_Ma_addSession 34 = .ok (.iconst 0, 1) := by decide +kernel
theorem d_Ma_addSession_35 : decode b_Ma_addSession 35 = .ok (.iload_n 1, 1) := by decide +kernel
theorem d_Ma_addSession_36 : decode b_Ma_addSession 36 = .ok (.getstatic 43, 3) := by decide +kernel
theorem q_305 : Cond.fieldLinkNest "TwinKeepers$Machine" 43 "TwinKeepers" "EMPTY" "[B" "TwinKeepers" ∈ xT := xin 305 (by decide +kernel) (by decide +kernel)
theorem d_Ma_addSession_39 : decode b_Ma_addSession 39 = .ok (.invokespecial 47, 3) := by decide +kernel
theorem q_307 : Cond.methodLink "TwinKeepers$Machine" 47 ⟨"TwinKeepers$Session", "<init>", "(IIII[B)V"⟩ ∈ xT := xin 307 (by decide +kernel) (by decide +kernel)
theorem d_Ma_addSession_42 : decode b_Ma_addSession 42 = .ok (.invokevirtual 50, 3) := by decide +kernel
theorem q_334 : Cond.methodLink "TwinKeepers$Machine" 50 ⟨"java/util/ArrayList", "add", "(Ljava/lang/Object;)Z"⟩ ∈ xT := xin 334 (by decide +kernel) (by decide +kernel)
theorem d_Ma_addSession_45 : decode b_Ma_addSession 45 = .ok (.pop, 1) := by decide +kernel
theorem d_Ma_addSession_46 : decode b_Ma_addSession 46 = .ok (.aload_n 0, 1) := by decide +kernel
theorem d_Ma_addSession_47 : decode b_Ma_addSession 47 = .ok (.iload_n 1, 1) := by decide +kernel
theorem d_Ma_addSession_48 : decode b_Ma_addSession 48 = .ok (.putfield 25, 3) := by decide +kernel
theorem d_Ma_addSession_51 : decode b_Ma_addSession 51 = .ok (.return_, 1) := by decide +kernel
abbrev b_Ma_longestUnused : ByteArray := prog_4_method_5_code
def y_Ma_longestUnused : MethodName := ⟨"TwinKeepers$Machine", "longestUnused", "()I"⟩
theorem kc_Ma_longestUnused : Cond.code y_Ma_longestUnused b_Ma_longestUnused 3 (some .int) ∈ xT := xin 277 (by decide +kernel) (by decide +kernel)
theorem k_Ma_longestUnused : xCode y_Ma_longestUnused b_Ma_longestUnused 3 (some .int) [] := Or.inl ⟨rfl, kc_Ma_longestUnused⟩
theorem h_Ma_longestUnused : plainFor y_Ma_longestUnused = true ∧ (y_Ma_longestUnused.cls ≠ "java/lang/invoke/MethodHandle" ∧ y_Ma_longestUnused.cls ≠ "java/lang/invoke/VarHandle") ∧ (parseMethodDescriptor y_Ma_longestUnused.desc).map (fun d => d.parameters.length) = some 0 := by decide +kernel
theorem v_Ma_longestUnused : Cond.instanceMethod y_Ma_longestUnused ∈ xT := xin 276 (by decide +kernel) (by decide +kernel)
theorem e_Ma_longestUnused : Cond.selects "TwinKeepers$Machine" y_Ma_longestUnused y_Ma_longestUnused ∈ xT := xinp 2 (by decide +kernel) (by decide +kernel)
theorem d_Ma_longestUnused_0 : decode b_Ma_longestUnused 0 = .ok (.iconst 0, 1) := by decide +kernel
theorem d_Ma_longestUnused_1 : decode b_Ma_longestUnused 1 = .ok (.istore_n 1, 1) := by decide +kernel
theorem d_Ma_longestUnused_2 : decode b_Ma_longestUnused 2 = .ok (.iconst 1, 1) := by decide +kernel
theorem d_Ma_longestUnused_3 : decode b_Ma_longestUnused 3 = .ok (.istore_n 2, 1) := by decide +kernel
theorem d_Ma_longestUnused_4 : decode b_Ma_longestUnused 4 = .ok (.iload_n 2, 1) := by decide +kernel
theorem d_Ma_longestUnused_5 : decode b_Ma_longestUnused 5 = .ok (.aload_n 0, 1) := by decide +kernel
theorem d_Ma_longestUnused_6 : decode b_Ma_longestUnused 6 = .ok (.getfield 12, 3) := by decide +kernel
theorem d_Ma_longestUnused_9 : decode b_Ma_longestUnused 9 = .ok (.invokevirtual 30, 3) := by decide +kernel
theorem d_Ma_longestUnused_12 : decode b_Ma_longestUnused 12 = .ok (.if_icmp .ge 42, 3) := by decide +kernel
theorem d_Ma_longestUnused_15 : decode b_Ma_longestUnused 15 = .ok (.aload_n 0, 1) := by decide +kernel
theorem d_Ma_longestUnused_16 : decode b_Ma_longestUnused 16 = .ok (.getfield 12, 3) := by decide +kernel
theorem d_Ma_longestUnused_19 : decode b_Ma_longestUnused 19 = .ok (.iload_n 2, 1) := by decide +kernel
theorem d_Ma_longestUnused_20 : decode b_Ma_longestUnused 20 = .ok (.invokevirtual 54, 3) := by decide +kernel
theorem q_278 : Cond.methodLink "TwinKeepers$Machine" 54 ⟨"java/util/ArrayList", "get", "(I)Ljava/lang/Object;"⟩ ∈ xT := xin 278 (by decide +kernel) (by decide +kernel)
theorem d_Ma_longestUnused_23 : decode b_Ma_longestUnused 23 = .ok (.checkcast 41, 3) := by decide +kernel
theorem d_Ma_longestUnused_26 : decode b_Ma_longestUnused 26 = .ok (.getfield 60, 3) := by decide +kernel
theorem q_315 : Cond.fieldLink "TwinKeepers$Machine" 60 "TwinKeepers$Session" "used" "I" ∈ xT := xin 315 (by decide +kernel) (by decide +kernel)
theorem d_Ma_longestUnused_29 : decode b_Ma_longestUnused 29 = .ok (.aload_n 0, 1) := by decide +kernel
theorem d_Ma_longestUnused_30 : decode b_Ma_longestUnused 30 = .ok (.getfield 12, 3) := by decide +kernel
theorem d_Ma_longestUnused_33 : decode b_Ma_longestUnused 33 = .ok (.iload_n 1, 1) := by decide +kernel
theorem d_Ma_longestUnused_34 : decode b_Ma_longestUnused 34 = .ok (.invokevirtual 54, 3) := by decide +kernel
theorem d_Ma_longestUnused_37 : decode b_Ma_longestUnused 37 = .ok (.checkcast 41, 3) := by decide +kernel
theorem d_Ma_longestUnused_40 : decode b_Ma_longestUnused 40 = .ok (.getfield 60, 3) := by decide +kernel
theorem d_Ma_longestUnused_43 : decode b_Ma_longestUnused 43 = .ok (.if_icmp .ge 5, 3) := by decide +kernel
theorem d_Ma_longestUnused_46 : decode b_Ma_longestUnused 46 = .ok (.iload_n 2, 1) := by decide +kernel
theorem d_Ma_longestUnused_47 : decode b_Ma_longestUnused 47 = .ok (.istore_n 1, 1) := by decide +kernel
theorem d_Ma_longestUnused_48 : decode b_Ma_longestUnused 48 = .ok (.iinc 2 1, 3) := by decide +kernel
theorem d_Ma_longestUnused_51 : decode b_Ma_longestUnused 51 = .ok (.goto (-47), 3) := by decide +kernel
theorem d_Ma_longestUnused_54 : decode b_Ma_longestUnused 54 = .ok (.iload_n 1, 1) := by decide +kernel
theorem d_Ma_longestUnused_55 : decode b_Ma_longestUnused 55 = .ok (.ireturn, 1) := by decide +kernel
abbrev b_Se_init : ByteArray := prog_6_method_1_code
def y_Se_init : MethodName := ⟨"TwinKeepers$Session", "<init>", "(IIII[B)V"⟩
theorem kc_Se_init : Cond.code y_Se_init b_Se_init 6 none ∈ xT := xin 309 (by decide +kernel) (by decide +kernel)
theorem k_Se_init : xCode y_Se_init b_Se_init 6 none [] := Or.inl ⟨rfl, kc_Se_init⟩
theorem h_Se_init : plainFor y_Se_init = true ∧ (y_Se_init.cls ≠ "java/lang/invoke/MethodHandle" ∧ y_Se_init.cls ≠ "java/lang/invoke/VarHandle") ∧ (parseMethodDescriptor y_Se_init.desc).map (fun d => d.parameters.length) = some 5 := by decide +kernel
theorem v_Se_init : Cond.instanceMethod y_Se_init ∈ xT := xin 308 (by decide +kernel) (by decide +kernel)
theorem d_Se_init_0 : decode b_Se_init 0 = .ok (.aload_n 0, 1) := by decide +kernel
theorem d_Se_init_1 : decode b_Se_init 1 = .ok (.invokespecial 1, 3) := by decide +kernel
theorem q_310 : Cond.methodLink "TwinKeepers$Session" 1 ⟨"java/lang/Object", "<init>", "()V"⟩ ∈ xT := xin 310 (by decide +kernel) (by decide +kernel)
theorem d_Se_init_4 : decode b_Se_init 4 = .ok (.aload_n 0, 1) := by decide +kernel
theorem d_Se_init_5 : decode b_Se_init 5 = .ok (.iload_n 1, 1) := by decide +kernel
theorem d_Se_init_6 : decode b_Se_init 6 = .ok (.putfield 7, 3) := by decide +kernel
theorem q_311 : Cond.fieldLink "TwinKeepers$Session" 7 "TwinKeepers$Session" "number" "I" ∈ xT := xin 311 (by decide +kernel) (by decide +kernel)
theorem d_Se_init_9 : decode b_Se_init 9 = .ok (.aload_n 0, 1) := by decide +kernel
theorem d_Se_init_10 : decode b_Se_init 10 = .ok (.iload_n 2, 1) := by decide +kernel
theorem d_Se_init_11 : decode b_Se_init 11 = .ok (.putfield 13, 3) := by decide +kernel
theorem q_314 : Cond.fieldLink "TwinKeepers$Session" 13 "TwinKeepers$Session" "used" "I" ∈ xT := xin 314 (by decide +kernel) (by decide +kernel)
theorem d_Se_init_14 : decode b_Se_init 14 = .ok (.aload_n 0, 1) := by decide +kernel
theorem d_Se_init_15 : decode b_Se_init 15 = .ok (.iload_n 3, 1) := by decide +kernel
theorem d_Se_init_16 : decode b_Se_init 16 = .ok (.putfield 16, 3) := by decide +kernel
theorem q_317 : Cond.fieldLink "TwinKeepers$Session" 16 "TwinKeepers$Session" "serial" "I" ∈ xT := xin 317 (by decide +kernel) (by decide +kernel)
theorem d_Se_init_19 : decode b_Se_init 19 = .ok (.aload_n 0, 1) := by decide +kernel
theorem d_Se_init_20 : decode b_Se_init 20 = .ok (.iload 4, 2) := by decide +kernel
theorem d_Se_init_22 : decode b_Se_init 22 = .ok (.putfield 19, 3) := by decide +kernel
theorem q_319 : Cond.fieldLink "TwinKeepers$Session" 19 "TwinKeepers$Session" "answerPlace" "I" ∈ xT := xin 319 (by decide +kernel) (by decide +kernel)
theorem d_Se_init_25 : decode b_Se_init 25 = .ok (.aload_n 0, 1) := by decide +kernel
theorem d_Se_init_26 : decode b_Se_init 26 = .ok (.aload 5, 2) := by decide +kernel
theorem d_Se_init_28 : decode b_Se_init 28 = .ok (.putfield 22, 3) := by decide +kernel
theorem q_321 : Cond.fieldLink "TwinKeepers$Session" 22 "TwinKeepers$Session" "answer" "[B" ∈ xT := xin 321 (by decide +kernel) (by decide +kernel)
theorem d_Se_init_31 : decode b_Se_init 31 = .ok (.return_, 1) := by decide +kernel
abbrev b_TK_run : ByteArray := prog_1_method_4_code
def y_TK_run : MethodName := ⟨"TwinKeepers", "run", "(IIIII)I"⟩
theorem kc_TK_run : Cond.code y_TK_run b_TK_run 10 (some .int) ∈ xT := xin 399 (by decide +kernel) (by decide +kernel)
theorem k_TK_run : xCode y_TK_run b_TK_run 10 (some .int) [] := Or.inl ⟨rfl, kc_TK_run⟩
theorem h_TK_run : plainFor y_TK_run = true ∧ (y_TK_run.cls ≠ "java/lang/invoke/MethodHandle" ∧ y_TK_run.cls ≠ "java/lang/invoke/VarHandle") ∧ (parseMethodDescriptor y_TK_run.desc).map (fun d => d.parameters.length) = some 5 := by decide +kernel
theorem v_TK_run : Cond.instanceMethod y_TK_run ∈ xT := xin 397 (by decide +kernel) (by decide +kernel)
theorem e_TK_run : Cond.selects "TwinKeepers" y_TK_run y_TK_run ∈ xT := xin 398 (by decide +kernel) (by decide +kernel)
theorem d_TK_run_0 : decode b_TK_run 0 = .ok (.aload_n 0, 1) := by decide +kernel
theorem d_TK_run_1 : decode b_TK_run 1 = .ok (.invokevirtual 73, 3) := by decide +kernel
theorem q_400 : Cond.methodLink "TwinKeepers" 73 ⟨"TwinKeepers", "takeTape", "()I"⟩ ∈ xT := xin 400 (by decide +kernel) (by decide +kernel)
theorem d_TK_run_4 : decode b_TK_run 4 = .ok (.istore 6, 2) := by decide +kernel
theorem d_TK_run_6 : decode b_TK_run 6 = .ok (.aload_n 0, 1) := by decide +kernel
theorem d_TK_run_7 : decode b_TK_run 7 = .ok (.iload_n 1, 1) := by decide +kernel
theorem d_TK_run_8 : decode b_TK_run 8 = .ok (.invokevirtual 49, 3) := by decide +kernel
theorem d_TK_run_11 : decode b_TK_run 11 = .ok (.astore 7, 2) := by decide +kernel
theorem d_TK_run_13 : decode b_TK_run 13 = .ok (.aload 7, 2) := by decide +kernel
theorem d_TK_run_15 : decode b_TK_run 15 = .ok (.iload_n 2, 1) := by decide +kernel
theorem d_TK_run_16 : decode b_TK_run 16 = .ok (.invokevirtual 53, 3) := by decide +kernel
theorem d_TK_run_19 : decode b_TK_run 19 = .ok (.ifCond .ne 13, 3) := by decide +kernel
theorem d_TK_run_22 : decode b_TK_run 22 = .ok (.new 37, 3) := by decide +kernel
theorem d_TK_run_25 : decode b_TK_run 25 = .ok (.dup, 1) := by decide +kernel
theorem d_TK_run_26 : decode b_TK_run 26 = .ok (.ldc 57, 2) := by decide +kernel
theorem d_TK_run_28 : decode b_TK_run 28 = .ok (.invokespecial 41, 3) := by decide +kernel
theorem d_TK_run_31 : decode b_TK_run 31 = .ok (.athrow, 1) := by decide +kernel
theorem d_TK_run_32 : decode b_TK_run 32 = .ok (.iload 4, 2) := by decide +kernel
theorem d_TK_run_34 : decode b_TK_run 34 = .ok (.ifCond .lt 13, 3) := by decide +kernel
theorem d_TK_run_37 : decode b_TK_run 37 = .ok (.iload 5, 2) := by decide +kernel
theorem d_TK_run_39 : decode b_TK_run 39 = .ok (.iload 6, 2) := by decide +kernel
theorem d_TK_run_41 : decode b_TK_run 41 = .ok (.invokestatic 76, 3) := by decide +kernel
theorem q_404 : Cond.methodLink "TwinKeepers" 76 ⟨"TwinKeepers", "isOperation", "(II)Z"⟩ ∈ xT := xin 404 (by decide +kernel) (by decide +kernel)
theorem d_TK_run_44 : decode b_TK_run 44 = .ok (.ifCond .ne 13, 3) := by decide +kernel
theorem d_TK_run_47 : decode b_TK_run 47 = .ok (.new 37, 3) := by decide +kernel
theorem d_TK_run_50 : decode b_TK_run 50 = .ok (.dup, 1) := by decide +kernel
theorem d_TK_run_51 : decode b_TK_run 51 = .ok (.ldc 80, 2) := by decide +kernel
theorem d_TK_run_53 : decode b_TK_run 53 = .ok (.invokespecial 41, 3) := by decide +kernel
theorem d_TK_run_56 : decode b_TK_run 56 = .ok (.athrow, 1) := by decide +kernel
theorem d_TK_run_57 : decode b_TK_run 57 = .ok (.aload 7, 2) := by decide +kernel
theorem d_TK_run_59 : decode b_TK_run 59 = .ok (.iload_n 2, 1) := by decide +kernel
theorem d_TK_run_60 : decode b_TK_run 60 = .ok (.putfield 82, 3) := by decide +kernel
theorem q_93 : Cond.fieldLink "TwinKeepers" 82 "TwinKeepers$Machine" "greatestPlace" "I" ∈ xT := xin 93 (by decide +kernel) (by decide +kernel)
theorem d_TK_run_63 : decode b_TK_run 63 = .ok (.aload_n 0, 1) := by decide +kernel
theorem d_TK_run_64 : decode b_TK_run 64 = .ok (.iload_n 2, 1) := by decide +kernel
theorem d_TK_run_65 : decode b_TK_run 65 = .ok (.putfield 34, 3) := by decide +kernel
theorem d_TK_run_68 : decode b_TK_run 68 = .ok (.aload_n 0, 1) := by decide +kernel
theorem d_TK_run_69 : decode b_TK_run 69 = .ok (.getfield 26, 3) := by decide +kernel
theorem d_TK_run_72 : decode b_TK_run 72 = .ok (.invokevirtual 85, 3) := by decide +kernel
theorem q_423 : Cond.methodLink "TwinKeepers" 85 ⟨"TwinKeepers$Row", "empty", "()V"⟩ ∈ xT := xin 423 (by decide +kernel) (by decide +kernel)
theorem d_TK_run_75 : decode b_TK_run 75 = .ok (.aload 7, 2) := by decide +kernel
theorem d_TK_run_77 : decode b_TK_run 77 = .ok (.iload_n 3, 1) := by decide +kernel
theorem d_TK_run_78 : decode b_TK_run 78 = .ok (.invokevirtual 88, 3) := by decide +kernel
theorem q_427 : Cond.methodLink "TwinKeepers" 88 ⟨"TwinKeepers$Machine", "indexOfSession", "(I)I"⟩ ∈ xT := xin 427 (by decide +kernel) (by decide +kernel)
theorem d_TK_run_81 : decode b_TK_run 81 = .ok (.istore 8, 2) := by decide +kernel
theorem d_TK_run_83 : decode b_TK_run 83 = .ok (.iload 8, 2) := by decide +kernel
theorem d_TK_run_85 : decode b_TK_run 85 = .ok (.iconst (-1), 1) := by decide +kernel
theorem d_TK_run_86 : decode b_TK_run 86 = .ok (.if_icmp .ne 5, 3) := by decide +kernel
theorem d_TK_run_89 : decode b_TK_run 89 = .ok (.iconst 2, 1) := by decide +kernel
theorem d_TK_run_90 : decode b_TK_run 90 = .ok (.ireturn, 1) := by decide +kernel
theorem d_TK_run_91 : decode b_TK_run 91 = .ok (.aload 7, 2) := by decide +kernel
theorem d_TK_run_93 : decode b_TK_run 93 = .ok (.getfield 63, 3) := by decide +kernel
theorem d_TK_run_96 : decode b_TK_run 96 = .ok (.iload 8, 2) := by decide +kernel
theorem d_TK_run_98 : decode b_TK_run 98 = .ok (.invokevirtual 92, 3) := by decide +kernel
theorem q_431 : Cond.methodLink "TwinKeepers" 92 ⟨"java/util/ArrayList", "get", "(I)Ljava/lang/Object;"⟩ ∈ xT := xin 431 (by decide +kernel) (by decide +kernel)
theorem d_TK_run_101 : decode b_TK_run 101 = .ok (.checkcast 96, 3) := by decide +kernel
theorem q_432 : Cond.classLink "TwinKeepers" 96 "TwinKeepers$Session" ∈ xT := xin 432 (by decide +kernel) (by decide +kernel)
theorem d_TK_run_104 : decode b_TK_run 104 = .ok (.iload_n 2, 1) := by decide +kernel
theorem d_TK_run_105 : decode b_TK_run 105 = .ok (.invokevirtual 98, 3) := by decide +kernel
theorem q_433 : Cond.methodLink "TwinKeepers" 98 ⟨"TwinKeepers$Session", "usedAt", "(I)LTwinKeepers$Session;"⟩ ∈ xT := xin 433 (by decide +kernel) (by decide +kernel)
theorem d_TK_run_108 : decode b_TK_run 108 = .ok (.astore 9, 2) := by decide +kernel
theorem d_TK_run_110 : decode b_TK_run 110 = .ok (.aload 7, 2) := by decide +kernel
theorem d_TK_run_112 : decode b_TK_run 112 = .ok (.getfield 63, 3) := by decide +kernel
theorem d_TK_run_115 : decode b_TK_run 115 = .ok (.iload 8, 2) := by decide +kernel
theorem d_TK_run_117 : decode b_TK_run 117 = .ok (.aload 9, 2) := by decide +kernel
theorem d_TK_run_119 : decode b_TK_run 119 = .ok (.invokevirtual 102, 3) := by decide +kernel
theorem q_439 : Cond.methodLink "TwinKeepers" 102 ⟨"java/util/ArrayList", "set", "(ILjava/lang/Object;)Ljava/lang/Object;"⟩ ∈ xT := xin 439 (by decide +kernel) (by decide +kernel)
theorem d_TK_run_122 : decode b_TK_run 122 = .ok (.pop, 1) := by decide +kernel
theorem d_TK_run_123 : decode b_TK_run 123 = .ok (.iload 4, 2) := by decide +kernel
theorem d_TK_run_125 : decode b_TK_run 125 = .ok (.aload 9, 2) := by decide +kernel
theorem d_TK_run_127 : decode b_TK_run 127 = .ok (.getfield 106, 3) := by decide +kernel
theorem q_318 : Cond.fieldLink "TwinKeepers" 106 "TwinKeepers$Session" "serial" "I" ∈ xT := xin 318 (by decide +kernel) (by decide +kernel)
theorem d_TK_run_130 : decode b_TK_run 130 = .ok (.if_icmp .ge 5, 3) := by decide +kernel
theorem d_TK_run_133 : decode b_TK_run 133 = .ok (.iconst 3, 1) := by decide +kernel
theorem d_TK_run_134 : decode b_TK_run 134 = .ok (.ireturn, 1) := by decide +kernel
theorem d_TK_run_135 : decode b_TK_run 135 = .ok (.iload 4, 2) := by decide +kernel
theorem d_TK_run_137 : decode b_TK_run 137 = .ok (.aload 9, 2) := by decide +kernel
theorem d_TK_run_139 : decode b_TK_run 139 = .ok (.getfield 106, 3) := by decide +kernel
theorem d_TK_run_142 : decode b_TK_run 142 = .ok (.if_icmp .ne 26, 3) := by decide +kernel
theorem d_TK_run_145 : decode b_TK_run 145 = .ok (.aload_n 0, 1) := by decide +kernel
theorem d_TK_run_146 : decode b_TK_run 146 = .ok (.getfield 26, 3) := by decide +kernel
theorem d_TK_run_149 : decode b_TK_run 149 = .ok (.aload 9, 2) := by decide +kernel
theorem d_TK_run_151 : decode b_TK_run 151 = .ok (.getfield 109, 3) := by decide +kernel
theorem q_322 : Cond.fieldLink "TwinKeepers" 109 "TwinKeepers$Session" "answer" "[B" ∈ xT := xin 322 (by decide +kernel) (by decide +kernel)
theorem d_TK_run_154 : decode b_TK_run 154 = .ok (.invokevirtual 112, 3) := by decide +kernel
theorem q_443 : Cond.methodLink "TwinKeepers" 112 ⟨"TwinKeepers$Row", "addAll", "([B)V"⟩ ∈ xT := xin 443 (by decide +kernel) (by decide +kernel)
theorem d_TK_run_157 : decode b_TK_run 157 = .ok (.aload_n 0, 1) := by decide +kernel
theorem d_TK_run_158 : decode b_TK_run 158 = .ok (.aload 9, 2) := by decide +kernel
theorem d_TK_run_160 : decode b_TK_run 160 = .ok (.getfield 116, 3) := by decide +kernel
theorem q_320 : Cond.fieldLink "TwinKeepers" 116 "TwinKeepers$Session" "answerPlace" "I" ∈ xT := xin 320 (by decide +kernel) (by decide +kernel)
theorem d_TK_run_163 : decode b_TK_run 163 = .ok (.putfield 34, 3) := by decide +kernel
theorem d_TK_run_166 : decode b_TK_run 166 = .ok (.iconst 1, 1) := by decide +kernel
theorem d_TK_run_167 : decode b_TK_run 167 = .ok (.ireturn, 1) := by decide +kernel
theorem d_TK_run_168 : decode b_TK_run 168 = .ok (.aload_n 0, 1) := by decide +kernel
theorem d_TK_run_169 : decode b_TK_run 169 = .ok (.aload 7, 2) := by decide +kernel
theorem d_TK_run_171 : decode b_TK_run 171 = .ok (.getfield 119, 3) := by decide +kernel
theorem q_91 : Cond.fieldLink "TwinKeepers" 119 "TwinKeepers$Machine" "map" "LTwinKeepers$KeyMap;" ∈ xT := xin 91 (by decide +kernel) (by decide +kernel)
theorem d_TK_run_174 : decode b_TK_run 174 = .ok (.iload 5, 2) := by decide +kernel
theorem d_TK_run_176 : decode b_TK_run 176 = .ok (.iload 6, 2) := by decide +kernel
theorem d_TK_run_178 : decode b_TK_run 178 = .ok (.invokevirtual 123, 3) := by decide +kernel
theorem q_461 : Cond.methodLink "TwinKeepers" 123 ⟨"TwinKeepers", "operate", "(LTwinKeepers$KeyMap;II)V"⟩ ∈ xT := xin 461 (by decide +kernel) (by decide +kernel)
theorem d_TK_run_181 : decode b_TK_run 181 = .ok (.aload 7, 2) := by decide +kernel
theorem d_TK_run_183 : decode b_TK_run 183 = .ok (.getfield 63, 3) := by decide +kernel
theorem d_TK_run_186 : decode b_TK_run 186 = .ok (.iload 8, 2) := by decide +kernel
theorem d_TK_run_188 : decode b_TK_run 188 = .ok (.aload 9, 2) := by decide +kernel
theorem d_TK_run_190 : decode b_TK_run 190 = .ok (.iload 4, 2) := by decide +kernel
theorem d_TK_run_192 : decode b_TK_run 192 = .ok (.iload_n 2, 1) := by decide +kernel
theorem d_TK_run_193 : decode b_TK_run 193 = .ok (.aload_n 0, 1) := by decide +kernel
theorem d_TK_run_194 : decode b_TK_run 194 = .ok (.getfield 26, 3) := by decide +kernel
theorem d_TK_run_197 : decode b_TK_run 197 = .ok (.invokevirtual 127, 3) := by decide +kernel
theorem q_773 : Cond.methodLink "TwinKeepers" 127 ⟨"TwinKeepers$Row", "copied", "()[B"⟩ ∈ xT := xin 773 (by decide +kernel) (by decide +kernel)
theorem d_TK_run_200 : decode b_TK_run 200 = .ok (.invokevirtual 131, 3) := by decide +kernel
theorem q_777 : Cond.methodLink "TwinKeepers" 131 ⟨"TwinKeepers$Session", "answered", "(II[B)LTwinKeepers$Session;"⟩ ∈ xT := xin 777 (by decide +kernel) (by decide +kernel)
theorem d_TK_run_203 : decode b_TK_run 203 = .ok (.invokevirtual 102, 3) := by decide +kernel
theorem d_TK_run_206 : decode b_TK_run 206 = .ok (.pop, 1) := by decide +kernel
theorem d_TK_run_207 : decode b_TK_run 207 = .ok (.iconst 0, 1) := by decide +kernel
theorem d_TK_run_208 : decode b_TK_run 208 = .ok (.ireturn, 1) := by decide +kernel
abbrev b_TK_takeTape : ByteArray := prog_1_method_15_code
def y_TK_takeTape : MethodName := ⟨"TwinKeepers", "takeTape", "()I"⟩
theorem kc_TK_takeTape : Cond.code y_TK_takeTape b_TK_takeTape 2 (some .int) ∈ xT := xin 403 (by decide +kernel) (by decide +kernel)
theorem k_TK_takeTape : xCode y_TK_takeTape b_TK_takeTape 2 (some .int) [] := Or.inl ⟨rfl, kc_TK_takeTape⟩
theorem h_TK_takeTape : plainFor y_TK_takeTape = true ∧ (y_TK_takeTape.cls ≠ "java/lang/invoke/MethodHandle" ∧ y_TK_takeTape.cls ≠ "java/lang/invoke/VarHandle") ∧ (parseMethodDescriptor y_TK_takeTape.desc).map (fun d => d.parameters.length) = some 0 := by decide +kernel
theorem v_TK_takeTape : Cond.instanceMethod y_TK_takeTape ∈ xT := xin 402 (by decide +kernel) (by decide +kernel)
theorem e_TK_takeTape : Cond.selects "TwinKeepers" y_TK_takeTape y_TK_takeTape ∈ xT := xinp 7 (by decide +kernel) (by decide +kernel)
theorem d_TK_takeTape_0 : decode b_TK_takeTape 0 = .ok (.aload_n 0, 1) := by decide +kernel
theorem d_TK_takeTape_1 : decode b_TK_takeTape 1 = .ok (.getfield 30, 3) := by decide +kernel
theorem d_TK_takeTape_4 : decode b_TK_takeTape 4 = .ok (.istore_n 1, 1) := by decide +kernel
theorem d_TK_takeTape_5 : decode b_TK_takeTape 5 = .ok (.aload_n 0, 1) := by decide +kernel
theorem d_TK_takeTape_6 : decode b_TK_takeTape 6 = .ok (.iconst 0, 1) := by decide +kernel
theorem d_TK_takeTape_7 : decode b_TK_takeTape 7 = .ok (.putfield 30, 3) := by decide +kernel
theorem d_TK_takeTape_10 : decode b_TK_takeTape 10 = .ok (.iload_n 1, 1) := by decide +kernel
theorem d_TK_takeTape_11 : decode b_TK_takeTape 11 = .ok (.ireturn, 1) := by decide +kernel
abbrev b_TK_isOperation : ByteArray := prog_1_method_22_code
def y_TK_isOperation : MethodName := ⟨"TwinKeepers", "isOperation", "(II)Z"⟩
theorem kc_TK_isOperation : Cond.code y_TK_isOperation b_TK_isOperation 5 (some .boolean) ∈ xT := xin 406 (by decide +kernel) (by decide +kernel)
theorem k_TK_isOperation : xCode y_TK_isOperation b_TK_isOperation 5 (some .boolean) [] := Or.inl ⟨rfl, kc_TK_isOperation⟩
theorem h_TK_isOperation : plainFor y_TK_isOperation = true ∧ (y_TK_isOperation.cls ≠ "java/lang/invoke/MethodHandle" ∧ y_TK_isOperation.cls ≠ "java/lang/invoke/VarHandle") ∧ (parseMethodDescriptor y_TK_isOperation.desc).map (fun d => d.parameters.length) = some 2 := by decide +kernel
theorem s_TK_isOperation : Cond.static y_TK_isOperation ∈ xT := xin 405 (by decide +kernel) (by decide +kernel)
theorem in_TK_isOperation : Cond.initialized y_TK_isOperation.cls ∈ xT := xin 1 (by decide +kernel) (by decide +kernel)
theorem d_TK_isOperation_0 : decode b_TK_isOperation 0 = .ok (.iload_n 0, 1) := by decide +kernel
theorem d_TK_isOperation_1 : decode b_TK_isOperation 1 = .ok (.invokestatic 211, 3) := by decide +kernel
theorem q_407 : Cond.methodLink "TwinKeepers" 211 ⟨"TwinKeepers", "kindOf", "(I)I"⟩ ∈ xT := xin 407 (by decide +kernel) (by decide +kernel)
theorem d_TK_isOperation_4 : decode b_TK_isOperation 4 = .ok (.istore_n 2, 1) := by decide +kernel
theorem d_TK_isOperation_5 : decode b_TK_isOperation 5 = .ok (.iload_n 0, 1) := by decide +kernel
theorem d_TK_isOperation_6 : decode b_TK_isOperation 6 = .ok (.ifCond .lt 8, 3) := by decide +kernel
theorem d_TK_isOperation_9 : decode b_TK_isOperation 9 = .ok (.iload_n 2, 1) := by decide +kernel
theorem d_TK_isOperation_10 : decode b_TK_isOperation 10 = .ok (.iconst 2, 1) := by decide +kernel
theorem d_TK_isOperation_11 : decode b_TK_isOperation 11 = .ok (.if_icmp .le 5, 3) := by decide +kernel
theorem d_TK_isOperation_14 : decode b_TK_isOperation 14 = .ok (.iconst 0, 1) := by decide +kernel
theorem d_TK_isOperation_15 : decode b_TK_isOperation 15 = .ok (.ireturn, 1) := by decide +kernel
theorem d_TK_isOperation_16 : decode b_TK_isOperation 16 = .ok (.iload_n 0, 1) := by decide +kernel
theorem d_TK_isOperation_17 : decode b_TK_isOperation 17 = .ok (.invokestatic 214, 3) := by decide +kernel
theorem q_410 : Cond.methodLink "TwinKeepers" 214 ⟨"TwinKeepers", "expectedSize", "(I)I"⟩ ∈ xT := xin 410 (by decide +kernel) (by decide +kernel)
theorem d_TK_isOperation_20 : decode b_TK_isOperation 20 = .ok (.istore_n 3, 1) := by decide +kernel
theorem d_TK_isOperation_21 : decode b_TK_isOperation 21 = .ok (.iload_n 1, 1) := by decide +kernel
theorem d_TK_isOperation_22 : decode b_TK_isOperation 22 = .ok (.iload_n 0, 1) := by decide +kernel
theorem d_TK_isOperation_23 : decode b_TK_isOperation 23 = .ok (.invokestatic 217, 3) := by decide +kernel
theorem q_413 : Cond.methodLink "TwinKeepers" 217 ⟨"TwinKeepers", "operationKeySize", "(I)I"⟩ ∈ xT := xin 413 (by decide +kernel) (by decide +kernel)
theorem d_TK_isOperation_26 : decode b_TK_isOperation 26 = .ok (.isub, 1) := by decide +kernel
theorem d_TK_isOperation_27 : decode b_TK_isOperation 27 = .ok (.iload_n 3, 1) := by decide +kernel
theorem d_TK_isOperation_28 : decode b_TK_isOperation 28 = .ok (.isub, 1) := by decide +kernel
theorem d_TK_isOperation_29 : decode b_TK_isOperation 29 = .ok (.istore 4, 2) := by decide +kernel
theorem d_TK_isOperation_31 : decode b_TK_isOperation 31 = .ok (.iload_n 0, 1) := by decide +kernel
theorem d_TK_isOperation_32 : decode b_TK_isOperation 32 = .ok (.invokestatic 217, 3) := by decide +kernel
theorem d_TK_isOperation_35 : decode b_TK_isOperation 35 = .ok (.invokestatic 220, 3) := by decide +kernel
theorem q_416 : Cond.methodLink "TwinKeepers" 220 ⟨"TwinKeepers", "isKeySize", "(I)Z"⟩ ∈ xT := xin 416 (by decide +kernel) (by decide +kernel)
theorem d_TK_isOperation_38 : decode b_TK_isOperation 38 = .ok (.ifCond .eq 47, 3) := by decide +kernel
theorem d_TK_isOperation_41 : decode b_TK_isOperation 41 = .ok (.iload_n 2, 1) := by decide +kernel
theorem d_TK_isOperation_42 : decode b_TK_isOperation 42 = .ok (.iconst 1, 1) := by decide +kernel
theorem d_TK_isOperation_43 : decode b_TK_isOperation 43 = .ok (.if_icmp .ne 13, 3) := by decide +kernel
theorem d_TK_isOperation_46 : decode b_TK_isOperation 46 = .ok (.iload_n 3, 1) := by decide +kernel
theorem d_TK_isOperation_47 : decode b_TK_isOperation 47 = .ok (.invokestatic 223, 3) := by decide +kernel
theorem q_419 : Cond.methodLink "TwinKeepers" 223 ⟨"TwinKeepers", "isValueSize", "(I)Z"⟩ ∈ xT := xin 419 (by decide +kernel) (by decide +kernel)
theorem d_TK_isOperation_50 : decode b_TK_isOperation 50 = .ok (.ifCond .eq 35, 3) := by decide +kernel
theorem d_TK_isOperation_53 : decode b_TK_isOperation 53 = .ok (.goto 7, 3) := by decide +kernel
theorem d_TK_isOperation_56 : decode b_TK_isOperation 56 = .ok (.iload_n 3, 1) := by decide +kernel
theorem d_TK_isOperation_57 : decode b_TK_isOperation 57 = .ok (.ifCond .ne 28, 3) := by decide +kernel
theorem d_TK_isOperation_60 : decode b_TK_isOperation 60 = .ok (.iload_n 2, 1) := by decide +kernel
theorem d_TK_isOperation_61 : decode b_TK_isOperation 61 = .ok (.iconst 2, 1) := by decide +kernel
theorem d_TK_isOperation_62 : decode b_TK_isOperation 62 = .ok (.if_icmp .ne 11, 3) := by decide +kernel
theorem d_TK_isOperation_65 : decode b_TK_isOperation 65 = .ok (.iload 4, 2) := by decide +kernel
theorem d_TK_isOperation_67 : decode b_TK_isOperation 67 = .ok (.ifCond .ne 18, 3) := by decide +kernel
theorem d_TK_isOperation_70 : decode b_TK_isOperation 70 = .ok (.goto 11, 3) := by decide +kernel
theorem d_TK_isOperation_73 : decode b_TK_isOperation 73 = .ok (.iload 4, 2) := by decide +kernel
theorem d_TK_isOperation_75 : decode b_TK_isOperation 75 = .ok (.invokestatic 223, 3) := by decide +kernel
theorem d_TK_isOperation_78 : decode b_TK_isOperation 78 = .ok (.ifCond .eq 7, 3) := by decide +kernel
theorem d_TK_isOperation_81 : decode b_TK_isOperation 81 = .ok (.iconst 1, 1) := by decide +kernel
theorem d_TK_isOperation_82 : decode b_TK_isOperation 82 = .ok (.goto 4, 3) := by decide +kernel
theorem d_TK_isOperation_85 : decode b_TK_isOperation 85 = .ok (.iconst 0, 1) := by decide +kernel
theorem d_TK_isOperation_86 : decode b_TK_isOperation 86 = .ok (.ireturn, 1) := by decide +kernel
abbrev b_TK_kindOf : ByteArray := prog_1_method_16_code
def y_TK_kindOf : MethodName := ⟨"TwinKeepers", "kindOf", "(I)I"⟩
theorem kc_TK_kindOf : Cond.code y_TK_kindOf b_TK_kindOf 1 (some .int) ∈ xT := xin 409 (by decide +kernel) (by decide +kernel)
theorem k_TK_kindOf : xCode y_TK_kindOf b_TK_kindOf 1 (some .int) [] := Or.inl ⟨rfl, kc_TK_kindOf⟩
theorem h_TK_kindOf : plainFor y_TK_kindOf = true ∧ (y_TK_kindOf.cls ≠ "java/lang/invoke/MethodHandle" ∧ y_TK_kindOf.cls ≠ "java/lang/invoke/VarHandle") ∧ (parseMethodDescriptor y_TK_kindOf.desc).map (fun d => d.parameters.length) = some 1 := by decide +kernel
theorem s_TK_kindOf : Cond.static y_TK_kindOf ∈ xT := xin 408 (by decide +kernel) (by decide +kernel)
theorem in_TK_kindOf : Cond.initialized y_TK_kindOf.cls ∈ xT := xin 1 (by decide +kernel) (by decide +kernel)
theorem d_TK_kindOf_0 : decode b_TK_kindOf 0 = .ok (.iload_n 0, 1) := by decide +kernel
theorem d_TK_kindOf_1 : decode b_TK_kindOf 1 = .ok (.bipush 7, 2) := by decide +kernel
theorem d_TK_kindOf_3 : decode b_TK_kindOf 3 = .ok (.iand, 1) := by decide +kernel
theorem d_TK_kindOf_4 : decode b_TK_kindOf 4 = .ok (.ireturn, 1) := by decide +kernel
abbrev b_TK_expectedSize : ByteArray := prog_1_method_18_code
def y_TK_expectedSize : MethodName := ⟨"TwinKeepers", "expectedSize", "(I)I"⟩
theorem kc_TK_expectedSize : Cond.code y_TK_expectedSize b_TK_expectedSize 1 (some .int) ∈ xT := xin 412 (by decide +kernel) (by decide +kernel)
theorem k_TK_expectedSize : xCode y_TK_expectedSize b_TK_expectedSize 1 (some .int) [] := Or.inl ⟨rfl, kc_TK_expectedSize⟩
theorem h_TK_expectedSize : plainFor y_TK_expectedSize = true ∧ (y_TK_expectedSize.cls ≠ "java/lang/invoke/MethodHandle" ∧ y_TK_expectedSize.cls ≠ "java/lang/invoke/VarHandle") ∧ (parseMethodDescriptor y_TK_expectedSize.desc).map (fun d => d.parameters.length) = some 1 := by decide +kernel
theorem s_TK_expectedSize : Cond.static y_TK_expectedSize ∈ xT := xin 411 (by decide +kernel) (by decide +kernel)
theorem in_TK_expectedSize : Cond.initialized y_TK_expectedSize.cls ∈ xT := xin 1 (by decide +kernel) (by decide +kernel)
theorem d_TK_expectedSize_0 : decode b_TK_expectedSize 0 = .ok (.iload_n 0, 1) := by decide +kernel
theorem d_TK_expectedSize_1 : decode b_TK_expectedSize 1 = .ok (.bipush 9, 2) := by decide +kernel
theorem d_TK_expectedSize_3 : decode b_TK_expectedSize 3 = .ok (.ishr, 1) := by decide +kernel
theorem d_TK_expectedSize_4 : decode b_TK_expectedSize 4 = .ok (.ireturn, 1) := by decide +kernel
abbrev b_TK_operationKeySize : ByteArray := prog_1_method_17_code
def y_TK_operationKeySize : MethodName := ⟨"TwinKeepers", "operationKeySize", "(I)I"⟩
theorem kc_TK_operationKeySize : Cond.code y_TK_operationKeySize b_TK_operationKeySize 1 (some .int) ∈ xT := xin 415 (by decide +kernel) (by decide +kernel)
theorem k_TK_operationKeySize : xCode y_TK_operationKeySize b_TK_operationKeySize 1 (some .int) [] := Or.inl ⟨rfl, kc_TK_operationKeySize⟩
theorem h_TK_operationKeySize : plainFor y_TK_operationKeySize = true ∧ (y_TK_operationKeySize.cls ≠ "java/lang/invoke/MethodHandle" ∧ y_TK_operationKeySize.cls ≠ "java/lang/invoke/VarHandle") ∧ (parseMethodDescriptor y_TK_operationKeySize.desc).map (fun d => d.parameters.length) = some 1 := by decide +kernel
theorem s_TK_operationKeySize : Cond.static y_TK_operationKeySize ∈ xT := xin 414 (by decide +kernel) (by decide +kernel)
theorem in_TK_operationKeySize : Cond.initialized y_TK_operationKeySize.cls ∈ xT := xin 1 (by decide +kernel) (by decide +kernel)
theorem d_TK_operationKeySize_0 : decode b_TK_operationKeySize 0 = .ok (.iload_n 0, 1) := by decide +kernel
theorem d_TK_operationKeySize_1 : decode b_TK_operationKeySize 1 = .ok (.iconst 3, 1) := by decide +kernel
theorem d_TK_operationKeySize_2 : decode b_TK_operationKeySize 2 = .ok (.ishr, 1) := by decide +kernel
theorem d_TK_operationKeySize_3 : decode b_TK_operationKeySize 3 = .ok (.bipush 63, 2) := by decide +kernel
theorem d_TK_operationKeySize_5 : decode b_TK_operationKeySize 5 = .ok (.iand, 1) := by decide +kernel
theorem d_TK_operationKeySize_6 : decode b_TK_operationKeySize 6 = .ok (.ireturn, 1) := by decide +kernel
abbrev b_TK_isKeySize : ByteArray := prog_1_method_20_code
def y_TK_isKeySize : MethodName := ⟨"TwinKeepers", "isKeySize", "(I)Z"⟩
theorem kc_TK_isKeySize : Cond.code y_TK_isKeySize b_TK_isKeySize 1 (some .boolean) ∈ xT := xin 418 (by decide +kernel) (by decide +kernel)
theorem k_TK_isKeySize : xCode y_TK_isKeySize b_TK_isKeySize 1 (some .boolean) [] := Or.inl ⟨rfl, kc_TK_isKeySize⟩
theorem h_TK_isKeySize : plainFor y_TK_isKeySize = true ∧ (y_TK_isKeySize.cls ≠ "java/lang/invoke/MethodHandle" ∧ y_TK_isKeySize.cls ≠ "java/lang/invoke/VarHandle") ∧ (parseMethodDescriptor y_TK_isKeySize.desc).map (fun d => d.parameters.length) = some 1 := by decide +kernel
theorem s_TK_isKeySize : Cond.static y_TK_isKeySize ∈ xT := xin 417 (by decide +kernel) (by decide +kernel)
theorem in_TK_isKeySize : Cond.initialized y_TK_isKeySize.cls ∈ xT := xin 1 (by decide +kernel) (by decide +kernel)
theorem d_TK_isKeySize_0 : decode b_TK_isKeySize 0 = .ok (.iload_n 0, 1) := by decide +kernel
theorem d_TK_isKeySize_1 : decode b_TK_isKeySize 1 = .ok (.iconst 1, 1) := by decide +kernel
theorem d_TK_isKeySize_2 : decode b_TK_isKeySize 2 = .ok (.if_icmp .lt 13, 3) := by decide +kernel
theorem d_TK_isKeySize_5 : decode b_TK_isKeySize 5 = .ok (.iload_n 0, 1) := by decide +kernel
theorem d_TK_isKeySize_6 : decode b_TK_isKeySize 6 = .ok (.bipush 32, 2) := by decide +kernel
theorem d_TK_isKeySize_8 : decode b_TK_isKeySize 8 = .ok (.if_icmp .gt 7, 3) := by decide +kernel
theorem d_TK_isKeySize_11 : decode b_TK_isKeySize 11 = .ok (.iconst 1, 1) := by decide +kernel
theorem d_TK_isKeySize_12 : decode b_TK_isKeySize 12 = .ok (.goto 4, 3) := by decide +kernel
theorem d_TK_isKeySize_15 : decode b_TK_isKeySize 15 = .ok (.iconst 0, 1) := by decide +kernel
theorem d_TK_isKeySize_16 : decode b_TK_isKeySize 16 = .ok (.ireturn, 1) := by decide +kernel
abbrev b_TK_isValueSize : ByteArray := prog_1_method_21_code
def y_TK_isValueSize : MethodName := ⟨"TwinKeepers", "isValueSize", "(I)Z"⟩
theorem kc_TK_isValueSize : Cond.code y_TK_isValueSize b_TK_isValueSize 1 (some .boolean) ∈ xT := xin 421 (by decide +kernel) (by decide +kernel)
theorem k_TK_isValueSize : xCode y_TK_isValueSize b_TK_isValueSize 1 (some .boolean) [] := Or.inl ⟨rfl, kc_TK_isValueSize⟩
theorem h_TK_isValueSize : plainFor y_TK_isValueSize = true ∧ (y_TK_isValueSize.cls ≠ "java/lang/invoke/MethodHandle" ∧ y_TK_isValueSize.cls ≠ "java/lang/invoke/VarHandle") ∧ (parseMethodDescriptor y_TK_isValueSize.desc).map (fun d => d.parameters.length) = some 1 := by decide +kernel
theorem s_TK_isValueSize : Cond.static y_TK_isValueSize ∈ xT := xin 420 (by decide +kernel) (by decide +kernel)
theorem in_TK_isValueSize : Cond.initialized y_TK_isValueSize.cls ∈ xT := xin 1 (by decide +kernel) (by decide +kernel)
theorem d_TK_isValueSize_0 : decode b_TK_isValueSize 0 = .ok (.iload_n 0, 1) := by decide +kernel
theorem d_TK_isValueSize_1 : decode b_TK_isValueSize 1 = .ok (.ifCond .lt 13, 3) := by decide +kernel
theorem d_TK_isValueSize_4 : decode b_TK_isValueSize 4 = .ok (.iload_n 0, 1) := by decide +kernel
theorem d_TK_isValueSize_5 : decode b_TK_isValueSize 5 = .ok (.bipush 100, 2) := by decide +kernel
theorem d_TK_isValueSize_7 : decode b_TK_isValueSize 7 = .ok (.if_icmp .gt 7, 3) := by decide +kernel
theorem d_TK_isValueSize_10 : decode b_TK_isValueSize 10 = .ok (.iconst 1, 1) := by decide +kernel
theorem d_TK_isValueSize_11 : decode b_TK_isValueSize 11 = .ok (.goto 4, 3) := by decide +kernel
theorem d_TK_isValueSize_14 : decode b_TK_isValueSize 14 = .ok (.iconst 0, 1) := by decide +kernel
theorem d_TK_isValueSize_15 : decode b_TK_isValueSize 15 = .ok (.ireturn, 1) := by decide +kernel
abbrev b_Ro_empty : ByteArray := prog_5_method_2_code
def y_Ro_empty : MethodName := ⟨"TwinKeepers$Row", "empty", "()V"⟩
theorem kc_Ro_empty : Cond.code y_Ro_empty b_Ro_empty 1 none ∈ xT := xin 426 (by decide +kernel) (by decide +kernel)
theorem k_Ro_empty : xCode y_Ro_empty b_Ro_empty 1 none [] := Or.inl ⟨rfl, kc_Ro_empty⟩
theorem h_Ro_empty : plainFor y_Ro_empty = true ∧ (y_Ro_empty.cls ≠ "java/lang/invoke/MethodHandle" ∧ y_Ro_empty.cls ≠ "java/lang/invoke/VarHandle") ∧ (parseMethodDescriptor y_Ro_empty.desc).map (fun d => d.parameters.length) = some 0 := by decide +kernel
theorem v_Ro_empty : Cond.instanceMethod y_Ro_empty ∈ xT := xin 424 (by decide +kernel) (by decide +kernel)
theorem e_Ro_empty : Cond.selects "TwinKeepers$Row" y_Ro_empty y_Ro_empty ∈ xT := xin 425 (by decide +kernel) (by decide +kernel)
theorem d_Ro_empty_0 : decode b_Ro_empty 0 = .ok (.aload_n 0, 1) := by decide +kernel
theorem d_Ro_empty_1 : decode b_Ro_empty 1 = .ok (.iconst 0, 1) := by decide +kernel
theorem d_Ro_empty_2 : decode b_Ro_empty 2 = .ok (.putfield 13, 3) := by decide +kernel
theorem d_Ro_empty_5 : decode b_Ro_empty 5 = .ok (.return_, 1) := by decide +kernel
abbrev b_Ma_indexOfSession : ByteArray := prog_4_method_4_code
def y_Ma_indexOfSession : MethodName := ⟨"TwinKeepers$Machine", "indexOfSession", "(I)I"⟩
theorem kc_Ma_indexOfSession : Cond.code y_Ma_indexOfSession b_Ma_indexOfSession 3 (some .int) ∈ xT := xin 430 (by decide +kernel) (by decide +kernel)
theorem k_Ma_indexOfSession : xCode y_Ma_indexOfSession b_Ma_indexOfSession 3 (some .int) [] := Or.inl ⟨rfl, kc_Ma_indexOfSession⟩
theorem h_Ma_indexOfSession : plainFor y_Ma_indexOfSession = true ∧ (y_Ma_indexOfSession.cls ≠ "java/lang/invoke/MethodHandle" ∧ y_Ma_indexOfSession.cls ≠ "java/lang/invoke/VarHandle") ∧ (parseMethodDescriptor y_Ma_indexOfSession.desc).map (fun d => d.parameters.length) = some 1 := by decide +kernel
theorem v_Ma_indexOfSession : Cond.instanceMethod y_Ma_indexOfSession ∈ xT := xin 428 (by decide +kernel) (by decide +kernel)
theorem e_Ma_indexOfSession : Cond.selects "TwinKeepers$Machine" y_Ma_indexOfSession y_Ma_indexOfSession ∈ xT := xin 429 (by decide +kernel) (by decide +kernel)
theorem d_Ma_indexOfSession_0 : decode b_Ma_indexOfSession 0 = .ok (.iconst 0, 1) := by decide +kernel
theorem d_Ma_indexOfSession_1 : decode b_Ma_indexOfSession 1 = .ok (.istore_n 2, 1) := by decide +kernel
theorem d_Ma_indexOfSession_2 : decode b_Ma_indexOfSession 2 = .ok (.iload_n 2, 1) := by decide +kernel
theorem d_Ma_indexOfSession_3 : decode b_Ma_indexOfSession 3 = .ok (.aload_n 0, 1) := by decide +kernel
theorem d_Ma_indexOfSession_4 : decode b_Ma_indexOfSession 4 = .ok (.getfield 12, 3) := by decide +kernel
theorem d_Ma_indexOfSession_7 : decode b_Ma_indexOfSession 7 = .ok (.invokevirtual 30, 3) := by decide +kernel
theorem d_Ma_indexOfSession_10 : decode b_Ma_indexOfSession 10 = .ok (.if_icmp .ge 29, 3) := by decide +kernel
theorem d_Ma_indexOfSession_13 : decode b_Ma_indexOfSession 13 = .ok (.aload_n 0, 1) := by decide +kernel
theorem d_Ma_indexOfSession_14 : decode b_Ma_indexOfSession 14 = .ok (.getfield 12, 3) := by decide +kernel
theorem d_Ma_indexOfSession_17 : decode b_Ma_indexOfSession 17 = .ok (.iload_n 2, 1) := by decide +kernel
theorem d_Ma_indexOfSession_18 : decode b_Ma_indexOfSession 18 = .ok (.invokevirtual 54, 3) := by decide +kernel
theorem d_Ma_indexOfSession_21 : decode b_Ma_indexOfSession 21 = .ok (.checkcast 41, 3) := by decide +kernel
theorem d_Ma_indexOfSession_24 : decode b_Ma_indexOfSession 24 = .ok (.getfield 57, 3) := by decide +kernel
theorem q_312 : Cond.fieldLink "TwinKeepers$Machine" 57 "TwinKeepers$Session" "number" "I" ∈ xT := xin 312 (by decide +kernel) (by decide +kernel)
theorem d_Ma_indexOfSession_27 : decode b_Ma_indexOfSession 27 = .ok (.iload_n 1, 1) := by decide +kernel
theorem d_Ma_indexOfSession_28 : decode b_Ma_indexOfSession 28 = .ok (.if_icmp .ne 5, 3) := by decide +kernel
theorem d_Ma_indexOfSession_31 : decode b_Ma_indexOfSession 31 = .ok (.iload_n 2, 1) := by decide +kernel
theorem d_Ma_indexOfSession_32 : decode b_Ma_indexOfSession 32 = .ok (.ireturn, 1) := by decide +kernel
theorem d_Ma_indexOfSession_33 : decode b_Ma_indexOfSession 33 = .ok (.iinc 2 1, 3) := by decide +kernel
theorem d_Ma_indexOfSession_36 : decode b_Ma_indexOfSession 36 = .ok (.goto (-34), 3) := by decide +kernel
theorem d_Ma_indexOfSession_39 : decode b_Ma_indexOfSession 39 = .ok (.iconst (-1), 1) := by decide +kernel
theorem d_Ma_indexOfSession_40 : decode b_Ma_indexOfSession 40 = .ok (.ireturn, 1) := by decide +kernel
abbrev b_Se_usedAt : ByteArray := prog_6_method_2_code
def y_Se_usedAt : MethodName := ⟨"TwinKeepers$Session", "usedAt", "(I)LTwinKeepers$Session;"⟩
theorem kc_Se_usedAt : Cond.code y_Se_usedAt b_Se_usedAt 2 (some (.object "TwinKeepers$Session")) ∈ xT := xin 436 (by decide +kernel) (by decide +kernel)
theorem k_Se_usedAt : xCode y_Se_usedAt b_Se_usedAt 2 (some (.object "TwinKeepers$Session")) [] := Or.inl ⟨rfl, kc_Se_usedAt⟩
theorem h_Se_usedAt : plainFor y_Se_usedAt = true ∧ (y_Se_usedAt.cls ≠ "java/lang/invoke/MethodHandle" ∧ y_Se_usedAt.cls ≠ "java/lang/invoke/VarHandle") ∧ (parseMethodDescriptor y_Se_usedAt.desc).map (fun d => d.parameters.length) = some 1 := by decide +kernel
theorem v_Se_usedAt : Cond.instanceMethod y_Se_usedAt ∈ xT := xin 434 (by decide +kernel) (by decide +kernel)
theorem e_Se_usedAt : Cond.selects "TwinKeepers$Session" y_Se_usedAt y_Se_usedAt ∈ xT := xin 435 (by decide +kernel) (by decide +kernel)
theorem d_Se_usedAt_0 : decode b_Se_usedAt 0 = .ok (.new 8, 3) := by decide +kernel
theorem q_437 : Cond.classLink "TwinKeepers$Session" 8 "TwinKeepers$Session" ∈ xT := xin 437 (by decide +kernel) (by decide +kernel)
theorem d_Se_usedAt_3 : decode b_Se_usedAt 3 = .ok (.dup, 1) := by decide +kernel
theorem d_Se_usedAt_4 : decode b_Se_usedAt 4 = .ok (.aload_n 0, 1) := by decide +kernel
theorem d_Se_usedAt_5 : decode b_Se_usedAt 5 = .ok (.getfield 7, 3) := by decide +kernel
theorem d_Se_usedAt_8 : decode b_Se_usedAt 8 = .ok (.iload_n 1, 1) := by decide +kernel
theorem d_Se_usedAt_9 : decode b_Se_usedAt 9 = .ok (.aload_n 0, 1) := by decide +kernel
theorem d_Se_usedAt_10 : decode b_Se_usedAt 10 = .ok (.getfield 16, 3) := by decide +kernel
theorem d_Se_usedAt_13 : decode b_Se_usedAt 13 = .ok (.aload_n 0, 1) := by decide +kernel
theorem d_Se_usedAt_14 : decode b_Se_usedAt 14 = .ok (.getfield 19, 3) := by decide +kernel
theorem d_Se_usedAt_17 : decode b_Se_usedAt 17 = .ok (.aload_n 0, 1) := by decide +kernel
theorem d_Se_usedAt_18 : decode b_Se_usedAt 18 = .ok (.getfield 22, 3) := by decide +kernel
theorem d_Se_usedAt_21 : decode b_Se_usedAt 21 = .ok (.invokespecial 26, 3) := by decide +kernel
theorem q_438 : Cond.methodLink "TwinKeepers$Session" 26 ⟨"TwinKeepers$Session", "<init>", "(IIII[B)V"⟩ ∈ xT := xin 438 (by decide +kernel) (by decide +kernel)
theorem d_Se_usedAt_24 : decode b_Se_usedAt 24 = .ok (.areturn, 1) := by decide +kernel
abbrev b_Ro_addAll : ByteArray := prog_5_method_4_code
def y_Ro_addAll : MethodName := ⟨"TwinKeepers$Row", "addAll", "([B)V"⟩
theorem kc_Ro_addAll : Cond.code y_Ro_addAll b_Ro_addAll 3 none ∈ xT := xin 446 (by decide +kernel) (by decide +kernel)
theorem k_Ro_addAll : xCode y_Ro_addAll b_Ro_addAll 3 none [] := Or.inl ⟨rfl, kc_Ro_addAll⟩
theorem h_Ro_addAll : plainFor y_Ro_addAll = true ∧ (y_Ro_addAll.cls ≠ "java/lang/invoke/MethodHandle" ∧ y_Ro_addAll.cls ≠ "java/lang/invoke/VarHandle") ∧ (parseMethodDescriptor y_Ro_addAll.desc).map (fun d => d.parameters.length) = some 1 := by decide +kernel
theorem v_Ro_addAll : Cond.instanceMethod y_Ro_addAll ∈ xT := xin 444 (by decide +kernel) (by decide +kernel)
theorem e_Ro_addAll : Cond.selects "TwinKeepers$Row" y_Ro_addAll y_Ro_addAll ∈ xT := xin 445 (by decide +kernel) (by decide +kernel)
theorem d_Ro_addAll_0 : decode b_Ro_addAll 0 = .ok (.iconst 0, 1) := by decide +kernel
theorem d_Ro_addAll_1 : decode b_Ro_addAll 1 = .ok (.istore_n 2, 1) := by decide +kernel
theorem d_Ro_addAll_2 : decode b_Ro_addAll 2 = .ok (.iload_n 2, 1) := by decide +kernel
theorem d_Ro_addAll_3 : decode b_Ro_addAll 3 = .ok (.aload_n 1, 1) := by decide +kernel
theorem d_Ro_addAll_4 : decode b_Ro_addAll 4 = .ok (.arraylength, 1) := by decide +kernel
theorem d_Ro_addAll_5 : decode b_Ro_addAll 5 = .ok (.if_icmp .ge 16, 3) := by decide +kernel
theorem d_Ro_addAll_8 : decode b_Ro_addAll 8 = .ok (.aload_n 0, 1) := by decide +kernel
theorem d_Ro_addAll_9 : decode b_Ro_addAll 9 = .ok (.aload_n 1, 1) := by decide +kernel
theorem d_Ro_addAll_10 : decode b_Ro_addAll 10 = .ok (.iload_n 2, 1) := by decide +kernel
theorem d_Ro_addAll_11 : decode b_Ro_addAll 11 = .ok (.baload, 1) := by decide +kernel
theorem d_Ro_addAll_12 : decode b_Ro_addAll 12 = .ok (.invokevirtual 17, 3) := by decide +kernel
theorem q_447 : Cond.methodLink "TwinKeepers$Row" 17 ⟨"TwinKeepers$Row", "addByte", "(B)V"⟩ ∈ xT := xin 447 (by decide +kernel) (by decide +kernel)
theorem d_Ro_addAll_15 : decode b_Ro_addAll 15 = .ok (.iinc 2 1, 3) := by decide +kernel
theorem d_Ro_addAll_18 : decode b_Ro_addAll 18 = .ok (.goto (-16), 3) := by decide +kernel
theorem d_Ro_addAll_21 : decode b_Ro_addAll 21 = .ok (.return_, 1) := by decide +kernel
abbrev b_Ro_addByte : ByteArray := prog_5_method_6_code
def y_Ro_addByte : MethodName := ⟨"TwinKeepers$Row", "addByte", "(B)V"⟩
theorem kc_Ro_addByte : Cond.code y_Ro_addByte b_Ro_addByte 2 none ∈ xT := xin 450 (by decide +kernel) (by decide +kernel)
theorem k_Ro_addByte : xCode y_Ro_addByte b_Ro_addByte 2 none [] := Or.inl ⟨rfl, kc_Ro_addByte⟩
theorem h_Ro_addByte : plainFor y_Ro_addByte = true ∧ (y_Ro_addByte.cls ≠ "java/lang/invoke/MethodHandle" ∧ y_Ro_addByte.cls ≠ "java/lang/invoke/VarHandle") ∧ (parseMethodDescriptor y_Ro_addByte.desc).map (fun d => d.parameters.length) = some 1 := by decide +kernel
theorem v_Ro_addByte : Cond.instanceMethod y_Ro_addByte ∈ xT := xin 449 (by decide +kernel) (by decide +kernel)
theorem e_Ro_addByte : Cond.selects "TwinKeepers$Row" y_Ro_addByte y_Ro_addByte ∈ xT := xinp 8 (by decide +kernel) (by decide +kernel)
theorem d_Ro_addByte_0 : decode b_Ro_addByte 0 = .ok (.aload_n 0, 1) := by decide +kernel
theorem d_Ro_addByte_1 : decode b_Ro_addByte 1 = .ok (.getfield 13, 3) := by decide +kernel
theorem d_Ro_addByte_4 : decode b_Ro_addByte 4 = .ok (.aload_n 0, 1) := by decide +kernel
theorem d_Ro_addByte_5 : decode b_Ro_addByte 5 = .ok (.getfield 9, 3) := by decide +kernel
theorem d_Ro_addByte_8 : decode b_Ro_addByte 8 = .ok (.arraylength, 1) := by decide +kernel
theorem d_Ro_addByte_9 : decode b_Ro_addByte 9 = .ok (.if_icmp .lt 32, 3) := by decide +kernel
theorem d_Ro_addByte_12 : decode b_Ro_addByte 12 = .ok (.aload_n 0, 1) := by decide +kernel
theorem d_Ro_addByte_13 : decode b_Ro_addByte 13 = .ok (.getfield 9, 3) := by decide +kernel
theorem d_Ro_addByte_16 : decode b_Ro_addByte 16 = .ok (.arraylength, 1) := by decide +kernel
theorem d_Ro_addByte_17 : decode b_Ro_addByte 17 = .ok (.sipush 16384, 3) := by decide +kernel
theorem d_Ro_addByte_20 : decode b_Ro_addByte 20 = .ok (.if_icmp .ge 21, 3) := by decide +kernel
theorem d_Ro_addByte_23 : decode b_Ro_addByte 23 = .ok (.aload_n 0, 1) := by decide +kernel
theorem d_Ro_addByte_24 : decode b_Ro_addByte 24 = .ok (.aload_n 0, 1) := by decide +kernel
theorem d_Ro_addByte_25 : decode b_Ro_addByte 25 = .ok (.getfield 9, 3) := by decide +kernel
theorem d_Ro_addByte_28 : decode b_Ro_addByte 28 = .ok (.iconst 2, 1) := by decide +kernel
theorem d_Ro_addByte_29 : decode b_Ro_addByte 29 = .ok (.aload_n 0, 1) := by decide +kernel
theorem d_Ro_addByte_30 : decode b_Ro_addByte 30 = .ok (.getfield 9, 3) := by decide +kernel
theorem d_Ro_addByte_33 : decode b_Ro_addByte 33 = .ok (.arraylength, 1) := by decide +kernel
theorem d_Ro_addByte_34 : decode b_Ro_addByte 34 = .ok (.imul, 1) := by decide +kernel
theorem d_Ro_addByte_35 : decode b_Ro_addByte 35 = .ok (.invokestatic 21, 3) := by decide +kernel
theorem q_451 : Cond.methodLink "TwinKeepers$Row" 21 ⟨"java/util/Arrays", "copyOf", "([BI)[B"⟩ ∈ xT := xin 451 (by decide +kernel) (by decide +kernel)
theorem d_Ro_addByte_38 : decode b_Ro_addByte 38 = .ok (.putfield 9, 3) := by decide +kernel
theorem d_Ro_addByte_41 : decode b_Ro_addByte 41 = .ok (.aload_n 0, 1) := by decide +kernel
theorem d_Ro_addByte_42 : decode b_Ro_addByte 42 = .ok (.getfield 13, 3) := by decide +kernel
theorem d_Ro_addByte_45 : decode b_Ro_addByte 45 = .ok (.aload_n 0, 1) := by decide +kernel
theorem d_Ro_addByte_46 : decode b_Ro_addByte 46 = .ok (.getfield 9, 3) := by decide +kernel
theorem d_Ro_addByte_49 : decode b_Ro_addByte 49 = .ok (.arraylength, 1) := by decide +kernel
theorem d_Ro_addByte_50 : decode b_Ro_addByte 50 = .ok (.if_icmp .ge 23, 3) := by decide +kernel
theorem d_Ro_addByte_53 : decode b_Ro_addByte 53 = .ok (.aload_n 0, 1) := by decide +kernel
theorem d_Ro_addByte_54 : decode b_Ro_addByte 54 = .ok (.getfield 9, 3) := by decide +kernel
theorem d_Ro_addByte_57 : decode b_Ro_addByte 57 = .ok (.aload_n 0, 1) := by decide +kernel
theorem d_Ro_addByte_58 : decode b_Ro_addByte 58 = .ok (.getfield 13, 3) := by decide +kernel
theorem d_Ro_addByte_61 : decode b_Ro_addByte 61 = .ok (.iload_n 1, 1) := by decide +kernel
theorem d_Ro_addByte_62 : decode b_Ro_addByte 62 = .ok (.bastore, 1) := by decide +kernel
theorem d_Ro_addByte_63 : decode b_Ro_addByte 63 = .ok (.aload_n 0, 1) := by decide +kernel
theorem d_Ro_addByte_64 : decode b_Ro_addByte 64 = .ok (.dup, 1) := by decide +kernel
theorem d_Ro_addByte_65 : decode b_Ro_addByte 65 = .ok (.getfield 13, 3) := by decide +kernel
theorem d_Ro_addByte_68 : decode b_Ro_addByte 68 = .ok (.iconst 1, 1) := by decide +kernel
theorem d_Ro_addByte_69 : decode b_Ro_addByte 69 = .ok (.iadd, 1) := by decide +kernel
theorem d_Ro_addByte_70 : decode b_Ro_addByte 70 = .ok (.putfield 13, 3) := by decide +kernel
theorem d_Ro_addByte_73 : decode b_Ro_addByte 73 = .ok (.return_, 1) := by decide +kernel
abbrev b_TK_operate : ByteArray := prog_1_method_24_code
def y_TK_operate : MethodName := ⟨"TwinKeepers", "operate", "(LTwinKeepers$KeyMap;II)V"⟩
theorem kc_TK_operate : Cond.code y_TK_operate b_TK_operate 8 none ∈ xT := xin 464 (by decide +kernel) (by decide +kernel)
theorem k_TK_operate : xCode y_TK_operate b_TK_operate 8 none [] := Or.inl ⟨rfl, kc_TK_operate⟩
theorem h_TK_operate : plainFor y_TK_operate = true ∧ (y_TK_operate.cls ≠ "java/lang/invoke/MethodHandle" ∧ y_TK_operate.cls ≠ "java/lang/invoke/VarHandle") ∧ (parseMethodDescriptor y_TK_operate.desc).map (fun d => d.parameters.length) = some 3 := by decide +kernel
theorem v_TK_operate : Cond.instanceMethod y_TK_operate ∈ xT := xin 463 (by decide +kernel) (by decide +kernel)
theorem e_TK_operate : Cond.selects "TwinKeepers" y_TK_operate y_TK_operate ∈ xT := xinp 9 (by decide +kernel) (by decide +kernel)
theorem d_TK_operate_0 : decode b_TK_operate 0 = .ok (.iload_n 2, 1) := by decide +kernel
theorem d_TK_operate_1 : decode b_TK_operate 1 = .ok (.invokestatic 217, 3) := by decide +kernel
theorem d_TK_operate_4 : decode b_TK_operate 4 = .ok (.istore 4, 2) := by decide +kernel
theorem d_TK_operate_6 : decode b_TK_operate 6 = .ok (.iload 4, 2) := by decide +kernel
theorem d_TK_operate_8 : decode b_TK_operate 8 = .ok (.iload_n 2, 1) := by decide +kernel
theorem d_TK_operate_9 : decode b_TK_operate 9 = .ok (.invokestatic 214, 3) := by decide +kernel
theorem d_TK_operate_12 : decode b_TK_operate 12 = .ok (.iadd, 1) := by decide +kernel
theorem d_TK_operate_13 : decode b_TK_operate 13 = .ok (.istore 5, 2) := by decide +kernel
theorem d_TK_operate_15 : decode b_TK_operate 15 = .ok (.aload_n 0, 1) := by decide +kernel
theorem d_TK_operate_16 : decode b_TK_operate 16 = .ok (.getfield 19, 3) := by decide +kernel
theorem d_TK_operate_19 : decode b_TK_operate 19 = .ok (.iconst 0, 1) := by decide +kernel
theorem d_TK_operate_20 : decode b_TK_operate 20 = .ok (.iload 4, 2) := by decide +kernel
theorem d_TK_operate_22 : decode b_TK_operate 22 = .ok (.invokestatic 229, 3) := by decide +kernel
theorem q_465 : Cond.methodLink "TwinKeepers" 229 ⟨"java/util/Arrays", "copyOfRange", "([BII)[B"⟩ ∈ xT := xin 465 (by decide +kernel) (by decide +kernel)
theorem d_TK_operate_25 : decode b_TK_operate 25 = .ok (.astore 6, 2) := by decide +kernel
theorem d_TK_operate_27 : decode b_TK_operate 27 = .ok (.aload_n 0, 1) := by decide +kernel
theorem d_TK_operate_28 : decode b_TK_operate 28 = .ok (.getfield 19, 3) := by decide +kernel
theorem d_TK_operate_31 : decode b_TK_operate 31 = .ok (.iload 5, 2) := by decide +kernel
theorem d_TK_operate_33 : decode b_TK_operate 33 = .ok (.iload_n 3, 1) := by decide +kernel
theorem d_TK_operate_34 : decode b_TK_operate 34 = .ok (.invokestatic 229, 3) := by decide +kernel
theorem d_TK_operate_37 : decode b_TK_operate 37 = .ok (.astore 7, 2) := by decide +kernel
theorem d_TK_operate_39 : decode b_TK_operate 39 = .ok (.iload_n 2, 1) := by decide +kernel
theorem d_TK_operate_40 : decode b_TK_operate 40 = .ok (.invokestatic 211, 3) := by decide +kernel
theorem d_TK_operate_43 : decode b_TK_operate 43 = .ok (.lookupswitch 66 #[(0, 25), (1, 40)], 25) := by decide +kernel
theorem d_TK_operate_68 : decode b_TK_operate 68 = .ok (.aload_n 1, 1) := by decide +kernel
theorem d_TK_operate_69 : decode b_TK_operate 69 = .ok (.aload 6, 2) := by decide +kernel
theorem d_TK_operate_71 : decode b_TK_operate 71 = .ok (.aload 7, 2) := by decide +kernel
theorem d_TK_operate_73 : decode b_TK_operate 73 = .ok (.aload_n 0, 1) := by decide +kernel
theorem d_TK_operate_74 : decode b_TK_operate 74 = .ok (.getfield 26, 3) := by decide +kernel
theorem d_TK_operate_77 : decode b_TK_operate 77 = .ok (.invokevirtual 235, 3) := by decide +kernel
theorem q_681 : Cond.methodLink "TwinKeepers" 235 ⟨"TwinKeepers$KeyMap", "put", "([B[BLTwinKeepers$Row;)V"⟩ ∈ xT := xin 681 (by decide +kernel) (by decide +kernel)
theorem d_TK_operate_80 : decode b_TK_operate 80 = .ok (.goto 39, 3) := by decide +kernel
theorem d_TK_operate_83 : decode b_TK_operate 83 = .ok (.aload_n 1, 1) := by decide +kernel
theorem d_TK_operate_84 : decode b_TK_operate 84 = .ok (.aload 6, 2) := by decide +kernel
theorem d_TK_operate_86 : decode b_TK_operate 86 = .ok (.aload_n 0, 1) := by decide +kernel
theorem d_TK_operate_87 : decode b_TK_operate 87 = .ok (.getfield 19, 3) := by decide +kernel
theorem d_TK_operate_90 : decode b_TK_operate 90 = .ok (.iload 4, 2) := by decide +kernel
theorem d_TK_operate_92 : decode b_TK_operate 92 = .ok (.iload 5, 2) := by decide +kernel
theorem d_TK_operate_94 : decode b_TK_operate 94 = .ok (.invokestatic 229, 3) := by decide +kernel
theorem d_TK_operate_97 : decode b_TK_operate 97 = .ok (.aload 7, 2) := by decide +kernel
theorem d_TK_operate_99 : decode b_TK_operate 99 = .ok (.aload_n 0, 1) := by decide +kernel
theorem d_TK_operate_100 : decode b_TK_operate 100 = .ok (.getfield 26, 3) := by decide +kernel
theorem d_TK_operate_103 : decode b_TK_operate 103 = .ok (.invokevirtual 239, 3) := by decide +kernel
theorem q_756 : Cond.methodLink "TwinKeepers" 239 ⟨"TwinKeepers$KeyMap", "swap", "([B[B[BLTwinKeepers$Row;)V"⟩ ∈ xT := xin 756 (by decide +kernel) (by decide +kernel)
theorem d_TK_operate_106 : decode b_TK_operate 106 = .ok (.goto 13, 3) := by decide +kernel
theorem d_TK_operate_109 : decode b_TK_operate 109 = .ok (.aload_n 1, 1) := by decide +kernel
theorem d_TK_operate_110 : decode b_TK_operate 110 = .ok (.aload 6, 2) := by decide +kernel
theorem d_TK_operate_112 : decode b_TK_operate 112 = .ok (.aload_n 0, 1) := by decide +kernel
theorem d_TK_operate_113 : decode b_TK_operate 113 = .ok (.getfield 26, 3) := by decide +kernel
theorem d_TK_operate_116 : decode b_TK_operate 116 = .ok (.invokevirtual 243, 3) := by decide +kernel
theorem q_764 : Cond.methodLink "TwinKeepers" 243 ⟨"TwinKeepers$KeyMap", "remove", "([BLTwinKeepers$Row;)V"⟩ ∈ xT := xin 764 (by decide +kernel) (by decide +kernel)
theorem d_TK_operate_119 : decode b_TK_operate 119 = .ok (.return_, 1) := by decide +kernel
abbrev b_KM_put : ByteArray := prog_3_method_5_code
def y_KM_put : MethodName := ⟨"TwinKeepers$KeyMap", "put", "([B[BLTwinKeepers$Row;)V"⟩
theorem kc_KM_put : Cond.code y_KM_put b_KM_put 8 none ∈ xT := xin 684 (by decide +kernel) (by decide +kernel)
theorem k_KM_put : xCode y_KM_put b_KM_put 8 none [] := Or.inl ⟨rfl, kc_KM_put⟩
theorem h_KM_put : plainFor y_KM_put = true ∧ (y_KM_put.cls ≠ "java/lang/invoke/MethodHandle" ∧ y_KM_put.cls ≠ "java/lang/invoke/VarHandle") ∧ (parseMethodDescriptor y_KM_put.desc).map (fun d => d.parameters.length) = some 3 := by decide +kernel
theorem v_KM_put : Cond.instanceMethod y_KM_put ∈ xT := xin 682 (by decide +kernel) (by decide +kernel)
theorem e_KM_put : Cond.selects "TwinKeepers$KeyMap" y_KM_put y_KM_put ∈ xT := xin 683 (by decide +kernel) (by decide +kernel)
theorem d_KM_put_0 : decode b_KM_put 0 = .ok (.aload_n 0, 1) := by decide +kernel
theorem d_KM_put_1 : decode b_KM_put 1 = .ok (.aload_n 1, 1) := by decide +kernel
theorem d_KM_put_2 : decode b_KM_put 2 = .ok (.invokevirtual 40, 3) := by decide +kernel
theorem q_685 : Cond.methodLink "TwinKeepers$KeyMap" 40 ⟨"TwinKeepers$KeyMap", "firstNotBelow", "([B)I"⟩ ∈ xT := xin 685 (by decide +kernel) (by decide +kernel)
theorem d_KM_put_5 : decode b_KM_put 5 = .ok (.istore 4, 2) := by decide +kernel
theorem d_KM_put_7 : decode b_KM_put 7 = .ok (.aload_n 0, 1) := by decide +kernel
theorem d_KM_put_8 : decode b_KM_put 8 = .ok (.iload 4, 2) := by decide +kernel
theorem d_KM_put_10 : decode b_KM_put 10 = .ok (.aload_n 1, 1) := by decide +kernel
theorem d_KM_put_11 : decode b_KM_put 11 = .ok (.invokevirtual 44, 3) := by decide +kernel
theorem q_696 : Cond.methodLink "TwinKeepers$KeyMap" 44 ⟨"TwinKeepers$KeyMap", "isAt", "(I[B)Z"⟩ ∈ xT := xin 696 (by decide +kernel) (by decide +kernel)
theorem d_KM_put_14 : decode b_KM_put 14 = .ok (.istore 5, 2) := by decide +kernel
theorem d_KM_put_16 : decode b_KM_put 16 = .ok (.iload 5, 2) := by decide +kernel
theorem d_KM_put_18 : decode b_KM_put 18 = .ok (.ifCond .eq 21, 3) := by decide +kernel
theorem d_KM_put_21 : decode b_KM_put 21 = .ok (.aload_n 0, 1) := by decide +kernel
theorem d_KM_put_22 : decode b_KM_put 22 = .ok (.getfield 12, 3) := by decide +kernel
theorem d_KM_put_25 : decode b_KM_put 25 = .ok (.iload 4, 2) := by decide +kernel
theorem d_KM_put_27 : decode b_KM_put 27 = .ok (.invokevirtual 26, 3) := by decide +kernel
theorem q_690 : Cond.methodLink "TwinKeepers$KeyMap" 26 ⟨"java/util/ArrayList", "get", "(I)Ljava/lang/Object;"⟩ ∈ xT := xin 690 (by decide +kernel) (by decide +kernel)
theorem d_KM_put_30 : decode b_KM_put 30 = .ok (.checkcast 30, 3) := by decide +kernel
theorem q_691 : Cond.classLink "TwinKeepers$KeyMap" 30 "TwinKeepers$Entry" ∈ xT := xin 691 (by decide +kernel) (by decide +kernel)
theorem d_KM_put_33 : decode b_KM_put 33 = .ok (.getfield 48, 3) := by decide +kernel
theorem q_714 : Cond.fieldLink "TwinKeepers$KeyMap" 48 "TwinKeepers$Entry" "value" "[B" ∈ xT := xin 714 (by decide +kernel) (by decide +kernel)
theorem d_KM_put_36 : decode b_KM_put 36 = .ok (.goto 6, 3) := by decide +kernel
theorem d_KM_put_39 : decode b_KM_put 39 = .ok (.getstatic 51, 3) := by decide +kernel
theorem q_700 : Cond.fieldLinkNest "TwinKeepers$KeyMap" 51 "TwinKeepers" "EMPTY" "[B" "TwinKeepers" ∈ xT := xin 700 (by decide +kernel) (by decide +kernel)
theorem d_KM_put_42 : decode b_KM_put 42 = .ok (.astore 6, 2) := by decide +kernel
theorem d_KM_put_44 : decode b_KM_put 44 = .ok (.iload 5, 2) := by decide +kernel
theorem d_KM_put_46 : decode b_KM_put 46 = .ok (.ifCond .eq 13, 3) := by decide +kernel
theorem d_KM_put_49 : decode b_KM_put 49 = .ok (.aload_n 0, 1) := by decide +kernel
theorem d_KM_put_50 : decode b_KM_put 50 = .ok (.iload 4, 2) := by decide +kernel
theorem d_KM_put_52 : decode b_KM_put 52 = .ok (.aload_n 2, 1) := by decide +kernel
theorem d_KM_put_53 : decode b_KM_put 53 = .ok (.invokevirtual 54, 3) := by decide +kernel
theorem q_701 : Cond.methodLink "TwinKeepers$KeyMap" 54 ⟨"TwinKeepers$KeyMap", "replace", "(I[B)Z"⟩ ∈ xT := xin 701 (by decide +kernel) (by decide +kernel)
theorem d_KM_put_56 : decode b_KM_put 56 = .ok (.goto 11, 3) := by decide +kernel
theorem d_KM_put_59 : decode b_KM_put 59 = .ok (.aload_n 0, 1) := by decide +kernel
theorem d_KM_put_60 : decode b_KM_put 60 = .ok (.iload 4, 2) := by decide +kernel
theorem d_KM_put_62 : decode b_KM_put 62 = .ok (.aload_n 1, 1) := by decide +kernel
theorem d_KM_put_63 : decode b_KM_put 63 = .ok (.aload_n 2, 1) := by decide +kernel
theorem d_KM_put_64 : decode b_KM_put 64 = .ok (.invokevirtual 57, 3) := by decide +kernel
theorem q_726 : Cond.methodLink "TwinKeepers$KeyMap" 57 ⟨"TwinKeepers$KeyMap", "insert", "(I[B[B)Z"⟩ ∈ xT := xin 726 (by decide +kernel) (by decide +kernel)
theorem d_KM_put_67 : decode b_KM_put 67 = .ok (.istore 7, 2) := by decide +kernel
theorem d_KM_put_69 : decode b_KM_put 69 = .ok (.iload 7, 2) := by decide +kernel
theorem d_KM_put_71 : decode b_KM_put 71 = .ok (.ifCond .ne 10, 3) := by decide +kernel
theorem d_KM_put_74 : decode b_KM_put 74 = .ok (.aload_n 3, 1) := by decide +kernel
theorem d_KM_put_75 : decode b_KM_put 75 = .ok (.iconst 2, 1) := by decide +kernel
theorem d_KM_put_76 : decode b_KM_put 76 = .ok (.iconst 1, 1) := by decide +kernel
theorem d_KM_put_77 : decode b_KM_put 77 = .ok (.invokevirtual 61, 3) := by decide +kernel
theorem q_751 : Cond.methodLink "TwinKeepers$KeyMap" 61 ⟨"TwinKeepers$Row", "addNumber", "(II)V"⟩ ∈ xT := xin 751 (by decide +kernel) (by decide +kernel)
theorem d_KM_put_80 : decode b_KM_put 80 = .ok (.return_, 1) := by decide +kernel
theorem d_KM_put_81 : decode b_KM_put 81 = .ok (.aload_n 3, 1) := by decide +kernel
theorem d_KM_put_82 : decode b_KM_put 82 = .ok (.iload 5, 2) := by decide +kernel
theorem d_KM_put_84 : decode b_KM_put 84 = .ok (.ifCond .eq 7, 3) := by decide +kernel
theorem d_KM_put_87 : decode b_KM_put 87 = .ok (.iconst 1, 1) := by decide +kernel
theorem d_KM_put_88 : decode b_KM_put 88 = .ok (.goto 4, 3) := by decide +kernel
theorem d_KM_put_91 : decode b_KM_put 91 = .ok (.iconst 0, 1) := by decide +kernel
theorem d_KM_put_92 : decode b_KM_put 92 = .ok (.iconst 1, 1) := by decide +kernel
theorem d_KM_put_93 : decode b_KM_put 93 = .ok (.invokevirtual 61, 3) := by decide +kernel
theorem d_KM_put_96 : decode b_KM_put 96 = .ok (.aload_n 3, 1) := by decide +kernel
theorem d_KM_put_97 : decode b_KM_put 97 = .ok (.aload 6, 2) := by decide +kernel
theorem d_KM_put_99 : decode b_KM_put 99 = .ok (.invokevirtual 67, 3) := by decide +kernel
theorem q_755 : Cond.methodLink "TwinKeepers$KeyMap" 67 ⟨"TwinKeepers$Row", "addAll", "([B)V"⟩ ∈ xT := xin 755 (by decide +kernel) (by decide +kernel)
theorem d_KM_put_102 : decode b_KM_put 102 = .ok (.return_, 1) := by decide +kernel
abbrev b_KM_firstNotBelow : ByteArray := prog_3_method_2_code
def y_KM_firstNotBelow : MethodName := ⟨"TwinKeepers$KeyMap", "firstNotBelow", "([B)I"⟩
theorem kc_KM_firstNotBelow : Cond.code y_KM_firstNotBelow b_KM_firstNotBelow 3 (some .int) ∈ xT := xin 688 (by decide +kernel) (by decide +kernel)
theorem k_KM_firstNotBelow : xCode y_KM_firstNotBelow b_KM_firstNotBelow 3 (some .int) [] := Or.inl ⟨rfl, kc_KM_firstNotBelow⟩
theorem h_KM_firstNotBelow : plainFor y_KM_firstNotBelow = true ∧ (y_KM_firstNotBelow.cls ≠ "java/lang/invoke/MethodHandle" ∧ y_KM_firstNotBelow.cls ≠ "java/lang/invoke/VarHandle") ∧ (parseMethodDescriptor y_KM_firstNotBelow.desc).map (fun d => d.parameters.length) = some 1 := by decide +kernel
theorem v_KM_firstNotBelow : Cond.instanceMethod y_KM_firstNotBelow ∈ xT := xin 686 (by decide +kernel) (by decide +kernel)
theorem e_KM_firstNotBelow : Cond.selects "TwinKeepers$KeyMap" y_KM_firstNotBelow y_KM_firstNotBelow ∈ xT := xin 687 (by decide +kernel) (by decide +kernel)
theorem d_KM_firstNotBelow_0 : decode b_KM_firstNotBelow 0 = .ok (.iconst 0, 1) := by decide +kernel
theorem d_KM_firstNotBelow_1 : decode b_KM_firstNotBelow 1 = .ok (.istore_n 2, 1) := by decide +kernel
theorem d_KM_firstNotBelow_2 : decode b_KM_firstNotBelow 2 = .ok (.iload_n 2, 1) := by decide +kernel
theorem d_KM_firstNotBelow_3 : decode b_KM_firstNotBelow 3 = .ok (.aload_n 0, 1) := by decide +kernel
theorem d_KM_firstNotBelow_4 : decode b_KM_firstNotBelow 4 = .ok (.getfield 12, 3) := by decide +kernel
theorem d_KM_firstNotBelow_7 : decode b_KM_firstNotBelow 7 = .ok (.invokevirtual 22, 3) := by decide +kernel
theorem q_689 : Cond.methodLink "TwinKeepers$KeyMap" 22 ⟨"java/util/ArrayList", "size", "()I"⟩ ∈ xT := xin 689 (by decide +kernel) (by decide +kernel)
theorem d_KM_firstNotBelow_10 : decode b_KM_firstNotBelow 10 = .ok (.if_icmp .ge 32, 3) := by decide +kernel
theorem d_KM_firstNotBelow_13 : decode b_KM_firstNotBelow 13 = .ok (.aload_n 0, 1) := by decide +kernel
theorem d_KM_firstNotBelow_14 : decode b_KM_firstNotBelow 14 = .ok (.getfield 12, 3) := by decide +kernel
theorem d_KM_firstNotBelow_17 : decode b_KM_firstNotBelow 17 = .ok (.iload_n 2, 1) := by decide +kernel
theorem d_KM_firstNotBelow_18 : decode b_KM_firstNotBelow 18 = .ok (.invokevirtual 26, 3) := by decide +kernel
theorem d_KM_firstNotBelow_21 : decode b_KM_firstNotBelow 21 = .ok (.checkcast 30, 3) := by decide +kernel
theorem d_KM_firstNotBelow_24 : decode b_KM_firstNotBelow 24 = .ok (.getfield 32, 3) := by decide +kernel
theorem q_711 : Cond.fieldLink "TwinKeepers$KeyMap" 32 "TwinKeepers$Entry" "key" "[B" ∈ xT := xin 711 (by decide +kernel) (by decide +kernel)
theorem d_KM_firstNotBelow_27 : decode b_KM_firstNotBelow 27 = .ok (.aload_n 1, 1) := by decide +kernel
theorem d_KM_firstNotBelow_28 : decode b_KM_firstNotBelow 28 = .ok (.invokestatic 36, 3) := by decide +kernel
theorem q_692 : Cond.methodLinkNest "TwinKeepers$KeyMap" 36 ⟨"TwinKeepers", "compare", "([B[B)I"⟩ "TwinKeepers" ∈ xT := xin 692 (by decide +kernel) (by decide +kernel)
theorem d_KM_firstNotBelow_31 : decode b_KM_firstNotBelow 31 = .ok (.ifCond .lt 5, 3) := by decide +kernel
theorem d_KM_firstNotBelow_34 : decode b_KM_firstNotBelow 34 = .ok (.iload_n 2, 1) := by decide +kernel
theorem d_KM_firstNotBelow_35 : decode b_KM_firstNotBelow 35 = .ok (.ireturn, 1) := by decide +kernel
theorem d_KM_firstNotBelow_36 : decode b_KM_firstNotBelow 36 = .ok (.iinc 2 1, 3) := by decide +kernel
theorem d_KM_firstNotBelow_39 : decode b_KM_firstNotBelow 39 = .ok (.goto (-37), 3) := by decide +kernel
theorem d_KM_firstNotBelow_42 : decode b_KM_firstNotBelow 42 = .ok (.aload_n 0, 1) := by decide +kernel
theorem d_KM_firstNotBelow_43 : decode b_KM_firstNotBelow 43 = .ok (.getfield 12, 3) := by decide +kernel
theorem d_KM_firstNotBelow_46 : decode b_KM_firstNotBelow 46 = .ok (.invokevirtual 22, 3) := by decide +kernel
theorem d_KM_firstNotBelow_49 : decode b_KM_firstNotBelow 49 = .ok (.ireturn, 1) := by decide +kernel
abbrev b_TK_compare : ByteArray := prog_1_method_26_code
def y_TK_compare : MethodName := ⟨"TwinKeepers", "compare", "([B[B)I"⟩
theorem kc_TK_compare : Cond.code y_TK_compare b_TK_compare 5 (some .int) ∈ xT := xin 694 (by decide +kernel) (by decide +kernel)
theorem k_TK_compare : xCode y_TK_compare b_TK_compare 5 (some .int) [] := Or.inl ⟨rfl, kc_TK_compare⟩
theorem h_TK_compare : plainFor y_TK_compare = true ∧ (y_TK_compare.cls ≠ "java/lang/invoke/MethodHandle" ∧ y_TK_compare.cls ≠ "java/lang/invoke/VarHandle") ∧ (parseMethodDescriptor y_TK_compare.desc).map (fun d => d.parameters.length) = some 2 := by decide +kernel
theorem s_TK_compare : Cond.static y_TK_compare ∈ xT := xin 693 (by decide +kernel) (by decide +kernel)
theorem in_TK_compare : Cond.initialized y_TK_compare.cls ∈ xT := xin 1 (by decide +kernel) (by decide +kernel)
theorem d_TK_compare_0 : decode b_TK_compare 0 = .ok (.aload_n 0, 1) := by decide +kernel
theorem d_TK_compare_1 : decode b_TK_compare 1 = .ok (.arraylength, 1) := by decide +kernel
theorem d_TK_compare_2 : decode b_TK_compare 2 = .ok (.aload_n 1, 1) := by decide +kernel
theorem d_TK_compare_3 : decode b_TK_compare 3 = .ok (.arraylength, 1) := by decide +kernel
theorem d_TK_compare_4 : decode b_TK_compare 4 = .ok (.invokestatic 255, 3) := by decide +kernel
theorem q_695 : Cond.methodLink "TwinKeepers" 255 ⟨"java/lang/Math", "min", "(II)I"⟩ ∈ xT := xin 695 (by decide +kernel) (by decide +kernel)
theorem d_TK_compare_7 : decode b_TK_compare 7 = .ok (.istore_n 2, 1) := by decide +kernel
theorem d_TK_compare_8 : decode b_TK_compare 8 = .ok (.iconst 0, 1) := by decide +kernel
theorem d_TK_compare_9 : decode b_TK_compare 9 = .ok (.istore_n 3, 1) := by decide +kernel
theorem d_TK_compare_10 : decode b_TK_compare 10 = .ok (.iload_n 3, 1) := by decide +kernel
theorem d_TK_compare_11 : decode b_TK_compare 11 = .ok (.iload_n 2, 1) := by decide +kernel
theorem d_TK_compare_12 : decode b_TK_compare 12 = .ok (.if_icmp .ge 34, 3) := by decide +kernel
theorem d_TK_compare_15 : decode b_TK_compare 15 = .ok (.aload_n 0, 1) := by decide +kernel
theorem d_TK_compare_16 : decode b_TK_compare 16 = .ok (.iload_n 3, 1) := by decide +kernel
theorem d_TK_compare_17 : decode b_TK_compare 17 = .ok (.baload, 1) := by decide +kernel
theorem d_TK_compare_18 : decode b_TK_compare 18 = .ok (.sipush 255, 3) := by decide +kernel
theorem d_TK_compare_21 : decode b_TK_compare 21 = .ok (.iand, 1) := by decide +kernel
theorem d_TK_compare_22 : decode b_TK_compare 22 = .ok (.aload_n 1, 1) := by decide +kernel
theorem d_TK_compare_23 : decode b_TK_compare 23 = .ok (.iload_n 3, 1) := by decide +kernel
theorem d_TK_compare_24 : decode b_TK_compare 24 = .ok (.baload, 1) := by decide +kernel
theorem d_TK_compare_25 : decode b_TK_compare 25 = .ok (.sipush 255, 3) := by decide +kernel
theorem d_TK_compare_28 : decode b_TK_compare 28 = .ok (.iand, 1) := by decide +kernel
theorem d_TK_compare_29 : decode b_TK_compare 29 = .ok (.isub, 1) := by decide +kernel
theorem d_TK_compare_30 : decode b_TK_compare 30 = .ok (.istore 4, 2) := by decide +kernel
theorem d_TK_compare_32 : decode b_TK_compare 32 = .ok (.iload 4, 2) := by decide +kernel
theorem d_TK_compare_34 : decode b_TK_compare 34 = .ok (.ifCond .eq 6, 3) := by decide +kernel
theorem d_TK_compare_37 : decode b_TK_compare 37 = .ok (.iload 4, 2) := by decide +kernel
theorem d_TK_compare_39 : decode b_TK_compare 39 = .ok (.ireturn, 1) := by decide +kernel
theorem d_TK_compare_40 : decode b_TK_compare 40 = .ok (.iinc 3 1, 3) := by decide +kernel
theorem d_TK_compare_43 : decode b_TK_compare 43 = .ok (.goto (-33), 3) := by decide +kernel
theorem d_TK_compare_46 : decode b_TK_compare 46 = .ok (.aload_n 0, 1) := by decide +kernel
theorem d_TK_compare_47 : decode b_TK_compare 47 = .ok (.arraylength, 1) := by decide +kernel
theorem d_TK_compare_48 : decode b_TK_compare 48 = .ok (.aload_n 1, 1) := by decide +kernel
theorem d_TK_compare_49 : decode b_TK_compare 49 = .ok (.arraylength, 1) := by decide +kernel
theorem d_TK_compare_50 : decode b_TK_compare 50 = .ok (.isub, 1) := by decide +kernel
theorem d_TK_compare_51 : decode b_TK_compare 51 = .ok (.ireturn, 1) := by decide +kernel
abbrev b_KM_isAt : ByteArray := prog_3_method_3_code
def y_KM_isAt : MethodName := ⟨"TwinKeepers$KeyMap", "isAt", "(I[B)Z"⟩
theorem kc_KM_isAt : Cond.code y_KM_isAt b_KM_isAt 3 (some .boolean) ∈ xT := xin 699 (by decide +kernel) (by decide +kernel)
theorem k_KM_isAt : xCode y_KM_isAt b_KM_isAt 3 (some .boolean) [] := Or.inl ⟨rfl, kc_KM_isAt⟩
theorem h_KM_isAt : plainFor y_KM_isAt = true ∧ (y_KM_isAt.cls ≠ "java/lang/invoke/MethodHandle" ∧ y_KM_isAt.cls ≠ "java/lang/invoke/VarHandle") ∧ (parseMethodDescriptor y_KM_isAt.desc).map (fun d => d.parameters.length) = some 2 := by decide +kernel
theorem v_KM_isAt : Cond.instanceMethod y_KM_isAt ∈ xT := xin 697 (by decide +kernel) (by decide +kernel)
theorem e_KM_isAt : Cond.selects "TwinKeepers$KeyMap" y_KM_isAt y_KM_isAt ∈ xT := xin 698 (by decide +kernel) (by decide +kernel)
theorem d_KM_isAt_0 : decode b_KM_isAt 0 = .ok (.iload_n 1, 1) := by decide +kernel
theorem d_KM_isAt_1 : decode b_KM_isAt 1 = .ok (.aload_n 0, 1) := by decide +kernel
theorem d_KM_isAt_2 : decode b_KM_isAt 2 = .ok (.getfield 12, 3) := by decide +kernel
theorem d_KM_isAt_5 : decode b_KM_isAt 5 = .ok (.invokevirtual 22, 3) := by decide +kernel
theorem d_KM_isAt_8 : decode b_KM_isAt 8 = .ok (.if_icmp .ge 28, 3) := by decide +kernel
theorem d_KM_isAt_11 : decode b_KM_isAt 11 = .ok (.aload_n 0, 1) := by decide +kernel
theorem d_KM_isAt_12 : decode b_KM_isAt 12 = .ok (.getfield 12, 3) := by decide +kernel
theorem d_KM_isAt_15 : decode b_KM_isAt 15 = .ok (.iload_n 1, 1) := by decide +kernel
theorem d_KM_isAt_16 : decode b_KM_isAt 16 = .ok (.invokevirtual 26, 3) := by decide +kernel
theorem d_KM_isAt_19 : decode b_KM_isAt 19 = .ok (.checkcast 30, 3) := by decide +kernel
theorem d_KM_isAt_22 : decode b_KM_isAt 22 = .ok (.getfield 32, 3) := by decide +kernel
theorem d_KM_isAt_25 : decode b_KM_isAt 25 = .ok (.aload_n 2, 1) := by decide +kernel
theorem d_KM_isAt_26 : decode b_KM_isAt 26 = .ok (.invokestatic 36, 3) := by decide +kernel
theorem d_KM_isAt_29 : decode b_KM_isAt 29 = .ok (.ifCond .ne 7, 3) := by decide +kernel
theorem d_KM_isAt_32 : decode b_KM_isAt 32 = .ok (.iconst 1, 1) := by decide +kernel
theorem d_KM_isAt_33 : decode b_KM_isAt 33 = .ok (.goto 4, 3) := by decide +kernel
theorem d_KM_isAt_36 : decode b_KM_isAt 36 = .ok (.iconst 0, 1) := by decide +kernel
theorem d_KM_isAt_37 : decode b_KM_isAt 37 = .ok (.ireturn, 1) := by decide +kernel
abbrev b_KM_replace : ByteArray := prog_3_method_13_code
def y_KM_replace : MethodName := ⟨"TwinKeepers$KeyMap", "replace", "(I[B)Z"⟩
theorem kc_KM_replace : Cond.code y_KM_replace b_KM_replace 6 (some .boolean) ∈ xT := xin 704 (by decide +kernel) (by decide +kernel)
theorem k_KM_replace : xCode y_KM_replace b_KM_replace 6 (some .boolean) [] := Or.inl ⟨rfl, kc_KM_replace⟩
theorem h_KM_replace : plainFor y_KM_replace = true ∧ (y_KM_replace.cls ≠ "java/lang/invoke/MethodHandle" ∧ y_KM_replace.cls ≠ "java/lang/invoke/VarHandle") ∧ (parseMethodDescriptor y_KM_replace.desc).map (fun d => d.parameters.length) = some 2 := by decide +kernel
theorem v_KM_replace : Cond.instanceMethod y_KM_replace ∈ xT := xin 703 (by decide +kernel) (by decide +kernel)
theorem e_KM_replace : Cond.selects "TwinKeepers$KeyMap" y_KM_replace y_KM_replace ∈ xT := xinp 10 (by decide +kernel) (by decide +kernel)
theorem d_KM_replace_0 : decode b_KM_replace 0 = .ok (.aload_n 0, 1) := by decide +kernel
theorem d_KM_replace_1 : decode b_KM_replace 1 = .ok (.getfield 12, 3) := by decide +kernel
theorem d_KM_replace_4 : decode b_KM_replace 4 = .ok (.iload_n 1, 1) := by decide +kernel
theorem d_KM_replace_5 : decode b_KM_replace 5 = .ok (.invokevirtual 26, 3) := by decide +kernel
theorem d_KM_replace_8 : decode b_KM_replace 8 = .ok (.checkcast 30, 3) := by decide +kernel
theorem d_KM_replace_11 : decode b_KM_replace 11 = .ok (.astore_n 3, 1) := by decide +kernel
theorem d_KM_replace_12 : decode b_KM_replace 12 = .ok (.new 30, 3) := by decide +kernel
theorem d_KM_replace_15 : decode b_KM_replace 15 = .ok (.dup, 1) := by decide +kernel
theorem d_KM_replace_16 : decode b_KM_replace 16 = .ok (.aload_n 3, 1) := by decide +kernel
theorem d_KM_replace_17 : decode b_KM_replace 17 = .ok (.getfield 32, 3) := by decide +kernel
theorem d_KM_replace_20 : decode b_KM_replace 20 = .ok (.aload_n 2, 1) := by decide +kernel
theorem d_KM_replace_21 : decode b_KM_replace 21 = .ok (.invokespecial 89, 3) := by decide +kernel
theorem q_706 : Cond.methodLink "TwinKeepers$KeyMap" 89 ⟨"TwinKeepers$Entry", "<init>", "([B[B)V"⟩ ∈ xT := xin 706 (by decide +kernel) (by decide +kernel)
theorem d_KM_replace_24 : decode b_KM_replace 24 = .ok (.astore 4, 2) := by decide +kernel
theorem d_KM_replace_26 : decode b_KM_replace 26 = .ok (.aload_n 0, 1) := by decide +kernel
theorem d_KM_replace_27 : decode b_KM_replace 27 = .ok (.getfield 18, 3) := by decide +kernel
theorem d_KM_replace_30 : decode b_KM_replace 30 = .ok (.aload_n 3, 1) := by decide +kernel
theorem d_KM_replace_31 : decode b_KM_replace 31 = .ok (.invokevirtual 78, 3) := by decide +kernel
theorem q_721 : Cond.methodLink "TwinKeepers$KeyMap" 78 ⟨"TwinKeepers$Entry", "units", "()I"⟩ ∈ xT := xin 721 (by decide +kernel) (by decide +kernel)
theorem d_KM_replace_34 : decode b_KM_replace 34 = .ok (.isub, 1) := by decide +kernel
theorem d_KM_replace_35 : decode b_KM_replace 35 = .ok (.aload 4, 2) := by decide +kernel
theorem d_KM_replace_37 : decode b_KM_replace 37 = .ok (.invokevirtual 78, 3) := by decide +kernel
theorem d_KM_replace_40 : decode b_KM_replace 40 = .ok (.iadd, 1) := by decide +kernel
theorem d_KM_replace_41 : decode b_KM_replace 41 = .ok (.istore 5, 2) := by decide +kernel
theorem d_KM_replace_43 : decode b_KM_replace 43 = .ok (.iload 5, 2) := by decide +kernel
theorem d_KM_replace_45 : decode b_KM_replace 45 = .ok (.sipush 700, 3) := by decide +kernel
theorem d_KM_replace_48 : decode b_KM_replace 48 = .ok (.if_icmp .le 5, 3) := by decide +kernel
theorem d_KM_replace_51 : decode b_KM_replace 51 = .ok (.iconst 0, 1) := by decide +kernel
theorem d_KM_replace_52 : decode b_KM_replace 52 = .ok (.ireturn, 1) := by decide +kernel
theorem d_KM_replace_53 : decode b_KM_replace 53 = .ok (.aload_n 0, 1) := by decide +kernel
theorem d_KM_replace_54 : decode b_KM_replace 54 = .ok (.getfield 12, 3) := by decide +kernel
theorem d_KM_replace_57 : decode b_KM_replace 57 = .ok (.iload_n 1, 1) := by decide +kernel
theorem d_KM_replace_58 : decode b_KM_replace 58 = .ok (.aload 4, 2) := by decide +kernel
theorem d_KM_replace_60 : decode b_KM_replace 60 = .ok (.invokevirtual 96, 3) := by decide +kernel
theorem q_725 : Cond.methodLink "TwinKeepers$KeyMap" 96 ⟨"java/util/ArrayList", "set", "(ILjava/lang/Object;)Ljava/lang/Object;"⟩ ∈ xT := xin 725 (by decide +kernel) (by decide +kernel)
theorem d_KM_replace_63 : decode b_KM_replace 63 = .ok (.pop, 1) := by decide +kernel
theorem d_KM_replace_64 : decode b_KM_replace 64 = .ok (.aload_n 0, 1) := by decide +kernel
theorem d_KM_replace_65 : decode b_KM_replace 65 = .ok (.iload 5, 2) := by decide +kernel
theorem d_KM_replace_67 : decode b_KM_replace 67 = .ok (.putfield 18, 3) := by decide +kernel
theorem d_KM_replace_70 : decode b_KM_replace 70 = .ok (.iconst 1, 1) := by decide +kernel
theorem d_KM_replace_71 : decode b_KM_replace 71 = .ok (.ireturn, 1) := by decide +kernel
abbrev b_En_init : ByteArray := prog_2_method_1_code
def y_En_init : MethodName := ⟨"TwinKeepers$Entry", "<init>", "([B[B)V"⟩
theorem kc_En_init : Cond.code y_En_init b_En_init 3 none ∈ xT := xin 708 (by decide +kernel) (by decide +kernel)
theorem k_En_init : xCode y_En_init b_En_init 3 none [] := Or.inl ⟨rfl, kc_En_init⟩
theorem h_En_init : plainFor y_En_init = true ∧ (y_En_init.cls ≠ "java/lang/invoke/MethodHandle" ∧ y_En_init.cls ≠ "java/lang/invoke/VarHandle") ∧ (parseMethodDescriptor y_En_init.desc).map (fun d => d.parameters.length) = some 2 := by decide +kernel
theorem v_En_init : Cond.instanceMethod y_En_init ∈ xT := xin 707 (by decide +kernel) (by decide +kernel)
theorem d_En_init_0 : decode b_En_init 0 = .ok (.aload_n 0, 1) := by decide +kernel
theorem d_En_init_1 : decode b_En_init 1 = .ok (.invokespecial 3, 3) := by decide +kernel
theorem q_709 : Cond.methodLink "TwinKeepers$Entry" 3 ⟨"java/lang/Object", "<init>", "()V"⟩ ∈ xT := xin 709 (by decide +kernel) (by decide +kernel)
theorem d_En_init_4 : decode b_En_init 4 = .ok (.aload_n 0, 1) := by decide +kernel
theorem d_En_init_5 : decode b_En_init 5 = .ok (.aload_n 1, 1) := by decide +kernel
theorem d_En_init_6 : decode b_En_init 6 = .ok (.putfield 9, 3) := by decide +kernel
theorem q_710 : Cond.fieldLink "TwinKeepers$Entry" 9 "TwinKeepers$Entry" "key" "[B" ∈ xT := xin 710 (by decide +kernel) (by decide +kernel)
theorem d_En_init_9 : decode b_En_init 9 = .ok (.aload_n 0, 1) := by decide +kernel
theorem d_En_init_10 : decode b_En_init 10 = .ok (.aload_n 2, 1) := by decide +kernel
theorem d_En_init_11 : decode b_En_init 11 = .ok (.putfield 15, 3) := by decide +kernel
theorem q_713 : Cond.fieldLink "TwinKeepers$Entry" 15 "TwinKeepers$Entry" "value" "[B" ∈ xT := xin 713 (by decide +kernel) (by decide +kernel)
theorem d_En_init_14 : decode b_En_init 14 = .ok (.return_, 1) := by decide +kernel
abbrev b_En_units : ByteArray := prog_2_method_2_code
def y_En_units : MethodName := ⟨"TwinKeepers$Entry", "units", "()I"⟩
theorem kc_En_units : Cond.code y_En_units b_En_units 1 (some .int) ∈ xT := xin 724 (by decide +kernel) (by decide +kernel)
theorem k_En_units : xCode y_En_units b_En_units 1 (some .int) [] := Or.inl ⟨rfl, kc_En_units⟩
theorem h_En_units : plainFor y_En_units = true ∧ (y_En_units.cls ≠ "java/lang/invoke/MethodHandle" ∧ y_En_units.cls ≠ "java/lang/invoke/VarHandle") ∧ (parseMethodDescriptor y_En_units.desc).map (fun d => d.parameters.length) = some 0 := by decide +kernel
theorem v_En_units : Cond.instanceMethod y_En_units ∈ xT := xin 722 (by decide +kernel) (by decide +kernel)
theorem e_En_units : Cond.selects "TwinKeepers$Entry" y_En_units y_En_units ∈ xT := xin 723 (by decide +kernel) (by decide +kernel)
theorem d_En_units_0 : decode b_En_units 0 = .ok (.aload_n 0, 1) := by decide +kernel
theorem d_En_units_1 : decode b_En_units 1 = .ok (.getfield 9, 3) := by decide +kernel
theorem d_En_units_4 : decode b_En_units 4 = .ok (.arraylength, 1) := by decide +kernel
theorem d_En_units_5 : decode b_En_units 5 = .ok (.aload_n 0, 1) := by decide +kernel
theorem d_En_units_6 : decode b_En_units 6 = .ok (.getfield 15, 3) := by decide +kernel
theorem d_En_units_9 : decode b_En_units 9 = .ok (.arraylength, 1) := by decide +kernel
theorem d_En_units_10 : decode b_En_units 10 = .ok (.iadd, 1) := by decide +kernel
theorem d_En_units_11 : decode b_En_units 11 = .ok (.bipush 16, 2) := by decide +kernel
theorem d_En_units_13 : decode b_En_units 13 = .ok (.iadd, 1) := by decide +kernel
theorem d_En_units_14 : decode b_En_units 14 = .ok (.iconst 1, 1) := by decide +kernel
theorem d_En_units_15 : decode b_En_units 15 = .ok (.isub, 1) := by decide +kernel
theorem d_En_units_16 : decode b_En_units 16 = .ok (.bipush 16, 2) := by decide +kernel
theorem d_En_units_18 : decode b_En_units 18 = .ok (.idiv, 1) := by decide +kernel
theorem d_En_units_19 : decode b_En_units 19 = .ok (.ireturn, 1) := by decide +kernel
abbrev b_KM_insert : ByteArray := prog_3_method_12_code
def y_KM_insert : MethodName := ⟨"TwinKeepers$KeyMap", "insert", "(I[B[B)Z"⟩
theorem kc_KM_insert : Cond.code y_KM_insert b_KM_insert 5 (some .boolean) ∈ xT := xin 729 (by decide +kernel) (by decide +kernel)
theorem k_KM_insert : xCode y_KM_insert b_KM_insert 5 (some .boolean) [] := Or.inl ⟨rfl, kc_KM_insert⟩
theorem h_KM_insert : plainFor y_KM_insert = true ∧ (y_KM_insert.cls ≠ "java/lang/invoke/MethodHandle" ∧ y_KM_insert.cls ≠ "java/lang/invoke/VarHandle") ∧ (parseMethodDescriptor y_KM_insert.desc).map (fun d => d.parameters.length) = some 3 := by decide +kernel
theorem v_KM_insert : Cond.instanceMethod y_KM_insert ∈ xT := xin 728 (by decide +kernel) (by decide +kernel)
theorem e_KM_insert : Cond.selects "TwinKeepers$KeyMap" y_KM_insert y_KM_insert ∈ xT := xinp 11 (by decide +kernel) (by decide +kernel)
theorem d_KM_insert_0 : decode b_KM_insert 0 = .ok (.new 30, 3) := by decide +kernel
theorem d_KM_insert_3 : decode b_KM_insert 3 = .ok (.dup, 1) := by decide +kernel
theorem d_KM_insert_4 : decode b_KM_insert 4 = .ok (.aload_n 2, 1) := by decide +kernel
theorem d_KM_insert_5 : decode b_KM_insert 5 = .ok (.aload_n 3, 1) := by decide +kernel
theorem d_KM_insert_6 : decode b_KM_insert 6 = .ok (.invokespecial 89, 3) := by decide +kernel
theorem d_KM_insert_9 : decode b_KM_insert 9 = .ok (.astore 4, 2) := by decide +kernel
theorem d_KM_insert_11 : decode b_KM_insert 11 = .ok (.aload_n 0, 1) := by decide +kernel
theorem d_KM_insert_12 : decode b_KM_insert 12 = .ok (.getfield 12, 3) := by decide +kernel
theorem d_KM_insert_15 : decode b_KM_insert 15 = .ok (.invokevirtual 22, 3) := by decide +kernel
theorem d_KM_insert_18 : decode b_KM_insert 18 = .ok (.sipush 128, 3) := by decide +kernel
theorem d_KM_insert_21 : decode b_KM_insert 21 = .ok (.if_icmp .ge 19, 3) := by decide +kernel
theorem d_KM_insert_24 : decode b_KM_insert 24 = .ok (.aload_n 0, 1) := by decide +kernel
theorem d_KM_insert_25 : decode b_KM_insert 25 = .ok (.getfield 18, 3) := by decide +kernel
theorem d_KM_insert_28 : decode b_KM_insert 28 = .ok (.aload 4, 2) := by decide +kernel
theorem d_KM_insert_30 : decode b_KM_insert 30 = .ok (.invokevirtual 78, 3) := by decide +kernel
theorem d_KM_insert_33 : decode b_KM_insert 33 = .ok (.iadd, 1) := by decide +kernel
theorem d_KM_insert_34 : decode b_KM_insert 34 = .ok (.sipush 700, 3) := by decide +kernel
theorem d_KM_insert_37 : decode b_KM_insert 37 = .ok (.if_icmp .le 5, 3) := by decide +kernel
theorem d_KM_insert_40 : decode b_KM_insert 40 = .ok (.iconst 0, 1) := by decide +kernel
theorem d_KM_insert_41 : decode b_KM_insert 41 = .ok (.ireturn, 1) := by decide +kernel
theorem d_KM_insert_42 : decode b_KM_insert 42 = .ok (.aload_n 0, 1) := by decide +kernel
theorem d_KM_insert_43 : decode b_KM_insert 43 = .ok (.getfield 12, 3) := by decide +kernel
theorem d_KM_insert_46 : decode b_KM_insert 46 = .ok (.iload_n 1, 1) := by decide +kernel
theorem d_KM_insert_47 : decode b_KM_insert 47 = .ok (.aload 4, 2) := by decide +kernel
theorem d_KM_insert_49 : decode b_KM_insert 49 = .ok (.invokevirtual 92, 3) := by decide +kernel
theorem q_730 : Cond.methodLink "TwinKeepers$KeyMap" 92 ⟨"java/util/ArrayList", "add", "(ILjava/lang/Object;)V"⟩ ∈ xT := xin 730 (by decide +kernel) (by decide +kernel)
theorem d_KM_insert_52 : decode b_KM_insert 52 = .ok (.aload_n 0, 1) := by decide +kernel
theorem d_KM_insert_53 : decode b_KM_insert 53 = .ok (.dup, 1) := by decide +kernel
theorem d_KM_insert_54 : decode b_KM_insert 54 = .ok (.getfield 18, 3) := by decide +kernel
theorem d_KM_insert_57 : decode b_KM_insert 57 = .ok (.aload 4, 2) := by decide +kernel
theorem d_KM_insert_59 : decode b_KM_insert 59 = .ok (.invokevirtual 78, 3) := by decide +kernel
theorem d_KM_insert_62 : decode b_KM_insert 62 = .ok (.iadd, 1) := by decide +kernel
theorem d_KM_insert_63 : decode b_KM_insert 63 = .ok (.putfield 18, 3) := by decide +kernel
theorem d_KM_insert_66 : decode b_KM_insert 66 = .ok (.iconst 1, 1) := by decide +kernel
theorem d_KM_insert_67 : decode b_KM_insert 67 = .ok (.ireturn, 1) := by decide +kernel
abbrev b_Ro_addNumber : ByteArray := prog_5_method_3_code
def y_Ro_addNumber : MethodName := ⟨"TwinKeepers$Row", "addNumber", "(II)V"⟩
theorem kc_Ro_addNumber : Cond.code y_Ro_addNumber b_Ro_addNumber 4 none ∈ xT := xin 754 (by decide +kernel) (by decide +kernel)
theorem k_Ro_addNumber : xCode y_Ro_addNumber b_Ro_addNumber 4 none [] := Or.inl ⟨rfl, kc_Ro_addNumber⟩
theorem h_Ro_addNumber : plainFor y_Ro_addNumber = true ∧ (y_Ro_addNumber.cls ≠ "java/lang/invoke/MethodHandle" ∧ y_Ro_addNumber.cls ≠ "java/lang/invoke/VarHandle") ∧ (parseMethodDescriptor y_Ro_addNumber.desc).map (fun d => d.parameters.length) = some 2 := by decide +kernel
theorem v_Ro_addNumber : Cond.instanceMethod y_Ro_addNumber ∈ xT := xin 752 (by decide +kernel) (by decide +kernel)
theorem e_Ro_addNumber : Cond.selects "TwinKeepers$Row" y_Ro_addNumber y_Ro_addNumber ∈ xT := xin 753 (by decide +kernel) (by decide +kernel)
theorem d_Ro_addNumber_0 : decode b_Ro_addNumber 0 = .ok (.iconst 0, 1) := by decide +kernel
theorem d_Ro_addNumber_1 : decode b_Ro_addNumber 1 = .ok (.istore_n 3, 1) := by decide +kernel
theorem d_Ro_addNumber_2 : decode b_Ro_addNumber 2 = .ok (.iload_n 3, 1) := by decide +kernel
theorem d_Ro_addNumber_3 : decode b_Ro_addNumber 3 = .ok (.iload_n 2, 1) := by decide +kernel
theorem d_Ro_addNumber_4 : decode b_Ro_addNumber 4 = .ok (.if_icmp .ge 20, 3) := by decide +kernel
theorem d_Ro_addNumber_7 : decode b_Ro_addNumber 7 = .ok (.aload_n 0, 1) := by decide +kernel
theorem d_Ro_addNumber_8 : decode b_Ro_addNumber 8 = .ok (.iload_n 1, 1) := by decide +kernel
theorem d_Ro_addNumber_9 : decode b_Ro_addNumber 9 = .ok (.bipush 8, 2) := by decide +kernel
theorem d_Ro_addNumber_11 : decode b_Ro_addNumber 11 = .ok (.iload_n 3, 1) := by decide +kernel
theorem d_Ro_addNumber_12 : decode b_Ro_addNumber 12 = .ok (.imul, 1) := by decide +kernel
theorem d_Ro_addNumber_13 : decode b_Ro_addNumber 13 = .ok (.iushr, 1) := by decide +kernel
theorem d_Ro_addNumber_14 : decode b_Ro_addNumber 14 = .ok (.i2b, 1) := by decide +kernel
theorem d_Ro_addNumber_15 : decode b_Ro_addNumber 15 = .ok (.invokevirtual 17, 3) := by decide +kernel
theorem d_Ro_addNumber_18 : decode b_Ro_addNumber 18 = .ok (.iinc 3 1, 3) := by decide +kernel
theorem d_Ro_addNumber_21 : decode b_Ro_addNumber 21 = .ok (.goto (-19), 3) := by decide +kernel
theorem d_Ro_addNumber_24 : decode b_Ro_addNumber 24 = .ok (.return_, 1) := by decide +kernel
abbrev b_KM_swap : ByteArray := prog_3_method_6_code
def y_KM_swap : MethodName := ⟨"TwinKeepers$KeyMap", "swap", "([B[B[BLTwinKeepers$Row;)V"⟩
theorem kc_KM_swap : Cond.code y_KM_swap b_KM_swap 7 none ∈ xT := xin 759 (by decide +kernel) (by decide +kernel)
theorem k_KM_swap : xCode y_KM_swap b_KM_swap 7 none [] := Or.inl ⟨rfl, kc_KM_swap⟩
theorem h_KM_swap : plainFor y_KM_swap = true ∧ (y_KM_swap.cls ≠ "java/lang/invoke/MethodHandle" ∧ y_KM_swap.cls ≠ "java/lang/invoke/VarHandle") ∧ (parseMethodDescriptor y_KM_swap.desc).map (fun d => d.parameters.length) = some 4 := by decide +kernel
theorem v_KM_swap : Cond.instanceMethod y_KM_swap ∈ xT := xin 757 (by decide +kernel) (by decide +kernel)
theorem e_KM_swap : Cond.selects "TwinKeepers$KeyMap" y_KM_swap y_KM_swap ∈ xT := xin 758 (by decide +kernel) (by decide +kernel)
theorem d_KM_swap_0 : decode b_KM_swap 0 = .ok (.aload_n 0, 1) := by decide +kernel
theorem d_KM_swap_1 : decode b_KM_swap 1 = .ok (.aload_n 1, 1) := by decide +kernel
theorem d_KM_swap_2 : decode b_KM_swap 2 = .ok (.invokevirtual 71, 3) := by decide +kernel
theorem q_760 : Cond.methodLink "TwinKeepers$KeyMap" 71 ⟨"TwinKeepers$KeyMap", "indexOf", "([B)I"⟩ ∈ xT := xin 760 (by decide +kernel) (by decide +kernel)
theorem d_KM_swap_5 : decode b_KM_swap 5 = .ok (.istore 5, 2) := by decide +kernel
theorem d_KM_swap_7 : decode b_KM_swap 7 = .ok (.iload 5, 2) := by decide +kernel
theorem d_KM_swap_9 : decode b_KM_swap 9 = .ok (.iconst (-1), 1) := by decide +kernel
theorem d_KM_swap_10 : decode b_KM_swap 10 = .ok (.if_icmp .ne 11, 3) := by decide +kernel
theorem d_KM_swap_13 : decode b_KM_swap 13 = .ok (.aload 4, 2) := by decide +kernel
theorem d_KM_swap_15 : decode b_KM_swap 15 = .ok (.iconst 3, 1) := by decide +kernel
theorem d_KM_swap_16 : decode b_KM_swap 16 = .ok (.iconst 1, 1) := by decide +kernel
theorem d_KM_swap_17 : decode b_KM_swap 17 = .ok (.invokevirtual 61, 3) := by decide +kernel
theorem d_KM_swap_20 : decode b_KM_swap 20 = .ok (.return_, 1) := by decide +kernel
theorem d_KM_swap_21 : decode b_KM_swap 21 = .ok (.aload_n 0, 1) := by decide +kernel
theorem d_KM_swap_22 : decode b_KM_swap 22 = .ok (.getfield 12, 3) := by decide +kernel
theorem d_KM_swap_25 : decode b_KM_swap 25 = .ok (.iload 5, 2) := by decide +kernel
theorem d_KM_swap_27 : decode b_KM_swap 27 = .ok (.invokevirtual 26, 3) := by decide +kernel
theorem d_KM_swap_30 : decode b_KM_swap 30 = .ok (.checkcast 30, 3) := by decide +kernel
theorem d_KM_swap_33 : decode b_KM_swap 33 = .ok (.getfield 48, 3) := by decide +kernel
theorem d_KM_swap_36 : decode b_KM_swap 36 = .ok (.astore 6, 2) := by decide +kernel
theorem d_KM_swap_38 : decode b_KM_swap 38 = .ok (.aload 6, 2) := by decide +kernel
theorem d_KM_swap_40 : decode b_KM_swap 40 = .ok (.aload_n 2, 1) := by decide +kernel
theorem d_KM_swap_41 : decode b_KM_swap 41 = .ok (.invokestatic 36, 3) := by decide +kernel
theorem d_KM_swap_44 : decode b_KM_swap 44 = .ok (.ifCond .eq 18, 3) := by decide +kernel
theorem d_KM_swap_47 : decode b_KM_swap 47 = .ok (.aload 4, 2) := by decide +kernel
theorem d_KM_swap_49 : decode b_KM_swap 49 = .ok (.iconst 0, 1) := by decide +kernel
theorem d_KM_swap_50 : decode b_KM_swap 50 = .ok (.iconst 1, 1) := by decide +kernel
theorem d_KM_swap_51 : decode b_KM_swap 51 = .ok (.invokevirtual 61, 3) := by decide +kernel
theorem d_KM_swap_54 : decode b_KM_swap 54 = .ok (.aload 4, 2) := by decide +kernel
theorem d_KM_swap_56 : decode b_KM_swap 56 = .ok (.aload 6, 2) := by decide +kernel
theorem d_KM_swap_58 : decode b_KM_swap 58 = .ok (.invokevirtual 67, 3) := by decide +kernel
theorem d_KM_swap_61 : decode b_KM_swap 61 = .ok (.return_, 1) := by decide +kernel
theorem d_KM_swap_62 : decode b_KM_swap 62 = .ok (.aload 4, 2) := by decide +kernel
theorem d_KM_swap_64 : decode b_KM_swap 64 = .ok (.aload_n 0, 1) := by decide +kernel
theorem d_KM_swap_65 : decode b_KM_swap 65 = .ok (.iload 5, 2) := by decide +kernel
theorem d_KM_swap_67 : decode b_KM_swap 67 = .ok (.aload_n 3, 1) := by decide +kernel
theorem d_KM_swap_68 : decode b_KM_swap 68 = .ok (.invokevirtual 54, 3) := by decide +kernel
theorem d_KM_swap_71 : decode b_KM_swap 71 = .ok (.ifCond .eq 7, 3) := by decide +kernel
theorem d_KM_swap_74 : decode b_KM_swap 74 = .ok (.iconst 1, 1) := by decide +kernel
theorem d_KM_swap_75 : decode b_KM_swap 75 = .ok (.goto 4, 3) := by decide +kernel
theorem d_KM_swap_78 : decode b_KM_swap 78 = .ok (.iconst 2, 1) := by decide +kernel
theorem d_KM_swap_79 : decode b_KM_swap 79 = .ok (.iconst 1, 1) := by decide +kernel
theorem d_KM_swap_80 : decode b_KM_swap 80 = .ok (.invokevirtual 61, 3) := by decide +kernel
theorem d_KM_swap_83 : decode b_KM_swap 83 = .ok (.return_, 1) := by decide +kernel
abbrev b_KM_indexOf : ByteArray := prog_3_method_4_code
def y_KM_indexOf : MethodName := ⟨"TwinKeepers$KeyMap", "indexOf", "([B)I"⟩
theorem kc_KM_indexOf : Cond.code y_KM_indexOf b_KM_indexOf 3 (some .int) ∈ xT := xin 763 (by decide +kernel) (by decide +kernel)
theorem k_KM_indexOf : xCode y_KM_indexOf b_KM_indexOf 3 (some .int) [] := Or.inl ⟨rfl, kc_KM_indexOf⟩
theorem h_KM_indexOf : plainFor y_KM_indexOf = true ∧ (y_KM_indexOf.cls ≠ "java/lang/invoke/MethodHandle" ∧ y_KM_indexOf.cls ≠ "java/lang/invoke/VarHandle") ∧ (parseMethodDescriptor y_KM_indexOf.desc).map (fun d => d.parameters.length) = some 1 := by decide +kernel
theorem v_KM_indexOf : Cond.instanceMethod y_KM_indexOf ∈ xT := xin 761 (by decide +kernel) (by decide +kernel)
theorem e_KM_indexOf : Cond.selects "TwinKeepers$KeyMap" y_KM_indexOf y_KM_indexOf ∈ xT := xin 762 (by decide +kernel) (by decide +kernel)
theorem d_KM_indexOf_0 : decode b_KM_indexOf 0 = .ok (.aload_n 0, 1) := by decide +kernel
theorem d_KM_indexOf_1 : decode b_KM_indexOf 1 = .ok (.aload_n 1, 1) := by decide +kernel
theorem d_KM_indexOf_2 : decode b_KM_indexOf 2 = .ok (.invokevirtual 40, 3) := by decide +kernel
theorem d_KM_indexOf_5 : decode b_KM_indexOf 5 = .ok (.istore_n 2, 1) := by decide +kernel
theorem d_KM_indexOf_6 : decode b_KM_indexOf 6 = .ok (.aload_n 0, 1) := by decide +kernel
theorem d_KM_indexOf_7 : decode b_KM_indexOf 7 = .ok (.iload_n 2, 1) := by decide +kernel
theorem d_KM_indexOf_8 : decode b_KM_indexOf 8 = .ok (.aload_n 1, 1) := by decide +kernel
theorem d_KM_indexOf_9 : decode b_KM_indexOf 9 = .ok (.invokevirtual 44, 3) := by decide +kernel
theorem d_KM_indexOf_12 : decode b_KM_indexOf 12 = .ok (.ifCond .eq 7, 3) := by decide +kernel
theorem d_KM_indexOf_15 : decode b_KM_indexOf 15 = .ok (.iload_n 2, 1) := by decide +kernel
theorem d_KM_indexOf_16 : decode b_KM_indexOf 16 = .ok (.goto 4, 3) := by decide +kernel
theorem d_KM_indexOf_19 : decode b_KM_indexOf 19 = .ok (.iconst (-1), 1) := by decide +kernel
theorem d_KM_indexOf_20 : decode b_KM_indexOf 20 = .ok (.ireturn, 1) := by decide +kernel
abbrev b_KM_remove : ByteArray := prog_3_method_7_code
def y_KM_remove : MethodName := ⟨"TwinKeepers$KeyMap", "remove", "([BLTwinKeepers$Row;)V"⟩
theorem kc_KM_remove : Cond.code y_KM_remove b_KM_remove 4 none ∈ xT := xin 767 (by decide +kernel) (by decide +kernel)
theorem k_KM_remove : xCode y_KM_remove b_KM_remove 4 none [] := Or.inl ⟨rfl, kc_KM_remove⟩
theorem h_KM_remove : plainFor y_KM_remove = true ∧ (y_KM_remove.cls ≠ "java/lang/invoke/MethodHandle" ∧ y_KM_remove.cls ≠ "java/lang/invoke/VarHandle") ∧ (parseMethodDescriptor y_KM_remove.desc).map (fun d => d.parameters.length) = some 2 := by decide +kernel
theorem v_KM_remove : Cond.instanceMethod y_KM_remove ∈ xT := xin 765 (by decide +kernel) (by decide +kernel)
theorem e_KM_remove : Cond.selects "TwinKeepers$KeyMap" y_KM_remove y_KM_remove ∈ xT := xin 766 (by decide +kernel) (by decide +kernel)
theorem d_KM_remove_0 : decode b_KM_remove 0 = .ok (.aload_n 0, 1) := by decide +kernel
theorem d_KM_remove_1 : decode b_KM_remove 1 = .ok (.aload_n 1, 1) := by decide +kernel
theorem d_KM_remove_2 : decode b_KM_remove 2 = .ok (.invokevirtual 71, 3) := by decide +kernel
theorem d_KM_remove_5 : decode b_KM_remove 5 = .ok (.istore_n 3, 1) := by decide +kernel
theorem d_KM_remove_6 : decode b_KM_remove 6 = .ok (.aload_n 0, 1) := by decide +kernel
theorem d_KM_remove_7 : decode b_KM_remove 7 = .ok (.iload_n 3, 1) := by decide +kernel
theorem d_KM_remove_8 : decode b_KM_remove 8 = .ok (.aload_n 2, 1) := by decide +kernel
theorem d_KM_remove_9 : decode b_KM_remove 9 = .ok (.invokevirtual 74, 3) := by decide +kernel
theorem q_768 : Cond.methodLink "TwinKeepers$KeyMap" 74 ⟨"TwinKeepers$KeyMap", "tellValue", "(ILTwinKeepers$Row;)V"⟩ ∈ xT := xin 768 (by decide +kernel) (by decide +kernel)
theorem d_KM_remove_12 : decode b_KM_remove 12 = .ok (.iload_n 3, 1) := by decide +kernel
theorem d_KM_remove_13 : decode b_KM_remove 13 = .ok (.iconst (-1), 1) := by decide +kernel
theorem d_KM_remove_14 : decode b_KM_remove 14 = .ok (.if_icmp .eq 35, 3) := by decide +kernel
theorem d_KM_remove_17 : decode b_KM_remove 17 = .ok (.aload_n 0, 1) := by decide +kernel
theorem d_KM_remove_18 : decode b_KM_remove 18 = .ok (.dup, 1) := by decide +kernel
theorem d_KM_remove_19 : decode b_KM_remove 19 = .ok (.getfield 18, 3) := by decide +kernel
theorem d_KM_remove_22 : decode b_KM_remove 22 = .ok (.aload_n 0, 1) := by decide +kernel
theorem d_KM_remove_23 : decode b_KM_remove 23 = .ok (.getfield 12, 3) := by decide +kernel
theorem d_KM_remove_26 : decode b_KM_remove 26 = .ok (.iload_n 3, 1) := by decide +kernel
theorem d_KM_remove_27 : decode b_KM_remove 27 = .ok (.invokevirtual 26, 3) := by decide +kernel
theorem d_KM_remove_30 : decode b_KM_remove 30 = .ok (.checkcast 30, 3) := by decide +kernel
theorem d_KM_remove_33 : decode b_KM_remove 33 = .ok (.invokevirtual 78, 3) := by decide +kernel
theorem d_KM_remove_36 : decode b_KM_remove 36 = .ok (.isub, 1) := by decide +kernel
theorem d_KM_remove_37 : decode b_KM_remove 37 = .ok (.putfield 18, 3) := by decide +kernel
theorem d_KM_remove_40 : decode b_KM_remove 40 = .ok (.aload_n 0, 1) := by decide +kernel
theorem d_KM_remove_41 : decode b_KM_remove 41 = .ok (.getfield 12, 3) := by decide +kernel
theorem d_KM_remove_44 : decode b_KM_remove 44 = .ok (.iload_n 3, 1) := by decide +kernel
theorem d_KM_remove_45 : decode b_KM_remove 45 = .ok (.invokevirtual 80, 3) := by decide +kernel
theorem q_772 : Cond.methodLink "TwinKeepers$KeyMap" 80 ⟨"java/util/ArrayList", "remove", "(I)Ljava/lang/Object;"⟩ ∈ xT := xin 772 (by decide +kernel) (by decide +kernel)
theorem d_KM_remove_48 : decode b_KM_remove 48 = .ok (.pop, 1) := by decide +kernel
theorem d_KM_remove_49 : decode b_KM_remove 49 = .ok (.return_, 1) := by decide +kernel
abbrev b_KM_tellValue : ByteArray := prog_3_method_9_code
def y_KM_tellValue : MethodName := ⟨"TwinKeepers$KeyMap", "tellValue", "(ILTwinKeepers$Row;)V"⟩
theorem kc_KM_tellValue : Cond.code y_KM_tellValue b_KM_tellValue 3 none ∈ xT := xin 771 (by decide +kernel) (by decide +kernel)
theorem k_KM_tellValue : xCode y_KM_tellValue b_KM_tellValue 3 none [] := Or.inl ⟨rfl, kc_KM_tellValue⟩
theorem h_KM_tellValue : plainFor y_KM_tellValue = true ∧ (y_KM_tellValue.cls ≠ "java/lang/invoke/MethodHandle" ∧ y_KM_tellValue.cls ≠ "java/lang/invoke/VarHandle") ∧ (parseMethodDescriptor y_KM_tellValue.desc).map (fun d => d.parameters.length) = some 2 := by decide +kernel
theorem v_KM_tellValue : Cond.instanceMethod y_KM_tellValue ∈ xT := xin 770 (by decide +kernel) (by decide +kernel)
theorem e_KM_tellValue : Cond.selects "TwinKeepers$KeyMap" y_KM_tellValue y_KM_tellValue ∈ xT := xinp 14 (by decide +kernel) (by decide +kernel)
theorem d_KM_tellValue_0 : decode b_KM_tellValue 0 = .ok (.iload_n 1, 1) := by decide +kernel
theorem d_KM_tellValue_1 : decode b_KM_tellValue 1 = .ok (.iconst (-1), 1) := by decide +kernel
theorem d_KM_tellValue_2 : decode b_KM_tellValue 2 = .ok (.if_icmp .ne 10, 3) := by decide +kernel
theorem d_KM_tellValue_5 : decode b_KM_tellValue 5 = .ok (.aload_n 2, 1) := by decide +kernel
theorem d_KM_tellValue_6 : decode b_KM_tellValue 6 = .ok (.iconst 0, 1) := by decide +kernel
theorem d_KM_tellValue_7 : decode b_KM_tellValue 7 = .ok (.iconst 1, 1) := by decide +kernel
theorem d_KM_tellValue_8 : decode b_KM_tellValue 8 = .ok (.invokevirtual 61, 3) := by decide +kernel
theorem d_KM_tellValue_11 : decode b_KM_tellValue 11 = .ok (.return_, 1) := by decide +kernel
theorem d_KM_tellValue_12 : decode b_KM_tellValue 12 = .ok (.aload_n 2, 1) := by decide +kernel
theorem d_KM_tellValue_13 : decode b_KM_tellValue 13 = .ok (.iconst 1, 1) := by decide +kernel
theorem d_KM_tellValue_14 : decode b_KM_tellValue 14 = .ok (.iconst 1, 1) := by decide +kernel
theorem d_KM_tellValue_15 : decode b_KM_tellValue 15 = .ok (.invokevirtual 61, 3) := by decide +kernel
theorem d_KM_tellValue_18 : decode b_KM_tellValue 18 = .ok (.aload_n 2, 1) := by decide +kernel
theorem d_KM_tellValue_19 : decode b_KM_tellValue 19 = .ok (.aload_n 0, 1) := by decide +kernel
theorem d_KM_tellValue_20 : decode b_KM_tellValue 20 = .ok (.getfield 12, 3) := by decide +kernel
theorem d_KM_tellValue_23 : decode b_KM_tellValue 23 = .ok (.iload_n 1, 1) := by decide +kernel
theorem d_KM_tellValue_24 : decode b_KM_tellValue 24 = .ok (.invokevirtual 26, 3) := by decide +kernel
theorem d_KM_tellValue_27 : decode b_KM_tellValue 27 = .ok (.checkcast 30, 3) := by decide +kernel
theorem d_KM_tellValue_30 : decode b_KM_tellValue 30 = .ok (.getfield 48, 3) := by decide +kernel
theorem d_KM_tellValue_33 : decode b_KM_tellValue 33 = .ok (.invokevirtual 67, 3) := by decide +kernel
theorem d_KM_tellValue_36 : decode b_KM_tellValue 36 = .ok (.return_, 1) := by decide +kernel
abbrev b_Ro_copied : ByteArray := prog_5_method_5_code
def y_Ro_copied : MethodName := ⟨"TwinKeepers$Row", "copied", "()[B"⟩
theorem kc_Ro_copied : Cond.code y_Ro_copied b_Ro_copied 1 (some (.array .byte)) ∈ xT := xin 776 (by decide +kernel) (by decide +kernel)
theorem k_Ro_copied : xCode y_Ro_copied b_Ro_copied 1 (some (.array .byte)) [] := Or.inl ⟨rfl, kc_Ro_copied⟩
theorem h_Ro_copied : plainFor y_Ro_copied = true ∧ (y_Ro_copied.cls ≠ "java/lang/invoke/MethodHandle" ∧ y_Ro_copied.cls ≠ "java/lang/invoke/VarHandle") ∧ (parseMethodDescriptor y_Ro_copied.desc).map (fun d => d.parameters.length) = some 0 := by decide +kernel
theorem v_Ro_copied : Cond.instanceMethod y_Ro_copied ∈ xT := xin 774 (by decide +kernel) (by decide +kernel)
theorem e_Ro_copied : Cond.selects "TwinKeepers$Row" y_Ro_copied y_Ro_copied ∈ xT := xin 775 (by decide +kernel) (by decide +kernel)
theorem d_Ro_copied_0 : decode b_Ro_copied 0 = .ok (.aload_n 0, 1) := by decide +kernel
theorem d_Ro_copied_1 : decode b_Ro_copied 1 = .ok (.getfield 9, 3) := by decide +kernel
theorem d_Ro_copied_4 : decode b_Ro_copied 4 = .ok (.aload_n 0, 1) := by decide +kernel
theorem d_Ro_copied_5 : decode b_Ro_copied 5 = .ok (.getfield 13, 3) := by decide +kernel
theorem d_Ro_copied_8 : decode b_Ro_copied 8 = .ok (.invokestatic 21, 3) := by decide +kernel
theorem d_Ro_copied_11 : decode b_Ro_copied 11 = .ok (.areturn, 1) := by decide +kernel
abbrev b_Se_answered : ByteArray := prog_6_method_3_code
def y_Se_answered : MethodName := ⟨"TwinKeepers$Session", "answered", "(II[B)LTwinKeepers$Session;"⟩
theorem kc_Se_answered : Cond.code y_Se_answered b_Se_answered 4 (some (.object "TwinKeepers$Session")) ∈ xT := xin 780 (by decide +kernel) (by decide +kernel)
theorem k_Se_answered : xCode y_Se_answered b_Se_answered 4 (some (.object "TwinKeepers$Session")) [] := Or.inl ⟨rfl, kc_Se_answered⟩
theorem h_Se_answered : plainFor y_Se_answered = true ∧ (y_Se_answered.cls ≠ "java/lang/invoke/MethodHandle" ∧ y_Se_answered.cls ≠ "java/lang/invoke/VarHandle") ∧ (parseMethodDescriptor y_Se_answered.desc).map (fun d => d.parameters.length) = some 3 := by decide +kernel
theorem v_Se_answered : Cond.instanceMethod y_Se_answered ∈ xT := xin 778 (by decide +kernel) (by decide +kernel)
theorem e_Se_answered : Cond.selects "TwinKeepers$Session" y_Se_answered y_Se_answered ∈ xT := xin 779 (by decide +kernel) (by decide +kernel)
theorem d_Se_answered_0 : decode b_Se_answered 0 = .ok (.new 8, 3) := by decide +kernel
theorem d_Se_answered_3 : decode b_Se_answered 3 = .ok (.dup, 1) := by decide +kernel
theorem d_Se_answered_4 : decode b_Se_answered 4 = .ok (.aload_n 0, 1) := by decide +kernel
theorem d_Se_answered_5 : decode b_Se_answered 5 = .ok (.getfield 7, 3) := by decide +kernel
theorem d_Se_answered_8 : decode b_Se_answered 8 = .ok (.iload_n 2, 1) := by decide +kernel
theorem d_Se_answered_9 : decode b_Se_answered 9 = .ok (.iload_n 1, 1) := by decide +kernel
theorem d_Se_answered_10 : decode b_Se_answered 10 = .ok (.iload_n 2, 1) := by decide +kernel
theorem d_Se_answered_11 : decode b_Se_answered 11 = .ok (.aload_n 3, 1) := by decide +kernel
theorem d_Se_answered_12 : decode b_Se_answered 12 = .ok (.invokespecial 26, 3) := by decide +kernel
theorem d_Se_answered_15 : decode b_Se_answered 15 = .ok (.areturn, 1) := by decide +kernel
abbrev b_TK_read : ByteArray := prog_1_method_5_code
def y_TK_read : MethodName := ⟨"TwinKeepers", "read", "(II)I"⟩
theorem kc_TK_read : Cond.code y_TK_read b_TK_read 5 (some .int) ∈ xT := xin 787 (by decide +kernel) (by decide +kernel)
theorem k_TK_read : xCode y_TK_read b_TK_read 5 (some .int) [] := Or.inl ⟨rfl, kc_TK_read⟩
theorem h_TK_read : plainFor y_TK_read = true ∧ (y_TK_read.cls ≠ "java/lang/invoke/MethodHandle" ∧ y_TK_read.cls ≠ "java/lang/invoke/VarHandle") ∧ (parseMethodDescriptor y_TK_read.desc).map (fun d => d.parameters.length) = some 2 := by decide +kernel
theorem v_TK_read : Cond.instanceMethod y_TK_read ∈ xT := xin 785 (by decide +kernel) (by decide +kernel)
theorem e_TK_read : Cond.selects "TwinKeepers" y_TK_read y_TK_read ∈ xT := xin 786 (by decide +kernel) (by decide +kernel)
theorem d_TK_read_0 : decode b_TK_read 0 = .ok (.aload_n 0, 1) := by decide +kernel
theorem d_TK_read_1 : decode b_TK_read 1 = .ok (.invokevirtual 73, 3) := by decide +kernel
theorem d_TK_read_4 : decode b_TK_read 4 = .ok (.istore_n 3, 1) := by decide +kernel
theorem d_TK_read_5 : decode b_TK_read 5 = .ok (.aload_n 0, 1) := by decide +kernel
theorem d_TK_read_6 : decode b_TK_read 6 = .ok (.iload_n 1, 1) := by decide +kernel
theorem d_TK_read_7 : decode b_TK_read 7 = .ok (.invokevirtual 49, 3) := by decide +kernel
theorem d_TK_read_10 : decode b_TK_read 10 = .ok (.astore 4, 2) := by decide +kernel
theorem d_TK_read_12 : decode b_TK_read 12 = .ok (.iload_n 2, 1) := by decide +kernel
theorem d_TK_read_13 : decode b_TK_read 13 = .ok (.iload_n 3, 1) := by decide +kernel
theorem d_TK_read_14 : decode b_TK_read 14 = .ok (.invokestatic 135, 3) := by decide +kernel
theorem q_788 : Cond.methodLink "TwinKeepers" 135 ⟨"TwinKeepers", "isReading", "(II)Z"⟩ ∈ xT := xin 788 (by decide +kernel) (by decide +kernel)
theorem d_TK_read_17 : decode b_TK_read 17 = .ok (.ifCond .ne 13, 3) := by decide +kernel
theorem d_TK_read_20 : decode b_TK_read 20 = .ok (.new 37, 3) := by decide +kernel
theorem d_TK_read_23 : decode b_TK_read 23 = .ok (.dup, 1) := by decide +kernel
theorem d_TK_read_24 : decode b_TK_read 24 = .ok (.ldc 138, 2) := by decide +kernel
theorem d_TK_read_26 : decode b_TK_read 26 = .ok (.invokespecial 41, 3) := by decide +kernel
theorem d_TK_read_29 : decode b_TK_read 29 = .ok (.athrow, 1) := by decide +kernel
theorem d_TK_read_30 : decode b_TK_read 30 = .ok (.aload_n 0, 1) := by decide +kernel
theorem d_TK_read_31 : decode b_TK_read 31 = .ok (.getfield 26, 3) := by decide +kernel
theorem d_TK_read_34 : decode b_TK_read 34 = .ok (.invokevirtual 85, 3) := by decide +kernel
theorem d_TK_read_37 : decode b_TK_read 37 = .ok (.aload_n 0, 1) := by decide +kernel
theorem d_TK_read_38 : decode b_TK_read 38 = .ok (.aload 4, 2) := by decide +kernel
theorem d_TK_read_40 : decode b_TK_read 40 = .ok (.getfield 119, 3) := by decide +kernel
theorem d_TK_read_43 : decode b_TK_read 43 = .ok (.iload_n 2, 1) := by decide +kernel
theorem d_TK_read_44 : decode b_TK_read 44 = .ok (.iload_n 3, 1) := by decide +kernel
theorem d_TK_read_45 : decode b_TK_read 45 = .ok (.invokevirtual 140, 3) := by decide +kernel
theorem q_795 : Cond.methodLink "TwinKeepers" 140 ⟨"TwinKeepers", "look", "(LTwinKeepers$KeyMap;II)V"⟩ ∈ xT := xin 795 (by decide +kernel) (by decide +kernel)
theorem d_TK_read_48 : decode b_TK_read 48 = .ok (.aload_n 0, 1) := by decide +kernel
theorem d_TK_read_49 : decode b_TK_read 49 = .ok (.getfield 26, 3) := by decide +kernel
theorem d_TK_read_52 : decode b_TK_read 52 = .ok (.getfield 143, 3) := by decide +kernel
theorem q_110 : Cond.fieldLink "TwinKeepers" 143 "TwinKeepers$Row" "size" "I" ∈ xT := xin 110 (by decide +kernel) (by decide +kernel)
theorem d_TK_read_55 : decode b_TK_read 55 = .ok (.ireturn, 1) := by decide +kernel
abbrev b_TK_isReading : ByteArray := prog_1_method_23_code
def y_TK_isReading : MethodName := ⟨"TwinKeepers", "isReading", "(II)Z"⟩
theorem kc_TK_isReading : Cond.code y_TK_isReading b_TK_isReading 4 (some .boolean) ∈ xT := xin 790 (by decide +kernel) (by decide +kernel)
theorem k_TK_isReading : xCode y_TK_isReading b_TK_isReading 4 (some .boolean) [] := Or.inl ⟨rfl, kc_TK_isReading⟩
theorem h_TK_isReading : plainFor y_TK_isReading = true ∧ (y_TK_isReading.cls ≠ "java/lang/invoke/MethodHandle" ∧ y_TK_isReading.cls ≠ "java/lang/invoke/VarHandle") ∧ (parseMethodDescriptor y_TK_isReading.desc).map (fun d => d.parameters.length) = some 2 := by decide +kernel
theorem s_TK_isReading : Cond.static y_TK_isReading ∈ xT := xin 789 (by decide +kernel) (by decide +kernel)
theorem in_TK_isReading : Cond.initialized y_TK_isReading.cls ∈ xT := xin 1 (by decide +kernel) (by decide +kernel)
theorem d_TK_isReading_0 : decode b_TK_isReading 0 = .ok (.iload_n 0, 1) := by decide +kernel
theorem d_TK_isReading_1 : decode b_TK_isReading 1 = .ok (.invokestatic 211, 3) := by decide +kernel
theorem d_TK_isReading_4 : decode b_TK_isReading 4 = .ok (.istore_n 2, 1) := by decide +kernel
theorem d_TK_isReading_5 : decode b_TK_isReading 5 = .ok (.iload_n 0, 1) := by decide +kernel
theorem d_TK_isReading_6 : decode b_TK_isReading 6 = .ok (.ifCond .lt 13, 3) := by decide +kernel
theorem d_TK_isReading_9 : decode b_TK_isReading 9 = .ok (.iload_n 2, 1) := by decide +kernel
theorem d_TK_isReading_10 : decode b_TK_isReading 10 = .ok (.iconst 3, 1) := by decide +kernel
theorem d_TK_isReading_11 : decode b_TK_isReading 11 = .ok (.if_icmp .lt 8, 3) := by decide +kernel
theorem d_TK_isReading_14 : decode b_TK_isReading 14 = .ok (.iload_n 2, 1) := by decide +kernel
theorem d_TK_isReading_15 : decode b_TK_isReading 15 = .ok (.iconst 5, 1) := by decide +kernel
theorem d_TK_isReading_16 : decode b_TK_isReading 16 = .ok (.if_icmp .le 5, 3) := by decide +kernel
theorem d_TK_isReading_19 : decode b_TK_isReading 19 = .ok (.iconst 0, 1) := by decide +kernel
theorem d_TK_isReading_20 : decode b_TK_isReading 20 = .ok (.ireturn, 1) := by decide +kernel
theorem d_TK_isReading_21 : decode b_TK_isReading 21 = .ok (.iload_n 1, 1) := by decide +kernel
theorem d_TK_isReading_22 : decode b_TK_isReading 22 = .ok (.iload_n 0, 1) := by decide +kernel
theorem d_TK_isReading_23 : decode b_TK_isReading 23 = .ok (.invokestatic 226, 3) := by decide +kernel
theorem q_791 : Cond.methodLink "TwinKeepers" 226 ⟨"TwinKeepers", "readingKeySize", "(I)I"⟩ ∈ xT := xin 791 (by decide +kernel) (by decide +kernel)
theorem d_TK_isReading_26 : decode b_TK_isReading 26 = .ok (.isub, 1) := by decide +kernel
theorem d_TK_isReading_27 : decode b_TK_isReading 27 = .ok (.istore_n 3, 1) := by decide +kernel
theorem d_TK_isReading_28 : decode b_TK_isReading 28 = .ok (.iload_n 0, 1) := by decide +kernel
theorem d_TK_isReading_29 : decode b_TK_isReading 29 = .ok (.invokestatic 226, 3) := by decide +kernel
theorem d_TK_isReading_32 : decode b_TK_isReading 32 = .ok (.invokestatic 220, 3) := by decide +kernel
theorem d_TK_isReading_35 : decode b_TK_isReading 35 = .ok (.ifCond .eq 26, 3) := by decide +kernel
theorem d_TK_isReading_38 : decode b_TK_isReading 38 = .ok (.iload_n 2, 1) := by decide +kernel
theorem d_TK_isReading_39 : decode b_TK_isReading 39 = .ok (.iconst 4, 1) := by decide +kernel
theorem d_TK_isReading_40 : decode b_TK_isReading 40 = .ok (.if_icmp .ne 13, 3) := by decide +kernel
theorem d_TK_isReading_43 : decode b_TK_isReading 43 = .ok (.iload_n 3, 1) := by decide +kernel
theorem d_TK_isReading_44 : decode b_TK_isReading 44 = .ok (.invokestatic 220, 3) := by decide +kernel
theorem d_TK_isReading_47 : decode b_TK_isReading 47 = .ok (.ifCond .eq 14, 3) := by decide +kernel
theorem d_TK_isReading_50 : decode b_TK_isReading 50 = .ok (.goto 7, 3) := by decide +kernel
theorem d_TK_isReading_53 : decode b_TK_isReading 53 = .ok (.iload_n 3, 1) := by decide +kernel
theorem d_TK_isReading_54 : decode b_TK_isReading 54 = .ok (.ifCond .ne 7, 3) := by decide +kernel
theorem d_TK_isReading_57 : decode b_TK_isReading 57 = .ok (.iconst 1, 1) := by decide +kernel
theorem d_TK_isReading_58 : decode b_TK_isReading 58 = .ok (.goto 4, 3) := by decide +kernel
theorem d_TK_isReading_61 : decode b_TK_isReading 61 = .ok (.iconst 0, 1) := by decide +kernel
theorem d_TK_isReading_62 : decode b_TK_isReading 62 = .ok (.ireturn, 1) := by decide +kernel
abbrev b_TK_readingKeySize : ByteArray := prog_1_method_19_code
def y_TK_readingKeySize : MethodName := ⟨"TwinKeepers", "readingKeySize", "(I)I"⟩
theorem kc_TK_readingKeySize : Cond.code y_TK_readingKeySize b_TK_readingKeySize 1 (some .int) ∈ xT := xin 793 (by decide +kernel) (by decide +kernel)
theorem k_TK_readingKeySize : xCode y_TK_readingKeySize b_TK_readingKeySize 1 (some .int) [] := Or.inl ⟨rfl, kc_TK_readingKeySize⟩
theorem h_TK_readingKeySize : plainFor y_TK_readingKeySize = true ∧ (y_TK_readingKeySize.cls ≠ "java/lang/invoke/MethodHandle" ∧ y_TK_readingKeySize.cls ≠ "java/lang/invoke/VarHandle") ∧ (parseMethodDescriptor y_TK_readingKeySize.desc).map (fun d => d.parameters.length) = some 1 := by decide +kernel
theorem s_TK_readingKeySize : Cond.static y_TK_readingKeySize ∈ xT := xin 792 (by decide +kernel) (by decide +kernel)
theorem in_TK_readingKeySize : Cond.initialized y_TK_readingKeySize.cls ∈ xT := xin 1 (by decide +kernel) (by decide +kernel)
theorem d_TK_readingKeySize_0 : decode b_TK_readingKeySize 0 = .ok (.iload_n 0, 1) := by decide +kernel
theorem d_TK_readingKeySize_1 : decode b_TK_readingKeySize 1 = .ok (.iconst 3, 1) := by decide +kernel
theorem d_TK_readingKeySize_2 : decode b_TK_readingKeySize 2 = .ok (.ishr, 1) := by decide +kernel
theorem d_TK_readingKeySize_3 : decode b_TK_readingKeySize 3 = .ok (.ireturn, 1) := by decide +kernel
abbrev b_TK_look : ByteArray := prog_1_method_25_code
def y_TK_look : MethodName := ⟨"TwinKeepers", "look", "(LTwinKeepers$KeyMap;II)V"⟩
theorem kc_TK_look : Cond.code y_TK_look b_TK_look 6 none ∈ xT := xin 798 (by decide +kernel) (by decide +kernel)
theorem k_TK_look : xCode y_TK_look b_TK_look 6 none [] := Or.inl ⟨rfl, kc_TK_look⟩
theorem h_TK_look : plainFor y_TK_look = true ∧ (y_TK_look.cls ≠ "java/lang/invoke/MethodHandle" ∧ y_TK_look.cls ≠ "java/lang/invoke/VarHandle") ∧ (parseMethodDescriptor y_TK_look.desc).map (fun d => d.parameters.length) = some 3 := by decide +kernel
theorem v_TK_look : Cond.instanceMethod y_TK_look ∈ xT := xin 797 (by decide +kernel) (by decide +kernel)
theorem e_TK_look : Cond.selects "TwinKeepers" y_TK_look y_TK_look ∈ xT := xinp 15 (by decide +kernel) (by decide +kernel)
theorem d_TK_look_0 : decode b_TK_look 0 = .ok (.iload_n 2, 1) := by decide +kernel
theorem d_TK_look_1 : decode b_TK_look 1 = .ok (.invokestatic 226, 3) := by decide +kernel
theorem d_TK_look_4 : decode b_TK_look 4 = .ok (.istore 4, 2) := by decide +kernel
theorem d_TK_look_6 : decode b_TK_look 6 = .ok (.aload_n 0, 1) := by decide +kernel
theorem d_TK_look_7 : decode b_TK_look 7 = .ok (.getfield 19, 3) := by decide +kernel
theorem d_TK_look_10 : decode b_TK_look 10 = .ok (.iconst 0, 1) := by decide +kernel
theorem d_TK_look_11 : decode b_TK_look 11 = .ok (.iload 4, 2) := by decide +kernel
theorem d_TK_look_13 : decode b_TK_look 13 = .ok (.invokestatic 229, 3) := by decide +kernel
theorem d_TK_look_16 : decode b_TK_look 16 = .ok (.astore 5, 2) := by decide +kernel
theorem d_TK_look_18 : decode b_TK_look 18 = .ok (.iload_n 2, 1) := by decide +kernel
theorem d_TK_look_19 : decode b_TK_look 19 = .ok (.invokestatic 211, 3) := by decide +kernel
theorem d_TK_look_22 : decode b_TK_look 22 = .ok (.lookupswitch 62 #[(3, 26), (4, 39)], 26) := by decide +kernel
theorem d_TK_look_48 : decode b_TK_look 48 = .ok (.aload_n 1, 1) := by decide +kernel
theorem d_TK_look_49 : decode b_TK_look 49 = .ok (.aload 5, 2) := by decide +kernel
theorem d_TK_look_51 : decode b_TK_look 51 = .ok (.aload_n 0, 1) := by decide +kernel
theorem d_TK_look_52 : decode b_TK_look 52 = .ok (.getfield 26, 3) := by decide +kernel
theorem d_TK_look_55 : decode b_TK_look 55 = .ok (.invokevirtual 247, 3) := by decide +kernel
theorem q_799 : Cond.methodLink "TwinKeepers" 247 ⟨"TwinKeepers$KeyMap", "get", "([BLTwinKeepers$Row;)V"⟩ ∈ xT := xin 799 (by decide +kernel) (by decide +kernel)
theorem d_TK_look_58 : decode b_TK_look 58 = .ok (.goto 36, 3) := by decide +kernel
theorem d_TK_look_61 : decode b_TK_look 61 = .ok (.aload_n 1, 1) := by decide +kernel
theorem d_TK_look_62 : decode b_TK_look 62 = .ok (.aload 5, 2) := by decide +kernel
theorem d_TK_look_64 : decode b_TK_look 64 = .ok (.aload_n 0, 1) := by decide +kernel
theorem d_TK_look_65 : decode b_TK_look 65 = .ok (.getfield 19, 3) := by decide +kernel
theorem d_TK_look_68 : decode b_TK_look 68 = .ok (.iload 4, 2) := by decide +kernel
theorem d_TK_look_70 : decode b_TK_look 70 = .ok (.iload_n 3, 1) := by decide +kernel
theorem d_TK_look_71 : decode b_TK_look 71 = .ok (.invokestatic 229, 3) := by decide +kernel
theorem d_TK_look_74 : decode b_TK_look 74 = .ok (.aload_n 0, 1) := by decide +kernel
theorem d_TK_look_75 : decode b_TK_look 75 = .ok (.getfield 26, 3) := by decide +kernel
theorem d_TK_look_78 : decode b_TK_look 78 = .ok (.invokevirtual 249, 3) := by decide +kernel
theorem q_803 : Cond.methodLink "TwinKeepers" 249 ⟨"TwinKeepers$KeyMap", "count", "([B[BLTwinKeepers$Row;)V"⟩ ∈ xT := xin 803 (by decide +kernel) (by decide +kernel)
theorem d_TK_look_81 : decode b_TK_look 81 = .ok (.goto 13, 3) := by decide +kernel
theorem d_TK_look_84 : decode b_TK_look 84 = .ok (.aload_n 1, 1) := by decide +kernel
theorem d_TK_look_85 : decode b_TK_look 85 = .ok (.aload 5, 2) := by decide +kernel
theorem d_TK_look_87 : decode b_TK_look 87 = .ok (.aload_n 0, 1) := by decide +kernel
theorem d_TK_look_88 : decode b_TK_look 88 = .ok (.getfield 26, 3) := by decide +kernel
theorem d_TK_look_91 : decode b_TK_look 91 = .ok (.invokevirtual 252, 3) := by decide +kernel
theorem q_808 : Cond.methodLink "TwinKeepers" 252 ⟨"TwinKeepers$KeyMap", "next", "([BLTwinKeepers$Row;)V"⟩ ∈ xT := xin 808 (by decide +kernel) (by decide +kernel)
theorem d_TK_look_94 : decode b_TK_look 94 = .ok (.return_, 1) := by decide +kernel
abbrev b_KM_get : ByteArray := prog_3_method_8_code
def y_KM_get : MethodName := ⟨"TwinKeepers$KeyMap", "get", "([BLTwinKeepers$Row;)V"⟩
theorem kc_KM_get : Cond.code y_KM_get b_KM_get 3 none ∈ xT := xin 802 (by decide +kernel) (by decide +kernel)
theorem k_KM_get : xCode y_KM_get b_KM_get 3 none [] := Or.inl ⟨rfl, kc_KM_get⟩
theorem h_KM_get : plainFor y_KM_get = true ∧ (y_KM_get.cls ≠ "java/lang/invoke/MethodHandle" ∧ y_KM_get.cls ≠ "java/lang/invoke/VarHandle") ∧ (parseMethodDescriptor y_KM_get.desc).map (fun d => d.parameters.length) = some 2 := by decide +kernel
theorem v_KM_get : Cond.instanceMethod y_KM_get ∈ xT := xin 800 (by decide +kernel) (by decide +kernel)
theorem e_KM_get : Cond.selects "TwinKeepers$KeyMap" y_KM_get y_KM_get ∈ xT := xin 801 (by decide +kernel) (by decide +kernel)
theorem d_KM_get_0 : decode b_KM_get 0 = .ok (.aload_n 0, 1) := by decide +kernel
theorem d_KM_get_1 : decode b_KM_get 1 = .ok (.aload_n 0, 1) := by decide +kernel
theorem d_KM_get_2 : decode b_KM_get 2 = .ok (.aload_n 1, 1) := by decide +kernel
theorem d_KM_get_3 : decode b_KM_get 3 = .ok (.invokevirtual 71, 3) := by decide +kernel
theorem d_KM_get_6 : decode b_KM_get 6 = .ok (.aload_n 2, 1) := by decide +kernel
theorem d_KM_get_7 : decode b_KM_get 7 = .ok (.invokevirtual 74, 3) := by decide +kernel
theorem d_KM_get_10 : decode b_KM_get 10 = .ok (.return_, 1) := by decide +kernel
abbrev b_KM_count : ByteArray := prog_3_method_10_code
def y_KM_count : MethodName := ⟨"TwinKeepers$KeyMap", "count", "([B[BLTwinKeepers$Row;)V"⟩
theorem kc_KM_count : Cond.code y_KM_count b_KM_count 4 none ∈ xT := xin 806 (by decide +kernel) (by decide +kernel)
theorem k_KM_count : xCode y_KM_count b_KM_count 4 none [] := Or.inl ⟨rfl, kc_KM_count⟩
theorem h_KM_count : plainFor y_KM_count = true ∧ (y_KM_count.cls ≠ "java/lang/invoke/MethodHandle" ∧ y_KM_count.cls ≠ "java/lang/invoke/VarHandle") ∧ (parseMethodDescriptor y_KM_count.desc).map (fun d => d.parameters.length) = some 3 := by decide +kernel
theorem v_KM_count : Cond.instanceMethod y_KM_count ∈ xT := xin 804 (by decide +kernel) (by decide +kernel)
theorem e_KM_count : Cond.selects "TwinKeepers$KeyMap" y_KM_count y_KM_count ∈ xT := xin 805 (by decide +kernel) (by decide +kernel)
theorem d_KM_count_0 : decode b_KM_count 0 = .ok (.aload_n 3, 1) := by decide +kernel
theorem d_KM_count_1 : decode b_KM_count 1 = .ok (.iconst 0, 1) := by decide +kernel
theorem d_KM_count_2 : decode b_KM_count 2 = .ok (.aload_n 0, 1) := by decide +kernel
theorem d_KM_count_3 : decode b_KM_count 3 = .ok (.aload_n 2, 1) := by decide +kernel
theorem d_KM_count_4 : decode b_KM_count 4 = .ok (.invokevirtual 40, 3) := by decide +kernel
theorem d_KM_count_7 : decode b_KM_count 7 = .ok (.aload_n 0, 1) := by decide +kernel
theorem d_KM_count_8 : decode b_KM_count 8 = .ok (.aload_n 1, 1) := by decide +kernel
theorem d_KM_count_9 : decode b_KM_count 9 = .ok (.invokevirtual 40, 3) := by decide +kernel
theorem d_KM_count_12 : decode b_KM_count 12 = .ok (.isub, 1) := by decide +kernel
theorem d_KM_count_13 : decode b_KM_count 13 = .ok (.invokestatic 83, 3) := by decide +kernel
theorem q_807 : Cond.methodLink "TwinKeepers$KeyMap" 83 ⟨"java/lang/Math", "max", "(II)I"⟩ ∈ xT := xin 807 (by decide +kernel) (by decide +kernel)
theorem d_KM_count_16 : decode b_KM_count 16 = .ok (.iconst 2, 1) := by decide +kernel
theorem d_KM_count_17 : decode b_KM_count 17 = .ok (.invokevirtual 61, 3) := by decide +kernel
theorem d_KM_count_20 : decode b_KM_count 20 = .ok (.return_, 1) := by decide +kernel
abbrev b_KM_next : ByteArray := prog_3_method_11_code
def y_KM_next : MethodName := ⟨"TwinKeepers$KeyMap", "next", "([BLTwinKeepers$Row;)V"⟩
theorem kc_KM_next : Cond.code y_KM_next b_KM_next 5 none ∈ xT := xin 811 (by decide +kernel) (by decide +kernel)
theorem k_KM_next : xCode y_KM_next b_KM_next 5 none [] := Or.inl ⟨rfl, kc_KM_next⟩
theorem h_KM_next : plainFor y_KM_next = true ∧ (y_KM_next.cls ≠ "java/lang/invoke/MethodHandle" ∧ y_KM_next.cls ≠ "java/lang/invoke/VarHandle") ∧ (parseMethodDescriptor y_KM_next.desc).map (fun d => d.parameters.length) = some 2 := by decide +kernel
theorem v_KM_next : Cond.instanceMethod y_KM_next ∈ xT := xin 809 (by decide +kernel) (by decide +kernel)
theorem e_KM_next : Cond.selects "TwinKeepers$KeyMap" y_KM_next y_KM_next ∈ xT := xin 810 (by decide +kernel) (by decide +kernel)
theorem d_KM_next_0 : decode b_KM_next 0 = .ok (.aload_n 0, 1) := by decide +kernel
theorem d_KM_next_1 : decode b_KM_next 1 = .ok (.aload_n 1, 1) := by decide +kernel
theorem d_KM_next_2 : decode b_KM_next 2 = .ok (.invokevirtual 40, 3) := by decide +kernel
theorem d_KM_next_5 : decode b_KM_next 5 = .ok (.istore_n 3, 1) := by decide +kernel
theorem d_KM_next_6 : decode b_KM_next 6 = .ok (.iload_n 3, 1) := by decide +kernel
theorem d_KM_next_7 : decode b_KM_next 7 = .ok (.aload_n 0, 1) := by decide +kernel
theorem d_KM_next_8 : decode b_KM_next 8 = .ok (.getfield 12, 3) := by decide +kernel
theorem d_KM_next_11 : decode b_KM_next 11 = .ok (.invokevirtual 22, 3) := by decide +kernel
theorem d_KM_next_14 : decode b_KM_next 14 = .ok (.if_icmp .lt 10, 3) := by decide +kernel
theorem d_KM_next_17 : decode b_KM_next 17 = .ok (.aload_n 2, 1) := by decide +kernel
theorem d_KM_next_18 : decode b_KM_next 18 = .ok (.iconst 0, 1) := by decide +kernel
theorem d_KM_next_19 : decode b_KM_next 19 = .ok (.iconst 1, 1) := by decide +kernel
theorem d_KM_next_20 : decode b_KM_next 20 = .ok (.invokevirtual 61, 3) := by decide +kernel
theorem d_KM_next_23 : decode b_KM_next 23 = .ok (.return_, 1) := by decide +kernel
theorem d_KM_next_24 : decode b_KM_next 24 = .ok (.aload_n 0, 1) := by decide +kernel
theorem d_KM_next_25 : decode b_KM_next 25 = .ok (.getfield 12, 3) := by decide +kernel
theorem d_KM_next_28 : decode b_KM_next 28 = .ok (.iload_n 3, 1) := by decide +kernel
theorem d_KM_next_29 : decode b_KM_next 29 = .ok (.invokevirtual 26, 3) := by decide +kernel
theorem d_KM_next_32 : decode b_KM_next 32 = .ok (.checkcast 30, 3) := by decide +kernel
theorem d_KM_next_35 : decode b_KM_next 35 = .ok (.astore 4, 2) := by decide +kernel
theorem d_KM_next_37 : decode b_KM_next 37 = .ok (.aload_n 2, 1) := by decide +kernel
theorem d_KM_next_38 : decode b_KM_next 38 = .ok (.iconst 1, 1) := by decide +kernel
theorem d_KM_next_39 : decode b_KM_next 39 = .ok (.iconst 1, 1) := by decide +kernel
theorem d_KM_next_40 : decode b_KM_next 40 = .ok (.invokevirtual 61, 3) := by decide +kernel
theorem d_KM_next_43 : decode b_KM_next 43 = .ok (.aload_n 2, 1) := by decide +kernel
theorem d_KM_next_44 : decode b_KM_next 44 = .ok (.aload 4, 2) := by decide +kernel
theorem d_KM_next_46 : decode b_KM_next 46 = .ok (.getfield 32, 3) := by decide +kernel
theorem d_KM_next_49 : decode b_KM_next 49 = .ok (.arraylength, 1) := by decide +kernel
theorem d_KM_next_50 : decode b_KM_next 50 = .ok (.iconst 1, 1) := by decide +kernel
theorem d_KM_next_51 : decode b_KM_next 51 = .ok (.invokevirtual 61, 3) := by decide +kernel
theorem d_KM_next_54 : decode b_KM_next 54 = .ok (.aload_n 2, 1) := by decide +kernel
theorem d_KM_next_55 : decode b_KM_next 55 = .ok (.aload 4, 2) := by decide +kernel
theorem d_KM_next_57 : decode b_KM_next 57 = .ok (.getfield 32, 3) := by decide +kernel
theorem d_KM_next_60 : decode b_KM_next 60 = .ok (.invokevirtual 67, 3) := by decide +kernel
theorem d_KM_next_63 : decode b_KM_next 63 = .ok (.aload_n 2, 1) := by decide +kernel
theorem d_KM_next_64 : decode b_KM_next 64 = .ok (.aload 4, 2) := by decide +kernel
theorem d_KM_next_66 : decode b_KM_next 66 = .ok (.getfield 48, 3) := by decide +kernel
theorem d_KM_next_69 : decode b_KM_next 69 = .ok (.invokevirtual 67, 3) := by decide +kernel
theorem d_KM_next_72 : decode b_KM_next 72 = .ok (.return_, 1) := by decide +kernel
abbrev b_TK_row : ByteArray := prog_1_method_6_code
def y_TK_row : MethodName := ⟨"TwinKeepers", "row", "(I)I"⟩
theorem kc_TK_row : Cond.code y_TK_row b_TK_row 3 (some .int) ∈ xT := xin 818 (by decide +kernel) (by decide +kernel)
theorem k_TK_row : xCode y_TK_row b_TK_row 3 (some .int) [] := Or.inl ⟨rfl, kc_TK_row⟩
theorem h_TK_row : plainFor y_TK_row = true ∧ (y_TK_row.cls ≠ "java/lang/invoke/MethodHandle" ∧ y_TK_row.cls ≠ "java/lang/invoke/VarHandle") ∧ (parseMethodDescriptor y_TK_row.desc).map (fun d => d.parameters.length) = some 1 := by decide +kernel
theorem v_TK_row : Cond.instanceMethod y_TK_row ∈ xT := xin 816 (by decide +kernel) (by decide +kernel)
theorem e_TK_row : Cond.selects "TwinKeepers" y_TK_row y_TK_row ∈ xT := xin 817 (by decide +kernel) (by decide +kernel)
theorem d_TK_row_0 : decode b_TK_row 0 = .ok (.aload_n 0, 1) := by decide +kernel
theorem d_TK_row_1 : decode b_TK_row 1 = .ok (.iload_n 1, 1) := by decide +kernel
theorem d_TK_row_2 : decode b_TK_row 2 = .ok (.invokevirtual 49, 3) := by decide +kernel
theorem d_TK_row_5 : decode b_TK_row 5 = .ok (.astore_n 2, 1) := by decide +kernel
theorem d_TK_row_6 : decode b_TK_row 6 = .ok (.aload_n 0, 1) := by decide +kernel
theorem d_TK_row_7 : decode b_TK_row 7 = .ok (.getfield 26, 3) := by decide +kernel
theorem d_TK_row_10 : decode b_TK_row 10 = .ok (.invokevirtual 85, 3) := by decide +kernel
theorem d_TK_row_13 : decode b_TK_row 13 = .ok (.aload_n 2, 1) := by decide +kernel
theorem d_TK_row_14 : decode b_TK_row 14 = .ok (.aload_n 0, 1) := by decide +kernel
theorem d_TK_row_15 : decode b_TK_row 15 = .ok (.getfield 26, 3) := by decide +kernel
theorem d_TK_row_18 : decode b_TK_row 18 = .ok (.invokevirtual 145, 3) := by decide +kernel
theorem q_819 : Cond.methodLink "TwinKeepers" 145 ⟨"TwinKeepers$Machine", "tell", "(LTwinKeepers$Row;)V"⟩ ∈ xT := xin 819 (by decide +kernel) (by decide +kernel)
theorem d_TK_row_21 : decode b_TK_row 21 = .ok (.aload_n 0, 1) := by decide +kernel
theorem d_TK_row_22 : decode b_TK_row 22 = .ok (.getfield 26, 3) := by decide +kernel
theorem d_TK_row_25 : decode b_TK_row 25 = .ok (.getfield 143, 3) := by decide +kernel
theorem d_TK_row_28 : decode b_TK_row 28 = .ok (.ireturn, 1) := by decide +kernel
abbrev b_Ma_tell : ByteArray := prog_4_method_12_code
def y_Ma_tell : MethodName := ⟨"TwinKeepers$Machine", "tell", "(LTwinKeepers$Row;)V"⟩
theorem kc_Ma_tell : Cond.code y_Ma_tell b_Ma_tell 3 none ∈ xT := xin 822 (by decide +kernel) (by decide +kernel)
theorem k_Ma_tell : xCode y_Ma_tell b_Ma_tell 3 none [] := Or.inl ⟨rfl, kc_Ma_tell⟩
theorem h_Ma_tell : plainFor y_Ma_tell = true ∧ (y_Ma_tell.cls ≠ "java/lang/invoke/MethodHandle" ∧ y_Ma_tell.cls ≠ "java/lang/invoke/VarHandle") ∧ (parseMethodDescriptor y_Ma_tell.desc).map (fun d => d.parameters.length) = some 1 := by decide +kernel
theorem v_Ma_tell : Cond.instanceMethod y_Ma_tell ∈ xT := xin 820 (by decide +kernel) (by decide +kernel)
theorem e_Ma_tell : Cond.selects "TwinKeepers$Machine" y_Ma_tell y_Ma_tell ∈ xT := xin 821 (by decide +kernel) (by decide +kernel)
theorem d_Ma_tell_0 : decode b_Ma_tell 0 = .ok (.aload_n 1, 1) := by decide +kernel
theorem d_Ma_tell_1 : decode b_Ma_tell 1 = .ok (.aload_n 0, 1) := by decide +kernel
theorem d_Ma_tell_2 : decode b_Ma_tell 2 = .ok (.getfield 12, 3) := by decide +kernel
theorem d_Ma_tell_5 : decode b_Ma_tell 5 = .ok (.invokevirtual 30, 3) := by decide +kernel
theorem d_Ma_tell_8 : decode b_Ma_tell 8 = .ok (.iconst 4, 1) := by decide +kernel
theorem d_Ma_tell_9 : decode b_Ma_tell 9 = .ok (.invokevirtual 95, 3) := by decide +kernel
theorem q_823 : Cond.methodLink "TwinKeepers$Machine" 95 ⟨"TwinKeepers$Row", "addNumber", "(II)V"⟩ ∈ xT := xin 823 (by decide +kernel) (by decide +kernel)
theorem d_Ma_tell_12 : decode b_Ma_tell 12 = .ok (.iconst 0, 1) := by decide +kernel
theorem d_Ma_tell_13 : decode b_Ma_tell 13 = .ok (.istore_n 2, 1) := by decide +kernel
theorem d_Ma_tell_14 : decode b_Ma_tell 14 = .ok (.iload_n 2, 1) := by decide +kernel
theorem d_Ma_tell_15 : decode b_Ma_tell 15 = .ok (.aload_n 0, 1) := by decide +kernel
theorem d_Ma_tell_16 : decode b_Ma_tell 16 = .ok (.getfield 12, 3) := by decide +kernel
theorem d_Ma_tell_19 : decode b_Ma_tell 19 = .ok (.invokevirtual 30, 3) := by decide +kernel
theorem d_Ma_tell_22 : decode b_Ma_tell 22 = .ok (.if_icmp .ge 24, 3) := by decide +kernel
theorem d_Ma_tell_25 : decode b_Ma_tell 25 = .ok (.aload_n 0, 1) := by decide +kernel
theorem d_Ma_tell_26 : decode b_Ma_tell 26 = .ok (.getfield 12, 3) := by decide +kernel
theorem d_Ma_tell_29 : decode b_Ma_tell 29 = .ok (.iload_n 2, 1) := by decide +kernel
theorem d_Ma_tell_30 : decode b_Ma_tell 30 = .ok (.invokevirtual 54, 3) := by decide +kernel
theorem d_Ma_tell_33 : decode b_Ma_tell 33 = .ok (.checkcast 41, 3) := by decide +kernel
theorem d_Ma_tell_36 : decode b_Ma_tell 36 = .ok (.aload_n 1, 1) := by decide +kernel
theorem d_Ma_tell_37 : decode b_Ma_tell 37 = .ok (.invokevirtual 101, 3) := by decide +kernel
theorem q_824 : Cond.methodLink "TwinKeepers$Machine" 101 ⟨"TwinKeepers$Session", "tell", "(LTwinKeepers$Row;)V"⟩ ∈ xT := xin 824 (by decide +kernel) (by decide +kernel)
theorem d_Ma_tell_40 : decode b_Ma_tell 40 = .ok (.iinc 2 1, 3) := by decide +kernel
theorem d_Ma_tell_43 : decode b_Ma_tell 43 = .ok (.goto (-29), 3) := by decide +kernel
theorem d_Ma_tell_46 : decode b_Ma_tell 46 = .ok (.aload_n 1, 1) := by decide +kernel
theorem d_Ma_tell_47 : decode b_Ma_tell 47 = .ok (.aload_n 0, 1) := by decide +kernel
theorem d_Ma_tell_48 : decode b_Ma_tell 48 = .ok (.getfield 21, 3) := by decide +kernel
theorem d_Ma_tell_51 : decode b_Ma_tell 51 = .ok (.getfield 66, 3) := by decide +kernel
theorem q_78 : Cond.fieldLink "TwinKeepers$Machine" 66 "TwinKeepers$KeyMap" "entries" "Ljava/util/ArrayList;" ∈ xT := xin 78 (by decide +kernel) (by decide +kernel)
theorem d_Ma_tell_54 : decode b_Ma_tell 54 = .ok (.invokevirtual 30, 3) := by decide +kernel
theorem d_Ma_tell_57 : decode b_Ma_tell 57 = .ok (.iconst 4, 1) := by decide +kernel
theorem d_Ma_tell_58 : decode b_Ma_tell 58 = .ok (.invokevirtual 95, 3) := by decide +kernel
theorem d_Ma_tell_61 : decode b_Ma_tell 61 = .ok (.iconst 0, 1) := by decide +kernel
theorem d_Ma_tell_62 : decode b_Ma_tell 62 = .ok (.istore_n 2, 1) := by decide +kernel
theorem d_Ma_tell_63 : decode b_Ma_tell 63 = .ok (.iload_n 2, 1) := by decide +kernel
theorem d_Ma_tell_64 : decode b_Ma_tell 64 = .ok (.aload_n 0, 1) := by decide +kernel
theorem d_Ma_tell_65 : decode b_Ma_tell 65 = .ok (.getfield 21, 3) := by decide +kernel
theorem d_Ma_tell_68 : decode b_Ma_tell 68 = .ok (.getfield 66, 3) := by decide +kernel
theorem d_Ma_tell_71 : decode b_Ma_tell 71 = .ok (.invokevirtual 30, 3) := by decide +kernel
theorem d_Ma_tell_74 : decode b_Ma_tell 74 = .ok (.if_icmp .ge 27, 3) := by decide +kernel
theorem d_Ma_tell_77 : decode b_Ma_tell 77 = .ok (.aload_n 0, 1) := by decide +kernel
theorem d_Ma_tell_78 : decode b_Ma_tell 78 = .ok (.getfield 21, 3) := by decide +kernel
theorem d_Ma_tell_81 : decode b_Ma_tell 81 = .ok (.getfield 66, 3) := by decide +kernel
theorem d_Ma_tell_84 : decode b_Ma_tell 84 = .ok (.iload_n 2, 1) := by decide +kernel
theorem d_Ma_tell_85 : decode b_Ma_tell 85 = .ok (.invokevirtual 54, 3) := by decide +kernel
theorem d_Ma_tell_88 : decode b_Ma_tell 88 = .ok (.checkcast 75, 3) := by decide +kernel
theorem q_830 : Cond.classLink "TwinKeepers$Machine" 75 "TwinKeepers$Entry" ∈ xT := xin 830 (by decide +kernel) (by decide +kernel)
theorem d_Ma_tell_91 : decode b_Ma_tell 91 = .ok (.aload_n 1, 1) := by decide +kernel
theorem d_Ma_tell_92 : decode b_Ma_tell 92 = .ok (.invokevirtual 105, 3) := by decide +kernel
theorem q_831 : Cond.methodLink "TwinKeepers$Machine" 105 ⟨"TwinKeepers$Entry", "tell", "(LTwinKeepers$Row;)V"⟩ ∈ xT := xin 831 (by decide +kernel) (by decide +kernel)
theorem d_Ma_tell_95 : decode b_Ma_tell 95 = .ok (.iinc 2 1, 3) := by decide +kernel
theorem d_Ma_tell_98 : decode b_Ma_tell 98 = .ok (.goto (-35), 3) := by decide +kernel
theorem d_Ma_tell_101 : decode b_Ma_tell 101 = .ok (.return_, 1) := by decide +kernel
abbrev b_Se_tell : ByteArray := prog_6_method_6_code
def y_Se_tell : MethodName := ⟨"TwinKeepers$Session", "tell", "(LTwinKeepers$Row;)V"⟩
theorem kc_Se_tell : Cond.code y_Se_tell b_Se_tell 2 none ∈ xT := xin 827 (by decide +kernel) (by decide +kernel)
theorem k_Se_tell : xCode y_Se_tell b_Se_tell 2 none [] := Or.inl ⟨rfl, kc_Se_tell⟩
theorem h_Se_tell : plainFor y_Se_tell = true ∧ (y_Se_tell.cls ≠ "java/lang/invoke/MethodHandle" ∧ y_Se_tell.cls ≠ "java/lang/invoke/VarHandle") ∧ (parseMethodDescriptor y_Se_tell.desc).map (fun d => d.parameters.length) = some 1 := by decide +kernel
theorem v_Se_tell : Cond.instanceMethod y_Se_tell ∈ xT := xin 825 (by decide +kernel) (by decide +kernel)
theorem e_Se_tell : Cond.selects "TwinKeepers$Session" y_Se_tell y_Se_tell ∈ xT := xin 826 (by decide +kernel) (by decide +kernel)
theorem d_Se_tell_0 : decode b_Se_tell 0 = .ok (.aload_n 1, 1) := by decide +kernel
theorem d_Se_tell_1 : decode b_Se_tell 1 = .ok (.aload_n 0, 1) := by decide +kernel
theorem d_Se_tell_2 : decode b_Se_tell 2 = .ok (.getfield 7, 3) := by decide +kernel
theorem d_Se_tell_5 : decode b_Se_tell 5 = .ok (.iconst 4, 1) := by decide +kernel
theorem d_Se_tell_6 : decode b_Se_tell 6 = .ok (.invokevirtual 35, 3) := by decide +kernel
theorem q_828 : Cond.methodLink "TwinKeepers$Session" 35 ⟨"TwinKeepers$Row", "addNumber", "(II)V"⟩ ∈ xT := xin 828 (by decide +kernel) (by decide +kernel)
theorem d_Se_tell_9 : decode b_Se_tell 9 = .ok (.aload_n 1, 1) := by decide +kernel
theorem d_Se_tell_10 : decode b_Se_tell 10 = .ok (.aload_n 0, 1) := by decide +kernel
theorem d_Se_tell_11 : decode b_Se_tell 11 = .ok (.getfield 13, 3) := by decide +kernel
theorem d_Se_tell_14 : decode b_Se_tell 14 = .ok (.iconst 4, 1) := by decide +kernel
theorem d_Se_tell_15 : decode b_Se_tell 15 = .ok (.invokevirtual 35, 3) := by decide +kernel
theorem d_Se_tell_18 : decode b_Se_tell 18 = .ok (.aload_n 1, 1) := by decide +kernel
theorem d_Se_tell_19 : decode b_Se_tell 19 = .ok (.aload_n 0, 1) := by decide +kernel
theorem d_Se_tell_20 : decode b_Se_tell 20 = .ok (.getfield 16, 3) := by decide +kernel
theorem d_Se_tell_23 : decode b_Se_tell 23 = .ok (.iconst 4, 1) := by decide +kernel
theorem d_Se_tell_24 : decode b_Se_tell 24 = .ok (.invokevirtual 35, 3) := by decide +kernel
theorem d_Se_tell_27 : decode b_Se_tell 27 = .ok (.aload_n 1, 1) := by decide +kernel
theorem d_Se_tell_28 : decode b_Se_tell 28 = .ok (.aload_n 0, 1) := by decide +kernel
theorem d_Se_tell_29 : decode b_Se_tell 29 = .ok (.getfield 19, 3) := by decide +kernel
theorem d_Se_tell_32 : decode b_Se_tell 32 = .ok (.iconst 4, 1) := by decide +kernel
theorem d_Se_tell_33 : decode b_Se_tell 33 = .ok (.invokevirtual 35, 3) := by decide +kernel
theorem d_Se_tell_36 : decode b_Se_tell 36 = .ok (.aload_n 1, 1) := by decide +kernel
theorem d_Se_tell_37 : decode b_Se_tell 37 = .ok (.aload_n 0, 1) := by decide +kernel
theorem d_Se_tell_38 : decode b_Se_tell 38 = .ok (.getfield 22, 3) := by decide +kernel
theorem d_Se_tell_41 : decode b_Se_tell 41 = .ok (.arraylength, 1) := by decide +kernel
theorem d_Se_tell_42 : decode b_Se_tell 42 = .ok (.iconst 2, 1) := by decide +kernel
theorem d_Se_tell_43 : decode b_Se_tell 43 = .ok (.invokevirtual 35, 3) := by decide +kernel
theorem d_Se_tell_46 : decode b_Se_tell 46 = .ok (.aload_n 1, 1) := by decide +kernel
theorem d_Se_tell_47 : decode b_Se_tell 47 = .ok (.aload_n 0, 1) := by decide +kernel
theorem d_Se_tell_48 : decode b_Se_tell 48 = .ok (.getfield 22, 3) := by decide +kernel
theorem d_Se_tell_51 : decode b_Se_tell 51 = .ok (.invokevirtual 41, 3) := by decide +kernel
theorem q_829 : Cond.methodLink "TwinKeepers$Session" 41 ⟨"TwinKeepers$Row", "addAll", "([B)V"⟩ ∈ xT := xin 829 (by decide +kernel) (by decide +kernel)
theorem d_Se_tell_54 : decode b_Se_tell 54 = .ok (.return_, 1) := by decide +kernel
abbrev b_En_tell : ByteArray := prog_2_method_5_code
def y_En_tell : MethodName := ⟨"TwinKeepers$Entry", "tell", "(LTwinKeepers$Row;)V"⟩
theorem kc_En_tell : Cond.code y_En_tell b_En_tell 2 none ∈ xT := xin 834 (by decide +kernel) (by decide +kernel)
theorem k_En_tell : xCode y_En_tell b_En_tell 2 none [] := Or.inl ⟨rfl, kc_En_tell⟩
theorem h_En_tell : plainFor y_En_tell = true ∧ (y_En_tell.cls ≠ "java/lang/invoke/MethodHandle" ∧ y_En_tell.cls ≠ "java/lang/invoke/VarHandle") ∧ (parseMethodDescriptor y_En_tell.desc).map (fun d => d.parameters.length) = some 1 := by decide +kernel
theorem v_En_tell : Cond.instanceMethod y_En_tell ∈ xT := xin 832 (by decide +kernel) (by decide +kernel)
theorem e_En_tell : Cond.selects "TwinKeepers$Entry" y_En_tell y_En_tell ∈ xT := xin 833 (by decide +kernel) (by decide +kernel)
theorem d_En_tell_0 : decode b_En_tell 0 = .ok (.aload_n 1, 1) := by decide +kernel
theorem d_En_tell_1 : decode b_En_tell 1 = .ok (.aload_n 0, 1) := by decide +kernel
theorem d_En_tell_2 : decode b_En_tell 2 = .ok (.getfield 9, 3) := by decide +kernel
theorem d_En_tell_5 : decode b_En_tell 5 = .ok (.arraylength, 1) := by decide +kernel
theorem d_En_tell_6 : decode b_En_tell 6 = .ok (.iconst 1, 1) := by decide +kernel
theorem d_En_tell_7 : decode b_En_tell 7 = .ok (.invokevirtual 22, 3) := by decide +kernel
theorem q_835 : Cond.methodLink "TwinKeepers$Entry" 22 ⟨"TwinKeepers$Row", "addNumber", "(II)V"⟩ ∈ xT := xin 835 (by decide +kernel) (by decide +kernel)
theorem d_En_tell_10 : decode b_En_tell 10 = .ok (.aload_n 1, 1) := by decide +kernel
theorem d_En_tell_11 : decode b_En_tell 11 = .ok (.aload_n 0, 1) := by decide +kernel
theorem d_En_tell_12 : decode b_En_tell 12 = .ok (.getfield 15, 3) := by decide +kernel
theorem d_En_tell_15 : decode b_En_tell 15 = .ok (.arraylength, 1) := by decide +kernel
theorem d_En_tell_16 : decode b_En_tell 16 = .ok (.iconst 2, 1) := by decide +kernel
theorem d_En_tell_17 : decode b_En_tell 17 = .ok (.invokevirtual 22, 3) := by decide +kernel
theorem d_En_tell_20 : decode b_En_tell 20 = .ok (.aload_n 1, 1) := by decide +kernel
theorem d_En_tell_21 : decode b_En_tell 21 = .ok (.aload_n 0, 1) := by decide +kernel
theorem d_En_tell_22 : decode b_En_tell 22 = .ok (.getfield 9, 3) := by decide +kernel
theorem d_En_tell_25 : decode b_En_tell 25 = .ok (.invokevirtual 28, 3) := by decide +kernel
theorem q_836 : Cond.methodLink "TwinKeepers$Entry" 28 ⟨"TwinKeepers$Row", "addAll", "([B)V"⟩ ∈ xT := xin 836 (by decide +kernel) (by decide +kernel)
theorem d_En_tell_28 : decode b_En_tell 28 = .ok (.aload_n 1, 1) := by decide +kernel
theorem d_En_tell_29 : decode b_En_tell 29 = .ok (.aload_n 0, 1) := by decide +kernel
theorem d_En_tell_30 : decode b_En_tell 30 = .ok (.getfield 15, 3) := by decide +kernel
theorem d_En_tell_33 : decode b_En_tell 33 = .ok (.invokevirtual 28, 3) := by decide +kernel
theorem d_En_tell_36 : decode b_En_tell 36 = .ok (.return_, 1) := by decide +kernel
abbrev b_TK_make : ByteArray := prog_1_method_7_code
def y_TK_make : MethodName := ⟨"TwinKeepers", "make", "(II)Z"⟩
theorem kc_TK_make : Cond.code y_TK_make b_TK_make 6 (some .boolean) ∈ xT := xin 843 (by decide +kernel) (by decide +kernel)
theorem k_TK_make : xCode y_TK_make b_TK_make 6 (some .boolean) [] := Or.inl ⟨rfl, kc_TK_make⟩
theorem h_TK_make : plainFor y_TK_make = true ∧ (y_TK_make.cls ≠ "java/lang/invoke/MethodHandle" ∧ y_TK_make.cls ≠ "java/lang/invoke/VarHandle") ∧ (parseMethodDescriptor y_TK_make.desc).map (fun d => d.parameters.length) = some 2 := by decide +kernel
theorem v_TK_make : Cond.instanceMethod y_TK_make ∈ xT := xin 841 (by decide +kernel) (by decide +kernel)
theorem e_TK_make : Cond.selects "TwinKeepers" y_TK_make y_TK_make ∈ xT := xin 842 (by decide +kernel) (by decide +kernel)
theorem d_TK_make_0 : decode b_TK_make 0 = .ok (.aload_n 0, 1) := by decide +kernel
theorem d_TK_make_1 : decode b_TK_make 1 = .ok (.iload_n 1, 1) := by decide +kernel
theorem d_TK_make_2 : decode b_TK_make 2 = .ok (.invokevirtual 49, 3) := by decide +kernel
theorem d_TK_make_5 : decode b_TK_make 5 = .ok (.astore_n 3, 1) := by decide +kernel
theorem d_TK_make_6 : decode b_TK_make 6 = .ok (.aload_n 0, 1) := by decide +kernel
theorem d_TK_make_7 : decode b_TK_make 7 = .ok (.iload_n 2, 1) := by decide +kernel
theorem d_TK_make_8 : decode b_TK_make 8 = .ok (.invokevirtual 49, 3) := by decide +kernel
theorem d_TK_make_11 : decode b_TK_make 11 = .ok (.astore 4, 2) := by decide +kernel
theorem d_TK_make_13 : decode b_TK_make 13 = .ok (.aload_n 3, 1) := by decide +kernel
theorem d_TK_make_14 : decode b_TK_make 14 = .ok (.aload 4, 2) := by decide +kernel
theorem d_TK_make_16 : decode b_TK_make 16 = .ok (.invokevirtual 149, 3) := by decide +kernel
theorem q_844 : Cond.methodLink "TwinKeepers" 149 ⟨"TwinKeepers$Machine", "hasRowOf", "(LTwinKeepers$Machine;)Z"⟩ ∈ xT := xin 844 (by decide +kernel) (by decide +kernel)
theorem d_TK_make_19 : decode b_TK_make 19 = .ok (.ifCond .ne 7, 3) := by decide +kernel
theorem d_TK_make_22 : decode b_TK_make 22 = .ok (.iconst 1, 1) := by decide +kernel
theorem d_TK_make_23 : decode b_TK_make 23 = .ok (.goto 4, 3) := by decide +kernel
theorem d_TK_make_26 : decode b_TK_make 26 = .ok (.iconst 0, 1) := by decide +kernel
theorem d_TK_make_27 : decode b_TK_make 27 = .ok (.istore 5, 2) := by decide +kernel
theorem d_TK_make_29 : decode b_TK_make 29 = .ok (.iload 5, 2) := by decide +kernel
theorem d_TK_make_31 : decode b_TK_make 31 = .ok (.ifCond .eq 9, 3) := by decide +kernel
theorem d_TK_make_34 : decode b_TK_make 34 = .ok (.aload 4, 2) := by decide +kernel
theorem d_TK_make_36 : decode b_TK_make 36 = .ok (.aload_n 3, 1) := by decide +kernel
theorem d_TK_make_37 : decode b_TK_make 37 = .ok (.invokevirtual 153, 3) := by decide +kernel
theorem q_866 : Cond.methodLink "TwinKeepers" 153 ⟨"TwinKeepers$Machine", "copyRowOf", "(LTwinKeepers$Machine;)V"⟩ ∈ xT := xin 866 (by decide +kernel) (by decide +kernel)
theorem d_TK_make_40 : decode b_TK_make 40 = .ok (.aload 4, 2) := by decide +kernel
theorem d_TK_make_42 : decode b_TK_make 42 = .ok (.aload 4, 2) := by decide +kernel
theorem d_TK_make_44 : decode b_TK_make 44 = .ok (.getfield 82, 3) := by decide +kernel
theorem d_TK_make_47 : decode b_TK_make 47 = .ok (.aload_n 3, 1) := by decide +kernel
theorem d_TK_make_48 : decode b_TK_make 48 = .ok (.getfield 82, 3) := by decide +kernel
theorem d_TK_make_51 : decode b_TK_make 51 = .ok (.invokestatic 157, 3) := by decide +kernel
theorem q_878 : Cond.methodLink "TwinKeepers" 157 ⟨"java/lang/Math", "max", "(II)I"⟩ ∈ xT := xin 878 (by decide +kernel) (by decide +kernel)
theorem d_TK_make_54 : decode b_TK_make 54 = .ok (.putfield 82, 3) := by decide +kernel
theorem d_TK_make_57 : decode b_TK_make 57 = .ok (.iload 5, 2) := by decide +kernel
theorem d_TK_make_59 : decode b_TK_make 59 = .ok (.ireturn, 1) := by decide +kernel
abbrev b_Ma_hasRowOf : ByteArray := prog_4_method_8_code
def y_Ma_hasRowOf : MethodName := ⟨"TwinKeepers$Machine", "hasRowOf", "(LTwinKeepers$Machine;)Z"⟩
theorem kc_Ma_hasRowOf : Cond.code y_Ma_hasRowOf b_Ma_hasRowOf 2 (some .boolean) ∈ xT := xin 847 (by decide +kernel) (by decide +kernel)
theorem k_Ma_hasRowOf : xCode y_Ma_hasRowOf b_Ma_hasRowOf 2 (some .boolean) [] := Or.inl ⟨rfl, kc_Ma_hasRowOf⟩
theorem h_Ma_hasRowOf : plainFor y_Ma_hasRowOf = true ∧ (y_Ma_hasRowOf.cls ≠ "java/lang/invoke/MethodHandle" ∧ y_Ma_hasRowOf.cls ≠ "java/lang/invoke/VarHandle") ∧ (parseMethodDescriptor y_Ma_hasRowOf.desc).map (fun d => d.parameters.length) = some 1 := by decide +kernel
theorem v_Ma_hasRowOf : Cond.instanceMethod y_Ma_hasRowOf ∈ xT := xin 845 (by decide +kernel) (by decide +kernel)
theorem e_Ma_hasRowOf : Cond.selects "TwinKeepers$Machine" y_Ma_hasRowOf y_Ma_hasRowOf ∈ xT := xin 846 (by decide +kernel) (by decide +kernel)
theorem d_Ma_hasRowOf_0 : decode b_Ma_hasRowOf 0 = .ok (.aload_n 0, 1) := by decide +kernel
theorem d_Ma_hasRowOf_1 : decode b_Ma_hasRowOf 1 = .ok (.aload_n 1, 1) := by decide +kernel
theorem d_Ma_hasRowOf_2 : decode b_Ma_hasRowOf 2 = .ok (.invokevirtual 77, 3) := by decide +kernel
theorem q_848 : Cond.methodLink "TwinKeepers$Machine" 77 ⟨"TwinKeepers$Machine", "hasSessionsOf", "(LTwinKeepers$Machine;)Z"⟩ ∈ xT := xin 848 (by decide +kernel) (by decide +kernel)
theorem d_Ma_hasRowOf_5 : decode b_Ma_hasRowOf 5 = .ok (.ifCond .eq 15, 3) := by decide +kernel
theorem d_Ma_hasRowOf_8 : decode b_Ma_hasRowOf 8 = .ok (.aload_n 0, 1) := by decide +kernel
theorem d_Ma_hasRowOf_9 : decode b_Ma_hasRowOf 9 = .ok (.aload_n 1, 1) := by decide +kernel
theorem d_Ma_hasRowOf_10 : decode b_Ma_hasRowOf 10 = .ok (.invokevirtual 81, 3) := by decide +kernel
theorem q_857 : Cond.methodLink "TwinKeepers$Machine" 81 ⟨"TwinKeepers$Machine", "hasEntriesOf", "(LTwinKeepers$Machine;)Z"⟩ ∈ xT := xin 857 (by decide +kernel) (by decide +kernel)
theorem d_Ma_hasRowOf_13 : decode b_Ma_hasRowOf 13 = .ok (.ifCond .eq 7, 3) := by decide +kernel
theorem d_Ma_hasRowOf_16 : decode b_Ma_hasRowOf 16 = .ok (.iconst 1, 1) := by decide +kernel
theorem d_Ma_hasRowOf_17 : decode b_Ma_hasRowOf 17 = .ok (.goto 4, 3) := by decide +kernel
theorem d_Ma_hasRowOf_20 : decode b_Ma_hasRowOf 20 = .ok (.iconst 0, 1) := by decide +kernel
theorem d_Ma_hasRowOf_21 : decode b_Ma_hasRowOf 21 = .ok (.ireturn, 1) := by decide +kernel
abbrev b_Ma_hasSessionsOf : ByteArray := prog_4_method_9_code
def y_Ma_hasSessionsOf : MethodName := ⟨"TwinKeepers$Machine", "hasSessionsOf", "(LTwinKeepers$Machine;)Z"⟩
theorem kc_Ma_hasSessionsOf : Cond.code y_Ma_hasSessionsOf b_Ma_hasSessionsOf 3 (some .boolean) ∈ xT := xin 851 (by decide +kernel) (by decide +kernel)
theorem k_Ma_hasSessionsOf : xCode y_Ma_hasSessionsOf b_Ma_hasSessionsOf 3 (some .boolean) [] := Or.inl ⟨rfl, kc_Ma_hasSessionsOf⟩
theorem h_Ma_hasSessionsOf : plainFor y_Ma_hasSessionsOf = true ∧ (y_Ma_hasSessionsOf.cls ≠ "java/lang/invoke/MethodHandle" ∧ y_Ma_hasSessionsOf.cls ≠ "java/lang/invoke/VarHandle") ∧ (parseMethodDescriptor y_Ma_hasSessionsOf.desc).map (fun d => d.parameters.length) = some 1 := by decide +kernel
theorem v_Ma_hasSessionsOf : Cond.instanceMethod y_Ma_hasSessionsOf ∈ xT := xin 850 (by decide +kernel) (by decide +kernel)
theorem e_Ma_hasSessionsOf : Cond.selects "TwinKeepers$Machine" y_Ma_hasSessionsOf y_Ma_hasSessionsOf ∈ xT := xinp 16 (by decide +kernel) (by decide +kernel)
theorem d_Ma_hasSessionsOf_0 : decode b_Ma_hasSessionsOf 0 = .ok (.aload_n 0, 1) := by decide +kernel
theorem d_Ma_hasSessionsOf_1 : decode b_Ma_hasSessionsOf 1 = .ok (.getfield 12, 3) := by decide +kernel
theorem d_Ma_hasSessionsOf_4 : decode b_Ma_hasSessionsOf 4 = .ok (.invokevirtual 30, 3) := by decide +kernel
theorem d_Ma_hasSessionsOf_7 : decode b_Ma_hasSessionsOf 7 = .ok (.aload_n 1, 1) := by decide +kernel
theorem d_Ma_hasSessionsOf_8 : decode b_Ma_hasSessionsOf 8 = .ok (.getfield 12, 3) := by decide +kernel
theorem d_Ma_hasSessionsOf_11 : decode b_Ma_hasSessionsOf 11 = .ok (.invokevirtual 30, 3) := by decide +kernel
theorem d_Ma_hasSessionsOf_14 : decode b_Ma_hasSessionsOf 14 = .ok (.if_icmp .eq 5, 3) := by decide +kernel
theorem d_Ma_hasSessionsOf_17 : decode b_Ma_hasSessionsOf 17 = .ok (.iconst 0, 1) := by decide +kernel
theorem d_Ma_hasSessionsOf_18 : decode b_Ma_hasSessionsOf 18 = .ok (.ireturn, 1) := by decide +kernel
theorem d_Ma_hasSessionsOf_19 : decode b_Ma_hasSessionsOf 19 = .ok (.iconst 0, 1) := by decide +kernel
theorem d_Ma_hasSessionsOf_20 : decode b_Ma_hasSessionsOf 20 = .ok (.istore_n 2, 1) := by decide +kernel
theorem d_Ma_hasSessionsOf_21 : decode b_Ma_hasSessionsOf 21 = .ok (.iload_n 2, 1) := by decide +kernel
theorem d_Ma_hasSessionsOf_22 : decode b_Ma_hasSessionsOf 22 = .ok (.aload_n 0, 1) := by decide +kernel
theorem d_Ma_hasSessionsOf_23 : decode b_Ma_hasSessionsOf 23 = .ok (.getfield 12, 3) := by decide +kernel
theorem d_Ma_hasSessionsOf_26 : decode b_Ma_hasSessionsOf 26 = .ok (.invokevirtual 30, 3) := by decide +kernel
theorem d_Ma_hasSessionsOf_29 : decode b_Ma_hasSessionsOf 29 = .ok (.if_icmp .ge 39, 3) := by decide +kernel
theorem d_Ma_hasSessionsOf_32 : decode b_Ma_hasSessionsOf 32 = .ok (.aload_n 0, 1) := by decide +kernel
theorem d_Ma_hasSessionsOf_33 : decode b_Ma_hasSessionsOf 33 = .ok (.getfield 12, 3) := by decide +kernel
theorem d_Ma_hasSessionsOf_36 : decode b_Ma_hasSessionsOf 36 = .ok (.iload_n 2, 1) := by decide +kernel
theorem d_Ma_hasSessionsOf_37 : decode b_Ma_hasSessionsOf 37 = .ok (.invokevirtual 54, 3) := by decide +kernel
theorem d_Ma_hasSessionsOf_40 : decode b_Ma_hasSessionsOf 40 = .ok (.checkcast 41, 3) := by decide +kernel
theorem d_Ma_hasSessionsOf_43 : decode b_Ma_hasSessionsOf 43 = .ok (.aload_n 1, 1) := by decide +kernel
theorem d_Ma_hasSessionsOf_44 : decode b_Ma_hasSessionsOf 44 = .ok (.getfield 12, 3) := by decide +kernel
theorem d_Ma_hasSessionsOf_47 : decode b_Ma_hasSessionsOf 47 = .ok (.iload_n 2, 1) := by decide +kernel
theorem d_Ma_hasSessionsOf_48 : decode b_Ma_hasSessionsOf 48 = .ok (.invokevirtual 54, 3) := by decide +kernel
theorem d_Ma_hasSessionsOf_51 : decode b_Ma_hasSessionsOf 51 = .ok (.checkcast 41, 3) := by decide +kernel
theorem d_Ma_hasSessionsOf_54 : decode b_Ma_hasSessionsOf 54 = .ok (.invokevirtual 84, 3) := by decide +kernel
theorem q_852 : Cond.methodLink "TwinKeepers$Machine" 84 ⟨"TwinKeepers$Session", "isLike", "(LTwinKeepers$Session;)Z"⟩ ∈ xT := xin 852 (by decide +kernel) (by decide +kernel)
theorem d_Ma_hasSessionsOf_57 : decode b_Ma_hasSessionsOf 57 = .ok (.ifCond .ne 5, 3) := by decide +kernel
theorem d_Ma_hasSessionsOf_60 : decode b_Ma_hasSessionsOf 60 = .ok (.iconst 0, 1) := by decide +kernel
theorem d_Ma_hasSessionsOf_61 : decode b_Ma_hasSessionsOf 61 = .ok (.ireturn, 1) := by decide +kernel
theorem d_Ma_hasSessionsOf_62 : decode b_Ma_hasSessionsOf 62 = .ok (.iinc 2 1, 3) := by decide +kernel
theorem d_Ma_hasSessionsOf_65 : decode b_Ma_hasSessionsOf 65 = .ok (.goto (-44), 3) := by decide +kernel
theorem d_Ma_hasSessionsOf_68 : decode b_Ma_hasSessionsOf 68 = .ok (.iconst 1, 1) := by decide +kernel
theorem d_Ma_hasSessionsOf_69 : decode b_Ma_hasSessionsOf 69 = .ok (.ireturn, 1) := by decide +kernel
abbrev b_Se_isLike : ByteArray := prog_6_method_4_code
def y_Se_isLike : MethodName := ⟨"TwinKeepers$Session", "isLike", "(LTwinKeepers$Session;)Z"⟩
theorem kc_Se_isLike : Cond.code y_Se_isLike b_Se_isLike 2 (some .boolean) ∈ xT := xin 855 (by decide +kernel) (by decide +kernel)
theorem k_Se_isLike : xCode y_Se_isLike b_Se_isLike 2 (some .boolean) [] := Or.inl ⟨rfl, kc_Se_isLike⟩
theorem h_Se_isLike : plainFor y_Se_isLike = true ∧ (y_Se_isLike.cls ≠ "java/lang/invoke/MethodHandle" ∧ y_Se_isLike.cls ≠ "java/lang/invoke/VarHandle") ∧ (parseMethodDescriptor y_Se_isLike.desc).map (fun d => d.parameters.length) = some 1 := by decide +kernel
theorem v_Se_isLike : Cond.instanceMethod y_Se_isLike ∈ xT := xin 853 (by decide +kernel) (by decide +kernel)
theorem e_Se_isLike : Cond.selects "TwinKeepers$Session" y_Se_isLike y_Se_isLike ∈ xT := xin 854 (by decide +kernel) (by decide +kernel)
theorem d_Se_isLike_0 : decode b_Se_isLike 0 = .ok (.aload_n 0, 1) := by decide +kernel
theorem d_Se_isLike_1 : decode b_Se_isLike 1 = .ok (.getfield 7, 3) := by decide +kernel
theorem d_Se_isLike_4 : decode b_Se_isLike 4 = .ok (.aload_n 1, 1) := by decide +kernel
theorem d_Se_isLike_5 : decode b_Se_isLike 5 = .ok (.getfield 7, 3) := by decide +kernel
theorem d_Se_isLike_8 : decode b_Se_isLike 8 = .ok (.if_icmp .ne 54, 3) := by decide +kernel
theorem d_Se_isLike_11 : decode b_Se_isLike 11 = .ok (.aload_n 0, 1) := by decide +kernel
theorem d_Se_isLike_12 : decode b_Se_isLike 12 = .ok (.getfield 13, 3) := by decide +kernel
theorem d_Se_isLike_15 : decode b_Se_isLike 15 = .ok (.aload_n 1, 1) := by decide +kernel
theorem d_Se_isLike_16 : decode b_Se_isLike 16 = .ok (.getfield 13, 3) := by decide +kernel
theorem d_Se_isLike_19 : decode b_Se_isLike 19 = .ok (.if_icmp .ne 43, 3) := by decide +kernel
theorem d_Se_isLike_22 : decode b_Se_isLike 22 = .ok (.aload_n 0, 1) := by decide +kernel
theorem d_Se_isLike_23 : decode b_Se_isLike 23 = .ok (.getfield 16, 3) := by decide +kernel
theorem d_Se_isLike_26 : decode b_Se_isLike 26 = .ok (.aload_n 1, 1) := by decide +kernel
theorem d_Se_isLike_27 : decode b_Se_isLike 27 = .ok (.getfield 16, 3) := by decide +kernel
theorem d_Se_isLike_30 : decode b_Se_isLike 30 = .ok (.if_icmp .ne 32, 3) := by decide +kernel
theorem d_Se_isLike_33 : decode b_Se_isLike 33 = .ok (.aload_n 0, 1) := by decide +kernel
theorem d_Se_isLike_34 : decode b_Se_isLike 34 = .ok (.getfield 19, 3) := by decide +kernel
theorem d_Se_isLike_37 : decode b_Se_isLike 37 = .ok (.aload_n 1, 1) := by decide +kernel
theorem d_Se_isLike_38 : decode b_Se_isLike 38 = .ok (.getfield 19, 3) := by decide +kernel
theorem d_Se_isLike_41 : decode b_Se_isLike 41 = .ok (.if_icmp .ne 21, 3) := by decide +kernel
theorem d_Se_isLike_44 : decode b_Se_isLike 44 = .ok (.aload_n 0, 1) := by decide +kernel
theorem d_Se_isLike_45 : decode b_Se_isLike 45 = .ok (.getfield 22, 3) := by decide +kernel
theorem d_Se_isLike_48 : decode b_Se_isLike 48 = .ok (.aload_n 1, 1) := by decide +kernel
theorem d_Se_isLike_49 : decode b_Se_isLike 49 = .ok (.getfield 22, 3) := by decide +kernel
theorem d_Se_isLike_52 : decode b_Se_isLike 52 = .ok (.invokestatic 29, 3) := by decide +kernel
theorem q_856 : Cond.methodLinkNest "TwinKeepers$Session" 29 ⟨"TwinKeepers", "compare", "([B[B)I"⟩ "TwinKeepers" ∈ xT := xin 856 (by decide +kernel) (by decide +kernel)
theorem d_Se_isLike_55 : decode b_Se_isLike 55 = .ok (.ifCond .ne 7, 3) := by decide +kernel
theorem d_Se_isLike_58 : decode b_Se_isLike 58 = .ok (.iconst 1, 1) := by decide +kernel
theorem d_Se_isLike_59 : decode b_Se_isLike 59 = .ok (.goto 4, 3) := by decide +kernel
theorem d_Se_isLike_62 : decode b_Se_isLike 62 = .ok (.iconst 0, 1) := by decide +kernel
theorem d_Se_isLike_63 : decode b_Se_isLike 63 = .ok (.ireturn, 1) := by decide +kernel
abbrev b_Ma_hasEntriesOf : ByteArray := prog_4_method_10_code
def y_Ma_hasEntriesOf : MethodName := ⟨"TwinKeepers$Machine", "hasEntriesOf", "(LTwinKeepers$Machine;)Z"⟩
theorem kc_Ma_hasEntriesOf : Cond.code y_Ma_hasEntriesOf b_Ma_hasEntriesOf 3 (some .boolean) ∈ xT := xin 860 (by decide +kernel) (by decide +kernel)
theorem k_Ma_hasEntriesOf : xCode y_Ma_hasEntriesOf b_Ma_hasEntriesOf 3 (some .boolean) [] := Or.inl ⟨rfl, kc_Ma_hasEntriesOf⟩
theorem h_Ma_hasEntriesOf : plainFor y_Ma_hasEntriesOf = true ∧ (y_Ma_hasEntriesOf.cls ≠ "java/lang/invoke/MethodHandle" ∧ y_Ma_hasEntriesOf.cls ≠ "java/lang/invoke/VarHandle") ∧ (parseMethodDescriptor y_Ma_hasEntriesOf.desc).map (fun d => d.parameters.length) = some 1 := by decide +kernel
theorem v_Ma_hasEntriesOf : Cond.instanceMethod y_Ma_hasEntriesOf ∈ xT := xin 859 (by decide +kernel) (by decide +kernel)
theorem e_Ma_hasEntriesOf : Cond.selects "TwinKeepers$Machine" y_Ma_hasEntriesOf y_Ma_hasEntriesOf ∈ xT := xinp 17 (by decide +kernel) (by decide +kernel)
theorem d_Ma_hasEntriesOf_0 : decode b_Ma_hasEntriesOf 0 = .ok (.aload_n 0, 1) := by decide +kernel
theorem d_Ma_hasEntriesOf_1 : decode b_Ma_hasEntriesOf 1 = .ok (.getfield 21, 3) := by decide +kernel
theorem d_Ma_hasEntriesOf_4 : decode b_Ma_hasEntriesOf 4 = .ok (.getfield 66, 3) := by decide +kernel
theorem d_Ma_hasEntriesOf_7 : decode b_Ma_hasEntriesOf 7 = .ok (.invokevirtual 30, 3) := by decide +kernel
theorem d_Ma_hasEntriesOf_10 : decode b_Ma_hasEntriesOf 10 = .ok (.aload_n 1, 1) := by decide +kernel
theorem d_Ma_hasEntriesOf_11 : decode b_Ma_hasEntriesOf 11 = .ok (.getfield 21, 3) := by decide +kernel
theorem d_Ma_hasEntriesOf_14 : decode b_Ma_hasEntriesOf 14 = .ok (.getfield 66, 3) := by decide +kernel
theorem d_Ma_hasEntriesOf_17 : decode b_Ma_hasEntriesOf 17 = .ok (.invokevirtual 30, 3) := by decide +kernel
theorem d_Ma_hasEntriesOf_20 : decode b_Ma_hasEntriesOf 20 = .ok (.if_icmp .eq 5, 3) := by decide +kernel
theorem d_Ma_hasEntriesOf_23 : decode b_Ma_hasEntriesOf 23 = .ok (.iconst 0, 1) := by decide +kernel
theorem d_Ma_hasEntriesOf_24 : decode b_Ma_hasEntriesOf 24 = .ok (.ireturn, 1) := by decide +kernel
theorem d_Ma_hasEntriesOf_25 : decode b_Ma_hasEntriesOf 25 = .ok (.iconst 0, 1) := by decide +kernel
theorem d_Ma_hasEntriesOf_26 : decode b_Ma_hasEntriesOf 26 = .ok (.istore_n 2, 1) := by decide +kernel
theorem d_Ma_hasEntriesOf_27 : decode b_Ma_hasEntriesOf 27 = .ok (.iload_n 2, 1) := by decide +kernel
theorem d_Ma_hasEntriesOf_28 : decode b_Ma_hasEntriesOf 28 = .ok (.aload_n 0, 1) := by decide +kernel
theorem d_Ma_hasEntriesOf_29 : decode b_Ma_hasEntriesOf 29 = .ok (.getfield 21, 3) := by decide +kernel
theorem d_Ma_hasEntriesOf_32 : decode b_Ma_hasEntriesOf 32 = .ok (.getfield 66, 3) := by decide +kernel
theorem d_Ma_hasEntriesOf_35 : decode b_Ma_hasEntriesOf 35 = .ok (.invokevirtual 30, 3) := by decide +kernel
theorem d_Ma_hasEntriesOf_38 : decode b_Ma_hasEntriesOf 38 = .ok (.if_icmp .ge 45, 3) := by decide +kernel
theorem d_Ma_hasEntriesOf_41 : decode b_Ma_hasEntriesOf 41 = .ok (.aload_n 0, 1) := by decide +kernel
theorem d_Ma_hasEntriesOf_42 : decode b_Ma_hasEntriesOf 42 = .ok (.getfield 21, 3) := by decide +kernel
theorem d_Ma_hasEntriesOf_45 : decode b_Ma_hasEntriesOf 45 = .ok (.getfield 66, 3) := by decide +kernel
theorem d_Ma_hasEntriesOf_48 : decode b_Ma_hasEntriesOf 48 = .ok (.iload_n 2, 1) := by decide +kernel
theorem d_Ma_hasEntriesOf_49 : decode b_Ma_hasEntriesOf 49 = .ok (.invokevirtual 54, 3) := by decide +kernel
theorem d_Ma_hasEntriesOf_52 : decode b_Ma_hasEntriesOf 52 = .ok (.checkcast 75, 3) := by decide +kernel
theorem d_Ma_hasEntriesOf_55 : decode b_Ma_hasEntriesOf 55 = .ok (.aload_n 1, 1) := by decide +kernel
theorem d_Ma_hasEntriesOf_56 : decode b_Ma_hasEntriesOf 56 = .ok (.getfield 21, 3) := by decide +kernel
theorem d_Ma_hasEntriesOf_59 : decode b_Ma_hasEntriesOf 59 = .ok (.getfield 66, 3) := by decide +kernel
theorem d_Ma_hasEntriesOf_62 : decode b_Ma_hasEntriesOf 62 = .ok (.iload_n 2, 1) := by decide +kernel
theorem d_Ma_hasEntriesOf_63 : decode b_Ma_hasEntriesOf 63 = .ok (.invokevirtual 54, 3) := by decide +kernel
theorem d_Ma_hasEntriesOf_66 : decode b_Ma_hasEntriesOf 66 = .ok (.checkcast 75, 3) := by decide +kernel
theorem d_Ma_hasEntriesOf_69 : decode b_Ma_hasEntriesOf 69 = .ok (.invokevirtual 88, 3) := by decide +kernel
theorem q_861 : Cond.methodLink "TwinKeepers$Machine" 88 ⟨"TwinKeepers$Entry", "isLike", "(LTwinKeepers$Entry;)Z"⟩ ∈ xT := xin 861 (by decide +kernel) (by decide +kernel)
theorem d_Ma_hasEntriesOf_72 : decode b_Ma_hasEntriesOf 72 = .ok (.ifCond .ne 5, 3) := by decide +kernel
theorem d_Ma_hasEntriesOf_75 : decode b_Ma_hasEntriesOf 75 = .ok (.iconst 0, 1) := by decide +kernel
theorem d_Ma_hasEntriesOf_76 : decode b_Ma_hasEntriesOf 76 = .ok (.ireturn, 1) := by decide +kernel
theorem d_Ma_hasEntriesOf_77 : decode b_Ma_hasEntriesOf 77 = .ok (.iinc 2 1, 3) := by decide +kernel
theorem d_Ma_hasEntriesOf_80 : decode b_Ma_hasEntriesOf 80 = .ok (.goto (-53), 3) := by decide +kernel
theorem d_Ma_hasEntriesOf_83 : decode b_Ma_hasEntriesOf 83 = .ok (.iconst 1, 1) := by decide +kernel
theorem d_Ma_hasEntriesOf_84 : decode b_Ma_hasEntriesOf 84 = .ok (.ireturn, 1) := by decide +kernel
abbrev b_En_isLike : ByteArray := prog_2_method_3_code
def y_En_isLike : MethodName := ⟨"TwinKeepers$Entry", "isLike", "(LTwinKeepers$Entry;)Z"⟩
theorem kc_En_isLike : Cond.code y_En_isLike b_En_isLike 2 (some .boolean) ∈ xT := xin 864 (by decide +kernel) (by decide +kernel)
theorem k_En_isLike : xCode y_En_isLike b_En_isLike 2 (some .boolean) [] := Or.inl ⟨rfl, kc_En_isLike⟩
theorem h_En_isLike : plainFor y_En_isLike = true ∧ (y_En_isLike.cls ≠ "java/lang/invoke/MethodHandle" ∧ y_En_isLike.cls ≠ "java/lang/invoke/VarHandle") ∧ (parseMethodDescriptor y_En_isLike.desc).map (fun d => d.parameters.length) = some 1 := by decide +kernel
theorem v_En_isLike : Cond.instanceMethod y_En_isLike ∈ xT := xin 862 (by decide +kernel) (by decide +kernel)
theorem e_En_isLike : Cond.selects "TwinKeepers$Entry" y_En_isLike y_En_isLike ∈ xT := xin 863 (by decide +kernel) (by decide +kernel)
theorem d_En_isLike_0 : decode b_En_isLike 0 = .ok (.aload_n 0, 1) := by decide +kernel
theorem d_En_isLike_1 : decode b_En_isLike 1 = .ok (.getfield 9, 3) := by decide +kernel
theorem d_En_isLike_4 : decode b_En_isLike 4 = .ok (.aload_n 1, 1) := by decide +kernel
theorem d_En_isLike_5 : decode b_En_isLike 5 = .ok (.getfield 9, 3) := by decide +kernel
theorem d_En_isLike_8 : decode b_En_isLike 8 = .ok (.invokestatic 18, 3) := by decide +kernel
theorem q_865 : Cond.methodLinkNest "TwinKeepers$Entry" 18 ⟨"TwinKeepers", "compare", "([B[B)I"⟩ "TwinKeepers" ∈ xT := xin 865 (by decide +kernel) (by decide +kernel)
theorem d_En_isLike_11 : decode b_En_isLike 11 = .ok (.ifCond .ne 21, 3) := by decide +kernel
theorem d_En_isLike_14 : decode b_En_isLike 14 = .ok (.aload_n 0, 1) := by decide +kernel
theorem d_En_isLike_15 : decode b_En_isLike 15 = .ok (.getfield 15, 3) := by decide +kernel
theorem d_En_isLike_18 : decode b_En_isLike 18 = .ok (.aload_n 1, 1) := by decide +kernel
theorem d_En_isLike_19 : decode b_En_isLike 19 = .ok (.getfield 15, 3) := by decide +kernel
theorem d_En_isLike_22 : decode b_En_isLike 22 = .ok (.invokestatic 18, 3) := by decide +kernel
theorem d_En_isLike_25 : decode b_En_isLike 25 = .ok (.ifCond .ne 7, 3) := by decide +kernel
theorem d_En_isLike_28 : decode b_En_isLike 28 = .ok (.iconst 1, 1) := by decide +kernel
theorem d_En_isLike_29 : decode b_En_isLike 29 = .ok (.goto 4, 3) := by decide +kernel
theorem d_En_isLike_32 : decode b_En_isLike 32 = .ok (.iconst 0, 1) := by decide +kernel
theorem d_En_isLike_33 : decode b_En_isLike 33 = .ok (.ireturn, 1) := by decide +kernel
abbrev b_Ma_copyRowOf : ByteArray := prog_4_method_7_code
def y_Ma_copyRowOf : MethodName := ⟨"TwinKeepers$Machine", "copyRowOf", "(LTwinKeepers$Machine;)V"⟩
theorem kc_Ma_copyRowOf : Cond.code y_Ma_copyRowOf b_Ma_copyRowOf 3 none ∈ xT := xin 869 (by decide +kernel) (by decide +kernel)
theorem k_Ma_copyRowOf : xCode y_Ma_copyRowOf b_Ma_copyRowOf 3 none [] := Or.inl ⟨rfl, kc_Ma_copyRowOf⟩
theorem h_Ma_copyRowOf : plainFor y_Ma_copyRowOf = true ∧ (y_Ma_copyRowOf.cls ≠ "java/lang/invoke/MethodHandle" ∧ y_Ma_copyRowOf.cls ≠ "java/lang/invoke/VarHandle") ∧ (parseMethodDescriptor y_Ma_copyRowOf.desc).map (fun d => d.parameters.length) = some 1 := by decide +kernel
theorem v_Ma_copyRowOf : Cond.instanceMethod y_Ma_copyRowOf ∈ xT := xin 867 (by decide +kernel) (by decide +kernel)
theorem e_Ma_copyRowOf : Cond.selects "TwinKeepers$Machine" y_Ma_copyRowOf y_Ma_copyRowOf ∈ xT := xin 868 (by decide +kernel) (by decide +kernel)
theorem d_Ma_copyRowOf_0 : decode b_Ma_copyRowOf 0 = .ok (.aload_n 0, 1) := by decide +kernel
theorem d_Ma_copyRowOf_1 : decode b_Ma_copyRowOf 1 = .ok (.invokevirtual 72, 3) := by decide +kernel
theorem q_870 : Cond.methodLink "TwinKeepers$Machine" 72 ⟨"TwinKeepers$Machine", "forget", "()V"⟩ ∈ xT := xin 870 (by decide +kernel) (by decide +kernel)
theorem d_Ma_copyRowOf_4 : decode b_Ma_copyRowOf 4 = .ok (.iconst 0, 1) := by decide +kernel
theorem d_Ma_copyRowOf_5 : decode b_Ma_copyRowOf 5 = .ok (.istore_n 2, 1) := by decide +kernel
theorem d_Ma_copyRowOf_6 : decode b_Ma_copyRowOf 6 = .ok (.iload_n 2, 1) := by decide +kernel
theorem d_Ma_copyRowOf_7 : decode b_Ma_copyRowOf 7 = .ok (.aload_n 1, 1) := by decide +kernel
theorem d_Ma_copyRowOf_8 : decode b_Ma_copyRowOf 8 = .ok (.getfield 12, 3) := by decide +kernel
theorem d_Ma_copyRowOf_11 : decode b_Ma_copyRowOf 11 = .ok (.invokevirtual 30, 3) := by decide +kernel
theorem d_Ma_copyRowOf_14 : decode b_Ma_copyRowOf 14 = .ok (.if_icmp .ge 28, 3) := by decide +kernel
theorem d_Ma_copyRowOf_17 : decode b_Ma_copyRowOf 17 = .ok (.aload_n 0, 1) := by decide +kernel
theorem d_Ma_copyRowOf_18 : decode b_Ma_copyRowOf 18 = .ok (.getfield 12, 3) := by decide +kernel
theorem d_Ma_copyRowOf_21 : decode b_Ma_copyRowOf 21 = .ok (.aload_n 1, 1) := by decide +kernel
theorem d_Ma_copyRowOf_22 : decode b_Ma_copyRowOf 22 = .ok (.getfield 12, 3) := by decide +kernel
theorem d_Ma_copyRowOf_25 : decode b_Ma_copyRowOf 25 = .ok (.iload_n 2, 1) := by decide +kernel
theorem d_Ma_copyRowOf_26 : decode b_Ma_copyRowOf 26 = .ok (.invokevirtual 54, 3) := by decide +kernel
theorem d_Ma_copyRowOf_29 : decode b_Ma_copyRowOf 29 = .ok (.checkcast 41, 3) := by decide +kernel
theorem d_Ma_copyRowOf_32 : decode b_Ma_copyRowOf 32 = .ok (.invokevirtual 50, 3) := by decide +kernel
theorem d_Ma_copyRowOf_35 : decode b_Ma_copyRowOf 35 = .ok (.pop, 1) := by decide +kernel
theorem d_Ma_copyRowOf_36 : decode b_Ma_copyRowOf 36 = .ok (.iinc 2 1, 3) := by decide +kernel
theorem d_Ma_copyRowOf_39 : decode b_Ma_copyRowOf 39 = .ok (.goto (-33), 3) := by decide +kernel
theorem d_Ma_copyRowOf_42 : decode b_Ma_copyRowOf 42 = .ok (.iconst 0, 1) := by decide +kernel
theorem d_Ma_copyRowOf_43 : decode b_Ma_copyRowOf 43 = .ok (.istore_n 2, 1) := by decide +kernel
theorem d_Ma_copyRowOf_44 : decode b_Ma_copyRowOf 44 = .ok (.iload_n 2, 1) := by decide +kernel
theorem d_Ma_copyRowOf_45 : decode b_Ma_copyRowOf 45 = .ok (.aload_n 1, 1) := by decide +kernel
theorem d_Ma_copyRowOf_46 : decode b_Ma_copyRowOf 46 = .ok (.getfield 21, 3) := by decide +kernel
theorem d_Ma_copyRowOf_49 : decode b_Ma_copyRowOf 49 = .ok (.getfield 66, 3) := by decide +kernel
theorem d_Ma_copyRowOf_52 : decode b_Ma_copyRowOf 52 = .ok (.invokevirtual 30, 3) := by decide +kernel
theorem d_Ma_copyRowOf_55 : decode b_Ma_copyRowOf 55 = .ok (.if_icmp .ge 34, 3) := by decide +kernel
theorem d_Ma_copyRowOf_58 : decode b_Ma_copyRowOf 58 = .ok (.aload_n 0, 1) := by decide +kernel
theorem d_Ma_copyRowOf_59 : decode b_Ma_copyRowOf 59 = .ok (.getfield 21, 3) := by decide +kernel
theorem d_Ma_copyRowOf_62 : decode b_Ma_copyRowOf 62 = .ok (.getfield 66, 3) := by decide +kernel
theorem d_Ma_copyRowOf_65 : decode b_Ma_copyRowOf 65 = .ok (.aload_n 1, 1) := by decide +kernel
theorem d_Ma_copyRowOf_66 : decode b_Ma_copyRowOf 66 = .ok (.getfield 21, 3) := by decide +kernel
theorem d_Ma_copyRowOf_69 : decode b_Ma_copyRowOf 69 = .ok (.getfield 66, 3) := by decide +kernel
theorem d_Ma_copyRowOf_72 : decode b_Ma_copyRowOf 72 = .ok (.iload_n 2, 1) := by decide +kernel
theorem d_Ma_copyRowOf_73 : decode b_Ma_copyRowOf 73 = .ok (.invokevirtual 54, 3) := by decide +kernel
theorem d_Ma_copyRowOf_76 : decode b_Ma_copyRowOf 76 = .ok (.checkcast 75, 3) := by decide +kernel
theorem d_Ma_copyRowOf_79 : decode b_Ma_copyRowOf 79 = .ok (.invokevirtual 50, 3) := by decide +kernel
theorem d_Ma_copyRowOf_82 : decode b_Ma_copyRowOf 82 = .ok (.pop, 1) := by decide +kernel
theorem d_Ma_copyRowOf_83 : decode b_Ma_copyRowOf 83 = .ok (.iinc 2 1, 3) := by decide +kernel
theorem d_Ma_copyRowOf_86 : decode b_Ma_copyRowOf 86 = .ok (.goto (-42), 3) := by decide +kernel
theorem d_Ma_copyRowOf_89 : decode b_Ma_copyRowOf 89 = .ok (.aload_n 0, 1) := by decide +kernel
theorem d_Ma_copyRowOf_90 : decode b_Ma_copyRowOf 90 = .ok (.getfield 21, 3) := by decide +kernel
theorem d_Ma_copyRowOf_93 : decode b_Ma_copyRowOf 93 = .ok (.aload_n 1, 1) := by decide +kernel
theorem d_Ma_copyRowOf_94 : decode b_Ma_copyRowOf 94 = .ok (.getfield 21, 3) := by decide +kernel
theorem d_Ma_copyRowOf_97 : decode b_Ma_copyRowOf 97 = .ok (.getfield 69, 3) := by decide +kernel
theorem q_81 : Cond.fieldLink "TwinKeepers$Machine" 69 "TwinKeepers$KeyMap" "units" "I" ∈ xT := xin 81 (by decide +kernel) (by decide +kernel)
theorem d_Ma_copyRowOf_100 : decode b_Ma_copyRowOf 100 = .ok (.putfield 69, 3) := by decide +kernel
theorem d_Ma_copyRowOf_103 : decode b_Ma_copyRowOf 103 = .ok (.return_, 1) := by decide +kernel
abbrev b_Ma_forget : ByteArray := prog_4_method_6_code
def y_Ma_forget : MethodName := ⟨"TwinKeepers$Machine", "forget", "()V"⟩
theorem kc_Ma_forget : Cond.code y_Ma_forget b_Ma_forget 1 none ∈ xT := xin 873 (by decide +kernel) (by decide +kernel)
theorem k_Ma_forget : xCode y_Ma_forget b_Ma_forget 1 none [] := Or.inl ⟨rfl, kc_Ma_forget⟩
theorem h_Ma_forget : plainFor y_Ma_forget = true ∧ (y_Ma_forget.cls ≠ "java/lang/invoke/MethodHandle" ∧ y_Ma_forget.cls ≠ "java/lang/invoke/VarHandle") ∧ (parseMethodDescriptor y_Ma_forget.desc).map (fun d => d.parameters.length) = some 0 := by decide +kernel
theorem v_Ma_forget : Cond.instanceMethod y_Ma_forget ∈ xT := xin 871 (by decide +kernel) (by decide +kernel)
theorem e_Ma_forget : Cond.selects "TwinKeepers$Machine" y_Ma_forget y_Ma_forget ∈ xT := xin 872 (by decide +kernel) (by decide +kernel)
theorem d_Ma_forget_0 : decode b_Ma_forget 0 = .ok (.aload_n 0, 1) := by decide +kernel
theorem d_Ma_forget_1 : decode b_Ma_forget 1 = .ok (.getfield 12, 3) := by decide +kernel
theorem d_Ma_forget_4 : decode b_Ma_forget 4 = .ok (.invokevirtual 63, 3) := by decide +kernel
theorem q_874 : Cond.methodLink "TwinKeepers$Machine" 63 ⟨"java/util/ArrayList", "clear", "()V"⟩ ∈ xT := xin 874 (by decide +kernel) (by decide +kernel)
theorem d_Ma_forget_7 : decode b_Ma_forget 7 = .ok (.aload_n 0, 1) := by decide +kernel
theorem d_Ma_forget_8 : decode b_Ma_forget 8 = .ok (.getfield 21, 3) := by decide +kernel
theorem d_Ma_forget_11 : decode b_Ma_forget 11 = .ok (.getfield 66, 3) := by decide +kernel
theorem d_Ma_forget_14 : decode b_Ma_forget 14 = .ok (.invokevirtual 63, 3) := by decide +kernel
theorem d_Ma_forget_17 : decode b_Ma_forget 17 = .ok (.aload_n 0, 1) := by decide +kernel
theorem d_Ma_forget_18 : decode b_Ma_forget 18 = .ok (.getfield 21, 3) := by decide +kernel
theorem d_Ma_forget_21 : decode b_Ma_forget 21 = .ok (.iconst 0, 1) := by decide +kernel
theorem d_Ma_forget_22 : decode b_Ma_forget 22 = .ok (.putfield 69, 3) := by decide +kernel
theorem d_Ma_forget_25 : decode b_Ma_forget 25 = .ok (.return_, 1) := by decide +kernel
abbrev b_TK_clear : ByteArray := prog_1_method_8_code
def y_TK_clear : MethodName := ⟨"TwinKeepers", "clear", "(I)I"⟩
theorem kc_TK_clear : Cond.code y_TK_clear b_TK_clear 4 (some .int) ∈ xT := xin 885 (by decide +kernel) (by decide +kernel)
theorem k_TK_clear : xCode y_TK_clear b_TK_clear 4 (some .int) [] := Or.inl ⟨rfl, kc_TK_clear⟩
theorem h_TK_clear : plainFor y_TK_clear = true ∧ (y_TK_clear.cls ≠ "java/lang/invoke/MethodHandle" ∧ y_TK_clear.cls ≠ "java/lang/invoke/VarHandle") ∧ (parseMethodDescriptor y_TK_clear.desc).map (fun d => d.parameters.length) = some 1 := by decide +kernel
theorem v_TK_clear : Cond.instanceMethod y_TK_clear ∈ xT := xin 883 (by decide +kernel) (by decide +kernel)
theorem e_TK_clear : Cond.selects "TwinKeepers" y_TK_clear y_TK_clear ∈ xT := xin 884 (by decide +kernel) (by decide +kernel)
theorem d_TK_clear_0 : decode b_TK_clear 0 = .ok (.aload_n 0, 1) := by decide +kernel
theorem d_TK_clear_1 : decode b_TK_clear 1 = .ok (.iload_n 1, 1) := by decide +kernel
theorem d_TK_clear_2 : decode b_TK_clear 2 = .ok (.invokevirtual 49, 3) := by decide +kernel
theorem d_TK_clear_5 : decode b_TK_clear 5 = .ok (.astore_n 2, 1) := by decide +kernel
theorem d_TK_clear_6 : decode b_TK_clear 6 = .ok (.aload_n 2, 1) := by decide +kernel
theorem d_TK_clear_7 : decode b_TK_clear 7 = .ok (.getfield 119, 3) := by decide +kernel
theorem d_TK_clear_10 : decode b_TK_clear 10 = .ok (.getfield 163, 3) := by decide +kernel
theorem q_79 : Cond.fieldLink "TwinKeepers" 163 "TwinKeepers$KeyMap" "entries" "Ljava/util/ArrayList;" ∈ xT := xin 79 (by decide +kernel) (by decide +kernel)
theorem d_TK_clear_13 : decode b_TK_clear 13 = .ok (.invokevirtual 67, 3) := by decide +kernel
theorem d_TK_clear_16 : decode b_TK_clear 16 = .ok (.istore_n 3, 1) := by decide +kernel
theorem d_TK_clear_17 : decode b_TK_clear 17 = .ok (.aload_n 2, 1) := by decide +kernel
theorem d_TK_clear_18 : decode b_TK_clear 18 = .ok (.invokevirtual 168, 3) := by decide +kernel
theorem q_886 : Cond.methodLink "TwinKeepers" 168 ⟨"TwinKeepers$Machine", "forget", "()V"⟩ ∈ xT := xin 886 (by decide +kernel) (by decide +kernel)
theorem d_TK_clear_21 : decode b_TK_clear 21 = .ok (.iload_n 3, 1) := by decide +kernel
theorem d_TK_clear_22 : decode b_TK_clear 22 = .ok (.ireturn, 1) := by decide +kernel
abbrev b_TK_session : ByteArray := prog_1_method_9_code
def y_TK_session : MethodName := ⟨"TwinKeepers", "session", "(III)I"⟩
theorem kc_TK_session : Cond.code y_TK_session b_TK_session 6 (some .int) ∈ xT := xin 893 (by decide +kernel) (by decide +kernel)
theorem k_TK_session : xCode y_TK_session b_TK_session 6 (some .int) [] := Or.inl ⟨rfl, kc_TK_session⟩
theorem h_TK_session : plainFor y_TK_session = true ∧ (y_TK_session.cls ≠ "java/lang/invoke/MethodHandle" ∧ y_TK_session.cls ≠ "java/lang/invoke/VarHandle") ∧ (parseMethodDescriptor y_TK_session.desc).map (fun d => d.parameters.length) = some 3 := by decide +kernel
theorem v_TK_session : Cond.instanceMethod y_TK_session ∈ xT := xin 891 (by decide +kernel) (by decide +kernel)
theorem e_TK_session : Cond.selects "TwinKeepers" y_TK_session y_TK_session ∈ xT := xin 892 (by decide +kernel) (by decide +kernel)
theorem d_TK_session_0 : decode b_TK_session 0 = .ok (.aload_n 0, 1) := by decide +kernel
theorem d_TK_session_1 : decode b_TK_session 1 = .ok (.iload_n 1, 1) := by decide +kernel
theorem d_TK_session_2 : decode b_TK_session 2 = .ok (.invokevirtual 49, 3) := by decide +kernel
theorem d_TK_session_5 : decode b_TK_session 5 = .ok (.astore 4, 2) := by decide +kernel
theorem d_TK_session_7 : decode b_TK_session 7 = .ok (.iload_n 2, 1) := by decide +kernel
theorem d_TK_session_8 : decode b_TK_session 8 = .ok (.ifCond .lt 15, 3) := by decide +kernel
theorem d_TK_session_11 : decode b_TK_session 11 = .ok (.iload_n 2, 1) := by decide +kernel
theorem d_TK_session_12 : decode b_TK_session 12 = .ok (.aload 4, 2) := by decide +kernel
theorem d_TK_session_14 : decode b_TK_session 14 = .ok (.getfield 63, 3) := by decide +kernel
theorem d_TK_session_17 : decode b_TK_session 17 = .ok (.invokevirtual 67, 3) := by decide +kernel
theorem d_TK_session_20 : decode b_TK_session 20 = .ok (.if_icmp .lt 13, 3) := by decide +kernel
theorem d_TK_session_23 : decode b_TK_session 23 = .ok (.new 171, 3) := by decide +kernel
theorem d_TK_session_26 : decode b_TK_session 26 = .ok (.dup, 1) := by decide +kernel
theorem d_TK_session_27 : decode b_TK_session 27 = .ok (.ldc 173, 2) := by decide +kernel
theorem d_TK_session_29 : decode b_TK_session 29 = .ok (.invokespecial 175, 3) := by decide +kernel
theorem d_TK_session_32 : decode b_TK_session 32 = .ok (.athrow, 1) := by decide +kernel
theorem d_TK_session_33 : decode b_TK_session 33 = .ok (.aload 4, 2) := by decide +kernel
theorem d_TK_session_35 : decode b_TK_session 35 = .ok (.getfield 63, 3) := by decide +kernel
theorem d_TK_session_38 : decode b_TK_session 38 = .ok (.iload_n 2, 1) := by decide +kernel
theorem d_TK_session_39 : decode b_TK_session 39 = .ok (.invokevirtual 92, 3) := by decide +kernel
theorem d_TK_session_42 : decode b_TK_session 42 = .ok (.checkcast 96, 3) := by decide +kernel
theorem d_TK_session_45 : decode b_TK_session 45 = .ok (.astore 5, 2) := by decide +kernel
theorem d_TK_session_47 : decode b_TK_session 47 = .ok (.iload_n 3, 1) := by decide +kernel
theorem d_TK_session_48 : decode b_TK_session 48 = .ok (.tableswitch 67 0 4 #[36, 42, 48, 54, 60], 36) := by decide +kernel
theorem d_TK_session_84 : decode b_TK_session 84 = .ok (.aload 5, 2) := by decide +kernel
theorem d_TK_session_86 : decode b_TK_session 86 = .ok (.getfield 176, 3) := by decide +kernel
theorem q_313 : Cond.fieldLink "TwinKeepers" 176 "TwinKeepers$Session" "number" "I" ∈ xT := xin 313 (by decide +kernel) (by decide +kernel)
theorem d_TK_session_89 : decode b_TK_session 89 = .ok (.ireturn, 1) := by decide +kernel
theorem d_TK_session_90 : decode b_TK_session 90 = .ok (.aload 5, 2) := by decide +kernel
theorem d_TK_session_92 : decode b_TK_session 92 = .ok (.getfield 179, 3) := by decide +kernel
theorem q_316 : Cond.fieldLink "TwinKeepers" 179 "TwinKeepers$Session" "used" "I" ∈ xT := xin 316 (by decide +kernel) (by decide +kernel)
theorem d_TK_session_95 : decode b_TK_session 95 = .ok (.ireturn, 1) := by decide +kernel
theorem d_TK_session_96 : decode b_TK_session 96 = .ok (.aload 5, 2) := by decide +kernel
theorem d_TK_session_98 : decode b_TK_session 98 = .ok (.getfield 106, 3) := by decide +kernel
theorem d_TK_session_101 : decode b_TK_session 101 = .ok (.ireturn, 1) := by decide +kernel
theorem d_TK_session_102 : decode b_TK_session 102 = .ok (.aload 5, 2) := by decide +kernel
theorem d_TK_session_104 : decode b_TK_session 104 = .ok (.getfield 116, 3) := by decide +kernel
theorem d_TK_session_107 : decode b_TK_session 107 = .ok (.ireturn, 1) := by decide +kernel
theorem d_TK_session_108 : decode b_TK_session 108 = .ok (.aload 5, 2) := by decide +kernel
theorem d_TK_session_110 : decode b_TK_session 110 = .ok (.getfield 109, 3) := by decide +kernel
theorem d_TK_session_113 : decode b_TK_session 113 = .ok (.arraylength, 1) := by decide +kernel
theorem d_TK_session_114 : decode b_TK_session 114 = .ok (.ireturn, 1) := by decide +kernel
theorem d_TK_session_115 : decode b_TK_session 115 = .ok (.new 171, 3) := by decide +kernel
theorem d_TK_session_118 : decode b_TK_session 118 = .ok (.dup, 1) := by decide +kernel
theorem d_TK_session_119 : decode b_TK_session 119 = .ok (.ldc 182, 2) := by decide +kernel
theorem d_TK_session_121 : decode b_TK_session 121 = .ok (.invokespecial 175, 3) := by decide +kernel
theorem d_TK_session_124 : decode b_TK_session 124 = .ok (.athrow, 1) := by decide +kernel
abbrev b_TK_key : ByteArray := prog_1_method_10_code
def y_TK_key : MethodName := ⟨"TwinKeepers", "key", "(III)I"⟩
theorem kc_TK_key : Cond.code y_TK_key b_TK_key 6 (some .int) ∈ xT := xin 902 (by decide +kernel) (by decide +kernel)
theorem k_TK_key : xCode y_TK_key b_TK_key 6 (some .int) [] := Or.inl ⟨rfl, kc_TK_key⟩
theorem h_TK_key : plainFor y_TK_key = true ∧ (y_TK_key.cls ≠ "java/lang/invoke/MethodHandle" ∧ y_TK_key.cls ≠ "java/lang/invoke/VarHandle") ∧ (parseMethodDescriptor y_TK_key.desc).map (fun d => d.parameters.length) = some 3 := by decide +kernel
theorem v_TK_key : Cond.instanceMethod y_TK_key ∈ xT := xin 900 (by decide +kernel) (by decide +kernel)
theorem e_TK_key : Cond.selects "TwinKeepers" y_TK_key y_TK_key ∈ xT := xin 901 (by decide +kernel) (by decide +kernel)
theorem d_TK_key_0 : decode b_TK_key 0 = .ok (.aload_n 0, 1) := by decide +kernel
theorem d_TK_key_1 : decode b_TK_key 1 = .ok (.iload_n 1, 1) := by decide +kernel
theorem d_TK_key_2 : decode b_TK_key 2 = .ok (.invokevirtual 49, 3) := by decide +kernel
theorem d_TK_key_5 : decode b_TK_key 5 = .ok (.astore 4, 2) := by decide +kernel
theorem d_TK_key_7 : decode b_TK_key 7 = .ok (.iload_n 2, 1) := by decide +kernel
theorem d_TK_key_8 : decode b_TK_key 8 = .ok (.ifCond .lt 18, 3) := by decide +kernel
theorem d_TK_key_11 : decode b_TK_key 11 = .ok (.iload_n 2, 1) := by decide +kernel
theorem d_TK_key_12 : decode b_TK_key 12 = .ok (.aload 4, 2) := by decide +kernel
theorem d_TK_key_14 : decode b_TK_key 14 = .ok (.getfield 119, 3) := by decide +kernel
theorem d_TK_key_17 : decode b_TK_key 17 = .ok (.getfield 163, 3) := by decide +kernel
theorem d_TK_key_20 : decode b_TK_key 20 = .ok (.invokevirtual 67, 3) := by decide +kernel
theorem d_TK_key_23 : decode b_TK_key 23 = .ok (.if_icmp .lt 13, 3) := by decide +kernel
theorem d_TK_key_26 : decode b_TK_key 26 = .ok (.new 171, 3) := by decide +kernel
theorem d_TK_key_29 : decode b_TK_key 29 = .ok (.dup, 1) := by decide +kernel
theorem d_TK_key_30 : decode b_TK_key 30 = .ok (.ldc 184, 2) := by decide +kernel
theorem d_TK_key_32 : decode b_TK_key 32 = .ok (.invokespecial 175, 3) := by decide +kernel
theorem d_TK_key_35 : decode b_TK_key 35 = .ok (.athrow, 1) := by decide +kernel
theorem d_TK_key_36 : decode b_TK_key 36 = .ok (.iload_n 3, 1) := by decide +kernel
theorem d_TK_key_37 : decode b_TK_key 37 = .ok (.ifCond .lt 8, 3) := by decide +kernel
theorem d_TK_key_40 : decode b_TK_key 40 = .ok (.iload_n 3, 1) := by decide +kernel
theorem d_TK_key_41 : decode b_TK_key 41 = .ok (.iconst 1, 1) := by decide +kernel
theorem d_TK_key_42 : decode b_TK_key 42 = .ok (.if_icmp .le 13, 3) := by decide +kernel
theorem d_TK_key_45 : decode b_TK_key 45 = .ok (.new 171, 3) := by decide +kernel
theorem d_TK_key_48 : decode b_TK_key 48 = .ok (.dup, 1) := by decide +kernel
theorem d_TK_key_49 : decode b_TK_key 49 = .ok (.ldc 186, 2) := by decide +kernel
theorem d_TK_key_51 : decode b_TK_key 51 = .ok (.invokespecial 175, 3) := by decide +kernel
theorem d_TK_key_54 : decode b_TK_key 54 = .ok (.athrow, 1) := by decide +kernel
theorem d_TK_key_55 : decode b_TK_key 55 = .ok (.aload 4, 2) := by decide +kernel
theorem d_TK_key_57 : decode b_TK_key 57 = .ok (.getfield 119, 3) := by decide +kernel
theorem d_TK_key_60 : decode b_TK_key 60 = .ok (.getfield 163, 3) := by decide +kernel
theorem d_TK_key_63 : decode b_TK_key 63 = .ok (.iload_n 2, 1) := by decide +kernel
theorem d_TK_key_64 : decode b_TK_key 64 = .ok (.invokevirtual 92, 3) := by decide +kernel
theorem d_TK_key_67 : decode b_TK_key 67 = .ok (.checkcast 188, 3) := by decide +kernel
theorem q_905 : Cond.classLink "TwinKeepers" 188 "TwinKeepers$Entry" ∈ xT := xin 905 (by decide +kernel) (by decide +kernel)
theorem d_TK_key_70 : decode b_TK_key 70 = .ok (.astore 5, 2) := by decide +kernel
theorem d_TK_key_72 : decode b_TK_key 72 = .ok (.aload_n 0, 1) := by decide +kernel
theorem d_TK_key_73 : decode b_TK_key 73 = .ok (.getfield 26, 3) := by decide +kernel
theorem d_TK_key_76 : decode b_TK_key 76 = .ok (.invokevirtual 85, 3) := by decide +kernel
theorem d_TK_key_79 : decode b_TK_key 79 = .ok (.aload_n 0, 1) := by decide +kernel
theorem d_TK_key_80 : decode b_TK_key 80 = .ok (.getfield 26, 3) := by decide +kernel
theorem d_TK_key_83 : decode b_TK_key 83 = .ok (.iload_n 3, 1) := by decide +kernel
theorem d_TK_key_84 : decode b_TK_key 84 = .ok (.ifCond .ne 11, 3) := by decide +kernel
theorem d_TK_key_87 : decode b_TK_key 87 = .ok (.aload 5, 2) := by decide +kernel
theorem d_TK_key_89 : decode b_TK_key 89 = .ok (.getfield 190, 3) := by decide +kernel
theorem q_712 : Cond.fieldLink "TwinKeepers" 190 "TwinKeepers$Entry" "key" "[B" ∈ xT := xin 712 (by decide +kernel) (by decide +kernel)
theorem d_TK_key_92 : decode b_TK_key 92 = .ok (.goto 8, 3) := by decide +kernel
theorem d_TK_key_95 : decode b_TK_key 95 = .ok (.aload 5, 2) := by decide +kernel
theorem d_TK_key_97 : decode b_TK_key 97 = .ok (.getfield 193, 3) := by decide +kernel
theorem q_715 : Cond.fieldLink "TwinKeepers" 193 "TwinKeepers$Entry" "value" "[B" ∈ xT := xin 715 (by decide +kernel) (by decide +kernel)
theorem d_TK_key_100 : decode b_TK_key 100 = .ok (.invokevirtual 112, 3) := by decide +kernel
theorem d_TK_key_103 : decode b_TK_key 103 = .ok (.aload_n 0, 1) := by decide +kernel
theorem d_TK_key_104 : decode b_TK_key 104 = .ok (.getfield 26, 3) := by decide +kernel
theorem d_TK_key_107 : decode b_TK_key 107 = .ok (.getfield 143, 3) := by decide +kernel
theorem d_TK_key_110 : decode b_TK_key 110 = .ok (.ireturn, 1) := by decide +kernel
abbrev b_TK_state : ByteArray := prog_1_method_11_code
def y_TK_state : MethodName := ⟨"TwinKeepers", "state", "(II)I"⟩
theorem kc_TK_state : Cond.code y_TK_state b_TK_state 4 (some .int) ∈ xT := xin 912 (by decide +kernel) (by decide +kernel)
theorem k_TK_state : xCode y_TK_state b_TK_state 4 (some .int) [] := Or.inl ⟨rfl, kc_TK_state⟩
theorem h_TK_state : plainFor y_TK_state = true ∧ (y_TK_state.cls ≠ "java/lang/invoke/MethodHandle" ∧ y_TK_state.cls ≠ "java/lang/invoke/VarHandle") ∧ (parseMethodDescriptor y_TK_state.desc).map (fun d => d.parameters.length) = some 2 := by decide +kernel
theorem v_TK_state : Cond.instanceMethod y_TK_state ∈ xT := xin 910 (by decide +kernel) (by decide +kernel)
theorem e_TK_state : Cond.selects "TwinKeepers" y_TK_state y_TK_state ∈ xT := xin 911 (by decide +kernel) (by decide +kernel)
theorem d_TK_state_0 : decode b_TK_state 0 = .ok (.aload_n 0, 1) := by decide +kernel
theorem d_TK_state_1 : decode b_TK_state 1 = .ok (.iload_n 1, 1) := by decide +kernel
theorem d_TK_state_2 : decode b_TK_state 2 = .ok (.invokevirtual 49, 3) := by decide +kernel
theorem d_TK_state_5 : decode b_TK_state 5 = .ok (.astore_n 3, 1) := by decide +kernel
theorem d_TK_state_6 : decode b_TK_state 6 = .ok (.iload_n 2, 1) := by decide +kernel
theorem d_TK_state_7 : decode b_TK_state 7 = .ok (.tableswitch 70 0 4 #[33, 41, 52, 60, 65], 33) := by decide +kernel
theorem d_TK_state_40 : decode b_TK_state 40 = .ok (.aload_n 3, 1) := by decide +kernel
theorem d_TK_state_41 : decode b_TK_state 41 = .ok (.getfield 63, 3) := by decide +kernel
theorem d_TK_state_44 : decode b_TK_state 44 = .ok (.invokevirtual 67, 3) := by decide +kernel
theorem d_TK_state_47 : decode b_TK_state 47 = .ok (.ireturn, 1) := by decide +kernel
theorem d_TK_state_48 : decode b_TK_state 48 = .ok (.aload_n 3, 1) := by decide +kernel
theorem d_TK_state_49 : decode b_TK_state 49 = .ok (.getfield 119, 3) := by decide +kernel
theorem d_TK_state_52 : decode b_TK_state 52 = .ok (.getfield 163, 3) := by decide +kernel
theorem d_TK_state_55 : decode b_TK_state 55 = .ok (.invokevirtual 67, 3) := by decide +kernel
theorem d_TK_state_58 : decode b_TK_state 58 = .ok (.ireturn, 1) := by decide +kernel
theorem d_TK_state_59 : decode b_TK_state 59 = .ok (.aload_n 3, 1) := by decide +kernel
theorem d_TK_state_60 : decode b_TK_state 60 = .ok (.getfield 119, 3) := by decide +kernel
theorem d_TK_state_63 : decode b_TK_state 63 = .ok (.getfield 196, 3) := by decide +kernel
theorem q_82 : Cond.fieldLink "TwinKeepers" 196 "TwinKeepers$KeyMap" "units" "I" ∈ xT := xin 82 (by decide +kernel) (by decide +kernel)
theorem d_TK_state_66 : decode b_TK_state 66 = .ok (.ireturn, 1) := by decide +kernel
theorem d_TK_state_67 : decode b_TK_state 67 = .ok (.aload_n 3, 1) := by decide +kernel
theorem d_TK_state_68 : decode b_TK_state 68 = .ok (.invokevirtual 199, 3) := by decide +kernel
theorem q_913 : Cond.methodLink "TwinKeepers" 199 ⟨"TwinKeepers$Machine", "rowBytes", "()I"⟩ ∈ xT := xin 913 (by decide +kernel) (by decide +kernel)
theorem d_TK_state_71 : decode b_TK_state 71 = .ok (.ireturn, 1) := by decide +kernel
theorem d_TK_state_72 : decode b_TK_state 72 = .ok (.aload_n 3, 1) := by decide +kernel
theorem d_TK_state_73 : decode b_TK_state 73 = .ok (.getfield 82, 3) := by decide +kernel
theorem d_TK_state_76 : decode b_TK_state 76 = .ok (.ireturn, 1) := by decide +kernel
theorem d_TK_state_77 : decode b_TK_state 77 = .ok (.new 171, 3) := by decide +kernel
theorem d_TK_state_80 : decode b_TK_state 80 = .ok (.dup, 1) := by decide +kernel
theorem d_TK_state_81 : decode b_TK_state 81 = .ok (.ldc 202, 2) := by decide +kernel
theorem d_TK_state_83 : decode b_TK_state 83 = .ok (.invokespecial 175, 3) := by decide +kernel
theorem d_TK_state_86 : decode b_TK_state 86 = .ok (.athrow, 1) := by decide +kernel
abbrev b_Ma_rowBytes : ByteArray := prog_4_method_11_code
def y_Ma_rowBytes : MethodName := ⟨"TwinKeepers$Machine", "rowBytes", "()I"⟩
theorem kc_Ma_rowBytes : Cond.code y_Ma_rowBytes b_Ma_rowBytes 3 (some .int) ∈ xT := xin 916 (by decide +kernel) (by decide +kernel)
theorem k_Ma_rowBytes : xCode y_Ma_rowBytes b_Ma_rowBytes 3 (some .int) [] := Or.inl ⟨rfl, kc_Ma_rowBytes⟩
theorem h_Ma_rowBytes : plainFor y_Ma_rowBytes = true ∧ (y_Ma_rowBytes.cls ≠ "java/lang/invoke/MethodHandle" ∧ y_Ma_rowBytes.cls ≠ "java/lang/invoke/VarHandle") ∧ (parseMethodDescriptor y_Ma_rowBytes.desc).map (fun d => d.parameters.length) = some 0 := by decide +kernel
theorem v_Ma_rowBytes : Cond.instanceMethod y_Ma_rowBytes ∈ xT := xin 914 (by decide +kernel) (by decide +kernel)
theorem e_Ma_rowBytes : Cond.selects "TwinKeepers$Machine" y_Ma_rowBytes y_Ma_rowBytes ∈ xT := xin 915 (by decide +kernel) (by decide +kernel)
theorem d_Ma_rowBytes_0 : decode b_Ma_rowBytes 0 = .ok (.bipush 8, 2) := by decide +kernel
theorem d_Ma_rowBytes_2 : decode b_Ma_rowBytes 2 = .ok (.istore_n 1, 1) := by decide +kernel
theorem d_Ma_rowBytes_3 : decode b_Ma_rowBytes 3 = .ok (.iconst 0, 1) := by decide +kernel
theorem d_Ma_rowBytes_4 : decode b_Ma_rowBytes 4 = .ok (.istore_n 2, 1) := by decide +kernel
theorem d_Ma_rowBytes_5 : decode b_Ma_rowBytes 5 = .ok (.iload_n 2, 1) := by decide +kernel
theorem d_Ma_rowBytes_6 : decode b_Ma_rowBytes 6 = .ok (.aload_n 0, 1) := by decide +kernel
theorem d_Ma_rowBytes_7 : decode b_Ma_rowBytes 7 = .ok (.getfield 12, 3) := by decide +kernel
theorem d_Ma_rowBytes_10 : decode b_Ma_rowBytes 10 = .ok (.invokevirtual 30, 3) := by decide +kernel
theorem d_Ma_rowBytes_13 : decode b_Ma_rowBytes 13 = .ok (.if_icmp .ge 26, 3) := by decide +kernel
theorem d_Ma_rowBytes_16 : decode b_Ma_rowBytes 16 = .ok (.iload_n 1, 1) := by decide +kernel
theorem d_Ma_rowBytes_17 : decode b_Ma_rowBytes 17 = .ok (.aload_n 0, 1) := by decide +kernel
theorem d_Ma_rowBytes_18 : decode b_Ma_rowBytes 18 = .ok (.getfield 12, 3) := by decide +kernel
theorem d_Ma_rowBytes_21 : decode b_Ma_rowBytes 21 = .ok (.iload_n 2, 1) := by decide +kernel
theorem d_Ma_rowBytes_22 : decode b_Ma_rowBytes 22 = .ok (.invokevirtual 54, 3) := by decide +kernel
theorem d_Ma_rowBytes_25 : decode b_Ma_rowBytes 25 = .ok (.checkcast 41, 3) := by decide +kernel
theorem d_Ma_rowBytes_28 : decode b_Ma_rowBytes 28 = .ok (.invokevirtual 91, 3) := by decide +kernel
theorem q_917 : Cond.methodLink "TwinKeepers$Machine" 91 ⟨"TwinKeepers$Session", "rowBytes", "()I"⟩ ∈ xT := xin 917 (by decide +kernel) (by decide +kernel)
theorem d_Ma_rowBytes_31 : decode b_Ma_rowBytes 31 = .ok (.iadd, 1) := by decide +kernel
theorem d_Ma_rowBytes_32 : decode b_Ma_rowBytes 32 = .ok (.istore_n 1, 1) := by decide +kernel
theorem d_Ma_rowBytes_33 : decode b_Ma_rowBytes 33 = .ok (.iinc 2 1, 3) := by decide +kernel
theorem d_Ma_rowBytes_36 : decode b_Ma_rowBytes 36 = .ok (.goto (-31), 3) := by decide +kernel
theorem d_Ma_rowBytes_39 : decode b_Ma_rowBytes 39 = .ok (.iconst 0, 1) := by decide +kernel
theorem d_Ma_rowBytes_40 : decode b_Ma_rowBytes 40 = .ok (.istore_n 2, 1) := by decide +kernel
theorem d_Ma_rowBytes_41 : decode b_Ma_rowBytes 41 = .ok (.iload_n 2, 1) := by decide +kernel
theorem d_Ma_rowBytes_42 : decode b_Ma_rowBytes 42 = .ok (.aload_n 0, 1) := by decide +kernel
theorem d_Ma_rowBytes_43 : decode b_Ma_rowBytes 43 = .ok (.getfield 21, 3) := by decide +kernel
theorem d_Ma_rowBytes_46 : decode b_Ma_rowBytes 46 = .ok (.getfield 66, 3) := by decide +kernel
theorem d_Ma_rowBytes_49 : decode b_Ma_rowBytes 49 = .ok (.invokevirtual 30, 3) := by decide +kernel
theorem d_Ma_rowBytes_52 : decode b_Ma_rowBytes 52 = .ok (.if_icmp .ge 29, 3) := by decide +kernel
theorem d_Ma_rowBytes_55 : decode b_Ma_rowBytes 55 = .ok (.iload_n 1, 1) := by decide +kernel
theorem d_Ma_rowBytes_56 : decode b_Ma_rowBytes 56 = .ok (.aload_n 0, 1) := by decide +kernel
theorem d_Ma_rowBytes_57 : decode b_Ma_rowBytes 57 = .ok (.getfield 21, 3) := by decide +kernel
theorem d_Ma_rowBytes_60 : decode b_Ma_rowBytes 60 = .ok (.getfield 66, 3) := by decide +kernel
theorem d_Ma_rowBytes_63 : decode b_Ma_rowBytes 63 = .ok (.iload_n 2, 1) := by decide +kernel
theorem d_Ma_rowBytes_64 : decode b_Ma_rowBytes 64 = .ok (.invokevirtual 54, 3) := by decide +kernel
theorem d_Ma_rowBytes_67 : decode b_Ma_rowBytes 67 = .ok (.checkcast 75, 3) := by decide +kernel
theorem d_Ma_rowBytes_70 : decode b_Ma_rowBytes 70 = .ok (.invokevirtual 94, 3) := by decide +kernel
theorem q_921 : Cond.methodLink "TwinKeepers$Machine" 94 ⟨"TwinKeepers$Entry", "rowBytes", "()I"⟩ ∈ xT := xin 921 (by decide +kernel) (by decide +kernel)
theorem d_Ma_rowBytes_73 : decode b_Ma_rowBytes 73 = .ok (.iadd, 1) := by decide +kernel
theorem d_Ma_rowBytes_74 : decode b_Ma_rowBytes 74 = .ok (.istore_n 1, 1) := by decide +kernel
theorem d_Ma_rowBytes_75 : decode b_Ma_rowBytes 75 = .ok (.iinc 2 1, 3) := by decide +kernel
theorem d_Ma_rowBytes_78 : decode b_Ma_rowBytes 78 = .ok (.goto (-37), 3) := by decide +kernel
theorem d_Ma_rowBytes_81 : decode b_Ma_rowBytes 81 = .ok (.iload_n 1, 1) := by decide +kernel
theorem d_Ma_rowBytes_82 : decode b_Ma_rowBytes 82 = .ok (.ireturn, 1) := by decide +kernel
abbrev b_Se_rowBytes : ByteArray := prog_6_method_5_code
def y_Se_rowBytes : MethodName := ⟨"TwinKeepers$Session", "rowBytes", "()I"⟩
theorem kc_Se_rowBytes : Cond.code y_Se_rowBytes b_Se_rowBytes 1 (some .int) ∈ xT := xin 920 (by decide +kernel) (by decide +kernel)
theorem k_Se_rowBytes : xCode y_Se_rowBytes b_Se_rowBytes 1 (some .int) [] := Or.inl ⟨rfl, kc_Se_rowBytes⟩
theorem h_Se_rowBytes : plainFor y_Se_rowBytes = true ∧ (y_Se_rowBytes.cls ≠ "java/lang/invoke/MethodHandle" ∧ y_Se_rowBytes.cls ≠ "java/lang/invoke/VarHandle") ∧ (parseMethodDescriptor y_Se_rowBytes.desc).map (fun d => d.parameters.length) = some 0 := by decide +kernel
theorem v_Se_rowBytes : Cond.instanceMethod y_Se_rowBytes ∈ xT := xin 918 (by decide +kernel) (by decide +kernel)
theorem e_Se_rowBytes : Cond.selects "TwinKeepers$Session" y_Se_rowBytes y_Se_rowBytes ∈ xT := xin 919 (by decide +kernel) (by decide +kernel)
theorem d_Se_rowBytes_0 : decode b_Se_rowBytes 0 = .ok (.bipush 18, 2) := by decide +kernel
theorem d_Se_rowBytes_2 : decode b_Se_rowBytes 2 = .ok (.aload_n 0, 1) := by decide +kernel
theorem d_Se_rowBytes_3 : decode b_Se_rowBytes 3 = .ok (.getfield 22, 3) := by decide +kernel
theorem d_Se_rowBytes_6 : decode b_Se_rowBytes 6 = .ok (.arraylength, 1) := by decide +kernel
theorem d_Se_rowBytes_7 : decode b_Se_rowBytes 7 = .ok (.iadd, 1) := by decide +kernel
theorem d_Se_rowBytes_8 : decode b_Se_rowBytes 8 = .ok (.ireturn, 1) := by decide +kernel
abbrev b_En_rowBytes : ByteArray := prog_2_method_4_code
def y_En_rowBytes : MethodName := ⟨"TwinKeepers$Entry", "rowBytes", "()I"⟩
theorem kc_En_rowBytes : Cond.code y_En_rowBytes b_En_rowBytes 1 (some .int) ∈ xT := xin 924 (by decide +kernel) (by decide +kernel)
theorem k_En_rowBytes : xCode y_En_rowBytes b_En_rowBytes 1 (some .int) [] := Or.inl ⟨rfl, kc_En_rowBytes⟩
theorem h_En_rowBytes : plainFor y_En_rowBytes = true ∧ (y_En_rowBytes.cls ≠ "java/lang/invoke/MethodHandle" ∧ y_En_rowBytes.cls ≠ "java/lang/invoke/VarHandle") ∧ (parseMethodDescriptor y_En_rowBytes.desc).map (fun d => d.parameters.length) = some 0 := by decide +kernel
theorem v_En_rowBytes : Cond.instanceMethod y_En_rowBytes ∈ xT := xin 922 (by decide +kernel) (by decide +kernel)
theorem e_En_rowBytes : Cond.selects "TwinKeepers$Entry" y_En_rowBytes y_En_rowBytes ∈ xT := xin 923 (by decide +kernel) (by decide +kernel)
theorem d_En_rowBytes_0 : decode b_En_rowBytes 0 = .ok (.iconst 3, 1) := by decide +kernel
theorem d_En_rowBytes_1 : decode b_En_rowBytes 1 = .ok (.aload_n 0, 1) := by decide +kernel
theorem d_En_rowBytes_2 : decode b_En_rowBytes 2 = .ok (.getfield 9, 3) := by decide +kernel
theorem d_En_rowBytes_5 : decode b_En_rowBytes 5 = .ok (.arraylength, 1) := by decide +kernel
theorem d_En_rowBytes_6 : decode b_En_rowBytes 6 = .ok (.iadd, 1) := by decide +kernel
theorem d_En_rowBytes_7 : decode b_En_rowBytes 7 = .ok (.aload_n 0, 1) := by decide +kernel
theorem d_En_rowBytes_8 : decode b_En_rowBytes 8 = .ok (.getfield 15, 3) := by decide +kernel
theorem d_En_rowBytes_11 : decode b_En_rowBytes 11 = .ok (.arraylength, 1) := by decide +kernel
theorem d_En_rowBytes_12 : decode b_En_rowBytes 12 = .ok (.iadd, 1) := by decide +kernel
theorem d_En_rowBytes_13 : decode b_En_rowBytes 13 = .ok (.ireturn, 1) := by decide +kernel
abbrev b_TK_byteAt : ByteArray := prog_1_method_13_code
def y_TK_byteAt : MethodName := ⟨"TwinKeepers", "byteAt", "(I)I"⟩
theorem kc_TK_byteAt : Cond.code y_TK_byteAt b_TK_byteAt 2 (some .int) ∈ xT := xin 932 (by decide +kernel) (by decide +kernel)
theorem k_TK_byteAt : xCode y_TK_byteAt b_TK_byteAt 2 (some .int) [] := Or.inl ⟨rfl, kc_TK_byteAt⟩
theorem h_TK_byteAt : plainFor y_TK_byteAt = true ∧ (y_TK_byteAt.cls ≠ "java/lang/invoke/MethodHandle" ∧ y_TK_byteAt.cls ≠ "java/lang/invoke/VarHandle") ∧ (parseMethodDescriptor y_TK_byteAt.desc).map (fun d => d.parameters.length) = some 1 := by decide +kernel
theorem v_TK_byteAt : Cond.instanceMethod y_TK_byteAt ∈ xT := xin 930 (by decide +kernel) (by decide +kernel)
theorem e_TK_byteAt : Cond.selects "TwinKeepers" y_TK_byteAt y_TK_byteAt ∈ xT := xin 931 (by decide +kernel) (by decide +kernel)
theorem d_TK_byteAt_0 : decode b_TK_byteAt 0 = .ok (.iload_n 1, 1) := by decide +kernel
theorem d_TK_byteAt_1 : decode b_TK_byteAt 1 = .ok (.ifCond .lt 14, 3) := by decide +kernel
theorem d_TK_byteAt_4 : decode b_TK_byteAt 4 = .ok (.iload_n 1, 1) := by decide +kernel
theorem d_TK_byteAt_5 : decode b_TK_byteAt 5 = .ok (.aload_n 0, 1) := by decide +kernel
theorem d_TK_byteAt_6 : decode b_TK_byteAt 6 = .ok (.getfield 26, 3) := by decide +kernel
theorem d_TK_byteAt_9 : decode b_TK_byteAt 9 = .ok (.getfield 143, 3) := by decide +kernel
theorem d_TK_byteAt_12 : decode b_TK_byteAt 12 = .ok (.if_icmp .lt 13, 3) := by decide +kernel
theorem d_TK_byteAt_15 : decode b_TK_byteAt 15 = .ok (.new 171, 3) := by decide +kernel
theorem d_TK_byteAt_18 : decode b_TK_byteAt 18 = .ok (.dup, 1) := by decide +kernel
theorem d_TK_byteAt_19 : decode b_TK_byteAt 19 = .ok (.ldc 204, 2) := by decide +kernel
theorem d_TK_byteAt_21 : decode b_TK_byteAt 21 = .ok (.invokespecial 175, 3) := by decide +kernel
theorem d_TK_byteAt_24 : decode b_TK_byteAt 24 = .ok (.athrow, 1) := by decide +kernel
theorem d_TK_byteAt_25 : decode b_TK_byteAt 25 = .ok (.aload_n 0, 1) := by decide +kernel
theorem d_TK_byteAt_26 : decode b_TK_byteAt 26 = .ok (.getfield 26, 3) := by decide +kernel
theorem d_TK_byteAt_29 : decode b_TK_byteAt 29 = .ok (.getfield 206, 3) := by decide +kernel
theorem q_108 : Cond.fieldLink "TwinKeepers" 206 "TwinKeepers$Row" "bytes" "[B" ∈ xT := xin 108 (by decide +kernel) (by decide +kernel)
theorem d_TK_byteAt_32 : decode b_TK_byteAt 32 = .ok (.iload_n 1, 1) := by decide +kernel
theorem d_TK_byteAt_33 : decode b_TK_byteAt 33 = .ok (.baload, 1) := by decide +kernel
theorem d_TK_byteAt_34 : decode b_TK_byteAt 34 = .ok (.sipush 255, 3) := by decide +kernel
theorem d_TK_byteAt_37 : decode b_TK_byteAt 37 = .ok (.iand, 1) := by decide +kernel
theorem d_TK_byteAt_38 : decode b_TK_byteAt 38 = .ok (.ireturn, 1) := by decide +kernel
