abbrev b_Mo_init : ByteArray := prog_8_method_1_code
def y_Mo_init : MethodName := ⟨"TwinKeepersModel", "<init>", "()V"⟩
theorem kc_Mo_init : Cond.code y_Mo_init b_Mo_init 1 none ∈ xT := xin 938 (by decide +kernel) (by decide +kernel)
theorem k_Mo_init : xCode y_Mo_init b_Mo_init 1 none [] := Or.inl ⟨rfl, kc_Mo_init⟩
theorem h_Mo_init : plainFor y_Mo_init = true ∧ (y_Mo_init.cls ≠ "java/lang/invoke/MethodHandle" ∧ y_Mo_init.cls ≠ "java/lang/invoke/VarHandle") ∧ (parseMethodDescriptor y_Mo_init.desc).map (fun d => d.parameters.length) = some 0 := by decide +kernel
theorem v_Mo_init : Cond.instanceMethod y_Mo_init ∈ xT := xin 937 (by decide +kernel) (by decide +kernel)
theorem d_Mo_init_0 : decode b_Mo_init 0 = .ok (.aload_n 0, 1) := by decide +kernel
theorem d_Mo_init_1 : decode b_Mo_init 1 = .ok (.invokespecial 1, 3) := by decide +kernel
theorem q_939 : Cond.methodLink "TwinKeepersModel" 1 ⟨"java/lang/Object", "<init>", "()V"⟩ ∈ xT := xin 939 (by decide +kernel) (by decide +kernel)
theorem d_Mo_init_4 : decode b_Mo_init 4 = .ok (.aload_n 0, 1) := by decide +kernel
theorem d_Mo_init_5 : decode b_Mo_init 5 = .ok (.iconst 2, 1) := by decide +kernel
theorem d_Mo_init_6 : decode b_Mo_init 6 = .ok (.newarray .int, 2) := by decide +kernel
theorem d_Mo_init_8 : decode b_Mo_init 8 = .ok (.putfield 7, 3) := by decide +kernel
theorem q_941 : Cond.fieldLink "TwinKeepersModel" 7 "TwinKeepersModel" "many" "[I" ∈ xT := xin 941 (by decide +kernel) (by decide +kernel)
theorem d_Mo_init_11 : decode b_Mo_init 11 = .ok (.aload_n 0, 1) := by decide +kernel
theorem d_Mo_init_12 : decode b_Mo_init 12 = .ok (.bipush 32, 2) := by decide +kernel
theorem d_Mo_init_14 : decode b_Mo_init 14 = .ok (.newarray .int, 2) := by decide +kernel
theorem d_Mo_init_16 : decode b_Mo_init 16 = .ok (.putfield 13, 3) := by decide +kernel
theorem q_942 : Cond.fieldLink "TwinKeepersModel" 13 "TwinKeepersModel" "numbers" "[I" ∈ xT := xin 942 (by decide +kernel) (by decide +kernel)
theorem d_Mo_init_19 : decode b_Mo_init 19 = .ok (.aload_n 0, 1) := by decide +kernel
theorem d_Mo_init_20 : decode b_Mo_init 20 = .ok (.bipush 32, 2) := by decide +kernel
theorem d_Mo_init_22 : decode b_Mo_init 22 = .ok (.newarray .int, 2) := by decide +kernel
theorem d_Mo_init_24 : decode b_Mo_init 24 = .ok (.putfield 16, 3) := by decide +kernel
theorem q_943 : Cond.fieldLink "TwinKeepersModel" 16 "TwinKeepersModel" "used" "[I" ∈ xT := xin 943 (by decide +kernel) (by decide +kernel)
theorem d_Mo_init_27 : decode b_Mo_init 27 = .ok (.aload_n 0, 1) := by decide +kernel
theorem d_Mo_init_28 : decode b_Mo_init 28 = .ok (.bipush 32, 2) := by decide +kernel
theorem d_Mo_init_30 : decode b_Mo_init 30 = .ok (.newarray .int, 2) := by decide +kernel
theorem d_Mo_init_32 : decode b_Mo_init 32 = .ok (.putfield 19, 3) := by decide +kernel
theorem q_944 : Cond.fieldLink "TwinKeepersModel" 19 "TwinKeepersModel" "serials" "[I" ∈ xT := xin 944 (by decide +kernel) (by decide +kernel)
theorem d_Mo_init_35 : decode b_Mo_init 35 = .ok (.aload_n 0, 1) := by decide +kernel
theorem d_Mo_init_36 : decode b_Mo_init 36 = .ok (.bipush 32, 2) := by decide +kernel
theorem d_Mo_init_38 : decode b_Mo_init 38 = .ok (.newarray .int, 2) := by decide +kernel
theorem d_Mo_init_40 : decode b_Mo_init 40 = .ok (.putfield 22, 3) := by decide +kernel
theorem q_945 : Cond.fieldLink "TwinKeepersModel" 22 "TwinKeepersModel" "places" "[I" ∈ xT := xin 945 (by decide +kernel) (by decide +kernel)
theorem d_Mo_init_43 : decode b_Mo_init 43 = .ok (.aload_n 0, 1) := by decide +kernel
theorem d_Mo_init_44 : decode b_Mo_init 44 = .ok (.bipush 32, 2) := by decide +kernel
theorem d_Mo_init_46 : decode b_Mo_init 46 = .ok (.newarray .int, 2) := by decide +kernel
theorem d_Mo_init_48 : decode b_Mo_init 48 = .ok (.putfield 25, 3) := by decide +kernel
theorem q_946 : Cond.fieldLink "TwinKeepersModel" 25 "TwinKeepersModel" "answerSizes" "[I" ∈ xT := xin 946 (by decide +kernel) (by decide +kernel)
theorem d_Mo_init_51 : decode b_Mo_init 51 = .ok (.aload_n 0, 1) := by decide +kernel
theorem d_Mo_init_52 : decode b_Mo_init 52 = .ok (.sipush 3328, 3) := by decide +kernel
theorem d_Mo_init_55 : decode b_Mo_init 55 = .ok (.newarray .int, 2) := by decide +kernel
theorem d_Mo_init_57 : decode b_Mo_init 57 = .ok (.putfield 28, 3) := by decide +kernel
theorem q_947 : Cond.fieldLink "TwinKeepersModel" 28 "TwinKeepersModel" "answers" "[I" ∈ xT := xin 947 (by decide +kernel) (by decide +kernel)
theorem d_Mo_init_60 : decode b_Mo_init 60 = .ok (.aload_n 0, 1) := by decide +kernel
theorem d_Mo_init_61 : decode b_Mo_init 61 = .ok (.iconst 2, 1) := by decide +kernel
theorem d_Mo_init_62 : decode b_Mo_init 62 = .ok (.newarray .int, 2) := by decide +kernel
theorem d_Mo_init_64 : decode b_Mo_init 64 = .ok (.putfield 31, 3) := by decide +kernel
theorem q_948 : Cond.fieldLink "TwinKeepersModel" 31 "TwinKeepersModel" "keys" "[I" ∈ xT := xin 948 (by decide +kernel) (by decide +kernel)
theorem d_Mo_init_67 : decode b_Mo_init 67 = .ok (.aload_n 0, 1) := by decide +kernel
theorem d_Mo_init_68 : decode b_Mo_init 68 = .ok (.sipush 256, 3) := by decide +kernel
theorem d_Mo_init_71 : decode b_Mo_init 71 = .ok (.newarray .int, 2) := by decide +kernel
theorem d_Mo_init_73 : decode b_Mo_init 73 = .ok (.putfield 34, 3) := by decide +kernel
theorem q_949 : Cond.fieldLink "TwinKeepersModel" 34 "TwinKeepersModel" "keySizes" "[I" ∈ xT := xin 949 (by decide +kernel) (by decide +kernel)
theorem d_Mo_init_76 : decode b_Mo_init 76 = .ok (.aload_n 0, 1) := by decide +kernel
theorem d_Mo_init_77 : decode b_Mo_init 77 = .ok (.sipush 1024, 3) := by decide +kernel
theorem d_Mo_init_80 : decode b_Mo_init 80 = .ok (.newarray .long, 2) := by decide +kernel
theorem d_Mo_init_82 : decode b_Mo_init 82 = .ok (.putfield 37, 3) := by decide +kernel
theorem q_950 : Cond.fieldLink "TwinKeepersModel" 37 "TwinKeepersModel" "keyRows" "[J" ∈ xT := xin 950 (by decide +kernel) (by decide +kernel)
theorem d_Mo_init_85 : decode b_Mo_init 85 = .ok (.aload_n 0, 1) := by decide +kernel
theorem d_Mo_init_86 : decode b_Mo_init 86 = .ok (.sipush 256, 3) := by decide +kernel
theorem d_Mo_init_89 : decode b_Mo_init 89 = .ok (.newarray .int, 2) := by decide +kernel
theorem d_Mo_init_91 : decode b_Mo_init 91 = .ok (.putfield 41, 3) := by decide +kernel
theorem q_951 : Cond.fieldLink "TwinKeepersModel" 41 "TwinKeepersModel" "valueSizes" "[I" ∈ xT := xin 951 (by decide +kernel) (by decide +kernel)
theorem d_Mo_init_94 : decode b_Mo_init 94 = .ok (.aload_n 0, 1) := by decide +kernel
theorem d_Mo_init_95 : decode b_Mo_init 95 = .ok (.sipush 3328, 3) := by decide +kernel
theorem d_Mo_init_98 : decode b_Mo_init 98 = .ok (.newarray .long, 2) := by decide +kernel
theorem d_Mo_init_100 : decode b_Mo_init 100 = .ok (.putfield 44, 3) := by decide +kernel
theorem q_952 : Cond.fieldLink "TwinKeepersModel" 44 "TwinKeepersModel" "values" "[J" ∈ xT := xin 952 (by decide +kernel) (by decide +kernel)
theorem d_Mo_init_103 : decode b_Mo_init 103 = .ok (.aload_n 0, 1) := by decide +kernel
theorem d_Mo_init_104 : decode b_Mo_init 104 = .ok (.iconst 2, 1) := by decide +kernel
theorem d_Mo_init_105 : decode b_Mo_init 105 = .ok (.newarray .int, 2) := by decide +kernel
theorem d_Mo_init_107 : decode b_Mo_init 107 = .ok (.putfield 47, 3) := by decide +kernel
theorem q_953 : Cond.fieldLink "TwinKeepersModel" 47 "TwinKeepersModel" "highest" "[I" ∈ xT := xin 953 (by decide +kernel) (by decide +kernel)
theorem d_Mo_init_110 : decode b_Mo_init 110 = .ok (.aload_n 0, 1) := by decide +kernel
theorem d_Mo_init_111 : decode b_Mo_init 111 = .ok (.sipush 300, 3) := by decide +kernel
theorem d_Mo_init_114 : decode b_Mo_init 114 = .ok (.newarray .int, 2) := by decide +kernel
theorem d_Mo_init_116 : decode b_Mo_init 116 = .ok (.putfield 50, 3) := by decide +kernel
theorem q_955 : Cond.fieldLink "TwinKeepersModel" 50 "TwinKeepersModel" "fed" "[I" ∈ xT := xin 955 (by decide +kernel) (by decide +kernel)
theorem d_Mo_init_119 : decode b_Mo_init 119 = .ok (.aload_n 0, 1) := by decide +kernel
theorem d_Mo_init_120 : decode b_Mo_init 120 = .ok (.iconst 4, 1) := by decide +kernel
theorem d_Mo_init_121 : decode b_Mo_init 121 = .ok (.newarray .long, 2) := by decide +kernel
theorem d_Mo_init_123 : decode b_Mo_init 123 = .ok (.putfield 53, 3) := by decide +kernel
theorem q_957 : Cond.fieldLink "TwinKeepersModel" 53 "TwinKeepersModel" "sought" "[J" ∈ xT := xin 957 (by decide +kernel) (by decide +kernel)
theorem d_Mo_init_126 : decode b_Mo_init 126 = .ok (.aload_n 0, 1) := by decide +kernel
theorem d_Mo_init_127 : decode b_Mo_init 127 = .ok (.sipush 140, 3) := by decide +kernel
theorem d_Mo_init_130 : decode b_Mo_init 130 = .ok (.newarray .int, 2) := by decide +kernel
theorem d_Mo_init_132 : decode b_Mo_init 132 = .ok (.putfield 56, 3) := by decide +kernel
theorem q_959 : Cond.fieldLink "TwinKeepersModel" 56 "TwinKeepersModel" "tells" "[I" ∈ xT := xin 959 (by decide +kernel) (by decide +kernel)
theorem d_Mo_init_135 : decode b_Mo_init 135 = .ok (.aload_n 0, 1) := by decide +kernel
theorem d_Mo_init_136 : decode b_Mo_init 136 = .ok (.sipush 1800, 3) := by decide +kernel
theorem d_Mo_init_139 : decode b_Mo_init 139 = .ok (.newarray .long, 2) := by decide +kernel
theorem d_Mo_init_141 : decode b_Mo_init 141 = .ok (.putfield 59, 3) := by decide +kernel
theorem q_962 : Cond.fieldLink "TwinKeepersModel" 59 "TwinKeepersModel" "result" "[J" ∈ xT := xin 962 (by decide +kernel) (by decide +kernel)
theorem d_Mo_init_144 : decode b_Mo_init 144 = .ok (.return_, 1) := by decide +kernel
abbrev b_Mo_thrown : ByteArray := prog_8_method_2_code
def y_Mo_thrown : MethodName := ⟨"TwinKeepersModel", "thrown", "()I"⟩
theorem kc_Mo_thrown : Cond.code y_Mo_thrown b_Mo_thrown 1 (some .int) ∈ xT := xin 1015 (by decide +kernel) (by decide +kernel)
theorem k_Mo_thrown : xCode y_Mo_thrown b_Mo_thrown 1 (some .int) [] := Or.inl ⟨rfl, kc_Mo_thrown⟩
theorem h_Mo_thrown : plainFor y_Mo_thrown = true ∧ (y_Mo_thrown.cls ≠ "java/lang/invoke/MethodHandle" ∧ y_Mo_thrown.cls ≠ "java/lang/invoke/VarHandle") ∧ (parseMethodDescriptor y_Mo_thrown.desc).map (fun d => d.parameters.length) = some 0 := by decide +kernel
theorem v_Mo_thrown : Cond.instanceMethod y_Mo_thrown ∈ xT := xin 1013 (by decide +kernel) (by decide +kernel)
theorem e_Mo_thrown : Cond.selects "TwinKeepersModel" y_Mo_thrown y_Mo_thrown ∈ xT := xin 1014 (by decide +kernel) (by decide +kernel)
theorem d_Mo_thrown_0 : decode b_Mo_thrown 0 = .ok (.aload_n 0, 1) := by decide +kernel
theorem d_Mo_thrown_1 : decode b_Mo_thrown 1 = .ok (.getfield 62, 3) := by decide +kernel
theorem q_940 : Cond.fieldLink "TwinKeepersModel" 62 "TwinKeepersModel" "thrown" "I" ∈ xT := xin 940 (by decide +kernel) (by decide +kernel)
theorem d_Mo_thrown_4 : decode b_Mo_thrown 4 = .ok (.ireturn, 1) := by decide +kernel
abbrev b_Mo_feed : ByteArray := prog_8_method_5_code
def y_Mo_feed : MethodName := ⟨"TwinKeepersModel", "feed", "(JI)I"⟩
theorem kc_Mo_feed : Cond.code y_Mo_feed b_Mo_feed 5 (some .int) ∈ xT := xin 1019 (by decide +kernel) (by decide +kernel)
theorem k_Mo_feed : xCode y_Mo_feed b_Mo_feed 5 (some .int) [] := Or.inl ⟨rfl, kc_Mo_feed⟩
theorem h_Mo_feed : plainFor y_Mo_feed = true ∧ (y_Mo_feed.cls ≠ "java/lang/invoke/MethodHandle" ∧ y_Mo_feed.cls ≠ "java/lang/invoke/VarHandle") ∧ (parseMethodDescriptor y_Mo_feed.desc).map (fun d => d.parameters.length) = some 2 := by decide +kernel
theorem v_Mo_feed : Cond.instanceMethod y_Mo_feed ∈ xT := xin 1017 (by decide +kernel) (by decide +kernel)
theorem e_Mo_feed : Cond.selects "TwinKeepersModel" y_Mo_feed y_Mo_feed ∈ xT := xin 1018 (by decide +kernel) (by decide +kernel)
theorem d_Mo_feed_0 : decode b_Mo_feed 0 = .ok (.aload_n 0, 1) := by decide +kernel
theorem d_Mo_feed_1 : decode b_Mo_feed 1 = .ok (.iconst 0, 1) := by decide +kernel
theorem d_Mo_feed_2 : decode b_Mo_feed 2 = .ok (.putfield 62, 3) := by decide +kernel
theorem d_Mo_feed_5 : decode b_Mo_feed 5 = .ok (.iload_n 3, 1) := by decide +kernel
theorem d_Mo_feed_6 : decode b_Mo_feed 6 = .ok (.iconst 1, 1) := by decide +kernel
theorem d_Mo_feed_7 : decode b_Mo_feed 7 = .ok (.bipush 8, 2) := by decide +kernel
theorem d_Mo_feed_9 : decode b_Mo_feed 9 = .ok (.invokestatic 66, 3) := by decide +kernel
theorem q_1020 : Cond.methodLink "TwinKeepersModel" 66 ⟨"TwinKeepersModel", "within", "(III)Z"⟩ ∈ xT := xin 1020 (by decide +kernel) (by decide +kernel)
theorem d_Mo_feed_12 : decode b_Mo_feed 12 = .ok (.ifCond .ne 9, 3) := by decide +kernel
theorem d_Mo_feed_15 : decode b_Mo_feed 15 = .ok (.aload_n 0, 1) := by decide +kernel
theorem d_Mo_feed_16 : decode b_Mo_feed 16 = .ok (.iconst 1, 1) := by decide +kernel
theorem d_Mo_feed_17 : decode b_Mo_feed 17 = .ok (.invokevirtual 70, 3) := by decide +kernel
theorem q_1023 : Cond.methodLink "TwinKeepersModel" 70 ⟨"TwinKeepersModel", "fail", "(I)I"⟩ ∈ xT := xin 1023 (by decide +kernel) (by decide +kernel)
theorem d_Mo_feed_20 : decode b_Mo_feed 20 = .ok (.ireturn, 1) := by decide +kernel
theorem d_Mo_feed_21 : decode b_Mo_feed 21 = .ok (.aload_n 0, 1) := by decide +kernel
theorem d_Mo_feed_22 : decode b_Mo_feed 22 = .ok (.getfield 74, 3) := by decide +kernel
theorem q_954 : Cond.fieldLink "TwinKeepersModel" 74 "TwinKeepersModel" "tape" "I" ∈ xT := xin 954 (by decide +kernel) (by decide +kernel)
theorem d_Mo_feed_25 : decode b_Mo_feed 25 = .ok (.iload_n 3, 1) := by decide +kernel
theorem d_Mo_feed_26 : decode b_Mo_feed 26 = .ok (.iadd, 1) := by decide +kernel
theorem d_Mo_feed_27 : decode b_Mo_feed 27 = .ok (.sipush 300, 3) := by decide +kernel
theorem d_Mo_feed_30 : decode b_Mo_feed 30 = .ok (.if_icmp .le 9, 3) := by decide +kernel
theorem d_Mo_feed_33 : decode b_Mo_feed 33 = .ok (.aload_n 0, 1) := by decide +kernel
theorem d_Mo_feed_34 : decode b_Mo_feed 34 = .ok (.iconst 2, 1) := by decide +kernel
theorem d_Mo_feed_35 : decode b_Mo_feed 35 = .ok (.invokevirtual 70, 3) := by decide +kernel
theorem d_Mo_feed_38 : decode b_Mo_feed 38 = .ok (.ireturn, 1) := by decide +kernel
theorem d_Mo_feed_39 : decode b_Mo_feed 39 = .ok (.iconst 0, 1) := by decide +kernel
theorem d_Mo_feed_40 : decode b_Mo_feed 40 = .ok (.istore 4, 2) := by decide +kernel
theorem d_Mo_feed_42 : decode b_Mo_feed 42 = .ok (.iload 4, 2) := by decide +kernel
theorem d_Mo_feed_44 : decode b_Mo_feed 44 = .ok (.iload_n 3, 1) := by decide +kernel
theorem d_Mo_feed_45 : decode b_Mo_feed 45 = .ok (.if_icmp .ge 33, 3) := by decide +kernel
theorem d_Mo_feed_48 : decode b_Mo_feed 48 = .ok (.aload_n 0, 1) := by decide +kernel
theorem d_Mo_feed_49 : decode b_Mo_feed 49 = .ok (.getfield 50, 3) := by decide +kernel
theorem d_Mo_feed_52 : decode b_Mo_feed 52 = .ok (.aload_n 0, 1) := by decide +kernel
theorem d_Mo_feed_53 : decode b_Mo_feed 53 = .ok (.getfield 74, 3) := by decide +kernel
theorem d_Mo_feed_56 : decode b_Mo_feed 56 = .ok (.iload 4, 2) := by decide +kernel
theorem d_Mo_feed_58 : decode b_Mo_feed 58 = .ok (.iadd, 1) := by decide +kernel
theorem d_Mo_feed_59 : decode b_Mo_feed 59 = .ok (.lload_n 1, 1) := by decide +kernel
theorem d_Mo_feed_60 : decode b_Mo_feed 60 = .ok (.bipush 8, 2) := by decide +kernel
theorem d_Mo_feed_62 : decode b_Mo_feed 62 = .ok (.iload 4, 2) := by decide +kernel
theorem d_Mo_feed_64 : decode b_Mo_feed 64 = .ok (.imul, 1) := by decide +kernel
theorem d_Mo_feed_65 : decode b_Mo_feed 65 = .ok (.lshr, 1) := by decide +kernel
theorem d_Mo_feed_66 : decode b_Mo_feed 66 = .ok (.ldc2_w 77, 3) := by decide +kernel
theorem q_1027 : Cond.constantLong "TwinKeepersModel" 77 (255) ∈ xT := xin 1027 (by decide +kernel) (by decide +kernel)
theorem d_Mo_feed_69 : decode b_Mo_feed 69 = .ok (.land, 1) := by decide +kernel
theorem d_Mo_feed_70 : decode b_Mo_feed 70 = .ok (.l2i, 1) := by decide +kernel
theorem d_Mo_feed_71 : decode b_Mo_feed 71 = .ok (.iastore, 1) := by decide +kernel
theorem d_Mo_feed_72 : decode b_Mo_feed 72 = .ok (.iinc 4 1, 3) := by decide +kernel
theorem d_Mo_feed_75 : decode b_Mo_feed 75 = .ok (.goto (-33), 3) := by decide +kernel
theorem d_Mo_feed_78 : decode b_Mo_feed 78 = .ok (.aload_n 0, 1) := by decide +kernel
theorem d_Mo_feed_79 : decode b_Mo_feed 79 = .ok (.dup, 1) := by decide +kernel
theorem d_Mo_feed_80 : decode b_Mo_feed 80 = .ok (.getfield 74, 3) := by decide +kernel
theorem d_Mo_feed_83 : decode b_Mo_feed 83 = .ok (.iload_n 3, 1) := by decide +kernel
theorem d_Mo_feed_84 : decode b_Mo_feed 84 = .ok (.iadd, 1) := by decide +kernel
theorem d_Mo_feed_85 : decode b_Mo_feed 85 = .ok (.putfield 74, 3) := by decide +kernel
theorem d_Mo_feed_88 : decode b_Mo_feed 88 = .ok (.aload_n 0, 1) := by decide +kernel
theorem d_Mo_feed_89 : decode b_Mo_feed 89 = .ok (.getfield 74, 3) := by decide +kernel
theorem d_Mo_feed_92 : decode b_Mo_feed 92 = .ok (.ireturn, 1) := by decide +kernel
abbrev b_Mo_within : ByteArray := prog_8_method_4_code
def y_Mo_within : MethodName := ⟨"TwinKeepersModel", "within", "(III)Z"⟩
theorem kc_Mo_within : Cond.code y_Mo_within b_Mo_within 3 (some .boolean) ∈ xT := xin 1022 (by decide +kernel) (by decide +kernel)
theorem k_Mo_within : xCode y_Mo_within b_Mo_within 3 (some .boolean) [] := Or.inl ⟨rfl, kc_Mo_within⟩
theorem h_Mo_within : plainFor y_Mo_within = true ∧ (y_Mo_within.cls ≠ "java/lang/invoke/MethodHandle" ∧ y_Mo_within.cls ≠ "java/lang/invoke/VarHandle") ∧ (parseMethodDescriptor y_Mo_within.desc).map (fun d => d.parameters.length) = some 3 := by decide +kernel
theorem s_Mo_within : Cond.static y_Mo_within ∈ xT := xin 1021 (by decide +kernel) (by decide +kernel)
theorem in_Mo_within : Cond.initialized y_Mo_within.cls ∈ xT := xin 8 (by decide +kernel) (by decide +kernel)
theorem d_Mo_within_0 : decode b_Mo_within 0 = .ok (.iload_n 0, 1) := by decide +kernel
theorem d_Mo_within_1 : decode b_Mo_within 1 = .ok (.iload_n 1, 1) := by decide +kernel
theorem d_Mo_within_2 : decode b_Mo_within 2 = .ok (.if_icmp .lt 12, 3) := by decide +kernel
theorem d_Mo_within_5 : decode b_Mo_within 5 = .ok (.iload_n 0, 1) := by decide +kernel
theorem d_Mo_within_6 : decode b_Mo_within 6 = .ok (.iload_n 2, 1) := by decide +kernel
theorem d_Mo_within_7 : decode b_Mo_within 7 = .ok (.if_icmp .gt 7, 3) := by decide +kernel
theorem d_Mo_within_10 : decode b_Mo_within 10 = .ok (.iconst 1, 1) := by decide +kernel
theorem d_Mo_within_11 : decode b_Mo_within 11 = .ok (.goto 4, 3) := by decide +kernel
theorem d_Mo_within_14 : decode b_Mo_within 14 = .ok (.iconst 0, 1) := by decide +kernel
theorem d_Mo_within_15 : decode b_Mo_within 15 = .ok (.ireturn, 1) := by decide +kernel
abbrev b_Mo_fail : ByteArray := prog_8_method_3_code
def y_Mo_fail : MethodName := ⟨"TwinKeepersModel", "fail", "(I)I"⟩
theorem kc_Mo_fail : Cond.code y_Mo_fail b_Mo_fail 2 (some .int) ∈ xT := xin 1026 (by decide +kernel) (by decide +kernel)
theorem k_Mo_fail : xCode y_Mo_fail b_Mo_fail 2 (some .int) [] := Or.inl ⟨rfl, kc_Mo_fail⟩
theorem h_Mo_fail : plainFor y_Mo_fail = true ∧ (y_Mo_fail.cls ≠ "java/lang/invoke/MethodHandle" ∧ y_Mo_fail.cls ≠ "java/lang/invoke/VarHandle") ∧ (parseMethodDescriptor y_Mo_fail.desc).map (fun d => d.parameters.length) = some 1 := by decide +kernel
theorem v_Mo_fail : Cond.instanceMethod y_Mo_fail ∈ xT := xin 1025 (by decide +kernel) (by decide +kernel)
theorem e_Mo_fail : Cond.selects "TwinKeepersModel" y_Mo_fail y_Mo_fail ∈ xT := xinp 18 (by decide +kernel) (by decide +kernel)
theorem d_Mo_fail_0 : decode b_Mo_fail 0 = .ok (.aload_n 0, 1) := by decide +kernel
theorem d_Mo_fail_1 : decode b_Mo_fail 1 = .ok (.iload_n 1, 1) := by decide +kernel
theorem d_Mo_fail_2 : decode b_Mo_fail 2 = .ok (.putfield 62, 3) := by decide +kernel
theorem d_Mo_fail_5 : decode b_Mo_fail 5 = .ok (.iconst 0, 1) := by decide +kernel
theorem d_Mo_fail_6 : decode b_Mo_fail 6 = .ok (.ireturn, 1) := by decide +kernel
abbrev b_Mo_open : ByteArray := prog_8_method_25_code
def y_Mo_open : MethodName := ⟨"TwinKeepersModel", "open", "(II)I"⟩
theorem kc_Mo_open : Cond.code y_Mo_open b_Mo_open 5 (some .int) ∈ xT := xin 1031 (by decide +kernel) (by decide +kernel)
theorem k_Mo_open : xCode y_Mo_open b_Mo_open 5 (some .int) [] := Or.inl ⟨rfl, kc_Mo_open⟩
theorem h_Mo_open : plainFor y_Mo_open = true ∧ (y_Mo_open.cls ≠ "java/lang/invoke/MethodHandle" ∧ y_Mo_open.cls ≠ "java/lang/invoke/VarHandle") ∧ (parseMethodDescriptor y_Mo_open.desc).map (fun d => d.parameters.length) = some 2 := by decide +kernel
theorem v_Mo_open : Cond.instanceMethod y_Mo_open ∈ xT := xin 1029 (by decide +kernel) (by decide +kernel)
theorem e_Mo_open : Cond.selects "TwinKeepersModel" y_Mo_open y_Mo_open ∈ xT := xin 1030 (by decide +kernel) (by decide +kernel)
theorem d_Mo_open_0 : decode b_Mo_open 0 = .ok (.aload_n 0, 1) := by decide +kernel
theorem d_Mo_open_1 : decode b_Mo_open 1 = .ok (.iconst 0, 1) := by decide +kernel
theorem d_Mo_open_2 : decode b_Mo_open 2 = .ok (.putfield 62, 3) := by decide +kernel
theorem d_Mo_open_5 : decode b_Mo_open 5 = .ok (.iload_n 1, 1) := by decide +kernel
theorem d_Mo_open_6 : decode b_Mo_open 6 = .ok (.invokestatic 125, 3) := by decide +kernel
theorem q_1032 : Cond.methodLink "TwinKeepersModel" 125 ⟨"TwinKeepersModel", "isMachine", "(I)Z"⟩ ∈ xT := xin 1032 (by decide +kernel) (by decide +kernel)
theorem d_Mo_open_9 : decode b_Mo_open 9 = .ok (.ifCond .ne 9, 3) := by decide +kernel
theorem d_Mo_open_12 : decode b_Mo_open 12 = .ok (.aload_n 0, 1) := by decide +kernel
theorem d_Mo_open_13 : decode b_Mo_open 13 = .ok (.iconst 1, 1) := by decide +kernel
theorem d_Mo_open_14 : decode b_Mo_open 14 = .ok (.invokevirtual 70, 3) := by decide +kernel
theorem d_Mo_open_17 : decode b_Mo_open 17 = .ok (.ireturn, 1) := by decide +kernel
theorem d_Mo_open_18 : decode b_Mo_open 18 = .ok (.aload_n 0, 1) := by decide +kernel
theorem d_Mo_open_19 : decode b_Mo_open 19 = .ok (.iload_n 1, 1) := by decide +kernel
theorem d_Mo_open_20 : decode b_Mo_open 20 = .ok (.iload_n 2, 1) := by decide +kernel
theorem d_Mo_open_21 : decode b_Mo_open 21 = .ok (.invokevirtual 128, 3) := by decide +kernel
theorem q_1035 : Cond.methodLink "TwinKeepersModel" 128 ⟨"TwinKeepersModel", "isNext", "(II)Z"⟩ ∈ xT := xin 1035 (by decide +kernel) (by decide +kernel)
theorem d_Mo_open_24 : decode b_Mo_open 24 = .ok (.ifCond .ne 9, 3) := by decide +kernel
theorem d_Mo_open_27 : decode b_Mo_open 27 = .ok (.aload_n 0, 1) := by decide +kernel
theorem d_Mo_open_28 : decode b_Mo_open 28 = .ok (.iconst 2, 1) := by decide +kernel
theorem d_Mo_open_29 : decode b_Mo_open 29 = .ok (.invokevirtual 70, 3) := by decide +kernel
theorem d_Mo_open_32 : decode b_Mo_open 32 = .ok (.ireturn, 1) := by decide +kernel
theorem d_Mo_open_33 : decode b_Mo_open 33 = .ok (.aload_n 0, 1) := by decide +kernel
theorem d_Mo_open_34 : decode b_Mo_open 34 = .ok (.getfield 47, 3) := by decide +kernel
theorem d_Mo_open_37 : decode b_Mo_open 37 = .ok (.iload_n 1, 1) := by decide +kernel
theorem d_Mo_open_38 : decode b_Mo_open 38 = .ok (.iload_n 2, 1) := by decide +kernel
theorem d_Mo_open_39 : decode b_Mo_open 39 = .ok (.iastore, 1) := by decide +kernel
theorem d_Mo_open_40 : decode b_Mo_open 40 = .ok (.aload_n 0, 1) := by decide +kernel
theorem d_Mo_open_41 : decode b_Mo_open 41 = .ok (.getfield 7, 3) := by decide +kernel
theorem d_Mo_open_44 : decode b_Mo_open 44 = .ok (.iload_n 1, 1) := by decide +kernel
theorem d_Mo_open_45 : decode b_Mo_open 45 = .ok (.iaload, 1) := by decide +kernel
theorem d_Mo_open_46 : decode b_Mo_open 46 = .ok (.bipush 16, 2) := by decide +kernel
theorem d_Mo_open_48 : decode b_Mo_open 48 = .ok (.if_icmp .ne 100, 3) := by decide +kernel
theorem d_Mo_open_51 : decode b_Mo_open 51 = .ok (.bipush 16, 2) := by decide +kernel
theorem d_Mo_open_53 : decode b_Mo_open 53 = .ok (.iload_n 1, 1) := by decide +kernel
theorem d_Mo_open_54 : decode b_Mo_open 54 = .ok (.imul, 1) := by decide +kernel
theorem d_Mo_open_55 : decode b_Mo_open 55 = .ok (.istore_n 3, 1) := by decide +kernel
theorem d_Mo_open_56 : decode b_Mo_open 56 = .ok (.bipush 16, 2) := by decide +kernel
theorem d_Mo_open_58 : decode b_Mo_open 58 = .ok (.iload_n 1, 1) := by decide +kernel
theorem d_Mo_open_59 : decode b_Mo_open 59 = .ok (.imul, 1) := by decide +kernel
theorem d_Mo_open_60 : decode b_Mo_open 60 = .ok (.istore 4, 2) := by decide +kernel
theorem d_Mo_open_62 : decode b_Mo_open 62 = .ok (.iload 4, 2) := by decide +kernel
theorem d_Mo_open_64 : decode b_Mo_open 64 = .ok (.bipush 16, 2) := by decide +kernel
theorem d_Mo_open_66 : decode b_Mo_open 66 = .ok (.iload_n 1, 1) := by decide +kernel
theorem d_Mo_open_67 : decode b_Mo_open 67 = .ok (.imul, 1) := by decide +kernel
theorem d_Mo_open_68 : decode b_Mo_open 68 = .ok (.bipush 16, 2) := by decide +kernel
theorem d_Mo_open_70 : decode b_Mo_open 70 = .ok (.iadd, 1) := by decide +kernel
theorem d_Mo_open_71 : decode b_Mo_open 71 = .ok (.if_icmp .ge 32, 3) := by decide +kernel
theorem d_Mo_open_74 : decode b_Mo_open 74 = .ok (.aload_n 0, 1) := by decide +kernel
theorem d_Mo_open_75 : decode b_Mo_open 75 = .ok (.getfield 16, 3) := by decide +kernel
theorem d_Mo_open_78 : decode b_Mo_open 78 = .ok (.iload 4, 2) := by decide +kernel
theorem d_Mo_open_80 : decode b_Mo_open 80 = .ok (.iaload, 1) := by decide +kernel
theorem d_Mo_open_81 : decode b_Mo_open 81 = .ok (.aload_n 0, 1) := by decide +kernel
theorem d_Mo_open_82 : decode b_Mo_open 82 = .ok (.getfield 16, 3) := by decide +kernel
theorem d_Mo_open_85 : decode b_Mo_open 85 = .ok (.iload_n 3, 1) := by decide +kernel
theorem d_Mo_open_86 : decode b_Mo_open 86 = .ok (.iaload, 1) := by decide +kernel
theorem d_Mo_open_87 : decode b_Mo_open 87 = .ok (.if_icmp .ge 8, 3) := by decide +kernel
theorem d_Mo_open_90 : decode b_Mo_open 90 = .ok (.iload 4, 2) := by decide +kernel
theorem d_Mo_open_92 : decode b_Mo_open 92 = .ok (.goto 4, 3) := by decide +kernel
theorem d_Mo_open_95 : decode b_Mo_open 95 = .ok (.iload_n 3, 1) := by decide +kernel
theorem d_Mo_open_96 : decode b_Mo_open 96 = .ok (.istore_n 3, 1) := by decide +kernel
theorem d_Mo_open_97 : decode b_Mo_open 97 = .ok (.iinc 4 1, 3) := by decide +kernel
theorem d_Mo_open_100 : decode b_Mo_open 100 = .ok (.goto (-38), 3) := by decide +kernel
theorem d_Mo_open_103 : decode b_Mo_open 103 = .ok (.aload_n 0, 1) := by decide +kernel
theorem d_Mo_open_104 : decode b_Mo_open 104 = .ok (.getfield 7, 3) := by decide +kernel
theorem d_Mo_open_107 : decode b_Mo_open 107 = .ok (.iload_n 1, 1) := by decide +kernel
theorem d_Mo_open_108 : decode b_Mo_open 108 = .ok (.dup2, 1) := by decide +kernel
theorem d_Mo_open_109 : decode b_Mo_open 109 = .ok (.iaload, 1) := by decide +kernel
theorem d_Mo_open_110 : decode b_Mo_open 110 = .ok (.iconst 1, 1) := by decide +kernel
theorem d_Mo_open_111 : decode b_Mo_open 111 = .ok (.isub, 1) := by decide +kernel
theorem d_Mo_open_112 : decode b_Mo_open 112 = .ok (.iastore, 1) := by decide +kernel
theorem d_Mo_open_113 : decode b_Mo_open 113 = .ok (.iload_n 3, 1) := by decide +kernel
theorem d_Mo_open_114 : decode b_Mo_open 114 = .ok (.istore 4, 2) := by decide +kernel
theorem d_Mo_open_116 : decode b_Mo_open 116 = .ok (.iload 4, 2) := by decide +kernel
theorem d_Mo_open_118 : decode b_Mo_open 118 = .ok (.bipush 16, 2) := by decide +kernel
theorem d_Mo_open_120 : decode b_Mo_open 120 = .ok (.iload_n 1, 1) := by decide +kernel
theorem d_Mo_open_121 : decode b_Mo_open 121 = .ok (.imul, 1) := by decide +kernel
theorem d_Mo_open_122 : decode b_Mo_open 122 = .ok (.aload_n 0, 1) := by decide +kernel
theorem d_Mo_open_123 : decode b_Mo_open 123 = .ok (.getfield 7, 3) := by decide +kernel
theorem d_Mo_open_126 : decode b_Mo_open 126 = .ok (.iload_n 1, 1) := by decide +kernel
theorem d_Mo_open_127 : decode b_Mo_open 127 = .ok (.iaload, 1) := by decide +kernel
theorem d_Mo_open_128 : decode b_Mo_open 128 = .ok (.iadd, 1) := by decide +kernel
theorem d_Mo_open_129 : decode b_Mo_open 129 = .ok (.if_icmp .ge 19, 3) := by decide +kernel
theorem d_Mo_open_132 : decode b_Mo_open 132 = .ok (.aload_n 0, 1) := by decide +kernel
theorem d_Mo_open_133 : decode b_Mo_open 133 = .ok (.iload 4, 2) := by decide +kernel
theorem d_Mo_open_135 : decode b_Mo_open 135 = .ok (.iconst 1, 1) := by decide +kernel
theorem d_Mo_open_136 : decode b_Mo_open 136 = .ok (.iadd, 1) := by decide +kernel
theorem d_Mo_open_137 : decode b_Mo_open 137 = .ok (.iload 4, 2) := by decide +kernel
theorem d_Mo_open_139 : decode b_Mo_open 139 = .ok (.invokevirtual 131, 3) := by decide +kernel
theorem q_1040 : Cond.methodLink "TwinKeepersModel" 131 ⟨"TwinKeepersModel", "copySession", "(II)V"⟩ ∈ xT := xin 1040 (by decide +kernel) (by decide +kernel)
theorem d_Mo_open_142 : decode b_Mo_open 142 = .ok (.iinc 4 1, 3) := by decide +kernel
theorem d_Mo_open_145 : decode b_Mo_open 145 = .ok (.goto (-29), 3) := by decide +kernel
theorem d_Mo_open_148 : decode b_Mo_open 148 = .ok (.bipush 16, 2) := by decide +kernel
theorem d_Mo_open_150 : decode b_Mo_open 150 = .ok (.iload_n 1, 1) := by decide +kernel
theorem d_Mo_open_151 : decode b_Mo_open 151 = .ok (.imul, 1) := by decide +kernel
theorem d_Mo_open_152 : decode b_Mo_open 152 = .ok (.aload_n 0, 1) := by decide +kernel
theorem d_Mo_open_153 : decode b_Mo_open 153 = .ok (.getfield 7, 3) := by decide +kernel
theorem d_Mo_open_156 : decode b_Mo_open 156 = .ok (.iload_n 1, 1) := by decide +kernel
theorem d_Mo_open_157 : decode b_Mo_open 157 = .ok (.iaload, 1) := by decide +kernel
theorem d_Mo_open_158 : decode b_Mo_open 158 = .ok (.iadd, 1) := by decide +kernel
theorem d_Mo_open_159 : decode b_Mo_open 159 = .ok (.istore_n 3, 1) := by decide +kernel
theorem d_Mo_open_160 : decode b_Mo_open 160 = .ok (.aload_n 0, 1) := by decide +kernel
theorem d_Mo_open_161 : decode b_Mo_open 161 = .ok (.getfield 7, 3) := by decide +kernel
theorem d_Mo_open_164 : decode b_Mo_open 164 = .ok (.iload_n 1, 1) := by decide +kernel
theorem d_Mo_open_165 : decode b_Mo_open 165 = .ok (.dup2, 1) := by decide +kernel
theorem d_Mo_open_166 : decode b_Mo_open 166 = .ok (.iaload, 1) := by decide +kernel
theorem d_Mo_open_167 : decode b_Mo_open 167 = .ok (.iconst 1, 1) := by decide +kernel
theorem d_Mo_open_168 : decode b_Mo_open 168 = .ok (.iadd, 1) := by decide +kernel
theorem d_Mo_open_169 : decode b_Mo_open 169 = .ok (.iastore, 1) := by decide +kernel
theorem d_Mo_open_170 : decode b_Mo_open 170 = .ok (.aload_n 0, 1) := by decide +kernel
theorem d_Mo_open_171 : decode b_Mo_open 171 = .ok (.getfield 13, 3) := by decide +kernel
theorem d_Mo_open_174 : decode b_Mo_open 174 = .ok (.iload_n 3, 1) := by decide +kernel
theorem d_Mo_open_175 : decode b_Mo_open 175 = .ok (.iload_n 2, 1) := by decide +kernel
theorem d_Mo_open_176 : decode b_Mo_open 176 = .ok (.iastore, 1) := by decide +kernel
theorem d_Mo_open_177 : decode b_Mo_open 177 = .ok (.aload_n 0, 1) := by decide +kernel
theorem d_Mo_open_178 : decode b_Mo_open 178 = .ok (.getfield 16, 3) := by decide +kernel
theorem d_Mo_open_181 : decode b_Mo_open 181 = .ok (.iload_n 3, 1) := by decide +kernel
theorem d_Mo_open_182 : decode b_Mo_open 182 = .ok (.iload_n 2, 1) := by decide +kernel
theorem d_Mo_open_183 : decode b_Mo_open 183 = .ok (.iastore, 1) := by decide +kernel
theorem d_Mo_open_184 : decode b_Mo_open 184 = .ok (.aload_n 0, 1) := by decide +kernel
theorem d_Mo_open_185 : decode b_Mo_open 185 = .ok (.getfield 19, 3) := by decide +kernel
theorem d_Mo_open_188 : decode b_Mo_open 188 = .ok (.iload_n 3, 1) := by decide +kernel
theorem d_Mo_open_189 : decode b_Mo_open 189 = .ok (.iconst 0, 1) := by decide +kernel
theorem d_Mo_open_190 : decode b_Mo_open 190 = .ok (.iastore, 1) := by decide +kernel
theorem d_Mo_open_191 : decode b_Mo_open 191 = .ok (.aload_n 0, 1) := by decide +kernel
theorem d_Mo_open_192 : decode b_Mo_open 192 = .ok (.getfield 22, 3) := by decide +kernel
theorem d_Mo_open_195 : decode b_Mo_open 195 = .ok (.iload_n 3, 1) := by decide +kernel
theorem d_Mo_open_196 : decode b_Mo_open 196 = .ok (.iload_n 2, 1) := by decide +kernel
theorem d_Mo_open_197 : decode b_Mo_open 197 = .ok (.iastore, 1) := by decide +kernel
theorem d_Mo_open_198 : decode b_Mo_open 198 = .ok (.aload_n 0, 1) := by decide +kernel
theorem d_Mo_open_199 : decode b_Mo_open 199 = .ok (.getfield 25, 3) := by decide +kernel
theorem d_Mo_open_202 : decode b_Mo_open 202 = .ok (.iload_n 3, 1) := by decide +kernel
theorem d_Mo_open_203 : decode b_Mo_open 203 = .ok (.iconst 0, 1) := by decide +kernel
theorem d_Mo_open_204 : decode b_Mo_open 204 = .ok (.iastore, 1) := by decide +kernel
theorem d_Mo_open_205 : decode b_Mo_open 205 = .ok (.aload_n 0, 1) := by decide +kernel
theorem d_Mo_open_206 : decode b_Mo_open 206 = .ok (.iload_n 2, 1) := by decide +kernel
theorem d_Mo_open_207 : decode b_Mo_open 207 = .ok (.putfield 134, 3) := by decide +kernel
theorem q_960 : Cond.fieldLink "TwinKeepersModel" 134 "TwinKeepersModel" "place" "I" ∈ xT := xin 960 (by decide +kernel) (by decide +kernel)
theorem d_Mo_open_210 : decode b_Mo_open 210 = .ok (.aload_n 0, 1) := by decide +kernel
theorem d_Mo_open_211 : decode b_Mo_open 211 = .ok (.getfield 7, 3) := by decide +kernel
theorem d_Mo_open_214 : decode b_Mo_open 214 = .ok (.iload_n 1, 1) := by decide +kernel
theorem d_Mo_open_215 : decode b_Mo_open 215 = .ok (.iaload, 1) := by decide +kernel
theorem d_Mo_open_216 : decode b_Mo_open 216 = .ok (.ireturn, 1) := by decide +kernel
abbrev b_Mo_isMachine : ByteArray := prog_8_method_22_code
def y_Mo_isMachine : MethodName := ⟨"TwinKeepersModel", "isMachine", "(I)Z"⟩
theorem kc_Mo_isMachine : Cond.code y_Mo_isMachine b_Mo_isMachine 1 (some .boolean) ∈ xT := xin 1034 (by decide +kernel) (by decide +kernel)
theorem k_Mo_isMachine : xCode y_Mo_isMachine b_Mo_isMachine 1 (some .boolean) [] := Or.inl ⟨rfl, kc_Mo_isMachine⟩
theorem h_Mo_isMachine : plainFor y_Mo_isMachine = true ∧ (y_Mo_isMachine.cls ≠ "java/lang/invoke/MethodHandle" ∧ y_Mo_isMachine.cls ≠ "java/lang/invoke/VarHandle") ∧ (parseMethodDescriptor y_Mo_isMachine.desc).map (fun d => d.parameters.length) = some 1 := by decide +kernel
theorem s_Mo_isMachine : Cond.static y_Mo_isMachine ∈ xT := xin 1033 (by decide +kernel) (by decide +kernel)
theorem in_Mo_isMachine : Cond.initialized y_Mo_isMachine.cls ∈ xT := xin 8 (by decide +kernel) (by decide +kernel)
theorem d_Mo_isMachine_0 : decode b_Mo_isMachine 0 = .ok (.iload_n 0, 1) := by decide +kernel
theorem d_Mo_isMachine_1 : decode b_Mo_isMachine 1 = .ok (.ifCond .eq 8, 3) := by decide +kernel
theorem d_Mo_isMachine_4 : decode b_Mo_isMachine 4 = .ok (.iload_n 0, 1) := by decide +kernel
theorem d_Mo_isMachine_5 : decode b_Mo_isMachine 5 = .ok (.iconst 1, 1) := by decide +kernel
theorem d_Mo_isMachine_6 : decode b_Mo_isMachine 6 = .ok (.if_icmp .ne 7, 3) := by decide +kernel
theorem d_Mo_isMachine_9 : decode b_Mo_isMachine 9 = .ok (.iconst 1, 1) := by decide +kernel
theorem d_Mo_isMachine_10 : decode b_Mo_isMachine 10 = .ok (.goto 4, 3) := by decide +kernel
theorem d_Mo_isMachine_13 : decode b_Mo_isMachine 13 = .ok (.iconst 0, 1) := by decide +kernel
theorem d_Mo_isMachine_14 : decode b_Mo_isMachine 14 = .ok (.ireturn, 1) := by decide +kernel
abbrev b_Mo_isNext : ByteArray := prog_8_method_24_code
def y_Mo_isNext : MethodName := ⟨"TwinKeepersModel", "isNext", "(II)Z"⟩
theorem kc_Mo_isNext : Cond.code y_Mo_isNext b_Mo_isNext 3 (some .boolean) ∈ xT := xin 1038 (by decide +kernel) (by decide +kernel)
theorem k_Mo_isNext : xCode y_Mo_isNext b_Mo_isNext 3 (some .boolean) [] := Or.inl ⟨rfl, kc_Mo_isNext⟩
theorem h_Mo_isNext : plainFor y_Mo_isNext = true ∧ (y_Mo_isNext.cls ≠ "java/lang/invoke/MethodHandle" ∧ y_Mo_isNext.cls ≠ "java/lang/invoke/VarHandle") ∧ (parseMethodDescriptor y_Mo_isNext.desc).map (fun d => d.parameters.length) = some 2 := by decide +kernel
theorem v_Mo_isNext : Cond.instanceMethod y_Mo_isNext ∈ xT := xin 1037 (by decide +kernel) (by decide +kernel)
theorem e_Mo_isNext : Cond.selects "TwinKeepersModel" y_Mo_isNext y_Mo_isNext ∈ xT := xinp 19 (by decide +kernel) (by decide +kernel)
theorem d_Mo_isNext_0 : decode b_Mo_isNext 0 = .ok (.iload_n 2, 1) := by decide +kernel
theorem d_Mo_isNext_1 : decode b_Mo_isNext 1 = .ok (.aload_n 0, 1) := by decide +kernel
theorem d_Mo_isNext_2 : decode b_Mo_isNext 2 = .ok (.getfield 47, 3) := by decide +kernel
theorem d_Mo_isNext_5 : decode b_Mo_isNext 5 = .ok (.iload_n 1, 1) := by decide +kernel
theorem d_Mo_isNext_6 : decode b_Mo_isNext 6 = .ok (.iaload, 1) := by decide +kernel
theorem d_Mo_isNext_7 : decode b_Mo_isNext 7 = .ok (.if_icmp .le 13, 3) := by decide +kernel
theorem d_Mo_isNext_10 : decode b_Mo_isNext 10 = .ok (.iload_n 2, 1) := by decide +kernel
theorem d_Mo_isNext_11 : decode b_Mo_isNext 11 = .ok (.ldc 124, 2) := by decide +kernel
theorem q_1039 : Cond.constant "TwinKeepersModel" 124 (1000000) ∈ xT := xin 1039 (by decide +kernel) (by decide +kernel)
theorem d_Mo_isNext_13 : decode b_Mo_isNext 13 = .ok (.if_icmp .gt 7, 3) := by decide +kernel
theorem d_Mo_isNext_16 : decode b_Mo_isNext 16 = .ok (.iconst 1, 1) := by decide +kernel
theorem d_Mo_isNext_17 : decode b_Mo_isNext 17 = .ok (.goto 4, 3) := by decide +kernel
theorem d_Mo_isNext_20 : decode b_Mo_isNext 20 = .ok (.iconst 0, 1) := by decide +kernel
theorem d_Mo_isNext_21 : decode b_Mo_isNext 21 = .ok (.ireturn, 1) := by decide +kernel
abbrev b_Mo_copySession : ByteArray := prog_8_method_23_code
def y_Mo_copySession : MethodName := ⟨"TwinKeepersModel", "copySession", "(II)V"⟩
theorem kc_Mo_copySession : Cond.code y_Mo_copySession b_Mo_copySession 4 none ∈ xT := xin 1043 (by decide +kernel) (by decide +kernel)
theorem k_Mo_copySession : xCode y_Mo_copySession b_Mo_copySession 4 none [] := Or.inl ⟨rfl, kc_Mo_copySession⟩
theorem h_Mo_copySession : plainFor y_Mo_copySession = true ∧ (y_Mo_copySession.cls ≠ "java/lang/invoke/MethodHandle" ∧ y_Mo_copySession.cls ≠ "java/lang/invoke/VarHandle") ∧ (parseMethodDescriptor y_Mo_copySession.desc).map (fun d => d.parameters.length) = some 2 := by decide +kernel
theorem v_Mo_copySession : Cond.instanceMethod y_Mo_copySession ∈ xT := xin 1042 (by decide +kernel) (by decide +kernel)
theorem e_Mo_copySession : Cond.selects "TwinKeepersModel" y_Mo_copySession y_Mo_copySession ∈ xT := xinp 20 (by decide +kernel) (by decide +kernel)
theorem d_Mo_copySession_0 : decode b_Mo_copySession 0 = .ok (.aload_n 0, 1) := by decide +kernel
theorem d_Mo_copySession_1 : decode b_Mo_copySession 1 = .ok (.getfield 13, 3) := by decide +kernel
theorem d_Mo_copySession_4 : decode b_Mo_copySession 4 = .ok (.iload_n 2, 1) := by decide +kernel
theorem d_Mo_copySession_5 : decode b_Mo_copySession 5 = .ok (.aload_n 0, 1) := by decide +kernel
theorem d_Mo_copySession_6 : decode b_Mo_copySession 6 = .ok (.getfield 13, 3) := by decide +kernel
theorem d_Mo_copySession_9 : decode b_Mo_copySession 9 = .ok (.iload_n 1, 1) := by decide +kernel
theorem d_Mo_copySession_10 : decode b_Mo_copySession 10 = .ok (.iaload, 1) := by decide +kernel
theorem d_Mo_copySession_11 : decode b_Mo_copySession 11 = .ok (.iastore, 1) := by decide +kernel
theorem d_Mo_copySession_12 : decode b_Mo_copySession 12 = .ok (.aload_n 0, 1) := by decide +kernel
theorem d_Mo_copySession_13 : decode b_Mo_copySession 13 = .ok (.getfield 16, 3) := by decide +kernel
theorem d_Mo_copySession_16 : decode b_Mo_copySession 16 = .ok (.iload_n 2, 1) := by decide +kernel
theorem d_Mo_copySession_17 : decode b_Mo_copySession 17 = .ok (.aload_n 0, 1) := by decide +kernel
theorem d_Mo_copySession_18 : decode b_Mo_copySession 18 = .ok (.getfield 16, 3) := by decide +kernel
theorem d_Mo_copySession_21 : decode b_Mo_copySession 21 = .ok (.iload_n 1, 1) := by decide +kernel
theorem d_Mo_copySession_22 : decode b_Mo_copySession 22 = .ok (.iaload, 1) := by decide +kernel
theorem d_Mo_copySession_23 : decode b_Mo_copySession 23 = .ok (.iastore, 1) := by decide +kernel
theorem d_Mo_copySession_24 : decode b_Mo_copySession 24 = .ok (.aload_n 0, 1) := by decide +kernel
theorem d_Mo_copySession_25 : decode b_Mo_copySession 25 = .ok (.getfield 19, 3) := by decide +kernel
theorem d_Mo_copySession_28 : decode b_Mo_copySession 28 = .ok (.iload_n 2, 1) := by decide +kernel
theorem d_Mo_copySession_29 : decode b_Mo_copySession 29 = .ok (.aload_n 0, 1) := by decide +kernel
theorem d_Mo_copySession_30 : decode b_Mo_copySession 30 = .ok (.getfield 19, 3) := by decide +kernel
theorem d_Mo_copySession_33 : decode b_Mo_copySession 33 = .ok (.iload_n 1, 1) := by decide +kernel
theorem d_Mo_copySession_34 : decode b_Mo_copySession 34 = .ok (.iaload, 1) := by decide +kernel
theorem d_Mo_copySession_35 : decode b_Mo_copySession 35 = .ok (.iastore, 1) := by decide +kernel
theorem d_Mo_copySession_36 : decode b_Mo_copySession 36 = .ok (.aload_n 0, 1) := by decide +kernel
theorem d_Mo_copySession_37 : decode b_Mo_copySession 37 = .ok (.getfield 22, 3) := by decide +kernel
theorem d_Mo_copySession_40 : decode b_Mo_copySession 40 = .ok (.iload_n 2, 1) := by decide +kernel
theorem d_Mo_copySession_41 : decode b_Mo_copySession 41 = .ok (.aload_n 0, 1) := by decide +kernel
theorem d_Mo_copySession_42 : decode b_Mo_copySession 42 = .ok (.getfield 22, 3) := by decide +kernel
theorem d_Mo_copySession_45 : decode b_Mo_copySession 45 = .ok (.iload_n 1, 1) := by decide +kernel
theorem d_Mo_copySession_46 : decode b_Mo_copySession 46 = .ok (.iaload, 1) := by decide +kernel
theorem d_Mo_copySession_47 : decode b_Mo_copySession 47 = .ok (.iastore, 1) := by decide +kernel
theorem d_Mo_copySession_48 : decode b_Mo_copySession 48 = .ok (.aload_n 0, 1) := by decide +kernel
theorem d_Mo_copySession_49 : decode b_Mo_copySession 49 = .ok (.getfield 25, 3) := by decide +kernel
theorem d_Mo_copySession_52 : decode b_Mo_copySession 52 = .ok (.iload_n 2, 1) := by decide +kernel
theorem d_Mo_copySession_53 : decode b_Mo_copySession 53 = .ok (.aload_n 0, 1) := by decide +kernel
theorem d_Mo_copySession_54 : decode b_Mo_copySession 54 = .ok (.getfield 25, 3) := by decide +kernel
theorem d_Mo_copySession_57 : decode b_Mo_copySession 57 = .ok (.iload_n 1, 1) := by decide +kernel
theorem d_Mo_copySession_58 : decode b_Mo_copySession 58 = .ok (.iaload, 1) := by decide +kernel
theorem d_Mo_copySession_59 : decode b_Mo_copySession 59 = .ok (.iastore, 1) := by decide +kernel
theorem d_Mo_copySession_60 : decode b_Mo_copySession 60 = .ok (.iconst 0, 1) := by decide +kernel
theorem d_Mo_copySession_61 : decode b_Mo_copySession 61 = .ok (.istore_n 3, 1) := by decide +kernel
theorem d_Mo_copySession_62 : decode b_Mo_copySession 62 = .ok (.iload_n 3, 1) := by decide +kernel
theorem d_Mo_copySession_63 : decode b_Mo_copySession 63 = .ok (.aload_n 0, 1) := by decide +kernel
theorem d_Mo_copySession_64 : decode b_Mo_copySession 64 = .ok (.getfield 25, 3) := by decide +kernel
theorem d_Mo_copySession_67 : decode b_Mo_copySession 67 = .ok (.iload_n 1, 1) := by decide +kernel
theorem d_Mo_copySession_68 : decode b_Mo_copySession 68 = .ok (.iaload, 1) := by decide +kernel
theorem d_Mo_copySession_69 : decode b_Mo_copySession 69 = .ok (.if_icmp .ge 31, 3) := by decide +kernel
theorem d_Mo_copySession_72 : decode b_Mo_copySession 72 = .ok (.aload_n 0, 1) := by decide +kernel
theorem d_Mo_copySession_73 : decode b_Mo_copySession 73 = .ok (.getfield 28, 3) := by decide +kernel
theorem d_Mo_copySession_76 : decode b_Mo_copySession 76 = .ok (.bipush 104, 2) := by decide +kernel
theorem d_Mo_copySession_78 : decode b_Mo_copySession 78 = .ok (.iload_n 2, 1) := by decide +kernel
theorem d_Mo_copySession_79 : decode b_Mo_copySession 79 = .ok (.imul, 1) := by decide +kernel
theorem d_Mo_copySession_80 : decode b_Mo_copySession 80 = .ok (.iload_n 3, 1) := by decide +kernel
theorem d_Mo_copySession_81 : decode b_Mo_copySession 81 = .ok (.iadd, 1) := by decide +kernel
theorem d_Mo_copySession_82 : decode b_Mo_copySession 82 = .ok (.aload_n 0, 1) := by decide +kernel
theorem d_Mo_copySession_83 : decode b_Mo_copySession 83 = .ok (.getfield 28, 3) := by decide +kernel
theorem d_Mo_copySession_86 : decode b_Mo_copySession 86 = .ok (.bipush 104, 2) := by decide +kernel
theorem d_Mo_copySession_88 : decode b_Mo_copySession 88 = .ok (.iload_n 1, 1) := by decide +kernel
theorem d_Mo_copySession_89 : decode b_Mo_copySession 89 = .ok (.imul, 1) := by decide +kernel
theorem d_Mo_copySession_90 : decode b_Mo_copySession 90 = .ok (.iload_n 3, 1) := by decide +kernel
theorem d_Mo_copySession_91 : decode b_Mo_copySession 91 = .ok (.iadd, 1) := by decide +kernel
theorem d_Mo_copySession_92 : decode b_Mo_copySession 92 = .ok (.iaload, 1) := by decide +kernel
theorem d_Mo_copySession_93 : decode b_Mo_copySession 93 = .ok (.iastore, 1) := by decide +kernel
theorem d_Mo_copySession_94 : decode b_Mo_copySession 94 = .ok (.iinc 3 1, 3) := by decide +kernel
theorem d_Mo_copySession_97 : decode b_Mo_copySession 97 = .ok (.goto (-35), 3) := by decide +kernel
theorem d_Mo_copySession_100 : decode b_Mo_copySession 100 = .ok (.return_, 1) := by decide +kernel
abbrev b_Mo_run : ByteArray := prog_8_method_30_code
def y_Mo_run : MethodName := ⟨"TwinKeepersModel", "run", "(IIIII)I"⟩
theorem kc_Mo_run : Cond.code y_Mo_run b_Mo_run 12 (some .int) ∈ xT := xin 1047 (by decide +kernel) (by decide +kernel)
theorem k_Mo_run : xCode y_Mo_run b_Mo_run 12 (some .int) [] := Or.inl ⟨rfl, kc_Mo_run⟩
theorem h_Mo_run : plainFor y_Mo_run = true ∧ (y_Mo_run.cls ≠ "java/lang/invoke/MethodHandle" ∧ y_Mo_run.cls ≠ "java/lang/invoke/VarHandle") ∧ (parseMethodDescriptor y_Mo_run.desc).map (fun d => d.parameters.length) = some 5 := by decide +kernel
theorem v_Mo_run : Cond.instanceMethod y_Mo_run ∈ xT := xin 1045 (by decide +kernel) (by decide +kernel)
theorem e_Mo_run : Cond.selects "TwinKeepersModel" y_Mo_run y_Mo_run ∈ xT := xin 1046 (by decide +kernel) (by decide +kernel)
theorem d_Mo_run_0 : decode b_Mo_run 0 = .ok (.aload_n 0, 1) := by decide +kernel
theorem d_Mo_run_1 : decode b_Mo_run 1 = .ok (.iconst 0, 1) := by decide +kernel
theorem d_Mo_run_2 : decode b_Mo_run 2 = .ok (.putfield 62, 3) := by decide +kernel
theorem d_Mo_run_5 : decode b_Mo_run 5 = .ok (.aload_n 0, 1) := by decide +kernel
theorem d_Mo_run_6 : decode b_Mo_run 6 = .ok (.getfield 74, 3) := by decide +kernel
theorem d_Mo_run_9 : decode b_Mo_run 9 = .ok (.istore 6, 2) := by decide +kernel
theorem d_Mo_run_11 : decode b_Mo_run 11 = .ok (.aload_n 0, 1) := by decide +kernel
theorem d_Mo_run_12 : decode b_Mo_run 12 = .ok (.iconst 0, 1) := by decide +kernel
theorem d_Mo_run_13 : decode b_Mo_run 13 = .ok (.putfield 74, 3) := by decide +kernel
theorem d_Mo_run_16 : decode b_Mo_run 16 = .ok (.iload_n 1, 1) := by decide +kernel
theorem d_Mo_run_17 : decode b_Mo_run 17 = .ok (.invokestatic 125, 3) := by decide +kernel
theorem d_Mo_run_20 : decode b_Mo_run 20 = .ok (.ifCond .ne 9, 3) := by decide +kernel
theorem d_Mo_run_23 : decode b_Mo_run 23 = .ok (.aload_n 0, 1) := by decide +kernel
theorem d_Mo_run_24 : decode b_Mo_run 24 = .ok (.iconst 1, 1) := by decide +kernel
theorem d_Mo_run_25 : decode b_Mo_run 25 = .ok (.invokevirtual 70, 3) := by decide +kernel
theorem d_Mo_run_28 : decode b_Mo_run 28 = .ok (.ireturn, 1) := by decide +kernel
theorem d_Mo_run_29 : decode b_Mo_run 29 = .ok (.iload 5, 2) := by decide +kernel
theorem d_Mo_run_31 : decode b_Mo_run 31 = .ok (.bipush 7, 2) := by decide +kernel
theorem d_Mo_run_33 : decode b_Mo_run 33 = .ok (.iand, 1) := by decide +kernel
theorem d_Mo_run_34 : decode b_Mo_run 34 = .ok (.istore 7, 2) := by decide +kernel
theorem d_Mo_run_36 : decode b_Mo_run 36 = .ok (.iload 5, 2) := by decide +kernel
theorem d_Mo_run_38 : decode b_Mo_run 38 = .ok (.iconst 3, 1) := by decide +kernel
theorem d_Mo_run_39 : decode b_Mo_run 39 = .ok (.ishr, 1) := by decide +kernel
theorem d_Mo_run_40 : decode b_Mo_run 40 = .ok (.bipush 63, 2) := by decide +kernel
theorem d_Mo_run_42 : decode b_Mo_run 42 = .ok (.iand, 1) := by decide +kernel
theorem d_Mo_run_43 : decode b_Mo_run 43 = .ok (.istore 8, 2) := by decide +kernel
theorem d_Mo_run_45 : decode b_Mo_run 45 = .ok (.iload 5, 2) := by decide +kernel
theorem d_Mo_run_47 : decode b_Mo_run 47 = .ok (.bipush 9, 2) := by decide +kernel
theorem d_Mo_run_49 : decode b_Mo_run 49 = .ok (.ishr, 1) := by decide +kernel
theorem d_Mo_run_50 : decode b_Mo_run 50 = .ok (.istore 9, 2) := by decide +kernel
theorem d_Mo_run_52 : decode b_Mo_run 52 = .ok (.aload_n 0, 1) := by decide +kernel
theorem d_Mo_run_53 : decode b_Mo_run 53 = .ok (.iload_n 1, 1) := by decide +kernel
theorem d_Mo_run_54 : decode b_Mo_run 54 = .ok (.iload_n 2, 1) := by decide +kernel
theorem d_Mo_run_55 : decode b_Mo_run 55 = .ok (.invokevirtual 128, 3) := by decide +kernel
theorem d_Mo_run_58 : decode b_Mo_run 58 = .ok (.ifCond .eq 33, 3) := by decide +kernel
theorem d_Mo_run_61 : decode b_Mo_run 61 = .ok (.iload 4, 2) := by decide +kernel
theorem d_Mo_run_63 : decode b_Mo_run 63 = .ok (.ifCond .lt 28, 3) := by decide +kernel
theorem d_Mo_run_66 : decode b_Mo_run 66 = .ok (.iload 5, 2) := by decide +kernel
theorem d_Mo_run_68 : decode b_Mo_run 68 = .ok (.ifCond .lt 23, 3) := by decide +kernel
theorem d_Mo_run_71 : decode b_Mo_run 71 = .ok (.iload 7, 2) := by decide +kernel
theorem d_Mo_run_73 : decode b_Mo_run 73 = .ok (.iconst 2, 1) := by decide +kernel
theorem d_Mo_run_74 : decode b_Mo_run 74 = .ok (.if_icmp .gt 17, 3) := by decide +kernel
theorem d_Mo_run_77 : decode b_Mo_run 77 = .ok (.iload 7, 2) := by decide +kernel
theorem d_Mo_run_79 : decode b_Mo_run 79 = .ok (.iload 8, 2) := by decide +kernel
theorem d_Mo_run_81 : decode b_Mo_run 81 = .ok (.iload 9, 2) := by decide +kernel
theorem d_Mo_run_83 : decode b_Mo_run 83 = .ok (.iload 6, 2) := by decide +kernel
theorem d_Mo_run_85 : decode b_Mo_run 85 = .ok (.invokestatic 145, 3) := by decide +kernel
theorem q_1048 : Cond.methodLink "TwinKeepersModel" 145 ⟨"TwinKeepersModel", "fits", "(IIII)Z"⟩ ∈ xT := xin 1048 (by decide +kernel) (by decide +kernel)
theorem d_Mo_run_88 : decode b_Mo_run 88 = .ok (.ifCond .ne 9, 3) := by decide +kernel
theorem d_Mo_run_91 : decode b_Mo_run 91 = .ok (.aload_n 0, 1) := by decide +kernel
theorem d_Mo_run_92 : decode b_Mo_run 92 = .ok (.iconst 2, 1) := by decide +kernel
theorem d_Mo_run_93 : decode b_Mo_run 93 = .ok (.invokevirtual 70, 3) := by decide +kernel
theorem d_Mo_run_96 : decode b_Mo_run 96 = .ok (.ireturn, 1) := by decide +kernel
theorem d_Mo_run_97 : decode b_Mo_run 97 = .ok (.aload_n 0, 1) := by decide +kernel
theorem d_Mo_run_98 : decode b_Mo_run 98 = .ok (.getfield 47, 3) := by decide +kernel
theorem d_Mo_run_101 : decode b_Mo_run 101 = .ok (.iload_n 1, 1) := by decide +kernel
theorem d_Mo_run_102 : decode b_Mo_run 102 = .ok (.iload_n 2, 1) := by decide +kernel
theorem d_Mo_run_103 : decode b_Mo_run 103 = .ok (.iastore, 1) := by decide +kernel
theorem d_Mo_run_104 : decode b_Mo_run 104 = .ok (.aload_n 0, 1) := by decide +kernel
theorem d_Mo_run_105 : decode b_Mo_run 105 = .ok (.iload_n 2, 1) := by decide +kernel
theorem d_Mo_run_106 : decode b_Mo_run 106 = .ok (.putfield 134, 3) := by decide +kernel
theorem d_Mo_run_109 : decode b_Mo_run 109 = .ok (.aload_n 0, 1) := by decide +kernel
theorem d_Mo_run_110 : decode b_Mo_run 110 = .ok (.iconst 0, 1) := by decide +kernel
theorem d_Mo_run_111 : decode b_Mo_run 111 = .ok (.putfield 89, 3) := by decide +kernel
theorem q_958 : Cond.fieldLink "TwinKeepersModel" 89 "TwinKeepersModel" "told" "I" ∈ xT := xin 958 (by decide +kernel) (by decide +kernel)
theorem d_Mo_run_114 : decode b_Mo_run 114 = .ok (.aload_n 0, 1) := by decide +kernel
theorem d_Mo_run_115 : decode b_Mo_run 115 = .ok (.iload_n 1, 1) := by decide +kernel
theorem d_Mo_run_116 : decode b_Mo_run 116 = .ok (.iload_n 3, 1) := by decide +kernel
theorem d_Mo_run_117 : decode b_Mo_run 117 = .ok (.invokevirtual 149, 3) := by decide +kernel
theorem q_1051 : Cond.methodLink "TwinKeepersModel" 149 ⟨"TwinKeepersModel", "find", "(II)I"⟩ ∈ xT := xin 1051 (by decide +kernel) (by decide +kernel)
theorem d_Mo_run_120 : decode b_Mo_run 120 = .ok (.istore 10, 2) := by decide +kernel
theorem d_Mo_run_122 : decode b_Mo_run 122 = .ok (.iload 10, 2) := by decide +kernel
theorem d_Mo_run_124 : decode b_Mo_run 124 = .ok (.ifCond .ge 9, 3) := by decide +kernel
theorem d_Mo_run_127 : decode b_Mo_run 127 = .ok (.aload_n 0, 1) := by decide +kernel
theorem d_Mo_run_128 : decode b_Mo_run 128 = .ok (.invokevirtual 152, 3) := by decide +kernel
theorem q_1055 : Cond.methodLink "TwinKeepersModel" 152 ⟨"TwinKeepersModel", "show", "()V"⟩ ∈ xT := xin 1055 (by decide +kernel) (by decide +kernel)
theorem d_Mo_run_131 : decode b_Mo_run 131 = .ok (.iconst 2, 1) := by decide +kernel
theorem d_Mo_run_132 : decode b_Mo_run 132 = .ok (.ireturn, 1) := by decide +kernel
theorem d_Mo_run_133 : decode b_Mo_run 133 = .ok (.aload_n 0, 1) := by decide +kernel
theorem d_Mo_run_134 : decode b_Mo_run 134 = .ok (.getfield 16, 3) := by decide +kernel
theorem d_Mo_run_137 : decode b_Mo_run 137 = .ok (.iload 10, 2) := by decide +kernel
theorem d_Mo_run_139 : decode b_Mo_run 139 = .ok (.iload_n 2, 1) := by decide +kernel
theorem d_Mo_run_140 : decode b_Mo_run 140 = .ok (.iastore, 1) := by decide +kernel
theorem d_Mo_run_141 : decode b_Mo_run 141 = .ok (.iload 4, 2) := by decide +kernel
theorem d_Mo_run_143 : decode b_Mo_run 143 = .ok (.aload_n 0, 1) := by decide +kernel
theorem d_Mo_run_144 : decode b_Mo_run 144 = .ok (.getfield 19, 3) := by decide +kernel
theorem d_Mo_run_147 : decode b_Mo_run 147 = .ok (.iload 10, 2) := by decide +kernel
theorem d_Mo_run_149 : decode b_Mo_run 149 = .ok (.iaload, 1) := by decide +kernel
theorem d_Mo_run_150 : decode b_Mo_run 150 = .ok (.if_icmp .ge 9, 3) := by decide +kernel
theorem d_Mo_run_153 : decode b_Mo_run 153 = .ok (.aload_n 0, 1) := by decide +kernel
theorem d_Mo_run_154 : decode b_Mo_run 154 = .ok (.invokevirtual 152, 3) := by decide +kernel
theorem d_Mo_run_157 : decode b_Mo_run 157 = .ok (.iconst 3, 1) := by decide +kernel
theorem d_Mo_run_158 : decode b_Mo_run 158 = .ok (.ireturn, 1) := by decide +kernel
theorem d_Mo_run_159 : decode b_Mo_run 159 = .ok (.iload 4, 2) := by decide +kernel
theorem d_Mo_run_161 : decode b_Mo_run 161 = .ok (.aload_n 0, 1) := by decide +kernel
theorem d_Mo_run_162 : decode b_Mo_run 162 = .ok (.getfield 19, 3) := by decide +kernel
theorem d_Mo_run_165 : decode b_Mo_run 165 = .ok (.iload 10, 2) := by decide +kernel
theorem d_Mo_run_167 : decode b_Mo_run 167 = .ok (.iaload, 1) := by decide +kernel
theorem d_Mo_run_168 : decode b_Mo_run 168 = .ok (.if_icmp .ne 58, 3) := by decide +kernel
theorem d_Mo_run_171 : decode b_Mo_run 171 = .ok (.aload_n 0, 1) := by decide +kernel
theorem d_Mo_run_172 : decode b_Mo_run 172 = .ok (.aload_n 0, 1) := by decide +kernel
theorem d_Mo_run_173 : decode b_Mo_run 173 = .ok (.getfield 22, 3) := by decide +kernel
theorem d_Mo_run_176 : decode b_Mo_run 176 = .ok (.iload 10, 2) := by decide +kernel
theorem d_Mo_run_178 : decode b_Mo_run 178 = .ok (.iaload, 1) := by decide +kernel
theorem d_Mo_run_179 : decode b_Mo_run 179 = .ok (.putfield 134, 3) := by decide +kernel
theorem d_Mo_run_182 : decode b_Mo_run 182 = .ok (.iconst 0, 1) := by decide +kernel
theorem d_Mo_run_183 : decode b_Mo_run 183 = .ok (.istore 11, 2) := by decide +kernel
theorem d_Mo_run_185 : decode b_Mo_run 185 = .ok (.iload 11, 2) := by decide +kernel
theorem d_Mo_run_187 : decode b_Mo_run 187 = .ok (.aload_n 0, 1) := by decide +kernel
theorem d_Mo_run_188 : decode b_Mo_run 188 = .ok (.getfield 25, 3) := by decide +kernel
theorem d_Mo_run_191 : decode b_Mo_run 191 = .ok (.iload 10, 2) := by decide +kernel
theorem d_Mo_run_193 : decode b_Mo_run 193 = .ok (.iaload, 1) := by decide +kernel
theorem d_Mo_run_194 : decode b_Mo_run 194 = .ok (.if_icmp .ge 26, 3) := by decide +kernel
theorem d_Mo_run_197 : decode b_Mo_run 197 = .ok (.aload_n 0, 1) := by decide +kernel
theorem d_Mo_run_198 : decode b_Mo_run 198 = .ok (.aload_n 0, 1) := by decide +kernel
theorem d_Mo_run_199 : decode b_Mo_run 199 = .ok (.getfield 28, 3) := by decide +kernel
theorem d_Mo_run_202 : decode b_Mo_run 202 = .ok (.bipush 104, 2) := by decide +kernel
theorem d_Mo_run_204 : decode b_Mo_run 204 = .ok (.iload 10, 2) := by decide +kernel
theorem d_Mo_run_206 : decode b_Mo_run 206 = .ok (.imul, 1) := by decide +kernel
theorem d_Mo_run_207 : decode b_Mo_run 207 = .ok (.iload 11, 2) := by decide +kernel
theorem d_Mo_run_209 : decode b_Mo_run 209 = .ok (.iadd, 1) := by decide +kernel
theorem d_Mo_run_210 : decode b_Mo_run 210 = .ok (.iaload, 1) := by decide +kernel
theorem d_Mo_run_211 : decode b_Mo_run 211 = .ok (.invokevirtual 96, 3) := by decide +kernel
theorem q_1064 : Cond.methodLink "TwinKeepersModel" 96 ⟨"TwinKeepersModel", "tell", "(I)V"⟩ ∈ xT := xin 1064 (by decide +kernel) (by decide +kernel)
theorem d_Mo_run_214 : decode b_Mo_run 214 = .ok (.iinc 11 1, 3) := by decide +kernel
theorem d_Mo_run_217 : decode b_Mo_run 217 = .ok (.goto (-32), 3) := by decide +kernel
theorem d_Mo_run_220 : decode b_Mo_run 220 = .ok (.aload_n 0, 1) := by decide +kernel
theorem d_Mo_run_221 : decode b_Mo_run 221 = .ok (.invokevirtual 152, 3) := by decide +kernel
theorem d_Mo_run_224 : decode b_Mo_run 224 = .ok (.iconst 1, 1) := by decide +kernel
theorem d_Mo_run_225 : decode b_Mo_run 225 = .ok (.ireturn, 1) := by decide +kernel
theorem d_Mo_run_226 : decode b_Mo_run 226 = .ok (.aload_n 0, 1) := by decide +kernel
theorem d_Mo_run_227 : decode b_Mo_run 227 = .ok (.iconst 0, 1) := by decide +kernel
theorem d_Mo_run_228 : decode b_Mo_run 228 = .ok (.iload 8, 2) := by decide +kernel
theorem d_Mo_run_230 : decode b_Mo_run 230 = .ok (.invokevirtual 155, 3) := by decide +kernel
theorem q_1068 : Cond.methodLink "TwinKeepersModel" 155 ⟨"TwinKeepersModel", "seek", "(II)V"⟩ ∈ xT := xin 1068 (by decide +kernel) (by decide +kernel)
theorem d_Mo_run_233 : decode b_Mo_run 233 = .ok (.iload 7, 2) := by decide +kernel
theorem d_Mo_run_235 : decode b_Mo_run 235 = .ok (.ifCond .ne 18, 3) := by decide +kernel
theorem d_Mo_run_238 : decode b_Mo_run 238 = .ok (.aload_n 0, 1) := by decide +kernel
theorem d_Mo_run_239 : decode b_Mo_run 239 = .ok (.iload_n 1, 1) := by decide +kernel
theorem d_Mo_run_240 : decode b_Mo_run 240 = .ok (.iload 8, 2) := by decide +kernel
theorem d_Mo_run_242 : decode b_Mo_run 242 = .ok (.iload 6, 2) := by decide +kernel
theorem d_Mo_run_244 : decode b_Mo_run 244 = .ok (.iload 8, 2) := by decide +kernel
theorem d_Mo_run_246 : decode b_Mo_run 246 = .ok (.isub, 1) := by decide +kernel
theorem d_Mo_run_247 : decode b_Mo_run 247 = .ok (.invokevirtual 158, 3) := by decide +kernel
theorem q_1072 : Cond.methodLink "TwinKeepersModel" 158 ⟨"TwinKeepersModel", "doPut", "(III)V"⟩ ∈ xT := xin 1072 (by decide +kernel) (by decide +kernel)
theorem d_Mo_run_250 : decode b_Mo_run 250 = .ok (.goto 34, 3) := by decide +kernel
theorem d_Mo_run_253 : decode b_Mo_run 253 = .ok (.iload 7, 2) := by decide +kernel
theorem d_Mo_run_255 : decode b_Mo_run 255 = .ok (.iconst 1, 1) := by decide +kernel
theorem d_Mo_run_256 : decode b_Mo_run 256 = .ok (.if_icmp .ne 23, 3) := by decide +kernel
theorem d_Mo_run_259 : decode b_Mo_run 259 = .ok (.aload_n 0, 1) := by decide +kernel
theorem d_Mo_run_260 : decode b_Mo_run 260 = .ok (.iload_n 1, 1) := by decide +kernel
theorem d_Mo_run_261 : decode b_Mo_run 261 = .ok (.iload 8, 2) := by decide +kernel
theorem d_Mo_run_263 : decode b_Mo_run 263 = .ok (.iload 9, 2) := by decide +kernel
theorem d_Mo_run_265 : decode b_Mo_run 265 = .ok (.iload 6, 2) := by decide +kernel
theorem d_Mo_run_267 : decode b_Mo_run 267 = .ok (.iload 8, 2) := by decide +kernel
theorem d_Mo_run_269 : decode b_Mo_run 269 = .ok (.isub, 1) := by decide +kernel
theorem d_Mo_run_270 : decode b_Mo_run 270 = .ok (.iload 9, 2) := by decide +kernel
theorem d_Mo_run_272 : decode b_Mo_run 272 = .ok (.isub, 1) := by decide +kernel
theorem d_Mo_run_273 : decode b_Mo_run 273 = .ok (.invokevirtual 161, 3) := by decide +kernel
theorem q_1115 : Cond.methodLink "TwinKeepersModel" 161 ⟨"TwinKeepersModel", "doSwap", "(IIII)V"⟩ ∈ xT := xin 1115 (by decide +kernel) (by decide +kernel)
theorem d_Mo_run_276 : decode b_Mo_run 276 = .ok (.goto 8, 3) := by decide +kernel
theorem d_Mo_run_279 : decode b_Mo_run 279 = .ok (.aload_n 0, 1) := by decide +kernel
theorem d_Mo_run_280 : decode b_Mo_run 280 = .ok (.iload_n 1, 1) := by decide +kernel
theorem d_Mo_run_281 : decode b_Mo_run 281 = .ok (.invokevirtual 165, 3) := by decide +kernel
theorem q_1119 : Cond.methodLink "TwinKeepersModel" 165 ⟨"TwinKeepersModel", "doRemove", "(I)V"⟩ ∈ xT := xin 1119 (by decide +kernel) (by decide +kernel)
theorem d_Mo_run_284 : decode b_Mo_run 284 = .ok (.aload_n 0, 1) := by decide +kernel
theorem d_Mo_run_285 : decode b_Mo_run 285 = .ok (.getfield 19, 3) := by decide +kernel
theorem d_Mo_run_288 : decode b_Mo_run 288 = .ok (.iload 10, 2) := by decide +kernel
theorem d_Mo_run_290 : decode b_Mo_run 290 = .ok (.iload 4, 2) := by decide +kernel
theorem d_Mo_run_292 : decode b_Mo_run 292 = .ok (.iastore, 1) := by decide +kernel
theorem d_Mo_run_293 : decode b_Mo_run 293 = .ok (.aload_n 0, 1) := by decide +kernel
theorem d_Mo_run_294 : decode b_Mo_run 294 = .ok (.getfield 22, 3) := by decide +kernel
theorem d_Mo_run_297 : decode b_Mo_run 297 = .ok (.iload 10, 2) := by decide +kernel
theorem d_Mo_run_299 : decode b_Mo_run 299 = .ok (.iload_n 2, 1) := by decide +kernel
theorem d_Mo_run_300 : decode b_Mo_run 300 = .ok (.iastore, 1) := by decide +kernel
theorem d_Mo_run_301 : decode b_Mo_run 301 = .ok (.aload_n 0, 1) := by decide +kernel
theorem d_Mo_run_302 : decode b_Mo_run 302 = .ok (.getfield 25, 3) := by decide +kernel
theorem d_Mo_run_305 : decode b_Mo_run 305 = .ok (.iload 10, 2) := by decide +kernel
theorem d_Mo_run_307 : decode b_Mo_run 307 = .ok (.aload_n 0, 1) := by decide +kernel
theorem d_Mo_run_308 : decode b_Mo_run 308 = .ok (.getfield 89, 3) := by decide +kernel
theorem d_Mo_run_311 : decode b_Mo_run 311 = .ok (.iastore, 1) := by decide +kernel
theorem d_Mo_run_312 : decode b_Mo_run 312 = .ok (.iconst 0, 1) := by decide +kernel
theorem d_Mo_run_313 : decode b_Mo_run 313 = .ok (.istore 11, 2) := by decide +kernel
theorem d_Mo_run_315 : decode b_Mo_run 315 = .ok (.iload 11, 2) := by decide +kernel
theorem d_Mo_run_317 : decode b_Mo_run 317 = .ok (.aload_n 0, 1) := by decide +kernel
theorem d_Mo_run_318 : decode b_Mo_run 318 = .ok (.getfield 89, 3) := by decide +kernel
theorem d_Mo_run_321 : decode b_Mo_run 321 = .ok (.if_icmp .ge 29, 3) := by decide +kernel
theorem d_Mo_run_324 : decode b_Mo_run 324 = .ok (.aload_n 0, 1) := by decide +kernel
theorem d_Mo_run_325 : decode b_Mo_run 325 = .ok (.getfield 28, 3) := by decide +kernel
theorem d_Mo_run_328 : decode b_Mo_run 328 = .ok (.bipush 104, 2) := by decide +kernel
theorem d_Mo_run_330 : decode b_Mo_run 330 = .ok (.iload 10, 2) := by decide +kernel
theorem d_Mo_run_332 : decode b_Mo_run 332 = .ok (.imul, 1) := by decide +kernel
theorem d_Mo_run_333 : decode b_Mo_run 333 = .ok (.iload 11, 2) := by decide +kernel
theorem d_Mo_run_335 : decode b_Mo_run 335 = .ok (.iadd, 1) := by decide +kernel
theorem d_Mo_run_336 : decode b_Mo_run 336 = .ok (.aload_n 0, 1) := by decide +kernel
theorem d_Mo_run_337 : decode b_Mo_run 337 = .ok (.getfield 56, 3) := by decide +kernel
theorem d_Mo_run_340 : decode b_Mo_run 340 = .ok (.iload 11, 2) := by decide +kernel
theorem d_Mo_run_342 : decode b_Mo_run 342 = .ok (.iaload, 1) := by decide +kernel
theorem d_Mo_run_343 : decode b_Mo_run 343 = .ok (.iastore, 1) := by decide +kernel
theorem d_Mo_run_344 : decode b_Mo_run 344 = .ok (.iinc 11 1, 3) := by decide +kernel
theorem d_Mo_run_347 : decode b_Mo_run 347 = .ok (.goto (-32), 3) := by decide +kernel
theorem d_Mo_run_350 : decode b_Mo_run 350 = .ok (.aload_n 0, 1) := by decide +kernel
theorem d_Mo_run_351 : decode b_Mo_run 351 = .ok (.invokevirtual 152, 3) := by decide +kernel
theorem d_Mo_run_354 : decode b_Mo_run 354 = .ok (.iconst 0, 1) := by decide +kernel
theorem d_Mo_run_355 : decode b_Mo_run 355 = .ok (.ireturn, 1) := by decide +kernel
abbrev b_Mo_fits : ByteArray := prog_8_method_27_code
def y_Mo_fits : MethodName := ⟨"TwinKeepersModel", "fits", "(IIII)Z"⟩
theorem kc_Mo_fits : Cond.code y_Mo_fits b_Mo_fits 5 (some .boolean) ∈ xT := xin 1050 (by decide +kernel) (by decide +kernel)
theorem k_Mo_fits : xCode y_Mo_fits b_Mo_fits 5 (some .boolean) [] := Or.inl ⟨rfl, kc_Mo_fits⟩
theorem h_Mo_fits : plainFor y_Mo_fits = true ∧ (y_Mo_fits.cls ≠ "java/lang/invoke/MethodHandle" ∧ y_Mo_fits.cls ≠ "java/lang/invoke/VarHandle") ∧ (parseMethodDescriptor y_Mo_fits.desc).map (fun d => d.parameters.length) = some 4 := by decide +kernel
theorem s_Mo_fits : Cond.static y_Mo_fits ∈ xT := xin 1049 (by decide +kernel) (by decide +kernel)
theorem in_Mo_fits : Cond.initialized y_Mo_fits.cls ∈ xT := xin 8 (by decide +kernel) (by decide +kernel)
theorem d_Mo_fits_0 : decode b_Mo_fits 0 = .ok (.iload_n 3, 1) := by decide +kernel
theorem d_Mo_fits_1 : decode b_Mo_fits 1 = .ok (.iload_n 1, 1) := by decide +kernel
theorem d_Mo_fits_2 : decode b_Mo_fits 2 = .ok (.isub, 1) := by decide +kernel
theorem d_Mo_fits_3 : decode b_Mo_fits 3 = .ok (.iload_n 2, 1) := by decide +kernel
theorem d_Mo_fits_4 : decode b_Mo_fits 4 = .ok (.isub, 1) := by decide +kernel
theorem d_Mo_fits_5 : decode b_Mo_fits 5 = .ok (.istore 4, 2) := by decide +kernel
theorem d_Mo_fits_7 : decode b_Mo_fits 7 = .ok (.iload_n 1, 1) := by decide +kernel
theorem d_Mo_fits_8 : decode b_Mo_fits 8 = .ok (.iconst 1, 1) := by decide +kernel
theorem d_Mo_fits_9 : decode b_Mo_fits 9 = .ok (.bipush 32, 2) := by decide +kernel
theorem d_Mo_fits_11 : decode b_Mo_fits 11 = .ok (.invokestatic 66, 3) := by decide +kernel
theorem d_Mo_fits_14 : decode b_Mo_fits 14 = .ok (.ifCond .eq 23, 3) := by decide +kernel
theorem d_Mo_fits_17 : decode b_Mo_fits 17 = .ok (.iload_n 2, 1) := by decide +kernel
theorem d_Mo_fits_18 : decode b_Mo_fits 18 = .ok (.bipush 100, 2) := by decide +kernel
theorem d_Mo_fits_20 : decode b_Mo_fits 20 = .ok (.if_icmp .gt 17, 3) := by decide +kernel
theorem d_Mo_fits_23 : decode b_Mo_fits 23 = .ok (.iload_n 0, 1) := by decide +kernel
theorem d_Mo_fits_24 : decode b_Mo_fits 24 = .ok (.iconst 1, 1) := by decide +kernel
theorem d_Mo_fits_25 : decode b_Mo_fits 25 = .ok (.if_icmp .eq 7, 3) := by decide +kernel
theorem d_Mo_fits_28 : decode b_Mo_fits 28 = .ok (.iload_n 2, 1) := by decide +kernel
theorem d_Mo_fits_29 : decode b_Mo_fits 29 = .ok (.ifCond .gt 8, 3) := by decide +kernel
theorem d_Mo_fits_32 : decode b_Mo_fits 32 = .ok (.iload 4, 2) := by decide +kernel
theorem d_Mo_fits_34 : decode b_Mo_fits 34 = .ok (.ifCond .ge 5, 3) := by decide +kernel
theorem d_Mo_fits_37 : decode b_Mo_fits 37 = .ok (.iconst 0, 1) := by decide +kernel
theorem d_Mo_fits_38 : decode b_Mo_fits 38 = .ok (.ireturn, 1) := by decide +kernel
theorem d_Mo_fits_39 : decode b_Mo_fits 39 = .ok (.iload_n 0, 1) := by decide +kernel
theorem d_Mo_fits_40 : decode b_Mo_fits 40 = .ok (.iconst 2, 1) := by decide +kernel
theorem d_Mo_fits_41 : decode b_Mo_fits 41 = .ok (.if_icmp .ge 18, 3) := by decide +kernel
theorem d_Mo_fits_44 : decode b_Mo_fits 44 = .ok (.iload 4, 2) := by decide +kernel
theorem d_Mo_fits_46 : decode b_Mo_fits 46 = .ok (.bipush 100, 2) := by decide +kernel
theorem d_Mo_fits_48 : decode b_Mo_fits 48 = .ok (.if_icmp .gt 7, 3) := by decide +kernel
theorem d_Mo_fits_51 : decode b_Mo_fits 51 = .ok (.iconst 1, 1) := by decide +kernel
theorem d_Mo_fits_52 : decode b_Mo_fits 52 = .ok (.goto 33, 3) := by decide +kernel
theorem d_Mo_fits_55 : decode b_Mo_fits 55 = .ok (.iconst 0, 1) := by decide +kernel
theorem d_Mo_fits_56 : decode b_Mo_fits 56 = .ok (.goto 29, 3) := by decide +kernel
theorem d_Mo_fits_59 : decode b_Mo_fits 59 = .ok (.iload_n 0, 1) := by decide +kernel
theorem d_Mo_fits_60 : decode b_Mo_fits 60 = .ok (.iconst 4, 1) := by decide +kernel
theorem d_Mo_fits_61 : decode b_Mo_fits 61 = .ok (.if_icmp .ne 14, 3) := by decide +kernel
theorem d_Mo_fits_64 : decode b_Mo_fits 64 = .ok (.iload 4, 2) := by decide +kernel
theorem d_Mo_fits_66 : decode b_Mo_fits 66 = .ok (.iconst 1, 1) := by decide +kernel
theorem d_Mo_fits_67 : decode b_Mo_fits 67 = .ok (.bipush 32, 2) := by decide +kernel
theorem d_Mo_fits_69 : decode b_Mo_fits 69 = .ok (.invokestatic 66, 3) := by decide +kernel
theorem d_Mo_fits_72 : decode b_Mo_fits 72 = .ok (.goto 13, 3) := by decide +kernel
theorem d_Mo_fits_75 : decode b_Mo_fits 75 = .ok (.iload 4, 2) := by decide +kernel
theorem d_Mo_fits_77 : decode b_Mo_fits 77 = .ok (.ifCond .ne 7, 3) := by decide +kernel
theorem d_Mo_fits_80 : decode b_Mo_fits 80 = .ok (.iconst 1, 1) := by decide +kernel
theorem d_Mo_fits_81 : decode b_Mo_fits 81 = .ok (.goto 4, 3) := by decide +kernel
theorem d_Mo_fits_84 : decode b_Mo_fits 84 = .ok (.iconst 0, 1) := by decide +kernel
theorem d_Mo_fits_85 : decode b_Mo_fits 85 = .ok (.ireturn, 1) := by decide +kernel
abbrev b_Mo_find : ByteArray := prog_8_method_26_code
def y_Mo_find : MethodName := ⟨"TwinKeepersModel", "find", "(II)I"⟩
theorem kc_Mo_find : Cond.code y_Mo_find b_Mo_find 5 (some .int) ∈ xT := xin 1054 (by decide +kernel) (by decide +kernel)
theorem k_Mo_find : xCode y_Mo_find b_Mo_find 5 (some .int) [] := Or.inl ⟨rfl, kc_Mo_find⟩
theorem h_Mo_find : plainFor y_Mo_find = true ∧ (y_Mo_find.cls ≠ "java/lang/invoke/MethodHandle" ∧ y_Mo_find.cls ≠ "java/lang/invoke/VarHandle") ∧ (parseMethodDescriptor y_Mo_find.desc).map (fun d => d.parameters.length) = some 2 := by decide +kernel
theorem v_Mo_find : Cond.instanceMethod y_Mo_find ∈ xT := xin 1053 (by decide +kernel) (by decide +kernel)
theorem e_Mo_find : Cond.selects "TwinKeepersModel" y_Mo_find y_Mo_find ∈ xT := xinp 21 (by decide +kernel) (by decide +kernel)
theorem d_Mo_find_0 : decode b_Mo_find 0 = .ok (.iconst (-1), 1) := by decide +kernel
theorem d_Mo_find_1 : decode b_Mo_find 1 = .ok (.istore_n 3, 1) := by decide +kernel
theorem d_Mo_find_2 : decode b_Mo_find 2 = .ok (.bipush 16, 2) := by decide +kernel
theorem d_Mo_find_4 : decode b_Mo_find 4 = .ok (.iload_n 1, 1) := by decide +kernel
theorem d_Mo_find_5 : decode b_Mo_find 5 = .ok (.imul, 1) := by decide +kernel
theorem d_Mo_find_6 : decode b_Mo_find 6 = .ok (.istore 4, 2) := by decide +kernel
theorem d_Mo_find_8 : decode b_Mo_find 8 = .ok (.iload 4, 2) := by decide +kernel
theorem d_Mo_find_10 : decode b_Mo_find 10 = .ok (.bipush 16, 2) := by decide +kernel
theorem d_Mo_find_12 : decode b_Mo_find 12 = .ok (.iload_n 1, 1) := by decide +kernel
theorem d_Mo_find_13 : decode b_Mo_find 13 = .ok (.imul, 1) := by decide +kernel
theorem d_Mo_find_14 : decode b_Mo_find 14 = .ok (.aload_n 0, 1) := by decide +kernel
theorem d_Mo_find_15 : decode b_Mo_find 15 = .ok (.getfield 7, 3) := by decide +kernel
theorem d_Mo_find_18 : decode b_Mo_find 18 = .ok (.iload_n 1, 1) := by decide +kernel
theorem d_Mo_find_19 : decode b_Mo_find 19 = .ok (.iaload, 1) := by decide +kernel
theorem d_Mo_find_20 : decode b_Mo_find 20 = .ok (.iadd, 1) := by decide +kernel
theorem d_Mo_find_21 : decode b_Mo_find 21 = .ok (.if_icmp .ge 27, 3) := by decide +kernel
theorem d_Mo_find_24 : decode b_Mo_find 24 = .ok (.aload_n 0, 1) := by decide +kernel
theorem d_Mo_find_25 : decode b_Mo_find 25 = .ok (.getfield 13, 3) := by decide +kernel
theorem d_Mo_find_28 : decode b_Mo_find 28 = .ok (.iload 4, 2) := by decide +kernel
theorem d_Mo_find_30 : decode b_Mo_find 30 = .ok (.iaload, 1) := by decide +kernel
theorem d_Mo_find_31 : decode b_Mo_find 31 = .ok (.iload_n 2, 1) := by decide +kernel
theorem d_Mo_find_32 : decode b_Mo_find 32 = .ok (.if_icmp .ne 8, 3) := by decide +kernel
theorem d_Mo_find_35 : decode b_Mo_find 35 = .ok (.iload 4, 2) := by decide +kernel
theorem d_Mo_find_37 : decode b_Mo_find 37 = .ok (.goto 4, 3) := by decide +kernel
theorem d_Mo_find_40 : decode b_Mo_find 40 = .ok (.iload_n 3, 1) := by decide +kernel
theorem d_Mo_find_41 : decode b_Mo_find 41 = .ok (.istore_n 3, 1) := by decide +kernel
theorem d_Mo_find_42 : decode b_Mo_find 42 = .ok (.iinc 4 1, 3) := by decide +kernel
theorem d_Mo_find_45 : decode b_Mo_find 45 = .ok (.goto (-37), 3) := by decide +kernel
theorem d_Mo_find_48 : decode b_Mo_find 48 = .ok (.iload_n 3, 1) := by decide +kernel
theorem d_Mo_find_49 : decode b_Mo_find 49 = .ok (.ireturn, 1) := by decide +kernel
abbrev b_Mo_show : ByteArray := prog_8_method_28_code
def y_Mo_show : MethodName := ⟨"TwinKeepersModel", "show", "()V"⟩
theorem kc_Mo_show : Cond.code y_Mo_show b_Mo_show 2 none ∈ xT := xin 1058 (by decide +kernel) (by decide +kernel)
theorem k_Mo_show : xCode y_Mo_show b_Mo_show 2 none [] := Or.inl ⟨rfl, kc_Mo_show⟩
theorem h_Mo_show : plainFor y_Mo_show = true ∧ (y_Mo_show.cls ≠ "java/lang/invoke/MethodHandle" ∧ y_Mo_show.cls ≠ "java/lang/invoke/VarHandle") ∧ (parseMethodDescriptor y_Mo_show.desc).map (fun d => d.parameters.length) = some 0 := by decide +kernel
theorem v_Mo_show : Cond.instanceMethod y_Mo_show ∈ xT := xin 1057 (by decide +kernel) (by decide +kernel)
theorem e_Mo_show : Cond.selects "TwinKeepersModel" y_Mo_show y_Mo_show ∈ xT := xinp 22 (by decide +kernel) (by decide +kernel)
theorem d_Mo_show_0 : decode b_Mo_show 0 = .ok (.aload_n 0, 1) := by decide +kernel
theorem d_Mo_show_1 : decode b_Mo_show 1 = .ok (.iconst 0, 1) := by decide +kernel
theorem d_Mo_show_2 : decode b_Mo_show 2 = .ok (.putfield 137, 3) := by decide +kernel
theorem q_961 : Cond.fieldLink "TwinKeepersModel" 137 "TwinKeepersModel" "size" "I" ∈ xT := xin 961 (by decide +kernel) (by decide +kernel)
theorem d_Mo_show_5 : decode b_Mo_show 5 = .ok (.iconst 0, 1) := by decide +kernel
theorem d_Mo_show_6 : decode b_Mo_show 6 = .ok (.istore_n 1, 1) := by decide +kernel
theorem d_Mo_show_7 : decode b_Mo_show 7 = .ok (.iload_n 1, 1) := by decide +kernel
theorem d_Mo_show_8 : decode b_Mo_show 8 = .ok (.aload_n 0, 1) := by decide +kernel
theorem d_Mo_show_9 : decode b_Mo_show 9 = .ok (.getfield 89, 3) := by decide +kernel
theorem d_Mo_show_12 : decode b_Mo_show 12 = .ok (.if_icmp .ge 19, 3) := by decide +kernel
theorem d_Mo_show_15 : decode b_Mo_show 15 = .ok (.aload_n 0, 1) := by decide +kernel
theorem d_Mo_show_16 : decode b_Mo_show 16 = .ok (.aload_n 0, 1) := by decide +kernel
theorem d_Mo_show_17 : decode b_Mo_show 17 = .ok (.getfield 56, 3) := by decide +kernel
theorem d_Mo_show_20 : decode b_Mo_show 20 = .ok (.iload_n 1, 1) := by decide +kernel
theorem d_Mo_show_21 : decode b_Mo_show 21 = .ok (.iaload, 1) := by decide +kernel
theorem d_Mo_show_22 : decode b_Mo_show 22 = .ok (.invokevirtual 140, 3) := by decide +kernel
theorem q_1059 : Cond.methodLink "TwinKeepersModel" 140 ⟨"TwinKeepersModel", "add", "(I)V"⟩ ∈ xT := xin 1059 (by decide +kernel) (by decide +kernel)
theorem d_Mo_show_25 : decode b_Mo_show 25 = .ok (.iinc 1 1, 3) := by decide +kernel
theorem d_Mo_show_28 : decode b_Mo_show 28 = .ok (.goto (-21), 3) := by decide +kernel
theorem d_Mo_show_31 : decode b_Mo_show 31 = .ok (.return_, 1) := by decide +kernel
abbrev b_Mo_add : ByteArray := prog_8_method_29_code
def y_Mo_add : MethodName := ⟨"TwinKeepersModel", "add", "(I)V"⟩
theorem kc_Mo_add : Cond.code y_Mo_add b_Mo_add 3 none ∈ xT := xin 1062 (by decide +kernel) (by decide +kernel)
theorem k_Mo_add : xCode y_Mo_add b_Mo_add 3 none [] := Or.inl ⟨rfl, kc_Mo_add⟩
theorem h_Mo_add : plainFor y_Mo_add = true ∧ (y_Mo_add.cls ≠ "java/lang/invoke/MethodHandle" ∧ y_Mo_add.cls ≠ "java/lang/invoke/VarHandle") ∧ (parseMethodDescriptor y_Mo_add.desc).map (fun d => d.parameters.length) = some 1 := by decide +kernel
theorem v_Mo_add : Cond.instanceMethod y_Mo_add ∈ xT := xin 1061 (by decide +kernel) (by decide +kernel)
theorem e_Mo_add : Cond.selects "TwinKeepersModel" y_Mo_add y_Mo_add ∈ xT := xinp 23 (by decide +kernel) (by decide +kernel)
theorem d_Mo_add_0 : decode b_Mo_add 0 = .ok (.bipush 8, 2) := by decide +kernel
theorem d_Mo_add_2 : decode b_Mo_add 2 = .ok (.aload_n 0, 1) := by decide +kernel
theorem d_Mo_add_3 : decode b_Mo_add 3 = .ok (.getfield 137, 3) := by decide +kernel
theorem d_Mo_add_6 : decode b_Mo_add 6 = .ok (.bipush 8, 2) := by decide +kernel
theorem d_Mo_add_8 : decode b_Mo_add 8 = .ok (.irem, 1) := by decide +kernel
theorem d_Mo_add_9 : decode b_Mo_add 9 = .ok (.imul, 1) := by decide +kernel
theorem d_Mo_add_10 : decode b_Mo_add 10 = .ok (.istore_n 2, 1) := by decide +kernel
theorem d_Mo_add_11 : decode b_Mo_add 11 = .ok (.aload_n 0, 1) := by decide +kernel
theorem d_Mo_add_12 : decode b_Mo_add 12 = .ok (.getfield 59, 3) := by decide +kernel
theorem d_Mo_add_15 : decode b_Mo_add 15 = .ok (.aload_n 0, 1) := by decide +kernel
theorem d_Mo_add_16 : decode b_Mo_add 16 = .ok (.getfield 137, 3) := by decide +kernel
theorem d_Mo_add_19 : decode b_Mo_add 19 = .ok (.bipush 8, 2) := by decide +kernel
theorem d_Mo_add_21 : decode b_Mo_add 21 = .ok (.idiv, 1) := by decide +kernel
theorem d_Mo_add_22 : decode b_Mo_add 22 = .ok (.aload_n 0, 1) := by decide +kernel
theorem d_Mo_add_23 : decode b_Mo_add 23 = .ok (.getfield 59, 3) := by decide +kernel
theorem d_Mo_add_26 : decode b_Mo_add 26 = .ok (.aload_n 0, 1) := by decide +kernel
theorem d_Mo_add_27 : decode b_Mo_add 27 = .ok (.getfield 137, 3) := by decide +kernel
theorem d_Mo_add_30 : decode b_Mo_add 30 = .ok (.bipush 8, 2) := by decide +kernel
theorem d_Mo_add_32 : decode b_Mo_add 32 = .ok (.idiv, 1) := by decide +kernel
theorem d_Mo_add_33 : decode b_Mo_add 33 = .ok (.laload, 1) := by decide +kernel
theorem d_Mo_add_34 : decode b_Mo_add 34 = .ok (.ldc2_w 77, 3) := by decide +kernel
theorem d_Mo_add_37 : decode b_Mo_add 37 = .ok (.iload_n 2, 1) := by decide +kernel
theorem d_Mo_add_38 : decode b_Mo_add 38 = .ok (.lshl, 1) := by decide +kernel
theorem d_Mo_add_39 : decode b_Mo_add 39 = .ok (.ldc2_w 143, 3) := by decide +kernel
theorem q_1063 : Cond.constantLong "TwinKeepersModel" 143 (-1) ∈ xT := xin 1063 (by decide +kernel) (by decide +kernel)
theorem d_Mo_add_42 : decode b_Mo_add 42 = .ok (.lxor, 1) := by decide +kernel
theorem d_Mo_add_43 : decode b_Mo_add 43 = .ok (.land, 1) := by decide +kernel
theorem d_Mo_add_44 : decode b_Mo_add 44 = .ok (.iload_n 1, 1) := by decide +kernel
theorem d_Mo_add_45 : decode b_Mo_add 45 = .ok (.sipush 255, 3) := by decide +kernel
theorem d_Mo_add_48 : decode b_Mo_add 48 = .ok (.iand, 1) := by decide +kernel
theorem d_Mo_add_49 : decode b_Mo_add 49 = .ok (.i2l, 1) := by decide +kernel
theorem d_Mo_add_50 : decode b_Mo_add 50 = .ok (.iload_n 2, 1) := by decide +kernel
theorem d_Mo_add_51 : decode b_Mo_add 51 = .ok (.lshl, 1) := by decide +kernel
theorem d_Mo_add_52 : decode b_Mo_add 52 = .ok (.lor, 1) := by decide +kernel
theorem d_Mo_add_53 : decode b_Mo_add 53 = .ok (.lastore, 1) := by decide +kernel
theorem d_Mo_add_54 : decode b_Mo_add 54 = .ok (.aload_n 0, 1) := by decide +kernel
theorem d_Mo_add_55 : decode b_Mo_add 55 = .ok (.dup, 1) := by decide +kernel
theorem d_Mo_add_56 : decode b_Mo_add 56 = .ok (.getfield 137, 3) := by decide +kernel
theorem d_Mo_add_59 : decode b_Mo_add 59 = .ok (.iconst 1, 1) := by decide +kernel
theorem d_Mo_add_60 : decode b_Mo_add 60 = .ok (.iadd, 1) := by decide +kernel
theorem d_Mo_add_61 : decode b_Mo_add 61 = .ok (.putfield 137, 3) := by decide +kernel
theorem d_Mo_add_64 : decode b_Mo_add 64 = .ok (.return_, 1) := by decide +kernel
abbrev b_Mo_tell : ByteArray := prog_8_method_16_code
def y_Mo_tell : MethodName := ⟨"TwinKeepersModel", "tell", "(I)V"⟩
theorem kc_Mo_tell : Cond.code y_Mo_tell b_Mo_tell 2 none ∈ xT := xin 1067 (by decide +kernel) (by decide +kernel)
theorem k_Mo_tell : xCode y_Mo_tell b_Mo_tell 2 none [] := Or.inl ⟨rfl, kc_Mo_tell⟩
theorem h_Mo_tell : plainFor y_Mo_tell = true ∧ (y_Mo_tell.cls ≠ "java/lang/invoke/MethodHandle" ∧ y_Mo_tell.cls ≠ "java/lang/invoke/VarHandle") ∧ (parseMethodDescriptor y_Mo_tell.desc).map (fun d => d.parameters.length) = some 1 := by decide +kernel
theorem v_Mo_tell : Cond.instanceMethod y_Mo_tell ∈ xT := xin 1066 (by decide +kernel) (by decide +kernel)
theorem e_Mo_tell : Cond.selects "TwinKeepersModel" y_Mo_tell y_Mo_tell ∈ xT := xinp 24 (by decide +kernel) (by decide +kernel)
theorem d_Mo_tell_0 : decode b_Mo_tell 0 = .ok (.aload_n 0, 1) := by decide +kernel
theorem d_Mo_tell_1 : decode b_Mo_tell 1 = .ok (.getfield 56, 3) := by decide +kernel
theorem d_Mo_tell_4 : decode b_Mo_tell 4 = .ok (.aload_n 0, 1) := by decide +kernel
theorem d_Mo_tell_5 : decode b_Mo_tell 5 = .ok (.getfield 89, 3) := by decide +kernel
theorem d_Mo_tell_8 : decode b_Mo_tell 8 = .ok (.iload_n 1, 1) := by decide +kernel
theorem d_Mo_tell_9 : decode b_Mo_tell 9 = .ok (.iastore, 1) := by decide +kernel
theorem d_Mo_tell_10 : decode b_Mo_tell 10 = .ok (.aload_n 0, 1) := by decide +kernel
theorem d_Mo_tell_11 : decode b_Mo_tell 11 = .ok (.dup, 1) := by decide +kernel
theorem d_Mo_tell_12 : decode b_Mo_tell 12 = .ok (.getfield 89, 3) := by decide +kernel
theorem d_Mo_tell_15 : decode b_Mo_tell 15 = .ok (.iconst 1, 1) := by decide +kernel
theorem d_Mo_tell_16 : decode b_Mo_tell 16 = .ok (.iadd, 1) := by decide +kernel
theorem d_Mo_tell_17 : decode b_Mo_tell 17 = .ok (.putfield 89, 3) := by decide +kernel
theorem d_Mo_tell_20 : decode b_Mo_tell 20 = .ok (.return_, 1) := by decide +kernel
abbrev b_Mo_seek : ByteArray := prog_8_method_6_code
def y_Mo_seek : MethodName := ⟨"TwinKeepersModel", "seek", "(II)V"⟩
theorem kc_Mo_seek : Cond.code y_Mo_seek b_Mo_seek 4 none ∈ xT := xin 1071 (by decide +kernel) (by decide +kernel)
theorem k_Mo_seek : xCode y_Mo_seek b_Mo_seek 4 none [] := Or.inl ⟨rfl, kc_Mo_seek⟩
theorem h_Mo_seek : plainFor y_Mo_seek = true ∧ (y_Mo_seek.cls ≠ "java/lang/invoke/MethodHandle" ∧ y_Mo_seek.cls ≠ "java/lang/invoke/VarHandle") ∧ (parseMethodDescriptor y_Mo_seek.desc).map (fun d => d.parameters.length) = some 2 := by decide +kernel
theorem v_Mo_seek : Cond.instanceMethod y_Mo_seek ∈ xT := xin 1070 (by decide +kernel) (by decide +kernel)
theorem e_Mo_seek : Cond.selects "TwinKeepersModel" y_Mo_seek y_Mo_seek ∈ xT := xinp 25 (by decide +kernel) (by decide +kernel)
theorem d_Mo_seek_0 : decode b_Mo_seek 0 = .ok (.iconst 0, 1) := by decide +kernel
theorem d_Mo_seek_1 : decode b_Mo_seek 1 = .ok (.istore_n 3, 1) := by decide +kernel
theorem d_Mo_seek_2 : decode b_Mo_seek 2 = .ok (.iload_n 3, 1) := by decide +kernel
theorem d_Mo_seek_3 : decode b_Mo_seek 3 = .ok (.iconst 4, 1) := by decide +kernel
theorem d_Mo_seek_4 : decode b_Mo_seek 4 = .ok (.if_icmp .ge 16, 3) := by decide +kernel
theorem d_Mo_seek_7 : decode b_Mo_seek 7 = .ok (.aload_n 0, 1) := by decide +kernel
theorem d_Mo_seek_8 : decode b_Mo_seek 8 = .ok (.getfield 53, 3) := by decide +kernel
theorem d_Mo_seek_11 : decode b_Mo_seek 11 = .ok (.iload_n 3, 1) := by decide +kernel
theorem d_Mo_seek_12 : decode b_Mo_seek 12 = .ok (.lconst 0, 1) := by decide +kernel
theorem d_Mo_seek_13 : decode b_Mo_seek 13 = .ok (.lastore, 1) := by decide +kernel
theorem d_Mo_seek_14 : decode b_Mo_seek 14 = .ok (.iinc 3 1, 3) := by decide +kernel
theorem d_Mo_seek_17 : decode b_Mo_seek 17 = .ok (.goto (-15), 3) := by decide +kernel
theorem d_Mo_seek_20 : decode b_Mo_seek 20 = .ok (.iconst 0, 1) := by decide +kernel
theorem d_Mo_seek_21 : decode b_Mo_seek 21 = .ok (.istore_n 3, 1) := by decide +kernel
theorem d_Mo_seek_22 : decode b_Mo_seek 22 = .ok (.iload_n 3, 1) := by decide +kernel
theorem d_Mo_seek_23 : decode b_Mo_seek 23 = .ok (.iload_n 2, 1) := by decide +kernel
theorem d_Mo_seek_24 : decode b_Mo_seek 24 = .ok (.if_icmp .ge 41, 3) := by decide +kernel
theorem d_Mo_seek_27 : decode b_Mo_seek 27 = .ok (.aload_n 0, 1) := by decide +kernel
theorem d_Mo_seek_28 : decode b_Mo_seek 28 = .ok (.getfield 53, 3) := by decide +kernel
theorem d_Mo_seek_31 : decode b_Mo_seek 31 = .ok (.iload_n 3, 1) := by decide +kernel
theorem d_Mo_seek_32 : decode b_Mo_seek 32 = .ok (.bipush 8, 2) := by decide +kernel
theorem d_Mo_seek_34 : decode b_Mo_seek 34 = .ok (.idiv, 1) := by decide +kernel
theorem d_Mo_seek_35 : decode b_Mo_seek 35 = .ok (.dup2, 1) := by decide +kernel
theorem d_Mo_seek_36 : decode b_Mo_seek 36 = .ok (.laload, 1) := by decide +kernel
theorem d_Mo_seek_37 : decode b_Mo_seek 37 = .ok (.aload_n 0, 1) := by decide +kernel
theorem d_Mo_seek_38 : decode b_Mo_seek 38 = .ok (.getfield 50, 3) := by decide +kernel
theorem d_Mo_seek_41 : decode b_Mo_seek 41 = .ok (.iload_n 1, 1) := by decide +kernel
theorem d_Mo_seek_42 : decode b_Mo_seek 42 = .ok (.iload_n 3, 1) := by decide +kernel
theorem d_Mo_seek_43 : decode b_Mo_seek 43 = .ok (.iadd, 1) := by decide +kernel
theorem d_Mo_seek_44 : decode b_Mo_seek 44 = .ok (.iaload, 1) := by decide +kernel
theorem d_Mo_seek_45 : decode b_Mo_seek 45 = .ok (.i2l, 1) := by decide +kernel
theorem d_Mo_seek_46 : decode b_Mo_seek 46 = .ok (.bipush 56, 2) := by decide +kernel
theorem d_Mo_seek_48 : decode b_Mo_seek 48 = .ok (.bipush 8, 2) := by decide +kernel
theorem d_Mo_seek_50 : decode b_Mo_seek 50 = .ok (.iload_n 3, 1) := by decide +kernel
theorem d_Mo_seek_51 : decode b_Mo_seek 51 = .ok (.bipush 8, 2) := by decide +kernel
theorem d_Mo_seek_53 : decode b_Mo_seek 53 = .ok (.irem, 1) := by decide +kernel
theorem d_Mo_seek_54 : decode b_Mo_seek 54 = .ok (.imul, 1) := by decide +kernel
theorem d_Mo_seek_55 : decode b_Mo_seek 55 = .ok (.isub, 1) := by decide +kernel
theorem d_Mo_seek_56 : decode b_Mo_seek 56 = .ok (.lshl, 1) := by decide +kernel
theorem d_Mo_seek_57 : decode b_Mo_seek 57 = .ok (.lor, 1) := by decide +kernel
theorem d_Mo_seek_58 : decode b_Mo_seek 58 = .ok (.lastore, 1) := by decide +kernel
theorem d_Mo_seek_59 : decode b_Mo_seek 59 = .ok (.iinc 3 1, 3) := by decide +kernel
theorem d_Mo_seek_62 : decode b_Mo_seek 62 = .ok (.goto (-40), 3) := by decide +kernel
theorem d_Mo_seek_65 : decode b_Mo_seek 65 = .ok (.aload_n 0, 1) := by decide +kernel
theorem d_Mo_seek_66 : decode b_Mo_seek 66 = .ok (.iload_n 2, 1) := by decide +kernel
theorem d_Mo_seek_67 : decode b_Mo_seek 67 = .ok (.putfield 79, 3) := by decide +kernel
theorem q_956 : Cond.fieldLink "TwinKeepersModel" 79 "TwinKeepersModel" "soughtSize" "I" ∈ xT := xin 956 (by decide +kernel) (by decide +kernel)
theorem d_Mo_seek_70 : decode b_Mo_seek 70 = .ok (.return_, 1) := by decide +kernel
abbrev b_Mo_doPut : ByteArray := prog_8_method_19_code
def y_Mo_doPut : MethodName := ⟨"TwinKeepersModel", "doPut", "(III)V"⟩
theorem kc_Mo_doPut : Cond.code y_Mo_doPut b_Mo_doPut 6 none ∈ xT := xin 1075 (by decide +kernel) (by decide +kernel)
theorem k_Mo_doPut : xCode y_Mo_doPut b_Mo_doPut 6 none [] := Or.inl ⟨rfl, kc_Mo_doPut⟩
theorem h_Mo_doPut : plainFor y_Mo_doPut = true ∧ (y_Mo_doPut.cls ≠ "java/lang/invoke/MethodHandle" ∧ y_Mo_doPut.cls ≠ "java/lang/invoke/VarHandle") ∧ (parseMethodDescriptor y_Mo_doPut.desc).map (fun d => d.parameters.length) = some 3 := by decide +kernel
theorem v_Mo_doPut : Cond.instanceMethod y_Mo_doPut ∈ xT := xin 1074 (by decide +kernel) (by decide +kernel)
theorem e_Mo_doPut : Cond.selects "TwinKeepersModel" y_Mo_doPut y_Mo_doPut ∈ xT := xinp 26 (by decide +kernel) (by decide +kernel)
theorem d_Mo_doPut_0 : decode b_Mo_doPut 0 = .ok (.aload_n 0, 1) := by decide +kernel
theorem d_Mo_doPut_1 : decode b_Mo_doPut 1 = .ok (.iload_n 1, 1) := by decide +kernel
theorem d_Mo_doPut_2 : decode b_Mo_doPut 2 = .ok (.invokevirtual 100, 3) := by decide +kernel
theorem q_1076 : Cond.methodLink "TwinKeepersModel" 100 ⟨"TwinKeepersModel", "below", "(I)I"⟩ ∈ xT := xin 1076 (by decide +kernel) (by decide +kernel)
theorem d_Mo_doPut_5 : decode b_Mo_doPut 5 = .ok (.istore 4, 2) := by decide +kernel
theorem d_Mo_doPut_7 : decode b_Mo_doPut 7 = .ok (.aload_n 0, 1) := by decide +kernel
theorem d_Mo_doPut_8 : decode b_Mo_doPut 8 = .ok (.iload_n 1, 1) := by decide +kernel
theorem d_Mo_doPut_9 : decode b_Mo_doPut 9 = .ok (.iload 4, 2) := by decide +kernel
theorem d_Mo_doPut_11 : decode b_Mo_doPut 11 = .ok (.invokevirtual 103, 3) := by decide +kernel
theorem q_1084 : Cond.methodLink "TwinKeepersModel" 103 ⟨"TwinKeepersModel", "isAt", "(II)Z"⟩ ∈ xT := xin 1084 (by decide +kernel) (by decide +kernel)
theorem d_Mo_doPut_14 : decode b_Mo_doPut 14 = .ok (.istore 5, 2) := by decide +kernel
theorem d_Mo_doPut_16 : decode b_Mo_doPut 16 = .ok (.aload_n 0, 1) := by decide +kernel
theorem d_Mo_doPut_17 : decode b_Mo_doPut 17 = .ok (.iload 5, 2) := by decide +kernel
theorem d_Mo_doPut_19 : decode b_Mo_doPut 19 = .ok (.ifCond .eq 7, 3) := by decide +kernel
theorem d_Mo_doPut_22 : decode b_Mo_doPut 22 = .ok (.iconst 1, 1) := by decide +kernel
theorem d_Mo_doPut_23 : decode b_Mo_doPut 23 = .ok (.goto 4, 3) := by decide +kernel
theorem d_Mo_doPut_26 : decode b_Mo_doPut 26 = .ok (.iconst 0, 1) := by decide +kernel
theorem d_Mo_doPut_27 : decode b_Mo_doPut 27 = .ok (.invokevirtual 96, 3) := by decide +kernel
theorem d_Mo_doPut_30 : decode b_Mo_doPut 30 = .ok (.iload 5, 2) := by decide +kernel
theorem d_Mo_doPut_32 : decode b_Mo_doPut 32 = .ok (.ifCond .eq 15, 3) := by decide +kernel
theorem d_Mo_doPut_35 : decode b_Mo_doPut 35 = .ok (.aload_n 0, 1) := by decide +kernel
theorem d_Mo_doPut_36 : decode b_Mo_doPut 36 = .ok (.sipush 128, 3) := by decide +kernel
theorem d_Mo_doPut_39 : decode b_Mo_doPut 39 = .ok (.iload_n 1, 1) := by decide +kernel
theorem d_Mo_doPut_40 : decode b_Mo_doPut 40 = .ok (.imul, 1) := by decide +kernel
theorem d_Mo_doPut_41 : decode b_Mo_doPut 41 = .ok (.iload 4, 2) := by decide +kernel
theorem d_Mo_doPut_43 : decode b_Mo_doPut 43 = .ok (.iadd, 1) := by decide +kernel
theorem d_Mo_doPut_44 : decode b_Mo_doPut 44 = .ok (.invokevirtual 118, 3) := by decide +kernel
theorem q_1088 : Cond.methodLink "TwinKeepersModel" 118 ⟨"TwinKeepersModel", "tellValue", "(I)V"⟩ ∈ xT := xin 1088 (by decide +kernel) (by decide +kernel)
theorem d_Mo_doPut_47 : decode b_Mo_doPut 47 = .ok (.aload_n 0, 1) := by decide +kernel
theorem d_Mo_doPut_48 : decode b_Mo_doPut 48 = .ok (.iload_n 1, 1) := by decide +kernel
theorem d_Mo_doPut_49 : decode b_Mo_doPut 49 = .ok (.iload_n 2, 1) := by decide +kernel
theorem d_Mo_doPut_50 : decode b_Mo_doPut 50 = .ok (.iload_n 3, 1) := by decide +kernel
theorem d_Mo_doPut_51 : decode b_Mo_doPut 51 = .ok (.invokevirtual 121, 3) := by decide +kernel
theorem q_1096 : Cond.methodLink "TwinKeepersModel" 121 ⟨"TwinKeepersModel", "put", "(III)Z"⟩ ∈ xT := xin 1096 (by decide +kernel) (by decide +kernel)
theorem d_Mo_doPut_54 : decode b_Mo_doPut 54 = .ok (.ifCond .ne 13, 3) := by decide +kernel
theorem d_Mo_doPut_57 : decode b_Mo_doPut 57 = .ok (.aload_n 0, 1) := by decide +kernel
theorem d_Mo_doPut_58 : decode b_Mo_doPut 58 = .ok (.iconst 0, 1) := by decide +kernel
theorem d_Mo_doPut_59 : decode b_Mo_doPut 59 = .ok (.putfield 89, 3) := by decide +kernel
theorem d_Mo_doPut_62 : decode b_Mo_doPut 62 = .ok (.aload_n 0, 1) := by decide +kernel
theorem d_Mo_doPut_63 : decode b_Mo_doPut 63 = .ok (.iconst 2, 1) := by decide +kernel
theorem d_Mo_doPut_64 : decode b_Mo_doPut 64 = .ok (.invokevirtual 96, 3) := by decide +kernel
theorem d_Mo_doPut_67 : decode b_Mo_doPut 67 = .ok (.return_, 1) := by decide +kernel
abbrev b_Mo_below : ByteArray := prog_8_method_8_code
def y_Mo_below : MethodName := ⟨"TwinKeepersModel", "below", "(I)I"⟩
theorem kc_Mo_below : Cond.code y_Mo_below b_Mo_below 3 (some .int) ∈ xT := xin 1079 (by decide +kernel) (by decide +kernel)
theorem k_Mo_below : xCode y_Mo_below b_Mo_below 3 (some .int) [] := Or.inl ⟨rfl, kc_Mo_below⟩
theorem h_Mo_below : plainFor y_Mo_below = true ∧ (y_Mo_below.cls ≠ "java/lang/invoke/MethodHandle" ∧ y_Mo_below.cls ≠ "java/lang/invoke/VarHandle") ∧ (parseMethodDescriptor y_Mo_below.desc).map (fun d => d.parameters.length) = some 1 := by decide +kernel
theorem v_Mo_below : Cond.instanceMethod y_Mo_below ∈ xT := xin 1078 (by decide +kernel) (by decide +kernel)
theorem e_Mo_below : Cond.selects "TwinKeepersModel" y_Mo_below y_Mo_below ∈ xT := xinp 27 (by decide +kernel) (by decide +kernel)
theorem d_Mo_below_0 : decode b_Mo_below 0 = .ok (.iconst 0, 1) := by decide +kernel
theorem d_Mo_below_1 : decode b_Mo_below 1 = .ok (.istore_n 2, 1) := by decide +kernel
theorem d_Mo_below_2 : decode b_Mo_below 2 = .ok (.iload_n 2, 1) := by decide +kernel
theorem d_Mo_below_3 : decode b_Mo_below 3 = .ok (.aload_n 0, 1) := by decide +kernel
theorem d_Mo_below_4 : decode b_Mo_below 4 = .ok (.getfield 31, 3) := by decide +kernel
theorem d_Mo_below_7 : decode b_Mo_below 7 = .ok (.iload_n 1, 1) := by decide +kernel
theorem d_Mo_below_8 : decode b_Mo_below 8 = .ok (.iaload, 1) := by decide +kernel
theorem d_Mo_below_9 : decode b_Mo_below 9 = .ok (.if_icmp .ge 23, 3) := by decide +kernel
theorem d_Mo_below_12 : decode b_Mo_below 12 = .ok (.aload_n 0, 1) := by decide +kernel
theorem d_Mo_below_13 : decode b_Mo_below 13 = .ok (.sipush 128, 3) := by decide +kernel
theorem d_Mo_below_16 : decode b_Mo_below 16 = .ok (.iload_n 1, 1) := by decide +kernel
theorem d_Mo_below_17 : decode b_Mo_below 17 = .ok (.imul, 1) := by decide +kernel
theorem d_Mo_below_18 : decode b_Mo_below 18 = .ok (.iload_n 2, 1) := by decide +kernel
theorem d_Mo_below_19 : decode b_Mo_below 19 = .ok (.iadd, 1) := by decide +kernel
theorem d_Mo_below_20 : decode b_Mo_below 20 = .ok (.invokevirtual 82, 3) := by decide +kernel
theorem q_1080 : Cond.methodLink "TwinKeepersModel" 82 ⟨"TwinKeepersModel", "before", "(I)Z"⟩ ∈ xT := xin 1080 (by decide +kernel) (by decide +kernel)
theorem d_Mo_below_23 : decode b_Mo_below 23 = .ok (.ifCond .eq 9, 3) := by decide +kernel
theorem d_Mo_below_26 : decode b_Mo_below 26 = .ok (.iinc 2 1, 3) := by decide +kernel
theorem d_Mo_below_29 : decode b_Mo_below 29 = .ok (.goto (-27), 3) := by decide +kernel
theorem d_Mo_below_32 : decode b_Mo_below 32 = .ok (.iload_n 2, 1) := by decide +kernel
theorem d_Mo_below_33 : decode b_Mo_below 33 = .ok (.ireturn, 1) := by decide +kernel
abbrev b_Mo_before : ByteArray := prog_8_method_7_code
def y_Mo_before : MethodName := ⟨"TwinKeepersModel", "before", "(I)Z"⟩
theorem kc_Mo_before : Cond.code y_Mo_before b_Mo_before 7 (some .boolean) ∈ xT := xin 1083 (by decide +kernel) (by decide +kernel)
theorem k_Mo_before : xCode y_Mo_before b_Mo_before 7 (some .boolean) [] := Or.inl ⟨rfl, kc_Mo_before⟩
theorem h_Mo_before : plainFor y_Mo_before = true ∧ (y_Mo_before.cls ≠ "java/lang/invoke/MethodHandle" ∧ y_Mo_before.cls ≠ "java/lang/invoke/VarHandle") ∧ (parseMethodDescriptor y_Mo_before.desc).map (fun d => d.parameters.length) = some 1 := by decide +kernel
theorem v_Mo_before : Cond.instanceMethod y_Mo_before ∈ xT := xin 1082 (by decide +kernel) (by decide +kernel)
theorem e_Mo_before : Cond.selects "TwinKeepersModel" y_Mo_before y_Mo_before ∈ xT := xinp 28 (by decide +kernel) (by decide +kernel)
theorem d_Mo_before_0 : decode b_Mo_before 0 = .ok (.iconst 0, 1) := by decide +kernel
theorem d_Mo_before_1 : decode b_Mo_before 1 = .ok (.istore_n 2, 1) := by decide +kernel
theorem d_Mo_before_2 : decode b_Mo_before 2 = .ok (.iload_n 2, 1) := by decide +kernel
theorem d_Mo_before_3 : decode b_Mo_before 3 = .ok (.iconst 4, 1) := by decide +kernel
theorem d_Mo_before_4 : decode b_Mo_before 4 = .ok (.if_icmp .ge 87, 3) := by decide +kernel
theorem d_Mo_before_7 : decode b_Mo_before 7 = .ok (.aload_n 0, 1) := by decide +kernel
theorem d_Mo_before_8 : decode b_Mo_before 8 = .ok (.getfield 37, 3) := by decide +kernel
theorem d_Mo_before_11 : decode b_Mo_before 11 = .ok (.iconst 4, 1) := by decide +kernel
theorem d_Mo_before_12 : decode b_Mo_before 12 = .ok (.iload_n 1, 1) := by decide +kernel
theorem d_Mo_before_13 : decode b_Mo_before 13 = .ok (.imul, 1) := by decide +kernel
theorem d_Mo_before_14 : decode b_Mo_before 14 = .ok (.iload_n 2, 1) := by decide +kernel
theorem d_Mo_before_15 : decode b_Mo_before 15 = .ok (.iadd, 1) := by decide +kernel
theorem d_Mo_before_16 : decode b_Mo_before 16 = .ok (.laload, 1) := by decide +kernel
theorem d_Mo_before_17 : decode b_Mo_before 17 = .ok (.lstore_n 3, 1) := by decide +kernel
theorem d_Mo_before_18 : decode b_Mo_before 18 = .ok (.aload_n 0, 1) := by decide +kernel
theorem d_Mo_before_19 : decode b_Mo_before 19 = .ok (.getfield 53, 3) := by decide +kernel
theorem d_Mo_before_22 : decode b_Mo_before 22 = .ok (.iload_n 2, 1) := by decide +kernel
theorem d_Mo_before_23 : decode b_Mo_before 23 = .ok (.laload, 1) := by decide +kernel
theorem d_Mo_before_24 : decode b_Mo_before 24 = .ok (.lstore 5, 2) := by decide +kernel
theorem d_Mo_before_26 : decode b_Mo_before 26 = .ok (.lload_n 3, 1) := by decide +kernel
theorem d_Mo_before_27 : decode b_Mo_before 27 = .ok (.lload 5, 2) := by decide +kernel
theorem d_Mo_before_29 : decode b_Mo_before 29 = .ok (.lcmp, 1) := by decide +kernel
theorem d_Mo_before_30 : decode b_Mo_before 30 = .ok (.ifCond .eq 55, 3) := by decide +kernel
theorem d_Mo_before_33 : decode b_Mo_before 33 = .ok (.lload_n 3, 1) := by decide +kernel
theorem d_Mo_before_34 : decode b_Mo_before 34 = .ok (.lload 5, 2) := by decide +kernel
theorem d_Mo_before_36 : decode b_Mo_before 36 = .ok (.lcmp, 1) := by decide +kernel
theorem d_Mo_before_37 : decode b_Mo_before 37 = .ok (.ifCond .ge 7, 3) := by decide +kernel
theorem d_Mo_before_40 : decode b_Mo_before 40 = .ok (.iconst 1, 1) := by decide +kernel
theorem d_Mo_before_41 : decode b_Mo_before 41 = .ok (.goto 4, 3) := by decide +kernel
theorem d_Mo_before_44 : decode b_Mo_before 44 = .ok (.iconst 0, 1) := by decide +kernel
theorem d_Mo_before_45 : decode b_Mo_before 45 = .ok (.lload_n 3, 1) := by decide +kernel
theorem d_Mo_before_46 : decode b_Mo_before 46 = .ok (.lconst 0, 1) := by decide +kernel
theorem d_Mo_before_47 : decode b_Mo_before 47 = .ok (.lcmp, 1) := by decide +kernel
theorem d_Mo_before_48 : decode b_Mo_before 48 = .ok (.ifCond .ge 7, 3) := by decide +kernel
theorem d_Mo_before_51 : decode b_Mo_before 51 = .ok (.iconst 1, 1) := by decide +kernel
theorem d_Mo_before_52 : decode b_Mo_before 52 = .ok (.goto 4, 3) := by decide +kernel
theorem d_Mo_before_55 : decode b_Mo_before 55 = .ok (.iconst 0, 1) := by decide +kernel
theorem d_Mo_before_56 : decode b_Mo_before 56 = .ok (.lload 5, 2) := by decide +kernel
theorem d_Mo_before_58 : decode b_Mo_before 58 = .ok (.lconst 0, 1) := by decide +kernel
theorem d_Mo_before_59 : decode b_Mo_before 59 = .ok (.lcmp, 1) := by decide +kernel
theorem d_Mo_before_60 : decode b_Mo_before 60 = .ok (.ifCond .ge 7, 3) := by decide +kernel
theorem d_Mo_before_63 : decode b_Mo_before 63 = .ok (.iconst 1, 1) := by decide +kernel
theorem d_Mo_before_64 : decode b_Mo_before 64 = .ok (.goto 4, 3) := by decide +kernel
theorem d_Mo_before_67 : decode b_Mo_before 67 = .ok (.iconst 0, 1) := by decide +kernel
theorem d_Mo_before_68 : decode b_Mo_before 68 = .ok (.if_icmp .eq 7, 3) := by decide +kernel
theorem d_Mo_before_71 : decode b_Mo_before 71 = .ok (.iconst 1, 1) := by decide +kernel
theorem d_Mo_before_72 : decode b_Mo_before 72 = .ok (.goto 4, 3) := by decide +kernel
theorem d_Mo_before_75 : decode b_Mo_before 75 = .ok (.iconst 0, 1) := by decide +kernel
theorem d_Mo_before_76 : decode b_Mo_before 76 = .ok (.if_icmp .eq 7, 3) := by decide +kernel
theorem d_Mo_before_79 : decode b_Mo_before 79 = .ok (.iconst 1, 1) := by decide +kernel
theorem d_Mo_before_80 : decode b_Mo_before 80 = .ok (.goto 4, 3) := by decide +kernel
theorem d_Mo_before_83 : decode b_Mo_before 83 = .ok (.iconst 0, 1) := by decide +kernel
theorem d_Mo_before_84 : decode b_Mo_before 84 = .ok (.ireturn, 1) := by decide +kernel
theorem d_Mo_before_85 : decode b_Mo_before 85 = .ok (.iinc 2 1, 3) := by decide +kernel
theorem d_Mo_before_88 : decode b_Mo_before 88 = .ok (.goto (-86), 3) := by decide +kernel
theorem d_Mo_before_91 : decode b_Mo_before 91 = .ok (.aload_n 0, 1) := by decide +kernel
theorem d_Mo_before_92 : decode b_Mo_before 92 = .ok (.getfield 34, 3) := by decide +kernel
theorem d_Mo_before_95 : decode b_Mo_before 95 = .ok (.iload_n 1, 1) := by decide +kernel
theorem d_Mo_before_96 : decode b_Mo_before 96 = .ok (.iaload, 1) := by decide +kernel
theorem d_Mo_before_97 : decode b_Mo_before 97 = .ok (.aload_n 0, 1) := by decide +kernel
theorem d_Mo_before_98 : decode b_Mo_before 98 = .ok (.getfield 79, 3) := by decide +kernel
theorem d_Mo_before_101 : decode b_Mo_before 101 = .ok (.if_icmp .ge 7, 3) := by decide +kernel
theorem d_Mo_before_104 : decode b_Mo_before 104 = .ok (.iconst 1, 1) := by decide +kernel
theorem d_Mo_before_105 : decode b_Mo_before 105 = .ok (.goto 4, 3) := by decide +kernel
theorem d_Mo_before_108 : decode b_Mo_before 108 = .ok (.iconst 0, 1) := by decide +kernel
theorem d_Mo_before_109 : decode b_Mo_before 109 = .ok (.ireturn, 1) := by decide +kernel
abbrev b_Mo_isAt : ByteArray := prog_8_method_9_code
def y_Mo_isAt : MethodName := ⟨"TwinKeepersModel", "isAt", "(II)Z"⟩
theorem kc_Mo_isAt : Cond.code y_Mo_isAt b_Mo_isAt 5 (some .boolean) ∈ xT := xin 1087 (by decide +kernel) (by decide +kernel)
theorem k_Mo_isAt : xCode y_Mo_isAt b_Mo_isAt 5 (some .boolean) [] := Or.inl ⟨rfl, kc_Mo_isAt⟩
theorem h_Mo_isAt : plainFor y_Mo_isAt = true ∧ (y_Mo_isAt.cls ≠ "java/lang/invoke/MethodHandle" ∧ y_Mo_isAt.cls ≠ "java/lang/invoke/VarHandle") ∧ (parseMethodDescriptor y_Mo_isAt.desc).map (fun d => d.parameters.length) = some 2 := by decide +kernel
theorem v_Mo_isAt : Cond.instanceMethod y_Mo_isAt ∈ xT := xin 1086 (by decide +kernel) (by decide +kernel)
theorem e_Mo_isAt : Cond.selects "TwinKeepersModel" y_Mo_isAt y_Mo_isAt ∈ xT := xinp 29 (by decide +kernel) (by decide +kernel)
theorem d_Mo_isAt_0 : decode b_Mo_isAt 0 = .ok (.iload_n 2, 1) := by decide +kernel
theorem d_Mo_isAt_1 : decode b_Mo_isAt 1 = .ok (.aload_n 0, 1) := by decide +kernel
theorem d_Mo_isAt_2 : decode b_Mo_isAt 2 = .ok (.getfield 31, 3) := by decide +kernel
theorem d_Mo_isAt_5 : decode b_Mo_isAt 5 = .ok (.iload_n 1, 1) := by decide +kernel
theorem d_Mo_isAt_6 : decode b_Mo_isAt 6 = .ok (.iaload, 1) := by decide +kernel
theorem d_Mo_isAt_7 : decode b_Mo_isAt 7 = .ok (.if_icmp .ge 22, 3) := by decide +kernel
theorem d_Mo_isAt_10 : decode b_Mo_isAt 10 = .ok (.aload_n 0, 1) := by decide +kernel
theorem d_Mo_isAt_11 : decode b_Mo_isAt 11 = .ok (.getfield 34, 3) := by decide +kernel
theorem d_Mo_isAt_14 : decode b_Mo_isAt 14 = .ok (.sipush 128, 3) := by decide +kernel
theorem d_Mo_isAt_17 : decode b_Mo_isAt 17 = .ok (.iload_n 1, 1) := by decide +kernel
theorem d_Mo_isAt_18 : decode b_Mo_isAt 18 = .ok (.imul, 1) := by decide +kernel
theorem d_Mo_isAt_19 : decode b_Mo_isAt 19 = .ok (.iload_n 2, 1) := by decide +kernel
theorem d_Mo_isAt_20 : decode b_Mo_isAt 20 = .ok (.iadd, 1) := by decide +kernel
theorem d_Mo_isAt_21 : decode b_Mo_isAt 21 = .ok (.iaload, 1) := by decide +kernel
theorem d_Mo_isAt_22 : decode b_Mo_isAt 22 = .ok (.aload_n 0, 1) := by decide +kernel
theorem d_Mo_isAt_23 : decode b_Mo_isAt 23 = .ok (.getfield 79, 3) := by decide +kernel
theorem d_Mo_isAt_26 : decode b_Mo_isAt 26 = .ok (.if_icmp .eq 5, 3) := by decide +kernel
theorem d_Mo_isAt_29 : decode b_Mo_isAt 29 = .ok (.iconst 0, 1) := by decide +kernel
theorem d_Mo_isAt_30 : decode b_Mo_isAt 30 = .ok (.ireturn, 1) := by decide +kernel
theorem d_Mo_isAt_31 : decode b_Mo_isAt 31 = .ok (.iconst 1, 1) := by decide +kernel
theorem d_Mo_isAt_32 : decode b_Mo_isAt 32 = .ok (.istore_n 3, 1) := by decide +kernel
theorem d_Mo_isAt_33 : decode b_Mo_isAt 33 = .ok (.iconst 0, 1) := by decide +kernel
theorem d_Mo_isAt_34 : decode b_Mo_isAt 34 = .ok (.istore 4, 2) := by decide +kernel
theorem d_Mo_isAt_36 : decode b_Mo_isAt 36 = .ok (.iload 4, 2) := by decide +kernel
theorem d_Mo_isAt_38 : decode b_Mo_isAt 38 = .ok (.iconst 4, 1) := by decide +kernel
theorem d_Mo_isAt_39 : decode b_Mo_isAt 39 = .ok (.if_icmp .ge 47, 3) := by decide +kernel
theorem d_Mo_isAt_42 : decode b_Mo_isAt 42 = .ok (.iload_n 3, 1) := by decide +kernel
theorem d_Mo_isAt_43 : decode b_Mo_isAt 43 = .ok (.ifCond .eq 35, 3) := by decide +kernel
theorem d_Mo_isAt_46 : decode b_Mo_isAt 46 = .ok (.aload_n 0, 1) := by decide +kernel
theorem d_Mo_isAt_47 : decode b_Mo_isAt 47 = .ok (.getfield 37, 3) := by decide +kernel
theorem d_Mo_isAt_50 : decode b_Mo_isAt 50 = .ok (.iconst 4, 1) := by decide +kernel
theorem d_Mo_isAt_51 : decode b_Mo_isAt 51 = .ok (.sipush 128, 3) := by decide +kernel
theorem d_Mo_isAt_54 : decode b_Mo_isAt 54 = .ok (.iload_n 1, 1) := by decide +kernel
theorem d_Mo_isAt_55 : decode b_Mo_isAt 55 = .ok (.imul, 1) := by decide +kernel
theorem d_Mo_isAt_56 : decode b_Mo_isAt 56 = .ok (.iload_n 2, 1) := by decide +kernel
theorem d_Mo_isAt_57 : decode b_Mo_isAt 57 = .ok (.iadd, 1) := by decide +kernel
theorem d_Mo_isAt_58 : decode b_Mo_isAt 58 = .ok (.imul, 1) := by decide +kernel
theorem d_Mo_isAt_59 : decode b_Mo_isAt 59 = .ok (.iload 4, 2) := by decide +kernel
theorem d_Mo_isAt_61 : decode b_Mo_isAt 61 = .ok (.iadd, 1) := by decide +kernel
theorem d_Mo_isAt_62 : decode b_Mo_isAt 62 = .ok (.laload, 1) := by decide +kernel
theorem d_Mo_isAt_63 : decode b_Mo_isAt 63 = .ok (.aload_n 0, 1) := by decide +kernel
theorem d_Mo_isAt_64 : decode b_Mo_isAt 64 = .ok (.getfield 53, 3) := by decide +kernel
theorem d_Mo_isAt_67 : decode b_Mo_isAt 67 = .ok (.iload 4, 2) := by decide +kernel
theorem d_Mo_isAt_69 : decode b_Mo_isAt 69 = .ok (.laload, 1) := by decide +kernel
theorem d_Mo_isAt_70 : decode b_Mo_isAt 70 = .ok (.lcmp, 1) := by decide +kernel
theorem d_Mo_isAt_71 : decode b_Mo_isAt 71 = .ok (.ifCond .ne 7, 3) := by decide +kernel
theorem d_Mo_isAt_74 : decode b_Mo_isAt 74 = .ok (.iconst 1, 1) := by decide +kernel
theorem d_Mo_isAt_75 : decode b_Mo_isAt 75 = .ok (.goto 4, 3) := by decide +kernel
theorem d_Mo_isAt_78 : decode b_Mo_isAt 78 = .ok (.iconst 0, 1) := by decide +kernel
theorem d_Mo_isAt_79 : decode b_Mo_isAt 79 = .ok (.istore_n 3, 1) := by decide +kernel
theorem d_Mo_isAt_80 : decode b_Mo_isAt 80 = .ok (.iinc 4 1, 3) := by decide +kernel
theorem d_Mo_isAt_83 : decode b_Mo_isAt 83 = .ok (.goto (-47), 3) := by decide +kernel
theorem d_Mo_isAt_86 : decode b_Mo_isAt 86 = .ok (.iload_n 3, 1) := by decide +kernel
theorem d_Mo_isAt_87 : decode b_Mo_isAt 87 = .ok (.ireturn, 1) := by decide +kernel
abbrev b_Mo_tellValue : ByteArray := prog_8_method_17_code
def y_Mo_tellValue : MethodName := ⟨"TwinKeepersModel", "tellValue", "(I)V"⟩
theorem kc_Mo_tellValue : Cond.code y_Mo_tellValue b_Mo_tellValue 3 none ∈ xT := xin 1091 (by decide +kernel) (by decide +kernel)
theorem k_Mo_tellValue : xCode y_Mo_tellValue b_Mo_tellValue 3 none [] := Or.inl ⟨rfl, kc_Mo_tellValue⟩
theorem h_Mo_tellValue : plainFor y_Mo_tellValue = true ∧ (y_Mo_tellValue.cls ≠ "java/lang/invoke/MethodHandle" ∧ y_Mo_tellValue.cls ≠ "java/lang/invoke/VarHandle") ∧ (parseMethodDescriptor y_Mo_tellValue.desc).map (fun d => d.parameters.length) = some 1 := by decide +kernel
theorem v_Mo_tellValue : Cond.instanceMethod y_Mo_tellValue ∈ xT := xin 1090 (by decide +kernel) (by decide +kernel)
theorem e_Mo_tellValue : Cond.selects "TwinKeepersModel" y_Mo_tellValue y_Mo_tellValue ∈ xT := xinp 30 (by decide +kernel) (by decide +kernel)
theorem d_Mo_tellValue_0 : decode b_Mo_tellValue 0 = .ok (.iconst 0, 1) := by decide +kernel
theorem d_Mo_tellValue_1 : decode b_Mo_tellValue 1 = .ok (.istore_n 2, 1) := by decide +kernel
theorem d_Mo_tellValue_2 : decode b_Mo_tellValue 2 = .ok (.iload_n 2, 1) := by decide +kernel
theorem d_Mo_tellValue_3 : decode b_Mo_tellValue 3 = .ok (.aload_n 0, 1) := by decide +kernel
theorem d_Mo_tellValue_4 : decode b_Mo_tellValue 4 = .ok (.getfield 41, 3) := by decide +kernel
theorem d_Mo_tellValue_7 : decode b_Mo_tellValue 7 = .ok (.iload_n 1, 1) := by decide +kernel
theorem d_Mo_tellValue_8 : decode b_Mo_tellValue 8 = .ok (.iaload, 1) := by decide +kernel
theorem d_Mo_tellValue_9 : decode b_Mo_tellValue 9 = .ok (.if_icmp .ge 19, 3) := by decide +kernel
theorem d_Mo_tellValue_12 : decode b_Mo_tellValue 12 = .ok (.aload_n 0, 1) := by decide +kernel
theorem d_Mo_tellValue_13 : decode b_Mo_tellValue 13 = .ok (.aload_n 0, 1) := by decide +kernel
theorem d_Mo_tellValue_14 : decode b_Mo_tellValue 14 = .ok (.iload_n 1, 1) := by decide +kernel
theorem d_Mo_tellValue_15 : decode b_Mo_tellValue 15 = .ok (.iload_n 2, 1) := by decide +kernel
theorem d_Mo_tellValue_16 : decode b_Mo_tellValue 16 = .ok (.invokevirtual 92, 3) := by decide +kernel
theorem q_1092 : Cond.methodLink "TwinKeepersModel" 92 ⟨"TwinKeepersModel", "valueByte", "(II)I"⟩ ∈ xT := xin 1092 (by decide +kernel) (by decide +kernel)
theorem d_Mo_tellValue_19 : decode b_Mo_tellValue 19 = .ok (.invokevirtual 96, 3) := by decide +kernel
theorem d_Mo_tellValue_22 : decode b_Mo_tellValue 22 = .ok (.iinc 2 1, 3) := by decide +kernel
theorem d_Mo_tellValue_25 : decode b_Mo_tellValue 25 = .ok (.goto (-23), 3) := by decide +kernel
theorem d_Mo_tellValue_28 : decode b_Mo_tellValue 28 = .ok (.return_, 1) := by decide +kernel
abbrev b_Mo_valueByte : ByteArray := prog_8_method_11_code
def y_Mo_valueByte : MethodName := ⟨"TwinKeepersModel", "valueByte", "(II)I"⟩
theorem kc_Mo_valueByte : Cond.code y_Mo_valueByte b_Mo_valueByte 3 (some .int) ∈ xT := xin 1095 (by decide +kernel) (by decide +kernel)
theorem k_Mo_valueByte : xCode y_Mo_valueByte b_Mo_valueByte 3 (some .int) [] := Or.inl ⟨rfl, kc_Mo_valueByte⟩
theorem h_Mo_valueByte : plainFor y_Mo_valueByte = true ∧ (y_Mo_valueByte.cls ≠ "java/lang/invoke/MethodHandle" ∧ y_Mo_valueByte.cls ≠ "java/lang/invoke/VarHandle") ∧ (parseMethodDescriptor y_Mo_valueByte.desc).map (fun d => d.parameters.length) = some 2 := by decide +kernel
theorem v_Mo_valueByte : Cond.instanceMethod y_Mo_valueByte ∈ xT := xin 1094 (by decide +kernel) (by decide +kernel)
theorem e_Mo_valueByte : Cond.selects "TwinKeepersModel" y_Mo_valueByte y_Mo_valueByte ∈ xT := xinp 31 (by decide +kernel) (by decide +kernel)
theorem d_Mo_valueByte_0 : decode b_Mo_valueByte 0 = .ok (.aload_n 0, 1) := by decide +kernel
theorem d_Mo_valueByte_1 : decode b_Mo_valueByte 1 = .ok (.getfield 44, 3) := by decide +kernel
theorem d_Mo_valueByte_4 : decode b_Mo_valueByte 4 = .ok (.bipush 13, 2) := by decide +kernel
theorem d_Mo_valueByte_6 : decode b_Mo_valueByte 6 = .ok (.iload_n 1, 1) := by decide +kernel
theorem d_Mo_valueByte_7 : decode b_Mo_valueByte 7 = .ok (.imul, 1) := by decide +kernel
theorem d_Mo_valueByte_8 : decode b_Mo_valueByte 8 = .ok (.iload_n 2, 1) := by decide +kernel
theorem d_Mo_valueByte_9 : decode b_Mo_valueByte 9 = .ok (.bipush 8, 2) := by decide +kernel
theorem d_Mo_valueByte_11 : decode b_Mo_valueByte 11 = .ok (.idiv, 1) := by decide +kernel
theorem d_Mo_valueByte_12 : decode b_Mo_valueByte 12 = .ok (.iadd, 1) := by decide +kernel
theorem d_Mo_valueByte_13 : decode b_Mo_valueByte 13 = .ok (.laload, 1) := by decide +kernel
theorem d_Mo_valueByte_14 : decode b_Mo_valueByte 14 = .ok (.bipush 8, 2) := by decide +kernel
theorem d_Mo_valueByte_16 : decode b_Mo_valueByte 16 = .ok (.iload_n 2, 1) := by decide +kernel
theorem d_Mo_valueByte_17 : decode b_Mo_valueByte 17 = .ok (.bipush 8, 2) := by decide +kernel
theorem d_Mo_valueByte_19 : decode b_Mo_valueByte 19 = .ok (.irem, 1) := by decide +kernel
theorem d_Mo_valueByte_20 : decode b_Mo_valueByte 20 = .ok (.imul, 1) := by decide +kernel
theorem d_Mo_valueByte_21 : decode b_Mo_valueByte 21 = .ok (.lshr, 1) := by decide +kernel
theorem d_Mo_valueByte_22 : decode b_Mo_valueByte 22 = .ok (.ldc2_w 77, 3) := by decide +kernel
theorem d_Mo_valueByte_25 : decode b_Mo_valueByte 25 = .ok (.land, 1) := by decide +kernel
theorem d_Mo_valueByte_26 : decode b_Mo_valueByte 26 = .ok (.l2i, 1) := by decide +kernel
theorem d_Mo_valueByte_27 : decode b_Mo_valueByte 27 = .ok (.ireturn, 1) := by decide +kernel
abbrev b_Mo_put : ByteArray := prog_8_method_18_code
def y_Mo_put : MethodName := ⟨"TwinKeepersModel", "put", "(III)Z"⟩
theorem kc_Mo_put : Cond.code y_Mo_put b_Mo_put 9 (some .boolean) ∈ xT := xin 1099 (by decide +kernel) (by decide +kernel)
theorem k_Mo_put : xCode y_Mo_put b_Mo_put 9 (some .boolean) [] := Or.inl ⟨rfl, kc_Mo_put⟩
theorem h_Mo_put : plainFor y_Mo_put = true ∧ (y_Mo_put.cls ≠ "java/lang/invoke/MethodHandle" ∧ y_Mo_put.cls ≠ "java/lang/invoke/VarHandle") ∧ (parseMethodDescriptor y_Mo_put.desc).map (fun d => d.parameters.length) = some 3 := by decide +kernel
theorem v_Mo_put : Cond.instanceMethod y_Mo_put ∈ xT := xin 1098 (by decide +kernel) (by decide +kernel)
theorem e_Mo_put : Cond.selects "TwinKeepersModel" y_Mo_put y_Mo_put ∈ xT := xinp 32 (by decide +kernel) (by decide +kernel)
theorem d_Mo_put_0 : decode b_Mo_put 0 = .ok (.aload_n 0, 1) := by decide +kernel
theorem d_Mo_put_1 : decode b_Mo_put 1 = .ok (.iload_n 1, 1) := by decide +kernel
theorem d_Mo_put_2 : decode b_Mo_put 2 = .ok (.invokevirtual 100, 3) := by decide +kernel
theorem d_Mo_put_5 : decode b_Mo_put 5 = .ok (.istore 4, 2) := by decide +kernel
theorem d_Mo_put_7 : decode b_Mo_put 7 = .ok (.aload_n 0, 1) := by decide +kernel
theorem d_Mo_put_8 : decode b_Mo_put 8 = .ok (.iload_n 1, 1) := by decide +kernel
theorem d_Mo_put_9 : decode b_Mo_put 9 = .ok (.iload 4, 2) := by decide +kernel
theorem d_Mo_put_11 : decode b_Mo_put 11 = .ok (.invokevirtual 103, 3) := by decide +kernel
theorem d_Mo_put_14 : decode b_Mo_put 14 = .ok (.istore 5, 2) := by decide +kernel
theorem d_Mo_put_16 : decode b_Mo_put 16 = .ok (.sipush 128, 3) := by decide +kernel
theorem d_Mo_put_19 : decode b_Mo_put 19 = .ok (.iload_n 1, 1) := by decide +kernel
theorem d_Mo_put_20 : decode b_Mo_put 20 = .ok (.imul, 1) := by decide +kernel
theorem d_Mo_put_21 : decode b_Mo_put 21 = .ok (.iload 4, 2) := by decide +kernel
theorem d_Mo_put_23 : decode b_Mo_put 23 = .ok (.iadd, 1) := by decide +kernel
theorem d_Mo_put_24 : decode b_Mo_put 24 = .ok (.istore 6, 2) := by decide +kernel
theorem d_Mo_put_26 : decode b_Mo_put 26 = .ok (.aload_n 0, 1) := by decide +kernel
theorem d_Mo_put_27 : decode b_Mo_put 27 = .ok (.iload_n 1, 1) := by decide +kernel
theorem d_Mo_put_28 : decode b_Mo_put 28 = .ok (.invokevirtual 107, 3) := by decide +kernel
theorem q_1100 : Cond.methodLink "TwinKeepersModel" 107 ⟨"TwinKeepersModel", "units", "(I)I"⟩ ∈ xT := xin 1100 (by decide +kernel) (by decide +kernel)
theorem d_Mo_put_31 : decode b_Mo_put 31 = .ok (.aload_n 0, 1) := by decide +kernel
theorem d_Mo_put_32 : decode b_Mo_put 32 = .ok (.getfield 79, 3) := by decide +kernel
theorem d_Mo_put_35 : decode b_Mo_put 35 = .ok (.iload_n 3, 1) := by decide +kernel
theorem d_Mo_put_36 : decode b_Mo_put 36 = .ok (.iadd, 1) := by decide +kernel
theorem d_Mo_put_37 : decode b_Mo_put 37 = .ok (.invokestatic 86, 3) := by decide +kernel
theorem q_1104 : Cond.methodLink "TwinKeepersModel" 86 ⟨"TwinKeepersModel", "unitsOf", "(I)I"⟩ ∈ xT := xin 1104 (by decide +kernel) (by decide +kernel)
theorem d_Mo_put_40 : decode b_Mo_put 40 = .ok (.iadd, 1) := by decide +kernel
theorem d_Mo_put_41 : decode b_Mo_put 41 = .ok (.iload 5, 2) := by decide +kernel
theorem d_Mo_put_43 : decode b_Mo_put 43 = .ok (.ifCond .eq 24, 3) := by decide +kernel
theorem d_Mo_put_46 : decode b_Mo_put 46 = .ok (.aload_n 0, 1) := by decide +kernel
theorem d_Mo_put_47 : decode b_Mo_put 47 = .ok (.getfield 34, 3) := by decide +kernel
theorem d_Mo_put_50 : decode b_Mo_put 50 = .ok (.iload 6, 2) := by decide +kernel
theorem d_Mo_put_52 : decode b_Mo_put 52 = .ok (.iaload, 1) := by decide +kernel
theorem d_Mo_put_53 : decode b_Mo_put 53 = .ok (.aload_n 0, 1) := by decide +kernel
theorem d_Mo_put_54 : decode b_Mo_put 54 = .ok (.getfield 41, 3) := by decide +kernel
theorem d_Mo_put_57 : decode b_Mo_put 57 = .ok (.iload 6, 2) := by decide +kernel
theorem d_Mo_put_59 : decode b_Mo_put 59 = .ok (.iaload, 1) := by decide +kernel
theorem d_Mo_put_60 : decode b_Mo_put 60 = .ok (.iadd, 1) := by decide +kernel
theorem d_Mo_put_61 : decode b_Mo_put 61 = .ok (.invokestatic 86, 3) := by decide +kernel
theorem d_Mo_put_64 : decode b_Mo_put 64 = .ok (.goto 4, 3) := by decide +kernel
theorem d_Mo_put_67 : decode b_Mo_put 67 = .ok (.iconst 0, 1) := by decide +kernel
theorem d_Mo_put_68 : decode b_Mo_put 68 = .ok (.isub, 1) := by decide +kernel
theorem d_Mo_put_69 : decode b_Mo_put 69 = .ok (.istore 7, 2) := by decide +kernel
theorem d_Mo_put_71 : decode b_Mo_put 71 = .ok (.iload 7, 2) := by decide +kernel
theorem d_Mo_put_73 : decode b_Mo_put 73 = .ok (.sipush 700, 3) := by decide +kernel
theorem d_Mo_put_76 : decode b_Mo_put 76 = .ok (.if_icmp .gt 20, 3) := by decide +kernel
theorem d_Mo_put_79 : decode b_Mo_put 79 = .ok (.iload 5, 2) := by decide +kernel
theorem d_Mo_put_81 : decode b_Mo_put 81 = .ok (.ifCond .ne 17, 3) := by decide +kernel
theorem d_Mo_put_84 : decode b_Mo_put 84 = .ok (.aload_n 0, 1) := by decide +kernel
theorem d_Mo_put_85 : decode b_Mo_put 85 = .ok (.getfield 31, 3) := by decide +kernel
theorem d_Mo_put_88 : decode b_Mo_put 88 = .ok (.iload_n 1, 1) := by decide +kernel
theorem d_Mo_put_89 : decode b_Mo_put 89 = .ok (.iaload, 1) := by decide +kernel
theorem d_Mo_put_90 : decode b_Mo_put 90 = .ok (.sipush 128, 3) := by decide +kernel
theorem d_Mo_put_93 : decode b_Mo_put 93 = .ok (.if_icmp .ne 5, 3) := by decide +kernel
theorem d_Mo_put_96 : decode b_Mo_put 96 = .ok (.iconst 0, 1) := by decide +kernel
theorem d_Mo_put_97 : decode b_Mo_put 97 = .ok (.ireturn, 1) := by decide +kernel
theorem d_Mo_put_98 : decode b_Mo_put 98 = .ok (.iload 5, 2) := by decide +kernel
theorem d_Mo_put_100 : decode b_Mo_put 100 = .ok (.ifCond .ne 95, 3) := by decide +kernel
theorem d_Mo_put_103 : decode b_Mo_put 103 = .ok (.sipush 128, 3) := by decide +kernel
theorem d_Mo_put_106 : decode b_Mo_put 106 = .ok (.iload_n 1, 1) := by decide +kernel
theorem d_Mo_put_107 : decode b_Mo_put 107 = .ok (.imul, 1) := by decide +kernel
theorem d_Mo_put_108 : decode b_Mo_put 108 = .ok (.aload_n 0, 1) := by decide +kernel
theorem d_Mo_put_109 : decode b_Mo_put 109 = .ok (.getfield 31, 3) := by decide +kernel
theorem d_Mo_put_112 : decode b_Mo_put 112 = .ok (.iload_n 1, 1) := by decide +kernel
theorem d_Mo_put_113 : decode b_Mo_put 113 = .ok (.iaload, 1) := by decide +kernel
theorem d_Mo_put_114 : decode b_Mo_put 114 = .ok (.iadd, 1) := by decide +kernel
theorem d_Mo_put_115 : decode b_Mo_put 115 = .ok (.istore 8, 2) := by decide +kernel
theorem d_Mo_put_117 : decode b_Mo_put 117 = .ok (.iload 8, 2) := by decide +kernel
theorem d_Mo_put_119 : decode b_Mo_put 119 = .ok (.iload 6, 2) := by decide +kernel
theorem d_Mo_put_121 : decode b_Mo_put 121 = .ok (.if_icmp .le 19, 3) := by decide +kernel
theorem d_Mo_put_124 : decode b_Mo_put 124 = .ok (.aload_n 0, 1) := by decide +kernel
theorem d_Mo_put_125 : decode b_Mo_put 125 = .ok (.iload 8, 2) := by decide +kernel
theorem d_Mo_put_127 : decode b_Mo_put 127 = .ok (.iconst 1, 1) := by decide +kernel
theorem d_Mo_put_128 : decode b_Mo_put 128 = .ok (.isub, 1) := by decide +kernel
theorem d_Mo_put_129 : decode b_Mo_put 129 = .ok (.iload 8, 2) := by decide +kernel
theorem d_Mo_put_131 : decode b_Mo_put 131 = .ok (.invokevirtual 110, 3) := by decide +kernel
theorem q_1107 : Cond.methodLink "TwinKeepersModel" 110 ⟨"TwinKeepersModel", "copyKey", "(II)V"⟩ ∈ xT := xin 1107 (by decide +kernel) (by decide +kernel)
theorem d_Mo_put_134 : decode b_Mo_put 134 = .ok (.iinc 8 (-1), 3) := by decide +kernel
theorem d_Mo_put_137 : decode b_Mo_put 137 = .ok (.goto (-20), 3) := by decide +kernel
theorem d_Mo_put_140 : decode b_Mo_put 140 = .ok (.aload_n 0, 1) := by decide +kernel
theorem d_Mo_put_141 : decode b_Mo_put 141 = .ok (.getfield 31, 3) := by decide +kernel
theorem d_Mo_put_144 : decode b_Mo_put 144 = .ok (.iload_n 1, 1) := by decide +kernel
theorem d_Mo_put_145 : decode b_Mo_put 145 = .ok (.dup2, 1) := by decide +kernel
theorem d_Mo_put_146 : decode b_Mo_put 146 = .ok (.iaload, 1) := by decide +kernel
theorem d_Mo_put_147 : decode b_Mo_put 147 = .ok (.iconst 1, 1) := by decide +kernel
theorem d_Mo_put_148 : decode b_Mo_put 148 = .ok (.iadd, 1) := by decide +kernel
theorem d_Mo_put_149 : decode b_Mo_put 149 = .ok (.iastore, 1) := by decide +kernel
theorem d_Mo_put_150 : decode b_Mo_put 150 = .ok (.aload_n 0, 1) := by decide +kernel
theorem d_Mo_put_151 : decode b_Mo_put 151 = .ok (.getfield 34, 3) := by decide +kernel
theorem d_Mo_put_154 : decode b_Mo_put 154 = .ok (.iload 6, 2) := by decide +kernel
theorem d_Mo_put_156 : decode b_Mo_put 156 = .ok (.aload_n 0, 1) := by decide +kernel
theorem d_Mo_put_157 : decode b_Mo_put 157 = .ok (.getfield 79, 3) := by decide +kernel
theorem d_Mo_put_160 : decode b_Mo_put 160 = .ok (.iastore, 1) := by decide +kernel
theorem d_Mo_put_161 : decode b_Mo_put 161 = .ok (.iconst 0, 1) := by decide +kernel
theorem d_Mo_put_162 : decode b_Mo_put 162 = .ok (.istore 8, 2) := by decide +kernel
theorem d_Mo_put_164 : decode b_Mo_put 164 = .ok (.iload 8, 2) := by decide +kernel
theorem d_Mo_put_166 : decode b_Mo_put 166 = .ok (.iconst 4, 1) := by decide +kernel
theorem d_Mo_put_167 : decode b_Mo_put 167 = .ok (.if_icmp .ge 28, 3) := by decide +kernel
theorem d_Mo_put_170 : decode b_Mo_put 170 = .ok (.aload_n 0, 1) := by decide +kernel
theorem d_Mo_put_171 : decode b_Mo_put 171 = .ok (.getfield 37, 3) := by decide +kernel
theorem d_Mo_put_174 : decode b_Mo_put 174 = .ok (.iconst 4, 1) := by decide +kernel
theorem d_Mo_put_175 : decode b_Mo_put 175 = .ok (.iload 6, 2) := by decide +kernel
theorem d_Mo_put_177 : decode b_Mo_put 177 = .ok (.imul, 1) := by decide +kernel
theorem d_Mo_put_178 : decode b_Mo_put 178 = .ok (.iload 8, 2) := by decide +kernel
theorem d_Mo_put_180 : decode b_Mo_put 180 = .ok (.iadd, 1) := by decide +kernel
theorem d_Mo_put_181 : decode b_Mo_put 181 = .ok (.aload_n 0, 1) := by decide +kernel
theorem d_Mo_put_182 : decode b_Mo_put 182 = .ok (.getfield 53, 3) := by decide +kernel
theorem d_Mo_put_185 : decode b_Mo_put 185 = .ok (.iload 8, 2) := by decide +kernel
theorem d_Mo_put_187 : decode b_Mo_put 187 = .ok (.laload, 1) := by decide +kernel
theorem d_Mo_put_188 : decode b_Mo_put 188 = .ok (.lastore, 1) := by decide +kernel
theorem d_Mo_put_189 : decode b_Mo_put 189 = .ok (.iinc 8 1, 3) := by decide +kernel
theorem d_Mo_put_192 : decode b_Mo_put 192 = .ok (.goto (-28), 3) := by decide +kernel
theorem d_Mo_put_195 : decode b_Mo_put 195 = .ok (.aload_n 0, 1) := by decide +kernel
theorem d_Mo_put_196 : decode b_Mo_put 196 = .ok (.iload 6, 2) := by decide +kernel
theorem d_Mo_put_198 : decode b_Mo_put 198 = .ok (.iload_n 2, 1) := by decide +kernel
theorem d_Mo_put_199 : decode b_Mo_put 199 = .ok (.iload_n 3, 1) := by decide +kernel
theorem d_Mo_put_200 : decode b_Mo_put 200 = .ok (.invokevirtual 114, 3) := by decide +kernel
theorem q_1111 : Cond.methodLink "TwinKeepersModel" 114 ⟨"TwinKeepersModel", "setValue", "(III)V"⟩ ∈ xT := xin 1111 (by decide +kernel) (by decide +kernel)
theorem d_Mo_put_203 : decode b_Mo_put 203 = .ok (.iconst 1, 1) := by decide +kernel
theorem d_Mo_put_204 : decode b_Mo_put 204 = .ok (.ireturn, 1) := by decide +kernel
abbrev b_Mo_units : ByteArray := prog_8_method_15_code
def y_Mo_units : MethodName := ⟨"TwinKeepersModel", "units", "(I)I"⟩
theorem kc_Mo_units : Cond.code y_Mo_units b_Mo_units 4 (some .int) ∈ xT := xin 1103 (by decide +kernel) (by decide +kernel)
theorem k_Mo_units : xCode y_Mo_units b_Mo_units 4 (some .int) [] := Or.inl ⟨rfl, kc_Mo_units⟩
theorem h_Mo_units : plainFor y_Mo_units = true ∧ (y_Mo_units.cls ≠ "java/lang/invoke/MethodHandle" ∧ y_Mo_units.cls ≠ "java/lang/invoke/VarHandle") ∧ (parseMethodDescriptor y_Mo_units.desc).map (fun d => d.parameters.length) = some 1 := by decide +kernel
theorem v_Mo_units : Cond.instanceMethod y_Mo_units ∈ xT := xin 1102 (by decide +kernel) (by decide +kernel)
theorem e_Mo_units : Cond.selects "TwinKeepersModel" y_Mo_units y_Mo_units ∈ xT := xinp 33 (by decide +kernel) (by decide +kernel)
theorem d_Mo_units_0 : decode b_Mo_units 0 = .ok (.iconst 0, 1) := by decide +kernel
theorem d_Mo_units_1 : decode b_Mo_units 1 = .ok (.istore_n 2, 1) := by decide +kernel
theorem d_Mo_units_2 : decode b_Mo_units 2 = .ok (.sipush 128, 3) := by decide +kernel
theorem d_Mo_units_5 : decode b_Mo_units 5 = .ok (.iload_n 1, 1) := by decide +kernel
theorem d_Mo_units_6 : decode b_Mo_units 6 = .ok (.imul, 1) := by decide +kernel
theorem d_Mo_units_7 : decode b_Mo_units 7 = .ok (.istore_n 3, 1) := by decide +kernel
theorem d_Mo_units_8 : decode b_Mo_units 8 = .ok (.iload_n 3, 1) := by decide +kernel
theorem d_Mo_units_9 : decode b_Mo_units 9 = .ok (.sipush 128, 3) := by decide +kernel
theorem d_Mo_units_12 : decode b_Mo_units 12 = .ok (.iload_n 1, 1) := by decide +kernel
theorem d_Mo_units_13 : decode b_Mo_units 13 = .ok (.imul, 1) := by decide +kernel
theorem d_Mo_units_14 : decode b_Mo_units 14 = .ok (.aload_n 0, 1) := by decide +kernel
theorem d_Mo_units_15 : decode b_Mo_units 15 = .ok (.getfield 31, 3) := by decide +kernel
theorem d_Mo_units_18 : decode b_Mo_units 18 = .ok (.iload_n 1, 1) := by decide +kernel
theorem d_Mo_units_19 : decode b_Mo_units 19 = .ok (.iaload, 1) := by decide +kernel
theorem d_Mo_units_20 : decode b_Mo_units 20 = .ok (.iadd, 1) := by decide +kernel
theorem d_Mo_units_21 : decode b_Mo_units 21 = .ok (.if_icmp .ge 28, 3) := by decide +kernel
theorem d_Mo_units_24 : decode b_Mo_units 24 = .ok (.iload_n 2, 1) := by decide +kernel
theorem d_Mo_units_25 : decode b_Mo_units 25 = .ok (.aload_n 0, 1) := by decide +kernel
theorem d_Mo_units_26 : decode b_Mo_units 26 = .ok (.getfield 34, 3) := by decide +kernel
theorem d_Mo_units_29 : decode b_Mo_units 29 = .ok (.iload_n 3, 1) := by decide +kernel
theorem d_Mo_units_30 : decode b_Mo_units 30 = .ok (.iaload, 1) := by decide +kernel
theorem d_Mo_units_31 : decode b_Mo_units 31 = .ok (.aload_n 0, 1) := by decide +kernel
theorem d_Mo_units_32 : decode b_Mo_units 32 = .ok (.getfield 41, 3) := by decide +kernel
theorem d_Mo_units_35 : decode b_Mo_units 35 = .ok (.iload_n 3, 1) := by decide +kernel
theorem d_Mo_units_36 : decode b_Mo_units 36 = .ok (.iaload, 1) := by decide +kernel
theorem d_Mo_units_37 : decode b_Mo_units 37 = .ok (.iadd, 1) := by decide +kernel
theorem d_Mo_units_38 : decode b_Mo_units 38 = .ok (.invokestatic 86, 3) := by decide +kernel
theorem d_Mo_units_41 : decode b_Mo_units 41 = .ok (.iadd, 1) := by decide +kernel
theorem d_Mo_units_42 : decode b_Mo_units 42 = .ok (.istore_n 2, 1) := by decide +kernel
theorem d_Mo_units_43 : decode b_Mo_units 43 = .ok (.iinc 3 1, 3) := by decide +kernel
theorem d_Mo_units_46 : decode b_Mo_units 46 = .ok (.goto (-38), 3) := by decide +kernel
theorem d_Mo_units_49 : decode b_Mo_units 49 = .ok (.iload_n 2, 1) := by decide +kernel
theorem d_Mo_units_50 : decode b_Mo_units 50 = .ok (.ireturn, 1) := by decide +kernel
abbrev b_Mo_unitsOf : ByteArray := prog_8_method_14_code
def y_Mo_unitsOf : MethodName := ⟨"TwinKeepersModel", "unitsOf", "(I)I"⟩
theorem kc_Mo_unitsOf : Cond.code y_Mo_unitsOf b_Mo_unitsOf 1 (some .int) ∈ xT := xin 1106 (by decide +kernel) (by decide +kernel)
theorem k_Mo_unitsOf : xCode y_Mo_unitsOf b_Mo_unitsOf 1 (some .int) [] := Or.inl ⟨rfl, kc_Mo_unitsOf⟩
theorem h_Mo_unitsOf : plainFor y_Mo_unitsOf = true ∧ (y_Mo_unitsOf.cls ≠ "java/lang/invoke/MethodHandle" ∧ y_Mo_unitsOf.cls ≠ "java/lang/invoke/VarHandle") ∧ (parseMethodDescriptor y_Mo_unitsOf.desc).map (fun d => d.parameters.length) = some 1 := by decide +kernel
theorem s_Mo_unitsOf : Cond.static y_Mo_unitsOf ∈ xT := xin 1105 (by decide +kernel) (by decide +kernel)
theorem in_Mo_unitsOf : Cond.initialized y_Mo_unitsOf.cls ∈ xT := xin 8 (by decide +kernel) (by decide +kernel)
theorem d_Mo_unitsOf_0 : decode b_Mo_unitsOf 0 = .ok (.iload_n 0, 1) := by decide +kernel
theorem d_Mo_unitsOf_1 : decode b_Mo_unitsOf 1 = .ok (.bipush 15, 2) := by decide +kernel
theorem d_Mo_unitsOf_3 : decode b_Mo_unitsOf 3 = .ok (.iadd, 1) := by decide +kernel
theorem d_Mo_unitsOf_4 : decode b_Mo_unitsOf 4 = .ok (.bipush 16, 2) := by decide +kernel
theorem d_Mo_unitsOf_6 : decode b_Mo_unitsOf 6 = .ok (.idiv, 1) := by decide +kernel
theorem d_Mo_unitsOf_7 : decode b_Mo_unitsOf 7 = .ok (.ireturn, 1) := by decide +kernel
abbrev b_Mo_copyKey : ByteArray := prog_8_method_12_code
def y_Mo_copyKey : MethodName := ⟨"TwinKeepersModel", "copyKey", "(II)V"⟩
theorem kc_Mo_copyKey : Cond.code y_Mo_copyKey b_Mo_copyKey 4 none ∈ xT := xin 1110 (by decide +kernel) (by decide +kernel)
theorem k_Mo_copyKey : xCode y_Mo_copyKey b_Mo_copyKey 4 none [] := Or.inl ⟨rfl, kc_Mo_copyKey⟩
theorem h_Mo_copyKey : plainFor y_Mo_copyKey = true ∧ (y_Mo_copyKey.cls ≠ "java/lang/invoke/MethodHandle" ∧ y_Mo_copyKey.cls ≠ "java/lang/invoke/VarHandle") ∧ (parseMethodDescriptor y_Mo_copyKey.desc).map (fun d => d.parameters.length) = some 2 := by decide +kernel
theorem v_Mo_copyKey : Cond.instanceMethod y_Mo_copyKey ∈ xT := xin 1109 (by decide +kernel) (by decide +kernel)
theorem e_Mo_copyKey : Cond.selects "TwinKeepersModel" y_Mo_copyKey y_Mo_copyKey ∈ xT := xinp 34 (by decide +kernel) (by decide +kernel)
theorem d_Mo_copyKey_0 : decode b_Mo_copyKey 0 = .ok (.aload_n 0, 1) := by decide +kernel
theorem d_Mo_copyKey_1 : decode b_Mo_copyKey 1 = .ok (.getfield 34, 3) := by decide +kernel
theorem d_Mo_copyKey_4 : decode b_Mo_copyKey 4 = .ok (.iload_n 2, 1) := by decide +kernel
theorem d_Mo_copyKey_5 : decode b_Mo_copyKey 5 = .ok (.aload_n 0, 1) := by decide +kernel
theorem d_Mo_copyKey_6 : decode b_Mo_copyKey 6 = .ok (.getfield 34, 3) := by decide +kernel
theorem d_Mo_copyKey_9 : decode b_Mo_copyKey 9 = .ok (.iload_n 1, 1) := by decide +kernel
theorem d_Mo_copyKey_10 : decode b_Mo_copyKey 10 = .ok (.iaload, 1) := by decide +kernel
theorem d_Mo_copyKey_11 : decode b_Mo_copyKey 11 = .ok (.iastore, 1) := by decide +kernel
theorem d_Mo_copyKey_12 : decode b_Mo_copyKey 12 = .ok (.aload_n 0, 1) := by decide +kernel
theorem d_Mo_copyKey_13 : decode b_Mo_copyKey 13 = .ok (.getfield 41, 3) := by decide +kernel
theorem d_Mo_copyKey_16 : decode b_Mo_copyKey 16 = .ok (.iload_n 2, 1) := by decide +kernel
theorem d_Mo_copyKey_17 : decode b_Mo_copyKey 17 = .ok (.aload_n 0, 1) := by decide +kernel
theorem d_Mo_copyKey_18 : decode b_Mo_copyKey 18 = .ok (.getfield 41, 3) := by decide +kernel
theorem d_Mo_copyKey_21 : decode b_Mo_copyKey 21 = .ok (.iload_n 1, 1) := by decide +kernel
theorem d_Mo_copyKey_22 : decode b_Mo_copyKey 22 = .ok (.iaload, 1) := by decide +kernel
theorem d_Mo_copyKey_23 : decode b_Mo_copyKey 23 = .ok (.iastore, 1) := by decide +kernel
theorem d_Mo_copyKey_24 : decode b_Mo_copyKey 24 = .ok (.iconst 0, 1) := by decide +kernel
theorem d_Mo_copyKey_25 : decode b_Mo_copyKey 25 = .ok (.istore_n 3, 1) := by decide +kernel
theorem d_Mo_copyKey_26 : decode b_Mo_copyKey 26 = .ok (.iload_n 3, 1) := by decide +kernel
theorem d_Mo_copyKey_27 : decode b_Mo_copyKey 27 = .ok (.iconst 4, 1) := by decide +kernel
theorem d_Mo_copyKey_28 : decode b_Mo_copyKey 28 = .ok (.if_icmp .ge 29, 3) := by decide +kernel
theorem d_Mo_copyKey_31 : decode b_Mo_copyKey 31 = .ok (.aload_n 0, 1) := by decide +kernel
theorem d_Mo_copyKey_32 : decode b_Mo_copyKey 32 = .ok (.getfield 37, 3) := by decide +kernel
theorem d_Mo_copyKey_35 : decode b_Mo_copyKey 35 = .ok (.iconst 4, 1) := by decide +kernel
theorem d_Mo_copyKey_36 : decode b_Mo_copyKey 36 = .ok (.iload_n 2, 1) := by decide +kernel
theorem d_Mo_copyKey_37 : decode b_Mo_copyKey 37 = .ok (.imul, 1) := by decide +kernel
theorem d_Mo_copyKey_38 : decode b_Mo_copyKey 38 = .ok (.iload_n 3, 1) := by decide +kernel
theorem d_Mo_copyKey_39 : decode b_Mo_copyKey 39 = .ok (.iadd, 1) := by decide +kernel
theorem d_Mo_copyKey_40 : decode b_Mo_copyKey 40 = .ok (.aload_n 0, 1) := by decide +kernel
theorem d_Mo_copyKey_41 : decode b_Mo_copyKey 41 = .ok (.getfield 37, 3) := by decide +kernel
theorem d_Mo_copyKey_44 : decode b_Mo_copyKey 44 = .ok (.iconst 4, 1) := by decide +kernel
theorem d_Mo_copyKey_45 : decode b_Mo_copyKey 45 = .ok (.iload_n 1, 1) := by decide +kernel
theorem d_Mo_copyKey_46 : decode b_Mo_copyKey 46 = .ok (.imul, 1) := by decide +kernel
theorem d_Mo_copyKey_47 : decode b_Mo_copyKey 47 = .ok (.iload_n 3, 1) := by decide +kernel
theorem d_Mo_copyKey_48 : decode b_Mo_copyKey 48 = .ok (.iadd, 1) := by decide +kernel
theorem d_Mo_copyKey_49 : decode b_Mo_copyKey 49 = .ok (.laload, 1) := by decide +kernel
theorem d_Mo_copyKey_50 : decode b_Mo_copyKey 50 = .ok (.lastore, 1) := by decide +kernel
theorem d_Mo_copyKey_51 : decode b_Mo_copyKey 51 = .ok (.iinc 3 1, 3) := by decide +kernel
theorem d_Mo_copyKey_54 : decode b_Mo_copyKey 54 = .ok (.goto (-28), 3) := by decide +kernel
theorem d_Mo_copyKey_57 : decode b_Mo_copyKey 57 = .ok (.iconst 0, 1) := by decide +kernel
theorem d_Mo_copyKey_58 : decode b_Mo_copyKey 58 = .ok (.istore_n 3, 1) := by decide +kernel
theorem d_Mo_copyKey_59 : decode b_Mo_copyKey 59 = .ok (.iload_n 3, 1) := by decide +kernel
theorem d_Mo_copyKey_60 : decode b_Mo_copyKey 60 = .ok (.bipush 13, 2) := by decide +kernel
theorem d_Mo_copyKey_62 : decode b_Mo_copyKey 62 = .ok (.if_icmp .ge 31, 3) := by decide +kernel
theorem d_Mo_copyKey_65 : decode b_Mo_copyKey 65 = .ok (.aload_n 0, 1) := by decide +kernel
theorem d_Mo_copyKey_66 : decode b_Mo_copyKey 66 = .ok (.getfield 44, 3) := by decide +kernel
theorem d_Mo_copyKey_69 : decode b_Mo_copyKey 69 = .ok (.bipush 13, 2) := by decide +kernel
theorem d_Mo_copyKey_71 : decode b_Mo_copyKey 71 = .ok (.iload_n 2, 1) := by decide +kernel
theorem d_Mo_copyKey_72 : decode b_Mo_copyKey 72 = .ok (.imul, 1) := by decide +kernel
theorem d_Mo_copyKey_73 : decode b_Mo_copyKey 73 = .ok (.iload_n 3, 1) := by decide +kernel
theorem d_Mo_copyKey_74 : decode b_Mo_copyKey 74 = .ok (.iadd, 1) := by decide +kernel
theorem d_Mo_copyKey_75 : decode b_Mo_copyKey 75 = .ok (.aload_n 0, 1) := by decide +kernel
theorem d_Mo_copyKey_76 : decode b_Mo_copyKey 76 = .ok (.getfield 44, 3) := by decide +kernel
theorem d_Mo_copyKey_79 : decode b_Mo_copyKey 79 = .ok (.bipush 13, 2) := by decide +kernel
theorem d_Mo_copyKey_81 : decode b_Mo_copyKey 81 = .ok (.iload_n 1, 1) := by decide +kernel
theorem d_Mo_copyKey_82 : decode b_Mo_copyKey 82 = .ok (.imul, 1) := by decide +kernel
theorem d_Mo_copyKey_83 : decode b_Mo_copyKey 83 = .ok (.iload_n 3, 1) := by decide +kernel
theorem d_Mo_copyKey_84 : decode b_Mo_copyKey 84 = .ok (.iadd, 1) := by decide +kernel
theorem d_Mo_copyKey_85 : decode b_Mo_copyKey 85 = .ok (.laload, 1) := by decide +kernel
theorem d_Mo_copyKey_86 : decode b_Mo_copyKey 86 = .ok (.lastore, 1) := by decide +kernel
theorem d_Mo_copyKey_87 : decode b_Mo_copyKey 87 = .ok (.iinc 3 1, 3) := by decide +kernel
theorem d_Mo_copyKey_90 : decode b_Mo_copyKey 90 = .ok (.goto (-31), 3) := by decide +kernel
theorem d_Mo_copyKey_93 : decode b_Mo_copyKey 93 = .ok (.return_, 1) := by decide +kernel
abbrev b_Mo_setValue : ByteArray := prog_8_method_13_code
def y_Mo_setValue : MethodName := ⟨"TwinKeepersModel", "setValue", "(III)V"⟩
theorem kc_Mo_setValue : Cond.code y_Mo_setValue b_Mo_setValue 5 none ∈ xT := xin 1114 (by decide +kernel) (by decide +kernel)
theorem k_Mo_setValue : xCode y_Mo_setValue b_Mo_setValue 5 none [] := Or.inl ⟨rfl, kc_Mo_setValue⟩
theorem h_Mo_setValue : plainFor y_Mo_setValue = true ∧ (y_Mo_setValue.cls ≠ "java/lang/invoke/MethodHandle" ∧ y_Mo_setValue.cls ≠ "java/lang/invoke/VarHandle") ∧ (parseMethodDescriptor y_Mo_setValue.desc).map (fun d => d.parameters.length) = some 3 := by decide +kernel
theorem v_Mo_setValue : Cond.instanceMethod y_Mo_setValue ∈ xT := xin 1113 (by decide +kernel) (by decide +kernel)
theorem e_Mo_setValue : Cond.selects "TwinKeepersModel" y_Mo_setValue y_Mo_setValue ∈ xT := xinp 35 (by decide +kernel) (by decide +kernel)
theorem d_Mo_setValue_0 : decode b_Mo_setValue 0 = .ok (.iconst 0, 1) := by decide +kernel
theorem d_Mo_setValue_1 : decode b_Mo_setValue 1 = .ok (.istore 4, 2) := by decide +kernel
theorem d_Mo_setValue_3 : decode b_Mo_setValue 3 = .ok (.iload 4, 2) := by decide +kernel
theorem d_Mo_setValue_5 : decode b_Mo_setValue 5 = .ok (.bipush 13, 2) := by decide +kernel
theorem d_Mo_setValue_7 : decode b_Mo_setValue 7 = .ok (.if_icmp .ge 22, 3) := by decide +kernel
theorem d_Mo_setValue_10 : decode b_Mo_setValue 10 = .ok (.aload_n 0, 1) := by decide +kernel
theorem d_Mo_setValue_11 : decode b_Mo_setValue 11 = .ok (.getfield 44, 3) := by decide +kernel
theorem d_Mo_setValue_14 : decode b_Mo_setValue 14 = .ok (.bipush 13, 2) := by decide +kernel
theorem d_Mo_setValue_16 : decode b_Mo_setValue 16 = .ok (.iload_n 1, 1) := by decide +kernel
theorem d_Mo_setValue_17 : decode b_Mo_setValue 17 = .ok (.imul, 1) := by decide +kernel
theorem d_Mo_setValue_18 : decode b_Mo_setValue 18 = .ok (.iload 4, 2) := by decide +kernel
theorem d_Mo_setValue_20 : decode b_Mo_setValue 20 = .ok (.iadd, 1) := by decide +kernel
theorem d_Mo_setValue_21 : decode b_Mo_setValue 21 = .ok (.lconst 0, 1) := by decide +kernel
theorem d_Mo_setValue_22 : decode b_Mo_setValue 22 = .ok (.lastore, 1) := by decide +kernel
theorem d_Mo_setValue_23 : decode b_Mo_setValue 23 = .ok (.iinc 4 1, 3) := by decide +kernel
theorem d_Mo_setValue_26 : decode b_Mo_setValue 26 = .ok (.goto (-23), 3) := by decide +kernel
theorem d_Mo_setValue_29 : decode b_Mo_setValue 29 = .ok (.iconst 0, 1) := by decide +kernel
theorem d_Mo_setValue_30 : decode b_Mo_setValue 30 = .ok (.istore 4, 2) := by decide +kernel
theorem d_Mo_setValue_32 : decode b_Mo_setValue 32 = .ok (.iload 4, 2) := by decide +kernel
theorem d_Mo_setValue_34 : decode b_Mo_setValue 34 = .ok (.iload_n 3, 1) := by decide +kernel
theorem d_Mo_setValue_35 : decode b_Mo_setValue 35 = .ok (.if_icmp .ge 46, 3) := by decide +kernel
theorem d_Mo_setValue_38 : decode b_Mo_setValue 38 = .ok (.aload_n 0, 1) := by decide +kernel
theorem d_Mo_setValue_39 : decode b_Mo_setValue 39 = .ok (.getfield 44, 3) := by decide +kernel
theorem d_Mo_setValue_42 : decode b_Mo_setValue 42 = .ok (.bipush 13, 2) := by decide +kernel
theorem d_Mo_setValue_44 : decode b_Mo_setValue 44 = .ok (.iload_n 1, 1) := by decide +kernel
theorem d_Mo_setValue_45 : decode b_Mo_setValue 45 = .ok (.imul, 1) := by decide +kernel
theorem d_Mo_setValue_46 : decode b_Mo_setValue 46 = .ok (.iload 4, 2) := by decide +kernel
theorem d_Mo_setValue_48 : decode b_Mo_setValue 48 = .ok (.bipush 8, 2) := by decide +kernel
theorem d_Mo_setValue_50 : decode b_Mo_setValue 50 = .ok (.idiv, 1) := by decide +kernel
theorem d_Mo_setValue_51 : decode b_Mo_setValue 51 = .ok (.iadd, 1) := by decide +kernel
theorem d_Mo_setValue_52 : decode b_Mo_setValue 52 = .ok (.dup2, 1) := by decide +kernel
theorem d_Mo_setValue_53 : decode b_Mo_setValue 53 = .ok (.laload, 1) := by decide +kernel
theorem d_Mo_setValue_54 : decode b_Mo_setValue 54 = .ok (.aload_n 0, 1) := by decide +kernel
theorem d_Mo_setValue_55 : decode b_Mo_setValue 55 = .ok (.getfield 50, 3) := by decide +kernel
theorem d_Mo_setValue_58 : decode b_Mo_setValue 58 = .ok (.iload_n 2, 1) := by decide +kernel
theorem d_Mo_setValue_59 : decode b_Mo_setValue 59 = .ok (.iload 4, 2) := by decide +kernel
theorem d_Mo_setValue_61 : decode b_Mo_setValue 61 = .ok (.iadd, 1) := by decide +kernel
theorem d_Mo_setValue_62 : decode b_Mo_setValue 62 = .ok (.iaload, 1) := by decide +kernel
theorem d_Mo_setValue_63 : decode b_Mo_setValue 63 = .ok (.i2l, 1) := by decide +kernel
theorem d_Mo_setValue_64 : decode b_Mo_setValue 64 = .ok (.bipush 8, 2) := by decide +kernel
theorem d_Mo_setValue_66 : decode b_Mo_setValue 66 = .ok (.iload 4, 2) := by decide +kernel
theorem d_Mo_setValue_68 : decode b_Mo_setValue 68 = .ok (.bipush 8, 2) := by decide +kernel
theorem d_Mo_setValue_70 : decode b_Mo_setValue 70 = .ok (.irem, 1) := by decide +kernel
theorem d_Mo_setValue_71 : decode b_Mo_setValue 71 = .ok (.imul, 1) := by decide +kernel
theorem d_Mo_setValue_72 : decode b_Mo_setValue 72 = .ok (.lshl, 1) := by decide +kernel
theorem d_Mo_setValue_73 : decode b_Mo_setValue 73 = .ok (.lor, 1) := by decide +kernel
theorem d_Mo_setValue_74 : decode b_Mo_setValue 74 = .ok (.lastore, 1) := by decide +kernel
theorem d_Mo_setValue_75 : decode b_Mo_setValue 75 = .ok (.iinc 4 1, 3) := by decide +kernel
theorem d_Mo_setValue_78 : decode b_Mo_setValue 78 = .ok (.goto (-46), 3) := by decide +kernel
theorem d_Mo_setValue_81 : decode b_Mo_setValue 81 = .ok (.aload_n 0, 1) := by decide +kernel
theorem d_Mo_setValue_82 : decode b_Mo_setValue 82 = .ok (.getfield 41, 3) := by decide +kernel
theorem d_Mo_setValue_85 : decode b_Mo_setValue 85 = .ok (.iload_n 1, 1) := by decide +kernel
theorem d_Mo_setValue_86 : decode b_Mo_setValue 86 = .ok (.iload_n 3, 1) := by decide +kernel
theorem d_Mo_setValue_87 : decode b_Mo_setValue 87 = .ok (.iastore, 1) := by decide +kernel
theorem d_Mo_setValue_88 : decode b_Mo_setValue 88 = .ok (.return_, 1) := by decide +kernel
abbrev b_Mo_doSwap : ByteArray := prog_8_method_20_code
def y_Mo_doSwap : MethodName := ⟨"TwinKeepersModel", "doSwap", "(IIII)V"⟩
theorem kc_Mo_doSwap : Cond.code y_Mo_doSwap b_Mo_doSwap 9 none ∈ xT := xin 1118 (by decide +kernel) (by decide +kernel)
theorem k_Mo_doSwap : xCode y_Mo_doSwap b_Mo_doSwap 9 none [] := Or.inl ⟨rfl, kc_Mo_doSwap⟩
theorem h_Mo_doSwap : plainFor y_Mo_doSwap = true ∧ (y_Mo_doSwap.cls ≠ "java/lang/invoke/MethodHandle" ∧ y_Mo_doSwap.cls ≠ "java/lang/invoke/VarHandle") ∧ (parseMethodDescriptor y_Mo_doSwap.desc).map (fun d => d.parameters.length) = some 4 := by decide +kernel
theorem v_Mo_doSwap : Cond.instanceMethod y_Mo_doSwap ∈ xT := xin 1117 (by decide +kernel) (by decide +kernel)
theorem e_Mo_doSwap : Cond.selects "TwinKeepersModel" y_Mo_doSwap y_Mo_doSwap ∈ xT := xinp 36 (by decide +kernel) (by decide +kernel)
theorem d_Mo_doSwap_0 : decode b_Mo_doSwap 0 = .ok (.aload_n 0, 1) := by decide +kernel
theorem d_Mo_doSwap_1 : decode b_Mo_doSwap 1 = .ok (.iload_n 1, 1) := by decide +kernel
theorem d_Mo_doSwap_2 : decode b_Mo_doSwap 2 = .ok (.invokevirtual 100, 3) := by decide +kernel
theorem d_Mo_doSwap_5 : decode b_Mo_doSwap 5 = .ok (.istore 5, 2) := by decide +kernel
theorem d_Mo_doSwap_7 : decode b_Mo_doSwap 7 = .ok (.sipush 128, 3) := by decide +kernel
theorem d_Mo_doSwap_10 : decode b_Mo_doSwap 10 = .ok (.iload_n 1, 1) := by decide +kernel
theorem d_Mo_doSwap_11 : decode b_Mo_doSwap 11 = .ok (.imul, 1) := by decide +kernel
theorem d_Mo_doSwap_12 : decode b_Mo_doSwap 12 = .ok (.iload 5, 2) := by decide +kernel
theorem d_Mo_doSwap_14 : decode b_Mo_doSwap 14 = .ok (.iadd, 1) := by decide +kernel
theorem d_Mo_doSwap_15 : decode b_Mo_doSwap 15 = .ok (.istore 6, 2) := by decide +kernel
theorem d_Mo_doSwap_17 : decode b_Mo_doSwap 17 = .ok (.aload_n 0, 1) := by decide +kernel
theorem d_Mo_doSwap_18 : decode b_Mo_doSwap 18 = .ok (.iload_n 1, 1) := by decide +kernel
theorem d_Mo_doSwap_19 : decode b_Mo_doSwap 19 = .ok (.iload 5, 2) := by decide +kernel
theorem d_Mo_doSwap_21 : decode b_Mo_doSwap 21 = .ok (.invokevirtual 103, 3) := by decide +kernel
theorem d_Mo_doSwap_24 : decode b_Mo_doSwap 24 = .ok (.ifCond .ne 9, 3) := by decide +kernel
theorem d_Mo_doSwap_27 : decode b_Mo_doSwap 27 = .ok (.aload_n 0, 1) := by decide +kernel
theorem d_Mo_doSwap_28 : decode b_Mo_doSwap 28 = .ok (.iconst 3, 1) := by decide +kernel
theorem d_Mo_doSwap_29 : decode b_Mo_doSwap 29 = .ok (.invokevirtual 96, 3) := by decide +kernel
theorem d_Mo_doSwap_32 : decode b_Mo_doSwap 32 = .ok (.return_, 1) := by decide +kernel
theorem d_Mo_doSwap_33 : decode b_Mo_doSwap 33 = .ok (.aload_n 0, 1) := by decide +kernel
theorem d_Mo_doSwap_34 : decode b_Mo_doSwap 34 = .ok (.getfield 41, 3) := by decide +kernel
theorem d_Mo_doSwap_37 : decode b_Mo_doSwap 37 = .ok (.iload 6, 2) := by decide +kernel
theorem d_Mo_doSwap_39 : decode b_Mo_doSwap 39 = .ok (.iaload, 1) := by decide +kernel
theorem d_Mo_doSwap_40 : decode b_Mo_doSwap 40 = .ok (.iload_n 3, 1) := by decide +kernel
theorem d_Mo_doSwap_41 : decode b_Mo_doSwap 41 = .ok (.if_icmp .ne 7, 3) := by decide +kernel
theorem d_Mo_doSwap_44 : decode b_Mo_doSwap 44 = .ok (.iconst 1, 1) := by decide +kernel
theorem d_Mo_doSwap_45 : decode b_Mo_doSwap 45 = .ok (.goto 4, 3) := by decide +kernel
theorem d_Mo_doSwap_48 : decode b_Mo_doSwap 48 = .ok (.iconst 0, 1) := by decide +kernel
theorem d_Mo_doSwap_49 : decode b_Mo_doSwap 49 = .ok (.istore 7, 2) := by decide +kernel
theorem d_Mo_doSwap_51 : decode b_Mo_doSwap 51 = .ok (.iconst 0, 1) := by decide +kernel
theorem d_Mo_doSwap_52 : decode b_Mo_doSwap 52 = .ok (.istore 8, 2) := by decide +kernel
theorem d_Mo_doSwap_54 : decode b_Mo_doSwap 54 = .ok (.iload 8, 2) := by decide +kernel
theorem d_Mo_doSwap_56 : decode b_Mo_doSwap 56 = .ok (.iload_n 3, 1) := by decide +kernel
theorem d_Mo_doSwap_57 : decode b_Mo_doSwap 57 = .ok (.if_icmp .ge 41, 3) := by decide +kernel
theorem d_Mo_doSwap_60 : decode b_Mo_doSwap 60 = .ok (.iload 7, 2) := by decide +kernel
theorem d_Mo_doSwap_62 : decode b_Mo_doSwap 62 = .ok (.ifCond .eq 36, 3) := by decide +kernel
theorem d_Mo_doSwap_65 : decode b_Mo_doSwap 65 = .ok (.aload_n 0, 1) := by decide +kernel
theorem d_Mo_doSwap_66 : decode b_Mo_doSwap 66 = .ok (.iload 6, 2) := by decide +kernel
theorem d_Mo_doSwap_68 : decode b_Mo_doSwap 68 = .ok (.iload 8, 2) := by decide +kernel
theorem d_Mo_doSwap_70 : decode b_Mo_doSwap 70 = .ok (.invokevirtual 92, 3) := by decide +kernel
theorem d_Mo_doSwap_73 : decode b_Mo_doSwap 73 = .ok (.aload_n 0, 1) := by decide +kernel
theorem d_Mo_doSwap_74 : decode b_Mo_doSwap 74 = .ok (.getfield 50, 3) := by decide +kernel
theorem d_Mo_doSwap_77 : decode b_Mo_doSwap 77 = .ok (.iload_n 2, 1) := by decide +kernel
theorem d_Mo_doSwap_78 : decode b_Mo_doSwap 78 = .ok (.iload 8, 2) := by decide +kernel
theorem d_Mo_doSwap_80 : decode b_Mo_doSwap 80 = .ok (.iadd, 1) := by decide +kernel
theorem d_Mo_doSwap_81 : decode b_Mo_doSwap 81 = .ok (.iaload, 1) := by decide +kernel
theorem d_Mo_doSwap_82 : decode b_Mo_doSwap 82 = .ok (.if_icmp .ne 7, 3) := by decide +kernel
theorem d_Mo_doSwap_85 : decode b_Mo_doSwap 85 = .ok (.iconst 1, 1) := by decide +kernel
theorem d_Mo_doSwap_86 : decode b_Mo_doSwap 86 = .ok (.goto 4, 3) := by decide +kernel
theorem d_Mo_doSwap_89 : decode b_Mo_doSwap 89 = .ok (.iconst 0, 1) := by decide +kernel
theorem d_Mo_doSwap_90 : decode b_Mo_doSwap 90 = .ok (.istore 7, 2) := by decide +kernel
theorem d_Mo_doSwap_92 : decode b_Mo_doSwap 92 = .ok (.iinc 8 1, 3) := by decide +kernel
theorem d_Mo_doSwap_95 : decode b_Mo_doSwap 95 = .ok (.goto (-41), 3) := by decide +kernel
theorem d_Mo_doSwap_98 : decode b_Mo_doSwap 98 = .ok (.iload 7, 2) := by decide +kernel
theorem d_Mo_doSwap_100 : decode b_Mo_doSwap 100 = .ok (.ifCond .ne 17, 3) := by decide +kernel
theorem d_Mo_doSwap_103 : decode b_Mo_doSwap 103 = .ok (.aload_n 0, 1) := by decide +kernel
theorem d_Mo_doSwap_104 : decode b_Mo_doSwap 104 = .ok (.iconst 0, 1) := by decide +kernel
theorem d_Mo_doSwap_105 : decode b_Mo_doSwap 105 = .ok (.invokevirtual 96, 3) := by decide +kernel
theorem d_Mo_doSwap_108 : decode b_Mo_doSwap 108 = .ok (.aload_n 0, 1) := by decide +kernel
theorem d_Mo_doSwap_109 : decode b_Mo_doSwap 109 = .ok (.iload 6, 2) := by decide +kernel
theorem d_Mo_doSwap_111 : decode b_Mo_doSwap 111 = .ok (.invokevirtual 118, 3) := by decide +kernel
theorem d_Mo_doSwap_114 : decode b_Mo_doSwap 114 = .ok (.goto 25, 3) := by decide +kernel
theorem d_Mo_doSwap_117 : decode b_Mo_doSwap 117 = .ok (.aload_n 0, 1) := by decide +kernel
theorem d_Mo_doSwap_118 : decode b_Mo_doSwap 118 = .ok (.aload_n 0, 1) := by decide +kernel
theorem d_Mo_doSwap_119 : decode b_Mo_doSwap 119 = .ok (.iload_n 1, 1) := by decide +kernel
theorem d_Mo_doSwap_120 : decode b_Mo_doSwap 120 = .ok (.iload_n 2, 1) := by decide +kernel
theorem d_Mo_doSwap_121 : decode b_Mo_doSwap 121 = .ok (.iload_n 3, 1) := by decide +kernel
theorem d_Mo_doSwap_122 : decode b_Mo_doSwap 122 = .ok (.iadd, 1) := by decide +kernel
theorem d_Mo_doSwap_123 : decode b_Mo_doSwap 123 = .ok (.iload 4, 2) := by decide +kernel
theorem d_Mo_doSwap_125 : decode b_Mo_doSwap 125 = .ok (.invokevirtual 121, 3) := by decide +kernel
theorem d_Mo_doSwap_128 : decode b_Mo_doSwap 128 = .ok (.ifCond .eq 7, 3) := by decide +kernel
theorem d_Mo_doSwap_131 : decode b_Mo_doSwap 131 = .ok (.iconst 1, 1) := by decide +kernel
theorem d_Mo_doSwap_132 : decode b_Mo_doSwap 132 = .ok (.goto 4, 3) := by decide +kernel
theorem d_Mo_doSwap_135 : decode b_Mo_doSwap 135 = .ok (.iconst 2, 1) := by decide +kernel
theorem d_Mo_doSwap_136 : decode b_Mo_doSwap 136 = .ok (.invokevirtual 96, 3) := by decide +kernel
theorem d_Mo_doSwap_139 : decode b_Mo_doSwap 139 = .ok (.return_, 1) := by decide +kernel
abbrev b_Mo_doRemove : ByteArray := prog_8_method_21_code
def y_Mo_doRemove : MethodName := ⟨"TwinKeepersModel", "doRemove", "(I)V"⟩
theorem kc_Mo_doRemove : Cond.code y_Mo_doRemove b_Mo_doRemove 5 none ∈ xT := xin 1122 (by decide +kernel) (by decide +kernel)
theorem k_Mo_doRemove : xCode y_Mo_doRemove b_Mo_doRemove 5 none [] := Or.inl ⟨rfl, kc_Mo_doRemove⟩
theorem h_Mo_doRemove : plainFor y_Mo_doRemove = true ∧ (y_Mo_doRemove.cls ≠ "java/lang/invoke/MethodHandle" ∧ y_Mo_doRemove.cls ≠ "java/lang/invoke/VarHandle") ∧ (parseMethodDescriptor y_Mo_doRemove.desc).map (fun d => d.parameters.length) = some 1 := by decide +kernel
theorem v_Mo_doRemove : Cond.instanceMethod y_Mo_doRemove ∈ xT := xin 1121 (by decide +kernel) (by decide +kernel)
theorem e_Mo_doRemove : Cond.selects "TwinKeepersModel" y_Mo_doRemove y_Mo_doRemove ∈ xT := xinp 37 (by decide +kernel) (by decide +kernel)
theorem d_Mo_doRemove_0 : decode b_Mo_doRemove 0 = .ok (.aload_n 0, 1) := by decide +kernel
theorem d_Mo_doRemove_1 : decode b_Mo_doRemove 1 = .ok (.iload_n 1, 1) := by decide +kernel
theorem d_Mo_doRemove_2 : decode b_Mo_doRemove 2 = .ok (.invokevirtual 100, 3) := by decide +kernel
theorem d_Mo_doRemove_5 : decode b_Mo_doRemove 5 = .ok (.istore_n 2, 1) := by decide +kernel
theorem d_Mo_doRemove_6 : decode b_Mo_doRemove 6 = .ok (.aload_n 0, 1) := by decide +kernel
theorem d_Mo_doRemove_7 : decode b_Mo_doRemove 7 = .ok (.iload_n 1, 1) := by decide +kernel
theorem d_Mo_doRemove_8 : decode b_Mo_doRemove 8 = .ok (.iload_n 2, 1) := by decide +kernel
theorem d_Mo_doRemove_9 : decode b_Mo_doRemove 9 = .ok (.invokevirtual 103, 3) := by decide +kernel
theorem d_Mo_doRemove_12 : decode b_Mo_doRemove 12 = .ok (.istore_n 3, 1) := by decide +kernel
theorem d_Mo_doRemove_13 : decode b_Mo_doRemove 13 = .ok (.aload_n 0, 1) := by decide +kernel
theorem d_Mo_doRemove_14 : decode b_Mo_doRemove 14 = .ok (.iload_n 3, 1) := by decide +kernel
theorem d_Mo_doRemove_15 : decode b_Mo_doRemove 15 = .ok (.ifCond .eq 7, 3) := by decide +kernel
theorem d_Mo_doRemove_18 : decode b_Mo_doRemove 18 = .ok (.iconst 1, 1) := by decide +kernel
theorem d_Mo_doRemove_19 : decode b_Mo_doRemove 19 = .ok (.goto 4, 3) := by decide +kernel
theorem d_Mo_doRemove_22 : decode b_Mo_doRemove 22 = .ok (.iconst 0, 1) := by decide +kernel
theorem d_Mo_doRemove_23 : decode b_Mo_doRemove 23 = .ok (.invokevirtual 96, 3) := by decide +kernel
theorem d_Mo_doRemove_26 : decode b_Mo_doRemove 26 = .ok (.iload_n 3, 1) := by decide +kernel
theorem d_Mo_doRemove_27 : decode b_Mo_doRemove 27 = .ok (.ifCond .ne 4, 3) := by decide +kernel
theorem d_Mo_doRemove_30 : decode b_Mo_doRemove 30 = .ok (.return_, 1) := by decide +kernel
theorem d_Mo_doRemove_31 : decode b_Mo_doRemove 31 = .ok (.aload_n 0, 1) := by decide +kernel
theorem d_Mo_doRemove_32 : decode b_Mo_doRemove 32 = .ok (.sipush 128, 3) := by decide +kernel
theorem d_Mo_doRemove_35 : decode b_Mo_doRemove 35 = .ok (.iload_n 1, 1) := by decide +kernel
theorem d_Mo_doRemove_36 : decode b_Mo_doRemove 36 = .ok (.imul, 1) := by decide +kernel
theorem d_Mo_doRemove_37 : decode b_Mo_doRemove 37 = .ok (.iload_n 2, 1) := by decide +kernel
theorem d_Mo_doRemove_38 : decode b_Mo_doRemove 38 = .ok (.iadd, 1) := by decide +kernel
theorem d_Mo_doRemove_39 : decode b_Mo_doRemove 39 = .ok (.invokevirtual 118, 3) := by decide +kernel
theorem d_Mo_doRemove_42 : decode b_Mo_doRemove 42 = .ok (.aload_n 0, 1) := by decide +kernel
theorem d_Mo_doRemove_43 : decode b_Mo_doRemove 43 = .ok (.getfield 31, 3) := by decide +kernel
theorem d_Mo_doRemove_46 : decode b_Mo_doRemove 46 = .ok (.iload_n 1, 1) := by decide +kernel
theorem d_Mo_doRemove_47 : decode b_Mo_doRemove 47 = .ok (.dup2, 1) := by decide +kernel
theorem d_Mo_doRemove_48 : decode b_Mo_doRemove 48 = .ok (.iaload, 1) := by decide +kernel
theorem d_Mo_doRemove_49 : decode b_Mo_doRemove 49 = .ok (.iconst 1, 1) := by decide +kernel
theorem d_Mo_doRemove_50 : decode b_Mo_doRemove 50 = .ok (.isub, 1) := by decide +kernel
theorem d_Mo_doRemove_51 : decode b_Mo_doRemove 51 = .ok (.iastore, 1) := by decide +kernel
theorem d_Mo_doRemove_52 : decode b_Mo_doRemove 52 = .ok (.sipush 128, 3) := by decide +kernel
theorem d_Mo_doRemove_55 : decode b_Mo_doRemove 55 = .ok (.iload_n 1, 1) := by decide +kernel
theorem d_Mo_doRemove_56 : decode b_Mo_doRemove 56 = .ok (.imul, 1) := by decide +kernel
theorem d_Mo_doRemove_57 : decode b_Mo_doRemove 57 = .ok (.iload_n 2, 1) := by decide +kernel
theorem d_Mo_doRemove_58 : decode b_Mo_doRemove 58 = .ok (.iadd, 1) := by decide +kernel
theorem d_Mo_doRemove_59 : decode b_Mo_doRemove 59 = .ok (.istore 4, 2) := by decide +kernel
theorem d_Mo_doRemove_61 : decode b_Mo_doRemove 61 = .ok (.iload 4, 2) := by decide +kernel
theorem d_Mo_doRemove_63 : decode b_Mo_doRemove 63 = .ok (.sipush 128, 3) := by decide +kernel
theorem d_Mo_doRemove_66 : decode b_Mo_doRemove 66 = .ok (.iload_n 1, 1) := by decide +kernel
theorem d_Mo_doRemove_67 : decode b_Mo_doRemove 67 = .ok (.imul, 1) := by decide +kernel
theorem d_Mo_doRemove_68 : decode b_Mo_doRemove 68 = .ok (.aload_n 0, 1) := by decide +kernel
theorem d_Mo_doRemove_69 : decode b_Mo_doRemove 69 = .ok (.getfield 31, 3) := by decide +kernel
theorem d_Mo_doRemove_72 : decode b_Mo_doRemove 72 = .ok (.iload_n 1, 1) := by decide +kernel
theorem d_Mo_doRemove_73 : decode b_Mo_doRemove 73 = .ok (.iaload, 1) := by decide +kernel
theorem d_Mo_doRemove_74 : decode b_Mo_doRemove 74 = .ok (.iadd, 1) := by decide +kernel
theorem d_Mo_doRemove_75 : decode b_Mo_doRemove 75 = .ok (.if_icmp .ge 19, 3) := by decide +kernel
theorem d_Mo_doRemove_78 : decode b_Mo_doRemove 78 = .ok (.aload_n 0, 1) := by decide +kernel
theorem d_Mo_doRemove_79 : decode b_Mo_doRemove 79 = .ok (.iload 4, 2) := by decide +kernel
theorem d_Mo_doRemove_81 : decode b_Mo_doRemove 81 = .ok (.iconst 1, 1) := by decide +kernel
theorem d_Mo_doRemove_82 : decode b_Mo_doRemove 82 = .ok (.iadd, 1) := by decide +kernel
theorem d_Mo_doRemove_83 : decode b_Mo_doRemove 83 = .ok (.iload 4, 2) := by decide +kernel
theorem d_Mo_doRemove_85 : decode b_Mo_doRemove 85 = .ok (.invokevirtual 110, 3) := by decide +kernel
theorem d_Mo_doRemove_88 : decode b_Mo_doRemove 88 = .ok (.iinc 4 1, 3) := by decide +kernel
theorem d_Mo_doRemove_91 : decode b_Mo_doRemove 91 = .ok (.goto (-30), 3) := by decide +kernel
theorem d_Mo_doRemove_94 : decode b_Mo_doRemove 94 = .ok (.return_, 1) := by decide +kernel
abbrev b_Mo_read : ByteArray := prog_8_method_31_code
def y_Mo_read : MethodName := ⟨"TwinKeepersModel", "read", "(II)I"⟩
theorem kc_Mo_read : Cond.code y_Mo_read b_Mo_read 10 (some .int) ∈ xT := xin 1126 (by decide +kernel) (by decide +kernel)
theorem k_Mo_read : xCode y_Mo_read b_Mo_read 10 (some .int) [] := Or.inl ⟨rfl, kc_Mo_read⟩
theorem h_Mo_read : plainFor y_Mo_read = true ∧ (y_Mo_read.cls ≠ "java/lang/invoke/MethodHandle" ∧ y_Mo_read.cls ≠ "java/lang/invoke/VarHandle") ∧ (parseMethodDescriptor y_Mo_read.desc).map (fun d => d.parameters.length) = some 2 := by decide +kernel
theorem v_Mo_read : Cond.instanceMethod y_Mo_read ∈ xT := xin 1124 (by decide +kernel) (by decide +kernel)
theorem e_Mo_read : Cond.selects "TwinKeepersModel" y_Mo_read y_Mo_read ∈ xT := xin 1125 (by decide +kernel) (by decide +kernel)
theorem d_Mo_read_0 : decode b_Mo_read 0 = .ok (.aload_n 0, 1) := by decide +kernel
theorem d_Mo_read_1 : decode b_Mo_read 1 = .ok (.iconst 0, 1) := by decide +kernel
theorem d_Mo_read_2 : decode b_Mo_read 2 = .ok (.putfield 62, 3) := by decide +kernel
theorem d_Mo_read_5 : decode b_Mo_read 5 = .ok (.aload_n 0, 1) := by decide +kernel
theorem d_Mo_read_6 : decode b_Mo_read 6 = .ok (.getfield 74, 3) := by decide +kernel
theorem d_Mo_read_9 : decode b_Mo_read 9 = .ok (.istore_n 3, 1) := by decide +kernel
theorem d_Mo_read_10 : decode b_Mo_read 10 = .ok (.aload_n 0, 1) := by decide +kernel
theorem d_Mo_read_11 : decode b_Mo_read 11 = .ok (.iconst 0, 1) := by decide +kernel
theorem d_Mo_read_12 : decode b_Mo_read 12 = .ok (.putfield 74, 3) := by decide +kernel
theorem d_Mo_read_15 : decode b_Mo_read 15 = .ok (.iload_n 1, 1) := by decide +kernel
theorem d_Mo_read_16 : decode b_Mo_read 16 = .ok (.invokestatic 125, 3) := by decide +kernel
theorem d_Mo_read_19 : decode b_Mo_read 19 = .ok (.ifCond .ne 9, 3) := by decide +kernel
theorem d_Mo_read_22 : decode b_Mo_read 22 = .ok (.aload_n 0, 1) := by decide +kernel
theorem d_Mo_read_23 : decode b_Mo_read 23 = .ok (.iconst 1, 1) := by decide +kernel
theorem d_Mo_read_24 : decode b_Mo_read 24 = .ok (.invokevirtual 70, 3) := by decide +kernel
theorem d_Mo_read_27 : decode b_Mo_read 27 = .ok (.ireturn, 1) := by decide +kernel
theorem d_Mo_read_28 : decode b_Mo_read 28 = .ok (.iload_n 2, 1) := by decide +kernel
theorem d_Mo_read_29 : decode b_Mo_read 29 = .ok (.bipush 7, 2) := by decide +kernel
theorem d_Mo_read_31 : decode b_Mo_read 31 = .ok (.iand, 1) := by decide +kernel
theorem d_Mo_read_32 : decode b_Mo_read 32 = .ok (.istore 4, 2) := by decide +kernel
theorem d_Mo_read_34 : decode b_Mo_read 34 = .ok (.iload_n 2, 1) := by decide +kernel
theorem d_Mo_read_35 : decode b_Mo_read 35 = .ok (.iconst 3, 1) := by decide +kernel
theorem d_Mo_read_36 : decode b_Mo_read 36 = .ok (.ishr, 1) := by decide +kernel
theorem d_Mo_read_37 : decode b_Mo_read 37 = .ok (.bipush 63, 2) := by decide +kernel
theorem d_Mo_read_39 : decode b_Mo_read 39 = .ok (.iand, 1) := by decide +kernel
theorem d_Mo_read_40 : decode b_Mo_read 40 = .ok (.istore 5, 2) := by decide +kernel
theorem d_Mo_read_42 : decode b_Mo_read 42 = .ok (.iload_n 2, 1) := by decide +kernel
theorem d_Mo_read_43 : decode b_Mo_read 43 = .ok (.ifCond .lt 30, 3) := by decide +kernel
theorem d_Mo_read_46 : decode b_Mo_read 46 = .ok (.iload 4, 2) := by decide +kernel
theorem d_Mo_read_48 : decode b_Mo_read 48 = .ok (.iconst 3, 1) := by decide +kernel
theorem d_Mo_read_49 : decode b_Mo_read 49 = .ok (.if_icmp .lt 24, 3) := by decide +kernel
theorem d_Mo_read_52 : decode b_Mo_read 52 = .ok (.iload 4, 2) := by decide +kernel
theorem d_Mo_read_54 : decode b_Mo_read 54 = .ok (.iconst 5, 1) := by decide +kernel
theorem d_Mo_read_55 : decode b_Mo_read 55 = .ok (.if_icmp .gt 18, 3) := by decide +kernel
theorem d_Mo_read_58 : decode b_Mo_read 58 = .ok (.iload 4, 2) := by decide +kernel
theorem d_Mo_read_60 : decode b_Mo_read 60 = .ok (.iload 5, 2) := by decide +kernel
theorem d_Mo_read_62 : decode b_Mo_read 62 = .ok (.iload_n 2, 1) := by decide +kernel
theorem d_Mo_read_63 : decode b_Mo_read 63 = .ok (.bipush 9, 2) := by decide +kernel
theorem d_Mo_read_65 : decode b_Mo_read 65 = .ok (.ishr, 1) := by decide +kernel
theorem d_Mo_read_66 : decode b_Mo_read 66 = .ok (.iload_n 3, 1) := by decide +kernel
theorem d_Mo_read_67 : decode b_Mo_read 67 = .ok (.invokestatic 145, 3) := by decide +kernel
theorem d_Mo_read_70 : decode b_Mo_read 70 = .ok (.ifCond .ne 9, 3) := by decide +kernel
theorem d_Mo_read_73 : decode b_Mo_read 73 = .ok (.aload_n 0, 1) := by decide +kernel
theorem d_Mo_read_74 : decode b_Mo_read 74 = .ok (.iconst 2, 1) := by decide +kernel
theorem d_Mo_read_75 : decode b_Mo_read 75 = .ok (.invokevirtual 70, 3) := by decide +kernel
theorem d_Mo_read_78 : decode b_Mo_read 78 = .ok (.ireturn, 1) := by decide +kernel
theorem d_Mo_read_79 : decode b_Mo_read 79 = .ok (.aload_n 0, 1) := by decide +kernel
theorem d_Mo_read_80 : decode b_Mo_read 80 = .ok (.iconst 0, 1) := by decide +kernel
theorem d_Mo_read_81 : decode b_Mo_read 81 = .ok (.putfield 89, 3) := by decide +kernel
theorem d_Mo_read_84 : decode b_Mo_read 84 = .ok (.aload_n 0, 1) := by decide +kernel
theorem d_Mo_read_85 : decode b_Mo_read 85 = .ok (.iconst 0, 1) := by decide +kernel
theorem d_Mo_read_86 : decode b_Mo_read 86 = .ok (.iload 5, 2) := by decide +kernel
theorem d_Mo_read_88 : decode b_Mo_read 88 = .ok (.invokevirtual 155, 3) := by decide +kernel
theorem d_Mo_read_91 : decode b_Mo_read 91 = .ok (.aload_n 0, 1) := by decide +kernel
theorem d_Mo_read_92 : decode b_Mo_read 92 = .ok (.iload_n 1, 1) := by decide +kernel
theorem d_Mo_read_93 : decode b_Mo_read 93 = .ok (.invokevirtual 100, 3) := by decide +kernel
theorem d_Mo_read_96 : decode b_Mo_read 96 = .ok (.istore 6, 2) := by decide +kernel
theorem d_Mo_read_98 : decode b_Mo_read 98 = .ok (.sipush 128, 3) := by decide +kernel
theorem d_Mo_read_101 : decode b_Mo_read 101 = .ok (.iload_n 1, 1) := by decide +kernel
theorem d_Mo_read_102 : decode b_Mo_read 102 = .ok (.imul, 1) := by decide +kernel
theorem d_Mo_read_103 : decode b_Mo_read 103 = .ok (.iload 6, 2) := by decide +kernel
theorem d_Mo_read_105 : decode b_Mo_read 105 = .ok (.iadd, 1) := by decide +kernel
theorem d_Mo_read_106 : decode b_Mo_read 106 = .ok (.istore 7, 2) := by decide +kernel
theorem d_Mo_read_108 : decode b_Mo_read 108 = .ok (.iload 4, 2) := by decide +kernel
theorem d_Mo_read_110 : decode b_Mo_read 110 = .ok (.iconst 3, 1) := by decide +kernel
theorem d_Mo_read_111 : decode b_Mo_read 111 = .ok (.if_icmp .ne 40, 3) := by decide +kernel
theorem d_Mo_read_114 : decode b_Mo_read 114 = .ok (.aload_n 0, 1) := by decide +kernel
theorem d_Mo_read_115 : decode b_Mo_read 115 = .ok (.iload_n 1, 1) := by decide +kernel
theorem d_Mo_read_116 : decode b_Mo_read 116 = .ok (.iload 6, 2) := by decide +kernel
theorem d_Mo_read_118 : decode b_Mo_read 118 = .ok (.invokevirtual 103, 3) := by decide +kernel
theorem d_Mo_read_121 : decode b_Mo_read 121 = .ok (.istore 8, 2) := by decide +kernel
theorem d_Mo_read_123 : decode b_Mo_read 123 = .ok (.aload_n 0, 1) := by decide +kernel
theorem d_Mo_read_124 : decode b_Mo_read 124 = .ok (.iload 8, 2) := by decide +kernel
theorem d_Mo_read_126 : decode b_Mo_read 126 = .ok (.ifCond .eq 7, 3) := by decide +kernel
theorem d_Mo_read_129 : decode b_Mo_read 129 = .ok (.iconst 1, 1) := by decide +kernel
theorem d_Mo_read_130 : decode b_Mo_read 130 = .ok (.goto 4, 3) := by decide +kernel
theorem d_Mo_read_133 : decode b_Mo_read 133 = .ok (.iconst 0, 1) := by decide +kernel
theorem d_Mo_read_134 : decode b_Mo_read 134 = .ok (.invokevirtual 96, 3) := by decide +kernel
theorem d_Mo_read_137 : decode b_Mo_read 137 = .ok (.iload 8, 2) := by decide +kernel
theorem d_Mo_read_139 : decode b_Mo_read 139 = .ok (.ifCond .eq 9, 3) := by decide +kernel
theorem d_Mo_read_142 : decode b_Mo_read 142 = .ok (.aload_n 0, 1) := by decide +kernel
theorem d_Mo_read_143 : decode b_Mo_read 143 = .ok (.iload 7, 2) := by decide +kernel
theorem d_Mo_read_145 : decode b_Mo_read 145 = .ok (.invokevirtual 118, 3) := by decide +kernel
theorem d_Mo_read_148 : decode b_Mo_read 148 = .ok (.goto 148, 3) := by decide +kernel
theorem d_Mo_read_151 : decode b_Mo_read 151 = .ok (.iload 4, 2) := by decide +kernel
theorem d_Mo_read_153 : decode b_Mo_read 153 = .ok (.iconst 4, 1) := by decide +kernel
theorem d_Mo_read_154 : decode b_Mo_read 154 = .ok (.if_icmp .ne 61, 3) := by decide +kernel
theorem d_Mo_read_157 : decode b_Mo_read 157 = .ok (.aload_n 0, 1) := by decide +kernel
theorem d_Mo_read_158 : decode b_Mo_read 158 = .ok (.iload 5, 2) := by decide +kernel
theorem d_Mo_read_160 : decode b_Mo_read 160 = .ok (.iload_n 3, 1) := by decide +kernel
theorem d_Mo_read_161 : decode b_Mo_read 161 = .ok (.iload 5, 2) := by decide +kernel
theorem d_Mo_read_163 : decode b_Mo_read 163 = .ok (.isub, 1) := by decide +kernel
theorem d_Mo_read_164 : decode b_Mo_read 164 = .ok (.invokevirtual 155, 3) := by decide +kernel
theorem d_Mo_read_167 : decode b_Mo_read 167 = .ok (.aload_n 0, 1) := by decide +kernel
theorem d_Mo_read_168 : decode b_Mo_read 168 = .ok (.iload_n 1, 1) := by decide +kernel
theorem d_Mo_read_169 : decode b_Mo_read 169 = .ok (.invokevirtual 100, 3) := by decide +kernel
theorem d_Mo_read_172 : decode b_Mo_read 172 = .ok (.istore 8, 2) := by decide +kernel
theorem d_Mo_read_174 : decode b_Mo_read 174 = .ok (.iload 8, 2) := by decide +kernel
theorem d_Mo_read_176 : decode b_Mo_read 176 = .ok (.iload 6, 2) := by decide +kernel
theorem d_Mo_read_178 : decode b_Mo_read 178 = .ok (.if_icmp .le 11, 3) := by decide +kernel
theorem d_Mo_read_181 : decode b_Mo_read 181 = .ok (.iload 8, 2) := by decide +kernel
theorem d_Mo_read_183 : decode b_Mo_read 183 = .ok (.iload 6, 2) := by decide +kernel
theorem d_Mo_read_185 : decode b_Mo_read 185 = .ok (.isub, 1) := by decide +kernel
theorem d_Mo_read_186 : decode b_Mo_read 186 = .ok (.goto 4, 3) := by decide +kernel
theorem d_Mo_read_189 : decode b_Mo_read 189 = .ok (.iconst 0, 1) := by decide +kernel
theorem d_Mo_read_190 : decode b_Mo_read 190 = .ok (.istore 9, 2) := by decide +kernel
theorem d_Mo_read_192 : decode b_Mo_read 192 = .ok (.aload_n 0, 1) := by decide +kernel
theorem d_Mo_read_193 : decode b_Mo_read 193 = .ok (.iload 9, 2) := by decide +kernel
theorem d_Mo_read_195 : decode b_Mo_read 195 = .ok (.sipush 256, 3) := by decide +kernel
theorem d_Mo_read_198 : decode b_Mo_read 198 = .ok (.irem, 1) := by decide +kernel
theorem d_Mo_read_199 : decode b_Mo_read 199 = .ok (.invokevirtual 96, 3) := by decide +kernel
theorem d_Mo_read_202 : decode b_Mo_read 202 = .ok (.aload_n 0, 1) := by decide +kernel
theorem d_Mo_read_203 : decode b_Mo_read 203 = .ok (.iload 9, 2) := by decide +kernel
theorem d_Mo_read_205 : decode b_Mo_read 205 = .ok (.sipush 256, 3) := by decide +kernel
theorem d_Mo_read_208 : decode b_Mo_read 208 = .ok (.idiv, 1) := by decide +kernel
theorem d_Mo_read_209 : decode b_Mo_read 209 = .ok (.invokevirtual 96, 3) := by decide +kernel
theorem d_Mo_read_212 : decode b_Mo_read 212 = .ok (.goto 84, 3) := by decide +kernel
theorem d_Mo_read_215 : decode b_Mo_read 215 = .ok (.aload_n 0, 1) := by decide +kernel
theorem d_Mo_read_216 : decode b_Mo_read 216 = .ok (.iload 6, 2) := by decide +kernel
theorem d_Mo_read_218 : decode b_Mo_read 218 = .ok (.aload_n 0, 1) := by decide +kernel
theorem d_Mo_read_219 : decode b_Mo_read 219 = .ok (.getfield 31, 3) := by decide +kernel
theorem d_Mo_read_222 : decode b_Mo_read 222 = .ok (.iload_n 1, 1) := by decide +kernel
theorem d_Mo_read_223 : decode b_Mo_read 223 = .ok (.iaload, 1) := by decide +kernel
theorem d_Mo_read_224 : decode b_Mo_read 224 = .ok (.if_icmp .ge 7, 3) := by decide +kernel
theorem d_Mo_read_227 : decode b_Mo_read 227 = .ok (.iconst 1, 1) := by decide +kernel
theorem d_Mo_read_228 : decode b_Mo_read 228 = .ok (.goto 4, 3) := by decide +kernel
theorem d_Mo_read_231 : decode b_Mo_read 231 = .ok (.iconst 0, 1) := by decide +kernel
theorem d_Mo_read_232 : decode b_Mo_read 232 = .ok (.invokevirtual 96, 3) := by decide +kernel
theorem d_Mo_read_235 : decode b_Mo_read 235 = .ok (.iload 6, 2) := by decide +kernel
theorem d_Mo_read_237 : decode b_Mo_read 237 = .ok (.aload_n 0, 1) := by decide +kernel
theorem d_Mo_read_238 : decode b_Mo_read 238 = .ok (.getfield 31, 3) := by decide +kernel
theorem d_Mo_read_241 : decode b_Mo_read 241 = .ok (.iload_n 1, 1) := by decide +kernel
theorem d_Mo_read_242 : decode b_Mo_read 242 = .ok (.iaload, 1) := by decide +kernel
theorem d_Mo_read_243 : decode b_Mo_read 243 = .ok (.if_icmp .ge 53, 3) := by decide +kernel
theorem d_Mo_read_246 : decode b_Mo_read 246 = .ok (.aload_n 0, 1) := by decide +kernel
theorem d_Mo_read_247 : decode b_Mo_read 247 = .ok (.aload_n 0, 1) := by decide +kernel
theorem d_Mo_read_248 : decode b_Mo_read 248 = .ok (.getfield 34, 3) := by decide +kernel
theorem d_Mo_read_251 : decode b_Mo_read 251 = .ok (.iload 7, 2) := by decide +kernel
theorem d_Mo_read_253 : decode b_Mo_read 253 = .ok (.iaload, 1) := by decide +kernel
theorem d_Mo_read_254 : decode b_Mo_read 254 = .ok (.invokevirtual 96, 3) := by decide +kernel
theorem d_Mo_read_257 : decode b_Mo_read 257 = .ok (.iconst 0, 1) := by decide +kernel
theorem d_Mo_read_258 : decode b_Mo_read 258 = .ok (.istore 8, 2) := by decide +kernel
theorem d_Mo_read_260 : decode b_Mo_read 260 = .ok (.iload 8, 2) := by decide +kernel
theorem d_Mo_read_262 : decode b_Mo_read 262 = .ok (.aload_n 0, 1) := by decide +kernel
theorem d_Mo_read_263 : decode b_Mo_read 263 = .ok (.getfield 34, 3) := by decide +kernel
theorem d_Mo_read_266 : decode b_Mo_read 266 = .ok (.iload 7, 2) := by decide +kernel
theorem d_Mo_read_268 : decode b_Mo_read 268 = .ok (.iaload, 1) := by decide +kernel
theorem d_Mo_read_269 : decode b_Mo_read 269 = .ok (.if_icmp .ge 21, 3) := by decide +kernel
theorem d_Mo_read_272 : decode b_Mo_read 272 = .ok (.aload_n 0, 1) := by decide +kernel
theorem d_Mo_read_273 : decode b_Mo_read 273 = .ok (.aload_n 0, 1) := by decide +kernel
theorem d_Mo_read_274 : decode b_Mo_read 274 = .ok (.iload 7, 2) := by decide +kernel
theorem d_Mo_read_276 : decode b_Mo_read 276 = .ok (.iload 8, 2) := by decide +kernel
theorem d_Mo_read_278 : decode b_Mo_read 278 = .ok (.invokevirtual 168, 3) := by decide +kernel
theorem q_1127 : Cond.methodLink "TwinKeepersModel" 168 ⟨"TwinKeepersModel", "keyByte", "(II)I"⟩ ∈ xT := xin 1127 (by decide +kernel) (by decide +kernel)
theorem d_Mo_read_281 : decode b_Mo_read 281 = .ok (.invokevirtual 96, 3) := by decide +kernel
theorem d_Mo_read_284 : decode b_Mo_read 284 = .ok (.iinc 8 1, 3) := by decide +kernel
theorem d_Mo_read_287 : decode b_Mo_read 287 = .ok (.goto (-27), 3) := by decide +kernel
theorem d_Mo_read_290 : decode b_Mo_read 290 = .ok (.aload_n 0, 1) := by decide +kernel
theorem d_Mo_read_291 : decode b_Mo_read 291 = .ok (.iload 7, 2) := by decide +kernel
theorem d_Mo_read_293 : decode b_Mo_read 293 = .ok (.invokevirtual 118, 3) := by decide +kernel
theorem d_Mo_read_296 : decode b_Mo_read 296 = .ok (.aload_n 0, 1) := by decide +kernel
theorem d_Mo_read_297 : decode b_Mo_read 297 = .ok (.invokevirtual 152, 3) := by decide +kernel
theorem d_Mo_read_300 : decode b_Mo_read 300 = .ok (.aload_n 0, 1) := by decide +kernel
theorem d_Mo_read_301 : decode b_Mo_read 301 = .ok (.getfield 137, 3) := by decide +kernel
theorem d_Mo_read_304 : decode b_Mo_read 304 = .ok (.ireturn, 1) := by decide +kernel
abbrev b_Mo_keyByte : ByteArray := prog_8_method_10_code
def y_Mo_keyByte : MethodName := ⟨"TwinKeepersModel", "keyByte", "(II)I"⟩
theorem kc_Mo_keyByte : Cond.code y_Mo_keyByte b_Mo_keyByte 3 (some .int) ∈ xT := xin 1130 (by decide +kernel) (by decide +kernel)
theorem k_Mo_keyByte : xCode y_Mo_keyByte b_Mo_keyByte 3 (some .int) [] := Or.inl ⟨rfl, kc_Mo_keyByte⟩
theorem h_Mo_keyByte : plainFor y_Mo_keyByte = true ∧ (y_Mo_keyByte.cls ≠ "java/lang/invoke/MethodHandle" ∧ y_Mo_keyByte.cls ≠ "java/lang/invoke/VarHandle") ∧ (parseMethodDescriptor y_Mo_keyByte.desc).map (fun d => d.parameters.length) = some 2 := by decide +kernel
theorem v_Mo_keyByte : Cond.instanceMethod y_Mo_keyByte ∈ xT := xin 1129 (by decide +kernel) (by decide +kernel)
theorem e_Mo_keyByte : Cond.selects "TwinKeepersModel" y_Mo_keyByte y_Mo_keyByte ∈ xT := xinp 38 (by decide +kernel) (by decide +kernel)
theorem d_Mo_keyByte_0 : decode b_Mo_keyByte 0 = .ok (.aload_n 0, 1) := by decide +kernel
theorem d_Mo_keyByte_1 : decode b_Mo_keyByte 1 = .ok (.getfield 37, 3) := by decide +kernel
theorem d_Mo_keyByte_4 : decode b_Mo_keyByte 4 = .ok (.iconst 4, 1) := by decide +kernel
theorem d_Mo_keyByte_5 : decode b_Mo_keyByte 5 = .ok (.iload_n 1, 1) := by decide +kernel
theorem d_Mo_keyByte_6 : decode b_Mo_keyByte 6 = .ok (.imul, 1) := by decide +kernel
theorem d_Mo_keyByte_7 : decode b_Mo_keyByte 7 = .ok (.iload_n 2, 1) := by decide +kernel
theorem d_Mo_keyByte_8 : decode b_Mo_keyByte 8 = .ok (.bipush 8, 2) := by decide +kernel
theorem d_Mo_keyByte_10 : decode b_Mo_keyByte 10 = .ok (.idiv, 1) := by decide +kernel
theorem d_Mo_keyByte_11 : decode b_Mo_keyByte 11 = .ok (.iadd, 1) := by decide +kernel
theorem d_Mo_keyByte_12 : decode b_Mo_keyByte 12 = .ok (.laload, 1) := by decide +kernel
theorem d_Mo_keyByte_13 : decode b_Mo_keyByte 13 = .ok (.bipush 56, 2) := by decide +kernel
theorem d_Mo_keyByte_15 : decode b_Mo_keyByte 15 = .ok (.bipush 8, 2) := by decide +kernel
theorem d_Mo_keyByte_17 : decode b_Mo_keyByte 17 = .ok (.iload_n 2, 1) := by decide +kernel
theorem d_Mo_keyByte_18 : decode b_Mo_keyByte 18 = .ok (.bipush 8, 2) := by decide +kernel
theorem d_Mo_keyByte_20 : decode b_Mo_keyByte 20 = .ok (.irem, 1) := by decide +kernel
theorem d_Mo_keyByte_21 : decode b_Mo_keyByte 21 = .ok (.imul, 1) := by decide +kernel
theorem d_Mo_keyByte_22 : decode b_Mo_keyByte 22 = .ok (.isub, 1) := by decide +kernel
theorem d_Mo_keyByte_23 : decode b_Mo_keyByte 23 = .ok (.lshr, 1) := by decide +kernel
theorem d_Mo_keyByte_24 : decode b_Mo_keyByte 24 = .ok (.ldc2_w 77, 3) := by decide +kernel
theorem d_Mo_keyByte_27 : decode b_Mo_keyByte 27 = .ok (.land, 1) := by decide +kernel
theorem d_Mo_keyByte_28 : decode b_Mo_keyByte 28 = .ok (.l2i, 1) := by decide +kernel
theorem d_Mo_keyByte_29 : decode b_Mo_keyByte 29 = .ok (.ireturn, 1) := by decide +kernel
abbrev b_Mo_row : ByteArray := prog_8_method_34_code
def y_Mo_row : MethodName := ⟨"TwinKeepersModel", "row", "(I)I"⟩
theorem kc_Mo_row : Cond.code y_Mo_row b_Mo_row 4 (some .int) ∈ xT := xin 1134 (by decide +kernel) (by decide +kernel)
theorem k_Mo_row : xCode y_Mo_row b_Mo_row 4 (some .int) [] := Or.inl ⟨rfl, kc_Mo_row⟩
theorem h_Mo_row : plainFor y_Mo_row = true ∧ (y_Mo_row.cls ≠ "java/lang/invoke/MethodHandle" ∧ y_Mo_row.cls ≠ "java/lang/invoke/VarHandle") ∧ (parseMethodDescriptor y_Mo_row.desc).map (fun d => d.parameters.length) = some 1 := by decide +kernel
theorem v_Mo_row : Cond.instanceMethod y_Mo_row ∈ xT := xin 1132 (by decide +kernel) (by decide +kernel)
theorem e_Mo_row : Cond.selects "TwinKeepersModel" y_Mo_row y_Mo_row ∈ xT := xin 1133 (by decide +kernel) (by decide +kernel)
theorem d_Mo_row_0 : decode b_Mo_row 0 = .ok (.aload_n 0, 1) := by decide +kernel
theorem d_Mo_row_1 : decode b_Mo_row 1 = .ok (.iconst 0, 1) := by decide +kernel
theorem d_Mo_row_2 : decode b_Mo_row 2 = .ok (.putfield 62, 3) := by decide +kernel
theorem d_Mo_row_5 : decode b_Mo_row 5 = .ok (.iload_n 1, 1) := by decide +kernel
theorem d_Mo_row_6 : decode b_Mo_row 6 = .ok (.invokestatic 125, 3) := by decide +kernel
theorem d_Mo_row_9 : decode b_Mo_row 9 = .ok (.ifCond .ne 9, 3) := by decide +kernel
theorem d_Mo_row_12 : decode b_Mo_row 12 = .ok (.aload_n 0, 1) := by decide +kernel
theorem d_Mo_row_13 : decode b_Mo_row 13 = .ok (.iconst 1, 1) := by decide +kernel
theorem d_Mo_row_14 : decode b_Mo_row 14 = .ok (.invokevirtual 70, 3) := by decide +kernel
theorem d_Mo_row_17 : decode b_Mo_row 17 = .ok (.ireturn, 1) := by decide +kernel
theorem d_Mo_row_18 : decode b_Mo_row 18 = .ok (.aload_n 0, 1) := by decide +kernel
theorem d_Mo_row_19 : decode b_Mo_row 19 = .ok (.iconst 0, 1) := by decide +kernel
theorem d_Mo_row_20 : decode b_Mo_row 20 = .ok (.putfield 137, 3) := by decide +kernel
theorem d_Mo_row_23 : decode b_Mo_row 23 = .ok (.aload_n 0, 1) := by decide +kernel
theorem d_Mo_row_24 : decode b_Mo_row 24 = .ok (.aload_n 0, 1) := by decide +kernel
theorem d_Mo_row_25 : decode b_Mo_row 25 = .ok (.getfield 7, 3) := by decide +kernel
theorem d_Mo_row_28 : decode b_Mo_row 28 = .ok (.iload_n 1, 1) := by decide +kernel
theorem d_Mo_row_29 : decode b_Mo_row 29 = .ok (.iaload, 1) := by decide +kernel
theorem d_Mo_row_30 : decode b_Mo_row 30 = .ok (.iconst 4, 1) := by decide +kernel
theorem d_Mo_row_31 : decode b_Mo_row 31 = .ok (.invokevirtual 171, 3) := by decide +kernel
theorem q_1135 : Cond.methodLink "TwinKeepersModel" 171 ⟨"TwinKeepersModel", "addNumber", "(II)V"⟩ ∈ xT := xin 1135 (by decide +kernel) (by decide +kernel)
theorem d_Mo_row_34 : decode b_Mo_row 34 = .ok (.bipush 16, 2) := by decide +kernel
theorem d_Mo_row_36 : decode b_Mo_row 36 = .ok (.iload_n 1, 1) := by decide +kernel
theorem d_Mo_row_37 : decode b_Mo_row 37 = .ok (.imul, 1) := by decide +kernel
theorem d_Mo_row_38 : decode b_Mo_row 38 = .ok (.istore_n 2, 1) := by decide +kernel
theorem d_Mo_row_39 : decode b_Mo_row 39 = .ok (.iload_n 2, 1) := by decide +kernel
theorem d_Mo_row_40 : decode b_Mo_row 40 = .ok (.bipush 16, 2) := by decide +kernel
theorem d_Mo_row_42 : decode b_Mo_row 42 = .ok (.iload_n 1, 1) := by decide +kernel
theorem d_Mo_row_43 : decode b_Mo_row 43 = .ok (.imul, 1) := by decide +kernel
theorem d_Mo_row_44 : decode b_Mo_row 44 = .ok (.aload_n 0, 1) := by decide +kernel
theorem d_Mo_row_45 : decode b_Mo_row 45 = .ok (.getfield 7, 3) := by decide +kernel
theorem d_Mo_row_48 : decode b_Mo_row 48 = .ok (.iload_n 1, 1) := by decide +kernel
theorem d_Mo_row_49 : decode b_Mo_row 49 = .ok (.iaload, 1) := by decide +kernel
theorem d_Mo_row_50 : decode b_Mo_row 50 = .ok (.iadd, 1) := by decide +kernel
theorem d_Mo_row_51 : decode b_Mo_row 51 = .ok (.if_icmp .ge 97, 3) := by decide +kernel
theorem d_Mo_row_54 : decode b_Mo_row 54 = .ok (.aload_n 0, 1) := by decide +kernel
theorem d_Mo_row_55 : decode b_Mo_row 55 = .ok (.aload_n 0, 1) := by decide +kernel
theorem d_Mo_row_56 : decode b_Mo_row 56 = .ok (.getfield 13, 3) := by decide +kernel
theorem d_Mo_row_59 : decode b_Mo_row 59 = .ok (.iload_n 2, 1) := by decide +kernel
theorem d_Mo_row_60 : decode b_Mo_row 60 = .ok (.iaload, 1) := by decide +kernel
theorem d_Mo_row_61 : decode b_Mo_row 61 = .ok (.iconst 4, 1) := by decide +kernel
theorem d_Mo_row_62 : decode b_Mo_row 62 = .ok (.invokevirtual 171, 3) := by decide +kernel
theorem d_Mo_row_65 : decode b_Mo_row 65 = .ok (.aload_n 0, 1) := by decide +kernel
theorem d_Mo_row_66 : decode b_Mo_row 66 = .ok (.aload_n 0, 1) := by decide +kernel
theorem d_Mo_row_67 : decode b_Mo_row 67 = .ok (.getfield 16, 3) := by decide +kernel
theorem d_Mo_row_70 : decode b_Mo_row 70 = .ok (.iload_n 2, 1) := by decide +kernel
theorem d_Mo_row_71 : decode b_Mo_row 71 = .ok (.iaload, 1) := by decide +kernel
theorem d_Mo_row_72 : decode b_Mo_row 72 = .ok (.iconst 4, 1) := by decide +kernel
theorem d_Mo_row_73 : decode b_Mo_row 73 = .ok (.invokevirtual 171, 3) := by decide +kernel
theorem d_Mo_row_76 : decode b_Mo_row 76 = .ok (.aload_n 0, 1) := by decide +kernel
theorem d_Mo_row_77 : decode b_Mo_row 77 = .ok (.aload_n 0, 1) := by decide +kernel
theorem d_Mo_row_78 : decode b_Mo_row 78 = .ok (.getfield 19, 3) := by decide +kernel
theorem d_Mo_row_81 : decode b_Mo_row 81 = .ok (.iload_n 2, 1) := by decide +kernel
theorem d_Mo_row_82 : decode b_Mo_row 82 = .ok (.iaload, 1) := by decide +kernel
theorem d_Mo_row_83 : decode b_Mo_row 83 = .ok (.iconst 4, 1) := by decide +kernel
theorem d_Mo_row_84 : decode b_Mo_row 84 = .ok (.invokevirtual 171, 3) := by decide +kernel
theorem d_Mo_row_87 : decode b_Mo_row 87 = .ok (.aload_n 0, 1) := by decide +kernel
theorem d_Mo_row_88 : decode b_Mo_row 88 = .ok (.aload_n 0, 1) := by decide +kernel
theorem d_Mo_row_89 : decode b_Mo_row 89 = .ok (.getfield 22, 3) := by decide +kernel
theorem d_Mo_row_92 : decode b_Mo_row 92 = .ok (.iload_n 2, 1) := by decide +kernel
theorem d_Mo_row_93 : decode b_Mo_row 93 = .ok (.iaload, 1) := by decide +kernel
theorem d_Mo_row_94 : decode b_Mo_row 94 = .ok (.iconst 4, 1) := by decide +kernel
theorem d_Mo_row_95 : decode b_Mo_row 95 = .ok (.invokevirtual 171, 3) := by decide +kernel
theorem d_Mo_row_98 : decode b_Mo_row 98 = .ok (.aload_n 0, 1) := by decide +kernel
theorem d_Mo_row_99 : decode b_Mo_row 99 = .ok (.aload_n 0, 1) := by decide +kernel
theorem d_Mo_row_100 : decode b_Mo_row 100 = .ok (.getfield 25, 3) := by decide +kernel
theorem d_Mo_row_103 : decode b_Mo_row 103 = .ok (.iload_n 2, 1) := by decide +kernel
theorem d_Mo_row_104 : decode b_Mo_row 104 = .ok (.iaload, 1) := by decide +kernel
theorem d_Mo_row_105 : decode b_Mo_row 105 = .ok (.iconst 2, 1) := by decide +kernel
theorem d_Mo_row_106 : decode b_Mo_row 106 = .ok (.invokevirtual 171, 3) := by decide +kernel
theorem d_Mo_row_109 : decode b_Mo_row 109 = .ok (.iconst 0, 1) := by decide +kernel
theorem d_Mo_row_110 : decode b_Mo_row 110 = .ok (.istore_n 3, 1) := by decide +kernel
theorem d_Mo_row_111 : decode b_Mo_row 111 = .ok (.iload_n 3, 1) := by decide +kernel
theorem d_Mo_row_112 : decode b_Mo_row 112 = .ok (.aload_n 0, 1) := by decide +kernel
theorem d_Mo_row_113 : decode b_Mo_row 113 = .ok (.getfield 25, 3) := by decide +kernel
theorem d_Mo_row_116 : decode b_Mo_row 116 = .ok (.iload_n 2, 1) := by decide +kernel
theorem d_Mo_row_117 : decode b_Mo_row 117 = .ok (.iaload, 1) := by decide +kernel
theorem d_Mo_row_118 : decode b_Mo_row 118 = .ok (.if_icmp .ge 24, 3) := by decide +kernel
theorem d_Mo_row_121 : decode b_Mo_row 121 = .ok (.aload_n 0, 1) := by decide +kernel
theorem d_Mo_row_122 : decode b_Mo_row 122 = .ok (.aload_n 0, 1) := by decide +kernel
theorem d_Mo_row_123 : decode b_Mo_row 123 = .ok (.getfield 28, 3) := by decide +kernel
theorem d_Mo_row_126 : decode b_Mo_row 126 = .ok (.bipush 104, 2) := by decide +kernel
theorem d_Mo_row_128 : decode b_Mo_row 128 = .ok (.iload_n 2, 1) := by decide +kernel
theorem d_Mo_row_129 : decode b_Mo_row 129 = .ok (.imul, 1) := by decide +kernel
theorem d_Mo_row_130 : decode b_Mo_row 130 = .ok (.iload_n 3, 1) := by decide +kernel
theorem d_Mo_row_131 : decode b_Mo_row 131 = .ok (.iadd, 1) := by decide +kernel
theorem d_Mo_row_132 : decode b_Mo_row 132 = .ok (.iaload, 1) := by decide +kernel
theorem d_Mo_row_133 : decode b_Mo_row 133 = .ok (.invokevirtual 140, 3) := by decide +kernel
theorem d_Mo_row_136 : decode b_Mo_row 136 = .ok (.iinc 3 1, 3) := by decide +kernel
theorem d_Mo_row_139 : decode b_Mo_row 139 = .ok (.goto (-28), 3) := by decide +kernel
theorem d_Mo_row_142 : decode b_Mo_row 142 = .ok (.iinc 2 1, 3) := by decide +kernel
theorem d_Mo_row_145 : decode b_Mo_row 145 = .ok (.goto (-106), 3) := by decide +kernel
theorem d_Mo_row_148 : decode b_Mo_row 148 = .ok (.aload_n 0, 1) := by decide +kernel
theorem d_Mo_row_149 : decode b_Mo_row 149 = .ok (.aload_n 0, 1) := by decide +kernel
theorem d_Mo_row_150 : decode b_Mo_row 150 = .ok (.getfield 31, 3) := by decide +kernel
theorem d_Mo_row_153 : decode b_Mo_row 153 = .ok (.iload_n 1, 1) := by decide +kernel
theorem d_Mo_row_154 : decode b_Mo_row 154 = .ok (.iaload, 1) := by decide +kernel
theorem d_Mo_row_155 : decode b_Mo_row 155 = .ok (.iconst 4, 1) := by decide +kernel
theorem d_Mo_row_156 : decode b_Mo_row 156 = .ok (.invokevirtual 171, 3) := by decide +kernel
theorem d_Mo_row_159 : decode b_Mo_row 159 = .ok (.sipush 128, 3) := by decide +kernel
theorem d_Mo_row_162 : decode b_Mo_row 162 = .ok (.iload_n 1, 1) := by decide +kernel
theorem d_Mo_row_163 : decode b_Mo_row 163 = .ok (.imul, 1) := by decide +kernel
theorem d_Mo_row_164 : decode b_Mo_row 164 = .ok (.istore_n 2, 1) := by decide +kernel
theorem d_Mo_row_165 : decode b_Mo_row 165 = .ok (.iload_n 2, 1) := by decide +kernel
theorem d_Mo_row_166 : decode b_Mo_row 166 = .ok (.sipush 128, 3) := by decide +kernel
theorem d_Mo_row_169 : decode b_Mo_row 169 = .ok (.iload_n 1, 1) := by decide +kernel
theorem d_Mo_row_170 : decode b_Mo_row 170 = .ok (.imul, 1) := by decide +kernel
theorem d_Mo_row_171 : decode b_Mo_row 171 = .ok (.aload_n 0, 1) := by decide +kernel
theorem d_Mo_row_172 : decode b_Mo_row 172 = .ok (.getfield 31, 3) := by decide +kernel
theorem d_Mo_row_175 : decode b_Mo_row 175 = .ok (.iload_n 1, 1) := by decide +kernel
theorem d_Mo_row_176 : decode b_Mo_row 176 = .ok (.iaload, 1) := by decide +kernel
theorem d_Mo_row_177 : decode b_Mo_row 177 = .ok (.iadd, 1) := by decide +kernel
theorem d_Mo_row_178 : decode b_Mo_row 178 = .ok (.if_icmp .ge 86, 3) := by decide +kernel
theorem d_Mo_row_181 : decode b_Mo_row 181 = .ok (.aload_n 0, 1) := by decide +kernel
theorem d_Mo_row_182 : decode b_Mo_row 182 = .ok (.aload_n 0, 1) := by decide +kernel
theorem d_Mo_row_183 : decode b_Mo_row 183 = .ok (.getfield 34, 3) := by decide +kernel
theorem d_Mo_row_186 : decode b_Mo_row 186 = .ok (.iload_n 2, 1) := by decide +kernel
theorem d_Mo_row_187 : decode b_Mo_row 187 = .ok (.iaload, 1) := by decide +kernel
theorem d_Mo_row_188 : decode b_Mo_row 188 = .ok (.invokevirtual 140, 3) := by decide +kernel
theorem d_Mo_row_191 : decode b_Mo_row 191 = .ok (.aload_n 0, 1) := by decide +kernel
theorem d_Mo_row_192 : decode b_Mo_row 192 = .ok (.aload_n 0, 1) := by decide +kernel
theorem d_Mo_row_193 : decode b_Mo_row 193 = .ok (.getfield 41, 3) := by decide +kernel
theorem d_Mo_row_196 : decode b_Mo_row 196 = .ok (.iload_n 2, 1) := by decide +kernel
theorem d_Mo_row_197 : decode b_Mo_row 197 = .ok (.iaload, 1) := by decide +kernel
theorem d_Mo_row_198 : decode b_Mo_row 198 = .ok (.iconst 2, 1) := by decide +kernel
theorem d_Mo_row_199 : decode b_Mo_row 199 = .ok (.invokevirtual 171, 3) := by decide +kernel
theorem d_Mo_row_202 : decode b_Mo_row 202 = .ok (.iconst 0, 1) := by decide +kernel
theorem d_Mo_row_203 : decode b_Mo_row 203 = .ok (.istore_n 3, 1) := by decide +kernel
theorem d_Mo_row_204 : decode b_Mo_row 204 = .ok (.iload_n 3, 1) := by decide +kernel
theorem d_Mo_row_205 : decode b_Mo_row 205 = .ok (.aload_n 0, 1) := by decide +kernel
theorem d_Mo_row_206 : decode b_Mo_row 206 = .ok (.getfield 34, 3) := by decide +kernel
theorem d_Mo_row_209 : decode b_Mo_row 209 = .ok (.iload_n 2, 1) := by decide +kernel
theorem d_Mo_row_210 : decode b_Mo_row 210 = .ok (.iaload, 1) := by decide +kernel
theorem d_Mo_row_211 : decode b_Mo_row 211 = .ok (.if_icmp .ge 19, 3) := by decide +kernel
theorem d_Mo_row_214 : decode b_Mo_row 214 = .ok (.aload_n 0, 1) := by decide +kernel
theorem d_Mo_row_215 : decode b_Mo_row 215 = .ok (.aload_n 0, 1) := by decide +kernel
theorem d_Mo_row_216 : decode b_Mo_row 216 = .ok (.iload_n 2, 1) := by decide +kernel
theorem d_Mo_row_217 : decode b_Mo_row 217 = .ok (.iload_n 3, 1) := by decide +kernel
theorem d_Mo_row_218 : decode b_Mo_row 218 = .ok (.invokevirtual 168, 3) := by decide +kernel
theorem d_Mo_row_221 : decode b_Mo_row 221 = .ok (.invokevirtual 140, 3) := by decide +kernel
theorem d_Mo_row_224 : decode b_Mo_row 224 = .ok (.iinc 3 1, 3) := by decide +kernel
theorem d_Mo_row_227 : decode b_Mo_row 227 = .ok (.goto (-23), 3) := by decide +kernel
theorem d_Mo_row_230 : decode b_Mo_row 230 = .ok (.iconst 0, 1) := by decide +kernel
theorem d_Mo_row_231 : decode b_Mo_row 231 = .ok (.istore_n 3, 1) := by decide +kernel
theorem d_Mo_row_232 : decode b_Mo_row 232 = .ok (.iload_n 3, 1) := by decide +kernel
theorem d_Mo_row_233 : decode b_Mo_row 233 = .ok (.aload_n 0, 1) := by decide +kernel
theorem d_Mo_row_234 : decode b_Mo_row 234 = .ok (.getfield 41, 3) := by decide +kernel
theorem d_Mo_row_237 : decode b_Mo_row 237 = .ok (.iload_n 2, 1) := by decide +kernel
theorem d_Mo_row_238 : decode b_Mo_row 238 = .ok (.iaload, 1) := by decide +kernel
theorem d_Mo_row_239 : decode b_Mo_row 239 = .ok (.if_icmp .ge 19, 3) := by decide +kernel
theorem d_Mo_row_242 : decode b_Mo_row 242 = .ok (.aload_n 0, 1) := by decide +kernel
theorem d_Mo_row_243 : decode b_Mo_row 243 = .ok (.aload_n 0, 1) := by decide +kernel
theorem d_Mo_row_244 : decode b_Mo_row 244 = .ok (.iload_n 2, 1) := by decide +kernel
theorem d_Mo_row_245 : decode b_Mo_row 245 = .ok (.iload_n 3, 1) := by decide +kernel
theorem d_Mo_row_246 : decode b_Mo_row 246 = .ok (.invokevirtual 92, 3) := by decide +kernel
theorem d_Mo_row_249 : decode b_Mo_row 249 = .ok (.invokevirtual 140, 3) := by decide +kernel
theorem d_Mo_row_252 : decode b_Mo_row 252 = .ok (.iinc 3 1, 3) := by decide +kernel
theorem d_Mo_row_255 : decode b_Mo_row 255 = .ok (.goto (-23), 3) := by decide +kernel
theorem d_Mo_row_258 : decode b_Mo_row 258 = .ok (.iinc 2 1, 3) := by decide +kernel
theorem d_Mo_row_261 : decode b_Mo_row 261 = .ok (.goto (-96), 3) := by decide +kernel
theorem d_Mo_row_264 : decode b_Mo_row 264 = .ok (.aload_n 0, 1) := by decide +kernel
theorem d_Mo_row_265 : decode b_Mo_row 265 = .ok (.getfield 137, 3) := by decide +kernel
theorem d_Mo_row_268 : decode b_Mo_row 268 = .ok (.ireturn, 1) := by decide +kernel
abbrev b_Mo_addNumber : ByteArray := prog_8_method_33_code
def y_Mo_addNumber : MethodName := ⟨"TwinKeepersModel", "addNumber", "(II)V"⟩
theorem kc_Mo_addNumber : Cond.code y_Mo_addNumber b_Mo_addNumber 4 none ∈ xT := xin 1138 (by decide +kernel) (by decide +kernel)
theorem k_Mo_addNumber : xCode y_Mo_addNumber b_Mo_addNumber 4 none [] := Or.inl ⟨rfl, kc_Mo_addNumber⟩
theorem h_Mo_addNumber : plainFor y_Mo_addNumber = true ∧ (y_Mo_addNumber.cls ≠ "java/lang/invoke/MethodHandle" ∧ y_Mo_addNumber.cls ≠ "java/lang/invoke/VarHandle") ∧ (parseMethodDescriptor y_Mo_addNumber.desc).map (fun d => d.parameters.length) = some 2 := by decide +kernel
theorem v_Mo_addNumber : Cond.instanceMethod y_Mo_addNumber ∈ xT := xin 1137 (by decide +kernel) (by decide +kernel)
theorem e_Mo_addNumber : Cond.selects "TwinKeepersModel" y_Mo_addNumber y_Mo_addNumber ∈ xT := xinp 39 (by decide +kernel) (by decide +kernel)
theorem d_Mo_addNumber_0 : decode b_Mo_addNumber 0 = .ok (.iconst 0, 1) := by decide +kernel
theorem d_Mo_addNumber_1 : decode b_Mo_addNumber 1 = .ok (.istore_n 3, 1) := by decide +kernel
theorem d_Mo_addNumber_2 : decode b_Mo_addNumber 2 = .ok (.iload_n 3, 1) := by decide +kernel
theorem d_Mo_addNumber_3 : decode b_Mo_addNumber 3 = .ok (.iload_n 2, 1) := by decide +kernel
theorem d_Mo_addNumber_4 : decode b_Mo_addNumber 4 = .ok (.if_icmp .ge 19, 3) := by decide +kernel
theorem d_Mo_addNumber_7 : decode b_Mo_addNumber 7 = .ok (.aload_n 0, 1) := by decide +kernel
theorem d_Mo_addNumber_8 : decode b_Mo_addNumber 8 = .ok (.iload_n 1, 1) := by decide +kernel
theorem d_Mo_addNumber_9 : decode b_Mo_addNumber 9 = .ok (.bipush 8, 2) := by decide +kernel
theorem d_Mo_addNumber_11 : decode b_Mo_addNumber 11 = .ok (.iload_n 3, 1) := by decide +kernel
theorem d_Mo_addNumber_12 : decode b_Mo_addNumber 12 = .ok (.imul, 1) := by decide +kernel
theorem d_Mo_addNumber_13 : decode b_Mo_addNumber 13 = .ok (.ishr, 1) := by decide +kernel
theorem d_Mo_addNumber_14 : decode b_Mo_addNumber 14 = .ok (.invokevirtual 140, 3) := by decide +kernel
theorem d_Mo_addNumber_17 : decode b_Mo_addNumber 17 = .ok (.iinc 3 1, 3) := by decide +kernel
theorem d_Mo_addNumber_20 : decode b_Mo_addNumber 20 = .ok (.goto (-18), 3) := by decide +kernel
theorem d_Mo_addNumber_23 : decode b_Mo_addNumber 23 = .ok (.return_, 1) := by decide +kernel
abbrev b_Mo_make : ByteArray := prog_8_method_37_code
def y_Mo_make : MethodName := ⟨"TwinKeepersModel", "make", "(II)Z"⟩
theorem kc_Mo_make : Cond.code y_Mo_make b_Mo_make 5 (some .boolean) ∈ xT := xin 1142 (by decide +kernel) (by decide +kernel)
theorem k_Mo_make : xCode y_Mo_make b_Mo_make 5 (some .boolean) [] := Or.inl ⟨rfl, kc_Mo_make⟩
theorem h_Mo_make : plainFor y_Mo_make = true ∧ (y_Mo_make.cls ≠ "java/lang/invoke/MethodHandle" ∧ y_Mo_make.cls ≠ "java/lang/invoke/VarHandle") ∧ (parseMethodDescriptor y_Mo_make.desc).map (fun d => d.parameters.length) = some 2 := by decide +kernel
theorem v_Mo_make : Cond.instanceMethod y_Mo_make ∈ xT := xin 1140 (by decide +kernel) (by decide +kernel)
theorem e_Mo_make : Cond.selects "TwinKeepersModel" y_Mo_make y_Mo_make ∈ xT := xin 1141 (by decide +kernel) (by decide +kernel)
theorem d_Mo_make_0 : decode b_Mo_make 0 = .ok (.aload_n 0, 1) := by decide +kernel
theorem d_Mo_make_1 : decode b_Mo_make 1 = .ok (.iconst 0, 1) := by decide +kernel
theorem d_Mo_make_2 : decode b_Mo_make 2 = .ok (.putfield 62, 3) := by decide +kernel
theorem d_Mo_make_5 : decode b_Mo_make 5 = .ok (.iload_n 1, 1) := by decide +kernel
theorem d_Mo_make_6 : decode b_Mo_make 6 = .ok (.invokestatic 125, 3) := by decide +kernel
theorem d_Mo_make_9 : decode b_Mo_make 9 = .ok (.ifCond .eq 10, 3) := by decide +kernel
theorem d_Mo_make_12 : decode b_Mo_make 12 = .ok (.iload_n 2, 1) := by decide +kernel
theorem d_Mo_make_13 : decode b_Mo_make 13 = .ok (.invokestatic 125, 3) := by decide +kernel
theorem d_Mo_make_16 : decode b_Mo_make 16 = .ok (.ifCond .ne 17, 3) := by decide +kernel
theorem d_Mo_make_19 : decode b_Mo_make 19 = .ok (.aload_n 0, 1) := by decide +kernel
theorem d_Mo_make_20 : decode b_Mo_make 20 = .ok (.iconst 1, 1) := by decide +kernel
theorem d_Mo_make_21 : decode b_Mo_make 21 = .ok (.invokevirtual 70, 3) := by decide +kernel
theorem d_Mo_make_24 : decode b_Mo_make 24 = .ok (.ifCond .le 7, 3) := by decide +kernel
theorem d_Mo_make_27 : decode b_Mo_make 27 = .ok (.iconst 1, 1) := by decide +kernel
theorem d_Mo_make_28 : decode b_Mo_make 28 = .ok (.goto 4, 3) := by decide +kernel
theorem d_Mo_make_31 : decode b_Mo_make 31 = .ok (.iconst 0, 1) := by decide +kernel
theorem d_Mo_make_32 : decode b_Mo_make 32 = .ok (.ireturn, 1) := by decide +kernel
theorem d_Mo_make_33 : decode b_Mo_make 33 = .ok (.aload_n 0, 1) := by decide +kernel
theorem d_Mo_make_34 : decode b_Mo_make 34 = .ok (.getfield 7, 3) := by decide +kernel
theorem d_Mo_make_37 : decode b_Mo_make 37 = .ok (.iload_n 1, 1) := by decide +kernel
theorem d_Mo_make_38 : decode b_Mo_make 38 = .ok (.iaload, 1) := by decide +kernel
theorem d_Mo_make_39 : decode b_Mo_make 39 = .ok (.aload_n 0, 1) := by decide +kernel
theorem d_Mo_make_40 : decode b_Mo_make 40 = .ok (.getfield 7, 3) := by decide +kernel
theorem d_Mo_make_43 : decode b_Mo_make 43 = .ok (.iload_n 2, 1) := by decide +kernel
theorem d_Mo_make_44 : decode b_Mo_make 44 = .ok (.iaload, 1) := by decide +kernel
theorem d_Mo_make_45 : decode b_Mo_make 45 = .ok (.if_icmp .ne 22, 3) := by decide +kernel
theorem d_Mo_make_48 : decode b_Mo_make 48 = .ok (.aload_n 0, 1) := by decide +kernel
theorem d_Mo_make_49 : decode b_Mo_make 49 = .ok (.getfield 31, 3) := by decide +kernel
theorem d_Mo_make_52 : decode b_Mo_make 52 = .ok (.iload_n 1, 1) := by decide +kernel
theorem d_Mo_make_53 : decode b_Mo_make 53 = .ok (.iaload, 1) := by decide +kernel
theorem d_Mo_make_54 : decode b_Mo_make 54 = .ok (.aload_n 0, 1) := by decide +kernel
theorem d_Mo_make_55 : decode b_Mo_make 55 = .ok (.getfield 31, 3) := by decide +kernel
theorem d_Mo_make_58 : decode b_Mo_make 58 = .ok (.iload_n 2, 1) := by decide +kernel
theorem d_Mo_make_59 : decode b_Mo_make 59 = .ok (.iaload, 1) := by decide +kernel
theorem d_Mo_make_60 : decode b_Mo_make 60 = .ok (.if_icmp .ne 7, 3) := by decide +kernel
theorem d_Mo_make_63 : decode b_Mo_make 63 = .ok (.iconst 1, 1) := by decide +kernel
theorem d_Mo_make_64 : decode b_Mo_make 64 = .ok (.goto 4, 3) := by decide +kernel
theorem d_Mo_make_67 : decode b_Mo_make 67 = .ok (.iconst 0, 1) := by decide +kernel
theorem d_Mo_make_68 : decode b_Mo_make 68 = .ok (.istore_n 3, 1) := by decide +kernel
theorem d_Mo_make_69 : decode b_Mo_make 69 = .ok (.iconst 0, 1) := by decide +kernel
theorem d_Mo_make_70 : decode b_Mo_make 70 = .ok (.istore 4, 2) := by decide +kernel
theorem d_Mo_make_72 : decode b_Mo_make 72 = .ok (.iload 4, 2) := by decide +kernel
theorem d_Mo_make_74 : decode b_Mo_make 74 = .ok (.aload_n 0, 1) := by decide +kernel
theorem d_Mo_make_75 : decode b_Mo_make 75 = .ok (.getfield 7, 3) := by decide +kernel
theorem d_Mo_make_78 : decode b_Mo_make 78 = .ok (.iload_n 1, 1) := by decide +kernel
theorem d_Mo_make_79 : decode b_Mo_make 79 = .ok (.iaload, 1) := by decide +kernel
theorem d_Mo_make_80 : decode b_Mo_make 80 = .ok (.if_icmp .ge 32, 3) := by decide +kernel
theorem d_Mo_make_83 : decode b_Mo_make 83 = .ok (.iload_n 3, 1) := by decide +kernel
theorem d_Mo_make_84 : decode b_Mo_make 84 = .ok (.ifCond .eq 28, 3) := by decide +kernel
theorem d_Mo_make_87 : decode b_Mo_make 87 = .ok (.aload_n 0, 1) := by decide +kernel
theorem d_Mo_make_88 : decode b_Mo_make 88 = .ok (.bipush 16, 2) := by decide +kernel
theorem d_Mo_make_90 : decode b_Mo_make 90 = .ok (.iload_n 1, 1) := by decide +kernel
theorem d_Mo_make_91 : decode b_Mo_make 91 = .ok (.imul, 1) := by decide +kernel
theorem d_Mo_make_92 : decode b_Mo_make 92 = .ok (.iload 4, 2) := by decide +kernel
theorem d_Mo_make_94 : decode b_Mo_make 94 = .ok (.iadd, 1) := by decide +kernel
theorem d_Mo_make_95 : decode b_Mo_make 95 = .ok (.bipush 16, 2) := by decide +kernel
theorem d_Mo_make_97 : decode b_Mo_make 97 = .ok (.iload_n 2, 1) := by decide +kernel
theorem d_Mo_make_98 : decode b_Mo_make 98 = .ok (.imul, 1) := by decide +kernel
theorem d_Mo_make_99 : decode b_Mo_make 99 = .ok (.iload 4, 2) := by decide +kernel
theorem d_Mo_make_101 : decode b_Mo_make 101 = .ok (.iadd, 1) := by decide +kernel
theorem d_Mo_make_102 : decode b_Mo_make 102 = .ok (.invokevirtual 174, 3) := by decide +kernel
theorem q_1143 : Cond.methodLink "TwinKeepersModel" 174 ⟨"TwinKeepersModel", "sameSession", "(II)Z"⟩ ∈ xT := xin 1143 (by decide +kernel) (by decide +kernel)
theorem d_Mo_make_105 : decode b_Mo_make 105 = .ok (.istore_n 3, 1) := by decide +kernel
theorem d_Mo_make_106 : decode b_Mo_make 106 = .ok (.iinc 4 1, 3) := by decide +kernel
theorem d_Mo_make_109 : decode b_Mo_make 109 = .ok (.goto (-37), 3) := by decide +kernel
theorem d_Mo_make_112 : decode b_Mo_make 112 = .ok (.iconst 0, 1) := by decide +kernel
theorem d_Mo_make_113 : decode b_Mo_make 113 = .ok (.istore 4, 2) := by decide +kernel
theorem d_Mo_make_115 : decode b_Mo_make 115 = .ok (.iload 4, 2) := by decide +kernel
theorem d_Mo_make_117 : decode b_Mo_make 117 = .ok (.aload_n 0, 1) := by decide +kernel
theorem d_Mo_make_118 : decode b_Mo_make 118 = .ok (.getfield 31, 3) := by decide +kernel
theorem d_Mo_make_121 : decode b_Mo_make 121 = .ok (.iload_n 1, 1) := by decide +kernel
theorem d_Mo_make_122 : decode b_Mo_make 122 = .ok (.iaload, 1) := by decide +kernel
theorem d_Mo_make_123 : decode b_Mo_make 123 = .ok (.if_icmp .ge 34, 3) := by decide +kernel
theorem d_Mo_make_126 : decode b_Mo_make 126 = .ok (.iload_n 3, 1) := by decide +kernel
theorem d_Mo_make_127 : decode b_Mo_make 127 = .ok (.ifCond .eq 30, 3) := by decide +kernel
theorem d_Mo_make_130 : decode b_Mo_make 130 = .ok (.aload_n 0, 1) := by decide +kernel
theorem d_Mo_make_131 : decode b_Mo_make 131 = .ok (.sipush 128, 3) := by decide +kernel
theorem d_Mo_make_134 : decode b_Mo_make 134 = .ok (.iload_n 1, 1) := by decide +kernel
theorem d_Mo_make_135 : decode b_Mo_make 135 = .ok (.imul, 1) := by decide +kernel
theorem d_Mo_make_136 : decode b_Mo_make 136 = .ok (.iload 4, 2) := by decide +kernel
theorem d_Mo_make_138 : decode b_Mo_make 138 = .ok (.iadd, 1) := by decide +kernel
theorem d_Mo_make_139 : decode b_Mo_make 139 = .ok (.sipush 128, 3) := by decide +kernel
theorem d_Mo_make_142 : decode b_Mo_make 142 = .ok (.iload_n 2, 1) := by decide +kernel
theorem d_Mo_make_143 : decode b_Mo_make 143 = .ok (.imul, 1) := by decide +kernel
theorem d_Mo_make_144 : decode b_Mo_make 144 = .ok (.iload 4, 2) := by decide +kernel
theorem d_Mo_make_146 : decode b_Mo_make 146 = .ok (.iadd, 1) := by decide +kernel
theorem d_Mo_make_147 : decode b_Mo_make 147 = .ok (.invokevirtual 177, 3) := by decide +kernel
theorem q_1147 : Cond.methodLink "TwinKeepersModel" 177 ⟨"TwinKeepersModel", "sameKey", "(II)Z"⟩ ∈ xT := xin 1147 (by decide +kernel) (by decide +kernel)
theorem d_Mo_make_150 : decode b_Mo_make 150 = .ok (.istore_n 3, 1) := by decide +kernel
theorem d_Mo_make_151 : decode b_Mo_make 151 = .ok (.iinc 4 1, 3) := by decide +kernel
theorem d_Mo_make_154 : decode b_Mo_make 154 = .ok (.goto (-39), 3) := by decide +kernel
theorem d_Mo_make_157 : decode b_Mo_make 157 = .ok (.aload_n 0, 1) := by decide +kernel
theorem d_Mo_make_158 : decode b_Mo_make 158 = .ok (.getfield 7, 3) := by decide +kernel
theorem d_Mo_make_161 : decode b_Mo_make 161 = .ok (.iload_n 2, 1) := by decide +kernel
theorem d_Mo_make_162 : decode b_Mo_make 162 = .ok (.aload_n 0, 1) := by decide +kernel
theorem d_Mo_make_163 : decode b_Mo_make 163 = .ok (.getfield 7, 3) := by decide +kernel
theorem d_Mo_make_166 : decode b_Mo_make 166 = .ok (.iload_n 1, 1) := by decide +kernel
theorem d_Mo_make_167 : decode b_Mo_make 167 = .ok (.iaload, 1) := by decide +kernel
theorem d_Mo_make_168 : decode b_Mo_make 168 = .ok (.iastore, 1) := by decide +kernel
theorem d_Mo_make_169 : decode b_Mo_make 169 = .ok (.aload_n 0, 1) := by decide +kernel
theorem d_Mo_make_170 : decode b_Mo_make 170 = .ok (.getfield 31, 3) := by decide +kernel
theorem d_Mo_make_173 : decode b_Mo_make 173 = .ok (.iload_n 2, 1) := by decide +kernel
theorem d_Mo_make_174 : decode b_Mo_make 174 = .ok (.aload_n 0, 1) := by decide +kernel
theorem d_Mo_make_175 : decode b_Mo_make 175 = .ok (.getfield 31, 3) := by decide +kernel
theorem d_Mo_make_178 : decode b_Mo_make 178 = .ok (.iload_n 1, 1) := by decide +kernel
theorem d_Mo_make_179 : decode b_Mo_make 179 = .ok (.iaload, 1) := by decide +kernel
theorem d_Mo_make_180 : decode b_Mo_make 180 = .ok (.iastore, 1) := by decide +kernel
theorem d_Mo_make_181 : decode b_Mo_make 181 = .ok (.iconst 0, 1) := by decide +kernel
theorem d_Mo_make_182 : decode b_Mo_make 182 = .ok (.istore 4, 2) := by decide +kernel
theorem d_Mo_make_184 : decode b_Mo_make 184 = .ok (.iload 4, 2) := by decide +kernel
theorem d_Mo_make_186 : decode b_Mo_make 186 = .ok (.aload_n 0, 1) := by decide +kernel
theorem d_Mo_make_187 : decode b_Mo_make 187 = .ok (.getfield 7, 3) := by decide +kernel
theorem d_Mo_make_190 : decode b_Mo_make 190 = .ok (.iload_n 1, 1) := by decide +kernel
theorem d_Mo_make_191 : decode b_Mo_make 191 = .ok (.iaload, 1) := by decide +kernel
theorem d_Mo_make_192 : decode b_Mo_make 192 = .ok (.if_icmp .ge 27, 3) := by decide +kernel
theorem d_Mo_make_195 : decode b_Mo_make 195 = .ok (.aload_n 0, 1) := by decide +kernel
theorem d_Mo_make_196 : decode b_Mo_make 196 = .ok (.bipush 16, 2) := by decide +kernel
theorem d_Mo_make_198 : decode b_Mo_make 198 = .ok (.iload_n 1, 1) := by decide +kernel
theorem d_Mo_make_199 : decode b_Mo_make 199 = .ok (.imul, 1) := by decide +kernel
theorem d_Mo_make_200 : decode b_Mo_make 200 = .ok (.iload 4, 2) := by decide +kernel
theorem d_Mo_make_202 : decode b_Mo_make 202 = .ok (.iadd, 1) := by decide +kernel
theorem d_Mo_make_203 : decode b_Mo_make 203 = .ok (.bipush 16, 2) := by decide +kernel
theorem d_Mo_make_205 : decode b_Mo_make 205 = .ok (.iload_n 2, 1) := by decide +kernel
theorem d_Mo_make_206 : decode b_Mo_make 206 = .ok (.imul, 1) := by decide +kernel
theorem d_Mo_make_207 : decode b_Mo_make 207 = .ok (.iload 4, 2) := by decide +kernel
theorem d_Mo_make_209 : decode b_Mo_make 209 = .ok (.iadd, 1) := by decide +kernel
theorem d_Mo_make_210 : decode b_Mo_make 210 = .ok (.invokevirtual 131, 3) := by decide +kernel
theorem d_Mo_make_213 : decode b_Mo_make 213 = .ok (.iinc 4 1, 3) := by decide +kernel
theorem d_Mo_make_216 : decode b_Mo_make 216 = .ok (.goto (-32), 3) := by decide +kernel
theorem d_Mo_make_219 : decode b_Mo_make 219 = .ok (.iconst 0, 1) := by decide +kernel
theorem d_Mo_make_220 : decode b_Mo_make 220 = .ok (.istore 4, 2) := by decide +kernel
theorem d_Mo_make_222 : decode b_Mo_make 222 = .ok (.iload 4, 2) := by decide +kernel
theorem d_Mo_make_224 : decode b_Mo_make 224 = .ok (.aload_n 0, 1) := by decide +kernel
theorem d_Mo_make_225 : decode b_Mo_make 225 = .ok (.getfield 31, 3) := by decide +kernel
theorem d_Mo_make_228 : decode b_Mo_make 228 = .ok (.iload_n 1, 1) := by decide +kernel
theorem d_Mo_make_229 : decode b_Mo_make 229 = .ok (.iaload, 1) := by decide +kernel
theorem d_Mo_make_230 : decode b_Mo_make 230 = .ok (.if_icmp .ge 29, 3) := by decide +kernel
theorem d_Mo_make_233 : decode b_Mo_make 233 = .ok (.aload_n 0, 1) := by decide +kernel
theorem d_Mo_make_234 : decode b_Mo_make 234 = .ok (.sipush 128, 3) := by decide +kernel
theorem d_Mo_make_237 : decode b_Mo_make 237 = .ok (.iload_n 1, 1) := by decide +kernel
theorem d_Mo_make_238 : decode b_Mo_make 238 = .ok (.imul, 1) := by decide +kernel
theorem d_Mo_make_239 : decode b_Mo_make 239 = .ok (.iload 4, 2) := by decide +kernel
theorem d_Mo_make_241 : decode b_Mo_make 241 = .ok (.iadd, 1) := by decide +kernel
theorem d_Mo_make_242 : decode b_Mo_make 242 = .ok (.sipush 128, 3) := by decide +kernel
theorem d_Mo_make_245 : decode b_Mo_make 245 = .ok (.iload_n 2, 1) := by decide +kernel
theorem d_Mo_make_246 : decode b_Mo_make 246 = .ok (.imul, 1) := by decide +kernel
theorem d_Mo_make_247 : decode b_Mo_make 247 = .ok (.iload 4, 2) := by decide +kernel
theorem d_Mo_make_249 : decode b_Mo_make 249 = .ok (.iadd, 1) := by decide +kernel
theorem d_Mo_make_250 : decode b_Mo_make 250 = .ok (.invokevirtual 110, 3) := by decide +kernel
theorem d_Mo_make_253 : decode b_Mo_make 253 = .ok (.iinc 4 1, 3) := by decide +kernel
theorem d_Mo_make_256 : decode b_Mo_make 256 = .ok (.goto (-34), 3) := by decide +kernel
theorem d_Mo_make_259 : decode b_Mo_make 259 = .ok (.aload_n 0, 1) := by decide +kernel
theorem d_Mo_make_260 : decode b_Mo_make 260 = .ok (.getfield 47, 3) := by decide +kernel
theorem d_Mo_make_263 : decode b_Mo_make 263 = .ok (.iload_n 2, 1) := by decide +kernel
theorem d_Mo_make_264 : decode b_Mo_make 264 = .ok (.aload_n 0, 1) := by decide +kernel
theorem d_Mo_make_265 : decode b_Mo_make 265 = .ok (.getfield 47, 3) := by decide +kernel
theorem d_Mo_make_268 : decode b_Mo_make 268 = .ok (.iload_n 2, 1) := by decide +kernel
theorem d_Mo_make_269 : decode b_Mo_make 269 = .ok (.iaload, 1) := by decide +kernel
theorem d_Mo_make_270 : decode b_Mo_make 270 = .ok (.aload_n 0, 1) := by decide +kernel
theorem d_Mo_make_271 : decode b_Mo_make 271 = .ok (.getfield 47, 3) := by decide +kernel
theorem d_Mo_make_274 : decode b_Mo_make 274 = .ok (.iload_n 1, 1) := by decide +kernel
theorem d_Mo_make_275 : decode b_Mo_make 275 = .ok (.iaload, 1) := by decide +kernel
theorem d_Mo_make_276 : decode b_Mo_make 276 = .ok (.if_icmp .le 12, 3) := by decide +kernel
theorem d_Mo_make_279 : decode b_Mo_make 279 = .ok (.aload_n 0, 1) := by decide +kernel
theorem d_Mo_make_280 : decode b_Mo_make 280 = .ok (.getfield 47, 3) := by decide +kernel
theorem d_Mo_make_283 : decode b_Mo_make 283 = .ok (.iload_n 2, 1) := by decide +kernel
theorem d_Mo_make_284 : decode b_Mo_make 284 = .ok (.iaload, 1) := by decide +kernel
theorem d_Mo_make_285 : decode b_Mo_make 285 = .ok (.goto 9, 3) := by decide +kernel
theorem d_Mo_make_288 : decode b_Mo_make 288 = .ok (.aload_n 0, 1) := by decide +kernel
theorem d_Mo_make_289 : decode b_Mo_make 289 = .ok (.getfield 47, 3) := by decide +kernel
theorem d_Mo_make_292 : decode b_Mo_make 292 = .ok (.iload_n 1, 1) := by decide +kernel
theorem d_Mo_make_293 : decode b_Mo_make 293 = .ok (.iaload, 1) := by decide +kernel
theorem d_Mo_make_294 : decode b_Mo_make 294 = .ok (.iastore, 1) := by decide +kernel
theorem d_Mo_make_295 : decode b_Mo_make 295 = .ok (.iload_n 3, 1) := by decide +kernel
theorem d_Mo_make_296 : decode b_Mo_make 296 = .ok (.ifCond .ne 7, 3) := by decide +kernel
theorem d_Mo_make_299 : decode b_Mo_make 299 = .ok (.iconst 1, 1) := by decide +kernel
theorem d_Mo_make_300 : decode b_Mo_make 300 = .ok (.goto 4, 3) := by decide +kernel
theorem d_Mo_make_303 : decode b_Mo_make 303 = .ok (.iconst 0, 1) := by decide +kernel
theorem d_Mo_make_304 : decode b_Mo_make 304 = .ok (.ireturn, 1) := by decide +kernel
abbrev b_Mo_sameSession : ByteArray := prog_8_method_35_code
def y_Mo_sameSession : MethodName := ⟨"TwinKeepersModel", "sameSession", "(II)Z"⟩
theorem kc_Mo_sameSession : Cond.code y_Mo_sameSession b_Mo_sameSession 5 (some .boolean) ∈ xT := xin 1146 (by decide +kernel) (by decide +kernel)
theorem k_Mo_sameSession : xCode y_Mo_sameSession b_Mo_sameSession 5 (some .boolean) [] := Or.inl ⟨rfl, kc_Mo_sameSession⟩
theorem h_Mo_sameSession : plainFor y_Mo_sameSession = true ∧ (y_Mo_sameSession.cls ≠ "java/lang/invoke/MethodHandle" ∧ y_Mo_sameSession.cls ≠ "java/lang/invoke/VarHandle") ∧ (parseMethodDescriptor y_Mo_sameSession.desc).map (fun d => d.parameters.length) = some 2 := by decide +kernel
theorem v_Mo_sameSession : Cond.instanceMethod y_Mo_sameSession ∈ xT := xin 1145 (by decide +kernel) (by decide +kernel)
theorem e_Mo_sameSession : Cond.selects "TwinKeepersModel" y_Mo_sameSession y_Mo_sameSession ∈ xT := xinp 40 (by decide +kernel) (by decide +kernel)
theorem d_Mo_sameSession_0 : decode b_Mo_sameSession 0 = .ok (.aload_n 0, 1) := by decide +kernel
theorem d_Mo_sameSession_1 : decode b_Mo_sameSession 1 = .ok (.getfield 13, 3) := by decide +kernel
theorem d_Mo_sameSession_4 : decode b_Mo_sameSession 4 = .ok (.iload_n 1, 1) := by decide +kernel
theorem d_Mo_sameSession_5 : decode b_Mo_sameSession 5 = .ok (.iaload, 1) := by decide +kernel
theorem d_Mo_sameSession_6 : decode b_Mo_sameSession 6 = .ok (.aload_n 0, 1) := by decide +kernel
theorem d_Mo_sameSession_7 : decode b_Mo_sameSession 7 = .ok (.getfield 13, 3) := by decide +kernel
theorem d_Mo_sameSession_10 : decode b_Mo_sameSession 10 = .ok (.iload_n 2, 1) := by decide +kernel
theorem d_Mo_sameSession_11 : decode b_Mo_sameSession 11 = .ok (.iaload, 1) := by decide +kernel
theorem d_Mo_sameSession_12 : decode b_Mo_sameSession 12 = .ok (.if_icmp .ne 67, 3) := by decide +kernel
theorem d_Mo_sameSession_15 : decode b_Mo_sameSession 15 = .ok (.aload_n 0, 1) := by decide +kernel
theorem d_Mo_sameSession_16 : decode b_Mo_sameSession 16 = .ok (.getfield 16, 3) := by decide +kernel
theorem d_Mo_sameSession_19 : decode b_Mo_sameSession 19 = .ok (.iload_n 1, 1) := by decide +kernel
theorem d_Mo_sameSession_20 : decode b_Mo_sameSession 20 = .ok (.iaload, 1) := by decide +kernel
theorem d_Mo_sameSession_21 : decode b_Mo_sameSession 21 = .ok (.aload_n 0, 1) := by decide +kernel
theorem d_Mo_sameSession_22 : decode b_Mo_sameSession 22 = .ok (.getfield 16, 3) := by decide +kernel
theorem d_Mo_sameSession_25 : decode b_Mo_sameSession 25 = .ok (.iload_n 2, 1) := by decide +kernel
theorem d_Mo_sameSession_26 : decode b_Mo_sameSession 26 = .ok (.iaload, 1) := by decide +kernel
theorem d_Mo_sameSession_27 : decode b_Mo_sameSession 27 = .ok (.if_icmp .ne 52, 3) := by decide +kernel
theorem d_Mo_sameSession_30 : decode b_Mo_sameSession 30 = .ok (.aload_n 0, 1) := by decide +kernel
theorem d_Mo_sameSession_31 : decode b_Mo_sameSession 31 = .ok (.getfield 19, 3) := by decide +kernel
theorem d_Mo_sameSession_34 : decode b_Mo_sameSession 34 = .ok (.iload_n 1, 1) := by decide +kernel
theorem d_Mo_sameSession_35 : decode b_Mo_sameSession 35 = .ok (.iaload, 1) := by decide +kernel
theorem d_Mo_sameSession_36 : decode b_Mo_sameSession 36 = .ok (.aload_n 0, 1) := by decide +kernel
theorem d_Mo_sameSession_37 : decode b_Mo_sameSession 37 = .ok (.getfield 19, 3) := by decide +kernel
theorem d_Mo_sameSession_40 : decode b_Mo_sameSession 40 = .ok (.iload_n 2, 1) := by decide +kernel
theorem d_Mo_sameSession_41 : decode b_Mo_sameSession 41 = .ok (.iaload, 1) := by decide +kernel
theorem d_Mo_sameSession_42 : decode b_Mo_sameSession 42 = .ok (.if_icmp .ne 37, 3) := by decide +kernel
theorem d_Mo_sameSession_45 : decode b_Mo_sameSession 45 = .ok (.aload_n 0, 1) := by decide +kernel
theorem d_Mo_sameSession_46 : decode b_Mo_sameSession 46 = .ok (.getfield 22, 3) := by decide +kernel
theorem d_Mo_sameSession_49 : decode b_Mo_sameSession 49 = .ok (.iload_n 1, 1) := by decide +kernel
theorem d_Mo_sameSession_50 : decode b_Mo_sameSession 50 = .ok (.iaload, 1) := by decide +kernel
theorem d_Mo_sameSession_51 : decode b_Mo_sameSession 51 = .ok (.aload_n 0, 1) := by decide +kernel
theorem d_Mo_sameSession_52 : decode b_Mo_sameSession 52 = .ok (.getfield 22, 3) := by decide +kernel
theorem d_Mo_sameSession_55 : decode b_Mo_sameSession 55 = .ok (.iload_n 2, 1) := by decide +kernel
theorem d_Mo_sameSession_56 : decode b_Mo_sameSession 56 = .ok (.iaload, 1) := by decide +kernel
theorem d_Mo_sameSession_57 : decode b_Mo_sameSession 57 = .ok (.if_icmp .ne 22, 3) := by decide +kernel
theorem d_Mo_sameSession_60 : decode b_Mo_sameSession 60 = .ok (.aload_n 0, 1) := by decide +kernel
theorem d_Mo_sameSession_61 : decode b_Mo_sameSession 61 = .ok (.getfield 25, 3) := by decide +kernel
theorem d_Mo_sameSession_64 : decode b_Mo_sameSession 64 = .ok (.iload_n 1, 1) := by decide +kernel
theorem d_Mo_sameSession_65 : decode b_Mo_sameSession 65 = .ok (.iaload, 1) := by decide +kernel
theorem d_Mo_sameSession_66 : decode b_Mo_sameSession 66 = .ok (.aload_n 0, 1) := by decide +kernel
theorem d_Mo_sameSession_67 : decode b_Mo_sameSession 67 = .ok (.getfield 25, 3) := by decide +kernel
theorem d_Mo_sameSession_70 : decode b_Mo_sameSession 70 = .ok (.iload_n 2, 1) := by decide +kernel
theorem d_Mo_sameSession_71 : decode b_Mo_sameSession 71 = .ok (.iaload, 1) := by decide +kernel
theorem d_Mo_sameSession_72 : decode b_Mo_sameSession 72 = .ok (.if_icmp .ne 7, 3) := by decide +kernel
theorem d_Mo_sameSession_75 : decode b_Mo_sameSession 75 = .ok (.iconst 1, 1) := by decide +kernel
theorem d_Mo_sameSession_76 : decode b_Mo_sameSession 76 = .ok (.goto 4, 3) := by decide +kernel
theorem d_Mo_sameSession_79 : decode b_Mo_sameSession 79 = .ok (.iconst 0, 1) := by decide +kernel
theorem d_Mo_sameSession_80 : decode b_Mo_sameSession 80 = .ok (.istore_n 3, 1) := by decide +kernel
theorem d_Mo_sameSession_81 : decode b_Mo_sameSession 81 = .ok (.iconst 0, 1) := by decide +kernel
theorem d_Mo_sameSession_82 : decode b_Mo_sameSession 82 = .ok (.istore 4, 2) := by decide +kernel
theorem d_Mo_sameSession_84 : decode b_Mo_sameSession 84 = .ok (.iload 4, 2) := by decide +kernel
theorem d_Mo_sameSession_86 : decode b_Mo_sameSession 86 = .ok (.aload_n 0, 1) := by decide +kernel
theorem d_Mo_sameSession_87 : decode b_Mo_sameSession 87 = .ok (.getfield 25, 3) := by decide +kernel
theorem d_Mo_sameSession_90 : decode b_Mo_sameSession 90 = .ok (.iload_n 1, 1) := by decide +kernel
theorem d_Mo_sameSession_91 : decode b_Mo_sameSession 91 = .ok (.iaload, 1) := by decide +kernel
theorem d_Mo_sameSession_92 : decode b_Mo_sameSession 92 = .ok (.if_icmp .ge 46, 3) := by decide +kernel
theorem d_Mo_sameSession_95 : decode b_Mo_sameSession 95 = .ok (.iload_n 3, 1) := by decide +kernel
theorem d_Mo_sameSession_96 : decode b_Mo_sameSession 96 = .ok (.ifCond .eq 42, 3) := by decide +kernel
theorem d_Mo_sameSession_99 : decode b_Mo_sameSession 99 = .ok (.aload_n 0, 1) := by decide +kernel
theorem d_Mo_sameSession_100 : decode b_Mo_sameSession 100 = .ok (.getfield 28, 3) := by decide +kernel
theorem d_Mo_sameSession_103 : decode b_Mo_sameSession 103 = .ok (.bipush 104, 2) := by decide +kernel
theorem d_Mo_sameSession_105 : decode b_Mo_sameSession 105 = .ok (.iload_n 1, 1) := by decide +kernel
theorem d_Mo_sameSession_106 : decode b_Mo_sameSession 106 = .ok (.imul, 1) := by decide +kernel
theorem d_Mo_sameSession_107 : decode b_Mo_sameSession 107 = .ok (.iload 4, 2) := by decide +kernel
theorem d_Mo_sameSession_109 : decode b_Mo_sameSession 109 = .ok (.iadd, 1) := by decide +kernel
theorem d_Mo_sameSession_110 : decode b_Mo_sameSession 110 = .ok (.iaload, 1) := by decide +kernel
theorem d_Mo_sameSession_111 : decode b_Mo_sameSession 111 = .ok (.aload_n 0, 1) := by decide +kernel
theorem d_Mo_sameSession_112 : decode b_Mo_sameSession 112 = .ok (.getfield 28, 3) := by decide +kernel
theorem d_Mo_sameSession_115 : decode b_Mo_sameSession 115 = .ok (.bipush 104, 2) := by decide +kernel
theorem d_Mo_sameSession_117 : decode b_Mo_sameSession 117 = .ok (.iload_n 2, 1) := by decide +kernel
theorem d_Mo_sameSession_118 : decode b_Mo_sameSession 118 = .ok (.imul, 1) := by decide +kernel
theorem d_Mo_sameSession_119 : decode b_Mo_sameSession 119 = .ok (.iload 4, 2) := by decide +kernel
theorem d_Mo_sameSession_121 : decode b_Mo_sameSession 121 = .ok (.iadd, 1) := by decide +kernel
theorem d_Mo_sameSession_122 : decode b_Mo_sameSession 122 = .ok (.iaload, 1) := by decide +kernel
theorem d_Mo_sameSession_123 : decode b_Mo_sameSession 123 = .ok (.if_icmp .ne 7, 3) := by decide +kernel
theorem d_Mo_sameSession_126 : decode b_Mo_sameSession 126 = .ok (.iconst 1, 1) := by decide +kernel
theorem d_Mo_sameSession_127 : decode b_Mo_sameSession 127 = .ok (.goto 4, 3) := by decide +kernel
theorem d_Mo_sameSession_130 : decode b_Mo_sameSession 130 = .ok (.iconst 0, 1) := by decide +kernel
theorem d_Mo_sameSession_131 : decode b_Mo_sameSession 131 = .ok (.istore_n 3, 1) := by decide +kernel
theorem d_Mo_sameSession_132 : decode b_Mo_sameSession 132 = .ok (.iinc 4 1, 3) := by decide +kernel
theorem d_Mo_sameSession_135 : decode b_Mo_sameSession 135 = .ok (.goto (-51), 3) := by decide +kernel
theorem d_Mo_sameSession_138 : decode b_Mo_sameSession 138 = .ok (.iload_n 3, 1) := by decide +kernel
theorem d_Mo_sameSession_139 : decode b_Mo_sameSession 139 = .ok (.ireturn, 1) := by decide +kernel
abbrev b_Mo_sameKey : ByteArray := prog_8_method_36_code
def y_Mo_sameKey : MethodName := ⟨"TwinKeepersModel", "sameKey", "(II)Z"⟩
theorem kc_Mo_sameKey : Cond.code y_Mo_sameKey b_Mo_sameKey 5 (some .boolean) ∈ xT := xin 1150 (by decide +kernel) (by decide +kernel)
theorem k_Mo_sameKey : xCode y_Mo_sameKey b_Mo_sameKey 5 (some .boolean) [] := Or.inl ⟨rfl, kc_Mo_sameKey⟩
theorem h_Mo_sameKey : plainFor y_Mo_sameKey = true ∧ (y_Mo_sameKey.cls ≠ "java/lang/invoke/MethodHandle" ∧ y_Mo_sameKey.cls ≠ "java/lang/invoke/VarHandle") ∧ (parseMethodDescriptor y_Mo_sameKey.desc).map (fun d => d.parameters.length) = some 2 := by decide +kernel
theorem v_Mo_sameKey : Cond.instanceMethod y_Mo_sameKey ∈ xT := xin 1149 (by decide +kernel) (by decide +kernel)
theorem e_Mo_sameKey : Cond.selects "TwinKeepersModel" y_Mo_sameKey y_Mo_sameKey ∈ xT := xinp 41 (by decide +kernel) (by decide +kernel)
theorem d_Mo_sameKey_0 : decode b_Mo_sameKey 0 = .ok (.aload_n 0, 1) := by decide +kernel
theorem d_Mo_sameKey_1 : decode b_Mo_sameKey 1 = .ok (.getfield 34, 3) := by decide +kernel
theorem d_Mo_sameKey_4 : decode b_Mo_sameKey 4 = .ok (.iload_n 1, 1) := by decide +kernel
theorem d_Mo_sameKey_5 : decode b_Mo_sameKey 5 = .ok (.iaload, 1) := by decide +kernel
theorem d_Mo_sameKey_6 : decode b_Mo_sameKey 6 = .ok (.aload_n 0, 1) := by decide +kernel
theorem d_Mo_sameKey_7 : decode b_Mo_sameKey 7 = .ok (.getfield 34, 3) := by decide +kernel
theorem d_Mo_sameKey_10 : decode b_Mo_sameKey 10 = .ok (.iload_n 2, 1) := by decide +kernel
theorem d_Mo_sameKey_11 : decode b_Mo_sameKey 11 = .ok (.iaload, 1) := by decide +kernel
theorem d_Mo_sameKey_12 : decode b_Mo_sameKey 12 = .ok (.if_icmp .ne 22, 3) := by decide +kernel
theorem d_Mo_sameKey_15 : decode b_Mo_sameKey 15 = .ok (.aload_n 0, 1) := by decide +kernel
theorem d_Mo_sameKey_16 : decode b_Mo_sameKey 16 = .ok (.getfield 41, 3) := by decide +kernel
theorem d_Mo_sameKey_19 : decode b_Mo_sameKey 19 = .ok (.iload_n 1, 1) := by decide +kernel
theorem d_Mo_sameKey_20 : decode b_Mo_sameKey 20 = .ok (.iaload, 1) := by decide +kernel
theorem d_Mo_sameKey_21 : decode b_Mo_sameKey 21 = .ok (.aload_n 0, 1) := by decide +kernel
theorem d_Mo_sameKey_22 : decode b_Mo_sameKey 22 = .ok (.getfield 41, 3) := by decide +kernel
theorem d_Mo_sameKey_25 : decode b_Mo_sameKey 25 = .ok (.iload_n 2, 1) := by decide +kernel
theorem d_Mo_sameKey_26 : decode b_Mo_sameKey 26 = .ok (.iaload, 1) := by decide +kernel
theorem d_Mo_sameKey_27 : decode b_Mo_sameKey 27 = .ok (.if_icmp .ne 7, 3) := by decide +kernel
theorem d_Mo_sameKey_30 : decode b_Mo_sameKey 30 = .ok (.iconst 1, 1) := by decide +kernel
theorem d_Mo_sameKey_31 : decode b_Mo_sameKey 31 = .ok (.goto 4, 3) := by decide +kernel
theorem d_Mo_sameKey_34 : decode b_Mo_sameKey 34 = .ok (.iconst 0, 1) := by decide +kernel
theorem d_Mo_sameKey_35 : decode b_Mo_sameKey 35 = .ok (.istore_n 3, 1) := by decide +kernel
theorem d_Mo_sameKey_36 : decode b_Mo_sameKey 36 = .ok (.iconst 0, 1) := by decide +kernel
theorem d_Mo_sameKey_37 : decode b_Mo_sameKey 37 = .ok (.istore 4, 2) := by decide +kernel
theorem d_Mo_sameKey_39 : decode b_Mo_sameKey 39 = .ok (.iload 4, 2) := by decide +kernel
theorem d_Mo_sameKey_41 : decode b_Mo_sameKey 41 = .ok (.iconst 4, 1) := by decide +kernel
theorem d_Mo_sameKey_42 : decode b_Mo_sameKey 42 = .ok (.if_icmp .ge 45, 3) := by decide +kernel
theorem d_Mo_sameKey_45 : decode b_Mo_sameKey 45 = .ok (.iload_n 3, 1) := by decide +kernel
theorem d_Mo_sameKey_46 : decode b_Mo_sameKey 46 = .ok (.ifCond .eq 33, 3) := by decide +kernel
theorem d_Mo_sameKey_49 : decode b_Mo_sameKey 49 = .ok (.aload_n 0, 1) := by decide +kernel
theorem d_Mo_sameKey_50 : decode b_Mo_sameKey 50 = .ok (.getfield 37, 3) := by decide +kernel
theorem d_Mo_sameKey_53 : decode b_Mo_sameKey 53 = .ok (.iconst 4, 1) := by decide +kernel
theorem d_Mo_sameKey_54 : decode b_Mo_sameKey 54 = .ok (.iload_n 1, 1) := by decide +kernel
theorem d_Mo_sameKey_55 : decode b_Mo_sameKey 55 = .ok (.imul, 1) := by decide +kernel
theorem d_Mo_sameKey_56 : decode b_Mo_sameKey 56 = .ok (.iload 4, 2) := by decide +kernel
theorem d_Mo_sameKey_58 : decode b_Mo_sameKey 58 = .ok (.iadd, 1) := by decide +kernel
theorem d_Mo_sameKey_59 : decode b_Mo_sameKey 59 = .ok (.laload, 1) := by decide +kernel
theorem d_Mo_sameKey_60 : decode b_Mo_sameKey 60 = .ok (.aload_n 0, 1) := by decide +kernel
theorem d_Mo_sameKey_61 : decode b_Mo_sameKey 61 = .ok (.getfield 37, 3) := by decide +kernel
theorem d_Mo_sameKey_64 : decode b_Mo_sameKey 64 = .ok (.iconst 4, 1) := by decide +kernel
theorem d_Mo_sameKey_65 : decode b_Mo_sameKey 65 = .ok (.iload_n 2, 1) := by decide +kernel
theorem d_Mo_sameKey_66 : decode b_Mo_sameKey 66 = .ok (.imul, 1) := by decide +kernel
theorem d_Mo_sameKey_67 : decode b_Mo_sameKey 67 = .ok (.iload 4, 2) := by decide +kernel
theorem d_Mo_sameKey_69 : decode b_Mo_sameKey 69 = .ok (.iadd, 1) := by decide +kernel
theorem d_Mo_sameKey_70 : decode b_Mo_sameKey 70 = .ok (.laload, 1) := by decide +kernel
theorem d_Mo_sameKey_71 : decode b_Mo_sameKey 71 = .ok (.lcmp, 1) := by decide +kernel
theorem d_Mo_sameKey_72 : decode b_Mo_sameKey 72 = .ok (.ifCond .ne 7, 3) := by decide +kernel
theorem d_Mo_sameKey_75 : decode b_Mo_sameKey 75 = .ok (.iconst 1, 1) := by decide +kernel
theorem d_Mo_sameKey_76 : decode b_Mo_sameKey 76 = .ok (.goto 4, 3) := by decide +kernel
theorem d_Mo_sameKey_79 : decode b_Mo_sameKey 79 = .ok (.iconst 0, 1) := by decide +kernel
theorem d_Mo_sameKey_80 : decode b_Mo_sameKey 80 = .ok (.istore_n 3, 1) := by decide +kernel
theorem d_Mo_sameKey_81 : decode b_Mo_sameKey 81 = .ok (.iinc 4 1, 3) := by decide +kernel
theorem d_Mo_sameKey_84 : decode b_Mo_sameKey 84 = .ok (.goto (-45), 3) := by decide +kernel
theorem d_Mo_sameKey_87 : decode b_Mo_sameKey 87 = .ok (.iconst 0, 1) := by decide +kernel
theorem d_Mo_sameKey_88 : decode b_Mo_sameKey 88 = .ok (.istore 4, 2) := by decide +kernel
theorem d_Mo_sameKey_90 : decode b_Mo_sameKey 90 = .ok (.iload 4, 2) := by decide +kernel
theorem d_Mo_sameKey_92 : decode b_Mo_sameKey 92 = .ok (.bipush 13, 2) := by decide +kernel
theorem d_Mo_sameKey_94 : decode b_Mo_sameKey 94 = .ok (.if_icmp .ge 47, 3) := by decide +kernel
theorem d_Mo_sameKey_97 : decode b_Mo_sameKey 97 = .ok (.iload_n 3, 1) := by decide +kernel
theorem d_Mo_sameKey_98 : decode b_Mo_sameKey 98 = .ok (.ifCond .eq 35, 3) := by decide +kernel
theorem d_Mo_sameKey_101 : decode b_Mo_sameKey 101 = .ok (.aload_n 0, 1) := by decide +kernel
theorem d_Mo_sameKey_102 : decode b_Mo_sameKey 102 = .ok (.getfield 44, 3) := by decide +kernel
theorem d_Mo_sameKey_105 : decode b_Mo_sameKey 105 = .ok (.bipush 13, 2) := by decide +kernel
theorem d_Mo_sameKey_107 : decode b_Mo_sameKey 107 = .ok (.iload_n 1, 1) := by decide +kernel
theorem d_Mo_sameKey_108 : decode b_Mo_sameKey 108 = .ok (.imul, 1) := by decide +kernel
theorem d_Mo_sameKey_109 : decode b_Mo_sameKey 109 = .ok (.iload 4, 2) := by decide +kernel
theorem d_Mo_sameKey_111 : decode b_Mo_sameKey 111 = .ok (.iadd, 1) := by decide +kernel
theorem d_Mo_sameKey_112 : decode b_Mo_sameKey 112 = .ok (.laload, 1) := by decide +kernel
theorem d_Mo_sameKey_113 : decode b_Mo_sameKey 113 = .ok (.aload_n 0, 1) := by decide +kernel
theorem d_Mo_sameKey_114 : decode b_Mo_sameKey 114 = .ok (.getfield 44, 3) := by decide +kernel
theorem d_Mo_sameKey_117 : decode b_Mo_sameKey 117 = .ok (.bipush 13, 2) := by decide +kernel
theorem d_Mo_sameKey_119 : decode b_Mo_sameKey 119 = .ok (.iload_n 2, 1) := by decide +kernel
theorem d_Mo_sameKey_120 : decode b_Mo_sameKey 120 = .ok (.imul, 1) := by decide +kernel
theorem d_Mo_sameKey_121 : decode b_Mo_sameKey 121 = .ok (.iload 4, 2) := by decide +kernel
theorem d_Mo_sameKey_123 : decode b_Mo_sameKey 123 = .ok (.iadd, 1) := by decide +kernel
theorem d_Mo_sameKey_124 : decode b_Mo_sameKey 124 = .ok (.laload, 1) := by decide +kernel
theorem d_Mo_sameKey_125 : decode b_Mo_sameKey 125 = .ok (.lcmp, 1) := by decide +kernel
theorem d_Mo_sameKey_126 : decode b_Mo_sameKey 126 = .ok (.ifCond .ne 7, 3) := by decide +kernel
theorem d_Mo_sameKey_129 : decode b_Mo_sameKey 129 = .ok (.iconst 1, 1) := by decide +kernel
theorem d_Mo_sameKey_130 : decode b_Mo_sameKey 130 = .ok (.goto 4, 3) := by decide +kernel
theorem d_Mo_sameKey_133 : decode b_Mo_sameKey 133 = .ok (.iconst 0, 1) := by decide +kernel
theorem d_Mo_sameKey_134 : decode b_Mo_sameKey 134 = .ok (.istore_n 3, 1) := by decide +kernel
theorem d_Mo_sameKey_135 : decode b_Mo_sameKey 135 = .ok (.iinc 4 1, 3) := by decide +kernel
theorem d_Mo_sameKey_138 : decode b_Mo_sameKey 138 = .ok (.goto (-48), 3) := by decide +kernel
theorem d_Mo_sameKey_141 : decode b_Mo_sameKey 141 = .ok (.iload_n 3, 1) := by decide +kernel
theorem d_Mo_sameKey_142 : decode b_Mo_sameKey 142 = .ok (.ireturn, 1) := by decide +kernel
abbrev b_Mo_clear : ByteArray := prog_8_method_38_code
def y_Mo_clear : MethodName := ⟨"TwinKeepersModel", "clear", "(I)I"⟩
theorem kc_Mo_clear : Cond.code y_Mo_clear b_Mo_clear 3 (some .int) ∈ xT := xin 1154 (by decide +kernel) (by decide +kernel)
theorem k_Mo_clear : xCode y_Mo_clear b_Mo_clear 3 (some .int) [] := Or.inl ⟨rfl, kc_Mo_clear⟩
theorem h_Mo_clear : plainFor y_Mo_clear = true ∧ (y_Mo_clear.cls ≠ "java/lang/invoke/MethodHandle" ∧ y_Mo_clear.cls ≠ "java/lang/invoke/VarHandle") ∧ (parseMethodDescriptor y_Mo_clear.desc).map (fun d => d.parameters.length) = some 1 := by decide +kernel
theorem v_Mo_clear : Cond.instanceMethod y_Mo_clear ∈ xT := xin 1152 (by decide +kernel) (by decide +kernel)
theorem e_Mo_clear : Cond.selects "TwinKeepersModel" y_Mo_clear y_Mo_clear ∈ xT := xin 1153 (by decide +kernel) (by decide +kernel)
theorem d_Mo_clear_0 : decode b_Mo_clear 0 = .ok (.aload_n 0, 1) := by decide +kernel
theorem d_Mo_clear_1 : decode b_Mo_clear 1 = .ok (.iconst 0, 1) := by decide +kernel
theorem d_Mo_clear_2 : decode b_Mo_clear 2 = .ok (.putfield 62, 3) := by decide +kernel
theorem d_Mo_clear_5 : decode b_Mo_clear 5 = .ok (.iload_n 1, 1) := by decide +kernel
theorem d_Mo_clear_6 : decode b_Mo_clear 6 = .ok (.invokestatic 125, 3) := by decide +kernel
theorem d_Mo_clear_9 : decode b_Mo_clear 9 = .ok (.ifCond .ne 9, 3) := by decide +kernel
theorem d_Mo_clear_12 : decode b_Mo_clear 12 = .ok (.aload_n 0, 1) := by decide +kernel
theorem d_Mo_clear_13 : decode b_Mo_clear 13 = .ok (.iconst 1, 1) := by decide +kernel
theorem d_Mo_clear_14 : decode b_Mo_clear 14 = .ok (.invokevirtual 70, 3) := by decide +kernel
theorem d_Mo_clear_17 : decode b_Mo_clear 17 = .ok (.ireturn, 1) := by decide +kernel
theorem d_Mo_clear_18 : decode b_Mo_clear 18 = .ok (.aload_n 0, 1) := by decide +kernel
theorem d_Mo_clear_19 : decode b_Mo_clear 19 = .ok (.getfield 31, 3) := by decide +kernel
theorem d_Mo_clear_22 : decode b_Mo_clear 22 = .ok (.iload_n 1, 1) := by decide +kernel
theorem d_Mo_clear_23 : decode b_Mo_clear 23 = .ok (.iaload, 1) := by decide +kernel
theorem d_Mo_clear_24 : decode b_Mo_clear 24 = .ok (.istore_n 2, 1) := by decide +kernel
theorem d_Mo_clear_25 : decode b_Mo_clear 25 = .ok (.aload_n 0, 1) := by decide +kernel
theorem d_Mo_clear_26 : decode b_Mo_clear 26 = .ok (.getfield 31, 3) := by decide +kernel
theorem d_Mo_clear_29 : decode b_Mo_clear 29 = .ok (.iload_n 1, 1) := by decide +kernel
theorem d_Mo_clear_30 : decode b_Mo_clear 30 = .ok (.iconst 0, 1) := by decide +kernel
theorem d_Mo_clear_31 : decode b_Mo_clear 31 = .ok (.iastore, 1) := by decide +kernel
theorem d_Mo_clear_32 : decode b_Mo_clear 32 = .ok (.aload_n 0, 1) := by decide +kernel
theorem d_Mo_clear_33 : decode b_Mo_clear 33 = .ok (.getfield 7, 3) := by decide +kernel
theorem d_Mo_clear_36 : decode b_Mo_clear 36 = .ok (.iload_n 1, 1) := by decide +kernel
theorem d_Mo_clear_37 : decode b_Mo_clear 37 = .ok (.iconst 0, 1) := by decide +kernel
theorem d_Mo_clear_38 : decode b_Mo_clear 38 = .ok (.iastore, 1) := by decide +kernel
theorem d_Mo_clear_39 : decode b_Mo_clear 39 = .ok (.iload_n 2, 1) := by decide +kernel
theorem d_Mo_clear_40 : decode b_Mo_clear 40 = .ok (.ireturn, 1) := by decide +kernel
abbrev b_Mo_session : ByteArray := prog_8_method_39_code
def y_Mo_session : MethodName := ⟨"TwinKeepersModel", "session", "(III)I"⟩
theorem kc_Mo_session : Cond.code y_Mo_session b_Mo_session 5 (some .int) ∈ xT := xin 1158 (by decide +kernel) (by decide +kernel)
theorem k_Mo_session : xCode y_Mo_session b_Mo_session 5 (some .int) [] := Or.inl ⟨rfl, kc_Mo_session⟩
theorem h_Mo_session : plainFor y_Mo_session = true ∧ (y_Mo_session.cls ≠ "java/lang/invoke/MethodHandle" ∧ y_Mo_session.cls ≠ "java/lang/invoke/VarHandle") ∧ (parseMethodDescriptor y_Mo_session.desc).map (fun d => d.parameters.length) = some 3 := by decide +kernel
theorem v_Mo_session : Cond.instanceMethod y_Mo_session ∈ xT := xin 1156 (by decide +kernel) (by decide +kernel)
theorem e_Mo_session : Cond.selects "TwinKeepersModel" y_Mo_session y_Mo_session ∈ xT := xin 1157 (by decide +kernel) (by decide +kernel)
theorem d_Mo_session_0 : decode b_Mo_session 0 = .ok (.aload_n 0, 1) := by decide +kernel
theorem d_Mo_session_1 : decode b_Mo_session 1 = .ok (.iconst 0, 1) := by decide +kernel
theorem d_Mo_session_2 : decode b_Mo_session 2 = .ok (.putfield 62, 3) := by decide +kernel
theorem d_Mo_session_5 : decode b_Mo_session 5 = .ok (.iload_n 1, 1) := by decide +kernel
theorem d_Mo_session_6 : decode b_Mo_session 6 = .ok (.invokestatic 125, 3) := by decide +kernel
theorem d_Mo_session_9 : decode b_Mo_session 9 = .ok (.ifCond .eq 28, 3) := by decide +kernel
theorem d_Mo_session_12 : decode b_Mo_session 12 = .ok (.iload_n 2, 1) := by decide +kernel
theorem d_Mo_session_13 : decode b_Mo_session 13 = .ok (.iconst 0, 1) := by decide +kernel
theorem d_Mo_session_14 : decode b_Mo_session 14 = .ok (.aload_n 0, 1) := by decide +kernel
theorem d_Mo_session_15 : decode b_Mo_session 15 = .ok (.getfield 7, 3) := by decide +kernel
theorem d_Mo_session_18 : decode b_Mo_session 18 = .ok (.iload_n 1, 1) := by decide +kernel
theorem d_Mo_session_19 : decode b_Mo_session 19 = .ok (.iaload, 1) := by decide +kernel
theorem d_Mo_session_20 : decode b_Mo_session 20 = .ok (.iconst 1, 1) := by decide +kernel
theorem d_Mo_session_21 : decode b_Mo_session 21 = .ok (.isub, 1) := by decide +kernel
theorem d_Mo_session_22 : decode b_Mo_session 22 = .ok (.invokestatic 66, 3) := by decide +kernel
theorem d_Mo_session_25 : decode b_Mo_session 25 = .ok (.ifCond .eq 12, 3) := by decide +kernel
theorem d_Mo_session_28 : decode b_Mo_session 28 = .ok (.iload_n 3, 1) := by decide +kernel
theorem d_Mo_session_29 : decode b_Mo_session 29 = .ok (.iconst 0, 1) := by decide +kernel
theorem d_Mo_session_30 : decode b_Mo_session 30 = .ok (.iconst 4, 1) := by decide +kernel
theorem d_Mo_session_31 : decode b_Mo_session 31 = .ok (.invokestatic 66, 3) := by decide +kernel
theorem d_Mo_session_34 : decode b_Mo_session 34 = .ok (.ifCond .ne 9, 3) := by decide +kernel
theorem d_Mo_session_37 : decode b_Mo_session 37 = .ok (.aload_n 0, 1) := by decide +kernel
theorem d_Mo_session_38 : decode b_Mo_session 38 = .ok (.iconst 1, 1) := by decide +kernel
theorem d_Mo_session_39 : decode b_Mo_session 39 = .ok (.invokevirtual 70, 3) := by decide +kernel
theorem d_Mo_session_42 : decode b_Mo_session 42 = .ok (.ireturn, 1) := by decide +kernel
theorem d_Mo_session_43 : decode b_Mo_session 43 = .ok (.bipush 16, 2) := by decide +kernel
theorem d_Mo_session_45 : decode b_Mo_session 45 = .ok (.iload_n 1, 1) := by decide +kernel
theorem d_Mo_session_46 : decode b_Mo_session 46 = .ok (.imul, 1) := by decide +kernel
theorem d_Mo_session_47 : decode b_Mo_session 47 = .ok (.iload_n 2, 1) := by decide +kernel
theorem d_Mo_session_48 : decode b_Mo_session 48 = .ok (.iadd, 1) := by decide +kernel
theorem d_Mo_session_49 : decode b_Mo_session 49 = .ok (.istore 4, 2) := by decide +kernel
theorem d_Mo_session_51 : decode b_Mo_session 51 = .ok (.iload_n 3, 1) := by decide +kernel
theorem d_Mo_session_52 : decode b_Mo_session 52 = .ok (.iconst 3, 1) := by decide +kernel
theorem d_Mo_session_53 : decode b_Mo_session 53 = .ok (.if_icmp .ge 40, 3) := by decide +kernel
theorem d_Mo_session_56 : decode b_Mo_session 56 = .ok (.iload_n 3, 1) := by decide +kernel
theorem d_Mo_session_57 : decode b_Mo_session 57 = .ok (.ifCond .ne 13, 3) := by decide +kernel
theorem d_Mo_session_60 : decode b_Mo_session 60 = .ok (.aload_n 0, 1) := by decide +kernel
theorem d_Mo_session_61 : decode b_Mo_session 61 = .ok (.getfield 13, 3) := by decide +kernel
theorem d_Mo_session_64 : decode b_Mo_session 64 = .ok (.iload 4, 2) := by decide +kernel
theorem d_Mo_session_66 : decode b_Mo_session 66 = .ok (.iaload, 1) := by decide +kernel
theorem d_Mo_session_67 : decode b_Mo_session 67 = .ok (.goto 25, 3) := by decide +kernel
theorem d_Mo_session_70 : decode b_Mo_session 70 = .ok (.iload_n 3, 1) := by decide +kernel
theorem d_Mo_session_71 : decode b_Mo_session 71 = .ok (.iconst 1, 1) := by decide +kernel
theorem d_Mo_session_72 : decode b_Mo_session 72 = .ok (.if_icmp .ne 13, 3) := by decide +kernel
theorem d_Mo_session_75 : decode b_Mo_session 75 = .ok (.aload_n 0, 1) := by decide +kernel
theorem d_Mo_session_76 : decode b_Mo_session 76 = .ok (.getfield 16, 3) := by decide +kernel
theorem d_Mo_session_79 : decode b_Mo_session 79 = .ok (.iload 4, 2) := by decide +kernel
theorem d_Mo_session_81 : decode b_Mo_session 81 = .ok (.iaload, 1) := by decide +kernel
theorem d_Mo_session_82 : decode b_Mo_session 82 = .ok (.goto 10, 3) := by decide +kernel
theorem d_Mo_session_85 : decode b_Mo_session 85 = .ok (.aload_n 0, 1) := by decide +kernel
theorem d_Mo_session_86 : decode b_Mo_session 86 = .ok (.getfield 19, 3) := by decide +kernel
theorem d_Mo_session_89 : decode b_Mo_session 89 = .ok (.iload 4, 2) := by decide +kernel
theorem d_Mo_session_91 : decode b_Mo_session 91 = .ok (.iaload, 1) := by decide +kernel
theorem d_Mo_session_92 : decode b_Mo_session 92 = .ok (.ireturn, 1) := by decide +kernel
theorem d_Mo_session_93 : decode b_Mo_session 93 = .ok (.iload_n 3, 1) := by decide +kernel
theorem d_Mo_session_94 : decode b_Mo_session 94 = .ok (.iconst 3, 1) := by decide +kernel
theorem d_Mo_session_95 : decode b_Mo_session 95 = .ok (.if_icmp .ne 13, 3) := by decide +kernel
theorem d_Mo_session_98 : decode b_Mo_session 98 = .ok (.aload_n 0, 1) := by decide +kernel
theorem d_Mo_session_99 : decode b_Mo_session 99 = .ok (.getfield 22, 3) := by decide +kernel
theorem d_Mo_session_102 : decode b_Mo_session 102 = .ok (.iload 4, 2) := by decide +kernel
theorem d_Mo_session_104 : decode b_Mo_session 104 = .ok (.iaload, 1) := by decide +kernel
theorem d_Mo_session_105 : decode b_Mo_session 105 = .ok (.goto 10, 3) := by decide +kernel
theorem d_Mo_session_108 : decode b_Mo_session 108 = .ok (.aload_n 0, 1) := by decide +kernel
theorem d_Mo_session_109 : decode b_Mo_session 109 = .ok (.getfield 25, 3) := by decide +kernel
theorem d_Mo_session_112 : decode b_Mo_session 112 = .ok (.iload 4, 2) := by decide +kernel
theorem d_Mo_session_114 : decode b_Mo_session 114 = .ok (.iaload, 1) := by decide +kernel
theorem d_Mo_session_115 : decode b_Mo_session 115 = .ok (.ireturn, 1) := by decide +kernel
abbrev b_Mo_key : ByteArray := prog_8_method_40_code
def y_Mo_key : MethodName := ⟨"TwinKeepersModel", "key", "(III)I"⟩
theorem kc_Mo_key : Cond.code y_Mo_key b_Mo_key 6 (some .int) ∈ xT := xin 1162 (by decide +kernel) (by decide +kernel)
theorem k_Mo_key : xCode y_Mo_key b_Mo_key 6 (some .int) [] := Or.inl ⟨rfl, kc_Mo_key⟩
theorem h_Mo_key : plainFor y_Mo_key = true ∧ (y_Mo_key.cls ≠ "java/lang/invoke/MethodHandle" ∧ y_Mo_key.cls ≠ "java/lang/invoke/VarHandle") ∧ (parseMethodDescriptor y_Mo_key.desc).map (fun d => d.parameters.length) = some 3 := by decide +kernel
theorem v_Mo_key : Cond.instanceMethod y_Mo_key ∈ xT := xin 1160 (by decide +kernel) (by decide +kernel)
theorem e_Mo_key : Cond.selects "TwinKeepersModel" y_Mo_key y_Mo_key ∈ xT := xin 1161 (by decide +kernel) (by decide +kernel)
theorem d_Mo_key_0 : decode b_Mo_key 0 = .ok (.aload_n 0, 1) := by decide +kernel
theorem d_Mo_key_1 : decode b_Mo_key 1 = .ok (.iconst 0, 1) := by decide +kernel
theorem d_Mo_key_2 : decode b_Mo_key 2 = .ok (.putfield 62, 3) := by decide +kernel
theorem d_Mo_key_5 : decode b_Mo_key 5 = .ok (.iload_n 1, 1) := by decide +kernel
theorem d_Mo_key_6 : decode b_Mo_key 6 = .ok (.invokestatic 125, 3) := by decide +kernel
theorem d_Mo_key_9 : decode b_Mo_key 9 = .ok (.ifCond .eq 28, 3) := by decide +kernel
theorem d_Mo_key_12 : decode b_Mo_key 12 = .ok (.iload_n 2, 1) := by decide +kernel
theorem d_Mo_key_13 : decode b_Mo_key 13 = .ok (.iconst 0, 1) := by decide +kernel
theorem d_Mo_key_14 : decode b_Mo_key 14 = .ok (.aload_n 0, 1) := by decide +kernel
theorem d_Mo_key_15 : decode b_Mo_key 15 = .ok (.getfield 31, 3) := by decide +kernel
theorem d_Mo_key_18 : decode b_Mo_key 18 = .ok (.iload_n 1, 1) := by decide +kernel
theorem d_Mo_key_19 : decode b_Mo_key 19 = .ok (.iaload, 1) := by decide +kernel
theorem d_Mo_key_20 : decode b_Mo_key 20 = .ok (.iconst 1, 1) := by decide +kernel
theorem d_Mo_key_21 : decode b_Mo_key 21 = .ok (.isub, 1) := by decide +kernel
theorem d_Mo_key_22 : decode b_Mo_key 22 = .ok (.invokestatic 66, 3) := by decide +kernel
theorem d_Mo_key_25 : decode b_Mo_key 25 = .ok (.ifCond .eq 12, 3) := by decide +kernel
theorem d_Mo_key_28 : decode b_Mo_key 28 = .ok (.iload_n 3, 1) := by decide +kernel
theorem d_Mo_key_29 : decode b_Mo_key 29 = .ok (.iconst 0, 1) := by decide +kernel
theorem d_Mo_key_30 : decode b_Mo_key 30 = .ok (.iconst 1, 1) := by decide +kernel
theorem d_Mo_key_31 : decode b_Mo_key 31 = .ok (.invokestatic 66, 3) := by decide +kernel
theorem d_Mo_key_34 : decode b_Mo_key 34 = .ok (.ifCond .ne 9, 3) := by decide +kernel
theorem d_Mo_key_37 : decode b_Mo_key 37 = .ok (.aload_n 0, 1) := by decide +kernel
theorem d_Mo_key_38 : decode b_Mo_key 38 = .ok (.iconst 1, 1) := by decide +kernel
theorem d_Mo_key_39 : decode b_Mo_key 39 = .ok (.invokevirtual 70, 3) := by decide +kernel
theorem d_Mo_key_42 : decode b_Mo_key 42 = .ok (.ireturn, 1) := by decide +kernel
theorem d_Mo_key_43 : decode b_Mo_key 43 = .ok (.sipush 128, 3) := by decide +kernel
theorem d_Mo_key_46 : decode b_Mo_key 46 = .ok (.iload_n 1, 1) := by decide +kernel
theorem d_Mo_key_47 : decode b_Mo_key 47 = .ok (.imul, 1) := by decide +kernel
theorem d_Mo_key_48 : decode b_Mo_key 48 = .ok (.iload_n 2, 1) := by decide +kernel
theorem d_Mo_key_49 : decode b_Mo_key 49 = .ok (.iadd, 1) := by decide +kernel
theorem d_Mo_key_50 : decode b_Mo_key 50 = .ok (.istore 4, 2) := by decide +kernel
theorem d_Mo_key_52 : decode b_Mo_key 52 = .ok (.aload_n 0, 1) := by decide +kernel
theorem d_Mo_key_53 : decode b_Mo_key 53 = .ok (.iconst 0, 1) := by decide +kernel
theorem d_Mo_key_54 : decode b_Mo_key 54 = .ok (.putfield 137, 3) := by decide +kernel
theorem d_Mo_key_57 : decode b_Mo_key 57 = .ok (.iconst 0, 1) := by decide +kernel
theorem d_Mo_key_58 : decode b_Mo_key 58 = .ok (.istore 5, 2) := by decide +kernel
theorem d_Mo_key_60 : decode b_Mo_key 60 = .ok (.iload 5, 2) := by decide +kernel
theorem d_Mo_key_62 : decode b_Mo_key 62 = .ok (.aload_n 0, 1) := by decide +kernel
theorem d_Mo_key_63 : decode b_Mo_key 63 = .ok (.getfield 34, 3) := by decide +kernel
theorem d_Mo_key_66 : decode b_Mo_key 66 = .ok (.iload 4, 2) := by decide +kernel
theorem d_Mo_key_68 : decode b_Mo_key 68 = .ok (.iaload, 1) := by decide +kernel
theorem d_Mo_key_69 : decode b_Mo_key 69 = .ok (.if_icmp .ge 25, 3) := by decide +kernel
theorem d_Mo_key_72 : decode b_Mo_key 72 = .ok (.iload_n 3, 1) := by decide +kernel
theorem d_Mo_key_73 : decode b_Mo_key 73 = .ok (.ifCond .ne 21, 3) := by decide +kernel
theorem d_Mo_key_76 : decode b_Mo_key 76 = .ok (.aload_n 0, 1) := by decide +kernel
theorem d_Mo_key_77 : decode b_Mo_key 77 = .ok (.aload_n 0, 1) := by decide +kernel
theorem d_Mo_key_78 : decode b_Mo_key 78 = .ok (.iload 4, 2) := by decide +kernel
theorem d_Mo_key_80 : decode b_Mo_key 80 = .ok (.iload 5, 2) := by decide +kernel
theorem d_Mo_key_82 : decode b_Mo_key 82 = .ok (.invokevirtual 168, 3) := by decide +kernel
theorem d_Mo_key_85 : decode b_Mo_key 85 = .ok (.invokevirtual 140, 3) := by decide +kernel
theorem d_Mo_key_88 : decode b_Mo_key 88 = .ok (.iinc 5 1, 3) := by decide +kernel
theorem d_Mo_key_91 : decode b_Mo_key 91 = .ok (.goto (-31), 3) := by decide +kernel
theorem d_Mo_key_94 : decode b_Mo_key 94 = .ok (.iconst 0, 1) := by decide +kernel
theorem d_Mo_key_95 : decode b_Mo_key 95 = .ok (.istore 5, 2) := by decide +kernel
theorem d_Mo_key_97 : decode b_Mo_key 97 = .ok (.iload 5, 2) := by decide +kernel
theorem d_Mo_key_99 : decode b_Mo_key 99 = .ok (.aload_n 0, 1) := by decide +kernel
theorem d_Mo_key_100 : decode b_Mo_key 100 = .ok (.getfield 41, 3) := by decide +kernel
theorem d_Mo_key_103 : decode b_Mo_key 103 = .ok (.iload 4, 2) := by decide +kernel
theorem d_Mo_key_105 : decode b_Mo_key 105 = .ok (.iaload, 1) := by decide +kernel
theorem d_Mo_key_106 : decode b_Mo_key 106 = .ok (.if_icmp .ge 26, 3) := by decide +kernel
theorem d_Mo_key_109 : decode b_Mo_key 109 = .ok (.iload_n 3, 1) := by decide +kernel
theorem d_Mo_key_110 : decode b_Mo_key 110 = .ok (.iconst 1, 1) := by decide +kernel
theorem d_Mo_key_111 : decode b_Mo_key 111 = .ok (.if_icmp .ne 21, 3) := by decide +kernel
theorem d_Mo_key_114 : decode b_Mo_key 114 = .ok (.aload_n 0, 1) := by decide +kernel
theorem d_Mo_key_115 : decode b_Mo_key 115 = .ok (.aload_n 0, 1) := by decide +kernel
theorem d_Mo_key_116 : decode b_Mo_key 116 = .ok (.iload 4, 2) := by decide +kernel
theorem d_Mo_key_118 : decode b_Mo_key 118 = .ok (.iload 5, 2) := by decide +kernel
theorem d_Mo_key_120 : decode b_Mo_key 120 = .ok (.invokevirtual 92, 3) := by decide +kernel
theorem d_Mo_key_123 : decode b_Mo_key 123 = .ok (.invokevirtual 140, 3) := by decide +kernel
theorem d_Mo_key_126 : decode b_Mo_key 126 = .ok (.iinc 5 1, 3) := by decide +kernel
theorem d_Mo_key_129 : decode b_Mo_key 129 = .ok (.goto (-32), 3) := by decide +kernel
theorem d_Mo_key_132 : decode b_Mo_key 132 = .ok (.aload_n 0, 1) := by decide +kernel
theorem d_Mo_key_133 : decode b_Mo_key 133 = .ok (.getfield 137, 3) := by decide +kernel
theorem d_Mo_key_136 : decode b_Mo_key 136 = .ok (.ireturn, 1) := by decide +kernel
abbrev b_Mo_state : ByteArray := prog_8_method_41_code
def y_Mo_state : MethodName := ⟨"TwinKeepersModel", "state", "(II)I"⟩
theorem kc_Mo_state : Cond.code y_Mo_state b_Mo_state 3 (some .int) ∈ xT := xin 1166 (by decide +kernel) (by decide +kernel)
theorem k_Mo_state : xCode y_Mo_state b_Mo_state 3 (some .int) [] := Or.inl ⟨rfl, kc_Mo_state⟩
theorem h_Mo_state : plainFor y_Mo_state = true ∧ (y_Mo_state.cls ≠ "java/lang/invoke/MethodHandle" ∧ y_Mo_state.cls ≠ "java/lang/invoke/VarHandle") ∧ (parseMethodDescriptor y_Mo_state.desc).map (fun d => d.parameters.length) = some 2 := by decide +kernel
theorem v_Mo_state : Cond.instanceMethod y_Mo_state ∈ xT := xin 1164 (by decide +kernel) (by decide +kernel)
theorem e_Mo_state : Cond.selects "TwinKeepersModel" y_Mo_state y_Mo_state ∈ xT := xin 1165 (by decide +kernel) (by decide +kernel)
theorem d_Mo_state_0 : decode b_Mo_state 0 = .ok (.aload_n 0, 1) := by decide +kernel
theorem d_Mo_state_1 : decode b_Mo_state 1 = .ok (.iconst 0, 1) := by decide +kernel
theorem d_Mo_state_2 : decode b_Mo_state 2 = .ok (.putfield 62, 3) := by decide +kernel
theorem d_Mo_state_5 : decode b_Mo_state 5 = .ok (.iload_n 1, 1) := by decide +kernel
theorem d_Mo_state_6 : decode b_Mo_state 6 = .ok (.invokestatic 125, 3) := by decide +kernel
theorem d_Mo_state_9 : decode b_Mo_state 9 = .ok (.ifCond .eq 12, 3) := by decide +kernel
theorem d_Mo_state_12 : decode b_Mo_state 12 = .ok (.iload_n 2, 1) := by decide +kernel
theorem d_Mo_state_13 : decode b_Mo_state 13 = .ok (.iconst 0, 1) := by decide +kernel
theorem d_Mo_state_14 : decode b_Mo_state 14 = .ok (.iconst 4, 1) := by decide +kernel
theorem d_Mo_state_15 : decode b_Mo_state 15 = .ok (.invokestatic 66, 3) := by decide +kernel
theorem d_Mo_state_18 : decode b_Mo_state 18 = .ok (.ifCond .ne 9, 3) := by decide +kernel
theorem d_Mo_state_21 : decode b_Mo_state 21 = .ok (.aload_n 0, 1) := by decide +kernel
theorem d_Mo_state_22 : decode b_Mo_state 22 = .ok (.iconst 1, 1) := by decide +kernel
theorem d_Mo_state_23 : decode b_Mo_state 23 = .ok (.invokevirtual 70, 3) := by decide +kernel
theorem d_Mo_state_26 : decode b_Mo_state 26 = .ok (.ireturn, 1) := by decide +kernel
theorem d_Mo_state_27 : decode b_Mo_state 27 = .ok (.iload_n 2, 1) := by decide +kernel
theorem d_Mo_state_28 : decode b_Mo_state 28 = .ok (.iconst 3, 1) := by decide +kernel
theorem d_Mo_state_29 : decode b_Mo_state 29 = .ok (.if_icmp .ge 36, 3) := by decide +kernel
theorem d_Mo_state_32 : decode b_Mo_state 32 = .ok (.iload_n 2, 1) := by decide +kernel
theorem d_Mo_state_33 : decode b_Mo_state 33 = .ok (.ifCond .ne 12, 3) := by decide +kernel
theorem d_Mo_state_36 : decode b_Mo_state 36 = .ok (.aload_n 0, 1) := by decide +kernel
theorem d_Mo_state_37 : decode b_Mo_state 37 = .ok (.getfield 7, 3) := by decide +kernel
theorem d_Mo_state_40 : decode b_Mo_state 40 = .ok (.iload_n 1, 1) := by decide +kernel
theorem d_Mo_state_41 : decode b_Mo_state 41 = .ok (.iaload, 1) := by decide +kernel
theorem d_Mo_state_42 : decode b_Mo_state 42 = .ok (.goto 22, 3) := by decide +kernel
theorem d_Mo_state_45 : decode b_Mo_state 45 = .ok (.iload_n 2, 1) := by decide +kernel
theorem d_Mo_state_46 : decode b_Mo_state 46 = .ok (.iconst 1, 1) := by decide +kernel
theorem d_Mo_state_47 : decode b_Mo_state 47 = .ok (.if_icmp .ne 12, 3) := by decide +kernel
theorem d_Mo_state_50 : decode b_Mo_state 50 = .ok (.aload_n 0, 1) := by decide +kernel
theorem d_Mo_state_51 : decode b_Mo_state 51 = .ok (.getfield 31, 3) := by decide +kernel
theorem d_Mo_state_54 : decode b_Mo_state 54 = .ok (.iload_n 1, 1) := by decide +kernel
theorem d_Mo_state_55 : decode b_Mo_state 55 = .ok (.iaload, 1) := by decide +kernel
theorem d_Mo_state_56 : decode b_Mo_state 56 = .ok (.goto 8, 3) := by decide +kernel
theorem d_Mo_state_59 : decode b_Mo_state 59 = .ok (.aload_n 0, 1) := by decide +kernel
theorem d_Mo_state_60 : decode b_Mo_state 60 = .ok (.iload_n 1, 1) := by decide +kernel
theorem d_Mo_state_61 : decode b_Mo_state 61 = .ok (.invokevirtual 107, 3) := by decide +kernel
theorem d_Mo_state_64 : decode b_Mo_state 64 = .ok (.ireturn, 1) := by decide +kernel
theorem d_Mo_state_65 : decode b_Mo_state 65 = .ok (.iload_n 2, 1) := by decide +kernel
theorem d_Mo_state_66 : decode b_Mo_state 66 = .ok (.iconst 3, 1) := by decide +kernel
theorem d_Mo_state_67 : decode b_Mo_state 67 = .ok (.if_icmp .ne 11, 3) := by decide +kernel
theorem d_Mo_state_70 : decode b_Mo_state 70 = .ok (.aload_n 0, 1) := by decide +kernel
theorem d_Mo_state_71 : decode b_Mo_state 71 = .ok (.iload_n 1, 1) := by decide +kernel
theorem d_Mo_state_72 : decode b_Mo_state 72 = .ok (.invokevirtual 180, 3) := by decide +kernel
theorem q_1167 : Cond.methodLink "TwinKeepersModel" 180 ⟨"TwinKeepersModel", "rowSize", "(I)I"⟩ ∈ xT := xin 1167 (by decide +kernel) (by decide +kernel)
theorem d_Mo_state_75 : decode b_Mo_state 75 = .ok (.goto 9, 3) := by decide +kernel
theorem d_Mo_state_78 : decode b_Mo_state 78 = .ok (.aload_n 0, 1) := by decide +kernel
theorem d_Mo_state_79 : decode b_Mo_state 79 = .ok (.getfield 47, 3) := by decide +kernel
theorem d_Mo_state_82 : decode b_Mo_state 82 = .ok (.iload_n 1, 1) := by decide +kernel
theorem d_Mo_state_83 : decode b_Mo_state 83 = .ok (.iaload, 1) := by decide +kernel
theorem d_Mo_state_84 : decode b_Mo_state 84 = .ok (.ireturn, 1) := by decide +kernel
abbrev b_Mo_rowSize : ByteArray := prog_8_method_32_code
def y_Mo_rowSize : MethodName := ⟨"TwinKeepersModel", "rowSize", "(I)I"⟩
theorem kc_Mo_rowSize : Cond.code y_Mo_rowSize b_Mo_rowSize 4 (some .int) ∈ xT := xin 1170 (by decide +kernel) (by decide +kernel)
theorem k_Mo_rowSize : xCode y_Mo_rowSize b_Mo_rowSize 4 (some .int) [] := Or.inl ⟨rfl, kc_Mo_rowSize⟩
theorem h_Mo_rowSize : plainFor y_Mo_rowSize = true ∧ (y_Mo_rowSize.cls ≠ "java/lang/invoke/MethodHandle" ∧ y_Mo_rowSize.cls ≠ "java/lang/invoke/VarHandle") ∧ (parseMethodDescriptor y_Mo_rowSize.desc).map (fun d => d.parameters.length) = some 1 := by decide +kernel
theorem v_Mo_rowSize : Cond.instanceMethod y_Mo_rowSize ∈ xT := xin 1169 (by decide +kernel) (by decide +kernel)
theorem e_Mo_rowSize : Cond.selects "TwinKeepersModel" y_Mo_rowSize y_Mo_rowSize ∈ xT := xinp 42 (by decide +kernel) (by decide +kernel)
theorem d_Mo_rowSize_0 : decode b_Mo_rowSize 0 = .ok (.bipush 8, 2) := by decide +kernel
theorem d_Mo_rowSize_2 : decode b_Mo_rowSize 2 = .ok (.istore_n 2, 1) := by decide +kernel
theorem d_Mo_rowSize_3 : decode b_Mo_rowSize 3 = .ok (.bipush 16, 2) := by decide +kernel
theorem d_Mo_rowSize_5 : decode b_Mo_rowSize 5 = .ok (.iload_n 1, 1) := by decide +kernel
theorem d_Mo_rowSize_6 : decode b_Mo_rowSize 6 = .ok (.imul, 1) := by decide +kernel
theorem d_Mo_rowSize_7 : decode b_Mo_rowSize 7 = .ok (.istore_n 3, 1) := by decide +kernel
theorem d_Mo_rowSize_8 : decode b_Mo_rowSize 8 = .ok (.iload_n 3, 1) := by decide +kernel
theorem d_Mo_rowSize_9 : decode b_Mo_rowSize 9 = .ok (.bipush 16, 2) := by decide +kernel
theorem d_Mo_rowSize_11 : decode b_Mo_rowSize 11 = .ok (.iload_n 1, 1) := by decide +kernel
theorem d_Mo_rowSize_12 : decode b_Mo_rowSize 12 = .ok (.imul, 1) := by decide +kernel
theorem d_Mo_rowSize_13 : decode b_Mo_rowSize 13 = .ok (.aload_n 0, 1) := by decide +kernel
theorem d_Mo_rowSize_14 : decode b_Mo_rowSize 14 = .ok (.getfield 7, 3) := by decide +kernel
theorem d_Mo_rowSize_17 : decode b_Mo_rowSize 17 = .ok (.iload_n 1, 1) := by decide +kernel
theorem d_Mo_rowSize_18 : decode b_Mo_rowSize 18 = .ok (.iaload, 1) := by decide +kernel
theorem d_Mo_rowSize_19 : decode b_Mo_rowSize 19 = .ok (.iadd, 1) := by decide +kernel
theorem d_Mo_rowSize_20 : decode b_Mo_rowSize 20 = .ok (.if_icmp .ge 21, 3) := by decide +kernel
theorem d_Mo_rowSize_23 : decode b_Mo_rowSize 23 = .ok (.iload_n 2, 1) := by decide +kernel
theorem d_Mo_rowSize_24 : decode b_Mo_rowSize 24 = .ok (.bipush 18, 2) := by decide +kernel
theorem d_Mo_rowSize_26 : decode b_Mo_rowSize 26 = .ok (.aload_n 0, 1) := by decide +kernel
theorem d_Mo_rowSize_27 : decode b_Mo_rowSize 27 = .ok (.getfield 25, 3) := by decide +kernel
theorem d_Mo_rowSize_30 : decode b_Mo_rowSize 30 = .ok (.iload_n 3, 1) := by decide +kernel
theorem d_Mo_rowSize_31 : decode b_Mo_rowSize 31 = .ok (.iaload, 1) := by decide +kernel
theorem d_Mo_rowSize_32 : decode b_Mo_rowSize 32 = .ok (.iadd, 1) := by decide +kernel
theorem d_Mo_rowSize_33 : decode b_Mo_rowSize 33 = .ok (.iadd, 1) := by decide +kernel
theorem d_Mo_rowSize_34 : decode b_Mo_rowSize 34 = .ok (.istore_n 2, 1) := by decide +kernel
theorem d_Mo_rowSize_35 : decode b_Mo_rowSize 35 = .ok (.iinc 3 1, 3) := by decide +kernel
theorem d_Mo_rowSize_38 : decode b_Mo_rowSize 38 = .ok (.goto (-30), 3) := by decide +kernel
theorem d_Mo_rowSize_41 : decode b_Mo_rowSize 41 = .ok (.sipush 128, 3) := by decide +kernel
theorem d_Mo_rowSize_44 : decode b_Mo_rowSize 44 = .ok (.iload_n 1, 1) := by decide +kernel
theorem d_Mo_rowSize_45 : decode b_Mo_rowSize 45 = .ok (.imul, 1) := by decide +kernel
theorem d_Mo_rowSize_46 : decode b_Mo_rowSize 46 = .ok (.istore_n 3, 1) := by decide +kernel
theorem d_Mo_rowSize_47 : decode b_Mo_rowSize 47 = .ok (.iload_n 3, 1) := by decide +kernel
theorem d_Mo_rowSize_48 : decode b_Mo_rowSize 48 = .ok (.sipush 128, 3) := by decide +kernel
theorem d_Mo_rowSize_51 : decode b_Mo_rowSize 51 = .ok (.iload_n 1, 1) := by decide +kernel
theorem d_Mo_rowSize_52 : decode b_Mo_rowSize 52 = .ok (.imul, 1) := by decide +kernel
theorem d_Mo_rowSize_53 : decode b_Mo_rowSize 53 = .ok (.aload_n 0, 1) := by decide +kernel
theorem d_Mo_rowSize_54 : decode b_Mo_rowSize 54 = .ok (.getfield 31, 3) := by decide +kernel
theorem d_Mo_rowSize_57 : decode b_Mo_rowSize 57 = .ok (.iload_n 1, 1) := by decide +kernel
theorem d_Mo_rowSize_58 : decode b_Mo_rowSize 58 = .ok (.iaload, 1) := by decide +kernel
theorem d_Mo_rowSize_59 : decode b_Mo_rowSize 59 = .ok (.iadd, 1) := by decide +kernel
theorem d_Mo_rowSize_60 : decode b_Mo_rowSize 60 = .ok (.if_icmp .ge 27, 3) := by decide +kernel
theorem d_Mo_rowSize_63 : decode b_Mo_rowSize 63 = .ok (.iload_n 2, 1) := by decide +kernel
theorem d_Mo_rowSize_64 : decode b_Mo_rowSize 64 = .ok (.iconst 3, 1) := by decide +kernel
theorem d_Mo_rowSize_65 : decode b_Mo_rowSize 65 = .ok (.aload_n 0, 1) := by decide +kernel
theorem d_Mo_rowSize_66 : decode b_Mo_rowSize 66 = .ok (.getfield 34, 3) := by decide +kernel
theorem d_Mo_rowSize_69 : decode b_Mo_rowSize 69 = .ok (.iload_n 3, 1) := by decide +kernel
theorem d_Mo_rowSize_70 : decode b_Mo_rowSize 70 = .ok (.iaload, 1) := by decide +kernel
theorem d_Mo_rowSize_71 : decode b_Mo_rowSize 71 = .ok (.iadd, 1) := by decide +kernel
theorem d_Mo_rowSize_72 : decode b_Mo_rowSize 72 = .ok (.aload_n 0, 1) := by decide +kernel
theorem d_Mo_rowSize_73 : decode b_Mo_rowSize 73 = .ok (.getfield 41, 3) := by decide +kernel
theorem d_Mo_rowSize_76 : decode b_Mo_rowSize 76 = .ok (.iload_n 3, 1) := by decide +kernel
theorem d_Mo_rowSize_77 : decode b_Mo_rowSize 77 = .ok (.iaload, 1) := by decide +kernel
theorem d_Mo_rowSize_78 : decode b_Mo_rowSize 78 = .ok (.iadd, 1) := by decide +kernel
theorem d_Mo_rowSize_79 : decode b_Mo_rowSize 79 = .ok (.iadd, 1) := by decide +kernel
theorem d_Mo_rowSize_80 : decode b_Mo_rowSize 80 = .ok (.istore_n 2, 1) := by decide +kernel
theorem d_Mo_rowSize_81 : decode b_Mo_rowSize 81 = .ok (.iinc 3 1, 3) := by decide +kernel
theorem d_Mo_rowSize_84 : decode b_Mo_rowSize 84 = .ok (.goto (-37), 3) := by decide +kernel
theorem d_Mo_rowSize_87 : decode b_Mo_rowSize 87 = .ok (.iload_n 2, 1) := by decide +kernel
theorem d_Mo_rowSize_88 : decode b_Mo_rowSize 88 = .ok (.ireturn, 1) := by decide +kernel
abbrev b_Mo_place : ByteArray := prog_8_method_42_code
def y_Mo_place : MethodName := ⟨"TwinKeepersModel", "place", "()I"⟩
theorem kc_Mo_place : Cond.code y_Mo_place b_Mo_place 1 (some .int) ∈ xT := xin 1174 (by decide +kernel) (by decide +kernel)
theorem k_Mo_place : xCode y_Mo_place b_Mo_place 1 (some .int) [] := Or.inl ⟨rfl, kc_Mo_place⟩
theorem h_Mo_place : plainFor y_Mo_place = true ∧ (y_Mo_place.cls ≠ "java/lang/invoke/MethodHandle" ∧ y_Mo_place.cls ≠ "java/lang/invoke/VarHandle") ∧ (parseMethodDescriptor y_Mo_place.desc).map (fun d => d.parameters.length) = some 0 := by decide +kernel
theorem v_Mo_place : Cond.instanceMethod y_Mo_place ∈ xT := xin 1172 (by decide +kernel) (by decide +kernel)
theorem e_Mo_place : Cond.selects "TwinKeepersModel" y_Mo_place y_Mo_place ∈ xT := xin 1173 (by decide +kernel) (by decide +kernel)
theorem d_Mo_place_0 : decode b_Mo_place 0 = .ok (.aload_n 0, 1) := by decide +kernel
theorem d_Mo_place_1 : decode b_Mo_place 1 = .ok (.iconst 0, 1) := by decide +kernel
theorem d_Mo_place_2 : decode b_Mo_place 2 = .ok (.putfield 62, 3) := by decide +kernel
theorem d_Mo_place_5 : decode b_Mo_place 5 = .ok (.aload_n 0, 1) := by decide +kernel
theorem d_Mo_place_6 : decode b_Mo_place 6 = .ok (.getfield 134, 3) := by decide +kernel
theorem d_Mo_place_9 : decode b_Mo_place 9 = .ok (.ireturn, 1) := by decide +kernel
abbrev b_Mo_byteAt : ByteArray := prog_8_method_43_code
def y_Mo_byteAt : MethodName := ⟨"TwinKeepersModel", "byteAt", "(I)I"⟩
theorem kc_Mo_byteAt : Cond.code y_Mo_byteAt b_Mo_byteAt 2 (some .int) ∈ xT := xin 1178 (by decide +kernel) (by decide +kernel)
theorem k_Mo_byteAt : xCode y_Mo_byteAt b_Mo_byteAt 2 (some .int) [] := Or.inl ⟨rfl, kc_Mo_byteAt⟩
theorem h_Mo_byteAt : plainFor y_Mo_byteAt = true ∧ (y_Mo_byteAt.cls ≠ "java/lang/invoke/MethodHandle" ∧ y_Mo_byteAt.cls ≠ "java/lang/invoke/VarHandle") ∧ (parseMethodDescriptor y_Mo_byteAt.desc).map (fun d => d.parameters.length) = some 1 := by decide +kernel
theorem v_Mo_byteAt : Cond.instanceMethod y_Mo_byteAt ∈ xT := xin 1176 (by decide +kernel) (by decide +kernel)
theorem e_Mo_byteAt : Cond.selects "TwinKeepersModel" y_Mo_byteAt y_Mo_byteAt ∈ xT := xin 1177 (by decide +kernel) (by decide +kernel)
theorem d_Mo_byteAt_0 : decode b_Mo_byteAt 0 = .ok (.aload_n 0, 1) := by decide +kernel
theorem d_Mo_byteAt_1 : decode b_Mo_byteAt 1 = .ok (.iconst 0, 1) := by decide +kernel
theorem d_Mo_byteAt_2 : decode b_Mo_byteAt 2 = .ok (.putfield 62, 3) := by decide +kernel
theorem d_Mo_byteAt_5 : decode b_Mo_byteAt 5 = .ok (.iload_n 1, 1) := by decide +kernel
theorem d_Mo_byteAt_6 : decode b_Mo_byteAt 6 = .ok (.ifCond .lt 11, 3) := by decide +kernel
theorem d_Mo_byteAt_9 : decode b_Mo_byteAt 9 = .ok (.iload_n 1, 1) := by decide +kernel
theorem d_Mo_byteAt_10 : decode b_Mo_byteAt 10 = .ok (.aload_n 0, 1) := by decide +kernel
theorem d_Mo_byteAt_11 : decode b_Mo_byteAt 11 = .ok (.getfield 137, 3) := by decide +kernel
theorem d_Mo_byteAt_14 : decode b_Mo_byteAt 14 = .ok (.if_icmp .lt 9, 3) := by decide +kernel
theorem d_Mo_byteAt_17 : decode b_Mo_byteAt 17 = .ok (.aload_n 0, 1) := by decide +kernel
theorem d_Mo_byteAt_18 : decode b_Mo_byteAt 18 = .ok (.iconst 1, 1) := by decide +kernel
theorem d_Mo_byteAt_19 : decode b_Mo_byteAt 19 = .ok (.invokevirtual 70, 3) := by decide +kernel
theorem d_Mo_byteAt_22 : decode b_Mo_byteAt 22 = .ok (.ireturn, 1) := by decide +kernel
theorem d_Mo_byteAt_23 : decode b_Mo_byteAt 23 = .ok (.aload_n 0, 1) := by decide +kernel
theorem d_Mo_byteAt_24 : decode b_Mo_byteAt 24 = .ok (.getfield 59, 3) := by decide +kernel
theorem d_Mo_byteAt_27 : decode b_Mo_byteAt 27 = .ok (.iload_n 1, 1) := by decide +kernel
theorem d_Mo_byteAt_28 : decode b_Mo_byteAt 28 = .ok (.bipush 8, 2) := by decide +kernel
theorem d_Mo_byteAt_30 : decode b_Mo_byteAt 30 = .ok (.idiv, 1) := by decide +kernel
theorem d_Mo_byteAt_31 : decode b_Mo_byteAt 31 = .ok (.laload, 1) := by decide +kernel
theorem d_Mo_byteAt_32 : decode b_Mo_byteAt 32 = .ok (.bipush 8, 2) := by decide +kernel
theorem d_Mo_byteAt_34 : decode b_Mo_byteAt 34 = .ok (.iload_n 1, 1) := by decide +kernel
theorem d_Mo_byteAt_35 : decode b_Mo_byteAt 35 = .ok (.bipush 8, 2) := by decide +kernel
theorem d_Mo_byteAt_37 : decode b_Mo_byteAt 37 = .ok (.irem, 1) := by decide +kernel
theorem d_Mo_byteAt_38 : decode b_Mo_byteAt 38 = .ok (.imul, 1) := by decide +kernel
theorem d_Mo_byteAt_39 : decode b_Mo_byteAt 39 = .ok (.lshr, 1) := by decide +kernel
theorem d_Mo_byteAt_40 : decode b_Mo_byteAt 40 = .ok (.ldc2_w 77, 3) := by decide +kernel
theorem d_Mo_byteAt_43 : decode b_Mo_byteAt 43 = .ok (.land, 1) := by decide +kernel
theorem d_Mo_byteAt_44 : decode b_Mo_byteAt 44 = .ok (.l2i, 1) := by decide +kernel
theorem d_Mo_byteAt_45 : decode b_Mo_byteAt 45 = .ok (.ireturn, 1) := by decide +kernel
