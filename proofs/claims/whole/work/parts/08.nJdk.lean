theorem K_TK : xCl 0 R_TK F_TK 6 t_TK := ⟨rfl, i_TK, t_TK_ok, n_TK⟩
theorem K_Ma : xCl 1 R_Ma F_Ma 3 t_Ma := ⟨rfl, i_Ma, t_Ma_ok, n_Ma⟩
theorem K_KM : xCl 2 R_KM F_KM 2 t_KM := ⟨rfl, i_KM, t_KM_ok, n_KM⟩
theorem K_Ro : xCl 3 R_Ro F_Ro 2 t_Ro := ⟨rfl, i_Ro, t_Ro_ok, n_Ro⟩
theorem K_Se : xCl 4 R_Se F_Se 5 t_Se := ⟨rfl, i_Se, t_Se_ok, n_Se⟩
theorem K_En : xCl 5 R_En F_En 2 t_En := ⟨rfl, i_En, t_En_ok, n_En⟩
theorem K_Mo : xCl 6 R_Mo F_Mo 23 t_Mo := ⟨rfl, i_Mo, t_Mo_ok, n_Mo⟩
theorem K_AL : xCl 7 R_AL F_AL 3 t_AL := ⟨rfl, i_AL, t_AL_ok, n_AL⟩
abbrev b_AL_init : ByteArray := prog_28_method_2_code
def y_AL_init : MethodName := ⟨"java/util/ArrayList", "<init>", "()V"⟩
theorem kc_AL_init : Cond.code y_AL_init b_AL_init 1 none ∈ xT := xin 47 (by decide +kernel) (by decide +kernel)
theorem k_AL_init : xCode y_AL_init b_AL_init 1 none [] := Or.inl ⟨rfl, kc_AL_init⟩
theorem h_AL_init : plainFor y_AL_init = true ∧ (y_AL_init.cls ≠ "java/lang/invoke/MethodHandle" ∧ y_AL_init.cls ≠ "java/lang/invoke/VarHandle") ∧ (parseMethodDescriptor y_AL_init.desc).map (fun d => d.parameters.length) = some 0 := by decide +kernel
theorem v_AL_init : Cond.instanceMethod y_AL_init ∈ xT := xin 46 (by decide +kernel) (by decide +kernel)
theorem d_AL_init_0 : decode b_AL_init 0 = .ok (.aload_n 0, 1) := by decide +kernel
theorem d_AL_init_1 : decode b_AL_init 1 = .ok (.invokespecial 1, 3) := by decide +kernel
theorem q_48 : Cond.methodLink "java/util/ArrayList" 1 ⟨"java/util/AbstractList", "<init>", "()V"⟩ ∈ xT := xin 48 (by decide +kernel) (by decide +kernel)
theorem d_AL_init_4 : decode b_AL_init 4 = .ok (.aload_n 0, 1) := by decide +kernel
theorem d_AL_init_5 : decode b_AL_init 5 = .ok (.getstatic 39, 3) := by decide +kernel
theorem q_55 : Cond.fieldLink "java/util/ArrayList" 39 "java/util/ArrayList" "DEFAULTCAPACITY_EMPTY_ELEMENTDATA" "[Ljava/lang/Object;" ∈ xT := xin 55 (by decide +kernel) (by decide +kernel)
theorem d_AL_init_8 : decode b_AL_init 8 = .ok (.putfield 9, 3) := by decide +kernel
theorem q_57 : Cond.fieldLink "java/util/ArrayList" 9 "java/util/ArrayList" "elementData" "[Ljava/lang/Object;" ∈ xT := xin 57 (by decide +kernel) (by decide +kernel)
theorem d_AL_init_11 : decode b_AL_init 11 = .ok (.return_, 1) := by decide +kernel
abbrev b_AB_init : ByteArray := prog_27_method_1_code
def y_AB_init : MethodName := ⟨"java/util/AbstractList", "<init>", "()V"⟩
theorem kc_AB_init : Cond.code y_AB_init b_AB_init 1 none ∈ xT := xin 50 (by decide +kernel) (by decide +kernel)
theorem k_AB_init : xCode y_AB_init b_AB_init 1 none [] := Or.inl ⟨rfl, kc_AB_init⟩
theorem h_AB_init : plainFor y_AB_init = true ∧ (y_AB_init.cls ≠ "java/lang/invoke/MethodHandle" ∧ y_AB_init.cls ≠ "java/lang/invoke/VarHandle") ∧ (parseMethodDescriptor y_AB_init.desc).map (fun d => d.parameters.length) = some 0 := by decide +kernel
theorem v_AB_init : Cond.instanceMethod y_AB_init ∈ xT := xin 49 (by decide +kernel) (by decide +kernel)
theorem d_AB_init_0 : decode b_AB_init 0 = .ok (.aload_n 0, 1) := by decide +kernel
theorem d_AB_init_1 : decode b_AB_init 1 = .ok (.invokespecial 1, 3) := by decide +kernel
theorem q_51 : Cond.methodLink "java/util/AbstractList" 1 ⟨"java/util/AbstractCollection", "<init>", "()V"⟩ ∈ xT := xin 51 (by decide +kernel) (by decide +kernel)
theorem d_AB_init_4 : decode b_AB_init 4 = .ok (.aload_n 0, 1) := by decide +kernel
theorem d_AB_init_5 : decode b_AB_init 5 = .ok (.iconst 0, 1) := by decide +kernel
theorem d_AB_init_6 : decode b_AB_init 6 = .ok (.putfield 7, 3) := by decide +kernel
theorem q_59 : Cond.fieldLink "java/util/AbstractList" 7 "java/util/AbstractList" "modCount" "I" ∈ xT := xin 59 (by decide +kernel) (by decide +kernel)
theorem d_AB_init_9 : decode b_AB_init 9 = .ok (.return_, 1) := by decide +kernel
abbrev b_AC_init : ByteArray := prog_26_method_1_code
def y_AC_init : MethodName := ⟨"java/util/AbstractCollection", "<init>", "()V"⟩
theorem kc_AC_init : Cond.code y_AC_init b_AC_init 1 none ∈ xT := xin 53 (by decide +kernel) (by decide +kernel)
theorem k_AC_init : xCode y_AC_init b_AC_init 1 none [] := Or.inl ⟨rfl, kc_AC_init⟩
theorem h_AC_init : plainFor y_AC_init = true ∧ (y_AC_init.cls ≠ "java/lang/invoke/MethodHandle" ∧ y_AC_init.cls ≠ "java/lang/invoke/VarHandle") ∧ (parseMethodDescriptor y_AC_init.desc).map (fun d => d.parameters.length) = some 0 := by decide +kernel
theorem v_AC_init : Cond.instanceMethod y_AC_init ∈ xT := xin 52 (by decide +kernel) (by decide +kernel)
theorem d_AC_init_0 : decode b_AC_init 0 = .ok (.aload_n 0, 1) := by decide +kernel
theorem d_AC_init_1 : decode b_AC_init 1 = .ok (.invokespecial 1, 3) := by decide +kernel
theorem q_54 : Cond.methodLink "java/util/AbstractCollection" 1 ⟨"java/lang/Object", "<init>", "()V"⟩ ∈ xT := xin 54 (by decide +kernel) (by decide +kernel)
theorem d_AC_init_4 : decode b_AC_init 4 = .ok (.return_, 1) := by decide +kernel
abbrev b_AL_size : ByteArray := prog_28_method_8_code
def y_AL_size : MethodName := ⟨"java/util/ArrayList", "size", "()I"⟩
theorem kc_AL_size : Cond.code y_AL_size b_AL_size 1 (some .int) ∈ xT := xin 273 (by decide +kernel) (by decide +kernel)
theorem k_AL_size : xCode y_AL_size b_AL_size 1 (some .int) [] := Or.inl ⟨rfl, kc_AL_size⟩
theorem h_AL_size : plainFor y_AL_size = true ∧ (y_AL_size.cls ≠ "java/lang/invoke/MethodHandle" ∧ y_AL_size.cls ≠ "java/lang/invoke/VarHandle") ∧ (parseMethodDescriptor y_AL_size.desc).map (fun d => d.parameters.length) = some 0 := by decide +kernel
theorem v_AL_size : Cond.instanceMethod y_AL_size ∈ xT := xin 271 (by decide +kernel) (by decide +kernel)
theorem e_AL_size : Cond.selects "java/util/ArrayList" y_AL_size y_AL_size ∈ xT := xin 272 (by decide +kernel) (by decide +kernel)
theorem d_AL_size_0 : decode b_AL_size 0 = .ok (.aload_n 0, 1) := by decide +kernel
theorem d_AL_size_1 : decode b_AL_size 1 = .ok (.getfield 48, 3) := by decide +kernel
theorem q_58 : Cond.fieldLink "java/util/ArrayList" 48 "java/util/ArrayList" "size" "I" ∈ xT := xin 58 (by decide +kernel) (by decide +kernel)
theorem d_AL_size_4 : decode b_AL_size 4 = .ok (.ireturn, 1) := by decide +kernel
abbrev b_AL_get : ByteArray := prog_28_method_20_code
def y_AL_get : MethodName := ⟨"java/util/ArrayList", "get", "(I)Ljava/lang/Object;"⟩
theorem kc_AL_get : Cond.code y_AL_get b_AL_get 2 (some (.object "java/lang/Object")) ∈ xT := xin 281 (by decide +kernel) (by decide +kernel)
theorem k_AL_get : xCode y_AL_get b_AL_get 2 (some (.object "java/lang/Object")) [] := Or.inl ⟨rfl, kc_AL_get⟩
theorem h_AL_get : plainFor y_AL_get = true ∧ (y_AL_get.cls ≠ "java/lang/invoke/MethodHandle" ∧ y_AL_get.cls ≠ "java/lang/invoke/VarHandle") ∧ (parseMethodDescriptor y_AL_get.desc).map (fun d => d.parameters.length) = some 1 := by decide +kernel
theorem v_AL_get : Cond.instanceMethod y_AL_get ∈ xT := xin 279 (by decide +kernel) (by decide +kernel)
theorem e_AL_get : Cond.selects "java/util/ArrayList" y_AL_get y_AL_get ∈ xT := xin 280 (by decide +kernel) (by decide +kernel)
theorem d_AL_get_0 : decode b_AL_get 0 = .ok (.iload_n 1, 1) := by decide +kernel
theorem d_AL_get_1 : decode b_AL_get 1 = .ok (.aload_n 0, 1) := by decide +kernel
theorem d_AL_get_2 : decode b_AL_get 2 = .ok (.getfield 48, 3) := by decide +kernel
theorem d_AL_get_5 : decode b_AL_get 5 = .ok (.invokestatic 118, 3) := by decide +kernel
theorem q_282 : Cond.methodLink "java/util/ArrayList" 118 ⟨"java/util/Objects", "checkIndex", "(II)I"⟩ ∈ xT := xin 282 (by decide +kernel) (by decide +kernel)
theorem d_AL_get_8 : decode b_AL_get 8 = .ok (.pop, 1) := by decide +kernel
theorem d_AL_get_9 : decode b_AL_get 9 = .ok (.aload_n 0, 1) := by decide +kernel
theorem d_AL_get_10 : decode b_AL_get 10 = .ok (.iload_n 1, 1) := by decide +kernel
theorem d_AL_get_11 : decode b_AL_get 11 = .ok (.invokevirtual 123, 3) := by decide +kernel
theorem q_288 : Cond.methodLink "java/util/ArrayList" 123 ⟨"java/util/ArrayList", "elementData", "(I)Ljava/lang/Object;"⟩ ∈ xT := xin 288 (by decide +kernel) (by decide +kernel)
theorem d_AL_get_14 : decode b_AL_get 14 = .ok (.areturn, 1) := by decide +kernel
abbrev b_OB_checkIndex : ByteArray := prog_32_method_17_code
def y_OB_checkIndex : MethodName := ⟨"java/util/Objects", "checkIndex", "(II)I"⟩
theorem kc_OB_checkIndex : Cond.code y_OB_checkIndex b_OB_checkIndex 2 (some .int) ∈ xT := xin 284 (by decide +kernel) (by decide +kernel)
theorem k_OB_checkIndex : xCode y_OB_checkIndex b_OB_checkIndex 2 (some .int) [] := Or.inl ⟨rfl, kc_OB_checkIndex⟩
theorem h_OB_checkIndex : plainFor y_OB_checkIndex = true ∧ (y_OB_checkIndex.cls ≠ "java/lang/invoke/MethodHandle" ∧ y_OB_checkIndex.cls ≠ "java/lang/invoke/VarHandle") ∧ (parseMethodDescriptor y_OB_checkIndex.desc).map (fun d => d.parameters.length) = some 2 := by decide +kernel
theorem s_OB_checkIndex : Cond.static y_OB_checkIndex ∈ xT := xin 283 (by decide +kernel) (by decide +kernel)
theorem in_OB_checkIndex : Cond.initialized y_OB_checkIndex.cls ∈ xT := xin 15 (by decide +kernel) (by decide +kernel)
theorem d_OB_checkIndex_0 : decode b_OB_checkIndex 0 = .ok (.iload_n 0, 1) := by decide +kernel
theorem d_OB_checkIndex_1 : decode b_OB_checkIndex 1 = .ok (.iload_n 1, 1) := by decide +kernel
theorem d_OB_checkIndex_2 : decode b_OB_checkIndex 2 = .ok (.aconst_null, 1) := by decide +kernel
theorem d_OB_checkIndex_3 : decode b_OB_checkIndex 3 = .ok (.invokestatic 105, 3) := by decide +kernel
theorem q_285 : Cond.methodLink "java/util/Objects" 105 ⟨"jdk/internal/util/Preconditions", "checkIndex", "(IILjava/util/function/BiFunction;)I"⟩ ∈ xT := xin 285 (by decide +kernel) (by decide +kernel)
theorem d_OB_checkIndex_6 : decode b_OB_checkIndex 6 = .ok (.ireturn, 1) := by decide +kernel
abbrev b_PC_checkIndex : ByteArray := prog_36_method_11_code
def y_PC_checkIndex : MethodName := ⟨"jdk/internal/util/Preconditions", "checkIndex", "(IILjava/util/function/BiFunction;)I"⟩
theorem kc_PC_checkIndex : Cond.code y_PC_checkIndex b_PC_checkIndex 3 (some .int) ∈ xT := xin 287 (by decide +kernel) (by decide +kernel)
theorem k_PC_checkIndex : xCode y_PC_checkIndex b_PC_checkIndex 3 (some .int) [] := Or.inl ⟨rfl, kc_PC_checkIndex⟩
theorem h_PC_checkIndex : plainFor y_PC_checkIndex = true ∧ (y_PC_checkIndex.cls ≠ "java/lang/invoke/MethodHandle" ∧ y_PC_checkIndex.cls ≠ "java/lang/invoke/VarHandle") ∧ (parseMethodDescriptor y_PC_checkIndex.desc).map (fun d => d.parameters.length) = some 3 := by decide +kernel
theorem s_PC_checkIndex : Cond.static y_PC_checkIndex ∈ xT := xin 286 (by decide +kernel) (by decide +kernel)
theorem in_PC_checkIndex : Cond.initialized y_PC_checkIndex.cls ∈ xT := xin 16 (by decide +kernel) (by decide +kernel)
theorem d_PC_checkIndex_0 : decode b_PC_checkIndex 0 = .ok (.iload_n 0, 1) := by decide +kernel
theorem d_PC_checkIndex_1 : decode b_PC_checkIndex 1 = .ok (.ifCond .lt 8, 3) := by decide +kernel
theorem d_PC_checkIndex_4 : decode b_PC_checkIndex 4 = .ok (.iload_n 0, 1) := by decide +kernel
theorem d_PC_checkIndex_5 : decode b_PC_checkIndex 5 = .ok (.iload_n 1, 1) := by decide +kernel
theorem d_PC_checkIndex_6 : decode b_PC_checkIndex 6 = .ok (.if_icmp .lt 10, 3) := by decide +kernel
theorem d_PC_checkIndex_9 : decode b_PC_checkIndex 9 = .ok (.aload_n 2, 1) := by decide +kernel
theorem d_PC_checkIndex_10 : decode b_PC_checkIndex 10 = .ok (.iload_n 0, 1) := by decide +kernel
theorem d_PC_checkIndex_11 : decode b_PC_checkIndex 11 = .ok (.iload_n 1, 1) := by decide +kernel
theorem d_PC_checkIndex_12 : decode b_PC_checkIndex 12 = .ok (.invokestatic 95, 3) := by decide +kernel
theorem d_PC_checkIndex_15 : decode b_PC_checkIndex 15 = .ok (.athrow, 1) := by decide +kernel
theorem d_PC_checkIndex_16 : decode b_PC_checkIndex 16 = .ok (.iload_n 0, 1) := by decide +kernel
theorem d_PC_checkIndex_17 : decode b_PC_checkIndex 17 = .ok (.ireturn, 1) := by decide +kernel
abbrev b_AL_elementData : ByteArray := prog_28_method_18_code
def y_AL_elementData : MethodName := ⟨"java/util/ArrayList", "elementData", "(I)Ljava/lang/Object;"⟩
theorem kc_AL_elementData : Cond.code y_AL_elementData b_AL_elementData 2 (some (.object "java/lang/Object")) ∈ xT := xin 291 (by decide +kernel) (by decide +kernel)
theorem k_AL_elementData : xCode y_AL_elementData b_AL_elementData 2 (some (.object "java/lang/Object")) [] := Or.inl ⟨rfl, kc_AL_elementData⟩
theorem h_AL_elementData : plainFor y_AL_elementData = true ∧ (y_AL_elementData.cls ≠ "java/lang/invoke/MethodHandle" ∧ y_AL_elementData.cls ≠ "java/lang/invoke/VarHandle") ∧ (parseMethodDescriptor y_AL_elementData.desc).map (fun d => d.parameters.length) = some 1 := by decide +kernel
theorem v_AL_elementData : Cond.instanceMethod y_AL_elementData ∈ xT := xin 289 (by decide +kernel) (by decide +kernel)
theorem e_AL_elementData : Cond.selects "java/util/ArrayList" y_AL_elementData y_AL_elementData ∈ xT := xin 290 (by decide +kernel) (by decide +kernel)
theorem d_AL_elementData_0 : decode b_AL_elementData 0 = .ok (.aload_n 0, 1) := by decide +kernel
theorem d_AL_elementData_1 : decode b_AL_elementData 1 = .ok (.getfield 9, 3) := by decide +kernel
theorem d_AL_elementData_4 : decode b_AL_elementData 4 = .ok (.iload_n 1, 1) := by decide +kernel
theorem d_AL_elementData_5 : decode b_AL_elementData 5 = .ok (.aaload, 1) := by decide +kernel
theorem d_AL_elementData_6 : decode b_AL_elementData 6 = .ok (.areturn, 1) := by decide +kernel
abbrev b_AL_remove : ByteArray := prog_28_method_29_code
def y_AL_remove : MethodName := ⟨"java/util/ArrayList", "remove", "(I)Ljava/lang/Object;"⟩
theorem kc_AL_remove : Cond.code y_AL_remove b_AL_remove 4 (some (.object "java/lang/Object")) ∈ xT := xin 296 (by decide +kernel) (by decide +kernel)
theorem k_AL_remove : xCode y_AL_remove b_AL_remove 4 (some (.object "java/lang/Object")) [] := Or.inl ⟨rfl, kc_AL_remove⟩
theorem h_AL_remove : plainFor y_AL_remove = true ∧ (y_AL_remove.cls ≠ "java/lang/invoke/MethodHandle" ∧ y_AL_remove.cls ≠ "java/lang/invoke/VarHandle") ∧ (parseMethodDescriptor y_AL_remove.desc).map (fun d => d.parameters.length) = some 1 := by decide +kernel
theorem v_AL_remove : Cond.instanceMethod y_AL_remove ∈ xT := xin 294 (by decide +kernel) (by decide +kernel)
theorem e_AL_remove : Cond.selects "java/util/ArrayList" y_AL_remove y_AL_remove ∈ xT := xin 295 (by decide +kernel) (by decide +kernel)
theorem d_AL_remove_0 : decode b_AL_remove 0 = .ok (.iload_n 1, 1) := by decide +kernel
theorem d_AL_remove_1 : decode b_AL_remove 1 = .ok (.aload_n 0, 1) := by decide +kernel
theorem d_AL_remove_2 : decode b_AL_remove 2 = .ok (.getfield 48, 3) := by decide +kernel
theorem d_AL_remove_5 : decode b_AL_remove 5 = .ok (.invokestatic 118, 3) := by decide +kernel
theorem d_AL_remove_8 : decode b_AL_remove 8 = .ok (.pop, 1) := by decide +kernel
theorem d_AL_remove_9 : decode b_AL_remove 9 = .ok (.aload_n 0, 1) := by decide +kernel
theorem d_AL_remove_10 : decode b_AL_remove 10 = .ok (.getfield 9, 3) := by decide +kernel
theorem d_AL_remove_13 : decode b_AL_remove 13 = .ok (.astore_n 2, 1) := by decide +kernel
theorem d_AL_remove_14 : decode b_AL_remove 14 = .ok (.aload_n 2, 1) := by decide +kernel
theorem d_AL_remove_15 : decode b_AL_remove 15 = .ok (.iload_n 1, 1) := by decide +kernel
theorem d_AL_remove_16 : decode b_AL_remove 16 = .ok (.aaload, 1) := by decide +kernel
theorem d_AL_remove_17 : decode b_AL_remove 17 = .ok (.astore_n 3, 1) := by decide +kernel
theorem d_AL_remove_18 : decode b_AL_remove 18 = .ok (.aload_n 0, 1) := by decide +kernel
theorem d_AL_remove_19 : decode b_AL_remove 19 = .ok (.aload_n 2, 1) := by decide +kernel
theorem d_AL_remove_20 : decode b_AL_remove 20 = .ok (.iload_n 1, 1) := by decide +kernel
theorem d_AL_remove_21 : decode b_AL_remove 21 = .ok (.invokevirtual 144, 3) := by decide +kernel
theorem q_297 : Cond.methodLink "java/util/ArrayList" 144 ⟨"java/util/ArrayList", "fastRemove", "([Ljava/lang/Object;I)V"⟩ ∈ xT := xin 297 (by decide +kernel) (by decide +kernel)
theorem d_AL_remove_24 : decode b_AL_remove 24 = .ok (.aload_n 3, 1) := by decide +kernel
theorem d_AL_remove_25 : decode b_AL_remove 25 = .ok (.areturn, 1) := by decide +kernel
abbrev b_AL_fastRemove : ByteArray := prog_28_method_39_code
def y_AL_fastRemove : MethodName := ⟨"java/util/ArrayList", "fastRemove", "([Ljava/lang/Object;I)V"⟩
theorem kc_AL_fastRemove : Cond.code y_AL_fastRemove b_AL_fastRemove 4 none ∈ xT := xin 300 (by decide +kernel) (by decide +kernel)
theorem k_AL_fastRemove : xCode y_AL_fastRemove b_AL_fastRemove 4 none [] := Or.inl ⟨rfl, kc_AL_fastRemove⟩
theorem h_AL_fastRemove : plainFor y_AL_fastRemove = true ∧ (y_AL_fastRemove.cls ≠ "java/lang/invoke/MethodHandle" ∧ y_AL_fastRemove.cls ≠ "java/lang/invoke/VarHandle") ∧ (parseMethodDescriptor y_AL_fastRemove.desc).map (fun d => d.parameters.length) = some 2 := by decide +kernel
theorem v_AL_fastRemove : Cond.instanceMethod y_AL_fastRemove ∈ xT := xin 299 (by decide +kernel) (by decide +kernel)
theorem e_AL_fastRemove : Cond.selects "java/util/ArrayList" y_AL_fastRemove y_AL_fastRemove ∈ xT := xinp 3 (by decide +kernel) (by decide +kernel)
theorem d_AL_fastRemove_0 : decode b_AL_fastRemove 0 = .ok (.aload_n 0, 1) := by decide +kernel
theorem d_AL_fastRemove_1 : decode b_AL_fastRemove 1 = .ok (.dup, 1) := by decide +kernel
theorem d_AL_fastRemove_2 : decode b_AL_fastRemove 2 = .ok (.getfield 63, 3) := by decide +kernel
theorem q_60 : Cond.fieldLink "java/util/ArrayList" 63 "java/util/ArrayList" "modCount" "I" ∈ xT := xin 60 (by decide +kernel) (by decide +kernel)
theorem d_AL_fastRemove_5 : decode b_AL_fastRemove 5 = .ok (.iconst 1, 1) := by decide +kernel
theorem d_AL_fastRemove_6 : decode b_AL_fastRemove 6 = .ok (.iadd, 1) := by decide +kernel
theorem d_AL_fastRemove_7 : decode b_AL_fastRemove 7 = .ok (.putfield 63, 3) := by decide +kernel
theorem d_AL_fastRemove_10 : decode b_AL_fastRemove 10 = .ok (.aload_n 0, 1) := by decide +kernel
theorem d_AL_fastRemove_11 : decode b_AL_fastRemove 11 = .ok (.getfield 48, 3) := by decide +kernel
theorem d_AL_fastRemove_14 : decode b_AL_fastRemove 14 = .ok (.iconst 1, 1) := by decide +kernel
theorem d_AL_fastRemove_15 : decode b_AL_fastRemove 15 = .ok (.isub, 1) := by decide +kernel
theorem d_AL_fastRemove_16 : decode b_AL_fastRemove 16 = .ok (.dup, 1) := by decide +kernel
theorem d_AL_fastRemove_17 : decode b_AL_fastRemove 17 = .ok (.istore_n 3, 1) := by decide +kernel
theorem d_AL_fastRemove_18 : decode b_AL_fastRemove 18 = .ok (.iload_n 2, 1) := by decide +kernel
theorem d_AL_fastRemove_19 : decode b_AL_fastRemove 19 = .ok (.if_icmp .le 15, 3) := by decide +kernel
theorem d_AL_fastRemove_22 : decode b_AL_fastRemove 22 = .ok (.aload_n 1, 1) := by decide +kernel
theorem d_AL_fastRemove_23 : decode b_AL_fastRemove 23 = .ok (.iload_n 2, 1) := by decide +kernel
theorem d_AL_fastRemove_24 : decode b_AL_fastRemove 24 = .ok (.iconst 1, 1) := by decide +kernel
theorem d_AL_fastRemove_25 : decode b_AL_fastRemove 25 = .ok (.iadd, 1) := by decide +kernel
theorem d_AL_fastRemove_26 : decode b_AL_fastRemove 26 = .ok (.aload_n 1, 1) := by decide +kernel
theorem d_AL_fastRemove_27 : decode b_AL_fastRemove 27 = .ok (.iload_n 2, 1) := by decide +kernel
theorem d_AL_fastRemove_28 : decode b_AL_fastRemove 28 = .ok (.iload_n 3, 1) := by decide +kernel
theorem d_AL_fastRemove_29 : decode b_AL_fastRemove 29 = .ok (.iload_n 2, 1) := by decide +kernel
theorem d_AL_fastRemove_30 : decode b_AL_fastRemove 30 = .ok (.isub, 1) := by decide +kernel
theorem d_AL_fastRemove_31 : decode b_AL_fastRemove 31 = .ok (.invokestatic 112, 3) := by decide +kernel
theorem q_301 : Cond.methodLink "java/util/ArrayList" 112 ⟨"java/lang/System", "arraycopy", "(Ljava/lang/Object;ILjava/lang/Object;II)V"⟩ ∈ xT := xin 301 (by decide +kernel) (by decide +kernel)
theorem d_AL_fastRemove_34 : decode b_AL_fastRemove 34 = .ok (.aload_n 1, 1) := by decide +kernel
theorem d_AL_fastRemove_35 : decode b_AL_fastRemove 35 = .ok (.aload_n 0, 1) := by decide +kernel
theorem d_AL_fastRemove_36 : decode b_AL_fastRemove 36 = .ok (.iload_n 3, 1) := by decide +kernel
theorem d_AL_fastRemove_37 : decode b_AL_fastRemove 37 = .ok (.dup_x1, 1) := by decide +kernel
theorem d_AL_fastRemove_38 : decode b_AL_fastRemove 38 = .ok (.putfield 48, 3) := by decide +kernel
theorem d_AL_fastRemove_41 : decode b_AL_fastRemove 41 = .ok (.aconst_null, 1) := by decide +kernel
theorem d_AL_fastRemove_42 : decode b_AL_fastRemove 42 = .ok (.aastore, 1) := by decide +kernel
theorem d_AL_fastRemove_43 : decode b_AL_fastRemove 43 = .ok (.return_, 1) := by decide +kernel
abbrev b_AL_add1 : ByteArray := prog_28_method_25_code
def y_AL_add1 : MethodName := ⟨"java/util/ArrayList", "add", "(Ljava/lang/Object;)Z"⟩
theorem kc_AL_add1 : Cond.code y_AL_add1 b_AL_add1 2 (some .boolean) ∈ xT := xin 337 (by decide +kernel) (by decide +kernel)
theorem k_AL_add1 : xCode y_AL_add1 b_AL_add1 2 (some .boolean) [] := Or.inl ⟨rfl, kc_AL_add1⟩
theorem h_AL_add1 : plainFor y_AL_add1 = true ∧ (y_AL_add1.cls ≠ "java/lang/invoke/MethodHandle" ∧ y_AL_add1.cls ≠ "java/lang/invoke/VarHandle") ∧ (parseMethodDescriptor y_AL_add1.desc).map (fun d => d.parameters.length) = some 1 := by decide +kernel
theorem v_AL_add1 : Cond.instanceMethod y_AL_add1 ∈ xT := xin 335 (by decide +kernel) (by decide +kernel)
theorem e_AL_add1 : Cond.selects "java/util/ArrayList" y_AL_add1 y_AL_add1 ∈ xT := xin 336 (by decide +kernel) (by decide +kernel)
theorem d_AL_add1_0 : decode b_AL_add1 0 = .ok (.aload_n 0, 1) := by decide +kernel
theorem d_AL_add1_1 : decode b_AL_add1 1 = .ok (.dup, 1) := by decide +kernel
theorem d_AL_add1_2 : decode b_AL_add1 2 = .ok (.getfield 63, 3) := by decide +kernel
theorem d_AL_add1_5 : decode b_AL_add1 5 = .ok (.iconst 1, 1) := by decide +kernel
theorem d_AL_add1_6 : decode b_AL_add1 6 = .ok (.iadd, 1) := by decide +kernel
theorem d_AL_add1_7 : decode b_AL_add1 7 = .ok (.putfield 63, 3) := by decide +kernel
theorem d_AL_add1_10 : decode b_AL_add1 10 = .ok (.aload_n 0, 1) := by decide +kernel
theorem d_AL_add1_11 : decode b_AL_add1 11 = .ok (.aload_n 1, 1) := by decide +kernel
theorem d_AL_add1_12 : decode b_AL_add1 12 = .ok (.aload_n 0, 1) := by decide +kernel
theorem d_AL_add1_13 : decode b_AL_add1 13 = .ok (.getfield 9, 3) := by decide +kernel
theorem d_AL_add1_16 : decode b_AL_add1 16 = .ok (.aload_n 0, 1) := by decide +kernel
theorem d_AL_add1_17 : decode b_AL_add1 17 = .ok (.getfield 48, 3) := by decide +kernel
theorem d_AL_add1_20 : decode b_AL_add1 20 = .ok (.invokevirtual 131, 3) := by decide +kernel
theorem q_338 : Cond.methodLink "java/util/ArrayList" 131 ⟨"java/util/ArrayList", "add", "(Ljava/lang/Object;[Ljava/lang/Object;I)V"⟩ ∈ xT := xin 338 (by decide +kernel) (by decide +kernel)
theorem d_AL_add1_23 : decode b_AL_add1 23 = .ok (.iconst 1, 1) := by decide +kernel
theorem d_AL_add1_24 : decode b_AL_add1 24 = .ok (.ireturn, 1) := by decide +kernel
abbrev b_AL_add3 : ByteArray := prog_28_method_24_code
def y_AL_add3 : MethodName := ⟨"java/util/ArrayList", "add", "(Ljava/lang/Object;[Ljava/lang/Object;I)V"⟩
theorem kc_AL_add3 : Cond.code y_AL_add3 b_AL_add3 4 none ∈ xT := xin 341 (by decide +kernel) (by decide +kernel)
theorem k_AL_add3 : xCode y_AL_add3 b_AL_add3 4 none [] := Or.inl ⟨rfl, kc_AL_add3⟩
theorem h_AL_add3 : plainFor y_AL_add3 = true ∧ (y_AL_add3.cls ≠ "java/lang/invoke/MethodHandle" ∧ y_AL_add3.cls ≠ "java/lang/invoke/VarHandle") ∧ (parseMethodDescriptor y_AL_add3.desc).map (fun d => d.parameters.length) = some 3 := by decide +kernel
theorem v_AL_add3 : Cond.instanceMethod y_AL_add3 ∈ xT := xin 340 (by decide +kernel) (by decide +kernel)
theorem e_AL_add3 : Cond.selects "java/util/ArrayList" y_AL_add3 y_AL_add3 ∈ xT := xinp 4 (by decide +kernel) (by decide +kernel)
theorem d_AL_add3_0 : decode b_AL_add3 0 = .ok (.iload_n 3, 1) := by decide +kernel
theorem d_AL_add3_1 : decode b_AL_add3 1 = .ok (.aload_n 2, 1) := by decide +kernel
theorem d_AL_add3_2 : decode b_AL_add3 2 = .ok (.arraylength, 1) := by decide +kernel
theorem d_AL_add3_3 : decode b_AL_add3 3 = .ok (.if_icmp .ne 8, 3) := by decide +kernel
theorem d_AL_add3_6 : decode b_AL_add3 6 = .ok (.aload_n 0, 1) := by decide +kernel
theorem d_AL_add3_7 : decode b_AL_add3 7 = .ok (.invokevirtual 129, 3) := by decide +kernel
theorem q_342 : Cond.methodLink "java/util/ArrayList" 129 ⟨"java/util/ArrayList", "grow", "()[Ljava/lang/Object;"⟩ ∈ xT := xin 342 (by decide +kernel) (by decide +kernel)
theorem d_AL_add3_10 : decode b_AL_add3 10 = .ok (.astore_n 2, 1) := by decide +kernel
theorem d_AL_add3_11 : decode b_AL_add3 11 = .ok (.aload_n 2, 1) := by decide +kernel
theorem d_AL_add3_12 : decode b_AL_add3 12 = .ok (.iload_n 3, 1) := by decide +kernel
theorem d_AL_add3_13 : decode b_AL_add3 13 = .ok (.aload_n 1, 1) := by decide +kernel
theorem d_AL_add3_14 : decode b_AL_add3 14 = .ok (.aastore, 1) := by decide +kernel
theorem d_AL_add3_15 : decode b_AL_add3 15 = .ok (.aload_n 0, 1) := by decide +kernel
theorem d_AL_add3_16 : decode b_AL_add3 16 = .ok (.iload_n 3, 1) := by decide +kernel
theorem d_AL_add3_17 : decode b_AL_add3 17 = .ok (.iconst 1, 1) := by decide +kernel
theorem d_AL_add3_18 : decode b_AL_add3 18 = .ok (.iadd, 1) := by decide +kernel
theorem d_AL_add3_19 : decode b_AL_add3 19 = .ok (.putfield 48, 3) := by decide +kernel
theorem d_AL_add3_22 : decode b_AL_add3 22 = .ok (.return_, 1) := by decide +kernel
abbrev b_AL_grow0 : ByteArray := prog_28_method_7_code
def y_AL_grow0 : MethodName := ⟨"java/util/ArrayList", "grow", "()[Ljava/lang/Object;"⟩
theorem kc_AL_grow0 : Cond.code y_AL_grow0 b_AL_grow0 1 (some (.array (.object "java/lang/Object"))) ∈ xT := xin 345 (by decide +kernel) (by decide +kernel)
theorem k_AL_grow0 : xCode y_AL_grow0 b_AL_grow0 1 (some (.array (.object "java/lang/Object"))) [] := Or.inl ⟨rfl, kc_AL_grow0⟩
theorem h_AL_grow0 : plainFor y_AL_grow0 = true ∧ (y_AL_grow0.cls ≠ "java/lang/invoke/MethodHandle" ∧ y_AL_grow0.cls ≠ "java/lang/invoke/VarHandle") ∧ (parseMethodDescriptor y_AL_grow0.desc).map (fun d => d.parameters.length) = some 0 := by decide +kernel
theorem v_AL_grow0 : Cond.instanceMethod y_AL_grow0 ∈ xT := xin 344 (by decide +kernel) (by decide +kernel)
theorem e_AL_grow0 : Cond.selects "java/util/ArrayList" y_AL_grow0 y_AL_grow0 ∈ xT := xinp 5 (by decide +kernel) (by decide +kernel)
theorem d_AL_grow0_0 : decode b_AL_grow0 0 = .ok (.aload_n 0, 1) := by decide +kernel
theorem d_AL_grow0_1 : decode b_AL_grow0 1 = .ok (.aload_n 0, 1) := by decide +kernel
theorem d_AL_grow0_2 : decode b_AL_grow0 2 = .ok (.getfield 48, 3) := by decide +kernel
theorem d_AL_grow0_5 : decode b_AL_grow0 5 = .ok (.iconst 1, 1) := by decide +kernel
theorem d_AL_grow0_6 : decode b_AL_grow0 6 = .ok (.iadd, 1) := by decide +kernel
theorem d_AL_grow0_7 : decode b_AL_grow0 7 = .ok (.invokevirtual 69, 3) := by decide +kernel
theorem q_346 : Cond.methodLink "java/util/ArrayList" 69 ⟨"java/util/ArrayList", "grow", "(I)[Ljava/lang/Object;"⟩ ∈ xT := xin 346 (by decide +kernel) (by decide +kernel)
theorem d_AL_grow0_10 : decode b_AL_grow0 10 = .ok (.areturn, 1) := by decide +kernel
abbrev b_AL_grow1 : ByteArray := prog_28_method_6_code
def y_AL_grow1 : MethodName := ⟨"java/util/ArrayList", "grow", "(I)[Ljava/lang/Object;"⟩
theorem kc_AL_grow1 : Cond.code y_AL_grow1 b_AL_grow1 4 (some (.array (.object "java/lang/Object"))) ∈ xT := xin 349 (by decide +kernel) (by decide +kernel)
theorem k_AL_grow1 : xCode y_AL_grow1 b_AL_grow1 4 (some (.array (.object "java/lang/Object"))) [] := Or.inl ⟨rfl, kc_AL_grow1⟩
theorem h_AL_grow1 : plainFor y_AL_grow1 = true ∧ (y_AL_grow1.cls ≠ "java/lang/invoke/MethodHandle" ∧ y_AL_grow1.cls ≠ "java/lang/invoke/VarHandle") ∧ (parseMethodDescriptor y_AL_grow1.desc).map (fun d => d.parameters.length) = some 1 := by decide +kernel
theorem v_AL_grow1 : Cond.instanceMethod y_AL_grow1 ∈ xT := xin 348 (by decide +kernel) (by decide +kernel)
theorem e_AL_grow1 : Cond.selects "java/util/ArrayList" y_AL_grow1 y_AL_grow1 ∈ xT := xinp 6 (by decide +kernel) (by decide +kernel)
theorem d_AL_grow1_0 : decode b_AL_grow1 0 = .ok (.aload_n 0, 1) := by decide +kernel
theorem d_AL_grow1_1 : decode b_AL_grow1 1 = .ok (.getfield 9, 3) := by decide +kernel
theorem d_AL_grow1_4 : decode b_AL_grow1 4 = .ok (.arraylength, 1) := by decide +kernel
theorem d_AL_grow1_5 : decode b_AL_grow1 5 = .ok (.istore_n 2, 1) := by decide +kernel
theorem d_AL_grow1_6 : decode b_AL_grow1 6 = .ok (.iload_n 2, 1) := by decide +kernel
theorem d_AL_grow1_7 : decode b_AL_grow1 7 = .ok (.ifCond .gt 13, 3) := by decide +kernel
theorem d_AL_grow1_10 : decode b_AL_grow1 10 = .ok (.aload_n 0, 1) := by decide +kernel
theorem d_AL_grow1_11 : decode b_AL_grow1 11 = .ok (.getfield 9, 3) := by decide +kernel
theorem d_AL_grow1_14 : decode b_AL_grow1 14 = .ok (.getstatic 39, 3) := by decide +kernel
theorem d_AL_grow1_17 : decode b_AL_grow1 17 = .ok (.if_acmp .eq 28, 3) := by decide +kernel
theorem d_AL_grow1_20 : decode b_AL_grow1 20 = .ok (.iload_n 2, 1) := by decide +kernel
theorem d_AL_grow1_21 : decode b_AL_grow1 21 = .ok (.iload_n 1, 1) := by decide +kernel
theorem d_AL_grow1_22 : decode b_AL_grow1 22 = .ok (.iload_n 2, 1) := by decide +kernel
theorem d_AL_grow1_23 : decode b_AL_grow1 23 = .ok (.isub, 1) := by decide +kernel
theorem d_AL_grow1_24 : decode b_AL_grow1 24 = .ok (.iload_n 2, 1) := by decide +kernel
theorem d_AL_grow1_25 : decode b_AL_grow1 25 = .ok (.iconst 1, 1) := by decide +kernel
theorem d_AL_grow1_26 : decode b_AL_grow1 26 = .ok (.ishr, 1) := by decide +kernel
theorem d_AL_grow1_27 : decode b_AL_grow1 27 = .ok (.invokestatic 73, 3) := by decide +kernel
theorem q_350 : Cond.methodLink "java/util/ArrayList" 73 ⟨"jdk/internal/util/ArraysSupport", "newLength", "(III)I"⟩ ∈ xT := xin 350 (by decide +kernel) (by decide +kernel)
theorem d_AL_grow1_30 : decode b_AL_grow1 30 = .ok (.istore_n 3, 1) := by decide +kernel
theorem d_AL_grow1_31 : decode b_AL_grow1 31 = .ok (.aload_n 0, 1) := by decide +kernel
theorem d_AL_grow1_32 : decode b_AL_grow1 32 = .ok (.aload_n 0, 1) := by decide +kernel
theorem d_AL_grow1_33 : decode b_AL_grow1 33 = .ok (.getfield 9, 3) := by decide +kernel
theorem d_AL_grow1_36 : decode b_AL_grow1 36 = .ok (.iload_n 3, 1) := by decide +kernel
theorem d_AL_grow1_37 : decode b_AL_grow1 37 = .ok (.invokestatic 66, 3) := by decide +kernel
theorem q_360 : Cond.methodLink "java/util/ArrayList" 66 ⟨"java/util/Arrays", "copyOf", "([Ljava/lang/Object;I)[Ljava/lang/Object;"⟩ ∈ xT := xin 360 (by decide +kernel) (by decide +kernel)
theorem d_AL_grow1_40 : decode b_AL_grow1 40 = .ok (.dup_x1, 1) := by decide +kernel
theorem d_AL_grow1_41 : decode b_AL_grow1 41 = .ok (.putfield 9, 3) := by decide +kernel
theorem d_AL_grow1_44 : decode b_AL_grow1 44 = .ok (.areturn, 1) := by decide +kernel
theorem d_AL_grow1_45 : decode b_AL_grow1 45 = .ok (.aload_n 0, 1) := by decide +kernel
theorem d_AL_grow1_46 : decode b_AL_grow1 46 = .ok (.bipush 10, 2) := by decide +kernel
theorem d_AL_grow1_48 : decode b_AL_grow1 48 = .ok (.iload_n 1, 1) := by decide +kernel
theorem d_AL_grow1_49 : decode b_AL_grow1 49 = .ok (.invokestatic 79, 3) := by decide +kernel
theorem q_390 : Cond.methodLink "java/util/ArrayList" 79 ⟨"java/lang/Math", "max", "(II)I"⟩ ∈ xT := xin 390 (by decide +kernel) (by decide +kernel)
theorem d_AL_grow1_52 : decode b_AL_grow1 52 = .ok (.anewarray 7, 3) := by decide +kernel
theorem q_391 : Cond.classLink "java/util/ArrayList" 7 "java/lang/Object" ∈ xT := xin 391 (by decide +kernel) (by decide +kernel)
theorem d_AL_grow1_55 : decode b_AL_grow1 55 = .ok (.dup_x1, 1) := by decide +kernel
theorem d_AL_grow1_56 : decode b_AL_grow1 56 = .ok (.putfield 9, 3) := by decide +kernel
theorem d_AL_grow1_59 : decode b_AL_grow1 59 = .ok (.areturn, 1) := by decide +kernel
abbrev b_AS_newLength : ByteArray := prog_35_method_27_code
def y_AS_newLength : MethodName := ⟨"jdk/internal/util/ArraysSupport", "newLength", "(III)I"⟩
theorem kc_AS_newLength : Cond.code y_AS_newLength b_AS_newLength 4 (some .int) ∈ xT := xin 352 (by decide +kernel) (by decide +kernel)
theorem k_AS_newLength : xCode y_AS_newLength b_AS_newLength 4 (some .int) [] := Or.inl ⟨rfl, kc_AS_newLength⟩
theorem h_AS_newLength : plainFor y_AS_newLength = true ∧ (y_AS_newLength.cls ≠ "java/lang/invoke/MethodHandle" ∧ y_AS_newLength.cls ≠ "java/lang/invoke/VarHandle") ∧ (parseMethodDescriptor y_AS_newLength.desc).map (fun d => d.parameters.length) = some 3 := by decide +kernel
theorem s_AS_newLength : Cond.static y_AS_newLength ∈ xT := xin 351 (by decide +kernel) (by decide +kernel)
theorem in_AS_newLength : Cond.initialized y_AS_newLength.cls ∈ xT := xin 19 (by decide +kernel) (by decide +kernel)
theorem d_AS_newLength_0 : decode b_AS_newLength 0 = .ok (.iload_n 0, 1) := by decide +kernel
theorem d_AS_newLength_1 : decode b_AS_newLength 1 = .ok (.iload_n 1, 1) := by decide +kernel
theorem d_AS_newLength_2 : decode b_AS_newLength 2 = .ok (.iload_n 2, 1) := by decide +kernel
theorem d_AS_newLength_3 : decode b_AS_newLength 3 = .ok (.invokestatic 194, 3) := by decide +kernel
theorem q_353 : Cond.methodLink "jdk/internal/util/ArraysSupport" 194 ⟨"java/lang/Math", "max", "(II)I"⟩ ∈ xT := xin 353 (by decide +kernel) (by decide +kernel)
theorem d_AS_newLength_6 : decode b_AS_newLength 6 = .ok (.iadd, 1) := by decide +kernel
theorem d_AS_newLength_7 : decode b_AS_newLength 7 = .ok (.istore_n 3, 1) := by decide +kernel
theorem d_AS_newLength_8 : decode b_AS_newLength 8 = .ok (.iconst 0, 1) := by decide +kernel
theorem d_AS_newLength_9 : decode b_AS_newLength 9 = .ok (.iload_n 3, 1) := by decide +kernel
theorem d_AS_newLength_10 : decode b_AS_newLength 10 = .ok (.if_icmp .ge 11, 3) := by decide +kernel
theorem d_AS_newLength_13 : decode b_AS_newLength 13 = .ok (.iload_n 3, 1) := by decide +kernel
theorem d_AS_newLength_14 : decode b_AS_newLength 14 = .ok (.ldc 200, 2) := by decide +kernel
theorem q_356 : Cond.constant "jdk/internal/util/ArraysSupport" 200 (2147483639) ∈ xT := xin 356 (by decide +kernel) (by decide +kernel)
theorem d_AS_newLength_16 : decode b_AS_newLength 16 = .ok (.if_icmp .gt 5, 3) := by decide +kernel
theorem d_AS_newLength_19 : decode b_AS_newLength 19 = .ok (.iload_n 3, 1) := by decide +kernel
theorem d_AS_newLength_20 : decode b_AS_newLength 20 = .ok (.ireturn, 1) := by decide +kernel
theorem d_AS_newLength_21 : decode b_AS_newLength 21 = .ok (.iload_n 0, 1) := by decide +kernel
theorem d_AS_newLength_22 : decode b_AS_newLength 22 = .ok (.iload_n 1, 1) := by decide +kernel
theorem d_AS_newLength_23 : decode b_AS_newLength 23 = .ok (.invokestatic 201, 3) := by decide +kernel
theorem q_357 : Cond.methodLink "jdk/internal/util/ArraysSupport" 201 ⟨"jdk/internal/util/ArraysSupport", "hugeLength", "(II)I"⟩ ∈ xT := xin 357 (by decide +kernel) (by decide +kernel)
theorem d_AS_newLength_26 : decode b_AS_newLength 26 = .ok (.ireturn, 1) := by decide +kernel
abbrev b_AS_hugeLength : ByteArray := prog_35_method_28_code
def y_AS_hugeLength : MethodName := ⟨"jdk/internal/util/ArraysSupport", "hugeLength", "(II)I"⟩
theorem kc_AS_hugeLength : Cond.code y_AS_hugeLength b_AS_hugeLength 3 (some .int) ∈ xT := xin 359 (by decide +kernel) (by decide +kernel)
theorem k_AS_hugeLength : xCode y_AS_hugeLength b_AS_hugeLength 3 (some .int) [] := Or.inl ⟨rfl, kc_AS_hugeLength⟩
theorem h_AS_hugeLength : plainFor y_AS_hugeLength = true ∧ (y_AS_hugeLength.cls ≠ "java/lang/invoke/MethodHandle" ∧ y_AS_hugeLength.cls ≠ "java/lang/invoke/VarHandle") ∧ (parseMethodDescriptor y_AS_hugeLength.desc).map (fun d => d.parameters.length) = some 2 := by decide +kernel
theorem s_AS_hugeLength : Cond.static y_AS_hugeLength ∈ xT := xin 358 (by decide +kernel) (by decide +kernel)
theorem in_AS_hugeLength : Cond.initialized y_AS_hugeLength.cls ∈ xT := xin 19 (by decide +kernel) (by decide +kernel)
theorem d_AS_hugeLength_0 : decode b_AS_hugeLength 0 = .ok (.iload_n 0, 1) := by decide +kernel
theorem d_AS_hugeLength_1 : decode b_AS_hugeLength 1 = .ok (.iload_n 1, 1) := by decide +kernel
theorem d_AS_hugeLength_2 : decode b_AS_hugeLength 2 = .ok (.iadd, 1) := by decide +kernel
theorem d_AS_hugeLength_3 : decode b_AS_hugeLength 3 = .ok (.istore_n 2, 1) := by decide +kernel
theorem d_AS_hugeLength_4 : decode b_AS_hugeLength 4 = .ok (.iload_n 2, 1) := by decide +kernel
theorem d_AS_hugeLength_5 : decode b_AS_hugeLength 5 = .ok (.ifCond .ge 44, 3) := by decide +kernel
theorem d_AS_hugeLength_8 : decode b_AS_hugeLength 8 = .ok (.new 204, 3) := by decide +kernel
theorem d_AS_hugeLength_11 : decode b_AS_hugeLength 11 = .ok (.dup, 1) := by decide +kernel
theorem d_AS_hugeLength_12 : decode b_AS_hugeLength 12 = .ok (.new 89, 3) := by decide +kernel
theorem d_AS_hugeLength_15 : decode b_AS_hugeLength 15 = .ok (.dup, 1) := by decide +kernel
theorem d_AS_hugeLength_16 : decode b_AS_hugeLength 16 = .ok (.invokespecial 91, 3) := by decide +kernel
theorem d_AS_hugeLength_19 : decode b_AS_hugeLength 19 = .ok (.ldc 206, 2) := by decide +kernel
theorem d_AS_hugeLength_21 : decode b_AS_hugeLength 21 = .ok (.invokevirtual 94, 3) := by decide +kernel
theorem d_AS_hugeLength_24 : decode b_AS_hugeLength 24 = .ok (.iload_n 0, 1) := by decide +kernel
theorem d_AS_hugeLength_25 : decode b_AS_hugeLength 25 = .ok (.invokevirtual 98, 3) := by decide +kernel
theorem d_AS_hugeLength_28 : decode b_AS_hugeLength 28 = .ok (.ldc 208, 2) := by decide +kernel
theorem d_AS_hugeLength_30 : decode b_AS_hugeLength 30 = .ok (.invokevirtual 94, 3) := by decide +kernel
theorem d_AS_hugeLength_33 : decode b_AS_hugeLength 33 = .ok (.iload_n 1, 1) := by decide +kernel
theorem d_AS_hugeLength_34 : decode b_AS_hugeLength 34 = .ok (.invokevirtual 98, 3) := by decide +kernel
theorem d_AS_hugeLength_37 : decode b_AS_hugeLength 37 = .ok (.ldc 210, 2) := by decide +kernel
theorem d_AS_hugeLength_39 : decode b_AS_hugeLength 39 = .ok (.invokevirtual 94, 3) := by decide +kernel
theorem d_AS_hugeLength_42 : decode b_AS_hugeLength 42 = .ok (.invokevirtual 101, 3) := by decide +kernel
theorem d_AS_hugeLength_45 : decode b_AS_hugeLength 45 = .ok (.invokespecial 212, 3) := by decide +kernel
theorem d_AS_hugeLength_48 : decode b_AS_hugeLength 48 = .ok (.athrow, 1) := by decide +kernel
theorem d_AS_hugeLength_49 : decode b_AS_hugeLength 49 = .ok (.iload_n 2, 1) := by decide +kernel
theorem d_AS_hugeLength_50 : decode b_AS_hugeLength 50 = .ok (.ldc 200, 2) := by decide +kernel
theorem d_AS_hugeLength_52 : decode b_AS_hugeLength 52 = .ok (.if_icmp .gt 6, 3) := by decide +kernel
theorem d_AS_hugeLength_55 : decode b_AS_hugeLength 55 = .ok (.ldc 200, 2) := by decide +kernel
theorem d_AS_hugeLength_57 : decode b_AS_hugeLength 57 = .ok (.ireturn, 1) := by decide +kernel
theorem d_AS_hugeLength_58 : decode b_AS_hugeLength 58 = .ok (.iload_n 2, 1) := by decide +kernel
theorem d_AS_hugeLength_59 : decode b_AS_hugeLength 59 = .ok (.ireturn, 1) := by decide +kernel
abbrev b_AR_copyO2 : ByteArray := prog_29_method_119_code
def y_AR_copyO2 : MethodName := ⟨"java/util/Arrays", "copyOf", "([Ljava/lang/Object;I)[Ljava/lang/Object;"⟩
theorem kc_AR_copyO2 : Cond.code y_AR_copyO2 b_AR_copyO2 2 (some (.array (.object "java/lang/Object"))) ∈ xT := xin 362 (by decide +kernel) (by decide +kernel)
theorem k_AR_copyO2 : xCode y_AR_copyO2 b_AR_copyO2 2 (some (.array (.object "java/lang/Object"))) [] := Or.inl ⟨rfl, kc_AR_copyO2⟩
theorem h_AR_copyO2 : plainFor y_AR_copyO2 = true ∧ (y_AR_copyO2.cls ≠ "java/lang/invoke/MethodHandle" ∧ y_AR_copyO2.cls ≠ "java/lang/invoke/VarHandle") ∧ (parseMethodDescriptor y_AR_copyO2.desc).map (fun d => d.parameters.length) = some 2 := by decide +kernel
theorem s_AR_copyO2 : Cond.static y_AR_copyO2 ∈ xT := xin 361 (by decide +kernel) (by decide +kernel)
theorem in_AR_copyO2 : Cond.initialized y_AR_copyO2.cls ∈ xT := xin 21 (by decide +kernel) (by decide +kernel)
theorem d_AR_copyO2_0 : decode b_AR_copyO2 0 = .ok (.aload_n 0, 1) := by decide +kernel
theorem d_AR_copyO2_1 : decode b_AR_copyO2 1 = .ok (.iload_n 1, 1) := by decide +kernel
theorem d_AR_copyO2_2 : decode b_AR_copyO2 2 = .ok (.aload_n 0, 1) := by decide +kernel
theorem d_AR_copyO2_3 : decode b_AR_copyO2 3 = .ok (.invokevirtual 86, 3) := by decide +kernel
theorem q_363 : Cond.methodLink "java/util/Arrays" 86 ⟨"java/lang/Object", "getClass", "()Ljava/lang/Class;"⟩ ∈ xT := xin 363 (by decide +kernel) (by decide +kernel)
theorem d_AR_copyO2_6 : decode b_AR_copyO2 6 = .ok (.invokestatic 300, 3) := by decide +kernel
theorem q_380 : Cond.methodLink "java/util/Arrays" 300 ⟨"java/util/Arrays", "copyOf", "([Ljava/lang/Object;ILjava/lang/Class;)[Ljava/lang/Object;"⟩ ∈ xT := xin 380 (by decide +kernel) (by decide +kernel)
theorem d_AR_copyO2_9 : decode b_AR_copyO2 9 = .ok (.areturn, 1) := by decide +kernel
abbrev b_AR_copyO3 : ByteArray := prog_29_method_120_code
def y_AR_copyO3 : MethodName := ⟨"java/util/Arrays", "copyOf", "([Ljava/lang/Object;ILjava/lang/Class;)[Ljava/lang/Object;"⟩
theorem kc_AR_copyO3 : Cond.code y_AR_copyO3 b_AR_copyO3 4 (some (.array (.object "java/lang/Object"))) ∈ xT := xin 382 (by decide +kernel) (by decide +kernel)
theorem k_AR_copyO3 : xCode y_AR_copyO3 b_AR_copyO3 4 (some (.array (.object "java/lang/Object"))) [] := Or.inl ⟨rfl, kc_AR_copyO3⟩
theorem h_AR_copyO3 : plainFor y_AR_copyO3 = true ∧ (y_AR_copyO3.cls ≠ "java/lang/invoke/MethodHandle" ∧ y_AR_copyO3.cls ≠ "java/lang/invoke/VarHandle") ∧ (parseMethodDescriptor y_AR_copyO3.desc).map (fun d => d.parameters.length) = some 3 := by decide +kernel
theorem s_AR_copyO3 : Cond.static y_AR_copyO3 ∈ xT := xin 381 (by decide +kernel) (by decide +kernel)
theorem in_AR_copyO3 : Cond.initialized y_AR_copyO3.cls ∈ xT := xin 21 (by decide +kernel) (by decide +kernel)
theorem d_AR_copyO3_0 : decode b_AR_copyO3 0 = .ok (.aload_n 2, 1) := by decide +kernel
theorem d_AR_copyO3_1 : decode b_AR_copyO3 1 = .ok (.ldc 110, 2) := by decide +kernel
theorem q_383 : Cond.classLink "java/util/Arrays" 110 "[Ljava/lang/Object;" ∈ xT := xin 383 (by decide +kernel) (by decide +kernel)
theorem d_AR_copyO3_3 : decode b_AR_copyO3 3 = .ok (.if_acmp .ne 10, 3) := by decide +kernel
theorem d_AR_copyO3_6 : decode b_AR_copyO3 6 = .ok (.iload_n 1, 1) := by decide +kernel
theorem d_AR_copyO3_7 : decode b_AR_copyO3 7 = .ok (.anewarray 2, 3) := by decide +kernel
theorem q_385 : Cond.classLink "java/util/Arrays" 2 "java/lang/Object" ∈ xT := xin 385 (by decide +kernel) (by decide +kernel)
theorem d_AR_copyO3_10 : decode b_AR_copyO3 10 = .ok (.goto 14, 3) := by decide +kernel
theorem d_AR_copyO3_13 : decode b_AR_copyO3 13 = .ok (.aload_n 2, 1) := by decide +kernel
theorem d_AR_copyO3_14 : decode b_AR_copyO3 14 = .ok (.invokevirtual 90, 3) := by decide +kernel
theorem d_AR_copyO3_17 : decode b_AR_copyO3 17 = .ok (.iload_n 1, 1) := by decide +kernel
theorem d_AR_copyO3_18 : decode b_AR_copyO3 18 = .ok (.invokestatic 95, 3) := by decide +kernel
theorem d_AR_copyO3_21 : decode b_AR_copyO3 21 = .ok (.checkcast 110, 3) := by decide +kernel
theorem d_AR_copyO3_24 : decode b_AR_copyO3 24 = .ok (.astore_n 3, 1) := by decide +kernel
theorem d_AR_copyO3_25 : decode b_AR_copyO3 25 = .ok (.aload_n 0, 1) := by decide +kernel
theorem d_AR_copyO3_26 : decode b_AR_copyO3 26 = .ok (.iconst 0, 1) := by decide +kernel
theorem d_AR_copyO3_27 : decode b_AR_copyO3 27 = .ok (.aload_n 3, 1) := by decide +kernel
theorem d_AR_copyO3_28 : decode b_AR_copyO3 28 = .ok (.iconst 0, 1) := by decide +kernel
theorem d_AR_copyO3_29 : decode b_AR_copyO3 29 = .ok (.aload_n 0, 1) := by decide +kernel
theorem d_AR_copyO3_30 : decode b_AR_copyO3 30 = .ok (.arraylength, 1) := by decide +kernel
theorem d_AR_copyO3_31 : decode b_AR_copyO3 31 = .ok (.iload_n 1, 1) := by decide +kernel
theorem d_AR_copyO3_32 : decode b_AR_copyO3 32 = .ok (.invokestatic 304, 3) := by decide +kernel
theorem q_386 : Cond.methodLink "java/util/Arrays" 304 ⟨"java/lang/Math", "min", "(II)I"⟩ ∈ xT := xin 386 (by decide +kernel) (by decide +kernel)
theorem d_AR_copyO3_35 : decode b_AR_copyO3 35 = .ok (.invokestatic 150, 3) := by decide +kernel
theorem q_389 : Cond.methodLink "java/util/Arrays" 150 ⟨"java/lang/System", "arraycopy", "(Ljava/lang/Object;ILjava/lang/Object;II)V"⟩ ∈ xT := xin 389 (by decide +kernel) (by decide +kernel)
theorem d_AR_copyO3_38 : decode b_AR_copyO3 38 = .ok (.aload_n 3, 1) := by decide +kernel
theorem d_AR_copyO3_39 : decode b_AR_copyO3 39 = .ok (.areturn, 1) := by decide +kernel
abbrev b_AL_set : ByteArray := prog_28_method_23_code
def y_AL_set : MethodName := ⟨"java/util/ArrayList", "set", "(ILjava/lang/Object;)Ljava/lang/Object;"⟩
theorem kc_AL_set : Cond.code y_AL_set b_AL_set 4 (some (.object "java/lang/Object")) ∈ xT := xin 442 (by decide +kernel) (by decide +kernel)
theorem k_AL_set : xCode y_AL_set b_AL_set 4 (some (.object "java/lang/Object")) [] := Or.inl ⟨rfl, kc_AL_set⟩
theorem h_AL_set : plainFor y_AL_set = true ∧ (y_AL_set.cls ≠ "java/lang/invoke/MethodHandle" ∧ y_AL_set.cls ≠ "java/lang/invoke/VarHandle") ∧ (parseMethodDescriptor y_AL_set.desc).map (fun d => d.parameters.length) = some 2 := by decide +kernel
theorem v_AL_set : Cond.instanceMethod y_AL_set ∈ xT := xin 440 (by decide +kernel) (by decide +kernel)
theorem e_AL_set : Cond.selects "java/util/ArrayList" y_AL_set y_AL_set ∈ xT := xin 441 (by decide +kernel) (by decide +kernel)
theorem d_AL_set_0 : decode b_AL_set 0 = .ok (.iload_n 1, 1) := by decide +kernel
theorem d_AL_set_1 : decode b_AL_set 1 = .ok (.aload_n 0, 1) := by decide +kernel
theorem d_AL_set_2 : decode b_AL_set 2 = .ok (.getfield 48, 3) := by decide +kernel
theorem d_AL_set_5 : decode b_AL_set 5 = .ok (.invokestatic 118, 3) := by decide +kernel
theorem d_AL_set_8 : decode b_AL_set 8 = .ok (.pop, 1) := by decide +kernel
theorem d_AL_set_9 : decode b_AL_set 9 = .ok (.aload_n 0, 1) := by decide +kernel
theorem d_AL_set_10 : decode b_AL_set 10 = .ok (.iload_n 1, 1) := by decide +kernel
theorem d_AL_set_11 : decode b_AL_set 11 = .ok (.invokevirtual 123, 3) := by decide +kernel
theorem d_AL_set_14 : decode b_AL_set 14 = .ok (.astore_n 3, 1) := by decide +kernel
theorem d_AL_set_15 : decode b_AL_set 15 = .ok (.aload_n 0, 1) := by decide +kernel
theorem d_AL_set_16 : decode b_AL_set 16 = .ok (.getfield 9, 3) := by decide +kernel
theorem d_AL_set_19 : decode b_AL_set 19 = .ok (.iload_n 1, 1) := by decide +kernel
theorem d_AL_set_20 : decode b_AL_set 20 = .ok (.aload_n 2, 1) := by decide +kernel
theorem d_AL_set_21 : decode b_AL_set 21 = .ok (.aastore, 1) := by decide +kernel
theorem d_AL_set_22 : decode b_AL_set 22 = .ok (.aload_n 3, 1) := by decide +kernel
theorem d_AL_set_23 : decode b_AL_set 23 = .ok (.areturn, 1) := by decide +kernel
abbrev b_AR_copyB : ByteArray := prog_29_method_121_code
def y_AR_copyB : MethodName := ⟨"java/util/Arrays", "copyOf", "([BI)[B"⟩
theorem kc_AR_copyB : Cond.code y_AR_copyB b_AR_copyB 3 (some (.array .byte)) ∈ xT := xin 453 (by decide +kernel) (by decide +kernel)
theorem k_AR_copyB : xCode y_AR_copyB b_AR_copyB 3 (some (.array .byte)) [] := Or.inl ⟨rfl, kc_AR_copyB⟩
theorem h_AR_copyB : plainFor y_AR_copyB = true ∧ (y_AR_copyB.cls ≠ "java/lang/invoke/MethodHandle" ∧ y_AR_copyB.cls ≠ "java/lang/invoke/VarHandle") ∧ (parseMethodDescriptor y_AR_copyB.desc).map (fun d => d.parameters.length) = some 2 := by decide +kernel
theorem s_AR_copyB : Cond.static y_AR_copyB ∈ xT := xin 452 (by decide +kernel) (by decide +kernel)
theorem in_AR_copyB : Cond.initialized y_AR_copyB.cls ∈ xT := xin 21 (by decide +kernel) (by decide +kernel)
theorem d_AR_copyB_0 : decode b_AR_copyB 0 = .ok (.iload_n 1, 1) := by decide +kernel
theorem d_AR_copyB_1 : decode b_AR_copyB 1 = .ok (.aload_n 0, 1) := by decide +kernel
theorem d_AR_copyB_2 : decode b_AR_copyB 2 = .ok (.arraylength, 1) := by decide +kernel
theorem d_AR_copyB_3 : decode b_AR_copyB 3 = .ok (.if_icmp .ne 11, 3) := by decide +kernel
theorem d_AR_copyB_6 : decode b_AR_copyB 6 = .ok (.aload_n 0, 1) := by decide +kernel
theorem d_AR_copyB_7 : decode b_AR_copyB 7 = .ok (.invokevirtual 310, 3) := by decide +kernel
theorem q_454 : Cond.methodLink "java/util/Arrays" 310 ⟨"[B", "clone", "()Ljava/lang/Object;"⟩ ∈ xT := xin 454 (by decide +kernel) (by decide +kernel)
theorem d_AR_copyB_10 : decode b_AR_copyB 10 = .ok (.checkcast 311, 3) := by decide +kernel
theorem q_460 : Cond.classLink "java/util/Arrays" 311 "[B" ∈ xT := xin 460 (by decide +kernel) (by decide +kernel)
theorem d_AR_copyB_13 : decode b_AR_copyB 13 = .ok (.areturn, 1) := by decide +kernel
theorem d_AR_copyB_14 : decode b_AR_copyB 14 = .ok (.iload_n 1, 1) := by decide +kernel
theorem d_AR_copyB_15 : decode b_AR_copyB 15 = .ok (.newarray .byte, 2) := by decide +kernel
theorem d_AR_copyB_17 : decode b_AR_copyB 17 = .ok (.astore_n 2, 1) := by decide +kernel
theorem d_AR_copyB_18 : decode b_AR_copyB 18 = .ok (.aload_n 0, 1) := by decide +kernel
theorem d_AR_copyB_19 : decode b_AR_copyB 19 = .ok (.iconst 0, 1) := by decide +kernel
theorem d_AR_copyB_20 : decode b_AR_copyB 20 = .ok (.aload_n 2, 1) := by decide +kernel
theorem d_AR_copyB_21 : decode b_AR_copyB 21 = .ok (.iconst 0, 1) := by decide +kernel
theorem d_AR_copyB_22 : decode b_AR_copyB 22 = .ok (.aload_n 0, 1) := by decide +kernel
theorem d_AR_copyB_23 : decode b_AR_copyB 23 = .ok (.arraylength, 1) := by decide +kernel
theorem d_AR_copyB_24 : decode b_AR_copyB 24 = .ok (.iload_n 1, 1) := by decide +kernel
theorem d_AR_copyB_25 : decode b_AR_copyB 25 = .ok (.invokestatic 304, 3) := by decide +kernel
theorem d_AR_copyB_28 : decode b_AR_copyB 28 = .ok (.invokestatic 150, 3) := by decide +kernel
theorem d_AR_copyB_31 : decode b_AR_copyB 31 = .ok (.aload_n 2, 1) := by decide +kernel
theorem d_AR_copyB_32 : decode b_AR_copyB 32 = .ok (.areturn, 1) := by decide +kernel
abbrev b_AR_copyOfRange : ByteArray := prog_29_method_132_code
def y_AR_copyOfRange : MethodName := ⟨"java/util/Arrays", "copyOfRange", "([BII)[B"⟩
theorem kc_AR_copyOfRange : Cond.code y_AR_copyOfRange b_AR_copyOfRange 3 (some (.array .byte)) ∈ xT := xin 467 (by decide +kernel) (by decide +kernel)
theorem k_AR_copyOfRange : xCode y_AR_copyOfRange b_AR_copyOfRange 3 (some (.array .byte)) [] := Or.inl ⟨rfl, kc_AR_copyOfRange⟩
theorem h_AR_copyOfRange : plainFor y_AR_copyOfRange = true ∧ (y_AR_copyOfRange.cls ≠ "java/lang/invoke/MethodHandle" ∧ y_AR_copyOfRange.cls ≠ "java/lang/invoke/VarHandle") ∧ (parseMethodDescriptor y_AR_copyOfRange.desc).map (fun d => d.parameters.length) = some 3 := by decide +kernel
theorem s_AR_copyOfRange : Cond.static y_AR_copyOfRange ∈ xT := xin 466 (by decide +kernel) (by decide +kernel)
theorem in_AR_copyOfRange : Cond.initialized y_AR_copyOfRange.cls ∈ xT := xin 21 (by decide +kernel) (by decide +kernel)
theorem d_AR_copyOfRange_0 : decode b_AR_copyOfRange 0 = .ok (.iload_n 1, 1) := by decide +kernel
theorem d_AR_copyOfRange_1 : decode b_AR_copyOfRange 1 = .ok (.ifCond .ne 9, 3) := by decide +kernel
theorem d_AR_copyOfRange_4 : decode b_AR_copyOfRange 4 = .ok (.iload_n 2, 1) := by decide +kernel
theorem d_AR_copyOfRange_5 : decode b_AR_copyOfRange 5 = .ok (.aload_n 0, 1) := by decide +kernel
theorem d_AR_copyOfRange_6 : decode b_AR_copyOfRange 6 = .ok (.arraylength, 1) := by decide +kernel
theorem d_AR_copyOfRange_7 : decode b_AR_copyOfRange 7 = .ok (.if_icmp .eq 10, 3) := by decide +kernel
theorem d_AR_copyOfRange_10 : decode b_AR_copyOfRange 10 = .ok (.aload_n 0, 1) := by decide +kernel
theorem d_AR_copyOfRange_11 : decode b_AR_copyOfRange 11 = .ok (.iload_n 1, 1) := by decide +kernel
theorem d_AR_copyOfRange_12 : decode b_AR_copyOfRange 12 = .ok (.iload_n 2, 1) := by decide +kernel
theorem d_AR_copyOfRange_13 : decode b_AR_copyOfRange 13 = .ok (.invokestatic 339, 3) := by decide +kernel
theorem q_468 : Cond.methodLink "java/util/Arrays" 339 ⟨"java/util/Arrays", "copyOfRangeByte", "([BII)[B"⟩ ∈ xT := xin 468 (by decide +kernel) (by decide +kernel)
theorem d_AR_copyOfRange_16 : decode b_AR_copyOfRange 16 = .ok (.areturn, 1) := by decide +kernel
theorem d_AR_copyOfRange_17 : decode b_AR_copyOfRange 17 = .ok (.aload_n 0, 1) := by decide +kernel
theorem d_AR_copyOfRange_18 : decode b_AR_copyOfRange 18 = .ok (.invokevirtual 310, 3) := by decide +kernel
theorem d_AR_copyOfRange_21 : decode b_AR_copyOfRange 21 = .ok (.checkcast 311, 3) := by decide +kernel
theorem d_AR_copyOfRange_24 : decode b_AR_copyOfRange 24 = .ok (.areturn, 1) := by decide +kernel
abbrev b_AR_copyOfRangeByte : ByteArray := prog_29_method_133_code
def y_AR_copyOfRangeByte : MethodName := ⟨"java/util/Arrays", "copyOfRangeByte", "([BII)[B"⟩
theorem kc_AR_copyOfRangeByte : Cond.code y_AR_copyOfRangeByte b_AR_copyOfRangeByte 5 (some (.array .byte)) ∈ xT := xin 470 (by decide +kernel) (by decide +kernel)
theorem k_AR_copyOfRangeByte : xCode y_AR_copyOfRangeByte b_AR_copyOfRangeByte 5 (some (.array .byte)) [] := Or.inl ⟨rfl, kc_AR_copyOfRangeByte⟩
theorem h_AR_copyOfRangeByte : plainFor y_AR_copyOfRangeByte = true ∧ (y_AR_copyOfRangeByte.cls ≠ "java/lang/invoke/MethodHandle" ∧ y_AR_copyOfRangeByte.cls ≠ "java/lang/invoke/VarHandle") ∧ (parseMethodDescriptor y_AR_copyOfRangeByte.desc).map (fun d => d.parameters.length) = some 3 := by decide +kernel
theorem s_AR_copyOfRangeByte : Cond.static y_AR_copyOfRangeByte ∈ xT := xin 469 (by decide +kernel) (by decide +kernel)
theorem in_AR_copyOfRangeByte : Cond.initialized y_AR_copyOfRangeByte.cls ∈ xT := xin 21 (by decide +kernel) (by decide +kernel)
theorem d_AR_copyOfRangeByte_0 : decode b_AR_copyOfRangeByte 0 = .ok (.iload_n 1, 1) := by decide +kernel
theorem d_AR_copyOfRangeByte_1 : decode b_AR_copyOfRangeByte 1 = .ok (.iload_n 2, 1) := by decide +kernel
theorem d_AR_copyOfRangeByte_2 : decode b_AR_copyOfRangeByte 2 = .ok (.invokestatic 343, 3) := by decide +kernel
theorem q_471 : Cond.methodLink "java/util/Arrays" 343 ⟨"java/util/Arrays", "checkLength", "(II)V"⟩ ∈ xT := xin 471 (by decide +kernel) (by decide +kernel)
theorem d_AR_copyOfRangeByte_5 : decode b_AR_copyOfRangeByte 5 = .ok (.iload_n 2, 1) := by decide +kernel
theorem d_AR_copyOfRangeByte_6 : decode b_AR_copyOfRangeByte 6 = .ok (.iload_n 1, 1) := by decide +kernel
theorem d_AR_copyOfRangeByte_7 : decode b_AR_copyOfRangeByte 7 = .ok (.isub, 1) := by decide +kernel
theorem d_AR_copyOfRangeByte_8 : decode b_AR_copyOfRangeByte 8 = .ok (.istore_n 3, 1) := by decide +kernel
theorem d_AR_copyOfRangeByte_9 : decode b_AR_copyOfRangeByte 9 = .ok (.iload_n 3, 1) := by decide +kernel
theorem d_AR_copyOfRangeByte_10 : decode b_AR_copyOfRangeByte 10 = .ok (.newarray .byte, 2) := by decide +kernel
theorem d_AR_copyOfRangeByte_12 : decode b_AR_copyOfRangeByte 12 = .ok (.astore 4, 2) := by decide +kernel
theorem d_AR_copyOfRangeByte_14 : decode b_AR_copyOfRangeByte 14 = .ok (.aload_n 0, 1) := by decide +kernel
theorem d_AR_copyOfRangeByte_15 : decode b_AR_copyOfRangeByte 15 = .ok (.iload_n 1, 1) := by decide +kernel
theorem d_AR_copyOfRangeByte_16 : decode b_AR_copyOfRangeByte 16 = .ok (.aload 4, 2) := by decide +kernel
theorem d_AR_copyOfRangeByte_18 : decode b_AR_copyOfRangeByte 18 = .ok (.iconst 0, 1) := by decide +kernel
theorem d_AR_copyOfRangeByte_19 : decode b_AR_copyOfRangeByte 19 = .ok (.aload_n 0, 1) := by decide +kernel
theorem d_AR_copyOfRangeByte_20 : decode b_AR_copyOfRangeByte 20 = .ok (.arraylength, 1) := by decide +kernel
theorem d_AR_copyOfRangeByte_21 : decode b_AR_copyOfRangeByte 21 = .ok (.iload_n 1, 1) := by decide +kernel
theorem d_AR_copyOfRangeByte_22 : decode b_AR_copyOfRangeByte 22 = .ok (.isub, 1) := by decide +kernel
theorem d_AR_copyOfRangeByte_23 : decode b_AR_copyOfRangeByte 23 = .ok (.iload_n 3, 1) := by decide +kernel
theorem d_AR_copyOfRangeByte_24 : decode b_AR_copyOfRangeByte 24 = .ok (.invokestatic 304, 3) := by decide +kernel
theorem d_AR_copyOfRangeByte_27 : decode b_AR_copyOfRangeByte 27 = .ok (.invokestatic 150, 3) := by decide +kernel
theorem d_AR_copyOfRangeByte_30 : decode b_AR_copyOfRangeByte 30 = .ok (.aload 4, 2) := by decide +kernel
theorem d_AR_copyOfRangeByte_32 : decode b_AR_copyOfRangeByte 32 = .ok (.areturn, 1) := by decide +kernel
abbrev b_AR_checkLength : ByteArray := prog_29_method_131_code
def y_AR_checkLength : MethodName := ⟨"java/util/Arrays", "checkLength", "(II)V"⟩
theorem kc_AR_checkLength : Cond.code y_AR_checkLength b_AR_checkLength 2 none ∈ xT := xin 473 (by decide +kernel) (by decide +kernel)
theorem k_AR_checkLength : xCode y_AR_checkLength b_AR_checkLength 2 none [] := Or.inl ⟨rfl, kc_AR_checkLength⟩
theorem h_AR_checkLength : plainFor y_AR_checkLength = true ∧ (y_AR_checkLength.cls ≠ "java/lang/invoke/MethodHandle" ∧ y_AR_checkLength.cls ≠ "java/lang/invoke/VarHandle") ∧ (parseMethodDescriptor y_AR_checkLength.desc).map (fun d => d.parameters.length) = some 2 := by decide +kernel
theorem s_AR_checkLength : Cond.static y_AR_checkLength ∈ xT := xin 472 (by decide +kernel) (by decide +kernel)
theorem in_AR_checkLength : Cond.initialized y_AR_checkLength.cls ∈ xT := xin 21 (by decide +kernel) (by decide +kernel)
theorem d_AR_checkLength_0 : decode b_AR_checkLength 0 = .ok (.iload_n 1, 1) := by decide +kernel
theorem d_AR_checkLength_1 : decode b_AR_checkLength 1 = .ok (.iload_n 0, 1) := by decide +kernel
theorem d_AR_checkLength_2 : decode b_AR_checkLength 2 = .ok (.if_icmp .ge 35, 3) := by decide +kernel
theorem d_AR_checkLength_5 : decode b_AR_checkLength 5 = .ok (.new 43, 3) := by decide +kernel
theorem q_474 : Cond.classLink "java/util/Arrays" 43 "java/lang/IllegalArgumentException" ∈ xT := xin 474 (by decide +kernel) (by decide +kernel)
theorem d_AR_checkLength_8 : decode b_AR_checkLength 8 = .ok (.dup, 1) := by decide +kernel
theorem d_AR_checkLength_9 : decode b_AR_checkLength 9 = .ok (.new 45, 3) := by decide +kernel
theorem q_475 : Cond.classLink "java/util/Arrays" 45 "java/lang/StringBuilder" ∈ xT := xin 475 (by decide +kernel) (by decide +kernel)
theorem d_AR_checkLength_12 : decode b_AR_checkLength 12 = .ok (.dup, 1) := by decide +kernel
theorem d_AR_checkLength_13 : decode b_AR_checkLength 13 = .ok (.invokespecial 47, 3) := by decide +kernel
theorem q_477 : Cond.methodLink "java/util/Arrays" 47 ⟨"java/lang/StringBuilder", "<init>", "()V"⟩ ∈ xT := xin 477 (by decide +kernel) (by decide +kernel)
theorem d_AR_checkLength_16 : decode b_AR_checkLength 16 = .ok (.iload_n 0, 1) := by decide +kernel
theorem d_AR_checkLength_17 : decode b_AR_checkLength 17 = .ok (.invokevirtual 54, 3) := by decide +kernel
theorem q_506 : Cond.methodLink "java/util/Arrays" 54 ⟨"java/lang/StringBuilder", "append", "(I)Ljava/lang/StringBuilder;"⟩ ∈ xT := xin 506 (by decide +kernel) (by decide +kernel)
theorem d_AR_checkLength_20 : decode b_AR_checkLength 20 = .ok (.ldc_w 337, 3) := by decide +kernel
theorem d_AR_checkLength_23 : decode b_AR_checkLength 23 = .ok (.invokevirtual 50, 3) := by decide +kernel
theorem q_571 : Cond.methodLink "java/util/Arrays" 50 ⟨"java/lang/StringBuilder", "append", "(Ljava/lang/String;)Ljava/lang/StringBuilder;"⟩ ∈ xT := xin 571 (by decide +kernel) (by decide +kernel)
theorem d_AR_checkLength_26 : decode b_AR_checkLength 26 = .ok (.iload_n 1, 1) := by decide +kernel
theorem d_AR_checkLength_27 : decode b_AR_checkLength 27 = .ok (.invokevirtual 54, 3) := by decide +kernel
theorem d_AR_checkLength_30 : decode b_AR_checkLength 30 = .ok (.invokevirtual 61, 3) := by decide +kernel
theorem q_628 : Cond.methodLink "java/util/Arrays" 61 ⟨"java/lang/StringBuilder", "toString", "()Ljava/lang/String;"⟩ ∈ xT := xin 628 (by decide +kernel) (by decide +kernel)
theorem d_AR_checkLength_33 : decode b_AR_checkLength 33 = .ok (.invokespecial 65, 3) := by decide +kernel
theorem q_680 : Cond.methodLink "java/util/Arrays" 65 ⟨"java/lang/IllegalArgumentException", "<init>", "(Ljava/lang/String;)V"⟩ ∈ xT := xin 680 (by decide +kernel) (by decide +kernel)
theorem d_AR_checkLength_36 : decode b_AR_checkLength 36 = .ok (.athrow, 1) := by decide +kernel
theorem d_AR_checkLength_37 : decode b_AR_checkLength 37 = .ok (.return_, 1) := by decide +kernel
abbrev b_PC_checkFromToIndex : ByteArray := prog_36_method_12_code
def y_PC_checkFromToIndex : MethodName := ⟨"jdk/internal/util/Preconditions", "checkFromToIndex", "(IIILjava/util/function/BiFunction;)I"⟩
theorem kc_PC_checkFromToIndex : Cond.code y_PC_checkFromToIndex b_PC_checkFromToIndex 4 (some .int) ∈ xT := xin 555 (by decide +kernel) (by decide +kernel)
theorem k_PC_checkFromToIndex : xCode y_PC_checkFromToIndex b_PC_checkFromToIndex 4 (some .int) [] := Or.inl ⟨rfl, kc_PC_checkFromToIndex⟩
theorem h_PC_checkFromToIndex : plainFor y_PC_checkFromToIndex = true ∧ (y_PC_checkFromToIndex.cls ≠ "java/lang/invoke/MethodHandle" ∧ y_PC_checkFromToIndex.cls ≠ "java/lang/invoke/VarHandle") ∧ (parseMethodDescriptor y_PC_checkFromToIndex.desc).map (fun d => d.parameters.length) = some 4 := by decide +kernel
theorem s_PC_checkFromToIndex : Cond.static y_PC_checkFromToIndex ∈ xT := xin 554 (by decide +kernel) (by decide +kernel)
theorem in_PC_checkFromToIndex : Cond.initialized y_PC_checkFromToIndex.cls ∈ xT := xin 16 (by decide +kernel) (by decide +kernel)
theorem d_PC_checkFromToIndex_0 : decode b_PC_checkFromToIndex 0 = .ok (.iload_n 0, 1) := by decide +kernel
theorem d_PC_checkFromToIndex_1 : decode b_PC_checkFromToIndex 1 = .ok (.ifCond .lt 13, 3) := by decide +kernel
theorem d_PC_checkFromToIndex_4 : decode b_PC_checkFromToIndex 4 = .ok (.iload_n 0, 1) := by decide +kernel
theorem d_PC_checkFromToIndex_5 : decode b_PC_checkFromToIndex 5 = .ok (.iload_n 1, 1) := by decide +kernel
theorem d_PC_checkFromToIndex_6 : decode b_PC_checkFromToIndex 6 = .ok (.if_icmp .gt 8, 3) := by decide +kernel
theorem d_PC_checkFromToIndex_9 : decode b_PC_checkFromToIndex 9 = .ok (.iload_n 1, 1) := by decide +kernel
theorem d_PC_checkFromToIndex_10 : decode b_PC_checkFromToIndex 10 = .ok (.iload_n 2, 1) := by decide +kernel
theorem d_PC_checkFromToIndex_11 : decode b_PC_checkFromToIndex 11 = .ok (.if_icmp .le 11, 3) := by decide +kernel
theorem d_PC_checkFromToIndex_14 : decode b_PC_checkFromToIndex 14 = .ok (.aload_n 3, 1) := by decide +kernel
theorem d_PC_checkFromToIndex_15 : decode b_PC_checkFromToIndex 15 = .ok (.iload_n 0, 1) := by decide +kernel
theorem d_PC_checkFromToIndex_16 : decode b_PC_checkFromToIndex 16 = .ok (.iload_n 1, 1) := by decide +kernel
theorem d_PC_checkFromToIndex_17 : decode b_PC_checkFromToIndex 17 = .ok (.iload_n 2, 1) := by decide +kernel
theorem d_PC_checkFromToIndex_18 : decode b_PC_checkFromToIndex 18 = .ok (.invokestatic 99, 3) := by decide +kernel
theorem d_PC_checkFromToIndex_21 : decode b_PC_checkFromToIndex 21 = .ok (.athrow, 1) := by decide +kernel
theorem d_PC_checkFromToIndex_22 : decode b_PC_checkFromToIndex 22 = .ok (.iload_n 0, 1) := by decide +kernel
theorem d_PC_checkFromToIndex_23 : decode b_PC_checkFromToIndex 23 = .ok (.ireturn, 1) := by decide +kernel
abbrev b_PC_checkFromIndexSize : ByteArray := prog_36_method_13_code
def y_PC_checkFromIndexSize : MethodName := ⟨"jdk/internal/util/Preconditions", "checkFromIndexSize", "(IIILjava/util/function/BiFunction;)I"⟩
theorem kc_PC_checkFromIndexSize : Cond.code y_PC_checkFromIndexSize b_PC_checkFromIndexSize 4 (some .int) ∈ xT := xin 621 (by decide +kernel) (by decide +kernel)
theorem k_PC_checkFromIndexSize : xCode y_PC_checkFromIndexSize b_PC_checkFromIndexSize 4 (some .int) [] := Or.inl ⟨rfl, kc_PC_checkFromIndexSize⟩
theorem h_PC_checkFromIndexSize : plainFor y_PC_checkFromIndexSize = true ∧ (y_PC_checkFromIndexSize.cls ≠ "java/lang/invoke/MethodHandle" ∧ y_PC_checkFromIndexSize.cls ≠ "java/lang/invoke/VarHandle") ∧ (parseMethodDescriptor y_PC_checkFromIndexSize.desc).map (fun d => d.parameters.length) = some 4 := by decide +kernel
theorem s_PC_checkFromIndexSize : Cond.static y_PC_checkFromIndexSize ∈ xT := xin 620 (by decide +kernel) (by decide +kernel)
theorem in_PC_checkFromIndexSize : Cond.initialized y_PC_checkFromIndexSize.cls ∈ xT := xin 16 (by decide +kernel) (by decide +kernel)
theorem d_PC_checkFromIndexSize_0 : decode b_PC_checkFromIndexSize 0 = .ok (.iload_n 2, 1) := by decide +kernel
theorem d_PC_checkFromIndexSize_1 : decode b_PC_checkFromIndexSize 1 = .ok (.iload_n 0, 1) := by decide +kernel
theorem d_PC_checkFromIndexSize_2 : decode b_PC_checkFromIndexSize 2 = .ok (.ior, 1) := by decide +kernel
theorem d_PC_checkFromIndexSize_3 : decode b_PC_checkFromIndexSize 3 = .ok (.iload_n 1, 1) := by decide +kernel
theorem d_PC_checkFromIndexSize_4 : decode b_PC_checkFromIndexSize 4 = .ok (.ior, 1) := by decide +kernel
theorem d_PC_checkFromIndexSize_5 : decode b_PC_checkFromIndexSize 5 = .ok (.ifCond .lt 10, 3) := by decide +kernel
theorem d_PC_checkFromIndexSize_8 : decode b_PC_checkFromIndexSize 8 = .ok (.iload_n 1, 1) := by decide +kernel
theorem d_PC_checkFromIndexSize_9 : decode b_PC_checkFromIndexSize 9 = .ok (.iload_n 2, 1) := by decide +kernel
theorem d_PC_checkFromIndexSize_10 : decode b_PC_checkFromIndexSize 10 = .ok (.iload_n 0, 1) := by decide +kernel
theorem d_PC_checkFromIndexSize_11 : decode b_PC_checkFromIndexSize 11 = .ok (.isub, 1) := by decide +kernel
theorem d_PC_checkFromIndexSize_12 : decode b_PC_checkFromIndexSize 12 = .ok (.if_icmp .le 11, 3) := by decide +kernel
theorem d_PC_checkFromIndexSize_15 : decode b_PC_checkFromIndexSize 15 = .ok (.aload_n 3, 1) := by decide +kernel
theorem d_PC_checkFromIndexSize_16 : decode b_PC_checkFromIndexSize 16 = .ok (.iload_n 0, 1) := by decide +kernel
theorem d_PC_checkFromIndexSize_17 : decode b_PC_checkFromIndexSize 17 = .ok (.iload_n 1, 1) := by decide +kernel
theorem d_PC_checkFromIndexSize_18 : decode b_PC_checkFromIndexSize 18 = .ok (.iload_n 2, 1) := by decide +kernel
theorem d_PC_checkFromIndexSize_19 : decode b_PC_checkFromIndexSize 19 = .ok (.invokestatic 103, 3) := by decide +kernel
theorem d_PC_checkFromIndexSize_22 : decode b_PC_checkFromIndexSize 22 = .ok (.athrow, 1) := by decide +kernel
theorem d_PC_checkFromIndexSize_23 : decode b_PC_checkFromIndexSize 23 = .ok (.iload_n 0, 1) := by decide +kernel
theorem d_PC_checkFromIndexSize_24 : decode b_PC_checkFromIndexSize 24 = .ok (.ireturn, 1) := by decide +kernel
abbrev b_AL_add2 : ByteArray := prog_28_method_26_code
def y_AL_add2 : MethodName := ⟨"java/util/ArrayList", "add", "(ILjava/lang/Object;)V"⟩
theorem kc_AL_add2 : Cond.code y_AL_add2 b_AL_add2 5 none ∈ xT := xin 733 (by decide +kernel) (by decide +kernel)
theorem k_AL_add2 : xCode y_AL_add2 b_AL_add2 5 none [] := Or.inl ⟨rfl, kc_AL_add2⟩
theorem h_AL_add2 : plainFor y_AL_add2 = true ∧ (y_AL_add2.cls ≠ "java/lang/invoke/MethodHandle" ∧ y_AL_add2.cls ≠ "java/lang/invoke/VarHandle") ∧ (parseMethodDescriptor y_AL_add2.desc).map (fun d => d.parameters.length) = some 2 := by decide +kernel
theorem v_AL_add2 : Cond.instanceMethod y_AL_add2 ∈ xT := xin 731 (by decide +kernel) (by decide +kernel)
theorem e_AL_add2 : Cond.selects "java/util/ArrayList" y_AL_add2 y_AL_add2 ∈ xT := xin 732 (by decide +kernel) (by decide +kernel)
theorem d_AL_add2_0 : decode b_AL_add2 0 = .ok (.aload_n 0, 1) := by decide +kernel
theorem d_AL_add2_1 : decode b_AL_add2 1 = .ok (.iload_n 1, 1) := by decide +kernel
theorem d_AL_add2_2 : decode b_AL_add2 2 = .ok (.invokevirtual 135, 3) := by decide +kernel
theorem q_734 : Cond.methodLink "java/util/ArrayList" 135 ⟨"java/util/ArrayList", "rangeCheckForAdd", "(I)V"⟩ ∈ xT := xin 734 (by decide +kernel) (by decide +kernel)
theorem d_AL_add2_5 : decode b_AL_add2 5 = .ok (.aload_n 0, 1) := by decide +kernel
theorem d_AL_add2_6 : decode b_AL_add2 6 = .ok (.dup, 1) := by decide +kernel
theorem d_AL_add2_7 : decode b_AL_add2 7 = .ok (.getfield 63, 3) := by decide +kernel
theorem d_AL_add2_10 : decode b_AL_add2 10 = .ok (.iconst 1, 1) := by decide +kernel
theorem d_AL_add2_11 : decode b_AL_add2 11 = .ok (.iadd, 1) := by decide +kernel
theorem d_AL_add2_12 : decode b_AL_add2 12 = .ok (.putfield 63, 3) := by decide +kernel
theorem d_AL_add2_15 : decode b_AL_add2 15 = .ok (.aload_n 0, 1) := by decide +kernel
theorem d_AL_add2_16 : decode b_AL_add2 16 = .ok (.getfield 48, 3) := by decide +kernel
theorem d_AL_add2_19 : decode b_AL_add2 19 = .ok (.dup, 1) := by decide +kernel
theorem d_AL_add2_20 : decode b_AL_add2 20 = .ok (.istore_n 3, 1) := by decide +kernel
theorem d_AL_add2_21 : decode b_AL_add2 21 = .ok (.aload_n 0, 1) := by decide +kernel
theorem d_AL_add2_22 : decode b_AL_add2 22 = .ok (.getfield 9, 3) := by decide +kernel
theorem d_AL_add2_25 : decode b_AL_add2 25 = .ok (.dup, 1) := by decide +kernel
theorem d_AL_add2_26 : decode b_AL_add2 26 = .ok (.astore 4, 2) := by decide +kernel
theorem d_AL_add2_28 : decode b_AL_add2 28 = .ok (.arraylength, 1) := by decide +kernel
theorem d_AL_add2_29 : decode b_AL_add2 29 = .ok (.if_icmp .ne 9, 3) := by decide +kernel
theorem d_AL_add2_32 : decode b_AL_add2 32 = .ok (.aload_n 0, 1) := by decide +kernel
theorem d_AL_add2_33 : decode b_AL_add2 33 = .ok (.invokevirtual 129, 3) := by decide +kernel
theorem d_AL_add2_36 : decode b_AL_add2 36 = .ok (.astore 4, 2) := by decide +kernel
theorem d_AL_add2_38 : decode b_AL_add2 38 = .ok (.aload 4, 2) := by decide +kernel
theorem d_AL_add2_40 : decode b_AL_add2 40 = .ok (.iload_n 1, 1) := by decide +kernel
theorem d_AL_add2_41 : decode b_AL_add2 41 = .ok (.aload 4, 2) := by decide +kernel
theorem d_AL_add2_43 : decode b_AL_add2 43 = .ok (.iload_n 1, 1) := by decide +kernel
theorem d_AL_add2_44 : decode b_AL_add2 44 = .ok (.iconst 1, 1) := by decide +kernel
theorem d_AL_add2_45 : decode b_AL_add2 45 = .ok (.iadd, 1) := by decide +kernel
theorem d_AL_add2_46 : decode b_AL_add2 46 = .ok (.iload_n 3, 1) := by decide +kernel
theorem d_AL_add2_47 : decode b_AL_add2 47 = .ok (.iload_n 1, 1) := by decide +kernel
theorem d_AL_add2_48 : decode b_AL_add2 48 = .ok (.isub, 1) := by decide +kernel
theorem d_AL_add2_49 : decode b_AL_add2 49 = .ok (.invokestatic 112, 3) := by decide +kernel
theorem d_AL_add2_52 : decode b_AL_add2 52 = .ok (.aload 4, 2) := by decide +kernel
theorem d_AL_add2_54 : decode b_AL_add2 54 = .ok (.iload_n 1, 1) := by decide +kernel
theorem d_AL_add2_55 : decode b_AL_add2 55 = .ok (.aload_n 2, 1) := by decide +kernel
theorem d_AL_add2_56 : decode b_AL_add2 56 = .ok (.aastore, 1) := by decide +kernel
theorem d_AL_add2_57 : decode b_AL_add2 57 = .ok (.aload_n 0, 1) := by decide +kernel
theorem d_AL_add2_58 : decode b_AL_add2 58 = .ok (.iload_n 3, 1) := by decide +kernel
theorem d_AL_add2_59 : decode b_AL_add2 59 = .ok (.iconst 1, 1) := by decide +kernel
theorem d_AL_add2_60 : decode b_AL_add2 60 = .ok (.iadd, 1) := by decide +kernel
theorem d_AL_add2_61 : decode b_AL_add2 61 = .ok (.putfield 48, 3) := by decide +kernel
theorem d_AL_add2_64 : decode b_AL_add2 64 = .ok (.return_, 1) := by decide +kernel
abbrev b_AL_rangeCheckForAdd : ByteArray := prog_28_method_45_code
def y_AL_rangeCheckForAdd : MethodName := ⟨"java/util/ArrayList", "rangeCheckForAdd", "(I)V"⟩
theorem kc_AL_rangeCheckForAdd : Cond.code y_AL_rangeCheckForAdd b_AL_rangeCheckForAdd 2 none ∈ xT := xin 737 (by decide +kernel) (by decide +kernel)
theorem k_AL_rangeCheckForAdd : xCode y_AL_rangeCheckForAdd b_AL_rangeCheckForAdd 2 none [] := Or.inl ⟨rfl, kc_AL_rangeCheckForAdd⟩
theorem h_AL_rangeCheckForAdd : plainFor y_AL_rangeCheckForAdd = true ∧ (y_AL_rangeCheckForAdd.cls ≠ "java/lang/invoke/MethodHandle" ∧ y_AL_rangeCheckForAdd.cls ≠ "java/lang/invoke/VarHandle") ∧ (parseMethodDescriptor y_AL_rangeCheckForAdd.desc).map (fun d => d.parameters.length) = some 1 := by decide +kernel
theorem v_AL_rangeCheckForAdd : Cond.instanceMethod y_AL_rangeCheckForAdd ∈ xT := xin 736 (by decide +kernel) (by decide +kernel)
theorem e_AL_rangeCheckForAdd : Cond.selects "java/util/ArrayList" y_AL_rangeCheckForAdd y_AL_rangeCheckForAdd ∈ xT := xinp 12 (by decide +kernel) (by decide +kernel)
theorem d_AL_rangeCheckForAdd_0 : decode b_AL_rangeCheckForAdd 0 = .ok (.iload_n 1, 1) := by decide +kernel
theorem d_AL_rangeCheckForAdd_1 : decode b_AL_rangeCheckForAdd 1 = .ok (.aload_n 0, 1) := by decide +kernel
theorem d_AL_rangeCheckForAdd_2 : decode b_AL_rangeCheckForAdd 2 = .ok (.getfield 48, 3) := by decide +kernel
theorem d_AL_rangeCheckForAdd_5 : decode b_AL_rangeCheckForAdd 5 = .ok (.if_icmp .gt 7, 3) := by decide +kernel
theorem d_AL_rangeCheckForAdd_8 : decode b_AL_rangeCheckForAdd 8 = .ok (.iload_n 1, 1) := by decide +kernel
theorem d_AL_rangeCheckForAdd_9 : decode b_AL_rangeCheckForAdd 9 = .ok (.ifCond .ge 16, 3) := by decide +kernel
theorem d_AL_rangeCheckForAdd_12 : decode b_AL_rangeCheckForAdd 12 = .ok (.new 187, 3) := by decide +kernel
theorem q_738 : Cond.classLink "java/util/ArrayList" 187 "java/lang/IndexOutOfBoundsException" ∈ xT := xin 738 (by decide +kernel) (by decide +kernel)
theorem d_AL_rangeCheckForAdd_15 : decode b_AL_rangeCheckForAdd 15 = .ok (.dup, 1) := by decide +kernel
theorem d_AL_rangeCheckForAdd_16 : decode b_AL_rangeCheckForAdd 16 = .ok (.aload_n 0, 1) := by decide +kernel
theorem d_AL_rangeCheckForAdd_17 : decode b_AL_rangeCheckForAdd 17 = .ok (.iload_n 1, 1) := by decide +kernel
theorem d_AL_rangeCheckForAdd_18 : decode b_AL_rangeCheckForAdd 18 = .ok (.invokevirtual 198, 3) := by decide +kernel
theorem q_739 : Cond.methodLink "java/util/ArrayList" 198 ⟨"java/util/ArrayList", "outOfBoundsMsg", "(I)Ljava/lang/String;"⟩ ∈ xT := xin 739 (by decide +kernel) (by decide +kernel)
theorem d_AL_rangeCheckForAdd_21 : decode b_AL_rangeCheckForAdd 21 = .ok (.invokespecial 193, 3) := by decide +kernel
theorem q_750 : Cond.methodLink "java/util/ArrayList" 193 ⟨"java/lang/IndexOutOfBoundsException", "<init>", "(Ljava/lang/String;)V"⟩ ∈ xT := xin 750 (by decide +kernel) (by decide +kernel)
theorem d_AL_rangeCheckForAdd_24 : decode b_AL_rangeCheckForAdd 24 = .ok (.athrow, 1) := by decide +kernel
theorem d_AL_rangeCheckForAdd_25 : decode b_AL_rangeCheckForAdd 25 = .ok (.return_, 1) := by decide +kernel
abbrev b_AL_outOfBoundsMsg : ByteArray := prog_28_method_46_code
def y_AL_outOfBoundsMsg : MethodName := ⟨"java/util/ArrayList", "outOfBoundsMsg", "(I)Ljava/lang/String;"⟩
theorem kc_AL_outOfBoundsMsg : Cond.code y_AL_outOfBoundsMsg b_AL_outOfBoundsMsg 2 (some (.object "java/lang/String")) ∈ xT := xin 742 (by decide +kernel) (by decide +kernel)
theorem k_AL_outOfBoundsMsg : xCode y_AL_outOfBoundsMsg b_AL_outOfBoundsMsg 2 (some (.object "java/lang/String")) [] := Or.inl ⟨rfl, kc_AL_outOfBoundsMsg⟩
theorem h_AL_outOfBoundsMsg : plainFor y_AL_outOfBoundsMsg = true ∧ (y_AL_outOfBoundsMsg.cls ≠ "java/lang/invoke/MethodHandle" ∧ y_AL_outOfBoundsMsg.cls ≠ "java/lang/invoke/VarHandle") ∧ (parseMethodDescriptor y_AL_outOfBoundsMsg.desc).map (fun d => d.parameters.length) = some 1 := by decide +kernel
theorem v_AL_outOfBoundsMsg : Cond.instanceMethod y_AL_outOfBoundsMsg ∈ xT := xin 741 (by decide +kernel) (by decide +kernel)
theorem e_AL_outOfBoundsMsg : Cond.selects "java/util/ArrayList" y_AL_outOfBoundsMsg y_AL_outOfBoundsMsg ∈ xT := xinp 13 (by decide +kernel) (by decide +kernel)
theorem d_AL_outOfBoundsMsg_0 : decode b_AL_outOfBoundsMsg 0 = .ok (.new 20, 3) := by decide +kernel
theorem q_743 : Cond.classLink "java/util/ArrayList" 20 "java/lang/StringBuilder" ∈ xT := xin 743 (by decide +kernel) (by decide +kernel)
theorem d_AL_outOfBoundsMsg_3 : decode b_AL_outOfBoundsMsg 3 = .ok (.dup, 1) := by decide +kernel
theorem d_AL_outOfBoundsMsg_4 : decode b_AL_outOfBoundsMsg 4 = .ok (.invokespecial 22, 3) := by decide +kernel
theorem q_744 : Cond.methodLink "java/util/ArrayList" 22 ⟨"java/lang/StringBuilder", "<init>", "()V"⟩ ∈ xT := xin 744 (by decide +kernel) (by decide +kernel)
theorem d_AL_outOfBoundsMsg_7 : decode b_AL_outOfBoundsMsg 7 = .ok (.ldc 201, 2) := by decide +kernel
theorem d_AL_outOfBoundsMsg_9 : decode b_AL_outOfBoundsMsg 9 = .ok (.invokevirtual 25, 3) := by decide +kernel
theorem q_746 : Cond.methodLink "java/util/ArrayList" 25 ⟨"java/lang/StringBuilder", "append", "(Ljava/lang/String;)Ljava/lang/StringBuilder;"⟩ ∈ xT := xin 746 (by decide +kernel) (by decide +kernel)
theorem d_AL_outOfBoundsMsg_12 : decode b_AL_outOfBoundsMsg 12 = .ok (.iload_n 1, 1) := by decide +kernel
theorem d_AL_outOfBoundsMsg_13 : decode b_AL_outOfBoundsMsg 13 = .ok (.invokevirtual 29, 3) := by decide +kernel
theorem q_747 : Cond.methodLink "java/util/ArrayList" 29 ⟨"java/lang/StringBuilder", "append", "(I)Ljava/lang/StringBuilder;"⟩ ∈ xT := xin 747 (by decide +kernel) (by decide +kernel)
theorem d_AL_outOfBoundsMsg_16 : decode b_AL_outOfBoundsMsg 16 = .ok (.ldc 203, 2) := by decide +kernel
theorem d_AL_outOfBoundsMsg_18 : decode b_AL_outOfBoundsMsg 18 = .ok (.invokevirtual 25, 3) := by decide +kernel
theorem d_AL_outOfBoundsMsg_21 : decode b_AL_outOfBoundsMsg 21 = .ok (.aload_n 0, 1) := by decide +kernel
theorem d_AL_outOfBoundsMsg_22 : decode b_AL_outOfBoundsMsg 22 = .ok (.getfield 48, 3) := by decide +kernel
theorem d_AL_outOfBoundsMsg_25 : decode b_AL_outOfBoundsMsg 25 = .ok (.invokevirtual 29, 3) := by decide +kernel
theorem d_AL_outOfBoundsMsg_28 : decode b_AL_outOfBoundsMsg 28 = .ok (.invokevirtual 32, 3) := by decide +kernel
theorem q_749 : Cond.methodLink "java/util/ArrayList" 32 ⟨"java/lang/StringBuilder", "toString", "()Ljava/lang/String;"⟩ ∈ xT := xin 749 (by decide +kernel) (by decide +kernel)
theorem d_AL_outOfBoundsMsg_31 : decode b_AL_outOfBoundsMsg 31 = .ok (.areturn, 1) := by decide +kernel
abbrev b_AL_clear : ByteArray := prog_28_method_40_code
def y_AL_clear : MethodName := ⟨"java/util/ArrayList", "clear", "()V"⟩
theorem kc_AL_clear : Cond.code y_AL_clear b_AL_clear 4 none ∈ xT := xin 877 (by decide +kernel) (by decide +kernel)
theorem k_AL_clear : xCode y_AL_clear b_AL_clear 4 none [] := Or.inl ⟨rfl, kc_AL_clear⟩
theorem h_AL_clear : plainFor y_AL_clear = true ∧ (y_AL_clear.cls ≠ "java/lang/invoke/MethodHandle" ∧ y_AL_clear.cls ≠ "java/lang/invoke/VarHandle") ∧ (parseMethodDescriptor y_AL_clear.desc).map (fun d => d.parameters.length) = some 0 := by decide +kernel
theorem v_AL_clear : Cond.instanceMethod y_AL_clear ∈ xT := xin 875 (by decide +kernel) (by decide +kernel)
theorem e_AL_clear : Cond.selects "java/util/ArrayList" y_AL_clear y_AL_clear ∈ xT := xin 876 (by decide +kernel) (by decide +kernel)
theorem d_AL_clear_0 : decode b_AL_clear 0 = .ok (.aload_n 0, 1) := by decide +kernel
theorem d_AL_clear_1 : decode b_AL_clear 1 = .ok (.dup, 1) := by decide +kernel
theorem d_AL_clear_2 : decode b_AL_clear 2 = .ok (.getfield 63, 3) := by decide +kernel
theorem d_AL_clear_5 : decode b_AL_clear 5 = .ok (.iconst 1, 1) := by decide +kernel
theorem d_AL_clear_6 : decode b_AL_clear 6 = .ok (.iadd, 1) := by decide +kernel
theorem d_AL_clear_7 : decode b_AL_clear 7 = .ok (.putfield 63, 3) := by decide +kernel
theorem d_AL_clear_10 : decode b_AL_clear 10 = .ok (.aload_n 0, 1) := by decide +kernel
theorem d_AL_clear_11 : decode b_AL_clear 11 = .ok (.getfield 9, 3) := by decide +kernel
theorem d_AL_clear_14 : decode b_AL_clear 14 = .ok (.astore_n 1, 1) := by decide +kernel
theorem d_AL_clear_15 : decode b_AL_clear 15 = .ok (.aload_n 0, 1) := by decide +kernel
theorem d_AL_clear_16 : decode b_AL_clear 16 = .ok (.getfield 48, 3) := by decide +kernel
theorem d_AL_clear_19 : decode b_AL_clear 19 = .ok (.istore_n 2, 1) := by decide +kernel
theorem d_AL_clear_20 : decode b_AL_clear 20 = .ok (.aload_n 0, 1) := by decide +kernel
theorem d_AL_clear_21 : decode b_AL_clear 21 = .ok (.iconst 0, 1) := by decide +kernel
theorem d_AL_clear_22 : decode b_AL_clear 22 = .ok (.dup_x1, 1) := by decide +kernel
theorem d_AL_clear_23 : decode b_AL_clear 23 = .ok (.putfield 48, 3) := by decide +kernel
theorem d_AL_clear_26 : decode b_AL_clear 26 = .ok (.istore_n 3, 1) := by decide +kernel
theorem d_AL_clear_27 : decode b_AL_clear 27 = .ok (.iload_n 3, 1) := by decide +kernel
theorem d_AL_clear_28 : decode b_AL_clear 28 = .ok (.iload_n 2, 1) := by decide +kernel
theorem d_AL_clear_29 : decode b_AL_clear 29 = .ok (.if_icmp .ge 13, 3) := by decide +kernel
theorem d_AL_clear_32 : decode b_AL_clear 32 = .ok (.aload_n 1, 1) := by decide +kernel
theorem d_AL_clear_33 : decode b_AL_clear 33 = .ok (.iload_n 3, 1) := by decide +kernel
theorem d_AL_clear_34 : decode b_AL_clear 34 = .ok (.aconst_null, 1) := by decide +kernel
theorem d_AL_clear_35 : decode b_AL_clear 35 = .ok (.aastore, 1) := by decide +kernel
theorem d_AL_clear_36 : decode b_AL_clear 36 = .ok (.iinc 3 1, 3) := by decide +kernel
theorem d_AL_clear_39 : decode b_AL_clear 39 = .ok (.goto (-12), 3) := by decide +kernel
theorem d_AL_clear_42 : decode b_AL_clear 42 = .ok (.return_, 1) := by decide +kernel
theorem q_61 : Cond.sameField "java/util/ArrayList" "java/util/AbstractList" "modCount" "I" ∈ xT := xin 61 (by decide +kernel) (by decide +kernel)
theorem q_116 : Cond.arrayClass .byte ∈ xT := xin 116 (by decide +kernel) (by decide +kernel)
theorem q_1010 : Cond.arrayClass .int ∈ xT := xin 1010 (by decide +kernel) (by decide +kernel)
theorem q_1011 : Cond.arrayClass .long ∈ xT := xin 1011 (by decide +kernel) (by decide +kernel)
theorem q_354 : Cond.static ⟨"java/lang/Math", "max", "(II)I"⟩ ∈ xT := xin 354 (by decide +kernel) (by decide +kernel)
theorem q_387 : Cond.static ⟨"java/lang/Math", "min", "(II)I"⟩ ∈ xT := xin 387 (by decide +kernel) (by decide +kernel)
theorem q_20 : Cond.initialized "java/lang/Math" ∈ xT := xin 20 (by decide +kernel) (by decide +kernel)
theorem q_303 : Cond.native ⟨"java/lang/System", "arraycopy", "(Ljava/lang/Object;ILjava/lang/Object;II)V"⟩ ∈ xT := xin 303 (by decide +kernel) (by decide +kernel)
theorem q_302 : Cond.static ⟨"java/lang/System", "arraycopy", "(Ljava/lang/Object;ILjava/lang/Object;II)V"⟩ ∈ xT := xin 302 (by decide +kernel) (by decide +kernel)
theorem q_17 : Cond.initialized "java/lang/System" ∈ xT := xin 17 (by decide +kernel) (by decide +kernel)
theorem q_35 : Cond.instanceMethod ⟨"java/lang/Object", "<init>", "()V"⟩ ∈ xT := xin 35 (by decide +kernel) (by decide +kernel)
theorem q_364 : Cond.instanceMethod ⟨"java/lang/Object", "getClass", "()Ljava/lang/Class;"⟩ ∈ xT := xin 364 (by decide +kernel) (by decide +kernel)
theorem q_379 : Cond.native ⟨"java/lang/Object", "getClass", "()Ljava/lang/Class;"⟩ ∈ xT := xin 379 (by decide +kernel) (by decide +kernel)
theorem q_1193 : Cond.declares ⟨"java/lang/Object", "getClass", "()Ljava/lang/Class;"⟩ ∈ xT := xin 1193 (by decide +kernel) (by decide +kernel)
theorem q_1192 : Cond.selects "[Ljava/lang/Object;" ⟨"java/lang/Object", "getClass", "()Ljava/lang/Class;"⟩ ⟨"java/lang/Object", "getClass", "()Ljava/lang/Class;"⟩ ∈ xT := xin 1192 (by decide +kernel) (by decide +kernel)
theorem q_0 : Cond.initialized "TwinKeepersLaw" ∈ xT := xin 0 (by decide +kernel) (by decide +kernel)
theorem q_1 : Cond.initialized "TwinKeepers" ∈ xT := xin 1 (by decide +kernel) (by decide +kernel)
theorem q_2 : Cond.initialized "TwinKeepers$Machine" ∈ xT := xin 2 (by decide +kernel) (by decide +kernel)
theorem q_5 : Cond.initialized "java/util/ArrayList" ∈ xT := xin 5 (by decide +kernel) (by decide +kernel)
theorem q_6 : Cond.initialized "TwinKeepers$KeyMap" ∈ xT := xin 6 (by decide +kernel) (by decide +kernel)
theorem q_7 : Cond.initialized "TwinKeepers$Row" ∈ xT := xin 7 (by decide +kernel) (by decide +kernel)
theorem q_8 : Cond.initialized "TwinKeepersModel" ∈ xT := xin 8 (by decide +kernel) (by decide +kernel)
theorem q_18 : Cond.initialized "TwinKeepers$Session" ∈ xT := xin 18 (by decide +kernel) (by decide +kernel)
theorem q_28 : Cond.initialized "TwinKeepers$Entry" ∈ xT := xin 28 (by decide +kernel) (by decide +kernel)
theorem q_30 : Cond.instantiable "TwinKeepers" 6 ∈ xT := xin 30 (by decide +kernel) (by decide +kernel)
theorem q_36 : Cond.code ⟨"java/lang/Object", "<init>", "()V"⟩ object_method_1_code 1 (none : Option Jvm.ClassFile.FieldType) ∈ xT := xin 36 (by decide +kernel) (by decide +kernel)
theorem q_38 : Cond.instantiable "TwinKeepers$Machine" 3 ∈ xT := xin 38 (by decide +kernel) (by decide +kernel)
theorem q_44 : Cond.instantiable "java/util/ArrayList" 3 ∈ xT := xin 44 (by decide +kernel) (by decide +kernel)
theorem q_70 : Cond.instantiable "TwinKeepers$KeyMap" 2 ∈ xT := xin 70 (by decide +kernel) (by decide +kernel)
theorem q_102 : Cond.instantiable "TwinKeepers$Row" 2 ∈ xT := xin 102 (by decide +kernel) (by decide +kernel)
theorem q_304 : Cond.instantiable "TwinKeepers$Session" 5 ∈ xT := xin 304 (by decide +kernel) (by decide +kernel)
theorem q_355 : Cond.code ⟨"java/lang/Math", "max", "(II)I"⟩ prog_18_method_65_code 2 (some .int) ∈ xT := xin 355 (by decide +kernel) (by decide +kernel)
theorem q_388 : Cond.code ⟨"java/lang/Math", "min", "(II)I"⟩ prog_18_method_69_code 2 (some .int) ∈ xT := xin 388 (by decide +kernel) (by decide +kernel)
theorem q_705 : Cond.instantiable "TwinKeepers$Entry" 2 ∈ xT := xin 705 (by decide +kernel) (by decide +kernel)
theorem q_935 : Cond.instantiable "TwinKeepersModel" 23 ∈ xT := xin 935 (by decide +kernel) (by decide +kernel)
theorem q_1189 : Cond.castable "TwinKeepers$Session" "TwinKeepers$Session" ∈ xT := xin 1189 (by decide +kernel) (by decide +kernel)
theorem q_1190 : Cond.castable "TwinKeepers$Entry" "TwinKeepers$Entry" ∈ xT := xin 1190 (by decide +kernel) (by decide +kernel)
theorem q_1194 : Cond.castable "TwinKeepers" "java/lang/Object" ∈ xT := xin 1194 (by decide +kernel) (by decide +kernel)
theorem q_1195 : Cond.castable "TwinKeepers$Machine" "java/lang/Object" ∈ xT := xin 1195 (by decide +kernel) (by decide +kernel)
theorem q_1196 : Cond.castable "TwinKeepers$KeyMap" "java/lang/Object" ∈ xT := xin 1196 (by decide +kernel) (by decide +kernel)
theorem q_1197 : Cond.castable "TwinKeepers$Row" "java/lang/Object" ∈ xT := xin 1197 (by decide +kernel) (by decide +kernel)
theorem q_1198 : Cond.castable "TwinKeepersModel" "java/lang/Object" ∈ xT := xin 1198 (by decide +kernel) (by decide +kernel)
theorem q_1199 : Cond.castable "TwinKeepers$Session" "java/lang/Object" ∈ xT := xin 1199 (by decide +kernel) (by decide +kernel)
theorem q_1201 : Cond.castable "TwinKeepers$Entry" "java/lang/Object" ∈ xT := xin 1201 (by decide +kernel) (by decide +kernel)
theorem w_max : Cond.static Lib.Math.max.name ∈ xT ∧ Cond.initialized "java/lang/Math" ∈ xT ∧ Cond.code Lib.Math.max.name Lib.Math.max.code 2 (some .int) ∈ xT := ⟨q_354, q_20, xin 355 (by decide +kernel) (by decide +kernel)⟩
theorem w_min : Cond.static Lib.Math.min.name ∈ xT ∧ Cond.initialized "java/lang/Math" ∈ xT ∧ Cond.code Lib.Math.min.name Lib.Math.min.code 2 (some .int) ∈ xT := ⟨q_387, q_20, xin 388 (by decide +kernel) (by decide +kernel)⟩
theorem w_copy : Cond.native arraycopyName ∈ xT ∧ Cond.static arraycopyName ∈ xT ∧ Cond.initialized "java/lang/System" ∈ xT := ⟨q_303, q_302, q_17⟩
theorem w_getC : Cond.declares ⟨"java/lang/Object", "getClass", "()Ljava/lang/Class;"⟩ ∈ xT ∧ Cond.selects "[Ljava/lang/Object;" ⟨"java/lang/Object", "getClass", "()Ljava/lang/Class;"⟩ ⟨"java/lang/Object", "getClass", "()Ljava/lang/Class;"⟩ ∈ xT ∧ Cond.instanceMethod ⟨"java/lang/Object", "getClass", "()Ljava/lang/Class;"⟩ ∈ xT ∧ Cond.native ⟨"java/lang/Object", "getClass", "()Ljava/lang/Class;"⟩ ∈ xT := ⟨q_1193, q_1192, q_364, q_379⟩
theorem w_oi : Cond.instanceMethod objectInit ∈ xT := q_35
theorem w_oc : Cond.code objectInit ⟨#[0xb1]⟩ 1 none ∈ xT := xin 36 (by decide +kernel) (by decide +kernel)
