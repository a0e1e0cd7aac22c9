abbrev b_La_feed : ByteArray := method_3_code
def y_La_feed : MethodName := ⟨"TwinKeepersLaw", "feed", "(LTwinKeepers;JI[J)I"⟩
theorem k_La_feed : xCode y_La_feed b_La_feed 6 (some .int) [(0, 11, 14, 13), (0, 11, 18, 15)] := Or.inr (xin 142 (by decide +kernel) (by decide +kernel))
theorem h_La_feed : plainFor y_La_feed = true ∧ (y_La_feed.cls ≠ "java/lang/invoke/MethodHandle" ∧ y_La_feed.cls ≠ "java/lang/invoke/VarHandle") ∧ (parseMethodDescriptor y_La_feed.desc).map (fun d => d.parameters.length) = some 4 := by decide +kernel
theorem s_La_feed : Cond.static y_La_feed ∈ xT := xin 141 (by decide +kernel) (by decide +kernel)
theorem in_La_feed : Cond.initialized y_La_feed.cls ∈ xT := xin 0 (by decide +kernel) (by decide +kernel)
theorem d_La_feed_0 : decode b_La_feed 0 = .ok (.aload 4, 2) := by decide +kernel
theorem d_La_feed_2 : decode b_La_feed 2 = .ok (.iconst 0, 1) := by decide +kernel
theorem d_La_feed_3 : decode b_La_feed 3 = .ok (.aload_n 0, 1) := by decide +kernel
theorem d_La_feed_4 : decode b_La_feed 4 = .ok (.lload_n 1, 1) := by decide +kernel
theorem d_La_feed_5 : decode b_La_feed 5 = .ok (.iload_n 3, 1) := by decide +kernel
theorem d_La_feed_6 : decode b_La_feed 6 = .ok (.invokevirtual 7, 3) := by decide +kernel
theorem q_145 : Cond.methodLink "TwinKeepersLaw" 7 ⟨"TwinKeepers", "feed", "(JI)I"⟩ ∈ xT := xin 145 (by decide +kernel) (by decide +kernel)
theorem d_La_feed_9 : decode b_La_feed 9 = .ok (.i2l, 1) := by decide +kernel
theorem d_La_feed_10 : decode b_La_feed 10 = .ok (.lastore, 1) := by decide +kernel
theorem d_La_feed_11 : decode b_La_feed 11 = .ok (.goto 11, 3) := by decide +kernel
theorem d_La_feed_14 : decode b_La_feed 14 = .ok (.astore 5, 2) := by decide +kernel
theorem d_La_feed_16 : decode b_La_feed 16 = .ok (.iconst 1, 1) := by decide +kernel
theorem d_La_feed_17 : decode b_La_feed 17 = .ok (.ireturn, 1) := by decide +kernel
theorem d_La_feed_18 : decode b_La_feed 18 = .ok (.astore 5, 2) := by decide +kernel
theorem d_La_feed_20 : decode b_La_feed 20 = .ok (.iconst 2, 1) := by decide +kernel
theorem d_La_feed_21 : decode b_La_feed 21 = .ok (.ireturn, 1) := by decide +kernel
theorem d_La_feed_22 : decode b_La_feed 22 = .ok (.iconst 0, 1) := by decide +kernel
theorem d_La_feed_23 : decode b_La_feed 23 = .ok (.ireturn, 1) := by decide +kernel
abbrev b_La_open : ByteArray := method_4_code
def y_La_open : MethodName := ⟨"TwinKeepersLaw", "open", "(LTwinKeepers;II[J)I"⟩
theorem k_La_open : xCode y_La_open b_La_open 5 (some .int) [(0, 10, 13, 21), (0, 10, 17, 13)] := Or.inr (xin 234 (by decide +kernel) (by decide +kernel))
theorem h_La_open : plainFor y_La_open = true ∧ (y_La_open.cls ≠ "java/lang/invoke/MethodHandle" ∧ y_La_open.cls ≠ "java/lang/invoke/VarHandle") ∧ (parseMethodDescriptor y_La_open.desc).map (fun d => d.parameters.length) = some 4 := by decide +kernel
theorem s_La_open : Cond.static y_La_open ∈ xT := xin 233 (by decide +kernel) (by decide +kernel)
theorem in_La_open : Cond.initialized y_La_open.cls ∈ xT := xin 0 (by decide +kernel) (by decide +kernel)
theorem d_La_open_0 : decode b_La_open 0 = .ok (.aload_n 3, 1) := by decide +kernel
theorem d_La_open_1 : decode b_La_open 1 = .ok (.iconst 0, 1) := by decide +kernel
theorem d_La_open_2 : decode b_La_open 2 = .ok (.aload_n 0, 1) := by decide +kernel
theorem d_La_open_3 : decode b_La_open 3 = .ok (.iload_n 1, 1) := by decide +kernel
theorem d_La_open_4 : decode b_La_open 4 = .ok (.iload_n 2, 1) := by decide +kernel
theorem d_La_open_5 : decode b_La_open 5 = .ok (.invokevirtual 17, 3) := by decide +kernel
theorem q_236 : Cond.methodLink "TwinKeepersLaw" 17 ⟨"TwinKeepers", "open", "(II)I"⟩ ∈ xT := xin 236 (by decide +kernel) (by decide +kernel)
theorem d_La_open_8 : decode b_La_open 8 = .ok (.i2l, 1) := by decide +kernel
theorem d_La_open_9 : decode b_La_open 9 = .ok (.lastore, 1) := by decide +kernel
theorem d_La_open_10 : decode b_La_open 10 = .ok (.goto 11, 3) := by decide +kernel
theorem d_La_open_13 : decode b_La_open 13 = .ok (.astore 4, 2) := by decide +kernel
theorem d_La_open_15 : decode b_La_open 15 = .ok (.iconst 1, 1) := by decide +kernel
theorem d_La_open_16 : decode b_La_open 16 = .ok (.ireturn, 1) := by decide +kernel
theorem d_La_open_17 : decode b_La_open 17 = .ok (.astore 4, 2) := by decide +kernel
theorem d_La_open_19 : decode b_La_open 19 = .ok (.iconst 2, 1) := by decide +kernel
theorem d_La_open_20 : decode b_La_open 20 = .ok (.ireturn, 1) := by decide +kernel
theorem d_La_open_21 : decode b_La_open 21 = .ok (.iconst 0, 1) := by decide +kernel
theorem d_La_open_22 : decode b_La_open 22 = .ok (.ireturn, 1) := by decide +kernel
abbrev b_La_run : ByteArray := method_5_code
def y_La_run : MethodName := ⟨"TwinKeepersLaw", "run", "(LTwinKeepers;IIIII[J)I"⟩
theorem k_La_run : xCode y_La_run b_La_run 8 (some .int) [(0, 16, 19, 21), (0, 16, 23, 13)] := Or.inr (xin 395 (by decide +kernel) (by decide +kernel))
theorem h_La_run : plainFor y_La_run = true ∧ (y_La_run.cls ≠ "java/lang/invoke/MethodHandle" ∧ y_La_run.cls ≠ "java/lang/invoke/VarHandle") ∧ (parseMethodDescriptor y_La_run.desc).map (fun d => d.parameters.length) = some 7 := by decide +kernel
theorem s_La_run : Cond.static y_La_run ∈ xT := xin 394 (by decide +kernel) (by decide +kernel)
theorem in_La_run : Cond.initialized y_La_run.cls ∈ xT := xin 0 (by decide +kernel) (by decide +kernel)
theorem d_La_run_0 : decode b_La_run 0 = .ok (.aload 6, 2) := by decide +kernel
theorem d_La_run_2 : decode b_La_run 2 = .ok (.iconst 0, 1) := by decide +kernel
theorem d_La_run_3 : decode b_La_run 3 = .ok (.aload_n 0, 1) := by decide +kernel
theorem d_La_run_4 : decode b_La_run 4 = .ok (.iload_n 1, 1) := by decide +kernel
theorem d_La_run_5 : decode b_La_run 5 = .ok (.iload_n 2, 1) := by decide +kernel
theorem d_La_run_6 : decode b_La_run 6 = .ok (.iload_n 3, 1) := by decide +kernel
theorem d_La_run_7 : decode b_La_run 7 = .ok (.iload 4, 2) := by decide +kernel
theorem d_La_run_9 : decode b_La_run 9 = .ok (.iload 5, 2) := by decide +kernel
theorem d_La_run_11 : decode b_La_run 11 = .ok (.invokevirtual 23, 3) := by decide +kernel
theorem q_396 : Cond.methodLink "TwinKeepersLaw" 23 ⟨"TwinKeepers", "run", "(IIIII)I"⟩ ∈ xT := xin 396 (by decide +kernel) (by decide +kernel)
theorem d_La_run_14 : decode b_La_run 14 = .ok (.i2l, 1) := by decide +kernel
theorem d_La_run_15 : decode b_La_run 15 = .ok (.lastore, 1) := by decide +kernel
theorem d_La_run_16 : decode b_La_run 16 = .ok (.goto 11, 3) := by decide +kernel
theorem d_La_run_19 : decode b_La_run 19 = .ok (.astore 7, 2) := by decide +kernel
theorem d_La_run_21 : decode b_La_run 21 = .ok (.iconst 1, 1) := by decide +kernel
theorem d_La_run_22 : decode b_La_run 22 = .ok (.ireturn, 1) := by decide +kernel
theorem d_La_run_23 : decode b_La_run 23 = .ok (.astore 7, 2) := by decide +kernel
theorem d_La_run_25 : decode b_La_run 25 = .ok (.iconst 2, 1) := by decide +kernel
theorem d_La_run_26 : decode b_La_run 26 = .ok (.ireturn, 1) := by decide +kernel
theorem d_La_run_27 : decode b_La_run 27 = .ok (.iconst 0, 1) := by decide +kernel
theorem d_La_run_28 : decode b_La_run 28 = .ok (.ireturn, 1) := by decide +kernel
abbrev b_La_read : ByteArray := method_6_code
def y_La_read : MethodName := ⟨"TwinKeepersLaw", "read", "(LTwinKeepers;II[J)I"⟩
theorem k_La_read : xCode y_La_read b_La_read 5 (some .int) [(0, 10, 13, 21), (0, 10, 17, 13)] := Or.inr (xin 783 (by decide +kernel) (by decide +kernel))
theorem h_La_read : plainFor y_La_read = true ∧ (y_La_read.cls ≠ "java/lang/invoke/MethodHandle" ∧ y_La_read.cls ≠ "java/lang/invoke/VarHandle") ∧ (parseMethodDescriptor y_La_read.desc).map (fun d => d.parameters.length) = some 4 := by decide +kernel
theorem s_La_read : Cond.static y_La_read ∈ xT := xin 782 (by decide +kernel) (by decide +kernel)
theorem in_La_read : Cond.initialized y_La_read.cls ∈ xT := xin 0 (by decide +kernel) (by decide +kernel)
theorem d_La_read_0 : decode b_La_read 0 = .ok (.aload_n 3, 1) := by decide +kernel
theorem d_La_read_1 : decode b_La_read 1 = .ok (.iconst 0, 1) := by decide +kernel
theorem d_La_read_2 : decode b_La_read 2 = .ok (.aload_n 0, 1) := by decide +kernel
theorem d_La_read_3 : decode b_La_read 3 = .ok (.iload_n 1, 1) := by decide +kernel
theorem d_La_read_4 : decode b_La_read 4 = .ok (.iload_n 2, 1) := by decide +kernel
theorem d_La_read_5 : decode b_La_read 5 = .ok (.invokevirtual 27, 3) := by decide +kernel
theorem q_784 : Cond.methodLink "TwinKeepersLaw" 27 ⟨"TwinKeepers", "read", "(II)I"⟩ ∈ xT := xin 784 (by decide +kernel) (by decide +kernel)
theorem d_La_read_8 : decode b_La_read 8 = .ok (.i2l, 1) := by decide +kernel
theorem d_La_read_9 : decode b_La_read 9 = .ok (.lastore, 1) := by decide +kernel
theorem d_La_read_10 : decode b_La_read 10 = .ok (.goto 11, 3) := by decide +kernel
theorem d_La_read_13 : decode b_La_read 13 = .ok (.astore 4, 2) := by decide +kernel
theorem d_La_read_15 : decode b_La_read 15 = .ok (.iconst 1, 1) := by decide +kernel
theorem d_La_read_16 : decode b_La_read 16 = .ok (.ireturn, 1) := by decide +kernel
theorem d_La_read_17 : decode b_La_read 17 = .ok (.astore 4, 2) := by decide +kernel
theorem d_La_read_19 : decode b_La_read 19 = .ok (.iconst 2, 1) := by decide +kernel
theorem d_La_read_20 : decode b_La_read 20 = .ok (.ireturn, 1) := by decide +kernel
theorem d_La_read_21 : decode b_La_read 21 = .ok (.iconst 0, 1) := by decide +kernel
theorem d_La_read_22 : decode b_La_read 22 = .ok (.ireturn, 1) := by decide +kernel
abbrev b_La_row : ByteArray := method_7_code
def y_La_row : MethodName := ⟨"TwinKeepersLaw", "row", "(LTwinKeepers;I[J)I"⟩
theorem k_La_row : xCode y_La_row b_La_row 4 (some .int) [(0, 9, 12, 21)] := Or.inr (xin 814 (by decide +kernel) (by decide +kernel))
theorem h_La_row : plainFor y_La_row = true ∧ (y_La_row.cls ≠ "java/lang/invoke/MethodHandle" ∧ y_La_row.cls ≠ "java/lang/invoke/VarHandle") ∧ (parseMethodDescriptor y_La_row.desc).map (fun d => d.parameters.length) = some 3 := by decide +kernel
theorem s_La_row : Cond.static y_La_row ∈ xT := xin 813 (by decide +kernel) (by decide +kernel)
theorem in_La_row : Cond.initialized y_La_row.cls ∈ xT := xin 0 (by decide +kernel) (by decide +kernel)
theorem d_La_row_0 : decode b_La_row 0 = .ok (.aload_n 2, 1) := by decide +kernel
theorem d_La_row_1 : decode b_La_row 1 = .ok (.iconst 0, 1) := by decide +kernel
theorem d_La_row_2 : decode b_La_row 2 = .ok (.aload_n 0, 1) := by decide +kernel
theorem d_La_row_3 : decode b_La_row 3 = .ok (.iload_n 1, 1) := by decide +kernel
theorem d_La_row_4 : decode b_La_row 4 = .ok (.invokevirtual 30, 3) := by decide +kernel
theorem q_815 : Cond.methodLink "TwinKeepersLaw" 30 ⟨"TwinKeepers", "row", "(I)I"⟩ ∈ xT := xin 815 (by decide +kernel) (by decide +kernel)
theorem d_La_row_7 : decode b_La_row 7 = .ok (.i2l, 1) := by decide +kernel
theorem d_La_row_8 : decode b_La_row 8 = .ok (.lastore, 1) := by decide +kernel
theorem d_La_row_9 : decode b_La_row 9 = .ok (.goto 6, 3) := by decide +kernel
theorem d_La_row_12 : decode b_La_row 12 = .ok (.astore_n 3, 1) := by decide +kernel
theorem d_La_row_13 : decode b_La_row 13 = .ok (.iconst 1, 1) := by decide +kernel
theorem d_La_row_14 : decode b_La_row 14 = .ok (.ireturn, 1) := by decide +kernel
theorem d_La_row_15 : decode b_La_row 15 = .ok (.iconst 0, 1) := by decide +kernel
theorem d_La_row_16 : decode b_La_row 16 = .ok (.ireturn, 1) := by decide +kernel
abbrev b_La_make : ByteArray := method_8_code
def y_La_make : MethodName := ⟨"TwinKeepersLaw", "make", "(LTwinKeepers;II[J)I"⟩
theorem k_La_make : xCode y_La_make b_La_make 5 (some .int) [(0, 17, 20, 21)] := Or.inr (xin 839 (by decide +kernel) (by decide +kernel))
theorem h_La_make : plainFor y_La_make = true ∧ (y_La_make.cls ≠ "java/lang/invoke/MethodHandle" ∧ y_La_make.cls ≠ "java/lang/invoke/VarHandle") ∧ (parseMethodDescriptor y_La_make.desc).map (fun d => d.parameters.length) = some 4 := by decide +kernel
theorem s_La_make : Cond.static y_La_make ∈ xT := xin 838 (by decide +kernel) (by decide +kernel)
theorem in_La_make : Cond.initialized y_La_make.cls ∈ xT := xin 0 (by decide +kernel) (by decide +kernel)
theorem d_La_make_0 : decode b_La_make 0 = .ok (.aload_n 3, 1) := by decide +kernel
theorem d_La_make_1 : decode b_La_make 1 = .ok (.iconst 0, 1) := by decide +kernel
theorem d_La_make_2 : decode b_La_make 2 = .ok (.aload_n 0, 1) := by decide +kernel
theorem d_La_make_3 : decode b_La_make 3 = .ok (.iload_n 1, 1) := by decide +kernel
theorem d_La_make_4 : decode b_La_make 4 = .ok (.iload_n 2, 1) := by decide +kernel
theorem d_La_make_5 : decode b_La_make 5 = .ok (.invokevirtual 34, 3) := by decide +kernel
theorem q_840 : Cond.methodLink "TwinKeepersLaw" 34 ⟨"TwinKeepers", "make", "(II)Z"⟩ ∈ xT := xin 840 (by decide +kernel) (by decide +kernel)
theorem d_La_make_8 : decode b_La_make 8 = .ok (.ifCond .eq 7, 3) := by decide +kernel
theorem d_La_make_11 : decode b_La_make 11 = .ok (.lconst 1, 1) := by decide +kernel
theorem d_La_make_12 : decode b_La_make 12 = .ok (.goto 4, 3) := by decide +kernel
theorem d_La_make_15 : decode b_La_make 15 = .ok (.lconst 0, 1) := by decide +kernel
theorem d_La_make_16 : decode b_La_make 16 = .ok (.lastore, 1) := by decide +kernel
theorem d_La_make_17 : decode b_La_make 17 = .ok (.goto 7, 3) := by decide +kernel
theorem d_La_make_20 : decode b_La_make 20 = .ok (.astore 4, 2) := by decide +kernel
theorem d_La_make_22 : decode b_La_make 22 = .ok (.iconst 1, 1) := by decide +kernel
theorem d_La_make_23 : decode b_La_make 23 = .ok (.ireturn, 1) := by decide +kernel
theorem d_La_make_24 : decode b_La_make 24 = .ok (.iconst 0, 1) := by decide +kernel
theorem d_La_make_25 : decode b_La_make 25 = .ok (.ireturn, 1) := by decide +kernel
abbrev b_La_clear : ByteArray := method_9_code
def y_La_clear : MethodName := ⟨"TwinKeepersLaw", "clear", "(LTwinKeepers;I[J)I"⟩
theorem k_La_clear : xCode y_La_clear b_La_clear 4 (some .int) [(0, 9, 12, 21)] := Or.inr (xin 881 (by decide +kernel) (by decide +kernel))
theorem h_La_clear : plainFor y_La_clear = true ∧ (y_La_clear.cls ≠ "java/lang/invoke/MethodHandle" ∧ y_La_clear.cls ≠ "java/lang/invoke/VarHandle") ∧ (parseMethodDescriptor y_La_clear.desc).map (fun d => d.parameters.length) = some 3 := by decide +kernel
theorem s_La_clear : Cond.static y_La_clear ∈ xT := xin 880 (by decide +kernel) (by decide +kernel)
theorem in_La_clear : Cond.initialized y_La_clear.cls ∈ xT := xin 0 (by decide +kernel) (by decide +kernel)
theorem d_La_clear_0 : decode b_La_clear 0 = .ok (.aload_n 2, 1) := by decide +kernel
theorem d_La_clear_1 : decode b_La_clear 1 = .ok (.iconst 0, 1) := by decide +kernel
theorem d_La_clear_2 : decode b_La_clear 2 = .ok (.aload_n 0, 1) := by decide +kernel
theorem d_La_clear_3 : decode b_La_clear 3 = .ok (.iload_n 1, 1) := by decide +kernel
theorem d_La_clear_4 : decode b_La_clear 4 = .ok (.invokevirtual 38, 3) := by decide +kernel
theorem q_882 : Cond.methodLink "TwinKeepersLaw" 38 ⟨"TwinKeepers", "clear", "(I)I"⟩ ∈ xT := xin 882 (by decide +kernel) (by decide +kernel)
theorem d_La_clear_7 : decode b_La_clear 7 = .ok (.i2l, 1) := by decide +kernel
theorem d_La_clear_8 : decode b_La_clear 8 = .ok (.lastore, 1) := by decide +kernel
theorem d_La_clear_9 : decode b_La_clear 9 = .ok (.goto 6, 3) := by decide +kernel
theorem d_La_clear_12 : decode b_La_clear 12 = .ok (.astore_n 3, 1) := by decide +kernel
theorem d_La_clear_13 : decode b_La_clear 13 = .ok (.iconst 1, 1) := by decide +kernel
theorem d_La_clear_14 : decode b_La_clear 14 = .ok (.ireturn, 1) := by decide +kernel
theorem d_La_clear_15 : decode b_La_clear 15 = .ok (.iconst 0, 1) := by decide +kernel
theorem d_La_clear_16 : decode b_La_clear 16 = .ok (.ireturn, 1) := by decide +kernel
abbrev b_La_session : ByteArray := method_10_code
def y_La_session : MethodName := ⟨"TwinKeepersLaw", "session", "(LTwinKeepers;III[J)I"⟩
theorem k_La_session : xCode y_La_session b_La_session 6 (some .int) [(0, 12, 15, 21)] := Or.inr (xin 889 (by decide +kernel) (by decide +kernel))
theorem h_La_session : plainFor y_La_session = true ∧ (y_La_session.cls ≠ "java/lang/invoke/MethodHandle" ∧ y_La_session.cls ≠ "java/lang/invoke/VarHandle") ∧ (parseMethodDescriptor y_La_session.desc).map (fun d => d.parameters.length) = some 5 := by decide +kernel
theorem s_La_session : Cond.static y_La_session ∈ xT := xin 888 (by decide +kernel) (by decide +kernel)
theorem in_La_session : Cond.initialized y_La_session.cls ∈ xT := xin 0 (by decide +kernel) (by decide +kernel)
theorem d_La_session_0 : decode b_La_session 0 = .ok (.aload 4, 2) := by decide +kernel
theorem d_La_session_2 : decode b_La_session 2 = .ok (.iconst 0, 1) := by decide +kernel
theorem d_La_session_3 : decode b_La_session 3 = .ok (.aload_n 0, 1) := by decide +kernel
theorem d_La_session_4 : decode b_La_session 4 = .ok (.iload_n 1, 1) := by decide +kernel
theorem d_La_session_5 : decode b_La_session 5 = .ok (.iload_n 2, 1) := by decide +kernel
theorem d_La_session_6 : decode b_La_session 6 = .ok (.iload_n 3, 1) := by decide +kernel
theorem d_La_session_7 : decode b_La_session 7 = .ok (.invokevirtual 41, 3) := by decide +kernel
theorem q_890 : Cond.methodLink "TwinKeepersLaw" 41 ⟨"TwinKeepers", "session", "(III)I"⟩ ∈ xT := xin 890 (by decide +kernel) (by decide +kernel)
theorem d_La_session_10 : decode b_La_session 10 = .ok (.i2l, 1) := by decide +kernel
theorem d_La_session_11 : decode b_La_session 11 = .ok (.lastore, 1) := by decide +kernel
theorem d_La_session_12 : decode b_La_session 12 = .ok (.goto 7, 3) := by decide +kernel
theorem d_La_session_15 : decode b_La_session 15 = .ok (.astore 5, 2) := by decide +kernel
theorem d_La_session_17 : decode b_La_session 17 = .ok (.iconst 1, 1) := by decide +kernel
theorem d_La_session_18 : decode b_La_session 18 = .ok (.ireturn, 1) := by decide +kernel
theorem d_La_session_19 : decode b_La_session 19 = .ok (.iconst 0, 1) := by decide +kernel
theorem d_La_session_20 : decode b_La_session 20 = .ok (.ireturn, 1) := by decide +kernel
abbrev b_La_key : ByteArray := method_11_code
def y_La_key : MethodName := ⟨"TwinKeepersLaw", "key", "(LTwinKeepers;III[J)I"⟩
theorem k_La_key : xCode y_La_key b_La_key 6 (some .int) [(0, 12, 15, 21)] := Or.inr (xin 898 (by decide +kernel) (by decide +kernel))
theorem h_La_key : plainFor y_La_key = true ∧ (y_La_key.cls ≠ "java/lang/invoke/MethodHandle" ∧ y_La_key.cls ≠ "java/lang/invoke/VarHandle") ∧ (parseMethodDescriptor y_La_key.desc).map (fun d => d.parameters.length) = some 5 := by decide +kernel
theorem s_La_key : Cond.static y_La_key ∈ xT := xin 897 (by decide +kernel) (by decide +kernel)
theorem in_La_key : Cond.initialized y_La_key.cls ∈ xT := xin 0 (by decide +kernel) (by decide +kernel)
theorem d_La_key_0 : decode b_La_key 0 = .ok (.aload 4, 2) := by decide +kernel
theorem d_La_key_2 : decode b_La_key 2 = .ok (.iconst 0, 1) := by decide +kernel
theorem d_La_key_3 : decode b_La_key 3 = .ok (.aload_n 0, 1) := by decide +kernel
theorem d_La_key_4 : decode b_La_key 4 = .ok (.iload_n 1, 1) := by decide +kernel
theorem d_La_key_5 : decode b_La_key 5 = .ok (.iload_n 2, 1) := by decide +kernel
theorem d_La_key_6 : decode b_La_key 6 = .ok (.iload_n 3, 1) := by decide +kernel
theorem d_La_key_7 : decode b_La_key 7 = .ok (.invokevirtual 45, 3) := by decide +kernel
theorem q_899 : Cond.methodLink "TwinKeepersLaw" 45 ⟨"TwinKeepers", "key", "(III)I"⟩ ∈ xT := xin 899 (by decide +kernel) (by decide +kernel)
theorem d_La_key_10 : decode b_La_key 10 = .ok (.i2l, 1) := by decide +kernel
theorem d_La_key_11 : decode b_La_key 11 = .ok (.lastore, 1) := by decide +kernel
theorem d_La_key_12 : decode b_La_key 12 = .ok (.goto 7, 3) := by decide +kernel
theorem d_La_key_15 : decode b_La_key 15 = .ok (.astore 5, 2) := by decide +kernel
theorem d_La_key_17 : decode b_La_key 17 = .ok (.iconst 1, 1) := by decide +kernel
theorem d_La_key_18 : decode b_La_key 18 = .ok (.ireturn, 1) := by decide +kernel
theorem d_La_key_19 : decode b_La_key 19 = .ok (.iconst 0, 1) := by decide +kernel
theorem d_La_key_20 : decode b_La_key 20 = .ok (.ireturn, 1) := by decide +kernel
abbrev b_La_state : ByteArray := method_12_code
def y_La_state : MethodName := ⟨"TwinKeepersLaw", "state", "(LTwinKeepers;II[J)I"⟩
theorem k_La_state : xCode y_La_state b_La_state 5 (some .int) [(0, 10, 13, 21)] := Or.inr (xin 908 (by decide +kernel) (by decide +kernel))
theorem h_La_state : plainFor y_La_state = true ∧ (y_La_state.cls ≠ "java/lang/invoke/MethodHandle" ∧ y_La_state.cls ≠ "java/lang/invoke/VarHandle") ∧ (parseMethodDescriptor y_La_state.desc).map (fun d => d.parameters.length) = some 4 := by decide +kernel
theorem s_La_state : Cond.static y_La_state ∈ xT := xin 907 (by decide +kernel) (by decide +kernel)
theorem in_La_state : Cond.initialized y_La_state.cls ∈ xT := xin 0 (by decide +kernel) (by decide +kernel)
theorem d_La_state_0 : decode b_La_state 0 = .ok (.aload_n 3, 1) := by decide +kernel
theorem d_La_state_1 : decode b_La_state 1 = .ok (.iconst 0, 1) := by decide +kernel
theorem d_La_state_2 : decode b_La_state 2 = .ok (.aload_n 0, 1) := by decide +kernel
theorem d_La_state_3 : decode b_La_state 3 = .ok (.iload_n 1, 1) := by decide +kernel
theorem d_La_state_4 : decode b_La_state 4 = .ok (.iload_n 2, 1) := by decide +kernel
theorem d_La_state_5 : decode b_La_state 5 = .ok (.invokevirtual 48, 3) := by decide +kernel
theorem q_909 : Cond.methodLink "TwinKeepersLaw" 48 ⟨"TwinKeepers", "state", "(II)I"⟩ ∈ xT := xin 909 (by decide +kernel) (by decide +kernel)
theorem d_La_state_8 : decode b_La_state 8 = .ok (.i2l, 1) := by decide +kernel
theorem d_La_state_9 : decode b_La_state 9 = .ok (.lastore, 1) := by decide +kernel
theorem d_La_state_10 : decode b_La_state 10 = .ok (.goto 7, 3) := by decide +kernel
theorem d_La_state_13 : decode b_La_state 13 = .ok (.astore 4, 2) := by decide +kernel
theorem d_La_state_15 : decode b_La_state 15 = .ok (.iconst 1, 1) := by decide +kernel
theorem d_La_state_16 : decode b_La_state 16 = .ok (.ireturn, 1) := by decide +kernel
theorem d_La_state_17 : decode b_La_state 17 = .ok (.iconst 0, 1) := by decide +kernel
theorem d_La_state_18 : decode b_La_state 18 = .ok (.ireturn, 1) := by decide +kernel
abbrev b_La_byteAt : ByteArray := method_13_code
def y_La_byteAt : MethodName := ⟨"TwinKeepersLaw", "byteAt", "(LTwinKeepers;I[J)I"⟩
theorem k_La_byteAt : xCode y_La_byteAt b_La_byteAt 4 (some .int) [(0, 9, 12, 21)] := Or.inr (xin 928 (by decide +kernel) (by decide +kernel))
theorem h_La_byteAt : plainFor y_La_byteAt = true ∧ (y_La_byteAt.cls ≠ "java/lang/invoke/MethodHandle" ∧ y_La_byteAt.cls ≠ "java/lang/invoke/VarHandle") ∧ (parseMethodDescriptor y_La_byteAt.desc).map (fun d => d.parameters.length) = some 3 := by decide +kernel
theorem s_La_byteAt : Cond.static y_La_byteAt ∈ xT := xin 927 (by decide +kernel) (by decide +kernel)
theorem in_La_byteAt : Cond.initialized y_La_byteAt.cls ∈ xT := xin 0 (by decide +kernel) (by decide +kernel)
theorem d_La_byteAt_0 : decode b_La_byteAt 0 = .ok (.aload_n 2, 1) := by decide +kernel
theorem d_La_byteAt_1 : decode b_La_byteAt 1 = .ok (.iconst 0, 1) := by decide +kernel
theorem d_La_byteAt_2 : decode b_La_byteAt 2 = .ok (.aload_n 0, 1) := by decide +kernel
theorem d_La_byteAt_3 : decode b_La_byteAt 3 = .ok (.iload_n 1, 1) := by decide +kernel
theorem d_La_byteAt_4 : decode b_La_byteAt 4 = .ok (.invokevirtual 51, 3) := by decide +kernel
theorem q_929 : Cond.methodLink "TwinKeepersLaw" 51 ⟨"TwinKeepers", "byteAt", "(I)I"⟩ ∈ xT := xin 929 (by decide +kernel) (by decide +kernel)
theorem d_La_byteAt_7 : decode b_La_byteAt 7 = .ok (.i2l, 1) := by decide +kernel
theorem d_La_byteAt_8 : decode b_La_byteAt 8 = .ok (.lastore, 1) := by decide +kernel
theorem d_La_byteAt_9 : decode b_La_byteAt 9 = .ok (.goto 6, 3) := by decide +kernel
theorem d_La_byteAt_12 : decode b_La_byteAt 12 = .ok (.astore_n 3, 1) := by decide +kernel
theorem d_La_byteAt_13 : decode b_La_byteAt 13 = .ok (.iconst 1, 1) := by decide +kernel
theorem d_La_byteAt_14 : decode b_La_byteAt 14 = .ok (.ireturn, 1) := by decide +kernel
theorem d_La_byteAt_15 : decode b_La_byteAt 15 = .ok (.iconst 0, 1) := by decide +kernel
theorem d_La_byteAt_16 : decode b_La_byteAt 16 = .ok (.ireturn, 1) := by decide +kernel
