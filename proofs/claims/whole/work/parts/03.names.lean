/-! Names: the classes whose objects the worlds hold, by their numbers in xcl; the words of the tables. -/
def R_TK : String := "TwinKeepers"
def F_TK : u_T := fun k => match k with
  | 0 => ("TwinKeepers", "first", "LTwinKeepers$Machine;", true)
  | 1 => ("TwinKeepers", "second", "LTwinKeepers$Machine;", true)
  | 2 => ("TwinKeepers", "tape", "[B", true)
  | 3 => ("TwinKeepers", "result", "LTwinKeepers$Row;", true)
  | 4 => ("TwinKeepers", "tapeSize", "I", false)
  | _ => ("TwinKeepers", "latestPlace", "I", false)
def t_TK : Nat → FieldType := fun k => match k with
  | 0 => .object "TwinKeepers$Machine"
  | 1 => .object "TwinKeepers$Machine"
  | 2 => .array .byte
  | 3 => .object "TwinKeepers$Row"
  | 4 => .int
  | _ => .int
def R_Ma : String := "TwinKeepers$Machine"
def F_Ma : u_T := fun k => match k with
  | 0 => ("TwinKeepers$Machine", "sessions", "Ljava/util/ArrayList;", true)
  | 1 => ("TwinKeepers$Machine", "map", "LTwinKeepers$KeyMap;", true)
  | _ => ("TwinKeepers$Machine", "greatestPlace", "I", false)
def t_Ma : Nat → FieldType := fun k => match k with
  | 0 => .object "java/util/ArrayList"
  | 1 => .object "TwinKeepers$KeyMap"
  | _ => .int
def R_KM : String := "TwinKeepers$KeyMap"
def F_KM : u_T := fun k => match k with
  | 0 => ("TwinKeepers$KeyMap", "entries", "Ljava/util/ArrayList;", true)
  | _ => ("TwinKeepers$KeyMap", "units", "I", false)
def t_KM : Nat → FieldType := fun k => match k with
  | 0 => .object "java/util/ArrayList"
  | _ => .int
def R_Ro : String := "TwinKeepers$Row"
def F_Ro : u_T := fun k => match k with
  | 0 => ("TwinKeepers$Row", "bytes", "[B", false)
  | _ => ("TwinKeepers$Row", "size", "I", false)
def t_Ro : Nat → FieldType := fun k => match k with
  | 0 => .array .byte
  | _ => .int
def R_Se : String := "TwinKeepers$Session"
def F_Se : u_T := fun k => match k with
  | 0 => ("TwinKeepers$Session", "number", "I", true)
  | 1 => ("TwinKeepers$Session", "used", "I", true)
  | 2 => ("TwinKeepers$Session", "serial", "I", true)
  | 3 => ("TwinKeepers$Session", "answerPlace", "I", true)
  | _ => ("TwinKeepers$Session", "answer", "[B", true)
def t_Se : Nat → FieldType := fun k => match k with
  | 0 => .int
  | 1 => .int
  | 2 => .int
  | 3 => .int
  | _ => .array .byte
def R_En : String := "TwinKeepers$Entry"
def F_En : u_T := fun k => match k with
  | 0 => ("TwinKeepers$Entry", "key", "[B", true)
  | _ => ("TwinKeepers$Entry", "value", "[B", true)
def t_En : Nat → FieldType := fun k => match k with
  | 0 => .array .byte
  | _ => .array .byte
def R_Mo : String := "TwinKeepersModel"
def F_Mo : u_T := fun k => match k with
  | 0 => ("TwinKeepersModel", "thrown", "I", false)
  | 1 => ("TwinKeepersModel", "many", "[I", true)
  | 2 => ("TwinKeepersModel", "numbers", "[I", true)
  | 3 => ("TwinKeepersModel", "used", "[I", true)
  | 4 => ("TwinKeepersModel", "serials", "[I", true)
  | 5 => ("TwinKeepersModel", "places", "[I", true)
  | 6 => ("TwinKeepersModel", "answerSizes", "[I", true)
  | 7 => ("TwinKeepersModel", "answers", "[I", true)
  | 8 => ("TwinKeepersModel", "keys", "[I", true)
  | 9 => ("TwinKeepersModel", "keySizes", "[I", true)
  | 10 => ("TwinKeepersModel", "keyRows", "[J", true)
  | 11 => ("TwinKeepersModel", "valueSizes", "[I", true)
  | 12 => ("TwinKeepersModel", "values", "[J", true)
  | 13 => ("TwinKeepersModel", "highest", "[I", true)
  | 14 => ("TwinKeepersModel", "tape", "I", false)
  | 15 => ("TwinKeepersModel", "fed", "[I", true)
  | 16 => ("TwinKeepersModel", "soughtSize", "I", false)
  | 17 => ("TwinKeepersModel", "sought", "[J", true)
  | 18 => ("TwinKeepersModel", "told", "I", false)
  | 19 => ("TwinKeepersModel", "tells", "[I", true)
  | 20 => ("TwinKeepersModel", "place", "I", false)
  | 21 => ("TwinKeepersModel", "size", "I", false)
  | _ => ("TwinKeepersModel", "result", "[J", true)
def t_Mo : Nat → FieldType := fun k => match k with
  | 0 => .int
  | 1 => .array .int
  | 2 => .array .int
  | 3 => .array .int
  | 4 => .array .int
  | 5 => .array .int
  | 6 => .array .int
  | 7 => .array .int
  | 8 => .array .int
  | 9 => .array .int
  | 10 => .array .long
  | 11 => .array .int
  | 12 => .array .long
  | 13 => .array .int
  | 14 => .int
  | 15 => .array .int
  | 16 => .int
  | 17 => .array .long
  | 18 => .int
  | 19 => .array .int
  | 20 => .int
  | 21 => .int
  | _ => .array .long
def R_AL : String := "java/util/ArrayList"
def F_AL : u_T := fun k => match k with
  | 0 => ("java/util/AbstractList", "modCount", "I", false)
  | 1 => ("java/util/ArrayList", "elementData", "[Ljava/lang/Object;", false)
  | _ => ("java/util/ArrayList", "size", "I", false)
def t_AL : Nat → FieldType := fun k => match k with
  | 0 => .int
  | 1 => .array (.object "java/lang/Object")
  | _ => .int
abbrev xcl : List vw_C := [(R_TK, F_TK, 6), (R_Ma, F_Ma, 3), (R_KM, F_KM, 2), (R_Ro, F_Ro, 2), (R_Se, F_Se, 5), (R_En, F_En, 2), (R_Mo, F_Mo, 23), (R_AL, F_AL, 3)]
/-- arrays: their classes' numbers stand in the same table, from place 100 on -/
abbrev xty (D : va_G) : List (ClassId × FieldType) := [(D.1 100, .byte), (D.1 101, .object "java/lang/Object"), (D.1 102, .long), (D.1 103, .int)]
/-- a word that holds in every later state too -/
def xgw (w : Cond) : Bool := goodWord w || (w.onTables && (w.keepsFace || (match w with
  | .fieldLinkNest .. => true
  | .methodLinkNest .. => true
  | _ => false)))
def xT : List Cond := lw_tbl.filter xgw
theorem xword (w : Cond) (hw : w ∈ xT) {args a' : Array Value} {s U : State} (hW : s.WarmedH U.vm) (h : w.before args s = true) : w.before a' U = true := by
  have hg := (List.mem_filter.mp hw).2
  simp only [xgw, Bool.or_eq_true, Bool.and_eq_true] at hg
  rcases hg with hg | ⟨ho, hg | hg⟩
  · exact word_at hW (good_of_word hg) h
  · exact va_tabs ho (rfl : (s.setVm U.vm).vm = U.vm) (Cond.before_shiftedFace (State.Shifted.of_warmed hW) w hg h)
  · cases w with
    | fieldLinkNest a i b n d h0 => exact va_tabs rfl (rfl : (s.setVm U.vm).vm = U.vm) (Cond.fieldLinkNest_warmed (args := args) hW h)
    | methodLinkNest a i x h0 => exact va_tabs rfl (rfl : (s.setVm U.vm).vm = U.vm) (Cond.methodLinkNest_warmed (args := args) hW h)
    | _ => simp at hg
theorem xin {w : Cond} (i : Nat) (h : tables_1[i]? = some w) (hg : xgw w = true) : w ∈ xT := List.mem_filter.mpr ⟨List.mem_append_right _ (List.mem_of_getElem? h), hg⟩
theorem xinp {w : Cond} (i : Nat) (h : (k2_sels lw_privs)[i]? = some w) (hg : xgw w = true) : w ∈ xT := List.mem_filter.mpr ⟨List.mem_append_left _ (List.mem_of_getElem? h), hg⟩
/-- the texts of the exceptions -/
def xstr : List (Nat × String) := [(39, "n is not 1 .. 8"), (46, "the tape would have more than 300 bytes"), (209, "no such machine"), (57, "place is not 1 to 1000000 and above those before"), (80, "serial is below 0, or shape and tape are no operation"), (138, "shape and tape are no reading"), (173, "no such session"), (182, "no such thing of a session"), (184, "no such key"), (186, "no such thing of a key"), (202, "no such thing of a machine"), (204, "the result has no such byte")]
abbrev xA (H0 : Heap) : Nat → Prop := fun q => H0.size ≤ q
/-- the class of the constant array of no bytes; what is no such exception -/
def xAl (D : va_G) (U : State) : Prop := ArrOfT U (D.1 110) .byte ∧ va_Nc "java/lang/IllegalStateException" "java/lang/IllegalArgumentException" U ∧ va_Nc "java/lang/IllegalArgumentException" "java/lang/IndexOutOfBoundsException" U
theorem xAl.moved {D : va_G} {u U : State} (hvm : u.vm.Alike U.vm) (h : xAl D u) : xAl D U := ⟨arrOfT_moved hvm h.1, h.2.1.moved hvm, h.2.2.moved hvm⟩
theorem ArrOfT_inj {U : State} {c : ClassId} {t1 t2 : FieldType} (h1 : ArrOfT U c t1) (h2 : ArrOfT U c t2) : t1 = t2 := by
  obtain ⟨-, k1, g1, c1, e1⟩ := h1 0 (fun _ => .null)
  obtain ⟨-, k2, g2, c2, e2⟩ := h2 0 (fun _ => .null)
  cases g1.symm.trans g2
  cases e1.symm.trans e2
  rfl
/-- what holds in every state of the run: the classes' numbers and slots, the statics, the texts, the mirror of Object[] -/
def xK (D : va_G) (H0 : Heap) (U : State) : Prop := va_K D xcl (xty D) U ∧ va_AO "java/lang/Object" U ∧ va_Z "TwinKeepers" "EMPTY" "[B" (.ref (D.2 200 0)) (xA H0) U H0 ∧ va_Z "java/util/ArrayList" "DEFAULTCAPACITY_EMPTY_ELEMENTDATA" "[Ljava/lang/Object;" (.ref (D.2 200 1)) (xA H0) U H0 ∧ vx_Zq Bundle.tN "UNASSIGNED_STACK" Bundle.steD (xA H0) U H0 ∧ vx_Zq Bundle.tN "SUPPRESSED_SENTINEL" Bundle.listD (xA H0) U H0 ∧ (∀ q ∈ xstr, ∃ sa : Nat, vk_R "TwinKeepers" q.1 q.2 sa U) ∧ va_Mi "[Ljava/lang/Object;" (D.2 200 2) U ∧ xAl D U
theorem xK.moved {D : va_G} {H0 : Heap} {u U : State} (hW : u.WarmedH U.vm) (h : xK D H0 u) : xK D H0 U := by
  obtain ⟨h1, h2, h3, h4, h5, h6, h7, h8, h9⟩ := h
  have hal := hW.alike
  exact ⟨h1.moved hal, h2.moved hal, h3.moved hal, h4.moved hal, h5.moved hal, h6.moved hal, fun q hq => (h7 q hq).imp fun sa hs => hs.warm hW, h8.moved hal, h9.moved hal⟩
theorem n_TK : ∀ a, a < 6 → ∀ b, b < 6 → a ≠ b → (F_TK a).2.1 ≠ (F_TK b).2.1 := by decide +kernel
theorem t_TK_ok : ∀ k, k < 6 → parseFieldDescriptor (F_TK k).2.2.1 = some (t_TK k) := by decide +kernel
theorem i_TK : ∀ w ∈ u_ws R_TK F_TK 6, w ∈ xT := by
  have h : ∀ w ∈ u_ws R_TK F_TK 6, w ∈ tables_1 ∧ xgw w = true := by decide +kernel
  exact fun w hw => List.mem_filter.mpr ⟨List.mem_append_right _ (h w hw).1, (h w hw).2⟩
theorem n_Ma : ∀ a, a < 3 → ∀ b, b < 3 → a ≠ b → (F_Ma a).2.1 ≠ (F_Ma b).2.1 := by decide +kernel
theorem t_Ma_ok : ∀ k, k < 3 → parseFieldDescriptor (F_Ma k).2.2.1 = some (t_Ma k) := by decide +kernel
theorem i_Ma : ∀ w ∈ u_ws R_Ma F_Ma 3, w ∈ xT := by
  have h : ∀ w ∈ u_ws R_Ma F_Ma 3, w ∈ tables_1 ∧ xgw w = true := by decide +kernel
  exact fun w hw => List.mem_filter.mpr ⟨List.mem_append_right _ (h w hw).1, (h w hw).2⟩
theorem n_KM : ∀ a, a < 2 → ∀ b, b < 2 → a ≠ b → (F_KM a).2.1 ≠ (F_KM b).2.1 := by decide +kernel
theorem t_KM_ok : ∀ k, k < 2 → parseFieldDescriptor (F_KM k).2.2.1 = some (t_KM k) := by decide +kernel
theorem i_KM : ∀ w ∈ u_ws R_KM F_KM 2, w ∈ xT := by
  have h : ∀ w ∈ u_ws R_KM F_KM 2, w ∈ tables_1 ∧ xgw w = true := by decide +kernel
  exact fun w hw => List.mem_filter.mpr ⟨List.mem_append_right _ (h w hw).1, (h w hw).2⟩
theorem n_Ro : ∀ a, a < 2 → ∀ b, b < 2 → a ≠ b → (F_Ro a).2.1 ≠ (F_Ro b).2.1 := by decide +kernel
theorem t_Ro_ok : ∀ k, k < 2 → parseFieldDescriptor (F_Ro k).2.2.1 = some (t_Ro k) := by decide +kernel
theorem i_Ro : ∀ w ∈ u_ws R_Ro F_Ro 2, w ∈ xT := by
  have h : ∀ w ∈ u_ws R_Ro F_Ro 2, w ∈ tables_1 ∧ xgw w = true := by decide +kernel
  exact fun w hw => List.mem_filter.mpr ⟨List.mem_append_right _ (h w hw).1, (h w hw).2⟩
theorem n_Se : ∀ a, a < 5 → ∀ b, b < 5 → a ≠ b → (F_Se a).2.1 ≠ (F_Se b).2.1 := by decide +kernel
theorem t_Se_ok : ∀ k, k < 5 → parseFieldDescriptor (F_Se k).2.2.1 = some (t_Se k) := by decide +kernel
theorem i_Se : ∀ w ∈ u_ws R_Se F_Se 5, w ∈ xT := by
  have h : ∀ w ∈ u_ws R_Se F_Se 5, w ∈ tables_1 ∧ xgw w = true := by decide +kernel
  exact fun w hw => List.mem_filter.mpr ⟨List.mem_append_right _ (h w hw).1, (h w hw).2⟩
theorem n_En : ∀ a, a < 2 → ∀ b, b < 2 → a ≠ b → (F_En a).2.1 ≠ (F_En b).2.1 := by decide +kernel
theorem t_En_ok : ∀ k, k < 2 → parseFieldDescriptor (F_En k).2.2.1 = some (t_En k) := by decide +kernel
theorem i_En : ∀ w ∈ u_ws R_En F_En 2, w ∈ xT := by
  have h : ∀ w ∈ u_ws R_En F_En 2, w ∈ tables_1 ∧ xgw w = true := by decide +kernel
  exact fun w hw => List.mem_filter.mpr ⟨List.mem_append_right _ (h w hw).1, (h w hw).2⟩
theorem n_Mo : ∀ a, a < 23 → ∀ b, b < 23 → a ≠ b → (F_Mo a).2.1 ≠ (F_Mo b).2.1 := by decide +kernel
theorem t_Mo_ok : ∀ k, k < 23 → parseFieldDescriptor (F_Mo k).2.2.1 = some (t_Mo k) := by decide +kernel
theorem i_Mo : ∀ w ∈ u_ws R_Mo F_Mo 23, w ∈ xT := by
  have h : ∀ w ∈ u_ws R_Mo F_Mo 23, w ∈ tables_1 ∧ xgw w = true := by decide +kernel
  exact fun w hw => List.mem_filter.mpr ⟨List.mem_append_right _ (h w hw).1, (h w hw).2⟩
theorem n_AL : ∀ a, a < 3 → ∀ b, b < 3 → a ≠ b → (F_AL a).2.1 ≠ (F_AL b).2.1 := by decide +kernel
theorem t_AL_ok : ∀ k, k < 3 → parseFieldDescriptor (F_AL k).2.2.1 = some (t_AL k) := by decide +kernel
theorem i_AL : ∀ w ∈ u_ws R_AL F_AL 3, w ∈ xT := by
  have h : ∀ w ∈ u_ws R_AL F_AL 3, w ∈ tables_1 ∧ xgw w = true := by decide +kernel
  exact fun w hw => List.mem_filter.mpr ⟨List.mem_append_right _ (h w hw).1, (h w hw).2⟩
