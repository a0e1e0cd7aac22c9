/-! The law's start. -/
def R_law : String := "TwinKeepersLaw"
def lw_P (b : Addr) (xs : List Int32) (args : Array Value) (s : State) : Prop := args = #[.ref b] ∧ s.IntsAt b xs ∧ xs.length ≤ 3072 ∧ (Jvm.Cond.and given_1 narrow_1).before args s = true
def lw_Q (_ : Array Value) (s : State) (o : Outcome) (t : State) : Prop := o = .returned (some (.int 1)) ∧ Framed s o t [] 601024 7293034
def lw_Z (below : List Frame) (a : Array Value) (s : State) : State → Prop := fun t => ∃ o, t.status = .running ∧ Ended t below o ∧ lw_Q a s o t
/-- what holds at the law's entry: the machine, the code, the tables' words (any of lw_tbl by 'hts w (by decide +kernel)'), the script of L ints xs at the cell b, what the Statement gives of the start (any of its parts by flat_of_before) -/
def lw_At (p : Program) (s : State) (m : MethodId) (meth : Method) (c : Code) (b L : Nat) (xs : Nat → Int32) : Prop :=
  p.tables.exec = Jvm.exec ∧ c.code = code ∧ meth.sig.returnType = ret ∧ c.maxLocals = 7 ∧ s.vm.findClass R_law = some m.cls ∧ (∀ w ∈ lw_tbl, w.before #[Value.ref b] s = true) ∧ va_X b L xs s s.heap ∧ b < s.heap.size ∧ meth.locks = false ∧ (Jvm.Cond.and given_1 narrow_1).before #[Value.ref b] s = true ∧ c.exceptionTable.toList.map (fun h => (h.startPc, h.endPc, h.handlerPc, h.catchType)) = [] ∧ meth.name = x.name
theorem xroom {s : State} {pl : Platform} {R R' : Room} (h : s.hasRoom pl R = true) (h1 : R'.frames ≤ R.frames) (h2 : R'.cells ≤ R.cells) (h3 : R'.slots ≤ R.slots) (h4 : R'.locals ≤ R.locals) : s.hasRoom pl R' = true := by
  simp only [State.hasRoom, Bool.and_eq_true, decide_eq_true_eq] at h ⊢
  obtain ⟨⟨⟨⟨a1, a2, a3, a4, a5, a6⟩, b⟩, c⟩, e⟩ := h
  exact ⟨⟨⟨⟨by omega, by omega, by omega, by omega, by omega, a6⟩, by omega⟩, by omega⟩, e⟩
theorem xW_room {p : Program} {l : Launch} {e : Env} {R R' : Room} {s : State} {m : MethodId} {args : Array Value} {below : List Frame} {meth : Method} {c : Code} {H : Heap} {locs : List Loc} {cells slots : Nat} {Q : State → Prop} {g : JFrame} (k : W p l e R' s m args below meth c H locs cells slots Q g) (h1 : R'.frames ≤ R.frames) (h2 : R'.cells ≤ R.cells) (h3 : R'.slots ≤ R.slots) (h4 : R'.locals ≤ R.locals) : W p l e R s m args below meth c H locs cells slots Q g := fun T hT X => k T hT ⟨X.admits, X.cas, X.clock, X.frames, xroom X.room h1 h2 h3 h4, X.hears, X.method, X.code, X.here, X.tail, X.warmed, X.limits, X.bytes, X.same⟩
theorem xMQ_lw {D : va_G} {below : List Frame} {s t : State} {b : Nat} (h : xMQ D s.heap below s 601024 7293034 PT t) : lw_Z below #[Value.ref b] s t := by
  obtain ⟨o, r, X, L, h1, h2, h3, h4, h5, h6, h7, h8⟩ := h
  cases h5
  have h3 : o = .returned (some (.int 1)) := h3
  exact ⟨o, h1, h2, h3, ⟨_, h3⟩, h6, h7.weaken (fun y hy hlt => absurd hlt (Nat.not_lt.mpr (h8 y hy))) (Nat.le_refl _) (Nat.le_refl _)⟩
theorem len0 {args : Array Value} {s : State} {t : Term} {ty : FieldType} (h1 : (Cond.arrayOf t ty).before args s = true) (h2 : (Cond.eq (.length t) (.int 0)).before args s = true) : ∃ (a : Nat) (cell : Cell), t.eval args s none [] s = some (.ref a) ∧ s.heap[a]? = some cell ∧ s.isArrayOf cell ty ∧ cell.vm ≠ .unknown ∧ cell.slots = #[] := by
  have hv := va_eqt h2
  obtain ⟨a, cell, ht, harr, e⟩ := Term.length_spec hv
  have hsz : cell.slots.size < 2 ^ 31 := by
    simp only [Term.eval, ht, harr, Option.bind_eq_bind, Option.bind_some] at hv
    by_cases hlt : cell.slots.size < 2147483648
    · exact hlt
    · simp [hlt] at hv
  obtain ⟨hcell, -, -, -⟩ := State.arrayAt?_spec harr
  obtain ⟨hof, hun⟩ := Cond.arrayOf_spec h1 ht hcell
  have e0 : (0 : Int32) = cell.slots.size.toInt32 := Value.int.inj e
  have h0 : nI cell.slots.size = nI 0 := e0.symm
  exact ⟨a, cell, ht, hcell, hof, hun, Array.eq_empty_of_size_eq_zero ((nI_eq hsz (by decide)).mp h0)⟩
theorem w_384 : Cond.arrayOver (.object "java/lang/Object") ∈ lw_tbl := List.mem_append_right _ (List.mem_of_getElem? (i := 384) (by decide +kernel))
theorem w_176 : Cond.laysStatic "java/lang/Throwable" "UNASSIGNED_STACK" "[Ljava/lang/StackTraceElement;" ∈ lw_tbl := List.mem_append_right _ (List.mem_of_getElem? (i := 176) (by decide +kernel))
theorem w_178 : Cond.laysStatic "java/lang/Throwable" "SUPPRESSED_SENTINEL" "Ljava/util/List;" ∈ lw_tbl := List.mem_append_right _ (List.mem_of_getElem? (i := 178) (by decide +kernel))
theorem q_9 : Cond.initialized "java/lang/Throwable" ∈ xT := xin 9 (by decide +kernel) (by decide +kernel)
theorem w_306 : Cond.laysStatic "TwinKeepers" "EMPTY" "[B" ∈ lw_tbl := List.mem_append_right _ (List.mem_of_getElem? (i := 306) (by decide +kernel))
theorem w_56 : Cond.laysStatic "java/util/ArrayList" "DEFAULTCAPACITY_EMPTY_ELEMENTDATA" "[Ljava/lang/Object;" ∈ lw_tbl := List.mem_append_right _ (List.mem_of_getElem? (i := 56) (by decide +kernel))
theorem w_190 : Cond.stringRef "TwinKeepers" 39 "n is not 1 .. 8" ∈ lw_tbl := List.mem_append_right _ (List.mem_of_getElem? (i := 190) (by decide +kernel))
theorem w_225 : Cond.stringRef "TwinKeepers" 46 "the tape would have more than 300 bytes" ∈ lw_tbl := List.mem_append_right _ (List.mem_of_getElem? (i := 225) (by decide +kernel))
theorem w_253 : Cond.stringRef "TwinKeepers" 209 "no such machine" ∈ lw_tbl := List.mem_append_right _ (List.mem_of_getElem? (i := 253) (by decide +kernel))
theorem w_265 : Cond.stringRef "TwinKeepers" 57 "place is not 1 to 1000000 and above those before" ∈ lw_tbl := List.mem_append_right _ (List.mem_of_getElem? (i := 265) (by decide +kernel))
theorem w_422 : Cond.stringRef "TwinKeepers" 80 "serial is below 0, or shape and tape are no operation" ∈ lw_tbl := List.mem_append_right _ (List.mem_of_getElem? (i := 422) (by decide +kernel))
theorem w_794 : Cond.stringRef "TwinKeepers" 138 "shape and tape are no reading" ∈ lw_tbl := List.mem_append_right _ (List.mem_of_getElem? (i := 794) (by decide +kernel))
theorem w_894 : Cond.stringRef "TwinKeepers" 173 "no such session" ∈ lw_tbl := List.mem_append_right _ (List.mem_of_getElem? (i := 894) (by decide +kernel))
theorem w_895 : Cond.stringRef "TwinKeepers" 182 "no such thing of a session" ∈ lw_tbl := List.mem_append_right _ (List.mem_of_getElem? (i := 895) (by decide +kernel))
theorem w_903 : Cond.stringRef "TwinKeepers" 184 "no such key" ∈ lw_tbl := List.mem_append_right _ (List.mem_of_getElem? (i := 903) (by decide +kernel))
theorem w_904 : Cond.stringRef "TwinKeepers" 186 "no such thing of a key" ∈ lw_tbl := List.mem_append_right _ (List.mem_of_getElem? (i := 904) (by decide +kernel))
theorem w_925 : Cond.stringRef "TwinKeepers" 202 "no such thing of a machine" ∈ lw_tbl := List.mem_append_right _ (List.mem_of_getElem? (i := 925) (by decide +kernel))
theorem w_933 : Cond.stringRef "TwinKeepers" 204 "the result has no such byte" ∈ lw_tbl := List.mem_append_right _ (List.mem_of_getElem? (i := 933) (by decide +kernel))
set_option maxRecDepth 100000 in
set_option maxHeartbeats 4000000 in
theorem whole_start {p : Program} {e : Env} {s : State} {m : MethodId} {below : List Frame} {meth : Method} {c : Code} (l : Launch) (hst : l.stackTraces = false) {b L : Nat} {xs : Nat → Int32} (hL : L ≤ 3072) (C0 : lw_At p s m meth c b L xs) : W p l e room_1 s m #[Value.ref b] below meth c s.heap [] 0 0 (lw_Z below #[Value.ref b] s) (entryFrame m ([Value.ref b] : List Value).toArray 7) := by
  obtain ⟨hx, hb, hr, hml, hown, hts, hX, hbl, hlocks, hgv, htab, hnm⟩ := C0
  have hs := flat_of_before _ hgv
  have hT : ∀ w ∈ xT, w.before #[Value.ref b] s = true := fun w hw => hts w (List.mem_filter.mp hw).1
  obtain ⟨c0, i0, k0⟩ := u_known (C := R_TK) (T := F_TK) (N := 6) (n := 6) hT i_TK (hT _ q_30)
  obtain ⟨c1, i1, k1⟩ := u_known (C := R_Ma) (T := F_Ma) (N := 3) (n := 3) hT i_Ma (hT _ q_38)
  obtain ⟨c2, i2, k2⟩ := u_known (C := R_KM) (T := F_KM) (N := 2) (n := 2) hT i_KM (hT _ q_70)
  obtain ⟨c3, i3, k3⟩ := u_known (C := R_Ro) (T := F_Ro) (N := 2) (n := 2) hT i_Ro (hT _ q_102)
  obtain ⟨c4, i4, k4⟩ := u_known (C := R_Se) (T := F_Se) (N := 5) (n := 5) hT i_Se (hT _ q_304)
  obtain ⟨c5, i5, k5⟩ := u_known (C := R_En) (T := F_En) (N := 2) (n := 2) hT i_En (hT _ q_705)
  obtain ⟨c6, i6, k6⟩ := u_known (C := R_Mo) (T := F_Mo) (N := 23) (n := 23) hT i_Mo (hT _ q_935)
  obtain ⟨c7, i7, k7⟩ := u_known (C := R_AL) (T := F_AL) (N := 3) (n := 3) hT i_AL (hT _ q_44)
  obtain ⟨cB, xB, mB, fB, gB, eB⟩ := Cond.arrayClass_spec (hT _ q_116)
  have aB : ArrOfT s cB .byte := fun N z => ⟨(fun k h => by cases h), xB, gB, mB, eB⟩
  obtain ⟨cL, xL, mL, fL, gL, eL⟩ := Cond.arrayClass_spec (hT _ q_1011)
  have aL : ArrOfT s cL .long := fun N z => ⟨(fun k h => by cases h), xL, gL, mL, eL⟩
  obtain ⟨cI, xI, mI, fI, gI, eI⟩ := Cond.arrayClass_spec (hT _ q_1010)
  have aI : ArrOfT s cI .int := fun N z => ⟨(fun k h => by cases h), xI, gI, mI, eI⟩
  obtain ⟨mO, cO, xO1, fc, -, gO, eO, fO⟩ := Cond.arrayOver_spec (hts _ w_384)
  have aO : ArrOfT s cO (.object "java/lang/Object") := fun N z => ⟨(fun k h => by cases h), xO1, gO, mO, eO⟩
  have hem1 : (Cond.arrayOf (.static "TwinKeepers" "EMPTY" "[B") .byte).before #[Value.ref b] s = true := hs _ (by decide +kernel)
  have hem2 : (Cond.eq (.length (.static "TwinKeepers" "EMPTY" "[B")) (.int 0)).before #[Value.ref b] s = true := hs _ (by decide +kernel)
  have hdc1 : (Cond.arrayOf (.static "java/util/ArrayList" "DEFAULTCAPACITY_EMPTY_ELEMENTDATA" "[Ljava/lang/Object;") (.object "java/lang/Object")).before #[Value.ref b] s = true := hs _ (by decide +kernel)
  have hdc2 : (Cond.eq (.length (.static "java/util/ArrayList" "DEFAULTCAPACITY_EMPTY_ELEMENTDATA" "[Ljava/lang/Object;")) (.int 0)).before #[Value.ref b] s = true := hs _ (by decide +kernel)
  have hdc3 : (Cond.exactly (.static "java/util/ArrayList" "DEFAULTCAPACITY_EMPTY_ELEMENTDATA" "[Ljava/lang/Object;") "[Ljava/lang/Object;").before #[Value.ref b] s = true := hs _ (by decide +kernel)
  obtain ⟨tE, cel, vE, y1, y2, y3, y4⟩ := len0 hem1 hem2
  obtain ⟨tD, ced, vD, z1, z2, z3, z4⟩ := len0 hdc1 hdc2
  obtain ⟨aD, clD, ced2, kD, w1, w2, w3, w4, w5, w6, -⟩ := Cond.exactly_spec hdc3
  cases vD.symm.trans w1
  cases z1.symm.trans w3
  have hcD : ced.cls = cO := w6.trans (Option.some.inj (w2.symm.trans fO))
  obtain ⟨mi, hmi⟩ := va_Mi.of (hs (Cond.isRef (.mirror "[Ljava/lang/Object;")) (by decide +kernel))
  obtain ⟨D, hD⟩ : ∃ D : va_G, D = (fun k => if k = 0 then c0 else if k = 1 then c1 else if k = 2 then c2 else if k = 3 then c3 else if k = 4 then c4 else if k = 5 then c5 else if k = 6 then c6 else if k = 7 then c7 else if k = 100 then cB else if k = 101 then cO else if k = 102 then cL else if k = 103 then cI else cel.cls, fun k => if k = 0 then i0 else if k = 1 then i1 else if k = 2 then i2 else if k = 3 then i3 else if k = 4 then i4 else if k = 5 then i5 else if k = 6 then i6 else if k = 7 then i7 else fun j => if j = 0 then tE else if j = 1 then tD else mi) := ⟨_, rfl⟩
  have hne : tE ≠ tD := fun h => by
    rw [h] at y1
    cases y1.symm.trans z1
    obtain ⟨-, ka, p1, ca, p2⟩ := y2
    obtain ⟨-, kb, p3, cb, p4⟩ := z2
    cases p1.symm.trans p3
    cases p2.symm.trans p4
  have d0 : D.1 100 = cB ∧ D.1 101 = cO ∧ D.1 102 = cL ∧ D.1 103 = cI ∧ D.1 110 = cel.cls := by rw [hD]; exact ⟨rfl, rfl, rfl, rfl, rfl⟩
  have d2 : D.2 200 0 = tE ∧ D.2 200 1 = tD ∧ D.2 200 2 = mi := by rw [hD]; exact ⟨rfl, rfl, rfl⟩
  have hKc : ∀ (k : Nat) (q : vw_C), xcl[k]? = some q → u_Kn s q.1 q.2.1 q.2.2 (D.1 k) (D.2 k) := by
    rw [hD]
    intro k q hq
    match k, hq with
    | 0, hq => cases hq; exact k0
    | 1, hq => cases hq; exact k1
    | 2, hq => cases hq; exact k2
    | 3, hq => cases hq; exact k3
    | 4, hq => cases hq; exact k4
    | 5, hq => cases hq; exact k5
    | 6, hq => cases hq; exact k6
    | 7, hq => cases hq; exact k7
    | k + 8, hq => simp [xcl] at hq
  have hKa : ∀ (k : Nat) (q : ClassId × FieldType), (xty D)[k]? = some q → ArrOfT s q.1 q.2 ∧ va_RA s q.1 q.2 := by
    intro k q hq
    match k, hq with
    | 0, hq => cases hq; rw [d0.1]; exact ⟨aB, fB⟩
    | 1, hq => cases hq; rw [d0.2.1]; exact ⟨aO, xO1, mO, gO, eO, fc, fO⟩
    | 2, hq => cases hq; rw [d0.2.2.1]; exact ⟨aL, fL⟩
    | 3, hq => cases hq; rw [d0.2.2.2.1]; exact ⟨aI, fI⟩
    | k + 4, hq => simp [xty] at hq
  have hnA : ∀ a : Nat, a < s.heap.size → ¬ xA s.heap a := fun a h9 => Nat.not_le.mpr h9
  have hK : xK D s.heap s := by
    refine ⟨⟨hKc, hKa⟩, va_AO.of (hts _ w_384), ?_, ?_, vx_Zqof (hts _ w_176) (hT _ q_9) (hs (Cond.isRef (.static "java/lang/Throwable" "UNASSIGNED_STACK" "[Ljava/lang/StackTraceElement;")) (by decide +kernel)) hnA, vx_Zqof (hts _ w_178) (hT _ q_9) (hs (Cond.isRef (.static "java/lang/Throwable" "SUPPRESSED_SENTINEL" "Ljava/util/List;")) (by decide +kernel)) hnA, ?_, ?_, ?_, ?_, ?_⟩
    · rw [d2.1]
      exact va_Zof (hts _ w_306) (hT _ q_1) vE hnA
    · rw [d2.2.1]
      exact va_Zof (hts _ w_56) (hT _ q_5) vD hnA
    · have hall : ∀ q ∈ xstr, (Cond.stringRef "TwinKeepers" q.1 q.2).before #[Value.ref b] s = true := by
        intro q hq
        simp only [xstr, List.mem_cons, List.not_mem_nil, or_false] at hq
        rcases hq with rfl | rfl | rfl | rfl | rfl | rfl | rfl | rfl | rfl | rfl | rfl | rfl
        · exact hts _ w_190
        · exact hts _ w_225
        · exact hts _ w_253
        · exact hts _ w_265
        · exact hts _ w_422
        · exact hts _ w_794
        · exact hts _ w_894
        · exact hts _ w_895
        · exact hts _ w_903
        · exact hts _ w_904
        · exact hts _ w_925
        · exact hts _ w_933
      intro q hq
      have h1 := hall q hq
      obtain ⟨_, _, _, a, -, -, -, -, -, hev⟩ := Cond.stringRef_spec (show s.vm.findClass "TwinKeepers" = some c0 from k0.2.1) h1
      exact ⟨a, vk_R.of h1 hev⟩
    · rw [d2.2.2]
      exact hmi
    · show ArrOfT s (D.1 110) .byte
      rw [d0.2.2.2.2]
      obtain ⟨p0, ka, p1, ca, p2⟩ := y2
      exact fun N z => ⟨(fun k h => by cases h), ka, p1, ca, p2⟩
    · exact va_Nc.of (hs (Cond.not (.castable "java/lang/IllegalStateException" "java/lang/IllegalArgumentException")) (by decide +kernel))
    · exact va_Nc.of (hs (Cond.not (.castable "java/lang/IllegalArgumentException" "java/lang/IndexOutOfBoundsException")) (by decide +kernel))
  obtain ⟨X0, hX0⟩ : ∃ X : xH, X = fun q => if q = tE then some (.inl (D.1 100, 0, .inl (fun _ => 0))) else if q = tD then some (.inl (D.1 101, 0, .inr (.inr (.inr (.inr (fun _ => none)))))) else none := ⟨_, rfl⟩
  have e1 : X0 (D.2 200 0) = some (.inl (D.1 100, 0, .inl (fun _ => 0))) := by rw [hX0, d2.1]; exact if_pos rfl
  have e2 : X0 (D.2 200 1) = some (.inl (D.1 101, 0, .inr (.inr (.inr (.inr (fun _ => none)))))) := by rw [hX0, d2.2.1]; exact (if_neg (Ne.symm hne)).trans (if_pos rfl)
  have hRep : xRep D s.heap X0 s.heap := by
    refine ⟨Nat.le_refl _, fun _ _ => rfl, fun a v ha => ?_⟩
    rw [hX0] at ha
    have ha : (if a = tE then some (Sum.inl (D.1 100, 0, Sum.inl (fun _ => (0 : Int32)))) else if a = tD then some (Sum.inl (D.1 101, 0, Sum.inr (Sum.inr (Sum.inr (Sum.inr (fun _ => (none : Option Nat))))))) else none) = some v := ha
    by_cases h1 : a = tE
    · rw [if_pos h1] at ha
      cases ha
      subst h1
      exact ⟨⟨cel, y1, Or.inr ⟨rfl, cel.cls, ⟨rfl, d0.2.2.2.2.symm⟩, rfl, y3, y2.1, by rw [y4]; rfl⟩⟩, Or.inr rfl⟩
    · rw [if_neg h1] at ha
      by_cases h2 : a = tD
      · rw [if_pos h2] at ha
        cases ha
        subst h2
        exact ⟨⟨ced, z1, Or.inl ⟨hcD.trans d0.2.1.symm, z3, z2.1, by rw [z4]; rfl⟩⟩, Or.inr rfl⟩
      · rw [if_neg h2] at ha
        cases ha
  have C : xCx (D, s.heap, p, l, e, xR 20 601024 7293034, s, m, #[Value.ref b], below, meth, c, xMQ D s.heap below s 601024 7293034 PT, 7) x code 7 (some .boolean) [] 20 601024 7293034 PT := ⟨hx, hb, hml, hown, hT, hK, hr, hlocks, rfl, rfl, Nat.le_refl _, hst, htab, hnm, rfl⟩
  have hg := law_main C hX hbl hL e1 e2
  rw [lg_entry_eq]
  have hW := hg s.heap [] ((lg_sl [Value.ref b] ++ List.replicate (7 - (lg_sl [Value.ref b]).length) Slot.unset).toArray) hRep va_S.rf (xLoc.of (show lv_has _ 7 (lv_args 0 [Value.ref b]) from lv_entry [Value.ref b] (Nat.le_of_ble_eq_true rfl)))
  exact xW_room (R' := xR 20 601024 7293034) (xW_mono (fun t ht => xMQ_lw ht) hW) (by decide) (by decide) (by decide) (by decide)
