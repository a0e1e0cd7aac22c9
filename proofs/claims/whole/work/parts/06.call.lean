/-! Contracts and calls. -/
def xCode (y : MethodName) (cc : ByteArray) (nL : Nat) (ret : Option FieldType) (hs : List (Nat × Nat × Nat × Nat)) : Prop := (hs = [] ∧ Cond.code y cc nL ret ∈ xT) ∨ Cond.codeWith y cc nL ret hs ∈ xT
theorem xCode.get {args : Array Value} {s : State} {y : MethodName} {cc : ByteArray} {nL : Nat} {ret : Option FieldType} {hs : List (Nat × Nat × Nat × Nat)} (hts : ∀ w ∈ xT, w.before args s = true) (h : xCode y cc nL ret hs) : ∃ mk meth c, s.methodNamed? y = some mk ∧ s.vm.method? mk = some meth ∧ meth.code = some c ∧ c.code = cc ∧ c.maxLocals = nL ∧ c.exceptionTable.toList.map (fun h => (h.startPc, h.endPc, h.handlerPc, h.catchType)) = hs ∧ meth.sig.returnType = ret ∧ meth.locks = false ∧ parseMethodDescriptor y.desc = some meth.sig := by
  rcases h with ⟨rfl, h⟩ | h
  · have hc := hts _ h
    obtain ⟨mk, hn⟩ := Cond.code_named hc
    obtain ⟨meth, c, h1, h2, h3, h4, h5, h6, h7, h8⟩ := Cond.code_spec hn hc
    refine ⟨mk, meth, c, hn, h1, h2, h3, h4, ?_, h5, h6, h8⟩
    have h9 : c.exceptionTable = #[] := by simpa using h7
    rw [h9]
    rfl
  · obtain ⟨mk, meth, c, hn, h1, h2, h3, h4, h5, h6, h7, h8⟩ := Cond.codeWith_spec (hts _ h)
    exact ⟨mk, meth, c, hn, h1, h2, h3, h4, h5, h6, h7, h8⟩
/-- a method's contract: from any heap that holds X, with these arguments: it ends as Post says; at most mc cells of ms slots are new -/
def xMet (l : Launch) (D : va_G) (H0 : Heap) (y : MethodName) (cc : ByteArray) (nL : Nat) (ret : Option FieldType) (hs : List (Nat × Nat × Nat × Nat)) (d mc ms : Nat) (av : List Value) (X : xH) (Post : xO → xH → Prop) : Prop :=
  ∃ L : List (Option Value), xas L = lv_args 0 av ∧ (lg_sl av).length ≤ nL ∧ ∀ E : xE, E.D = D → E.H0 = H0 → E.l = l → E.args = av.toArray → xCx E y cc nL ret hs d mc ms Post → xG E X 0 0 0 L []
theorem xSteps {tb : Tables} {e : Env} {mid below : List Frame} {a b : State} (h : Steps tb e (mid ++ below) a b) : Steps tb e below a b := by
  obtain ⟨n, hn, w⟩ := h
  exact ⟨n, hn, fun k hk => (w k hk).weaken⟩
theorem xMet.mono {l : Launch} {D : va_G} {H0 : Heap} {y : MethodName} {cc : ByteArray} {nL : Nat} {ret : Option FieldType} {hs : List (Nat × Nat × Nat × Nat)} {d mc ms : Nat} {av : List Value} {X : xH} {Post Post' : xO → xH → Prop} (h : xMet l D H0 y cc nL ret hs d mc ms av X Post) (hp : ∀ r X', Post r X' → Post' r X') : xMet l D H0 y cc nL ret hs d mc ms av X Post' := by
  obtain ⟨L, h1, h2, h3⟩ := h
  refine ⟨L, h1, h2, fun E e1 e2 e3 e5 C => ?_⟩
  obtain ⟨D', H0', p, l', e, R, s, m, args, below, meth, c, Q, n⟩ := E
  obtain ⟨c1, c2, c3, c4, c5, c6, c7, c8, c9, c10, c11, c12, c13, c14, c15⟩ := C
  have c10 : Q = xMQ D' H0' below s mc ms Post' := c10
  subst c10
  have hg := h3 (D', H0', p, l', e, R, s, m, args, below, meth, c, xMQ D' H0' below s mc ms Post, n) e1 e2 e3 e5 ⟨c1, c2, c3, c4, c5, c6, c7, c8, c9, rfl, c11, c12, c13, c14, c15⟩
  intro H locs ls g1 g2 g3
  refine xW_mono (fun t ht => ?_) (hg H locs ls g1 g2 g3)
  obtain ⟨o, r, X', Lc, t1, t2, t3, t4, t5, t6⟩ := ht
  exact ⟨o, r, X', Lc, t1, t2, t3, t4, hp _ _ t5, t6⟩
section XCL
variable {E : xE} {y : MethodName} {cc : ByteArray} {nL : Nat} {ret : Option FieldType} {hs : List (Nat × Nat × Nat × Nat)} {d mc ms : Nat} {Post : xO → xH → Prop} {X : xH} {cells slots pc : Nat} {L : List (Option Value)} {st : List Value}
variable {b : Nat} {y' : MethodName} {cc' : ByteArray} {nL' : Nat} {ret' : Option FieldType} {hs' : List (Nat × Nat × Nat × Nat)} {d' mc' ms' : Nat} {av : List Value} {Post' : xO → xH → Prop}
/-- where a call has thrown: an object a of the class Cn is on its way, at the call's pc -/
def xTh (E : xE) (X : xH) (cells slots pc : Nat) (L : List (Option Value)) (Cn : String) : Prop := ∀ (T : State) (locs : List Loc) (ls : Array Slot) (rest : List Value) (a : Nat) (cell : Cell), xRep E.D E.H0 X T.heap → va_S (fun q => E.H0.size ≤ q) E.s.heap T.heap locs → xLoc ls E.nL L → T.heap[a]? = some cell → cell.vm = .none → E.s.vm.findClass Cn = some cell.cls → Stand E.p E.l E.e E.R E.s E.m E.args E.below E.meth E.c T locs cells slots → ∃ t, Steps E.p.tables E.e E.below ((T.setTop (F0 E.m pc ls rest)).pushFrame (.throwing a)) t ∧ E.Q t
theorem xTh_out (C : xCx E y cc nL ret [] d mc ms Post) {Cn : String} (hc : cells ≤ mc) (hsl : slots ≤ ms) (hp : Post (.inr Cn) X) : xTh E X cells slots pc L Cn := by
  intro T locs ls rest a cell h1 h2 h3 c1 c2 c3 S
  have htab : ∀ x ∈ E.c.exceptionTable.toList, covers x pc = false := by
    have h := C.tb
    have h' : E.c.exceptionTable.toList = [] := by simpa using h
    intro x hx
    rw [h'] at hx
    cases hx
  have hlk := C.lk
  obtain ⟨hst, hrun, hend, hW, hsame⟩ := (stand_widen S hc hsl).leaveThrown a (g := F0 E.m pc ls rest) rfl rfl rfl htab hlk
  rw [C.qq]
  exact ⟨_, hst, .threw a, .inr Cn, X, locs, hrun, hend, ⟨a, cell, rfl, c1, c2, (S.warmed.alike.findClass Cn _).trans c3⟩, h1, hp, hW, hsame, h2.2.2⟩
theorem xS_call {D : va_G} {H0 : Heap} {s : State} {X X' : xH} {H H' : Heap} {locs Lc : List Loc} (h : va_S (fun q => H0.size ≤ q) s.heap H locs) (h1 : xRep D H0 X H) (h2 : xRep D H0 X' H') (z : H.size ≤ H'.size) (hL : ∀ q ∈ Lc, H0.size ≤ q.base) : va_S (fun q => H0.size ≤ q) s.heap H' (locs ++ Lc) := by
  refine ⟨Nat.le_trans h.1 z, fun q g1 g2 => ?_, fun q hq => ?_⟩
  · have g3 : q < H0.size := Nat.not_le.mp g2
    rw [h2.2.1 q g3, ← h1.2.1 q g3]
    exact h.2.1 q g1 g2
  · rcases List.mem_append.mp hq with g | g
    · exact h.2.2 q g
    · exact hL q g
set_option maxHeartbeats 1000000 in
theorem xEnter (C : xCx E y cc nL ret hs d mc ms Post) {T : State} {locs : List Loc} (S : Stand E.p E.l E.e E.R E.s E.m E.args E.below E.meth E.c T locs cells slots) (hM : xMet E.l E.D E.H0 y' cc' nL' ret' hs' d' mc' ms' av X Post') (hco : xCode y' cc' nL' ret' hs') (hpl : plainFor y' = true) (hX : xRep E.D E.H0 X T.heap) (hS : va_S (fun q => E.H0.size ≤ q) E.s.heap T.heap locs) {g : JFrame} (hg : g.method = E.m) (hsz : g.locals.size = E.c.maxLocals) {ig : Instr} {len : Nat} (hdg : decode E.c.code g.pc = .ok (ig, len)) {mk : MethodId} (hmk : E.s.methodNamed? y' = some mk) (hdd : d' + 1 ≤ d) (h40 : nL' ≤ 21) (hrc : cells + mc' ≤ mc) (hrs : slots + ms' ≤ ms) (hst : 2 * g.monitorRoom + (g.stack.map fun v => v.category).sum ≤ 8) :
    ∃ (T' : State) (Lc : List Loc) (r : xO) (X' : xH), Stand E.p E.l E.e E.R E.s E.m E.args E.below E.meth E.c T' (locs ++ Lc) (cells + mc') (slots + ms') ∧ xRep E.D E.H0 X' T'.heap ∧ va_S (fun q => E.H0.size ≤ q) E.s.heap T'.heap (locs ++ Lc) ∧ Post' r X' ∧
      match r with
      | .inl v => ∀ acts, Steps E.p.tables E.e E.below (doInvoke E.e (T.setTop g) acts mk av.toArray).1 (T'.setTop { g with pc := g.pc + len, stack := v.toList ++ g.stack })
      | .inr Cn => ∃ (a : Nat) (cell : Cell), T'.heap[a]? = some cell ∧ cell.vm = .none ∧ E.s.vm.findClass Cn = some cell.cls ∧ ∀ acts, Steps E.p.tables E.e E.below (doInvoke E.e (T.setTop g) acts mk av.toArray).1 ((T'.setTop g).pushFrame (.throwing a)) := by
  obtain ⟨mk2, methk, ck, hn2, hmeth, hcode, hcc, hnl, htab, hret, hlk, hsig⟩ := xCode.get C.ts hco
  cases hn2.symm.trans hmk
  have hal := S.warmed.alike
  have hmT : T.vm.method? mk = some methk := by rw [hal.method?]; exact hmeth
  have hnT : T.methodNamed? y' = some mk := S.named hmk
  have hpk : T.plainMethod mk := State.plainMethod.of_named hpl hnT hmT
  obtain ⟨S', hdo⟩ := S.into (R' := xR d' mc' ms') hg hsz hdg av.toArray hmT hcode hlk hpk (by rw [C.rm]; show d' + 8 + 1 ≤ d + 8; omega) (by rw [C.rm, hnl]; show _ + (nL' + 11) + 40 * (d' + 8) ≤ 40 * (d + 8); omega) (by rw [C.rm]; exact hrc) (by rw [C.rm]; exact hrs)
  obtain ⟨L, hL, hlen, hE⟩ := hM
  have hxg := hE (E.D, E.H0, E.p, E.l, E.e, xR d' mc' ms', T.calling g mk av.toArray, mk, av.toArray, .java g :: E.below, methk, ck, xMQ E.D E.H0 (.java g :: E.below) (T.calling g mk av.toArray) mc' ms' Post', nL') rfl rfl rfl rfl
    ⟨C.1, hcc, hnl, findClass_of_methodNamed hnT, fun w hw => xword w hw (s := E.s) (U := T.calling g mk av.toArray) S.warmed (C.ts w hw), xK.moved (u := E.s) (U := T.calling g mk av.toArray) S.warmed C.kk, hret, hlk, rfl, rfl, hX.1, C.tr, htab, (name_of_methodNamed hnT hmT).1, rfl⟩
  have hW := hxg T.heap [] ((lg_sl av ++ List.replicate (nL' - (lg_sl av).length) Slot.unset).toArray) hX va_S.rf (xLoc.of (by rw [hL]; exact lv_entry av hlen))
  obtain ⟨t, hsteps, o, r, X', Lc, h1, h2, h3, h4, h5, h6, h7, h8⟩ := hW ((T.setTop g).pushFrame (.java (entryFrame mk av.toArray ck.maxLocals))) rfl S'
  have hdo' : ∀ acts, (doInvoke E.e (T.setTop g) acts mk av.toArray).1 = ((T.setTop g).pushFrame (.java (entryFrame mk av.toArray ck.maxLocals))).setTop (F0 mk 0 ((lg_sl av ++ List.replicate (nL' - (lg_sl av).length) Slot.unset).toArray) []) := fun acts => by
    rw [hdo acts]
    congr 1
    rw [hnl, lg_entry_eq]
  cases r with
  | inl v =>
    have ho : o = .returned v := h3
    subst ho
    obtain ⟨T', S2, w2, sb, ht⟩ := S.outOf hg hdg h2 h6 h7
    have hh : t.heap = T'.heap := by rw [ht]; rfl
    rw [hh] at h4
    refine ⟨T', Lc, .inl v, X', S2, h4, xS_call hS hX h4 sb.2.1 h8, h5, fun acts => ?_⟩
    rw [hdo' acts, ← ht]
    exact xSteps (mid := [.java g]) hsteps
  | inr Cn =>
    obtain ⟨a, cell, ho, c1, c2, c3⟩ := h3
    subst ho
    obtain ⟨T', S2, w2, sb, ht⟩ := S.outOfThrown hg h2 h6 h7
    have hh : t.heap = T'.heap := by rw [ht]; rfl
    have hv : t.vm = T'.vm := by rw [ht]; rfl
    rw [hh] at h4 c1
    rw [hv] at c3
    refine ⟨T', Lc, .inr Cn, X', S2, h4, xS_call hS hX h4 sb.2.1 h8, h5, a, cell, c1, c2, (S2.warmed.alike.findClass Cn _).symm.trans c3, fun acts => ?_⟩
    rw [hdo' acts, ← ht]
    exact xSteps (mid := [.java g]) hsteps
theorem xarity {n : Nat} {sig : MethodDescriptor} (h : (parseMethodDescriptor y'.desc).map (fun d => d.parameters.length) = some n) (hs : parseMethodDescriptor y'.desc = some sig) : n = sig.parameters.length := by
  rw [hs] at h
  exact (Option.some.inj h).symm
theorem xr_callS (C : xCx E y cc nL ret hs d mc ms Post) (hM : xMet E.l E.D E.H0 y' cc' nL' ret' hs' d' mc' ms' av X Post') (hco : xCode y' cc' nL' ret' hs') {idx : Nat} (hd : decode cc pc = .ok (.invokestatic idx, 3)) (n : Nat) (hn : pc + 3 = n) (hl : Cond.methodLink y.cls idx y' ∈ xT ∨ ∃ host, Cond.methodLinkNest y.cls idx y' host ∈ xT) (hsta : Cond.static y' ∈ xT) (hini : Cond.initialized y'.cls ∈ xT) (hch : plainFor y' = true ∧ (y'.cls ≠ "java/lang/invoke/MethodHandle" ∧ y'.cls ≠ "java/lang/invoke/VarHandle") ∧ (parseMethodDescriptor y'.desc).map (fun d => d.parameters.length) = some av.length) {rest : List Value} (he : st = av.reverse ++ rest) (hnum : d' + 1 ≤ d ∧ nL' ≤ 21 ∧ (rest.map fun v => v.category).sum ≤ 8) (hrc : cells + mc' ≤ mc) (hrs : slots + ms' ≤ ms) (kr : ∀ (v : Option Value) (X' : xH), Post' (.inl v) X' → xG E X' (cells + mc') (slots + ms') n L (v.toList ++ rest)) (kt : ∀ (Cn : String) (X' : xH), Post' (.inr Cn) X' → xTh E X' (cells + mc') (slots + ms') pc L Cn) : xG E X cells slots pc L st := by
  subst hn
  subst he
  intro H locs ls h1 h2 h3 T hT S
  subst hT
  obtain ⟨mk, methk, ck, hn2, hmeth, hcode, hcc, hnl, htab, hret, hlk, hsig⟩ := xCode.get C.ts hco
  have hstatic := Cond.static_spec hn2 hmeth (C.ts _ hsta)
  obtain ⟨kP, hkP, -⟩ := className_of_methodNamed hn2
  have hinitP : kP.init = .initialized := Cond.initialized_spec (findClass_of_methodNamed hn2) hkP (C.ts _ hini)
  have hdc : decode E.c.code pc = .ok (.invokestatic idx, 3) := by rw [C.2.1]; exact hd
  obtain ⟨vm₁, S₁, hstep⟩ : ∃ vm', Stand E.p E.l E.e E.R E.s E.m E.args E.below E.meth E.c (T.setVm vm') locs cells slots ∧ ∀ target, (∀ acts, Steps E.p.tables E.e E.below (doInvoke E.e ((T.setVm vm').setTop { (F0 E.m pc ls (av.reverse ++ rest)) with stack := rest }) acts mk av.toArray).1 target) → Steps E.p.tables E.e E.below (T.setTop (F0 E.m pc ls (av.reverse ++ rest))) target := by
    rcases hl with hl | ⟨host, hl⟩
    · exact S.invokestatic C.1 C.ow (C.ts _ hl) hn2 hmeth hstatic hkP hinitP hch.2.1 (g := F0 E.m pc ls (av.reverse ++ rest)) rfl (argsL := av) (rest := rest) (xarity hch.2.2 hsig) rfl hdc
    · exact S.invokestaticNest C.1 C.ow (C.ts _ hl) hn2 hmeth hstatic hkP hinitP hch.2.1 (g := F0 E.m pc ls (av.reverse ++ rest)) rfl (argsL := av) (rest := rest) (xarity hch.2.2 hsig) rfl hdc
  obtain ⟨T', Lc, r, X', S2, hR', hS', hp, hgo⟩ := xEnter C S₁ hM hco hch.1 h1 h2 (g := F0 E.m pc ls rest) rfl (by rw [C.2.2.1]; exact h3.1) hdc hn2 hnum.1 hnum.2.1 hrc hrs (lv_room hnum.2.2)
  cases r with
  | inl v =>
    obtain ⟨t, a1, b1⟩ := kr v X' hp T'.heap (locs ++ Lc) ls hR' hS' h3 T' rfl S2
    exact ⟨t, hstep _ (fun acts => (hgo acts).trans a1), b1⟩
  | inr Cn =>
    obtain ⟨a, cell, c1, c2, c3, hgo⟩ := hgo
    obtain ⟨t, a1, b1⟩ := kt Cn X' hp T' (locs ++ Lc) ls rest a cell hR' hS' h3 c1 c2 c3 S2
    exact ⟨t, hstep _ (fun acts => (hgo acts).trans a1), b1⟩
theorem xr_callV (C : xCx E y cc nL ret hs d mc ms Post) (hM : xMet E.l E.D E.H0 y' cc' nL' ret' hs' d' mc' ms' (.ref b :: av) X Post') (hco : xCode y' cc' nL' ret' hs') {idx ci : Nat} {fs : List Value} {r : vw_C} (hd : decode cc pc = .ok (.invokevirtual idx, 3)) (n : Nat) (hn : pc + 3 = n) (hX : X b = some (.inr (ci, fs))) (hcl : xcl[ci]? = some r) (hl : Cond.methodLink y.cls idx y' ∈ xT ∨ ∃ host, Cond.methodLinkNest y.cls idx y' host ∈ xT) (hins : Cond.instanceMethod y' ∈ xT) (hse : Cond.selects r.1 y' y' ∈ xT) (hch : plainFor y' = true ∧ (y'.cls ≠ "java/lang/invoke/MethodHandle" ∧ y'.cls ≠ "java/lang/invoke/VarHandle") ∧ (parseMethodDescriptor y'.desc).map (fun d => d.parameters.length) = some av.length) {rest : List Value} (he : st = av.reverse ++ .ref b :: rest) (hnum : d' + 1 ≤ d ∧ nL' ≤ 21 ∧ (rest.map fun v => v.category).sum ≤ 8) (hrc : cells + mc' ≤ mc) (hrs : slots + ms' ≤ ms) (kr : ∀ (v : Option Value) (X' : xH), Post' (.inl v) X' → xG E X' (cells + mc') (slots + ms') n L (v.toList ++ rest)) (kt : ∀ (Cn : String) (X' : xH), Post' (.inr Cn) X' → xTh E X' (cells + mc') (slots + ms') pc L Cn) : xG E X cells slots pc L st := by
  subst hn
  subst he
  intro H locs ls h1 h2 h3 T hT S
  subst hT
  obtain ⟨mk, methM, hnamed, hmethM, hstM, habM⟩ := Cond.instanceMethod_spec (C.ts _ hins)
  obtain ⟨mk2, methk, ck, hn2, hmeth, hcode, hcc, hnl, htab, hret, hlk, hsig⟩ := xCode.get C.ts hco
  cases hnamed.symm.trans hn2
  cases hmethM.symm.trans hmeth
  obtain ⟨cellB, hcB, hoB, hclB⟩ := va_recv (q0 := 0) C.kk.1 (xP1 (h1.2.2 b _ hX).1) hcl rfl
  obtain ⟨c2, r2, m2, q1, q2, q3, q4, kP, hkP, hkPi⟩ := Cond.selects_spec (C.ts _ hse)
  cases hclB.symm.trans q1
  cases (State.methodFound?_of_named hnamed hch.2.1).symm.trans q2
  cases hnamed.symm.trans q3
  have hselP : selectMethod E.e.platform E.s.vm cellB.cls mk = .method mk := by rw [Launch.admits_selectMethod S.admits]; exact q4
  have hdc : decode E.c.code pc = .ok (.invokevirtual idx, 3) := by rw [C.2.1]; exact hd
  obtain ⟨vm₁, S₁, hstep⟩ : ∃ vm', Stand E.p E.l E.e E.R E.s E.m E.args E.below E.meth E.c (T.setVm vm') locs cells slots ∧ ∀ target, (∀ acts, Steps E.p.tables E.e E.below (doInvoke E.e ((T.setVm vm').setTop { (F0 E.m pc ls (av.reverse ++ .ref b :: rest)) with stack := rest }) acts mk (.ref b :: av).toArray).1 target) → Steps E.p.tables E.e E.below (T.setTop (F0 E.m pc ls (av.reverse ++ .ref b :: rest))) target := by
    rcases hl with hl | ⟨host, hl⟩
    · exact S.invokevirtual C.1 C.ow (C.ts _ hl) hnamed hmethM hstM hkP hkPi hch.2.1 (a := b) (cell := cellB) hcB (fun z h => by rw [h] at hoB; cases hoB) hselP hmethM habM hkP hkPi (g := F0 E.m pc ls (av.reverse ++ .ref b :: rest)) rfl (argsL := av) (rest := rest) (xarity hch.2.2 hsig) rfl hdc
    · exact S.invokevirtualNest C.1 C.ow (C.ts _ hl) hnamed hmethM hstM hkP hkPi hch.2.1 (a := b) (cell := cellB) hcB (fun z h => by rw [h] at hoB; cases hoB) hselP hmethM habM hkP hkPi (g := F0 E.m pc ls (av.reverse ++ .ref b :: rest)) rfl (argsL := av) (rest := rest) (xarity hch.2.2 hsig) rfl hdc
  obtain ⟨T', Lc, rr, X', S2, hR', hS', hp, hgo⟩ := xEnter C S₁ hM hco hch.1 h1 h2 (g := F0 E.m pc ls rest) rfl (by rw [C.2.2.1]; exact h3.1) hdc hn2 hnum.1 hnum.2.1 hrc hrs (lv_room hnum.2.2)
  cases rr with
  | inl v =>
    obtain ⟨t, a1, b1⟩ := kr v X' hp T'.heap (locs ++ Lc) ls hR' hS' h3 T' rfl S2
    exact ⟨t, hstep _ (fun acts => (hgo acts).trans a1), b1⟩
  | inr Cn =>
    obtain ⟨a, cell, c1, c2, c3, hgo⟩ := hgo
    obtain ⟨t, a1, b1⟩ := kt Cn X' hp T' (locs ++ Lc) ls rest a cell hR' hS' h3 c1 c2 c3 S2
    exact ⟨t, hstep _ (fun acts => (hgo acts).trans a1), b1⟩
theorem xr_callI (C : xCx E y cc nL ret hs d mc ms Post) (hM : xMet E.l E.D E.H0 y' cc' nL' none [] d' mc' ms' (.ref b :: av) X Post') (hco : Cond.code y' cc' nL' none ∈ xT) {idx : Nat} (hd : decode cc pc = .ok (.invokespecial idx, 3)) (n : Nat) (hn : pc + 3 = n) (hl : Cond.methodLink y.cls idx y' ∈ xT ∨ ∃ host, Cond.methodLinkNest y.cls idx y' host ∈ xT) (hins : Cond.instanceMethod y' ∈ xT) (hini : y'.name = "<init>") (hch : plainFor y' = true ∧ (y'.cls ≠ "java/lang/invoke/MethodHandle" ∧ y'.cls ≠ "java/lang/invoke/VarHandle") ∧ (parseMethodDescriptor y'.desc).map (fun d => d.parameters.length) = some av.length) {rest : List Value} (he : st = av.reverse ++ .ref b :: rest) (hnum : d' + 1 ≤ d ∧ nL' ≤ 21 ∧ (rest.map fun v => v.category).sum ≤ 8) (hrc : cells + mc' ≤ mc) (hrs : slots + ms' ≤ ms) (kr : ∀ (v : Option Value) (X' : xH), Post' (.inl v) X' → xG E X' (cells + mc') (slots + ms') n L (v.toList ++ rest)) (kt : ∀ (Cn : String) (X' : xH), Post' (.inr Cn) X' → xTh E X' (cells + mc') (slots + ms') pc L Cn) : xG E X cells slots pc L st := by
  subst hn
  subst he
  intro H locs ls h1 h2 h3 T hT S
  subst hT
  have hdc : decode E.c.code pc = .ok (.invokespecial idx, 3) := by rw [C.2.1]; exact hd
  have hplt : E.e.platform.magicAccessors = ({} : Platform).magicAccessors := by rw [S.admits.platform]
  obtain ⟨mk, vm₁, hnamed, hW₁, hstep⟩ : ∃ mk vm₁, E.s.methodNamed? y' = some mk ∧ E.s.WarmedH vm₁ ∧ ∀ target, (∀ acts, Steps E.p.tables E.e E.below (doInvoke E.e ((T.setVm vm₁).setTop (F0 E.m pc ls rest)) acts mk (.ref b :: av).toArray).1 target) → Steps E.p.tables E.e E.below (T.setTop (F0 E.m pc ls (av.reverse ++ .ref b :: rest))) target := by
    rcases hl with hl | ⟨host, hl⟩
    · obtain ⟨mk, methM, cM, kP, vm₁, hnamed, hmethM, hcodeM, -, hlocalsM, -, hkP, -, hW₁, hstep₁⟩ := Steps.initColdArgs (e := E.e) S.here C.1 S.warmed hplt C.ow hini hch.2.1 (C.ts _ hl) (C.ts _ hins) (C.ts _ hco) (f := F0 E.m pc ls (av.reverse ++ .ref b :: rest)) rfl (a := b) (argsL := av) (rest := rest) (fun sig h => xarity hch.2.2 h) rfl hdc
      exact ⟨mk, vm₁, hnamed, hW₁, hstep₁⟩
    · obtain ⟨mk, methM, cM, kP, vm₁, hnamed, hmethM, hcodeM, -, hlocalsM, -, hkP, -, hW₁, hstep₁⟩ := Steps.initColdArgsNest (e := E.e) S.here C.1 S.warmed hplt C.ow hini hch.2.1 (C.ts _ hl) (C.ts _ hins) (C.ts _ hco) (f := F0 E.m pc ls (av.reverse ++ .ref b :: rest)) rfl (a := b) (argsL := av) (rest := rest) (fun sig h => xarity hch.2.2 h) rfl hdc
      exact ⟨mk, vm₁, hnamed, hW₁, hstep₁⟩
  have S₁ := S.noted hW₁
  obtain ⟨T', Lc, rr, X', S2, hR', hS', hp, hgo⟩ := xEnter C S₁ hM (Or.inl ⟨rfl, hco⟩) hch.1 h1 h2 (g := F0 E.m pc ls rest) rfl (by rw [C.2.2.1]; exact h3.1) hdc hnamed hnum.1 hnum.2.1 hrc hrs (lv_room hnum.2.2)
  cases rr with
  | inl v =>
    obtain ⟨t, a1, b1⟩ := kr v X' hp T'.heap (locs ++ Lc) ls hR' hS' h3 T' rfl S2
    exact ⟨t, hstep _ (fun acts => (hgo acts).trans a1), b1⟩
  | inr Cn =>
    obtain ⟨a, cell, c1, c2, c3, hgo⟩ := hgo
    obtain ⟨t, a1, b1⟩ := kt Cn X' hp T' (locs ++ Lc) ls rest a cell hR' hS' h3 c1 c2 c3 S2
    exact ⟨t, hstep _ (fun acts => (hgo acts).trans a1), b1⟩
end XCL
