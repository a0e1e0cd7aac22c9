/-! The abstract heap: a partial map from addresses to cells; the judgement xG over it; a row an instruction. -/
abbrev xH : Type := Nat → Option va_E
def xup (X : xH) (a : Nat) (v : va_E) : xH := fun b => if b = a then some v else X b
theorem xup_self {X : xH} {a : Nat} {v : va_E} : xup X a v a = some v := if_pos rfl
theorem xup_ne {X : xH} {a b : Nat} {v : va_E} (h : b ≠ a) : xup X a v b = X b := if_neg h
theorem xup_at {X : xH} {a b : Nat} {v : va_E} (h : b = a) : xup X a v b = some v := if_pos h
theorem xup_up {X : xH} {a : Nat} {v w : va_E} : xup (xup X a v) a w = xup X a w := by
  funext b
  by_cases h : b = a
  · rw [xup_at h, xup_at h]
  · rw [xup_ne h, xup_ne h, xup_ne h]
theorem xup_comm {X : xH} {a b : Nat} {v w : va_E} (h : a ≠ b) : xup (xup X a v) b w = xup (xup X b w) a v := by
  funext q
  by_cases h1 : q = a
  · subst h1
    rw [xup_ne h, xup_self, xup_self]
  · by_cases h2 : q = b
    · subst h2
      rw [xup_self, xup_ne h1, xup_self]
    · rw [xup_ne h2, xup_ne h1, xup_ne h1, xup_ne h2]
theorem xup_id {X : xH} {a : Nat} {v : va_E} (h : X a = some v) : xup X a v = X := by
  funext q
  by_cases h1 : q = a
  · rw [xup_at h1, h1, h]
  · rw [xup_ne h1]
theorem xne {X : xH} {a b : Nat} {v w : va_E} (h1 : X a = some v) (h2 : X b = some w) (h : v ≠ w) : a ≠ b := fun e => h (Option.some.inj (h1.symm.trans (e ▸ h2)))
theorem xne_none {X : xH} {a b : Nat} {v : va_E} (h1 : X a = some v) (h2 : X b = none) : a ≠ b := fun e => by
  rw [e, h2] at h1
  cases h1
theorem xup_keep {X : xH} {a b : Nat} {v w : va_E} (h : X b = some w) (hn : b ≠ a) : xup X a v b = some w := (xup_ne hn).trans h
theorem xup_fresh {X : xH} {a b : Nat} {v w : va_E} (h : X b = some w) (hn : X a = none) : xup X a v b = some w := (xup_ne (xne_none h hn)).trans h
/-- a cell that may be an old one: an array of no elements (nothing can be written there) -/
def xz (v : va_E) : Prop := match v with
  | .inl x => x.2.1 = 0
  | .inr _ => False
/-- an array's cell: of its class, with these elements (its monitor and hash may be anything) -/
def xav (x : vp_A) : Nat → Value := match x.2 with
  | .inl f => fun j => .int (f j)
  | .inr (.inl f) => fun j => .long (f j)
  | .inr (.inr (.inl f)) => fun j => .float (f j)
  | .inr (.inr (.inr (.inl f))) => fun j => .double (f j)
  | .inr (.inr (.inr (.inr f))) => fun j => va_rf (f j)
def xac (cA : ClassId) (n : Nat) (g : Nat → Value) (c : Cell) : Prop := c.cls = cA ∧ c.vm ≠ .unknown ∧ (∀ k, c.vm ≠ .statics k) ∧ c.slots = (arrV cA n g).slots
def xal (D : va_G) (cA c' : ClassId) : Prop := cA = D.1 100 ∧ c' = D.1 110
def xat (D : va_G) (q : Nat × va_E) (H : Heap) : Prop := match q.2 with
  | .inl x => ∃ c : Cell, H[q.1]? = some c ∧ (xac x.1 x.2.1 (xav x.2) c ∨ x.2.1 = 0 ∧ ∃ c' : ClassId, xal D x.1 c' ∧ xac c' x.2.1 (xav x.2) c)
  | .inr o => ∃ r : vw_C, xcl[o.1]? = some r ∧ t_OB q.1 (D.1 o.1) r.2.2 (D.2 o.1) H (vp_V o.2)
theorem xat.kept {D : va_G} {q : Nat × va_E} {H H1 : Heap} (h : xat D q H) (hq : H1[q.1]? = H[q.1]?) : xat D q H1 := by
  obtain ⟨a, v⟩ := q
  cases v with
  | inl x =>
    obtain ⟨c, h1, h2⟩ := h
    exact ⟨c, hq.trans h1, h2⟩
  | inr o =>
    obtain ⟨r, h1, h2⟩ := h
    exact ⟨r, h1, h2.kept hq⟩
theorem xat.lt {D : va_G} {q : Nat × va_E} {H : Heap} (h : xat D q H) : q.1 < H.size := by
  obtain ⟨a, v⟩ := q
  cases v with
  | inl x =>
    obtain ⟨c, h1, -⟩ := h
    exact (Array.getElem?_eq_some_iff.mp h1).1
  | inr o =>
    obtain ⟨r, h1, cell, h2, -⟩ := h
    exact (Array.getElem?_eq_some_iff.mp h2).1
theorem xac_new (cA : ClassId) (n : Nat) (g : Nat → Value) : xac cA n g (arrV cA n g) := ⟨rfl, fun h => (by cases h), fun k h => (by cases h), rfl⟩
theorem xac.size {cA : ClassId} {n : Nat} {g : Nat → Value} {c : Cell} (h : xac cA n g c) : c.slots.size = n := by rw [h.2.2.2, arrV_size]
theorem xac.read {cA : ClassId} {n j : Nat} {g : Nat → Value} {c : Cell} (h : xac cA n g c) (hj : j < n) : c.slots[j]? = some (g j) := by rw [h.2.2.2, arrV_read cA g hj]
theorem xac.of {U : State} {cA : ClassId} {n : Nat} {g : Nat → Value} {c : Cell} {ty : FieldType} (h : xac cA n g c) (hT : ArrOfT U cA ty) : U.isArrayOf c ty := ⟨h.2.2.1, by rw [h.1]; exact (hT 0 (fun _ => .null)).2⟩
theorem xac.set {cA : ClassId} {n : Nat} {g g' : Nat → Value} {c : Cell} (h : xac cA n g c) (j : Nat) (v : Value) (hg : updV g j v = g') : xac cA n g' (c.setSlot j v) := by
  subst hg
  refine ⟨h.1, h.2.1, h.2.2.1, ?_⟩
  rw [← arrV_store]
  show c.slots.setIfInBounds j v = (arrV cA n g).slots.setIfInBounds j v
  rw [h.2.2.2]
/-- the heap H holds the cells of X; below the law's first heap H0 nothing has changed -/
def xRep (D : va_G) (H0 : Heap) (X : xH) (H : Heap) : Prop := H0.size ≤ H.size ∧ (∀ q : Nat, q < H0.size → H[q]? = H0[q]?) ∧ ∀ (a : Nat) (v : va_E), X a = some v → xat D (a, v) H ∧ (H0.size ≤ a ∨ xz v)
theorem xRep.put {D : va_G} {H0 : Heap} {X : xH} {H H' : Heap} {a : Nat} {v0 v : va_E} (h : xRep D H0 X H) (h0 : X a = some v0) (hz : ¬ xz v0) (he : xat D (a, v) H') (z : H'.size = H.size) (oq : ∀ q : Nat, q ≠ a → H'[q]? = H[q]?) : xRep D H0 (xup X a v) H' := by
  have ha : H0.size ≤ a := (h.2.2 a v0 h0).2.resolve_right hz
  refine ⟨by rw [z]; exact h.1, fun q hq => by rw [oq q (by omega)]; exact h.2.1 q hq, fun b w hb => ?_⟩
  by_cases hba : b = a
  · subst hba
    rw [xup_self] at hb
    cases hb
    exact ⟨he, Or.inl ha⟩
  · rw [xup_ne hba] at hb
    obtain ⟨h1, h2⟩ := h.2.2 b w hb
    exact ⟨h1.kept (oq b hba), h2⟩
theorem xRep.new {D : va_G} {H0 : Heap} {X : xH} {H H' : Heap} {v : va_E} (h : xRep D H0 X H) (he : xat D (H.size, v) H') (z : H'.size = H.size + 1) (o : ∀ q : Nat, q < H.size → H'[q]? = H[q]?) : X H.size = none ∧ xRep D H0 (xup X H.size v) H' := by
  have hf : ∀ (b : Nat) (w : va_E), X b = some w → b < H.size := fun b w hb => (h.2.2 b w hb).1.lt
  have hn : X H.size = none := by
    cases hx : X H.size with
    | none => rfl
    | some w => exact absurd (hf _ _ hx) (Nat.lt_irrefl _)
  refine ⟨hn, by have := h.1; omega, fun q hq => by rw [o q (by have := h.1; omega)]; exact h.2.1 q hq, fun b w hb => ?_⟩
  by_cases hba : b = H.size
  · subst hba
    rw [xup_self] at hb
    cases hb
    exact ⟨he, Or.inl h.1⟩
  · rw [xup_ne hba] at hb
    obtain ⟨h1, h2⟩ := h.2.2 b w hb
    exact ⟨h1.kept (o b (hf b w hb)), h2⟩
theorem xRep.more {D : va_G} {H0 : Heap} {X : xH} {H H' : Heap} (h : xRep D H0 X H) (z : H.size ≤ H'.size) (o : ∀ q : Nat, q < H.size → H'[q]? = H[q]?) : xRep D H0 X H' := by
  refine ⟨by have := h.1; omega, fun q hq => by rw [o q (by have := h.1; omega)]; exact h.2.1 q hq, fun b w hb => ?_⟩
  obtain ⟨h1, h2⟩ := h.2.2 b w hb
  exact ⟨h1.kept (o b h1.lt), h2⟩
/-! locals by their places -/
def xLoc (ls : Array Slot) (nL : Nat) (L : List (Option Value)) : Prop := ls.size = nL ∧ lv_wf ls ∧ ∀ (i : Nat) (v : Value), L[i]? = some (some v) → ls[i]? = some (.val v)
def xas (L : List (Option Value)) : List (Nat × Value) := (List.range L.length).filterMap (fun j => (L.getD j none).map (fun v => (j, v)))
theorem xas_mem {L : List (Option Value)} {q : Nat × Value} : q ∈ xas L ↔ L[q.1]? = some (some q.2) := by
  unfold xas
  rw [List.mem_filterMap]
  constructor
  · rintro ⟨j, hj, h⟩
    have hj' := List.mem_range.mp hj
    rw [List.getD_eq_getElem?_getD, List.getElem?_eq_getElem hj'] at h
    simp only [Option.getD_some] at h
    cases hv : L[j] with
    | none => rw [hv] at h; cases h
    | some v =>
      rw [hv] at h
      cases h
      rw [List.getElem?_eq_getElem hj', hv]
  · intro h
    have hlt : q.1 < L.length := (List.getElem?_eq_some_iff.mp h).1
    refine ⟨q.1, List.mem_range.mpr hlt, ?_⟩
    rw [List.getD_eq_getElem?_getD, h]
    rfl
theorem xLoc.has {ls : Array Slot} {nL : Nat} {L : List (Option Value)} (h : xLoc ls nL L) : lv_has ls nL (xas L) := ⟨h.1, h.2.1, fun q hq => h.2.2 q.1 q.2 (xas_mem.mp hq)⟩
/-- the local before place i is no long -/
def xprev (L : List (Option Value)) (i : Nat) : Bool := match i with
  | 0 => true
  | j + 1 => match L[j]? with
    | some (some v) => v.category == 1
    | _ => true
theorem xprev_use {L : List (Option Value)} {i j : Nat} {v : Value} (h : xprev L i = true) (hj : j + 1 = i) (hv : L[j]? = some (some v)) : v.category = 1 := by
  subst hj
  simp only [xprev, hv] at h
  simpa using h
theorem xLoc.set1 {ls ls' : Array Slot} {nL i : Nat} {L : List (Option Value)} {v : Value} (h : lv_has ls' nL ((i, v) :: (xas L).filter (fun q => !(q.1 == i) && !(q.1 + 1 == i && q.2.category == 2)))) (hp : xprev L i = true) : xLoc ls' nL (L.set i (some v)) := by
  refine ⟨h.1, h.2.1, fun j w hw => ?_⟩
  by_cases hj : i = j
  · subst hj
    have hlt : i < (L.set i (some v)).length := (List.getElem?_eq_some_iff.mp hw).1
    rw [List.length_set] at hlt
    rw [List.getElem?_set_self hlt] at hw
    cases hw
    exact h.2.2 (i, v) List.mem_cons_self
  · rw [List.getElem?_set_ne hj] at hw
    refine h.2.2 (j, w) (List.mem_cons_of_mem _ (List.mem_filter.mpr ⟨xas_mem.mpr hw, ?_⟩))
    have h1 : (j == i) = false := by simpa using Ne.symm hj
    by_cases hji : j + 1 = i
    · have := xprev_use hp hji hw
      simp [h1, this]
    · simp [h1, hji]
theorem xLoc.set2 {ls ls' : Array Slot} {nL i : Nat} {L : List (Option Value)} {v : Value} (h : lv_has ls' nL ((i, v) :: (xas L).filter (fun q => !(q.1 == i) && (!(q.1 == i + 1) && !(q.1 + 1 == i && q.2.category == 2))))) (hp : xprev L i = true) : xLoc ls' nL ((L.set i (some v)).set (i + 1) none) := by
  refine ⟨h.1, h.2.1, fun j w hw => ?_⟩
  by_cases hj : i + 1 = j
  · subst hj
    have hlt : i + 1 < ((L.set i (some v)).set (i + 1) none).length := (List.getElem?_eq_some_iff.mp hw).1
    rw [List.length_set] at hlt
    rw [List.getElem?_set_self hlt] at hw
    cases hw
  · rw [List.getElem?_set_ne hj] at hw
    by_cases hi : i = j
    · subst hi
      have hlt : i < (L.set i (some v)).length := (List.getElem?_eq_some_iff.mp hw).1
      rw [List.length_set] at hlt
      rw [List.getElem?_set_self hlt] at hw
      cases hw
      exact h.2.2 (i, v) List.mem_cons_self
    · rw [List.getElem?_set_ne hi] at hw
      refine h.2.2 (j, w) (List.mem_cons_of_mem _ (List.mem_filter.mpr ⟨xas_mem.mpr hw, ?_⟩))
      have h1 : (j == i) = false := by simpa using Ne.symm hi
      have h2 : (j == i + 1) = false := by simpa using Ne.symm hj
      by_cases hji : j + 1 = i
      · have := xprev_use hp hji hw
        simp [h1, h2, this]
      · simp [h1, h2, hji]

theorem xLoc.of {ls : Array Slot} {nL : Nat} {L : List (Option Value)} (h : lv_has ls nL (xas L)) : xLoc ls nL L := ⟨h.1, h.2.1, fun i v hv => h.2.2 (i, v) (xas_mem.mpr hv)⟩
/-! what stays fixed in a walk: the class numbers, the law's first heap, and all that W has -/
abbrev xE : Type := va_G × Heap × Program × Launch × Env × Room × State × MethodId × Array Value × List Frame × Method × Code × (State → Prop) × Nat
abbrev xE.D (E : xE) : va_G := E.1
abbrev xE.H0 (E : xE) : Heap := E.2.1
abbrev xE.p (E : xE) : Program := E.2.2.1
abbrev xE.l (E : xE) : Launch := E.2.2.2.1
abbrev xE.e (E : xE) : Env := E.2.2.2.2.1
abbrev xE.R (E : xE) : Room := E.2.2.2.2.2.1
abbrev xE.s (E : xE) : State := E.2.2.2.2.2.2.1
abbrev xE.m (E : xE) : MethodId := E.2.2.2.2.2.2.2.1
abbrev xE.args (E : xE) : Array Value := E.2.2.2.2.2.2.2.2.1
abbrev xE.below (E : xE) : List Frame := E.2.2.2.2.2.2.2.2.2.1
abbrev xE.meth (E : xE) : Method := E.2.2.2.2.2.2.2.2.2.2.1
abbrev xE.c (E : xE) : Code := E.2.2.2.2.2.2.2.2.2.2.2.1
abbrev xE.Q (E : xE) : State → Prop := E.2.2.2.2.2.2.2.2.2.2.2.2.1
abbrev xE.nL (E : xE) : Nat := E.2.2.2.2.2.2.2.2.2.2.2.2.2
/-- how a method ends: it returns, or throws an object of that class -/
abbrev xO : Type := Option Value ⊕ String
def xOut (o : Outcome) (r : xO) (t : State) : Prop := match r with
  | .inl v => o = .returned v
  | .inr C => ∃ (a : Nat) (cell : Cell), o = .threw a ∧ t.heap[a]? = some cell ∧ cell.vm = .none ∧ t.vm.findClass C = some cell.cls
def xMQ (D : va_G) (H0 : Heap) (below : List Frame) (s : State) (mc ms : Nat) (Post : xO → xH → Prop) : State → Prop := fun t => ∃ (o : Outcome) (r : xO) (X : xH) (L : List Loc), t.status = .running ∧ Ended t below o ∧ xOut o r t ∧ xRep D H0 X t.heap ∧ Post r X ∧ s.WarmedH t.vm ∧ s.sameButNew ({ t with vm := s.vm } : State) L mc ms ∧ ∀ q ∈ L, H0.size ≤ q.base
/-- the room of a method with d levels of calls below it -/
def xR (d mc ms : Nat) : Room := { frames := d + 8, cells := mc, slots := ms, locals := 40 * (d + 8) }
def xCx (E : xE) (y : MethodName) (cc : ByteArray) (nL : Nat) (ret : Option FieldType) (hs : List (Nat × Nat × Nat × Nat)) (d mc ms : Nat) (Post : xO → xH → Prop) : Prop :=
  E.p.tables.exec = Jvm.exec ∧ E.c.code = cc ∧ E.c.maxLocals = E.nL ∧ E.s.vm.findClass y.cls = some E.m.cls ∧ (∀ w ∈ xT, w.before E.args E.s = true) ∧ xK E.D E.H0 E.s ∧ E.meth.sig.returnType = ret ∧ E.meth.locks = false ∧ E.R = xR d mc ms ∧ E.Q = xMQ E.D E.H0 E.below E.s mc ms Post ∧ E.H0.size ≤ E.s.heap.size ∧ E.l.stackTraces = false ∧ E.c.exceptionTable.toList.map (fun h => (h.startPc, h.endPc, h.handlerPc, h.catchType)) = hs ∧ E.meth.name = y.name ∧ E.nL = nL
/-- the machine, at pc with locals L and stack st, over any heap that holds X, comes to its end -/
def xG (E : xE) (X : xH) (cells slots pc : Nat) (L : List (Option Value)) (st : List Value) : Prop :=
  ∀ (H : Heap) (locs : List Loc) (ls : Array Slot), xRep E.D E.H0 X H → va_S (fun q => E.H0.size ≤ q) E.s.heap H locs → xLoc ls E.nL L → W E.p E.l E.e E.R E.s E.m E.args E.below E.meth E.c H locs cells slots E.Q (F0 E.m pc ls st)
section XR
variable {E : xE} {y : MethodName} {cc : ByteArray} {nL : Nat} {ret : Option FieldType} {hs : List (Nat × Nat × Nat × Nat)} {d mc ms : Nat} {Post : xO → xH → Prop} {X : xH} {cells slots pc : Nat} {L : List (Option Value)} {st : List Value}
theorem xCx.ow (C : xCx E y cc nL ret hs d mc ms Post) : E.s.vm.findClass y.cls = some E.m.cls := C.2.2.2.1
theorem xCx.ts (C : xCx E y cc nL ret hs d mc ms Post) : ∀ w ∈ xT, w.before E.args E.s = true := C.2.2.2.2.1
theorem xCx.kk (C : xCx E y cc nL ret hs d mc ms Post) : xK E.D E.H0 E.s := C.2.2.2.2.2.1
theorem xCx.rt (C : xCx E y cc nL ret hs d mc ms Post) : E.meth.sig.returnType = ret := C.2.2.2.2.2.2.1
theorem xCx.lk (C : xCx E y cc nL ret hs d mc ms Post) : E.meth.locks = false := C.2.2.2.2.2.2.2.1
theorem xCx.rm (C : xCx E y cc nL ret hs d mc ms Post) : E.R = xR d mc ms := C.2.2.2.2.2.2.2.2.1
theorem xCx.qq (C : xCx E y cc nL ret hs d mc ms Post) : E.Q = xMQ E.D E.H0 E.below E.s mc ms Post := C.2.2.2.2.2.2.2.2.2.1
theorem xCx.h0 (C : xCx E y cc nL ret hs d mc ms Post) : E.H0.size ≤ E.s.heap.size := C.2.2.2.2.2.2.2.2.2.2.1
theorem xCx.tr (C : xCx E y cc nL ret hs d mc ms Post) : E.l.stackTraces = false := C.2.2.2.2.2.2.2.2.2.2.2.1
theorem xCx.tb (C : xCx E y cc nL ret hs d mc ms Post) : E.c.exceptionTable.toList.map (fun h => (h.startPc, h.endPc, h.handlerPc, h.catchType)) = hs := C.2.2.2.2.2.2.2.2.2.2.2.2.1
theorem xCx.nm (C : xCx E y cc nL ret hs d mc ms Post) : E.meth.name = y.name := C.2.2.2.2.2.2.2.2.2.2.2.2.2.1
theorem xCx.nl (C : xCx E y cc nL ret hs d mc ms Post) : E.nL = nL := C.2.2.2.2.2.2.2.2.2.2.2.2.2.2
theorem xG.eqX {X' : xH} (h : X = X') (k : xG E X' cells slots pc L st) : xG E X cells slots pc L st := h ▸ k
theorem xG.eqL {L' : List (Option Value)} (h : L = L') (k : xG E X cells slots pc L' st) : xG E X cells slots pc L st := h ▸ k
theorem xG.eqS {st' : List Value} (h : st = st') (k : xG E X cells slots pc L st') : xG E X cells slots pc L st := h ▸ k
theorem xG.wide {c2 s2 : Nat} (h1 : cells ≤ c2) (h2 : slots ≤ s2) (k : xG E X c2 s2 pc L st) : xG E X cells slots pc L st := fun H locs ls a b c => W.widen h1 h2 (k H locs ls a b c)
theorem xr_topi {x : Int32} (k : ∀ z : Int32, z = x → xG E X cells slots pc L (.int z :: st)) : xG E X cells slots pc L (.int x :: st) := k x rfl
theorem xr_topl {x : Int64} (k : ∀ z : Int64, z = x → xG E X cells slots pc L (.long z :: st)) : xG E X cells slots pc L (.long x :: st) := k x rfl
theorem xr_toi {x z : Int32} (h : x = z) (k : xG E X cells slots pc L (.int z :: st)) : xG E X cells slots pc L (.int x :: st) := h ▸ k
theorem xr_tol {x z : Int64} (h : x = z) (k : xG E X cells slots pc L (.long z :: st)) : xG E X cells slots pc L (.long x :: st) := h ▸ k

theorem xr_iconst (C : xCx E y cc nL ret hs d mc ms Post) {j : Int} {v : Int32} (hd : decode cc pc = .ok (.iconst j, 1)) (n : Nat) (hn : pc + 1 = n) (hv : Int32.ofInt j = v) (k : xG E X cells slots n L (.int v :: st)) : xG E X cells slots pc L (st) := by
  subst hn
  intro H locs ls h1 h2 h3
  exact lv_iconst C.1 C.2.1 hd hv (k H locs ls h1 h2 h3)
theorem xr_bipush (C : xCx E y cc nL ret hs d mc ms Post) {j : Int} {v : Int32} (hd : decode cc pc = .ok (.bipush j, 2)) (n : Nat) (hn : pc + 2 = n) (hv : (Int8.ofInt j).toInt32 = v) (k : xG E X cells slots n L (.int v :: st)) : xG E X cells slots pc L (st) := by
  subst hn
  intro H locs ls h1 h2 h3
  exact lv_bipush C.1 C.2.1 hd hv (k H locs ls h1 h2 h3)
theorem xr_sipush (C : xCx E y cc nL ret hs d mc ms Post) {j : Int} {v : Int32} (hd : decode cc pc = .ok (.sipush j, 3)) (n : Nat) (hn : pc + 3 = n) (hv : (Int16.ofInt j).toInt32 = v) (k : xG E X cells slots n L (.int v :: st)) : xG E X cells slots pc L (st) := by
  subst hn
  intro H locs ls h1 h2 h3
  exact lv_sipush C.1 C.2.1 hd hv (k H locs ls h1 h2 h3)
theorem xr_lconst (C : xCx E y cc nL ret hs d mc ms Post) {j : Fin 2} {v : Int64} (hd : decode cc pc = .ok (.lconst j, 1)) (n : Nat) (hn : pc + 1 = n) (hv : Int64.ofNat (j : Nat) = v) (k : xG E X cells slots n L (.long v :: st)) : xG E X cells slots pc L (st) := by
  subst hn
  intro H locs ls h1 h2 h3
  exact lv_lconst C.1 C.2.1 hd hv (k H locs ls h1 h2 h3)
theorem xr_iload_n (C : xCx E y cc nL ret hs d mc ms Post) {i : Fin 4} {x : Int32} (hd : decode cc pc = .ok (.iload_n i, 1)) (n : Nat) (hn : pc + 1 = n) (hl : L[(i : Nat)]? = some (some (.int x))) (k : xG E X cells slots n L (.int x :: st)) : xG E X cells slots pc L (st) := by
  subst hn
  intro H locs ls h1 h2 h3
  exact lv_iload_n C.1 C.2.1 hd rfl (h3.2.2 _ _ hl) (k H locs ls h1 h2 h3)
theorem xr_iload (C : xCx E y cc nL ret hs d mc ms Post) {i : Nat} {x : Int32} (hd : decode cc pc = .ok (.iload i, 2)) (n : Nat) (hn : pc + 2 = n) (hl : L[i]? = some (some (.int x))) (k : xG E X cells slots n L (.int x :: st)) : xG E X cells slots pc L (st) := by
  subst hn
  intro H locs ls h1 h2 h3
  exact lv_iload C.1 C.2.1 hd (h3.2.2 _ _ hl) (k H locs ls h1 h2 h3)
theorem xr_lload_n (C : xCx E y cc nL ret hs d mc ms Post) {i : Fin 4} {x : Int64} (hd : decode cc pc = .ok (.lload_n i, 1)) (n : Nat) (hn : pc + 1 = n) (hl : L[(i : Nat)]? = some (some (.long x))) (k : xG E X cells slots n L (.long x :: st)) : xG E X cells slots pc L (st) := by
  subst hn
  intro H locs ls h1 h2 h3
  exact lv_lload_n C.1 C.2.1 hd rfl (h3.2.2 _ _ hl) (k H locs ls h1 h2 h3)
theorem xr_lload (C : xCx E y cc nL ret hs d mc ms Post) {i : Nat} {x : Int64} (hd : decode cc pc = .ok (.lload i, 2)) (n : Nat) (hn : pc + 2 = n) (hl : L[i]? = some (some (.long x))) (k : xG E X cells slots n L (.long x :: st)) : xG E X cells slots pc L (st) := by
  subst hn
  intro H locs ls h1 h2 h3
  exact lv_lload C.1 C.2.1 hd (h3.2.2 _ _ hl) (k H locs ls h1 h2 h3)
theorem xr_aload_n (C : xCx E y cc nL ret hs d mc ms Post) {i : Fin 4} {x : Nat} (hd : decode cc pc = .ok (.aload_n i, 1)) (n : Nat) (hn : pc + 1 = n) (hl : L[(i : Nat)]? = some (some (.ref x))) (k : xG E X cells slots n L (.ref x :: st)) : xG E X cells slots pc L (st) := by
  subst hn
  intro H locs ls h1 h2 h3
  exact lv_aload_n C.1 C.2.1 hd rfl (h3.2.2 _ _ hl) (k H locs ls h1 h2 h3)
theorem xr_aload (C : xCx E y cc nL ret hs d mc ms Post) {i : Nat} {x : Nat} (hd : decode cc pc = .ok (.aload i, 2)) (n : Nat) (hn : pc + 2 = n) (hl : L[i]? = some (some (.ref x))) (k : xG E X cells slots n L (.ref x :: st)) : xG E X cells slots pc L (st) := by
  subst hn
  intro H locs ls h1 h2 h3
  exact lv_aload C.1 C.2.1 hd (h3.2.2 _ _ hl) (k H locs ls h1 h2 h3)
theorem xr_aload_nN (C : xCx E y cc nL ret hs d mc ms Post) {i : Fin 4} (hd : decode cc pc = .ok (.aload_n i, 1)) (n : Nat) (hn : pc + 1 = n) (hl : L[(i : Nat)]? = some (some .null)) (k : xG E X cells slots n L (.null :: st)) : xG E X cells slots pc L (st) := by
  subst hn
  intro H locs ls h1 h2 h3
  exact lv_aload_nN C.1 C.2.1 hd rfl (h3.2.2 _ _ hl) (k H locs ls h1 h2 h3)
theorem xr_aloadN (C : xCx E y cc nL ret hs d mc ms Post) {i : Nat} (hd : decode cc pc = .ok (.aload i, 2)) (n : Nat) (hn : pc + 2 = n) (hl : L[i]? = some (some .null)) (k : xG E X cells slots n L (.null :: st)) : xG E X cells slots pc L (st) := by
  subst hn
  intro H locs ls h1 h2 h3
  exact lv_aloadN C.1 C.2.1 hd (h3.2.2 _ _ hl) (k H locs ls h1 h2 h3)
theorem xr_null (C : xCx E y cc nL ret hs d mc ms Post) (hd : decode cc pc = .ok (.aconst_null, 1)) (n : Nat) (hn : pc + 1 = n) (k : xG E X cells slots n L (.null :: st)) : xG E X cells slots pc L (st) := by
  subst hn
  intro H locs ls h1 h2 h3
  exact lv_null C.1 C.2.1 hd (k H locs ls h1 h2 h3)
theorem xr_iadd (C : xCx E y cc nL ret hs d mc ms Post) {x z : Int32} (hd : decode cc pc = .ok (.iadd, 1)) (n : Nat) (hn : pc + 1 = n) (k : xG E X cells slots n L (.int (x + z) :: st)) : xG E X cells slots pc L (.int z :: .int x :: st) := by
  subst hn
  intro H locs ls h1 h2 h3
  exact lv_iadd C.1 C.2.1 hd (k H locs ls h1 h2 h3)
theorem xr_isub (C : xCx E y cc nL ret hs d mc ms Post) {x z : Int32} (hd : decode cc pc = .ok (.isub, 1)) (n : Nat) (hn : pc + 1 = n) (k : xG E X cells slots n L (.int (x - z) :: st)) : xG E X cells slots pc L (.int z :: .int x :: st) := by
  subst hn
  intro H locs ls h1 h2 h3
  exact lv_isub C.1 C.2.1 hd (k H locs ls h1 h2 h3)
theorem xr_imul (C : xCx E y cc nL ret hs d mc ms Post) {x z : Int32} (hd : decode cc pc = .ok (.imul, 1)) (n : Nat) (hn : pc + 1 = n) (k : xG E X cells slots n L (.int (x * z) :: st)) : xG E X cells slots pc L (.int z :: .int x :: st) := by
  subst hn
  intro H locs ls h1 h2 h3
  exact lv_imul C.1 C.2.1 hd (k H locs ls h1 h2 h3)
theorem xr_iand (C : xCx E y cc nL ret hs d mc ms Post) {x z : Int32} (hd : decode cc pc = .ok (.iand, 1)) (n : Nat) (hn : pc + 1 = n) (k : xG E X cells slots n L (.int (x &&& z) :: st)) : xG E X cells slots pc L (.int z :: .int x :: st) := by
  subst hn
  intro H locs ls h1 h2 h3
  exact lv_iand C.1 C.2.1 hd (k H locs ls h1 h2 h3)
theorem xr_ior (C : xCx E y cc nL ret hs d mc ms Post) {x z : Int32} (hd : decode cc pc = .ok (.ior, 1)) (n : Nat) (hn : pc + 1 = n) (k : xG E X cells slots n L (.int (x ||| z) :: st)) : xG E X cells slots pc L (.int z :: .int x :: st) := by
  subst hn
  intro H locs ls h1 h2 h3
  exact lv_ior C.1 C.2.1 hd (k H locs ls h1 h2 h3)
theorem xr_ixor (C : xCx E y cc nL ret hs d mc ms Post) {x z : Int32} (hd : decode cc pc = .ok (.ixor, 1)) (n : Nat) (hn : pc + 1 = n) (k : xG E X cells slots n L (.int (x ^^^ z) :: st)) : xG E X cells slots pc L (.int z :: .int x :: st) := by
  subst hn
  intro H locs ls h1 h2 h3
  exact lv_ixor C.1 C.2.1 hd (k H locs ls h1 h2 h3)
theorem xr_ishl (C : xCx E y cc nL ret hs d mc ms Post) {x z : Int32} (hd : decode cc pc = .ok (.ishl, 1)) (n : Nat) (hn : pc + 1 = n) (k : xG E X cells slots n L (.int (x <<< (z &&& 31)) :: st)) : xG E X cells slots pc L (.int z :: .int x :: st) := by
  subst hn
  intro H locs ls h1 h2 h3
  exact lv_ishl C.1 C.2.1 hd (k H locs ls h1 h2 h3)
theorem xr_ishr (C : xCx E y cc nL ret hs d mc ms Post) {x z : Int32} (hd : decode cc pc = .ok (.ishr, 1)) (n : Nat) (hn : pc + 1 = n) (k : xG E X cells slots n L (.int (x >>> (z &&& 31)) :: st)) : xG E X cells slots pc L (.int z :: .int x :: st) := by
  subst hn
  intro H locs ls h1 h2 h3
  exact lv_ishr C.1 C.2.1 hd (k H locs ls h1 h2 h3)
theorem xr_idiv (C : xCx E y cc nL ret hs d mc ms Post) {x z : Int32} (hd : decode cc pc = .ok (.idiv, 1)) (n : Nat) (hn : pc + 1 = n) (hz : ¬ z = 0) (k : xG E X cells slots n L (.int (x / z) :: st)) : xG E X cells slots pc L (.int z :: .int x :: st) := by
  subst hn
  intro H locs ls h1 h2 h3
  exact lv_idiv C.1 C.2.1 hd hz (k H locs ls h1 h2 h3)
theorem xr_irem (C : xCx E y cc nL ret hs d mc ms Post) {x z : Int32} (hd : decode cc pc = .ok (.irem, 1)) (n : Nat) (hn : pc + 1 = n) (hz : ¬ z = 0) (k : xG E X cells slots n L (.int (x - x / z * z) :: st)) : xG E X cells slots pc L (.int z :: .int x :: st) := by
  subst hn
  intro H locs ls h1 h2 h3
  exact lv_irem C.1 C.2.1 hd hz (k H locs ls h1 h2 h3)
theorem xr_ineg (C : xCx E y cc nL ret hs d mc ms Post) {x : Int32} (hd : decode cc pc = .ok (.ineg, 1)) (n : Nat) (hn : pc + 1 = n) (k : xG E X cells slots n L (.int (-x) :: st)) : xG E X cells slots pc L (.int x :: st) := by
  subst hn
  intro H locs ls h1 h2 h3
  exact lv_ineg C.1 C.2.1 hd (k H locs ls h1 h2 h3)
theorem xr_ladd (C : xCx E y cc nL ret hs d mc ms Post) {x z : Int64} (hd : decode cc pc = .ok (.ladd, 1)) (n : Nat) (hn : pc + 1 = n) (k : xG E X cells slots n L (.long (x + z) :: st)) : xG E X cells slots pc L (.long z :: .long x :: st) := by
  subst hn
  intro H locs ls h1 h2 h3
  exact lv_ladd C.1 C.2.1 hd (k H locs ls h1 h2 h3)
theorem xr_lsub (C : xCx E y cc nL ret hs d mc ms Post) {x z : Int64} (hd : decode cc pc = .ok (.lsub, 1)) (n : Nat) (hn : pc + 1 = n) (k : xG E X cells slots n L (.long (x - z) :: st)) : xG E X cells slots pc L (.long z :: .long x :: st) := by
  subst hn
  intro H locs ls h1 h2 h3
  exact lv_lsub C.1 C.2.1 hd (k H locs ls h1 h2 h3)
theorem xr_lmul (C : xCx E y cc nL ret hs d mc ms Post) {x z : Int64} (hd : decode cc pc = .ok (.lmul, 1)) (n : Nat) (hn : pc + 1 = n) (k : xG E X cells slots n L (.long (x * z) :: st)) : xG E X cells slots pc L (.long z :: .long x :: st) := by
  subst hn
  intro H locs ls h1 h2 h3
  exact lv_lmul C.1 C.2.1 hd (k H locs ls h1 h2 h3)
theorem xr_land (C : xCx E y cc nL ret hs d mc ms Post) {x z : Int64} (hd : decode cc pc = .ok (.land, 1)) (n : Nat) (hn : pc + 1 = n) (k : xG E X cells slots n L (.long (x &&& z) :: st)) : xG E X cells slots pc L (.long z :: .long x :: st) := by
  subst hn
  intro H locs ls h1 h2 h3
  exact lv_land C.1 C.2.1 hd (k H locs ls h1 h2 h3)
theorem xr_lor (C : xCx E y cc nL ret hs d mc ms Post) {x z : Int64} (hd : decode cc pc = .ok (.lor, 1)) (n : Nat) (hn : pc + 1 = n) (k : xG E X cells slots n L (.long (x ||| z) :: st)) : xG E X cells slots pc L (.long z :: .long x :: st) := by
  subst hn
  intro H locs ls h1 h2 h3
  exact lv_lor C.1 C.2.1 hd (k H locs ls h1 h2 h3)
theorem xr_lxor (C : xCx E y cc nL ret hs d mc ms Post) {x z : Int64} (hd : decode cc pc = .ok (.lxor, 1)) (n : Nat) (hn : pc + 1 = n) (k : xG E X cells slots n L (.long (x ^^^ z) :: st)) : xG E X cells slots pc L (.long z :: .long x :: st) := by
  subst hn
  intro H locs ls h1 h2 h3
  exact lv_lxor C.1 C.2.1 hd (k H locs ls h1 h2 h3)
theorem xr_i2l (C : xCx E y cc nL ret hs d mc ms Post) {x : Int32} {v : Int64} (hd : decode cc pc = .ok (.i2l, 1)) (n : Nat) (hn : pc + 1 = n) (hv : x.toInt64 = v) (k : xG E X cells slots n L (.long v :: st)) : xG E X cells slots pc L (.int x :: st) := by
  subst hn
  intro H locs ls h1 h2 h3
  exact lv_i2l C.1 C.2.1 hd hv (k H locs ls h1 h2 h3)
theorem xr_l2i (C : xCx E y cc nL ret hs d mc ms Post) {x : Int64} {v : Int32} (hd : decode cc pc = .ok (.l2i, 1)) (n : Nat) (hn : pc + 1 = n) (hv : x.toInt32 = v) (k : xG E X cells slots n L (.int v :: st)) : xG E X cells slots pc L (.long x :: st) := by
  subst hn
  intro H locs ls h1 h2 h3
  exact lv_l2i C.1 C.2.1 hd hv (k H locs ls h1 h2 h3)
theorem xr_i2b (C : xCx E y cc nL ret hs d mc ms Post) {x v : Int32} (hd : decode cc pc = .ok (.i2b, 1)) (n : Nat) (hn : pc + 1 = n) (hv : x.toInt8.toInt32 = v) (k : xG E X cells slots n L (.int v :: st)) : xG E X cells slots pc L (.int x :: st) := by
  subst hn
  intro H locs ls h1 h2 h3
  exact lv_i2b C.1 C.2.1 hd hv (k H locs ls h1 h2 h3)
theorem xr_iushr (C : xCx E y cc nL ret hs d mc ms Post) {x z v : Int32} (hd : decode cc pc = .ok (.iushr, 1)) (n : Nat) (hn : pc + 1 = n) (hv : (x.toUInt32 >>> (z.toUInt32 &&& Int32.toUInt32 31)).toInt32 = v) (k : xG E X cells slots n L (.int v :: st)) : xG E X cells slots pc L (.int z :: .int x :: st) := by
  subst hn
  intro H locs ls h1 h2 h3
  exact lv_iushr C.1 C.2.1 hd hv (k H locs ls h1 h2 h3)
theorem xr_lushr (C : xCx E y cc nL ret hs d mc ms Post) {x v : Int64} {z : Int32} (hd : decode cc pc = .ok (.lushr, 1)) (n : Nat) (hn : pc + 1 = n) (hv : (x.toUInt64 >>> (z.toInt64.toUInt64 &&& Int64.toUInt64 63)).toInt64 = v) (k : xG E X cells slots n L (.long v :: st)) : xG E X cells slots pc L (.int z :: .long x :: st) := by
  subst hn
  intro H locs ls h1 h2 h3
  exact lv_lushr C.1 C.2.1 hd hv (k H locs ls h1 h2 h3)
theorem xr_lshl (C : xCx E y cc nL ret hs d mc ms Post) {x v : Int64} {z : Int32} (hd : decode cc pc = .ok (.lshl, 1)) (n : Nat) (hn : pc + 1 = n) (hv : x <<< (z.toInt64 &&& 63) = v) (k : xG E X cells slots n L (.long v :: st)) : xG E X cells slots pc L (.int z :: .long x :: st) := by
  subst hn
  intro H locs ls h1 h2 h3
  exact lv_lshl C.1 C.2.1 hd hv (k H locs ls h1 h2 h3)
theorem xr_lcmp (C : xCx E y cc nL ret hs d mc ms Post) {x z : Int64} (hd : decode cc pc = .ok (.lcmp, 1)) (n : Nat) (hn : pc + 1 = n) (k : xG E X cells slots n L (.int (lg_cmp x z) :: st)) : xG E X cells slots pc L (.long z :: .long x :: st) := by
  subst hn
  intro H locs ls h1 h2 h3
  exact W.lcmp C.1 C.2.1 hd (k H locs ls h1 h2 h3)
theorem xr_dup (C : xCx E y cc nL ret hs d mc ms Post) {va : Value} (hd : decode cc pc = .ok (.dup, 1)) (n : Nat) (hn : pc + 1 = n) (hva : va.category = 1) (k : xG E X cells slots n L (va :: va :: st)) : xG E X cells slots pc L (va :: st) := by
  subst hn
  intro H locs ls h1 h2 h3
  exact lv_dup C.1 C.2.1 hd hva (k H locs ls h1 h2 h3)
theorem xr_pop (C : xCx E y cc nL ret hs d mc ms Post) {va : Value} (hd : decode cc pc = .ok (.pop, 1)) (n : Nat) (hn : pc + 1 = n) (hva : va.category = 1) (k : xG E X cells slots n L (st)) : xG E X cells slots pc L (va :: st) := by
  subst hn
  intro H locs ls h1 h2 h3
  exact lv_pop C.1 C.2.1 hd hva (k H locs ls h1 h2 h3)
theorem xr_dup_x1 (C : xCx E y cc nL ret hs d mc ms Post) {va vb : Value} (hd : decode cc pc = .ok (.dup_x1, 1)) (n : Nat) (hn : pc + 1 = n) (hva : va.category = 1) (hvb : vb.category = 1) (k : xG E X cells slots n L (va :: vb :: va :: st)) : xG E X cells slots pc L (va :: vb :: st) := by
  subst hn
  intro H locs ls h1 h2 h3
  exact lv_dup_x1 C.1 C.2.1 hd hva hvb (k H locs ls h1 h2 h3)
theorem xr_dup_x2 (C : xCx E y cc nL ret hs d mc ms Post) {va vb vd : Value} (hd : decode cc pc = .ok (.dup_x2, 1)) (n : Nat) (hn : pc + 1 = n) (hva : va.category = 1) (hvb : vb.category = 1) (hvd : vd.category = 1) (k : xG E X cells slots n L (va :: vb :: vd :: va :: st)) : xG E X cells slots pc L (va :: vb :: vd :: st) := by
  subst hn
  intro H locs ls h1 h2 h3
  exact lv_dup_x2 C.1 C.2.1 hd hva hvb hvd (k H locs ls h1 h2 h3)
theorem xr_dup2_11 (C : xCx E y cc nL ret hs d mc ms Post) {va vb : Value} (hd : decode cc pc = .ok (.dup2, 1)) (n : Nat) (hn : pc + 1 = n) (hva : va.category = 1) (hvb : vb.category = 1) (k : xG E X cells slots n L (va :: vb :: va :: vb :: st)) : xG E X cells slots pc L (va :: vb :: st) := by
  subst hn
  intro H locs ls h1 h2 h3
  exact lv_dup2_11 C.1 C.2.1 hd hva hvb (k H locs ls h1 h2 h3)
theorem xr_ldc (C : xCx E y cc nL ret hs d mc ms Post) {i : Nat} {v : Int32} (hd : decode cc pc = .ok (.ldc i, 2)) (n : Nat) (hn : pc + 2 = n) (hw : Cond.constant y.cls i v ∈ xT) (k : xG E X cells slots n L (.int v :: st)) : xG E X cells slots pc L st := by
  subst hn
  intro H locs ls h1 h2 h3
  exact lv_ldc C.1 C.2.1 C.ow (C.ts _ hw) hd (k H locs ls h1 h2 h3)
theorem xr_ldc2 (C : xCx E y cc nL ret hs d mc ms Post) {i : Nat} {v : Int64} (hd : decode cc pc = .ok (.ldc2_w i, 3)) (n : Nat) (hn : pc + 3 = n) (hw : Cond.constantLong y.cls i v ∈ xT) (k : xG E X cells slots n L (.long v :: st)) : xG E X cells slots pc L st := by
  subst hn
  intro H locs ls h1 h2 h3
  exact lv_ldc2 C.1 C.2.1 C.ow (C.ts _ hw) hd (k H locs ls h1 h2 h3)
theorem xr_istore_n (C : xCx E y cc nL ret hs d mc ms Post) {i : Fin 4} {x : Int32} (hd : decode cc pc = .ok (.istore_n i, 1)) (n : Nat) (hn : pc + 1 = n) (hi : Nat.blt (i : Nat) nL = true) (hp : xprev L i = true) (k : xG E X cells slots n (L.set i (some (.int x))) st) : xG E X cells slots pc L (.int x :: st) := by
  subst hn
  intro H locs ls h1 h2 h3
  exact lv_istore_n C.1 C.2.1 hd rfl h3.has (by rw [C.nl]; exact Nat.blt_eq.mp hi) rfl (fun ls' h => k H locs ls' h1 h2 (xLoc.set1 (ls := ls) h hp))
theorem xr_istore (C : xCx E y cc nL ret hs d mc ms Post) {i : Nat} {x : Int32} (hd : decode cc pc = .ok (.istore i, 2)) (n : Nat) (hn : pc + 2 = n) (hi : Nat.blt i nL = true) (hp : xprev L i = true) (k : xG E X cells slots n (L.set i (some (.int x))) st) : xG E X cells slots pc L (.int x :: st) := by
  subst hn
  intro H locs ls h1 h2 h3
  exact lv_istore C.1 C.2.1 hd h3.has (by rw [C.nl]; exact Nat.blt_eq.mp hi) rfl (fun ls' h => k H locs ls' h1 h2 (xLoc.set1 (ls := ls) h hp))
theorem xr_astore_n (C : xCx E y cc nL ret hs d mc ms Post) {i : Fin 4} {x : Nat} (hd : decode cc pc = .ok (.astore_n i, 1)) (n : Nat) (hn : pc + 1 = n) (hi : Nat.blt (i : Nat) nL = true) (hp : xprev L i = true) (k : xG E X cells slots n (L.set i (some (.ref x))) st) : xG E X cells slots pc L (.ref x :: st) := by
  subst hn
  intro H locs ls h1 h2 h3
  exact lv_astore_n C.1 C.2.1 hd rfl h3.has (by rw [C.nl]; exact Nat.blt_eq.mp hi) rfl (fun ls' h => k H locs ls' h1 h2 (xLoc.set1 (ls := ls) h hp))
theorem xr_astore (C : xCx E y cc nL ret hs d mc ms Post) {i : Nat} {x : Nat} (hd : decode cc pc = .ok (.astore i, 2)) (n : Nat) (hn : pc + 2 = n) (hi : Nat.blt i nL = true) (hp : xprev L i = true) (k : xG E X cells slots n (L.set i (some (.ref x))) st) : xG E X cells slots pc L (.ref x :: st) := by
  subst hn
  intro H locs ls h1 h2 h3
  exact lv_astore C.1 C.2.1 hd h3.has (by rw [C.nl]; exact Nat.blt_eq.mp hi) rfl (fun ls' h => k H locs ls' h1 h2 (xLoc.set1 (ls := ls) h hp))
theorem xr_astore_nN (C : xCx E y cc nL ret hs d mc ms Post) {i : Fin 4} (hd : decode cc pc = .ok (.astore_n i, 1)) (n : Nat) (hn : pc + 1 = n) (hi : Nat.blt (i : Nat) nL = true) (hp : xprev L i = true) (k : xG E X cells slots n (L.set i (some .null)) st) : xG E X cells slots pc L (.null :: st) := by
  subst hn
  intro H locs ls h1 h2 h3
  exact lv_astore_nN C.1 C.2.1 hd rfl h3.has (by rw [C.nl]; exact Nat.blt_eq.mp hi) rfl (fun ls' h => k H locs ls' h1 h2 (xLoc.set1 (ls := ls) h hp))
theorem xr_lstore_n (C : xCx E y cc nL ret hs d mc ms Post) {i : Fin 4} {x : Int64} (hd : decode cc pc = .ok (.lstore_n i, 1)) (n : Nat) (hn : pc + 1 = n) (hi : Nat.blt ((i : Nat) + 1) nL = true) (hp : xprev L i = true) (k : xG E X cells slots n ((L.set i (some (.long x))).set (i + 1) none) st) : xG E X cells slots pc L (.long x :: st) := by
  subst hn
  intro H locs ls h1 h2 h3
  exact lv_lstore_n C.1 C.2.1 hd rfl h3.has (by rw [C.nl]; exact Nat.blt_eq.mp hi) rfl (fun ls' h => k H locs ls' h1 h2 (xLoc.set2 (ls := ls) h hp))
theorem xr_lstore (C : xCx E y cc nL ret hs d mc ms Post) {i : Nat} {x : Int64} (hd : decode cc pc = .ok (.lstore i, 2)) (n : Nat) (hn : pc + 2 = n) (hi : Nat.blt (i + 1) nL = true) (hp : xprev L i = true) (k : xG E X cells slots n ((L.set i (some (.long x))).set (i + 1) none) st) : xG E X cells slots pc L (.long x :: st) := by
  subst hn
  intro H locs ls h1 h2 h3
  exact lv_lstore C.1 C.2.1 hd h3.has (by rw [C.nl]; exact Nat.blt_eq.mp hi) rfl (fun ls' h => k H locs ls' h1 h2 (xLoc.set2 (ls := ls) h hp))
theorem xr_iinc (C : xCx E y cc nL ret hs d mc ms Post) {i : Nat} {j : Int} {x v : Int32} (hd : decode cc pc = .ok (.iinc i j, 3)) (n : Nat) (hn : pc + 3 = n) (hi : Nat.blt i nL = true) (hp : xprev L i = true) (hl : L[i]? = some (some (.int x))) (hv : Int32.ofInt j = v) (k : xG E X cells slots n (L.set i (some (.int (x + v)))) st) : xG E X cells slots pc L st := by
  subst hn
  intro H locs ls h1 h2 h3
  obtain ⟨q, hq⟩ := List.getElem?_of_mem ((xas_mem (L := L) (q := (i, .int x))).mpr hl)
  exact lv_iinc C.1 C.2.1 hd h3.has hq (by rw [hv]) (by rw [C.nl]; exact Nat.blt_eq.mp hi) rfl (fun ls' h => k H locs ls' h1 h2 (xLoc.set1 (ls := ls) h hp))
theorem xr_if_eq (C : xCx E y cc nL ret hs d mc ms Post) {x : Int32} {off : Int} (hd : decode cc pc = .ok (.ifCond .eq off, 3)) (n tgt : Nat) (hn : pc + 3 = n) (ht : (pc : Int) + off = (tgt : Int)) (kt : x = 0 → xG E X cells slots tgt L st) (kf : ¬ x = 0 → xG E X cells slots n L st) : xG E X cells slots pc L (.int x :: st) := by
  subst hn
  intro H locs ls h1 h2 h3
  exact lv_if_eq C.1 C.2.1 hd ht (fun q => kt q H locs ls h1 h2 h3) (fun q => kf q H locs ls h1 h2 h3)
theorem xr_icmp_eq (C : xCx E y cc nL ret hs d mc ms Post) {x z : Int32} {off : Int} (hd : decode cc pc = .ok (.if_icmp .eq off, 3)) (n tgt : Nat) (hn : pc + 3 = n) (ht : (pc : Int) + off = (tgt : Int)) (kt : x = z → xG E X cells slots tgt L st) (kf : ¬ x = z → xG E X cells slots n L st) : xG E X cells slots pc L (.int z :: .int x :: st) := by
  subst hn
  intro H locs ls h1 h2 h3
  exact lv_icmp_eq C.1 C.2.1 hd ht (fun q => kt q H locs ls h1 h2 h3) (fun q => kf q H locs ls h1 h2 h3)
theorem xr_if_ne (C : xCx E y cc nL ret hs d mc ms Post) {x : Int32} {off : Int} (hd : decode cc pc = .ok (.ifCond .ne off, 3)) (n tgt : Nat) (hn : pc + 3 = n) (ht : (pc : Int) + off = (tgt : Int)) (kt : ¬ x = 0 → xG E X cells slots tgt L st) (kf : x = 0 → xG E X cells slots n L st) : xG E X cells slots pc L (.int x :: st) := by
  subst hn
  intro H locs ls h1 h2 h3
  exact lv_if_ne C.1 C.2.1 hd ht (fun q => kt q H locs ls h1 h2 h3) (fun q => kf q H locs ls h1 h2 h3)
theorem xr_icmp_ne (C : xCx E y cc nL ret hs d mc ms Post) {x z : Int32} {off : Int} (hd : decode cc pc = .ok (.if_icmp .ne off, 3)) (n tgt : Nat) (hn : pc + 3 = n) (ht : (pc : Int) + off = (tgt : Int)) (kt : ¬ x = z → xG E X cells slots tgt L st) (kf : x = z → xG E X cells slots n L st) : xG E X cells slots pc L (.int z :: .int x :: st) := by
  subst hn
  intro H locs ls h1 h2 h3
  exact lv_icmp_ne C.1 C.2.1 hd ht (fun q => kt q H locs ls h1 h2 h3) (fun q => kf q H locs ls h1 h2 h3)
theorem xr_if_lt (C : xCx E y cc nL ret hs d mc ms Post) {x : Int32} {off : Int} (hd : decode cc pc = .ok (.ifCond .lt off, 3)) (n tgt : Nat) (hn : pc + 3 = n) (ht : (pc : Int) + off = (tgt : Int)) (kt : x < 0 → xG E X cells slots tgt L st) (kf : ¬ x < 0 → xG E X cells slots n L st) : xG E X cells slots pc L (.int x :: st) := by
  subst hn
  intro H locs ls h1 h2 h3
  exact lv_if_lt C.1 C.2.1 hd ht (fun q => kt q H locs ls h1 h2 h3) (fun q => kf q H locs ls h1 h2 h3)
theorem xr_icmp_lt (C : xCx E y cc nL ret hs d mc ms Post) {x z : Int32} {off : Int} (hd : decode cc pc = .ok (.if_icmp .lt off, 3)) (n tgt : Nat) (hn : pc + 3 = n) (ht : (pc : Int) + off = (tgt : Int)) (kt : x < z → xG E X cells slots tgt L st) (kf : ¬ x < z → xG E X cells slots n L st) : xG E X cells slots pc L (.int z :: .int x :: st) := by
  subst hn
  intro H locs ls h1 h2 h3
  exact lv_icmp_lt C.1 C.2.1 hd ht (fun q => kt q H locs ls h1 h2 h3) (fun q => kf q H locs ls h1 h2 h3)
theorem xr_if_ge (C : xCx E y cc nL ret hs d mc ms Post) {x : Int32} {off : Int} (hd : decode cc pc = .ok (.ifCond .ge off, 3)) (n tgt : Nat) (hn : pc + 3 = n) (ht : (pc : Int) + off = (tgt : Int)) (kt : 0 ≤ x → xG E X cells slots tgt L st) (kf : ¬ 0 ≤ x → xG E X cells slots n L st) : xG E X cells slots pc L (.int x :: st) := by
  subst hn
  intro H locs ls h1 h2 h3
  exact lv_if_ge C.1 C.2.1 hd ht (fun q => kt q H locs ls h1 h2 h3) (fun q => kf q H locs ls h1 h2 h3)
theorem xr_icmp_ge (C : xCx E y cc nL ret hs d mc ms Post) {x z : Int32} {off : Int} (hd : decode cc pc = .ok (.if_icmp .ge off, 3)) (n tgt : Nat) (hn : pc + 3 = n) (ht : (pc : Int) + off = (tgt : Int)) (kt : z ≤ x → xG E X cells slots tgt L st) (kf : ¬ z ≤ x → xG E X cells slots n L st) : xG E X cells slots pc L (.int z :: .int x :: st) := by
  subst hn
  intro H locs ls h1 h2 h3
  exact lv_icmp_ge C.1 C.2.1 hd ht (fun q => kt q H locs ls h1 h2 h3) (fun q => kf q H locs ls h1 h2 h3)
theorem xr_if_gt (C : xCx E y cc nL ret hs d mc ms Post) {x : Int32} {off : Int} (hd : decode cc pc = .ok (.ifCond .gt off, 3)) (n tgt : Nat) (hn : pc + 3 = n) (ht : (pc : Int) + off = (tgt : Int)) (kt : 0 < x → xG E X cells slots tgt L st) (kf : ¬ 0 < x → xG E X cells slots n L st) : xG E X cells slots pc L (.int x :: st) := by
  subst hn
  intro H locs ls h1 h2 h3
  exact lv_if_gt C.1 C.2.1 hd ht (fun q => kt q H locs ls h1 h2 h3) (fun q => kf q H locs ls h1 h2 h3)
theorem xr_icmp_gt (C : xCx E y cc nL ret hs d mc ms Post) {x z : Int32} {off : Int} (hd : decode cc pc = .ok (.if_icmp .gt off, 3)) (n tgt : Nat) (hn : pc + 3 = n) (ht : (pc : Int) + off = (tgt : Int)) (kt : z < x → xG E X cells slots tgt L st) (kf : ¬ z < x → xG E X cells slots n L st) : xG E X cells slots pc L (.int z :: .int x :: st) := by
  subst hn
  intro H locs ls h1 h2 h3
  exact lv_icmp_gt C.1 C.2.1 hd ht (fun q => kt q H locs ls h1 h2 h3) (fun q => kf q H locs ls h1 h2 h3)
theorem xr_if_le (C : xCx E y cc nL ret hs d mc ms Post) {x : Int32} {off : Int} (hd : decode cc pc = .ok (.ifCond .le off, 3)) (n tgt : Nat) (hn : pc + 3 = n) (ht : (pc : Int) + off = (tgt : Int)) (kt : x ≤ 0 → xG E X cells slots tgt L st) (kf : ¬ x ≤ 0 → xG E X cells slots n L st) : xG E X cells slots pc L (.int x :: st) := by
  subst hn
  intro H locs ls h1 h2 h3
  exact lv_if_le C.1 C.2.1 hd ht (fun q => kt q H locs ls h1 h2 h3) (fun q => kf q H locs ls h1 h2 h3)
theorem xr_icmp_le (C : xCx E y cc nL ret hs d mc ms Post) {x z : Int32} {off : Int} (hd : decode cc pc = .ok (.if_icmp .le off, 3)) (n tgt : Nat) (hn : pc + 3 = n) (ht : (pc : Int) + off = (tgt : Int)) (kt : x ≤ z → xG E X cells slots tgt L st) (kf : ¬ x ≤ z → xG E X cells slots n L st) : xG E X cells slots pc L (.int z :: .int x :: st) := by
  subst hn
  intro H locs ls h1 h2 h3
  exact lv_icmp_le C.1 C.2.1 hd ht (fun q => kt q H locs ls h1 h2 h3) (fun q => kf q H locs ls h1 h2 h3)
theorem xr_goto (C : xCx E y cc nL ret hs d mc ms Post) {off : Int} (hd : decode cc pc = .ok (.goto off, 3)) (tgt : Nat) (ht : (pc : Int) + off = (tgt : Int)) (k : xG E X cells slots tgt L st) : xG E X cells slots pc L st := by
  intro H locs ls h1 h2 h3
  exact lv_goto C.1 C.2.1 hd ht (k H locs ls h1 h2 h3)
theorem xr_ifnonnull (C : xCx E y cc nL ret hs d mc ms Post) {a : Nat} {off : Int} (hd : decode cc pc = .ok (.ifnonnull off, 3)) (tgt : Nat) (ht : (pc : Int) + off = (tgt : Int)) (k : xG E X cells slots tgt L st) : xG E X cells slots pc L (.ref a :: st) := by
  intro H locs ls h1 h2 h3
  exact lv_ifnonnull C.1 C.2.1 hd ht (k H locs ls h1 h2 h3)
theorem xr_ifnull (C : xCx E y cc nL ret hs d mc ms Post) {a : Nat} {off : Int} (hd : decode cc pc = .ok (.ifnull off, 3)) (n : Nat) (hn : pc + 3 = n) (k : xG E X cells slots n L st) : xG E X cells slots pc L (.ref a :: st) := by
  subst hn
  intro H locs ls h1 h2 h3
  exact lv_ifnull C.1 C.2.1 hd (k H locs ls h1 h2 h3)
theorem xr_acmp_eq (C : xCx E y cc nL ret hs d mc ms Post) {a b : Nat} {off : Int} (hd : decode cc pc = .ok (.if_acmp .eq off, 3)) (n tgt : Nat) (hn : pc + 3 = n) (ht : (pc : Int) + off = (tgt : Int)) (kt : a = b → xG E X cells slots tgt L st) (kf : ¬ a = b → xG E X cells slots n L st) : xG E X cells slots pc L (.ref b :: .ref a :: st) := by
  subst hn
  intro H locs ls h1 h2 h3
  exact lv_acmp_eq (rx := some a) (ry := some b) C.1 C.2.1 hd ht (fun q => kt (Option.some.inj q) H locs ls h1 h2 h3) (fun q => kf (fun e => q (by rw [e])) H locs ls h1 h2 h3)
theorem xr_acmp_ne (C : xCx E y cc nL ret hs d mc ms Post) {a b : Nat} {off : Int} (hd : decode cc pc = .ok (.if_acmp .ne off, 3)) (n tgt : Nat) (hn : pc + 3 = n) (ht : (pc : Int) + off = (tgt : Int)) (kt : ¬ a = b → xG E X cells slots tgt L st) (kf : a = b → xG E X cells slots n L st) : xG E X cells slots pc L (.ref b :: .ref a :: st) := by
  subst hn
  intro H locs ls h1 h2 h3
  exact lv_acmp_ne (rx := some a) (ry := some b) C.1 C.2.1 hd ht (fun q => kt (fun e => q (by rw [e])) H locs ls h1 h2 h3) (fun q => kf (Option.some.inj q) H locs ls h1 h2 h3)
theorem xr_tableOut (C : xCx E y cc nL ret hs d mc ms Post) {dflt lo hi : Int} {offs : Array Int} {len : Nat} {x : Int32} (hd : decode cc pc = .ok (.tableswitch dflt lo hi offs, len)) (tgt : Nat) (h : x.toInt < lo ∨ hi < x.toInt) (ht : (pc : Int) + dflt = (tgt : Int)) (k : xG E X cells slots tgt L st) : xG E X cells slots pc L (.int x :: st) := by
  intro H locs ls h1 h2 h3
  exact lv_tableOut C.1 C.2.1 hd h ht (k H locs ls h1 h2 h3)
theorem xr_tableIn (C : xCx E y cc nL ret hs d mc ms Post) {dflt lo hi : Int} {offs : Array Int} {len : Nat} {x : Int32} {off : Int} (hd : decode cc pc = .ok (.tableswitch dflt lo hi offs, len)) (tgt : Nat) (g1 : ¬ x.toInt < lo) (g2 : ¬ hi < x.toInt) (ho : offs[(x.toInt - lo).toNat]? = some off) (ht : (pc : Int) + off = (tgt : Int)) (k : xG E X cells slots tgt L st) : xG E X cells slots pc L (.int x :: st) := by
  intro H locs ls h1 h2 h3
  exact lv_tableIn C.1 C.2.1 hd g1 g2 ho ht (k H locs ls h1 h2 h3)
theorem xr_lookup (C : xCx E y cc nL ret hs d mc ms Post) {dflt : Int} {ps : Array (Int × Int)} {len : Nat} {x : Int32} {off : Int} (hd : decode cc pc = .ok (.lookupswitch dflt ps, len)) (tgt : Nat) (hp : (ps.toList.zip (ps.toList.drop 1)).all (fun (a, next) => a.1 < next.1) = true) (ho : Op.lookupswitch.offset ps.toList dflt x.toInt = off) (ht : (pc : Int) + off = (tgt : Int)) (k : xG E X cells slots tgt L st) : xG E X cells slots pc L (.int x :: st) := by
  intro H locs ls h1 h2 h3
  exact lv_lookup C.1 C.2.1 hd hp ho ht (k H locs ls h1 h2 h3)
end XR