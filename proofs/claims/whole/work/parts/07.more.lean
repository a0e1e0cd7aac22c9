/-! Rows: statics, throws and catches, arraycopy, clone, Math, class objects. -/
theorem xold {D : va_G} {H0 : Heap} {X : xH} {s : State} {H : Heap} {locs : List Loc} (h1 : xRep D H0 X H) (h2 : va_S (fun q => H0.size ≤ q) s.heap H locs) (h0 : H0.size ≤ s.heap.size) : ∀ a : Nat, a < H0.size → ¬ xA H0 a → s.heap[a]? = H0[a]? := fun a ha hn => (h2.2.1 a (by omega) hn).symm.trans (h1.2.1 a ha)
def xups : List String := ["java/lang/RuntimeException", "java/lang/Exception"]
/-- the words of a throw -/
def xThW (own : String) (ik ic : Nat) (cls : String) : Prop := Bundle.fit cls = true ∧ Cond.classLink own ik cls ∈ xT ∧ Cond.initialized cls ∈ xT ∧ (∀ w ∈ vx_atS own ic cls xups, w ∈ xT) ∧ ∀ w ∈ Cond.classLink own ik cls :: Cond.initialized cls :: vx_atS own ic cls xups, vx_ot w = true
theorem xups_fit : ∀ n ∈ xups, Bundle.fit n = true := by decide +kernel
theorem xstore_slots (at_ : Nat) : ∀ (vs : List (Value × Nat)) (c c' : Cell), c.slots = c'.slots → (c.storePairs at_ vs).slots = (c'.storePairs at_ vs).slots := by
  intro vs
  induction vs with
  | nil => intro c c' h; exact h
  | cons v vs ih =>
    intro c c' h
    exact ih (c.setSlot (at_ + v.2) v.1) (c'.setSlot (at_ + v.2) v.1) (by show c.slots.setIfInBounds _ _ = c'.slots.setIfInBounds _ _; rw [h])
theorem xac_copied {c0 c1 : ClassId} {n0 n1 sp dp n : Nat} {g0 g1 : Nat → Value} {cs cd : Cell} (h0 : xac c0 n0 g0 cs) (h1 : xac c1 n1 g1 cd) (hs : sp + n ≤ n0) : xac c1 n1 (va_cpy g0 g1 sp dp n) (cd.storeRun dp (cs.stretch sp n)) := by
  obtain ⟨f1, f2, -⟩ := Cell.storePairs_facts cd dp (cs.stretch sp n).zipIdx
  refine ⟨f1.trans h1.1, by show (cd.storePairs dp (cs.stretch sp n).zipIdx).vm ≠ _; rw [f2]; exact h1.2.1, fun k => by show (cd.storePairs dp (cs.stretch sp n).zipIdx).vm ≠ _; rw [f2]; exact h1.2.2.1 k, ?_⟩
  have e1 : cs.stretch sp n = (arrV c0 n0 (fun j => g0 j)).stretch sp n := by
    unfold Cell.stretch
    rw [h0.2.2.2]
  rw [e1]
  show (cd.storePairs dp _).slots = _
  rw [xstore_slots dp _ cd (arrV c1 n1 (fun j => g1 j)) h1.2.2.2]
  have e2 := va_copied (fun z : Value => z) c0 c1 (n0 := n0) (n1 := n1) (sp := sp) (dp := dp) (n := n) g0 g1 hs
  show ((arrV c1 n1 (fun j => g1 j)).storeRun dp _).slots = _
  rw [e2]
section XRM
variable {E : xE} {y : MethodName} {cc : ByteArray} {nL : Nat} {ret : Option FieldType} {hs : List (Nat × Nat × Nat × Nat)} {d mc ms : Nat} {Post : xO → xH → Prop} {X : xH} {cells slots pc : Nat} {L : List (Option Value)} {st : List Value}
theorem xr_gets (C : xCx E y cc nL ret hs d mc ms Post) {Cn nm ds : String} {v : Value} {idx : Nat} (hZ : va_Z Cn nm ds v (xA E.H0) E.s E.H0) (hd : decode cc pc = .ok (.getstatic idx, 3)) (n : Nat) (hn : pc + 3 = n) (hl : Cond.fieldLink y.cls idx Cn nm ds ∈ xT ∨ ∃ host, Cond.fieldLinkNest y.cls idx Cn nm ds host ∈ xT) (kk : xG E X cells slots n L (v :: st)) : xG E X cells slots pc L st := by
  subst hn
  intro H locs ls h1 h2 h3
  have hZ' : va_Z Cn nm ds v (xA E.H0) E.s E.s.heap := hZ.kept (xold h1 h2 C.h0)
  rcases hl with hl | ⟨host, hl⟩
  · exact va_gets C.1 C.2.1 hZ' h2 C.ow (C.ts _ hl) (fun _ h => h) hd (kk H locs ls h1 h2 h3)
  · exact va_getsN C.1 C.2.1 hZ' h2 C.ow (C.ts _ hl) (fun _ h => h) hd (kk H locs ls h1 h2 h3)
theorem xr_throw (C : xCx E y cc nL ret [] d mc ms Post) {ik is ic : Nat} {cls tx : String} (hy : y.cls = "TwinKeepers") (d0 : decode cc pc = .ok (.new ik, 3)) (d3 : decode cc (pc + 3) = .ok (.dup, 1)) (d4 : decode cc (pc + 4) = .ok (.ldc is, 2)) (d6 : decode cc (pc + 6) = .ok (.invokespecial ic, 3)) (d9 : decode cc (pc + 9) = .ok (.athrow, 1)) (hw : xThW y.cls ik ic cls) (hmem : (is, tx) ∈ xstr) (hst : (st.map fun v => v.category).sum ≤ 8) (hc : cells + 1 ≤ mc) (hsl : slots + 6 ≤ ms) (hp : Post (.inr cls) X) : xG E X cells slots pc L st := by
  intro H locs ls h1 h2 h3
  obtain ⟨sa, hstr⟩ := C.kk.2.2.2.2.2.2.1 (is, tx) hmem
  have hkp := xold h1 h2 C.h0
  have htab : ∀ x ∈ E.c.exceptionTable.toList, covers x (pc + 9) = false := by
    have h' : E.c.exceptionTable.toList = [] := by simpa using C.tb
    intro x hx
    rw [h'] at hx
    cases hx
  rw [C.qq]
  refine xW_mono (fun t ht => ?_) (vx_throwS (XC := fun En _ t => En = cls ∧ xRep E.D E.H0 X t.heap) (Qc := fun _ _ _ _ => False) (free := fun q => E.H0.size ≤ q) (A := xA E.H0) C.1 C.2.1 C.tr (own := y.cls) (cls := cls) (text := tx) (names := xups) (sa := sa) C.ow hw.1 xups_fit (C.ts _ hw.2.1) (C.ts _ hw.2.2.1) (by rw [hy]; exact hstr) (fun w h => C.ts w (hw.2.2.2.1 w h)) hw.2.2.2.2 (C.kk.2.2.2.2.1.kept hkp) (C.kk.2.2.2.2.2.1.kept hkp) h2 (by rw [C.2.2.1]; exact h3.1) d0 d3 d4 d6 d9 htab (by rw [C.rm]; show 2 + 3 < d + 8; omega) (by rw [C.rm]; show _ + (13 * (2 + 1) + 43) ≤ 40 * (d + 8); omega) (C.rc hc) (C.rs hsl) C.lk (fun t _ z o => ⟨rfl, h1.more z o⟩) h2.2.2 hc hsl)
  obtain ⟨o, t1, t2, hq⟩ := ht
  rcases hq with ⟨hf, -⟩ | ⟨q, rfl, En, ce, Lc, ⟨rfl, hr⟩, g1, g2, g3, g4, g5, g6⟩
  · exact hf.elim
  · exact ⟨.threw q, .inr En, X, Lc, t1, t2, ⟨q, ce, rfl, g1, g2, (g4.alike.findClass En _).trans g3⟩, hr, hp, g4, g5, g6⟩
theorem xr_max (C : xCx E y cc nL ret hs d mc ms Post) {idx : Nat} {x z : Int32} (hd : decode cc pc = .ok (.invokestatic idx, 3)) (n : Nat) (hn : pc + 3 = n) (hl : Cond.methodLink y.cls idx Lib.Math.max.name ∈ xT) (hw : Cond.static Lib.Math.max.name ∈ xT ∧ Cond.initialized "java/lang/Math" ∈ xT ∧ Cond.code Lib.Math.max.name Lib.Math.max.code 2 (some .int) ∈ xT) (hst : (st.map fun v => v.category).sum ≤ 8) (hc : cells ≤ mc) (hsl : slots ≤ ms) (kk : xG E X cells slots n L (.int (if x < z then z else x) :: st)) : xG E X cells slots pc L (.int z :: .int x :: st) := by
  subst hn
  intro H locs ls h1 h2 h3
  exact va_mmax C.1 C.2.1 (by rw [C.2.2.1]; exact h3.1.symm) C.ow (C.ts _ hl) (C.ts _ hw.1) (C.ts _ hw.2.1) (C.ts _ hw.2.2) (by rw [C.rm]; show 1 ≤ d + 8; omega) (by rw [C.rm]; show _ + 13 ≤ 40 * (d + 8); omega) (C.rc hc) (C.rs hsl) hd (kk H locs ls h1 h2 h3)
theorem xr_min (C : xCx E y cc nL ret hs d mc ms Post) {idx : Nat} {x z : Int32} (hd : decode cc pc = .ok (.invokestatic idx, 3)) (n : Nat) (hn : pc + 3 = n) (hl : Cond.methodLink y.cls idx Lib.Math.min.name ∈ xT) (hw : Cond.static Lib.Math.min.name ∈ xT ∧ Cond.initialized "java/lang/Math" ∈ xT ∧ Cond.code Lib.Math.min.name Lib.Math.min.code 2 (some .int) ∈ xT) (hst : (st.map fun v => v.category).sum ≤ 8) (hc : cells ≤ mc) (hsl : slots ≤ ms) (kk : xG E X cells slots n L (.int (if z < x then z else x) :: st)) : xG E X cells slots pc L (.int z :: .int x :: st) := by
  subst hn
  intro H locs ls h1 h2 h3
  exact va_mmin C.1 C.2.1 (by rw [C.2.2.1]; exact h3.1.symm) C.ow (C.ts _ hl) (C.ts _ hw.1) (C.ts _ hw.2.1) (C.ts _ hw.2.2) (by rw [C.rm]; show 1 ≤ d + 8; omega) (by rw [C.rm]; show _ + 13 ≤ 40 * (d + 8); omega) (C.rc hc) (C.rs hsl) hd (kk H locs ls h1 h2 h3)
/-- System.arraycopy of elements that fit; t0, t1: the arrays' kinds -/
theorem xcopy (C : xCx E y cc nL ret hs d mc ms Post) {idx a0 a1 n0 n1 sp dp n t0 : Nat} {c0 c1 : ClassId} {p0 p1 p2 : (Nat → Int32) ⊕ (Nat → Int64) ⊕ (Nat → UInt32) ⊕ (Nat → UInt64) ⊕ (Nat → Option Nat)} {ty : FieldType} (ht0 : (xty E.D)[t0]? = some (c0, ty)) (ht1 : (xty E.D)[t0]? = some (c1, ty)) (hd : decode cc pc = .ok (.invokestatic idx, 3)) (nx : Nat) (hn : pc + 3 = nx) (hl : Cond.methodLink y.cls idx arraycopyName ∈ xT) (hw : Cond.native arraycopyName ∈ xT ∧ Cond.static arraycopyName ∈ xT ∧ Cond.initialized "java/lang/System" ∈ xT) (hX0 : X a0 = some (.inl (c0, n0, p0))) (hX1 : X a1 = some (.inl (c1, n1, p1))) (hs0 : sp + n ≤ n0) (hd0 : dp + n ≤ n1) (hN0 : n0 < 2 ^ 31) (hN1 : n1 < 2 ^ 31) (hz : n1 ≠ 0) (hst : (st.map fun v => v.category).sum ≤ 8)
    (hvals : ∀ (H : Heap), xRep E.D E.H0 X H → ∀ (T : State), T.heap = H → E.s.vm.Alike T.vm → ∀ (comp : ClassId), (∀ k, E.s.vm.classes[c1]? = some k → k.kind = .array comp ty) → ∀ i, i < n → fits ty (xav (n0, p0) (sp + i)) = true ∧ T.takes comp (xav (n0, p0) (sp + i)))
    (hcp : va_cpy (xav (n0, p0)) (xav (n1, p1)) sp dp n = xav (n1, p2))
    (kk : xG E (xup X a1 (.inl (c1, n1, p2))) cells slots nx L st) : xG E X cells slots pc L (.int (nI n) :: .int (nI dp) :: .ref a1 :: .int (nI sp) :: .ref a0 :: st) := by
  subst hn
  intro H locs ls h1 h2 h3 T hT S
  subst hT
  have hz' : ¬ xz (.inl (c1, n1, p1) : va_E) := fun z => hz z
  obtain ⟨cs, c0', b1, b2, b2'⟩ := h1.cell2 hX0 C.kk.1 C.kk.2.2.2.2.2.2.2.2 ht0
  obtain ⟨cd, b3, b4⟩ := h1.cell hX1 hz
  have m0 : (nI sp).toNatClampNeg = sp := nI_clamp (by omega)
  have m1 : (nI dp).toNatClampNeg = dp := nI_clamp (by omega)
  have m2 : (nI n).toNatClampNeg = n := nI_clamp (by omega)
  obtain ⟨-, k0, hk0, cm0, hkk0⟩ := b2.of b2'
  obtain ⟨-, k1, hk1, cm1, hkk1⟩ := b4.of (C.kk.1.2 t0 _ ht1).1
  obtain ⟨vm', S', step⟩ := S.arraycopy C.1 C.ow (C.ts _ hl) (C.ts _ hw.1) (C.ts _ hw.2.1) (C.ts _ hw.2.2) (src := a0) (dst := a1) (cs := cs) (cd := cd) (srcPos := nI sp) (destPos := nI dp) (n := nI n) b1 b3 b2.2.2.1 b4.2.2.1 b2.2.1 b4.2.1 hk0 hk1 hkk0 hkk1 (by simp) (nI_pos (by omega)) (nI_pos (by omega)) (nI_pos (by omega))
    (by rw [nI_toInt (by omega), nI_toInt (by omega), b2.size]; show ¬ _ > (n0 : Int); omega) (by rw [nI_toInt (by omega), nI_toInt (by omega), b4.size]; show ¬ _ > (n1 : Int); omega)
    (fun vm₁ hal i hi => by
      rw [m2] at hi
      rw [m0]
      have e : cs.slots.getD (sp + i) .null = xav (n0, p0) (sp + i) := by
        rw [Array.getD_eq_getD_getElem?, b2.read (show sp + i < n0 by omega)]
        rfl
      rw [e]
      exact hvals T.heap h1 (T.setVm vm₁) rfl hal cm1 (fun k hk => by rw [b4.1] at hk1; cases hk.symm.trans hk1; exact hkk1) i hi)
    (g := F0 E.m pc ls (.int (nI n) :: .int (nI dp) :: .ref a1 :: .int (nI sp) :: .ref a0 :: st)) rfl (by rw [C.2.2.1]; exact h3.1) (rest := st) rfl (by rw [C.2.1]; exact hd) (by rw [C.rm]; show 1 ≤ d + 8; omega) (by rw [C.rm, show nativeFrameWords "java/lang/System" "arraycopy" 5 = 7 from by decide]; show 2 * 0 + _ + _ ≤ 40 * (d + 8); omega)
  have hcpd : copied cs cd (nI sp) (nI dp) (nI n) = cd.storeRun dp (cs.stretch sp n) := by
    show cd.storeRun (nI dp).toNatClampNeg (cs.stretch (nI sp).toNatClampNeg (nI n).toNatClampNeg) = _
    rw [m0, m1, m2]
  rw [hcpd] at S' step
  rw [m0, m1, m2] at S'
  have hl1 : a1 < T.heap.size := (Array.getElem?_eq_some_iff.mp b3).1
  have hheap : ((T.setVm vm').setCell a1 (cd.storeRun dp (cs.stretch sp n))).heap = T.heap.setIfInBounds a1 (cd.storeRun dp (cs.stretch sp n)) := rfl
  have oq : ∀ q : Nat, q ≠ a1 → (T.heap.setIfInBounds a1 (cd.storeRun dp (cs.stretch sp n)))[q]? = T.heap[q]? := fun q hq => by simp [Array.getElem?_setIfInBounds, Ne.symm hq]
  have hat : xat E.D (a1, .inl (c1, n1, p2)) (T.heap.setIfInBounds a1 (cd.storeRun dp (cs.stretch sp n))) := by
    refine ⟨cd.storeRun dp (cs.stretch sp n), by simp [Array.getElem?_setIfInBounds, hl1], Or.inl ?_⟩
    show xac c1 n1 (xav (n1, p2)) _
    rw [← hcp]
    exact xac_copied b2 b4 hs0
  have hR := h1.put hX1 hz' hat (by simp) oq
  obtain ⟨t, q1, q2⟩ := kk _ _ ls hR (xS_call (Lc := ((cs.stretch sp n).zipIdx.map fun q => (⟨a1, dp + q.2⟩ : Loc))) h2 h1 hR (by simp) (fun q hq => by
    obtain ⟨z, -, hz⟩ := List.mem_map.mp hq
    rw [← hz]
    exact h1.old hX1 hz')) h3 _ hheap S'
  exact ⟨t, step t q1, q2⟩
theorem xr_copyb (C : xCx E y cc nL ret hs d mc ms Post) {idx a0 a1 n0 n1 sp dp n : Nat} {f g : Nat → Int32} (hd : decode cc pc = .ok (.invokestatic idx, 3)) (nx : Nat) (hn : pc + 3 = nx) (hl : Cond.methodLink y.cls idx arraycopyName ∈ xT) (hw : Cond.native arraycopyName ∈ xT ∧ Cond.static arraycopyName ∈ xT ∧ Cond.initialized "java/lang/System" ∈ xT) (hX0 : X a0 = some (.inl (E.D.1 100, n0, .inl f))) (hX1 : X a1 = some (.inl (E.D.1 100, n1, .inl g))) (hs0 : sp + n ≤ n0) (hd0 : dp + n ≤ n1) (hN0 : n0 < 2 ^ 31) (hN1 : n1 < 2 ^ 31) (hz : n1 ≠ 0) (hst : (st.map fun v => v.category).sum ≤ 8) (hb : ∀ i, i < n → fits .byte (.int (f (sp + i))) = true) (kk : xG E (xup X a1 (.inl (E.D.1 100, n1, .inl (va_cpy f g sp dp n)))) cells slots nx L st) : xG E X cells slots pc L (.int (nI n) :: .int (nI dp) :: .ref a1 :: .int (nI sp) :: .ref a0 :: st) := by
  refine xcopy (t0 := 0) (p2 := .inl (va_cpy f g sp dp n)) C rfl rfl hd nx hn hl hw hX0 hX1 hs0 hd0 hN0 hN1 hz hst (fun H _ T _ _ comp _ i hi => ⟨hb i hi, trivial⟩) ?_ kk
  funext k
  simp only [va_cpy, xav]
  split <;> rfl
theorem xr_copyq (C : xCx E y cc nL ret hs d mc ms Post) {idx a0 a1 n0 n1 sp dp n : Nat} {f g : Nat → Option Nat} (hd : decode cc pc = .ok (.invokestatic idx, 3)) (nx : Nat) (hn : pc + 3 = nx) (hl : Cond.methodLink y.cls idx arraycopyName ∈ xT) (hw : Cond.native arraycopyName ∈ xT ∧ Cond.static arraycopyName ∈ xT ∧ Cond.initialized "java/lang/System" ∈ xT) (hX0 : X a0 = some (.inl (E.D.1 101, n0, .inr (.inr (.inr (.inr f)))))) (hX1 : X a1 = some (.inl (E.D.1 101, n1, .inr (.inr (.inr (.inr g)))))) (hs0 : sp + n ≤ n0) (hd0 : dp + n ≤ n1) (hN0 : n0 < 2 ^ 31) (hN1 : n1 < 2 ^ 31) (hz : n1 ≠ 0) (hst : (st.map fun v => v.category).sum ≤ 8) (hel : ∀ i, i < n → ∀ q : Nat, f (sp + i) = some q → ∃ (ci : Nat) (vs : List Value) (r : vw_C), X q = some (.inr (ci, vs)) ∧ xcl[ci]? = some r ∧ Cond.castable r.1 "java/lang/Object" ∈ xT) (kk : xG E (xup X a1 (.inl (E.D.1 101, n1, .inr (.inr (.inr (.inr (va_cpy f g sp dp n))))))) cells slots nx L st) : xG E X cells slots pc L (.int (nI n) :: .int (nI dp) :: .ref a1 :: .int (nI sp) :: .ref a0 :: st) := by
  refine xcopy (t0 := 1) (p2 := .inr (.inr (.inr (.inr (va_cpy f g sp dp n))))) C rfl rfl hd nx hn hl hw hX0 hX1 hs0 hd0 hN0 hN1 hz hst (fun H hR T hT hal comp hcomp i hi => ?_) ?_ kk
  · show fits (.object "java/lang/Object") (va_rf (f (sp + i))) = true ∧ T.takes comp (va_rf (f (sp + i)))
    cases hy : f (sp + i) with
    | none => exact ⟨rfl, trivial⟩
    | some q =>
      obtain ⟨ci, vs, r, hq, hc, hca⟩ := hel i hi q hy
      obtain ⟨r', hr', cellV, g1, g2, g3, -⟩ := (hR.2.2 q _ hq).1
      have hcls := (C.kk.1.1 ci r hc).2
      obtain ⟨kA, comp', k1, k2, k3, -⟩ := (C.kk.1.2 1 _ rfl).2
      have hce : comp' = comp := by
        have := (hcomp kA k1).symm.trans k2
        simp at this
        exact this.symm
      subst hce
      obtain ⟨kE, hkE, -⟩ := Vm.findClass_spec k3
      obtain ⟨c0, t1, f1, f2, f3⟩ := Cond.castable_spec (C.ts _ hca)
      cases hcls.1.symm.trans f1
      cases k3.symm.trans f2
      obtain ⟨kC, hkC, -⟩ := hcls.2
      obtain ⟨kC', hkC', -⟩ := hal.2.2 _ _ hkC
      obtain ⟨kE', hkE', -⟩ := hal.2.2 _ _ hkE
      refine ⟨rfl, cellV, by rw [hT]; exact g1, (fun k h => by rw [g3] at h; cases h), ⟨kC', by rw [g2]; exact hkC'⟩, ⟨kE', hkE'⟩, ?_⟩
      rw [hal.assignable, g2]
      exact f3
  · funext k
    simp only [va_cpy, xav]
    split <;> rfl
theorem xr_ldcM (C : xCx E y cc nL ret hs d mc ms Post) {idx : Nat} (hd : decode cc pc = .ok (.ldc idx, 2)) (n : Nat) (hn : pc + 2 = n) (hl : Cond.classLink y.cls idx "[Ljava/lang/Object;" ∈ xT) (kk : xG E X cells slots n L (.ref (E.D.2 200 2) :: st)) : xG E X cells slots pc L st := by
  subst hn
  intro H locs ls h1 h2 h3
  exact va_ldcM C.1 C.2.1 C.ow (C.ts _ hl) C.kk.2.2.2.2.2.2.2.1 hd (kk H locs ls h1 h2 h3)
theorem xr_getC (C : xCx E y cc nL ret hs d mc ms Post) {idx a : Nat} {x : vp_A} (hd : decode cc pc = .ok (.invokevirtual idx, 3)) (n : Nat) (hn : pc + 3 = n) (hX : X a = some (.inl (E.D.1 101, x))) (hl : Cond.methodLink y.cls idx ⟨"java/lang/Object", "getClass", "()Ljava/lang/Class;"⟩ ∈ xT) (hw : Cond.declares ⟨"java/lang/Object", "getClass", "()Ljava/lang/Class;"⟩ ∈ xT ∧ Cond.selects "[Ljava/lang/Object;" ⟨"java/lang/Object", "getClass", "()Ljava/lang/Class;"⟩ ⟨"java/lang/Object", "getClass", "()Ljava/lang/Class;"⟩ ∈ xT ∧ Cond.instanceMethod ⟨"java/lang/Object", "getClass", "()Ljava/lang/Class;"⟩ ∈ xT ∧ Cond.native ⟨"java/lang/Object", "getClass", "()Ljava/lang/Class;"⟩ ∈ xT) (hst : (st.map fun v => v.category).sum ≤ 8) (kk : xG E X cells slots n L (.ref (E.D.2 200 2) :: st)) : xG E X cells slots pc L (.ref a :: st) := by
  subst hn
  intro H locs ls h1 h2 h3
  obtain ⟨cB, b1, b2⟩ := h1.cellO hX C.kk.1
  have hnm : E.s.vm.findClass "[Ljava/lang/Object;" = some (E.D.1 101) := va_nmO (C.kk.1.2 1 _ rfl).2 (by decide)
  refine va_getC C.1 C.2.1 (by rw [C.2.2.1]; exact h3.1.symm) C.ow (C.ts _ hl) (C.ts _ hw.1) (C.ts _ hw.2.1) (C.ts _ hw.2.2.1) (C.ts _ hw.2.2.2) C.kk.2.2.2.2.2.2.2.1 ⟨cB, b1, ?_, by rw [b2.1]; exact hnm⟩ (by rw [C.rm]; show 1 ≤ d + 8; omega) (by rw [C.rm]; show _ + 14 ≤ 40 * (d + 8); omega) hd (kk H locs ls h1 h2 h3)
  cases hv : cB.vm <;> first | rfl | exact absurd hv (b2.2.2.1 _)
end XRM
