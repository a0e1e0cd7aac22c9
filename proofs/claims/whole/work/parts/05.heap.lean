/-! Rows that touch the heap. -/
theorem xP1 {D : va_G} {a : Nat} {o : Nat × List Value} {H : Heap} (h : xat D (a, .inr o) H) : va_P D xcl [(a, .inr o)] H := fun k r hr => by
  cases k with
  | zero => cases hr; exact h
  | succ k => simp at hr
theorem xRep.cell {D : va_G} {H0 : Heap} {X : xH} {H : Heap} {a : Nat} {x : ClassId × vp_A} (h : xRep D H0 X H) (hX : X a = some (.inl x)) (hn : x.2.1 ≠ 0) : ∃ c : Cell, H[a]? = some c ∧ xac x.1 x.2.1 (xav x.2) c := by
  obtain ⟨c, h1, h2⟩ := (h.2.2 a _ hX).1
  rcases h2 with h2 | ⟨h2, -⟩
  · exact ⟨c, h1, h2⟩
  · exact absurd h2 hn
theorem xRep.cell2 {D : va_G} {H0 : Heap} {X : xH} {H : Heap} {a t0 : Nat} {x : ClassId × vp_A} {U : State} {ty : FieldType} (h : xRep D H0 X H) (hX : X a = some (.inl x)) (hK : va_K D xcl (xty D) U) (hA : xAl D U) (ht : (xty D)[t0]? = some (x.1, ty)) : ∃ (c : Cell) (c' : ClassId), H[a]? = some c ∧ xac c' x.2.1 (xav x.2) c ∧ ArrOfT U c' ty := by
  obtain ⟨c, h1, h2⟩ := (h.2.2 a _ hX).1
  have hT := (hK.2 t0 _ ht).1
  rcases h2 with h2 | ⟨-, c', hl, h2⟩
  · exact ⟨c, _, h1, h2, hT⟩
  · refine ⟨c, c', h1, h2, ?_⟩
    obtain ⟨e1, e2⟩ := hl
    have hB := (hK.2 0 _ rfl).1
    have hT2 : ArrOfT U (D.1 100) ty := by rw [← e1]; exact hT
    cases ArrOfT_inj hT2 hB
    rw [e2]
    exact hA.1
theorem xRep.cellO {D : va_G} {H0 : Heap} {X : xH} {H : Heap} {a : Nat} {x : vp_A} {U : State} (h : xRep D H0 X H) (hX : X a = some (.inl (D.1 101, x))) (hK : va_K D xcl (xty D) U) : ∃ c : Cell, H[a]? = some c ∧ xac (D.1 101) x.1 (xav x) c := by
  obtain ⟨c, h1, h2⟩ := (h.2.2 a _ hX).1
  rcases h2 with h2 | ⟨-, c', ⟨e1, e2⟩, h2⟩
  · exact ⟨c, h1, h2⟩
  · have hB := (hK.2 0 _ rfl).1
    have hO := (hK.2 1 _ rfl).1
    have e1 : D.1 101 = D.1 100 := e1
    have hO2 : ArrOfT U (D.1 100) (.object "java/lang/Object") := by rw [← e1]; exact hO
    exact absurd (ArrOfT_inj hB hO2) (by intro h; cases h)
theorem xRep.old {D : va_G} {H0 : Heap} {X : xH} {H : Heap} {a : Nat} {v : va_E} (h : xRep D H0 X H) (hX : X a = some v) (hz : ¬ xz v) : H0.size ≤ a := (h.2.2 a v hX).2.resolve_right hz
theorem xsm {args : Array Value} {s : State} {ref o nm ds : String} (hts : ∀ w ∈ xT, w.before args s = true) (h : ref = o ∨ Cond.sameField ref o nm ds ∈ xT) : ∀ x, s.fieldFound? o nm ds = some x → s.fieldFound? ref nm ds = some x := fun x hx => h.elim (fun e => by rw [e]; exact hx) (fun hw => u_same (hts _ hw) x hx)
def xCl (ci : Nat) (C : String) (T : u_T) (N : Nat) (ty : Nat → FieldType) : Prop := xcl[ci]? = some (C, T, N) ∧ (∀ w ∈ u_ws C T N, w ∈ xT) ∧ (∀ k, k < N → parseFieldDescriptor (T k).2.2.1 = some (ty k)) ∧ (∀ a, a < N → ∀ b, b < N → a ≠ b → (T a).2.1 ≠ (T b).2.1)
theorem xS_more {A : Nat → Prop} {H0 H H' : Heap} {locs : List Loc} (h : va_S A H0 H locs) (z : H.size ≤ H'.size) (o : ∀ q : Nat, q < H.size → H'[q]? = H[q]?) : va_S A H0 H' locs := ⟨Nat.le_trans h.1 z, fun q h1 h2 => (o q (Nat.lt_of_lt_of_le h1 h.1)).trans (h.2.1 q h1 h2), h.2.2⟩
section XRH
variable {E : xE} {y : MethodName} {cc : ByteArray} {nL : Nat} {ret : Option FieldType} {hs : List (Nat × Nat × Nat × Nat)} {d mc ms : Nat} {Post : xO → xH → Prop} {X : xH} {cells slots pc : Nat} {L : List (Option Value)} {st : List Value}
theorem xCx.rc (C : xCx E y cc nL ret hs d mc ms Post) {k : Nat} (h : k ≤ mc) : k ≤ E.R.cells := by rw [C.rm]; exact h
theorem xCx.rs (C : xCx E y cc nL ret hs d mc ms Post) {k : Nat} (h : k ≤ ms) : k ≤ E.R.slots := by rw [C.rm]; exact h
theorem xr_get (C : xCx E y cc nL ret hs d mc ms Post) {ci N idx a : Nat} {fs : List Value} {v : Value} {Cn ref : String} {T : u_T} {ty : Nat → FieldType} (K : xCl ci Cn T N ty) (k : Nat) (hd : decode cc pc = .ok (.getfield idx, 3)) (n : Nat) (hn : pc + 3 = n) (hl : Cond.fieldLink y.cls idx ref (T k).2.1 (T k).2.2.1 ∈ xT) (hsm : ref = (T k).1 ∨ Cond.sameField ref (T k).1 (T k).2.1 (T k).2.2.1 ∈ xT) (hk : Nat.blt k N = true) (hX : X a = some (.inr (ci, fs))) (hv : fs[k]? = some v) (kk : xG E X cells slots n L (v :: st)) : xG E X cells slots pc L (.ref a :: st) := by
  subst hn
  intro H locs ls h1 h2 h3
  exact va_get (ws := [(a, .inr (ci, fs))]) C.1 C.2.1 C.ts K.2.1 C.ow C.kk.1 (xP1 (h1.2.2 a _ hX).1) 0 rfl K.1 k (Nat.blt_eq.mp hk) (C.ts _ hl) (xsm C.ts hsm) hv hd (kk H locs ls h1 h2 h3)
theorem xr_put (C : xCx E y cc nL ret hs d mc ms Post) {ci N idx a : Nat} {fs fs' : List Value} {v : Value} {Cn ref : String} {T : u_T} {ty : Nat → FieldType} (K : xCl ci Cn T N ty) (k : Nat) (hd : decode cc pc = .ok (.putfield idx, 3)) (n : Nat) (hn : pc + 3 = n) (hl : Cond.fieldLink y.cls idx ref (T k).2.1 (T k).2.2.1 ∈ xT) (hsm : ref = (T k).1 ∨ Cond.sameField ref (T k).1 (T k).2.1 (T k).2.2.1 ∈ xT) (hk : Nat.blt k N = true) (hfin : (T k).2.2.2 = false) (hnar : narrow (ty k) v = v) (hfit : fits (ty k) v = true) (hX : X a = some (.inr (ci, fs))) (hlen : Nat.blt k fs.length = true) (hfs : fs.set k v = fs') (kk : xG E (xup X a (.inr (ci, fs'))) cells slots n L st) : xG E X cells slots pc L (v :: .ref a :: st) := by
  subst hn
  subst hfs
  have hk : k < N := Nat.blt_eq.mp hk
  have hlen : k < fs.length := Nat.blt_eq.mp hlen
  intro H locs ls h1 h2 h3
  have hK := C.kk.1
  have hap := va_apart (own := y.cls) C.ts K.2.1 ty K.2.2.1 K.2.2.2 hK K.1
  obtain ⟨r, g1, cell, q1, q2, q3, q4⟩ := (h1.2.2 a _ hX).1
  have hr : r = (Cn, T, N) := Option.some.inj (g1.symm.trans K.1)
  subst hr
  obtain ⟨hS, hfc, kC, hkC, hkind⟩ := hK.1 ci _ K.1
  obtain ⟨cf, kf, fi, f, hi, hsl⟩ := hS k hk
  have hlay := C.ts _ (K.2.1 _ (u_in_lay hk))
  unfold u_lay at hlay
  rw [if_neg (by rw [hfin]; decide)] at hlay
  have hst := (u_facts hfc hkC (u_lays C.ts K.2.1 hk) hi).1
  have h6 := u_store hfc hkC hkind hlay hi (K.2.2.1 k hk) hnar hfit
  refine W.putK C.1 C.2.1 (f := f) ⟨C.ow, C.ts _ hl, ⟨_, _, _, xsm C.ts hsm _ hi⟩, hst⟩ (by rw [q2]; exact h6) q1 q3 (by rw [hsl]; exact k2_hasslot (q4 k hk)) rfl rfl hd fun H' e1 e2 e3 => ?_
  rw [hsl] at e1 ⊢
  have hat : xat E.D (a, .inr (ci, fs.set k v)) H' := ⟨_, K.1, t_OB.to (V := updV (vp_V fs) k v) ⟨_, e1, q2, q3, t_set q4 hap hk v⟩ (fun j _ => vp_updV_set hlen v j)⟩
  exact kk H' _ ls (h1.put hX (fun z => z) hat e2 e3) (h2.put e2 e3 (h1.old hX (fun z => z))) h3
theorem xr_putF (C : xCx E y cc nL ret hs d mc ms Post) {ci N idx a : Nat} {fs fs' : List Value} {v : Value} {Cn ref : String} {T : u_T} {ty : Nat → FieldType} (K : xCl ci Cn T N ty) (k : Nat) (hd : decode cc pc = .ok (.putfield idx, 3)) (n : Nat) (hn : pc + 3 = n) (hl : Cond.fieldLink y.cls idx ref (T k).2.1 (T k).2.2.1 ∈ xT) (hsm : ref = (T k).1 ∨ Cond.sameField ref (T k).1 (T k).2.1 (T k).2.2.1 ∈ xT) (hk : Nat.blt k N = true) (hfin : (T k).2.2.2 = true) (hini : y.name = "<init>") (hdecl : (T k).1 = y.cls) (hnar : narrow (ty k) v = v) (hfit : fits (ty k) v = true) (hX : X a = some (.inr (ci, fs))) (hlen : Nat.blt k fs.length = true) (hfs : fs.set k v = fs') (kk : xG E (xup X a (.inr (ci, fs'))) cells slots n L st) : xG E X cells slots pc L (v :: .ref a :: st) := by
  subst hn
  subst hfs
  have hk : k < N := Nat.blt_eq.mp hk
  have hlen : k < fs.length := Nat.blt_eq.mp hlen
  intro H locs ls h1 h2 h3
  have hK := C.kk.1
  have hap := va_apart (own := y.cls) C.ts K.2.1 ty K.2.2.1 K.2.2.2 hK K.1
  obtain ⟨r, g1, cell, q1, q2, q3, q4⟩ := (h1.2.2 a _ hX).1
  have hr : r = (Cn, T, N) := Option.some.inj (g1.symm.trans K.1)
  subst hr
  obtain ⟨hS, hfc, kC, hkC, hkind⟩ := hK.1 ci _ K.1
  obtain ⟨cf, kf, fi, f, hi, hsl⟩ := hS k hk
  have hlay := C.ts _ (K.2.1 _ (u_in_lay hk))
  unfold u_lay at hlay
  rw [if_pos hfin] at hlay
  have hst := (u_facts hfc hkC (u_lays C.ts K.2.1 hk) hi).1
  have hcf : E.m.cls = cf := by
    obtain ⟨_, _, c', _, _, _, -, -, hf', -, -, -, hown2, -⟩ := Cond.laysFinal_spec hlay
    have e1 : c' = cf := by have := hi.symm.trans hf'; simp at this; exact this.1.symm
    rw [hdecl] at hown2
    rw [← e1]; exact Option.some.inj (C.ow.symm.trans hown2)
  have h6 := u_fits hfc hkC hkind (Or.inr hlay) hi (K.2.2.1 k hk) hnar hfit
  refine W.putFinK C.1 C.2.1 C.ow (C.ts _ hl) (xsm C.ts hsm _ hi) hst hcf (C.nm.trans hini) (by rw [q2]; exact h6) q1 q3 (by rw [hsl]; exact k2_hasslot (q4 k hk)) rfl rfl hd fun H' e1 e2 e3 => ?_
  rw [hsl] at e1 ⊢
  have hat : xat E.D (a, .inr (ci, fs.set k v)) H' := ⟨_, K.1, t_OB.to (V := updV (vp_V fs) k v) ⟨_, e1, q2, q3, t_set q4 hap hk v⟩ (fun j _ => vp_updV_set hlen v j)⟩
  exact kk H' _ ls (h1.put hX (fun z => z) hat e2 e3) (h2.put e2 e3 (h1.old hX (fun z => z))) h3
theorem xr_alen (C : xCx E y cc nL ret hs d mc ms Post) {a t0 : Nat} {cA : ClassId} {x : vp_A} {ty : FieldType} (ht : (xty E.D)[t0]? = some (cA, ty)) (hd : decode cc pc = .ok (.arraylength, 1)) (n : Nat) (hn : pc + 1 = n) (hX : X a = some (.inl (cA, x))) (kk : xG E X cells slots n L (.int (nI x.1) :: st)) : xG E X cells slots pc L (.ref a :: st) := by
  subst hn
  intro H locs ls h1 h2 h3
  obtain ⟨c, c', g1, g2, g3⟩ := h1.cell2 hX C.kk.1 C.kk.2.2.2.2.2.2.2.2 ht
  exact W.alen (n := nI x.1) C.1 C.2.1 g1 (g2.of g3) (by rw [g2.size]; rfl) rfl rfl hd (kk H locs ls h1 h2 h3)
theorem xr_bald (C : xCx E y cc nL ret hs d mc ms Post) {a N j : Nat} {f : Nat → Int32} {i : Int32} (hd : decode cc pc = .ok (.baload, 1)) (n : Nat) (hn : pc + 1 = n) (hX : X a = some (.inl (E.D.1 100, N, .inl f))) (hi : i = nI j) (hj : j < N) (hN : N < 2 ^ 31) (kk : xG E X cells slots n L (.int (f j) :: st)) : xG E X cells slots pc L (.int i :: .ref a :: st) := by
  subst hn
  subst hi
  intro H locs ls h1 h2 h3
  obtain ⟨c, g1, g2⟩ := h1.cell hX (show N ≠ 0 by omega)
  have hclm : (nI j).toNatClampNeg = j := nI_clamp (by omega)
  exact W.bald (v := .int (f j)) C.1 C.2.1 g1 (g2.of (C.kk.1.2 0 _ rfl).1) g2.2.1 (by rw [g2.size]; exact vp_in_nI hj hN) (by rw [hclm]; exact g2.read hj) rfl rfl hd (kk H locs ls h1 h2 h3)
theorem xr_bast (C : xCx E y cc nL ret hs d mc ms Post) {a N j : Nat} {f : Nat → Int32} {i : Int32} {x : Int32} (hd : decode cc pc = .ok (.bastore, 1)) (n : Nat) (hn : pc + 1 = n) (hX : X a = some (.inl (E.D.1 100, N, .inl f))) (hi : i = nI j) (hj : j < N) (hN : N < 2 ^ 31) (kk : xG E (xup X a (.inl (E.D.1 100, N, .inl (upd f j (vp_nar .byte x))))) cells slots n L st) : xG E X cells slots pc L (.int x :: .int i :: .ref a :: st) := by
  subst hn
  subst hi
  intro H locs ls h1 h2 h3
  have hz : ¬ xz (.inl (E.D.1 100, N, .inl f) : va_E) := fun z => by
    have : N = 0 := z
    omega
  have hclm : (nI j).toNatClampNeg = j := nI_clamp (by omega)
  obtain ⟨c, b1, b2⟩ := h1.cell hX (show N ≠ 0 by omega)
  refine W.bast C.1 C.2.1 b1 (b2.of (C.kk.1.2 0 _ rfl).1) b2.2.1 (by rw [b2.size]; exact vp_in_nI hj hN) rfl rfl hd fun H' e1 z oq => ?_
  have hat : xat E.D (a, .inl (E.D.1 100, N, .inl (upd f j (vp_nar .byte x)))) H' := by
    refine ⟨_, e1, Or.inl ?_⟩
    rw [hclm]
    refine b2.set j _ ?_
    funext q
    by_cases hq : q = j
    · subst hq
      simp [xav, updV, upd, vp_nar]
      try rfl
    · simp [xav, updV, upd, hq]
  exact kk H' _ ls (h1.put hX hz hat z oq) (h2.put z oq (h1.old hX hz)) h3
theorem xr_newb (C : xCx E y cc nL ret hs d mc ms Post) {N : Nat} {i : Int32} (hd : decode cc pc = .ok (.newarray .byte, 2)) (n : Nat) (hn : pc + 2 = n) (hw : Cond.arrayClass .byte ∈ xT) (hi : i = nI N) (hN : N < 16777216) (hc : cells + 1 ≤ mc) (hsl : slots + N ≤ ms) (kk : ∀ q : Nat, X q = none → xG E (xup X q (.inl (E.D.1 100, N, .inl (fun _ => 0)))) (cells + 1) (slots + N) n L (.ref q :: st)) : xG E X cells slots pc L (.int i :: st) := by
  subst hn
  subst hi
  intro H locs ls h1 h2 h3
  have hclm : (nI N).toNatClampNeg = N := nI_clamp (by omega)
  refine va_newaK (atype := .byte) C.1 C.2.1 (C.ts _ hw) rfl hd rfl (nI_pos (by omega)) hclm (show N * componentBytes .byte ≤ 536870912 by simp [componentBytes]; omega) (C.rc hc) (C.rs hsl) rfl fun H1 cA e1 z1 o1 hAr hNm => ?_
  have hcA : cA = E.D.1 100 := Option.some.inj (hNm.symm.trans (C.kk.1.2 0 _ rfl).2)
  subst hcA
  have hat : xat E.D (H.size, .inl (E.D.1 100, N, .inl (fun _ => 0))) H1 := ⟨_, e1, Or.inl (xac_new _ _ _)⟩
  obtain ⟨hf, hR⟩ := h1.new hat z1 o1
  exact kk H.size hf H1 locs ls hR (xS_more h2 (by omega) o1) h3
theorem xr_iald (C : xCx E y cc nL ret hs d mc ms Post) {a N j : Nat} {f : Nat → Int32} {i : Int32} (hd : decode cc pc = .ok (.iaload, 1)) (n : Nat) (hn : pc + 1 = n) (hX : X a = some (.inl (E.D.1 103, N, .inl f))) (hi : i = nI j) (hj : j < N) (hN : N < 2 ^ 31) (kk : xG E X cells slots n L (.int (f j) :: st)) : xG E X cells slots pc L (.int i :: .ref a :: st) := by
  subst hn
  subst hi
  intro H locs ls h1 h2 h3
  obtain ⟨c, g1, g2⟩ := h1.cell hX (show N ≠ 0 by omega)
  have hclm : (nI j).toNatClampNeg = j := nI_clamp (by omega)
  exact W.iald (v := .int (f j)) C.1 C.2.1 g1 (g2.of (C.kk.1.2 3 _ rfl).1) g2.2.1 (by rw [g2.size]; exact vp_in_nI hj hN) (by rw [hclm]; exact g2.read hj) rfl rfl hd (kk H locs ls h1 h2 h3)
theorem xr_iast (C : xCx E y cc nL ret hs d mc ms Post) {a N j : Nat} {f : Nat → Int32} {i : Int32} {x : Int32} (hd : decode cc pc = .ok (.iastore, 1)) (n : Nat) (hn : pc + 1 = n) (hX : X a = some (.inl (E.D.1 103, N, .inl f))) (hi : i = nI j) (hj : j < N) (hN : N < 2 ^ 31) (kk : xG E (xup X a (.inl (E.D.1 103, N, .inl (upd f j x)))) cells slots n L st) : xG E X cells slots pc L (.int x :: .int i :: .ref a :: st) := by
  subst hn
  subst hi
  intro H locs ls h1 h2 h3
  have hz : ¬ xz (.inl (E.D.1 103, N, .inl f) : va_E) := fun z => by
    have : N = 0 := z
    omega
  have hclm : (nI j).toNatClampNeg = j := nI_clamp (by omega)
  obtain ⟨c, b1, b2⟩ := h1.cell hX (show N ≠ 0 by omega)
  refine W.iast C.1 C.2.1 b1 (b2.of (C.kk.1.2 3 _ rfl).1) b2.2.1 (by rw [b2.size]; exact vp_in_nI hj hN) rfl rfl hd fun H' e1 z oq => ?_
  have hat : xat E.D (a, .inl (E.D.1 103, N, .inl (upd f j x))) H' := by
    refine ⟨_, e1, Or.inl ?_⟩
    rw [hclm]
    refine b2.set j _ ?_
    funext q
    by_cases hq : q = j
    · subst hq
      simp [xav, updV, upd, vp_nar]
      try rfl
    · simp [xav, updV, upd, hq]
  exact kk H' _ ls (h1.put hX hz hat z oq) (h2.put z oq (h1.old hX hz)) h3
theorem xr_newi (C : xCx E y cc nL ret hs d mc ms Post) {N : Nat} {i : Int32} (hd : decode cc pc = .ok (.newarray .int, 2)) (n : Nat) (hn : pc + 2 = n) (hw : Cond.arrayClass .int ∈ xT) (hi : i = nI N) (hN : N < 16777216) (hc : cells + 1 ≤ mc) (hsl : slots + N ≤ ms) (kk : ∀ q : Nat, X q = none → xG E (xup X q (.inl (E.D.1 103, N, .inl (fun _ => 0)))) (cells + 1) (slots + N) n L (.ref q :: st)) : xG E X cells slots pc L (.int i :: st) := by
  subst hn
  subst hi
  intro H locs ls h1 h2 h3
  have hclm : (nI N).toNatClampNeg = N := nI_clamp (by omega)
  refine va_newaK (atype := .int) C.1 C.2.1 (C.ts _ hw) rfl hd rfl (nI_pos (by omega)) hclm (show N * componentBytes .int ≤ 536870912 by simp [componentBytes]; omega) (C.rc hc) (C.rs hsl) rfl fun H1 cA e1 z1 o1 hAr hNm => ?_
  have hcA : cA = E.D.1 103 := Option.some.inj (hNm.symm.trans (C.kk.1.2 3 _ rfl).2)
  subst hcA
  have hat : xat E.D (H.size, .inl (E.D.1 103, N, .inl (fun _ => 0))) H1 := ⟨_, e1, Or.inl (xac_new _ _ _)⟩
  obtain ⟨hf, hR⟩ := h1.new hat z1 o1
  exact kk H.size hf H1 locs ls hR (xS_more h2 (by omega) o1) h3
theorem xr_lald (C : xCx E y cc nL ret hs d mc ms Post) {a N j : Nat} {f : Nat → Int64} {i : Int32} (hd : decode cc pc = .ok (.laload, 1)) (n : Nat) (hn : pc + 1 = n) (hX : X a = some (.inl (E.D.1 102, N, .inr (.inl f)))) (hi : i = nI j) (hj : j < N) (hN : N < 2 ^ 31) (kk : xG E X cells slots n L (.long (f j) :: st)) : xG E X cells slots pc L (.int i :: .ref a :: st) := by
  subst hn
  subst hi
  intro H locs ls h1 h2 h3
  obtain ⟨c, g1, g2⟩ := h1.cell hX (show N ≠ 0 by omega)
  have hclm : (nI j).toNatClampNeg = j := nI_clamp (by omega)
  exact W.lald (v := .long (f j)) C.1 C.2.1 g1 (g2.of (C.kk.1.2 2 _ rfl).1) g2.2.1 (by rw [g2.size]; exact vp_in_nI hj hN) (by rw [hclm]; exact g2.read hj) rfl rfl hd (kk H locs ls h1 h2 h3)
theorem xr_last (C : xCx E y cc nL ret hs d mc ms Post) {a N j : Nat} {f : Nat → Int64} {i : Int32} {x : Int64} (hd : decode cc pc = .ok (.lastore, 1)) (n : Nat) (hn : pc + 1 = n) (hX : X a = some (.inl (E.D.1 102, N, .inr (.inl f)))) (hi : i = nI j) (hj : j < N) (hN : N < 2 ^ 31) (kk : xG E (xup X a (.inl (E.D.1 102, N, .inr (.inl (vp_updL f j x))))) cells slots n L st) : xG E X cells slots pc L (.long x :: .int i :: .ref a :: st) := by
  subst hn
  subst hi
  intro H locs ls h1 h2 h3
  have hz : ¬ xz (.inl (E.D.1 102, N, .inr (.inl f)) : va_E) := fun z => by
    have : N = 0 := z
    omega
  have hclm : (nI j).toNatClampNeg = j := nI_clamp (by omega)
  obtain ⟨c, b1, b2⟩ := h1.cell hX (show N ≠ 0 by omega)
  refine W.last C.1 C.2.1 b1 (b2.of (C.kk.1.2 2 _ rfl).1) b2.2.1 (by rw [b2.size]; exact vp_in_nI hj hN) rfl rfl hd fun H' e1 z oq => ?_
  have hat : xat E.D (a, .inl (E.D.1 102, N, .inr (.inl (vp_updL f j x)))) H' := by
    refine ⟨_, e1, Or.inl ?_⟩
    rw [hclm]
    refine b2.set j _ ?_
    funext q
    by_cases hq : q = j
    · subst hq
      simp [xav, updV, vp_updL, vp_nar]
      try rfl
    · simp [xav, updV, vp_updL, hq]
  exact kk H' _ ls (h1.put hX hz hat z oq) (h2.put z oq (h1.old hX hz)) h3
theorem xr_newl (C : xCx E y cc nL ret hs d mc ms Post) {N : Nat} {i : Int32} (hd : decode cc pc = .ok (.newarray .long, 2)) (n : Nat) (hn : pc + 2 = n) (hw : Cond.arrayClass .long ∈ xT) (hi : i = nI N) (hN : N < 16777216) (hc : cells + 1 ≤ mc) (hsl : slots + N ≤ ms) (kk : ∀ q : Nat, X q = none → xG E (xup X q (.inl (E.D.1 102, N, .inr (.inl (fun _ => 0))))) (cells + 1) (slots + N) n L (.ref q :: st)) : xG E X cells slots pc L (.int i :: st) := by
  subst hn
  subst hi
  intro H locs ls h1 h2 h3
  have hclm : (nI N).toNatClampNeg = N := nI_clamp (by omega)
  refine va_newaK (atype := .long) C.1 C.2.1 (C.ts _ hw) rfl hd rfl (nI_pos (by omega)) hclm (show N * componentBytes .long ≤ 536870912 by simp [componentBytes]; omega) (C.rc hc) (C.rs hsl) rfl fun H1 cA e1 z1 o1 hAr hNm => ?_
  have hcA : cA = E.D.1 102 := Option.some.inj (hNm.symm.trans (C.kk.1.2 2 _ rfl).2)
  subst hcA
  have hat : xat E.D (H.size, .inl (E.D.1 102, N, .inr (.inl (fun _ => 0)))) H1 := ⟨_, e1, Or.inl (xac_new _ _ _)⟩
  obtain ⟨hf, hR⟩ := h1.new hat z1 o1
  exact kk H.size hf H1 locs ls hR (xS_more h2 (by omega) o1) h3
theorem xr_aald (C : xCx E y cc nL ret hs d mc ms Post) {a N j q : Nat} {f : Nat → Option Nat} {i : Int32} (hd : decode cc pc = .ok (.aaload, 1)) (n : Nat) (hn : pc + 1 = n) (hX : X a = some (.inl (E.D.1 101, N, .inr (.inr (.inr (.inr f)))))) (hi : i = nI j) (hj : j < N) (hN : N < 2 ^ 31) (hf : f j = some q) (kk : xG E X cells slots n L (.ref q :: st)) : xG E X cells slots pc L (.int i :: .ref a :: st) := by
  subst hn
  subst hi
  intro H locs ls h1 h2 h3
  obtain ⟨c, g1, g2⟩ := h1.cell hX (show N ≠ 0 by omega)
  have hclm : (nI j).toNatClampNeg = j := nI_clamp (by omega)
  exact W.aald (v := .ref q) (ty := .object "java/lang/Object") C.1 C.2.1 g1 (g2.of (C.kk.1.2 1 _ rfl).1) rfl g2.2.1 (by rw [g2.size]; exact vp_in_nI hj hN) (by rw [hclm, g2.read hj]; show some (va_rf (f j)) = _; rw [hf]; rfl) rfl rfl hd (kk H locs ls h1 h2 h3)
theorem xr_aast (C : xCx E y cc nL ret hs d mc ms Post) {a N j v ci : Nat} {vs : List Value} {r : vw_C} {f : Nat → Option Nat} {i : Int32} (hd : decode cc pc = .ok (.aastore, 1)) (n : Nat) (hn : pc + 1 = n) (hX : X a = some (.inl (E.D.1 101, N, .inr (.inr (.inr (.inr f)))))) (hi : i = nI j) (hj : j < N) (hN : N < 2 ^ 31) (hv : X v = some (.inr (ci, vs))) (hc : xcl[ci]? = some r) (hca : Cond.castable r.1 "java/lang/Object" ∈ xT) (kk : xG E (xup X a (.inl (E.D.1 101, N, .inr (.inr (.inr (.inr (va_up f j (some v)))))))) cells slots n L st) : xG E X cells slots pc L (.ref v :: .int i :: .ref a :: st) := by
  subst hn
  subst hi
  intro H locs ls h1 h2 h3
  have hK := C.kk.1
  have hz : ¬ xz (.inl (E.D.1 101, N, .inr (.inr (.inr (.inr f)))) : va_E) := fun z => by
    have : N = 0 := z
    omega
  have hclm : (nI j).toNatClampNeg = j := nI_clamp (by omega)
  obtain ⟨c, b1, b2⟩ := h1.cell hX (show N ≠ 0 by omega)
  obtain ⟨r', hr', cellV, g1, g2, g3, -⟩ := (h1.2.2 v _ hv).1
  have hcls := (hK.1 ci r hc).2
  obtain ⟨kA, comp, k1, k2, k3, -⟩ := (hK.2 1 _ rfl).2
  obtain ⟨kE, hkE, -⟩ := Vm.findClass_spec k3
  obtain ⟨c0, t1, f1, f2, f3⟩ := Cond.castable_spec (C.ts _ hca)
  cases hcls.1.symm.trans f1
  cases k3.symm.trans f2
  obtain ⟨kC, hkC, -⟩ := hcls.2
  refine W.aast C.1 C.2.1 b1 b2.2.2.1 b2.2.1 (by rw [b2.1]; exact k1) k2 rfl hkE ⟨nI_pos (by omega), by rw [b2.size, hclm]; exact hj⟩ g1 (fun q h => by rw [g3] at h; cases h) (by rw [g2]; exact hkC) (by rw [g2]; exact f3) rfl rfl hd fun H' e1 z oq => ?_
  have hat : xat E.D (a, .inl (E.D.1 101, N, .inr (.inr (.inr (.inr (va_up f j (some v))))))) H' := by
    refine ⟨_, e1, Or.inl ?_⟩
    rw [hclm]
    refine b2.set j (.ref v) ?_
    funext q
    by_cases hq : q = j
    · subst hq
      simp [xav, updV, va_up, va_rf]
    · simp [xav, updV, va_up, hq]
  exact kk H' _ ls (h1.put hX hz hat z oq) (h2.put z oq (h1.old hX hz)) h3
theorem xr_aastN (C : xCx E y cc nL ret hs d mc ms Post) {a N j : Nat} {f : Nat → Option Nat} {i : Int32} (hd : decode cc pc = .ok (.aastore, 1)) (n : Nat) (hn : pc + 1 = n) (hX : X a = some (.inl (E.D.1 101, N, .inr (.inr (.inr (.inr f)))))) (hi : i = nI j) (hj : j < N) (hN : N < 2 ^ 31) (kk : xG E (xup X a (.inl (E.D.1 101, N, .inr (.inr (.inr (.inr (va_up f j none))))))) cells slots n L st) : xG E X cells slots pc L (.null :: .int i :: .ref a :: st) := by
  subst hn
  subst hi
  intro H locs ls h1 h2 h3
  have hz : ¬ xz (.inl (E.D.1 101, N, .inr (.inr (.inr (.inr f)))) : va_E) := fun z => by
    have : N = 0 := z
    omega
  have hclm : (nI j).toNatClampNeg = j := nI_clamp (by omega)
  obtain ⟨c, b1, b2⟩ := h1.cell hX (show N ≠ 0 by omega)
  refine va_WaastN (C := "java/lang/Object") C.1 C.2.1 b1 (b2.of (C.kk.1.2 1 _ rfl).1) b2.2.1 (by rw [b2.size]; exact vp_in_nI hj hN) rfl rfl hd fun H' e1 z oq => ?_
  have hat : xat E.D (a, .inl (E.D.1 101, N, .inr (.inr (.inr (.inr (va_up f j none)))))) H' := by
    refine ⟨_, e1, Or.inl ?_⟩
    rw [hclm]
    refine b2.set j .null ?_
    funext q
    by_cases hq : q = j
    · subst hq
      simp [xav, updV, va_up, va_rf]
    · simp [xav, updV, va_up, hq]
  exact kk H' _ ls (h1.put hX hz hat z oq) (h2.put z oq (h1.old hX hz)) h3
theorem xr_newq (C : xCx E y cc nL ret hs d mc ms Post) {idx N : Nat} {i : Int32} (hd : decode cc pc = .ok (.anewarray idx, 3)) (n : Nat) (hn : pc + 3 = n) (hl : Cond.classLink y.cls idx "java/lang/Object" ∈ xT) (hi : i = nI N) (hN : N < 134217728) (hc : cells + 1 ≤ mc) (hsl : slots + N ≤ ms) (kk : ∀ q : Nat, X q = none → xG E (xup X q (.inl (E.D.1 101, N, .inr (.inr (.inr (.inr (fun _ => none))))))) (cells + 1) (slots + N) n L (.ref q :: st)) : xG E X cells slots pc L (.int i :: st) := by
  subst hn
  subst hi
  intro H locs ls h1 h2 h3
  have hclm : (nI N).toNatClampNeg = N := nI_clamp (by omega)
  refine W.anew C.1 C.2.1 C.ow (C.ts _ hl) (va_AO.use C.kk.2.1) rfl hd rfl (nI_pos (by omega)) (by rw [hclm]; omega) (C.rc hc) (by rw [hclm]; exact C.rs hsl) fun cA kA comp f1 f2 f3 f4 => ?_
  obtain ⟨kA', comp', k1, k2, k3, k4⟩ := (C.kk.1.2 1 _ rfl).2
  have hcA : cA = E.D.1 101 := Option.some.inj (f1.symm.trans k4)
  subst hcA
  rw [hclm]
  generalize hH1 : H.push ({ cls := E.D.1 101, slots := Array.replicate N .null, vm := .none } : Cell) = H1
  have z1 : H1.size = H.size + 1 := by rw [← hH1, Array.size_push]
  have e1 : H1[H.size]? = some (arrV (E.D.1 101) N (fun _ => .null)) := by rw [← hH1, Array.getElem?_push_size, ← arrV_new]
  have o1 : ∀ q : Nat, q < H.size → H1[q]? = H[q]? := fun q hq => by rw [← hH1, Array.getElem?_push, if_neg (Nat.ne_of_lt hq)]
  have hat : xat E.D (H.size, .inl (E.D.1 101, N, .inr (.inr (.inr (.inr (fun _ => none)))))) H1 := ⟨_, e1, Or.inl (xac_new _ _ _)⟩
  obtain ⟨hf, hR⟩ := h1.new hat z1 o1
  exact kk H.size hf H1 locs ls hR (xS_more h2 (by omega) o1) h3
theorem xr_new (C : xCx E y cc nL ret hs d mc ms Post) {ci N idx : Nat} {fs : List Value} {Cn : String} {T : u_T} {ty : Nat → FieldType} (K : xCl ci Cn T N ty) (hd : decode cc pc = .ok (.new idx, 3)) (n : Nat) (hn : pc + 3 = n) (hl : Cond.classLink y.cls idx Cn ∈ xT) (hin : Cond.instantiable Cn N ∈ xT) (hit : Cond.initialized Cn ∈ xT) (hfs : ∀ j, j < N → defaultValue (ty j) = vp_V fs j) (hc : cells + 1 ≤ mc) (hsl : slots + N ≤ ms) (kk : ∀ q : Nat, X q = none → xG E (xup X q (.inr (ci, fs))) (cells + 1) (slots + N) n L (.ref q :: st)) : xG E X cells slots pc L st := by
  subst hn
  intro H locs ls h1 h2 h3
  have hKn := C.kk.1.1 ci _ K.1
  refine W.newcK C.1 C.2.1 C.ow (C.ts _ hl) (C.ts _ hin) (C.ts _ hit) rfl hd (C.rc hc) (C.rs hsl) hKn.2.1 rfl fun H1 kC hkC e1 z1 o1 => ?_
  have hat : xat E.D (H.size, .inr (ci, fs)) H1 := ⟨_, K.1, (u_born ty C.ts K.2.1 hKn hkC e1 K.2.2.1).to hfs⟩
  obtain ⟨hf, hR⟩ := h1.new hat z1 o1
  exact kk H.size hf H1 locs ls hR (xS_more h2 (by omega) o1) h3
theorem xr_cast (C : xCx E y cc nL ret hs d mc ms Post) {ci idx a : Nat} {fs : List Value} {r : vw_C} (hd : decode cc pc = .ok (.checkcast idx, 3)) (n : Nat) (hn : pc + 3 = n) (hX : X a = some (.inr (ci, fs))) (hc : xcl[ci]? = some r) (hl : Cond.classLink y.cls idx r.1 ∈ xT) (kk : xG E X cells slots n L (.ref a :: st)) : xG E X cells slots pc L (.ref a :: st) := by
  subst hn
  intro H locs ls h1 h2 h3
  exact va_castE C.1 C.2.1 C.ow (C.ts _ hl) (va_recv (q0 := 0) C.kk.1 (xP1 (h1.2.2 a _ hX).1) hc rfl) hd (kk H locs ls h1 h2 h3)
theorem xr_objInit (C : xCx E y cc nL ret hs d mc ms Post) {idx a : Nat} (hd : decode cc pc = .ok (.invokespecial idx, 3)) (n : Nat) (hn : pc + 3 = n) (hl : Cond.methodLink y.cls idx objectInit ∈ xT) (hi : Cond.instanceMethod objectInit ∈ xT) (hco : Cond.code objectInit ⟨#[0xb1]⟩ 1 none ∈ xT) (hst : (st.map fun v => v.category).sum ≤ 8) (kk : xG E X cells slots n L st) : xG E X cells slots pc L (.ref a :: st) := by
  subst hn
  intro H locs ls h1 h2 h3
  exact W.objInit C.1 C.2.1 C.ow (C.ts _ hl) (C.ts _ hi) (C.ts _ hco) rfl (by rw [C.2.2.1]; exact h3.1) rfl hd (by rw [C.rm]; show 1 ≤ d + 8; omega) (by rw [C.rm]; show 2 * 0 + _ + 12 ≤ 40 * (d + 8); omega) (kk H locs ls h1 h2 h3)
/-! returns -/
theorem xW_mono {p : Program} {l : Launch} {e : Env} {R : Room} {s : State} {m : MethodId} {args : Array Value} {below : List Frame} {meth : Method} {c : Code} {H : Heap} {locs : List Loc} {cells slots : Nat} {Q Q' : State → Prop} {g : JFrame} (h : ∀ t, Q t → Q' t) (k : W p l e R s m args below meth c H locs cells slots Q g) : W p l e R s m args below meth c H locs cells slots Q' g := fun T hT X => by
  obtain ⟨t, a, b⟩ := k T hT X
  exact ⟨t, a, h t b⟩
theorem xMQ_of {D : va_G} {H0 : Heap} {below : List Frame} {s : State} {args : Array Value} {mc ms : Nat} {Post : xO → xH → Prop} {v : Option Value} {X : xH} (hp : Post (.inl v) X) (t : State) (h : MQ below (fun _ _ o t => o = .returned v ∧ xRep D H0 X t.heap) args s mc ms (fun q => H0.size ≤ q) t) : xMQ D H0 below s mc ms Post t := by
  obtain ⟨o, h1, h2, ⟨rfl, h4⟩, L, h5, h6⟩ := h
  exact ⟨_, .inl v, X, L, h1, h2, rfl, h4, hp, h5.2.1, h5.2.2, h6⟩
theorem xr_iret (C : xCx E y cc nL (some .int) hs d mc ms Post) {v : Int32} (hd : decode cc pc = .ok (.ireturn, 1)) (hc : cells ≤ mc) (hsl : slots ≤ ms) (hp : Post (.inl (some (.int v))) X) : xG E X cells slots pc L [.int v] := by
  intro H locs ls h1 h2 h3
  rw [C.qq]
  exact W.widen hc hsl (xW_mono (xMQ_of hp) (W.iret C.1 C.2.1 C.rt (fun t ht _ => ⟨rfl, by rw [ht]; exact h1⟩) h2.2.2 hd C.lk))
theorem xr_zret (C : xCx E y cc nL (some .boolean) hs d mc ms Post) {v : Int32} (hd : decode cc pc = .ok (.ireturn, 1)) (hz : narrow .boolean (.int v) = .int v) (hc : cells ≤ mc) (hsl : slots ≤ ms) (hp : Post (.inl (some (.int v))) X) : xG E X cells slots pc L [.int v] := by
  intro H locs ls h1 h2 h3
  rw [C.qq]
  exact W.widen hc hsl (xW_mono (xMQ_of hp) (W.zret C.1 C.2.1 C.rt hz (fun t ht _ => ⟨rfl, by rw [ht]; exact h1⟩) h2.2.2 hd C.lk))
theorem xr_vret (C : xCx E y cc nL none hs d mc ms Post) (hd : decode cc pc = .ok (.return_, 1)) (hc : cells ≤ mc) (hsl : slots ≤ ms) (hp : Post (.inl none) X) : xG E X cells slots pc L [] := by
  intro H locs ls h1 h2 h3
  rw [C.qq]
  exact W.widen hc hsl (xW_mono (xMQ_of hp) (W.vret C.1 C.2.1 C.rt (fun t ht _ => ⟨rfl, by rw [ht]; exact h1⟩) h2.2.2 hd C.lk))
theorem xr_aret {rt : FieldType} (C : xCx E y cc nL (some rt) hs d mc ms Post) {a : Nat} (hd : decode cc pc = .ok (.areturn, 1)) (hrt : (∃ n, rt = .object n) ∨ ∃ t, rt = .array t) (hc : cells ≤ mc) (hsl : slots ≤ ms) (hp : Post (.inl (some (.ref a))) X) : xG E X cells slots pc L [.ref a] := by
  intro H locs ls h1 h2 h3
  rw [C.qq]
  exact W.widen hc hsl (xW_mono (xMQ_of hp) (W.aret C.1 C.2.1 C.rt hrt (Or.inr ⟨a, rfl⟩) (fun t ht _ => ⟨rfl, by rw [ht]; exact h1⟩) h2.2.2 hd C.lk))
end XRH
