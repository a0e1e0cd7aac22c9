/-! Class and model side by side. -/
abbrev raw (v : va_E) : Imm := .inr (.inr (.inr v))
/-- all but the foreign cells is known still -/
def imW (I I' : Nat → Option Imm) : Prop := ∀ a v, I a = some v → (∀ z, v ≠ raw z) → I' a = some v
theorem imS.w {I I' : Nat → Option Imm} {a : Nat} {s : Ss} (h : imS I a s) (hl : imW I I') : imS I' a s := by
  obtain ⟨q, h1, h2⟩ := h
  exact ⟨q, hl _ _ h1 (by intro z h; cases h), hl _ _ h2 (by intro z h; cases h)⟩
theorem imE.w {I I' : Nat → Option Imm} {a : Nat} {s : Es} (h : imE I a s) (hl : imW I I') : imE I' a s := by
  obtain ⟨k, v, h1, h2, h3⟩ := h
  exact ⟨k, v, hl _ _ h1 (by intro z h; cases h), hl _ _ h2 (by intro z h; cases h), hl _ _ h3 (by intro z h; cases h)⟩
theorem xMac.w {D : va_G} {X : xH} {I I' : Nat → Option Imm} {a ls bs cs mp la be ce : Nat} {as1 as2 : List Nat} {ss : List Ss} {es : List Es} {g : Int32} (h : xMac D X I a ls bs cs mp la be ce as1 as2 ss es g) (hl : imW I I') : xMac D X I' a ls bs cs mp la be ce as1 as2 ss es g := by
  obtain ⟨ha, hL, hE, hok, hM, hll, hbb⟩ := h
  exact ⟨ha, hL, ⟨hE.1, fun i hi => (hE.2 i hi).w hl⟩, hok, ⟨hM.1, hM.2.1, ⟨hM.2.2.1.1, fun i hi => (hM.2.2.1.2 i hi).w hl⟩, hM.2.2.2⟩, hll, hbb⟩
/-- foreign cells have changed -/
theorem xTK.for {D : va_G} {X X' : xH} {F V : Nat → Nat} {I I' : Nat → Option Imm} {S : St} {T : List Nat} (h : xTK D X F V I S) (hT : ∀ q ∈ T, ∃ v, I q = some (raw v)) (hf : xFr T X X') (hI' : xIm D X' I') (hw : ∀ q, q ∉ T → I' q = I q) : xTK D X' F V I' S := by
  obtain ⟨h1, h2, h3, h4, h5, h6, h7, h8, h9, h10, h11⟩ := h
  have nv : ∀ {q : Nat} {v : va_E}, X q = some v → ¬ xfor v → q ∉ T := by
    intro q v hq hv hm
    obtain ⟨z, hz⟩ := hT q hm
    have g := h7 q _ hz
    cases hq.symm.trans g.1
    exact hv g.2
  have nn : ∀ {q : Nat}, I q = none → q ∉ T := by
    intro q hq hm
    obtain ⟨z, hz⟩ := hT q hm
    cases hq.symm.trans hz
  have nr : ∀ {q : Nat} {v : Imm}, I q = some v → (∀ z, v ≠ raw z) → q ∉ T := by
    intro q v hq hv hm
    obtain ⟨z, hz⟩ := hT q hm
    exact hv z (Option.some.inj (hq.symm.trans hz))
  have hW : imW I I' := fun a v ha hv => by
    rw [hw a (nr ha hv)]
    exact ha
  have mk : ∀ {j : Nat} {mm : Mc}, xMm D X I F V j mm → xMm D X' I' F V j mm := by
    intro j mm hm
    obtain ⟨as1, as2, hm⟩ := hm
    obtain ⟨ha, hL, hE, hok, hM, hll, hbb⟩ := id hm
    obtain ⟨vl, hl⟩ := hL.ob
    obtain ⟨fb, hb⟩ := hL.ar
    obtain ⟨vk, hk⟩ := hM.2.1.ob
    obtain ⟨fe, he⟩ := hM.2.1.ar
    exact ⟨as1, as2, (hm.keepS hf (nv ha (by intro h; cases h)) (nv hl (by intro h; cases h)) (Or.inl (nv hb (fun h => h.elim))) (nv hM.1 (by intro h; cases h)) (nv hk (by intro h; cases h)) (Or.inl (nv he (fun h => h.elim)))).w hW⟩
  obtain ⟨a3, a4, hB⟩ := id h10
  obtain ⟨fb', hb'⟩ := hB.2.1.ar
  obtain ⟨fe', he'⟩ := hB.2.2.2.2.1.2.1.ar
  refine ⟨hf.use h1 (nv h1 (by intro h; cases h)), h2.keep hf (nn h3), by rw [hw _ (nn h3)]; exact h3, h4, h5.keep hf (nv h5.at (by intro h; cases h)) (nn h6), by rw [hw _ (nn h6)]; exact h6, hI', ?_, mk h9, mk h10, h11.new hf (Or.inl rfl) (Or.inl rfl) hb' he'⟩
  rw [hw _ (nr h8 (by intro z h; cases h))]
  exact h8
theorem xTK.addI {D : va_G} {X : xH} {F V : Nat → Nat} {I I' : Nat → Option Imm} {S : St} (h : xTK D X F V I S) (hI' : xIm D X I') (hle : imLe I I') (n1 : I' (F 1) = none) (n2 : I' (V 0) = none) : xTK D X F V I' S := by
  obtain ⟨h1, h2, h3, h4, h5, h6, h7, h8, h9, h10, h11⟩ := h
  obtain ⟨a1, a2, h9⟩ := h9
  obtain ⟨a3, a4, h10⟩ := h10
  exact ⟨h1, h2, n1, h4, h5, n2, hI', hle _ _ h8, ⟨a1, a2, h9.le hle⟩, ⟨a3, a4, h10.le hle⟩, h11⟩
abbrev oc (D : va_G) (f : Nat → Int64) : va_E := .inl (D.1 102, 1, .inr (.inl f))
/-- the class in state S, the model's cells as s, the array out -/
def xCo (D : va_G) (X : xH) (F V : Nat → Nat) (I : Nat → Option Imm) (A : Nat → Nat) (s : MS) (out : Nat) (f : Nat → Int64) (S : St) : Prop :=
  xTK D X F V I S ∧ mInj A ∧ (∀ k ∈ mix0, I (A k) = some (raw (mc D A s k)) ∧ A k ≠ out) ∧ I out = some (raw (oc D f))
section CO
variable {D : va_G} {X X' : xH} {F V V' : Nat → Nat} {I I' : Nat → Option Imm} {A : Nat → Nat} {s s' : MS} {out : Nat} {f f' : Nat → Int64} {S S' : St}
theorem xCo.im (h : xCo D X F V I A s out f S) : xIm D X I := h.1.2.2.2.2.2.2.1
theorem xCo.o (h : xCo D X F V I A s out f S) : X out = some (oc D f) := (h.im _ _ h.2.2.2).1
theorem xCo.m (h : xCo D X F V I A s out f S) : mX D X A s = X := mX_of (fun k hk => (h.im _ _ (h.2.2.1 k hk).1).1)
/-- the class has gone on -/
theorem xCo.go (h : xCo D X F V I A s out f S) (hle : imLe I I') (hK : xTK D X' F V' I' S') : xCo D X' F V' I' A s out f S' := ⟨hK, h.2.1, fun k hk => ⟨hle _ _ (h.2.2.1 k hk).1, (h.2.2.1 k hk).2⟩, hle _ _ h.2.2.2⟩
/-- out has been written -/
theorem xCo.put (h : xCo D X F V I A s out f S) : xCo D (xup X out (oc D f')) F V (imUp I out (raw (oc D f'))) A s out f' S := by
  have hfr : xFr [out] X (xup X out (oc D f')) := xFr_up h.o (show ¬ (1 : Nat) = 0 by decide) (by simp)
  refine ⟨h.1.for (T := [out]) (fun q hq => by rw [List.mem_singleton.mp hq]; exact ⟨_, h.2.2.2⟩) hfr ?_ (fun q hq => imUp_ne (fun e => hq (by simp [e]))), h.2.1, fun k hk => ⟨by rw [imUp_ne (h.2.2.1 k hk).2]; exact (h.2.2.1 k hk).1, (h.2.2.1 k hk).2⟩, imUp_self⟩
  intro a v hv
  by_cases e : a = out
  · subst e
    rw [imUp_self] at hv
    cases hv
    exact ⟨xup_self, trivial⟩
  · rw [imUp_ne e] at hv
    exact (h.im a v hv).keep (fun c hc => (xup_ne e).trans hc)
theorem mc_for {k : Nat} : xfor (mc D A s k) := by
  unfold mc
  split
  · rfl
  · split <;> trivial
theorem mc_nz {k : Nat} (hk : k ∈ mix0) : ¬ xz (mc D A s k) := by
  unfold mc
  split
  · exact fun z => z
  · next h0 =>
    have g : ∀ k, k ∈ mix0 → ¬ k = 0 → ¬ mlen k = 0 := by decide
    split
    · exact g k hk h0
    · exact g k hk h0
/-- the model has gone on -/
theorem xCo.mod (h : xCo D X F V I A s out f S) (s' : MS) : xCo D (mX D X A s') F V (fun q => match mix A q with | some k => some (raw (mc D A s' k)) | none => I q) A s' out f S := by
  have hA := h.2.1
  have hat : ∀ k ∈ mix0, X (A k) = some (mc D A s k) := fun k hk => (h.im _ _ (h.2.2.1 k hk).1).1
  have hno : ∀ q, q ∉ mix0.map A → mix A q = none := by
    intro q hq
    cases e : mix A q with
    | none => rfl
    | some k =>
      obtain ⟨h1, h2⟩ := mix_q e
      exact absurd (List.mem_map.mpr ⟨k, h1, h2⟩) hq
  have hX : ∀ q, mix A q = none → mX D X A s' q = X q := fun q hq => by
    unfold mX
    rw [hq]
  have hfr : xFr (mix0.map A) X (mX D X A s') := by
    refine ⟨fun q v hq hn => ?_, fun q hq => ?_⟩
    · rcases hn with hn | hn
      · rw [hX q (hno q hn)]
        exact hq
      · cases e : mix A q with
        | none =>
          rw [hX q e]
          exact hq
        | some k =>
          obtain ⟨h1, h2⟩ := mix_q e
          rw [← h2, hat k h1] at hq
          cases hq
          exact absurd hn (mc_nz h1)
    · cases e : mix A q with
      | none =>
        rw [hX q e] at hq
        exact hq
      | some k =>
        obtain ⟨h1, h2⟩ := mix_q e
        rw [← h2, mX_at hA h1] at hq
        cases hq
  have hout : mix A out = none := by
    cases e : mix A out with
    | none => rfl
    | some k =>
      obtain ⟨h1, h2⟩ := mix_q e
      exact absurd h2 (h.2.2.1 k h1).2
  refine ⟨h.1.for (T := mix0.map A) (fun q hq => ?_) hfr ?_ (fun q hq => by show (match mix A q with | some k => some (raw (mc D A s' k)) | none => I q) = I q; rw [hno q hq]), hA, fun k hk => ⟨?_, (h.2.2.1 k hk).2⟩, ?_⟩
  · obtain ⟨k, h1, h2⟩ := List.mem_map.mp hq
    rw [← h2]
    exact ⟨_, (h.2.2.1 k h1).1⟩
  · intro a v hv
    have hv : (match mix A a with | some k => some (raw (mc D A s' k)) | none => I a) = some v := hv
    cases e : mix A a with
    | none =>
      rw [e] at hv
      exact (h.im a v hv).keep (fun c hc => (hX a e).trans hc)
    | some k =>
      rw [e] at hv
      cases hv
      obtain ⟨h1, h2⟩ := mix_q e
      refine ⟨?_, mc_for⟩
      rw [← h2]
      exact mX_at hA h1
  · show (match mix A (A k) with | some k => some (raw (mc D A s' k)) | none => I (A k)) = _
    rw [mix_A hA hk]
  · show (match mix A out with | some k => some (raw (mc D A s' k)) | none => I out) = _
    rw [hout]
    exact h.2.2.2
end CO
theorem mRel_s0 : mRel mz s0 := ⟨rfl, ⟨Nat.zero_le _, fun i hi => absurd hi (Nat.not_lt_zero _)⟩, fun m _ => ⟨⟨rfl, fun i hi => absurd hi (Nat.not_lt_zero _)⟩, ⟨rfl, fun i hi => absurd hi (Nat.not_lt_zero _)⟩, rfl⟩, ⟨rfl, fun i hi => absurd hi (Nat.not_lt_zero _)⟩, rfl⟩
/-- a new object, a new model, a new array: side by side -/
theorem xCo_new {D : va_G} {X X1 X2 X3 : xH} {F V : Nat → Nat} {I : Nat → Option Imm} {A : Nat → Nat} {out : Nat} {v0 : va_E} (hK : xTK D X F V I s0) (hm : X (A 0) = none) (e1 : X1 = xup X (A 0) v0) (hf : xFr [A 0] X1 X2) (hA : mInj A) (hk : ∀ k ∈ mix0, X2 (A k) = some (mc D A mz k) ∧ (k = 0 ∨ X1 (A k) = none)) (ho : X2 out = none) (e3 : X3 = xup X2 out (oc D (fun _ => 0))) : ∃ I', xCo D X3 F V I' A mz out (fun _ => 0) s0 := by
  have f1 : xFr [] X X1 := by rw [e1]; exact xFr_new hm
  have f2 : xFr [] X X2 := f1.fr hf (fun q hq => Or.inr (by rw [List.mem_singleton.mp hq]; exact hm))
  have f3 : xFr [] X X3 := by rw [e3]; exact f2.fresh (f2.2 _ ho)
  have hfresh : ∀ k ∈ mix0, X (A k) = none := by
    intro k hk0
    rcases (hk k hk0).2 with e | e
    · rw [e]
      exact hm
    · exact f1.2 _ e
  have hI := hK.2.2.2.2.2.2.1
  have hI3 : xIm D X3 I := hI.keep f3 (fun a ha => by cases ha)
  have hK3 : xTK D X3 F V I s0 := hK.for (T := []) (fun q hq => by cases hq) f3 hI3 (fun _ _ => rfl)
  have hAo : ∀ k ∈ mix0, A k ≠ out := fun k hk0 => xne_none (hk k hk0).1 ho
  have hmo : mix A out = none := by
    cases e : mix A out with
    | none => rfl
    | some k =>
      obtain ⟨h1, h2⟩ := mix_q e
      exact absurd h2 (hAo k h1)
  have hmn : ∀ {q : Nat} {v : va_E}, X q = some v → mix A q = none ∧ q ≠ out := by
    intro q v hq
    refine ⟨?_, xne_none hq (f2.2 _ ho)⟩
    cases e : mix A q with
    | none => rfl
    | some k =>
      obtain ⟨h1, h2⟩ := mix_q e
      have := hfresh k h1
      rw [h2, hq] at this
      cases this
  obtain ⟨I', hI'⟩ : ∃ I' : Nat → Option Imm, I' = fun q => if q = out then some (raw (oc D (fun _ => 0))) else match mix A q with | some k => some (raw (mc D A mz k)) | none => I q := ⟨_, rfl⟩
  have g1 : I' out = some (raw (oc D (fun _ => 0))) := by rw [hI']; exact if_pos rfl
  have g2 : ∀ k ∈ mix0, I' (A k) = some (raw (mc D A mz k)) := by
    intro k hk0
    rw [hI']
    show (if A k = out then _ else match mix A (A k) with | some k => some (raw (mc D A mz k)) | none => I (A k)) = _
    rw [if_neg (hAo k hk0), mix_A hA hk0]
  have g3 : ∀ q, q ≠ out → mix A q = none → I' q = I q := by
    intro q h1 h2
    rw [hI']
    show (if q = out then _ else match mix A q with | some k => some (raw (mc D A mz k)) | none => I q) = _
    rw [if_neg h1, h2]
  clear hI'
  have x3o : X3 out = some (oc D (fun _ => 0)) := by rw [e3]; exact xup_self
  have x3a : ∀ k ∈ mix0, X3 (A k) = some (mc D A mz k) := fun k hk0 => by rw [e3]; exact (xup_ne (hAo k hk0)).trans (hk k hk0).1
  refine ⟨I', hK3.addI ?_ ?_ ?_ ?_, hA, fun k hk0 => ⟨g2 k hk0, hAo k hk0⟩, g1⟩
  · intro a v hv
    by_cases e : a = out
    · rw [e] at hv ⊢
      cases g1.symm.trans hv
      exact ⟨x3o, trivial⟩
    · cases em : mix A a with
      | none =>
        rw [g3 a e em] at hv
        exact hI3 a v hv
      | some k =>
        obtain ⟨h1, h2⟩ := mix_q em
        rw [← h2] at hv ⊢
        cases (g2 k h1).symm.trans hv
        exact ⟨x3a k h1, mc_for⟩
  · intro a v hv
    obtain ⟨c, hc⟩ := (hI a v hv).at
    obtain ⟨h1, h2⟩ := hmn hc
    rw [g3 a h2 h1]
    exact hv
  · obtain ⟨ft, ht, -⟩ := hK.2.1
    obtain ⟨h1, h2⟩ := hmn ht
    rw [g3 _ h2 h1]
    exact hK.2.2.1
  · obtain ⟨fr, hr⟩ := hK.2.2.2.2.1.arr
    obtain ⟨h1, h2⟩ := hmn hr
    rw [g3 _ h2 h1]
    exact hK.2.2.2.2.2.1
section CATCH
variable {E : xE} {y : MethodName} {cc : ByteArray} {nL : Nat} {ret : Option FieldType} {hs : List (Nat × Nat × Nat × Nat)} {d mc ms : Nat} {Post : xO → xH → Prop} {X : xH} {cells slots pc : Nat} {L : List (Option Value)} {st : List Value}
/-- caught by the row x of the table; the rows ahead of it don't take it -/
theorem xTh_catch (C : xCx E y cc nL ret hs d mc ms Post) {Cn name : String} {pre suf : List (Nat × Nat × Nat × Nat)} {x : Nat × Nat × Nat × Nat} (hsp : hs = pre ++ x :: suf) (hpass : ∀ z ∈ pre, z.2.2.2 ≠ 0 ∧ ∃ nm : String, Cond.classLink y.cls z.2.2.2 nm ∈ xT ∧ va_Nc Cn nm E.s) (hx : x.1 ≤ pc ∧ pc < x.2.1) (h0 : x.2.2.2 ≠ 0) (hl : Cond.classLink y.cls x.2.2.2 name ∈ xT) (hc : Cond.castable Cn name ∈ xT) (k : ∀ a : Nat, xG E X cells slots x.2.2.1 L [.ref a]) : xTh E X cells slots pc L Cn := by
  intro T locs ls rest a cell h1 h2 h3 c1 c2 c3 S
  have htab := C.tb
  rw [hsp] at htab
  obtain ⟨l1, l2, e0, e1, e2⟩ := List.map_eq_append_iff.mp htab
  obtain ⟨x', l3, rfl, e3, e4⟩ := List.map_eq_cons_iff.mp e2
  subst e1
  subst e3
  exact vx_catch C.ow l1 x' l3 e0 (fun z hz => by
    obtain ⟨g1, nm, g2, g3⟩ := hpass _ (List.mem_map.mpr ⟨z, hz, rfl⟩)
    exact Or.inr ⟨g1, nm, C.ts _ g2, g3⟩) (by unfold covers; simpa using hx) h0 (C.ts _ hl) (C.ts _ hc) c1 c2 c3 (k a T.heap locs ls h1 h2 h3) T rfl S
/-- the law's own script -/
theorem xr_sld (C : xCx E y cc nL ret hs d mc ms Post) {b N j : Nat} {f : Nat → Int32} {i : Int32} (hX : va_X b N f E.s E.s.heap) (hb : b < E.H0.size) (hd : decode cc pc = .ok (.iaload, 1)) (n : Nat) (hn : pc + 1 = n) (hi : i = nI j) (hj : j < N) (hN : N < 2 ^ 31) (kk : xG E X cells slots n L (.int (f j) :: st)) : xG E X cells slots pc L (.int i :: .ref b :: st) := by
  subst hn
  subst hi
  intro H locs ls h1 h2 h3
  have hclm : (nI j).toNatClampNeg = j := nI_clamp (by omega)
  refine va_sld C.1 C.2.1 hX (Nat.lt_of_lt_of_le hb C.h0) (Nat.not_le.mpr hb) h2 (vp_in_nI hj hN) hd ?_
  rw [hclm]
  exact kk H locs ls h1 h2 h3
theorem xr_slen (C : xCx E y cc nL ret hs d mc ms Post) {b N : Nat} {f : Nat → Int32} (hX : va_X b N f E.s E.s.heap) (hb : b < E.H0.size) (hd : decode cc pc = .ok (.arraylength, 1)) (n : Nat) (hn : pc + 1 = n) (kk : xG E X cells slots n L (.int (nI N) :: st)) : xG E X cells slots pc L (.ref b :: st) := by
  subst hn
  intro H locs ls h1 h2 h3
  exact va_slen C.1 C.2.1 hX (Nat.lt_of_lt_of_le hb C.h0) (Nat.not_le.mpr hb) h2 hd (kk H locs ls h1 h2 h3)
end CATCH
