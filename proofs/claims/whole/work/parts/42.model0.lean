/-! The model's heap. -/
abbrev MS := (Nat → Int32) × (Nat → Nat → Int32) × (Nat → Nat → Int64)
def mix0 : List Nat := [0, 1, 2, 3, 4, 5, 6, 7, 8, 9, 10, 11, 12, 13, 15, 17, 19, 22]
def mlen (k : Nat) : Nat := [0, 2, 32, 32, 32, 32, 32, 3328, 2, 256, 1024, 256, 3328, 2, 0, 300, 0, 4, 0, 140, 0, 0, 1800].getD k 0
def mfs (A : Nat → Nat) (s : MS) : List Value := [.int (s.1 0), .ref (A 1), .ref (A 2), .ref (A 3), .ref (A 4), .ref (A 5), .ref (A 6), .ref (A 7), .ref (A 8), .ref (A 9), .ref (A 10), .ref (A 11), .ref (A 12), .ref (A 13), .int (s.1 14), .ref (A 15), .int (s.1 16), .ref (A 17), .int (s.1 18), .ref (A 19), .int (s.1 20), .int (s.1 21), .ref (A 22)]
def mc (D : va_G) (A : Nat → Nat) (s : MS) (k : Nat) : va_E := if k = 0 then .inr (6, mfs A s) else if k = 10 ∨ k = 12 ∨ k = 17 ∨ k = 22 then .inl (D.1 102, mlen k, .inr (.inl (s.2.2 k))) else .inl (D.1 103, mlen k, .inl (s.2.1 k))
def mix (A : Nat → Nat) (q : Nat) : Option Nat := mix0.find? (fun k => A k == q)
/-- a heap with the model in it: its object at A 0, the array of field k at A k -/
def mX (D : va_G) (X0 : xH) (A : Nat → Nat) (s : MS) : xH := fun q => match mix A q with
  | some k => some (mc D A s k)
  | none => X0 q
def mInj (A : Nat → Nat) : Prop := ∀ i ∈ mix0, ∀ j ∈ mix0, A i = A j → i = j
theorem mix_A {A : Nat → Nat} (hA : mInj A) {k : Nat} (hk : k ∈ mix0) : mix A (A k) = some k := by
  unfold mix
  cases h : mix0.find? (fun j => A j == A k) with
  | none =>
    have := List.find?_eq_none.mp h k hk
    simp at this
  | some j =>
    have h1 := List.find?_some h
    have h2 := List.mem_of_find?_eq_some h
    rw [hA j h2 k hk (by simpa using h1)]
theorem mix_q {A : Nat → Nat} {q k : Nat} (h : mix A q = some k) : k ∈ mix0 ∧ A k = q := ⟨List.mem_of_find?_eq_some h, by simpa using List.find?_some h⟩
theorem mX_at {D : va_G} {X0 : xH} {A : Nat → Nat} {s : MS} (hA : mInj A) {k : Nat} (hk : k ∈ mix0) : mX D X0 A s (A k) = some (mc D A s k) := by
  unfold mX
  rw [mix_A hA hk]
theorem mX_up {D : va_G} {X0 : xH} {A : Nat → Nat} {s s' : MS} (hA : mInj A) {k : Nat} (hk : k ∈ mix0) (h : ∀ j, j ≠ k → mc D A s' j = mc D A s j) : xup (mX D X0 A s) (A k) (mc D A s' k) = mX D X0 A s' := by
  funext q
  by_cases e : q = A k
  · rw [e, xup_self, mX_at hA hk]
  · rw [xup_ne e]
    unfold mX
    cases hm : mix A q with
    | none => rfl
    | some j =>
      have hj := mix_q hm
      show some (mc D A s j) = some (mc D A s' j)
      rw [h j (fun ej => e (by rw [← hj.2, ej]))]
def setI (s : MS) (k j : Nat) (v : Int32) : MS := (s.1, fun a => if a = k then upd (s.2.1 k) j v else s.2.1 a, s.2.2)
def setL (s : MS) (k j : Nat) (v : Int64) : MS := (s.1, s.2.1, fun a => if a = k then vp_updL (s.2.2 k) j v else s.2.2 a)
def setS (s : MS) (k : Nat) (v : Int32) : MS := (fun a => if a = k then v else s.1 a, s.2)
theorem setI_I {s : MS} {k j a i : Nat} {v : Int32} : (setI s k j v).2.1 a i = if a = k ∧ i = j then v else s.2.1 a i := by
  show (if a = k then upd (s.2.1 k) j v else s.2.1 a) i = _
  by_cases h : a = k
  · subst h
    rw [if_pos rfl]
    by_cases h2 : i = j
    · subst h2
      rw [pk_us, if_pos ⟨rfl, rfl⟩]
    · rw [pk_un h2, if_neg (fun q => h2 q.2)]
  · rw [if_neg h, if_neg (fun q => h q.1)]
theorem setL_L {s : MS} {k j a i : Nat} {v : Int64} : (setL s k j v).2.2 a i = if a = k ∧ i = j then v else s.2.2 a i := by
  show (if a = k then vp_updL (s.2.2 k) j v else s.2.2 a) i = _
  by_cases h : a = k
  · subst h
    rw [if_pos rfl]
    by_cases h2 : i = j
    · subst h2
      rw [pk_uLs, if_pos ⟨rfl, rfl⟩]
    · rw [pk_uLn h2, if_neg (fun q => h2 q.2)]
  · rw [if_neg h, if_neg (fun q => h q.1)]
theorem setS_S {s : MS} {k a : Nat} {v : Int32} : (setS s k v).1 a = if a = k then v else s.1 a := rfl
/-- all fields but those of a are as they were -/
def mFr (a : List Nat) (s s' : MS) : Prop := ∀ k, k ∉ a → s'.1 k = s.1 k ∧ s'.2.1 k = s.2.1 k ∧ s'.2.2 k = s.2.2 k
theorem mFr.rf {a : List Nat} {s : MS} : mFr a s s := fun _ _ => ⟨rfl, rfl, rfl⟩
theorem mFr.trans {a : List Nat} {s s' s'' : MS} (h1 : mFr a s s') (h2 : mFr a s' s'') : mFr a s s'' := fun k hk => ⟨(h2 k hk).1.trans (h1 k hk).1, (h2 k hk).2.1.trans (h1 k hk).2.1, (h2 k hk).2.2.trans (h1 k hk).2.2⟩
theorem mFr.mono {a b : List Nat} {s s' : MS} (h : mFr a s s') (hs : ∀ k ∈ a, k ∈ b) : mFr b s s' := fun k hk => h k (fun h1 => hk (hs k h1))
theorem mFr_I {a : List Nat} {s : MS} {k j : Nat} {v : Int32} (hk : k ∈ a) : mFr a s (setI s k j v) := fun q hq => ⟨rfl, if_neg (fun e : q = k => hq (e ▸ hk)), rfl⟩
theorem mFr_L {a : List Nat} {s : MS} {k j : Nat} {v : Int64} (hk : k ∈ a) : mFr a s (setL s k j v) := fun q hq => ⟨rfl, rfl, if_neg (fun e : q = k => hq (e ▸ hk))⟩
theorem mFr_S {a : List Nat} {s : MS} {k : Nat} {v : Int32} (hk : k ∈ a) : mFr a s (setS s k v) := fun q hq => ⟨if_neg (fun e : q = k => hq (e ▸ hk)), rfl, rfl⟩
section MX
variable {D : va_G} {X0 : xH} {A : Nat → Nat} {s : MS}
theorem mX_o (hA : mInj A) : mX D X0 A s (A 0) = some (.inr (6, mfs A s)) := mX_at hA (by decide)
theorem mX_setI {j : Nat} {v : Int32} (hA : mInj A) {k : Nat} (hk : k ∈ mix0) (h0 : ¬ k = 0) (hl : ¬ (k = 10 ∨ k = 12 ∨ k = 17 ∨ k = 22)) : xup (mX D X0 A s) (A k) (.inl (D.1 103, mlen k, .inl (upd (s.2.1 k) j v))) = mX D X0 A (setI s k j v) := by
  have h := mX_up (D := D) (X0 := X0) (s := s) (s' := setI s k j v) hA hk (fun q hq => by
    unfold mc
    by_cases q0 : q = 0
    · rw [if_pos q0, if_pos q0]
      rfl
    · rw [if_neg q0, if_neg q0]
      by_cases ql : q = 10 ∨ q = 12 ∨ q = 17 ∨ q = 22
      · rw [if_pos ql, if_pos ql]
        rfl
      · rw [if_neg ql, if_neg ql]
        rw [show (setI s k j v).2.1 q = s.2.1 q from if_neg hq])
  rw [← h]
  unfold mc
  rw [if_neg h0, if_neg hl, show (setI s k j v).2.1 k = upd (s.2.1 k) j v from if_pos rfl]
theorem mX_setL {j : Nat} {v : Int64} (hA : mInj A) {k : Nat} (hk : k ∈ mix0) (h0 : ¬ k = 0) (hl : k = 10 ∨ k = 12 ∨ k = 17 ∨ k = 22) : xup (mX D X0 A s) (A k) (.inl (D.1 102, mlen k, .inr (.inl (vp_updL (s.2.2 k) j v)))) = mX D X0 A (setL s k j v) := by
  have h := mX_up (D := D) (X0 := X0) (s := s) (s' := setL s k j v) hA hk (fun q hq => by
    unfold mc
    by_cases q0 : q = 0
    · rw [if_pos q0, if_pos q0]
      rfl
    · rw [if_neg q0, if_neg q0]
      by_cases ql : q = 10 ∨ q = 12 ∨ q = 17 ∨ q = 22
      · rw [if_pos ql, if_pos ql]
        rw [show (setL s k j v).2.2 q = s.2.2 q from if_neg hq]
      · rw [if_neg ql, if_neg ql]
        rfl)
  rw [← h]
  unfold mc
  rw [if_neg h0, if_pos hl, show (setL s k j v).2.2 k = vp_updL (s.2.2 k) j v from if_pos rfl]
theorem mX_1 (hA : mInj A) : mX D X0 A s (A 1) = some (.inl (D.1 103, 2, .inl (s.2.1 1))) := mX_at hA (by decide)
theorem mX_s1 {j : Nat} {v : Int32} (hA : mInj A) : xup (mX D X0 A s) (A 1) (.inl (D.1 103, 2, .inl (upd (s.2.1 1) j v))) = mX D X0 A (setI s 1 j v) := mX_setI hA (by decide) (by decide) (by decide)
theorem mX_2 (hA : mInj A) : mX D X0 A s (A 2) = some (.inl (D.1 103, 32, .inl (s.2.1 2))) := mX_at hA (by decide)
theorem mX_s2 {j : Nat} {v : Int32} (hA : mInj A) : xup (mX D X0 A s) (A 2) (.inl (D.1 103, 32, .inl (upd (s.2.1 2) j v))) = mX D X0 A (setI s 2 j v) := mX_setI hA (by decide) (by decide) (by decide)
theorem mX_3 (hA : mInj A) : mX D X0 A s (A 3) = some (.inl (D.1 103, 32, .inl (s.2.1 3))) := mX_at hA (by decide)
theorem mX_s3 {j : Nat} {v : Int32} (hA : mInj A) : xup (mX D X0 A s) (A 3) (.inl (D.1 103, 32, .inl (upd (s.2.1 3) j v))) = mX D X0 A (setI s 3 j v) := mX_setI hA (by decide) (by decide) (by decide)
theorem mX_4 (hA : mInj A) : mX D X0 A s (A 4) = some (.inl (D.1 103, 32, .inl (s.2.1 4))) := mX_at hA (by decide)
theorem mX_s4 {j : Nat} {v : Int32} (hA : mInj A) : xup (mX D X0 A s) (A 4) (.inl (D.1 103, 32, .inl (upd (s.2.1 4) j v))) = mX D X0 A (setI s 4 j v) := mX_setI hA (by decide) (by decide) (by decide)
theorem mX_5 (hA : mInj A) : mX D X0 A s (A 5) = some (.inl (D.1 103, 32, .inl (s.2.1 5))) := mX_at hA (by decide)
theorem mX_s5 {j : Nat} {v : Int32} (hA : mInj A) : xup (mX D X0 A s) (A 5) (.inl (D.1 103, 32, .inl (upd (s.2.1 5) j v))) = mX D X0 A (setI s 5 j v) := mX_setI hA (by decide) (by decide) (by decide)
theorem mX_6 (hA : mInj A) : mX D X0 A s (A 6) = some (.inl (D.1 103, 32, .inl (s.2.1 6))) := mX_at hA (by decide)
theorem mX_s6 {j : Nat} {v : Int32} (hA : mInj A) : xup (mX D X0 A s) (A 6) (.inl (D.1 103, 32, .inl (upd (s.2.1 6) j v))) = mX D X0 A (setI s 6 j v) := mX_setI hA (by decide) (by decide) (by decide)
theorem mX_7 (hA : mInj A) : mX D X0 A s (A 7) = some (.inl (D.1 103, 3328, .inl (s.2.1 7))) := mX_at hA (by decide)
theorem mX_s7 {j : Nat} {v : Int32} (hA : mInj A) : xup (mX D X0 A s) (A 7) (.inl (D.1 103, 3328, .inl (upd (s.2.1 7) j v))) = mX D X0 A (setI s 7 j v) := mX_setI hA (by decide) (by decide) (by decide)
theorem mX_8 (hA : mInj A) : mX D X0 A s (A 8) = some (.inl (D.1 103, 2, .inl (s.2.1 8))) := mX_at hA (by decide)
theorem mX_s8 {j : Nat} {v : Int32} (hA : mInj A) : xup (mX D X0 A s) (A 8) (.inl (D.1 103, 2, .inl (upd (s.2.1 8) j v))) = mX D X0 A (setI s 8 j v) := mX_setI hA (by decide) (by decide) (by decide)
theorem mX_9 (hA : mInj A) : mX D X0 A s (A 9) = some (.inl (D.1 103, 256, .inl (s.2.1 9))) := mX_at hA (by decide)
theorem mX_s9 {j : Nat} {v : Int32} (hA : mInj A) : xup (mX D X0 A s) (A 9) (.inl (D.1 103, 256, .inl (upd (s.2.1 9) j v))) = mX D X0 A (setI s 9 j v) := mX_setI hA (by decide) (by decide) (by decide)
theorem mX_10 (hA : mInj A) : mX D X0 A s (A 10) = some (.inl (D.1 102, 1024, .inr (.inl (s.2.2 10)))) := mX_at hA (by decide)
theorem mX_s10 {j : Nat} {v : Int64} (hA : mInj A) : xup (mX D X0 A s) (A 10) (.inl (D.1 102, 1024, .inr (.inl (vp_updL (s.2.2 10) j v)))) = mX D X0 A (setL s 10 j v) := mX_setL hA (by decide) (by decide) (by decide)
theorem mX_11 (hA : mInj A) : mX D X0 A s (A 11) = some (.inl (D.1 103, 256, .inl (s.2.1 11))) := mX_at hA (by decide)
theorem mX_s11 {j : Nat} {v : Int32} (hA : mInj A) : xup (mX D X0 A s) (A 11) (.inl (D.1 103, 256, .inl (upd (s.2.1 11) j v))) = mX D X0 A (setI s 11 j v) := mX_setI hA (by decide) (by decide) (by decide)
theorem mX_12 (hA : mInj A) : mX D X0 A s (A 12) = some (.inl (D.1 102, 3328, .inr (.inl (s.2.2 12)))) := mX_at hA (by decide)
theorem mX_s12 {j : Nat} {v : Int64} (hA : mInj A) : xup (mX D X0 A s) (A 12) (.inl (D.1 102, 3328, .inr (.inl (vp_updL (s.2.2 12) j v)))) = mX D X0 A (setL s 12 j v) := mX_setL hA (by decide) (by decide) (by decide)
theorem mX_13 (hA : mInj A) : mX D X0 A s (A 13) = some (.inl (D.1 103, 2, .inl (s.2.1 13))) := mX_at hA (by decide)
theorem mX_s13 {j : Nat} {v : Int32} (hA : mInj A) : xup (mX D X0 A s) (A 13) (.inl (D.1 103, 2, .inl (upd (s.2.1 13) j v))) = mX D X0 A (setI s 13 j v) := mX_setI hA (by decide) (by decide) (by decide)
theorem mX_15 (hA : mInj A) : mX D X0 A s (A 15) = some (.inl (D.1 103, 300, .inl (s.2.1 15))) := mX_at hA (by decide)
theorem mX_s15 {j : Nat} {v : Int32} (hA : mInj A) : xup (mX D X0 A s) (A 15) (.inl (D.1 103, 300, .inl (upd (s.2.1 15) j v))) = mX D X0 A (setI s 15 j v) := mX_setI hA (by decide) (by decide) (by decide)
theorem mX_17 (hA : mInj A) : mX D X0 A s (A 17) = some (.inl (D.1 102, 4, .inr (.inl (s.2.2 17)))) := mX_at hA (by decide)
theorem mX_s17 {j : Nat} {v : Int64} (hA : mInj A) : xup (mX D X0 A s) (A 17) (.inl (D.1 102, 4, .inr (.inl (vp_updL (s.2.2 17) j v)))) = mX D X0 A (setL s 17 j v) := mX_setL hA (by decide) (by decide) (by decide)
theorem mX_19 (hA : mInj A) : mX D X0 A s (A 19) = some (.inl (D.1 103, 140, .inl (s.2.1 19))) := mX_at hA (by decide)
theorem mX_s19 {j : Nat} {v : Int32} (hA : mInj A) : xup (mX D X0 A s) (A 19) (.inl (D.1 103, 140, .inl (upd (s.2.1 19) j v))) = mX D X0 A (setI s 19 j v) := mX_setI hA (by decide) (by decide) (by decide)
theorem mX_22 (hA : mInj A) : mX D X0 A s (A 22) = some (.inl (D.1 102, 1800, .inr (.inl (s.2.2 22)))) := mX_at hA (by decide)
theorem mX_s22 {j : Nat} {v : Int64} (hA : mInj A) : xup (mX D X0 A s) (A 22) (.inl (D.1 102, 1800, .inr (.inl (vp_updL (s.2.2 22) j v)))) = mX D X0 A (setL s 22 j v) := mX_setL hA (by decide) (by decide) (by decide)
theorem mX_setS {v : Int32} (hA : mInj A) {k : Nat} (hm : (mfs A s).set k (.int v) = mfs A (setS s k v)) : xup (mX D X0 A s) (A 0) (.inr (6, (mfs A s).set k (.int v))) = mX D X0 A (setS s k v) := by
  have h := mX_up (D := D) (X0 := X0) (s := s) (s' := setS s k v) hA (show 0 ∈ mix0 by decide) (fun q hq => by
    unfold mc
    rw [if_neg hq, if_neg hq]
    rfl)
  rw [← h, hm]
  rfl
theorem mX_f0 {v : Int32} (hA : mInj A) : xup (mX D X0 A s) (A 0) (.inr (6, (mfs A s).set 0 (.int v))) = mX D X0 A (setS s 0 v) := mX_setS hA rfl
theorem mX_f14 {v : Int32} (hA : mInj A) : xup (mX D X0 A s) (A 0) (.inr (6, (mfs A s).set 14 (.int v))) = mX D X0 A (setS s 14 v) := mX_setS hA rfl
theorem mX_f16 {v : Int32} (hA : mInj A) : xup (mX D X0 A s) (A 0) (.inr (6, (mfs A s).set 16 (.int v))) = mX D X0 A (setS s 16 v) := mX_setS hA rfl
theorem mX_f18 {v : Int32} (hA : mInj A) : xup (mX D X0 A s) (A 0) (.inr (6, (mfs A s).set 18 (.int v))) = mX D X0 A (setS s 18 v) := mX_setS hA rfl
theorem mX_f20 {v : Int32} (hA : mInj A) : xup (mX D X0 A s) (A 0) (.inr (6, (mfs A s).set 20 (.int v))) = mX D X0 A (setS s 20 v) := mX_setS hA rfl
theorem mX_f21 {v : Int32} (hA : mInj A) : xup (mX D X0 A s) (A 0) (.inr (6, (mfs A s).set 21 (.int v))) = mX D X0 A (setS s 21 v) := mX_setS hA rfl
end MX
