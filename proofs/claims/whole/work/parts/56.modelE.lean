/-! A new model. -/
def mz : MS := (fun _ => 0, fun _ _ => 0, fun _ _ => 0)
def setA (A : Nat → Nat) (k q : Nat) : Nat → Nat := fun j => if j = k then q else A j
theorem setA_ne {A : Nat → Nat} {k q j : Nat} (h : j ≠ k) : setA A k q j = A j := if_neg h
theorem setA_eq {A : Nat → Nat} {k q : Nat} : setA A k q k = q := if_pos rfl
/-- the arrays of the fields l are there, apart from each other and from the object -/
def mP (D : va_G) (X : xH) (A : Nat → Nat) (l : List Nat) (Z : xH) : Prop := (∀ k ∈ l, Z (A k) = some (mc D A mz k) ∧ k ≠ 0 ∧ A k ≠ A 0 ∧ X (A k) = none) ∧ l.Pairwise (fun i j => A i ≠ A j)
theorem mc_A {D : va_G} {A A' : Nat → Nat} {s : MS} {k : Nat} (h : k ≠ 0) : mc D A s k = mc D A' s k := by
  unfold mc
  rw [if_neg h, if_neg h]
theorem mP.step {D : va_G} {X : xH} {A : Nat → Nat} {l : List Nat} {Z : xH} {k q : Nat} {w0 w : va_E} (h : mP D X A l Z) (hq : Z q = none) (hqX : X q = none) (h0 : Z (A 0) = some w0) (hk : k ∉ l) (hk0 : k ≠ 0) : mP D X (setA A k q) (k :: l) (xup (xup Z q (mc D A mz k)) (A 0) w) := by
  have q0 : q ≠ A 0 := (xne_none h0 hq).symm
  have a0 : setA A k q 0 = A 0 := setA_ne (Ne.symm hk0)
  have ho : ∀ j ∈ l, setA A k q j = A j := fun j hj => setA_ne (fun e => hk (e ▸ hj))
  have hne : ∀ j ∈ l, A j ≠ q := fun j hj => xne_none (h.1 j hj).1 hq
  refine ⟨fun j hj => ?_, List.pairwise_cons.mpr ⟨fun j hj => ?_, ?_⟩⟩
  · rcases List.mem_cons.mp hj with e | hj
    · subst e
      rw [setA_eq, a0]
      refine ⟨?_, hk0, q0, hqX⟩
      rw [xup_ne q0, xup_self]
      exact congrArg some (mc_A hk0)
    · obtain ⟨h1, h2, h3, h4⟩ := h.1 j hj
      rw [ho j hj, a0]
      refine ⟨?_, h2, h3, h4⟩
      rw [xup_ne h3, xup_ne (hne j hj), h1]
      exact congrArg some (mc_A h2)
  · rw [setA_eq, ho j hj]
    exact (hne j hj).symm
  · refine List.Pairwise.imp_of_mem (fun {a b} ha hb hab => ?_) h.2
    rw [ho a ha, ho b hb]
    exact hab
theorem pw_inj {A : Nat → Nat} : ∀ {l : List Nat}, l.Pairwise (fun i j => A i ≠ A j) → ∀ i ∈ l, ∀ j ∈ l, A i = A j → i = j
  | [], _, i, hi, _, _, _ => by cases hi
  | a :: l, h, i, hi, j, hj, e => by
    obtain ⟨h1, h2⟩ := List.pairwise_cons.mp h
    rcases List.mem_cons.mp hi with ei | hi
    · rcases List.mem_cons.mp hj with ej | hj
      · rw [ei, ej]
      · rw [ei] at e
        exact absurd e (h1 j hj)
    · rcases List.mem_cons.mp hj with ej | hj
      · rw [ej] at e
        exact absurd e.symm (h1 i hi)
      · exact pw_inj h2 i hi j hj e
theorem mX_of {D : va_G} {X : xH} {A : Nat → Nat} {s : MS} (h : ∀ k ∈ mix0, X (A k) = some (mc D A s k)) : mX D X A s = X := by
  funext q
  unfold mX
  cases e : mix A q with
  | none => rfl
  | some k =>
    obtain ⟨h1, h2⟩ := mix_q e
    rw [← h2, h k h1]
def mfresh : List Value := [.int 0, .null, .null, .null, .null, .null, .null, .null, .null, .null, .null, .null, .null, .null, .int 0, .null, .int 0, .null, .int 0, .null, .int 0, .int 0, .null]
set_option maxRecDepth 100000 in
set_option maxHeartbeats 4000000 in
theorem c_Mo_init {l : Launch} {D : va_G} {H0 : Heap} {X : xH} {ob : Nat} (ho : X ob = some (.inr (6, mfresh))) : xMet l D H0 y_Mo_init b_Mo_init 1 none [] 1 17 10602 [.ref ob] X (fun o X' => o = .inl none ∧ xFr [ob] X X' ∧ ∃ A : Nat → Nat, A 0 = ob ∧ mInj A ∧ ∀ k ∈ mix0, X' (A k) = some (mc D A mz k) ∧ (k = 0 ∨ X (A k) = none)) := by
  refine ⟨[some (.ref ob)], rfl, Nat.le_of_ble_eq_true rfl, fun E hD hH hl _ C => ?_⟩
  subst hD
  subst hH
  subst hl
  refine xr_aload_n C d_Mo_init_0 1 rfl rfl ?_
  refine xr_objInit C d_Mo_init_1 4 rfl q_939 w_oi w_oc (Nat.le_of_ble_eq_true rfl) ?_
  obtain ⟨Z0, hZ0⟩ : ∃ z, z = X := ⟨_, rfl⟩
  refine xG.eqX (show _ = Z0 from hZ0.symm) ?_
  have ob0 : Z0 ob = some (.inr (6, mfresh)) := by rw [hZ0]; exact ho
  have f0 : xFr [ob] X Z0 := by rw [hZ0]; exact xFr.rf
  obtain ⟨A0, hA0⟩ : ∃ A : Nat → Nat, A = fun _ => ob := ⟨_, rfl⟩
  have a0 : A0 0 = ob := by rw [hA0]
  have p0 : mP E.D X A0 [] Z0 := ⟨fun k hk => (by cases hk), List.Pairwise.nil⟩
  refine xr_aload_n C d_Mo_init_4 5 rfl rfl ?_
  refine xr_iconst (v := 2) C d_Mo_init_5 6 rfl (by decide) ?_
  refine xr_newi (N := 2) C d_Mo_init_6 8 rfl q_1010 rfl (by omega) (by omega) (by omega) (fun q1 e1 => ?_)
  refine xr_putF C K_Mo 1 d_Mo_init_8 11 rfl q_941 (Or.inl rfl) rfl rfl rfl rfl rfl rfl ((xup_ne (xne_none ob0 e1)).trans ob0) rfl rfl ?_
  obtain ⟨Z1, hZ1⟩ : ∃ z, z = xup (xup Z0 q1 (.inl (E.D.1 103, 2, .inl (fun _ => 0)))) ob (.inr (6, [.int 0, .ref q1, .null, .null, .null, .null, .null, .null, .null, .null, .null, .null, .null, .null, .int 0, .null, .int 0, .null, .int 0, .null, .int 0, .int 0, .null])) := ⟨_, rfl⟩
  refine xG.eqX (show _ = Z1 from hZ1.symm) ?_
  have ob1 : Z1 ob = some (.inr (6, [.int 0, .ref q1, .null, .null, .null, .null, .null, .null, .null, .null, .null, .null, .null, .null, .int 0, .null, .int 0, .null, .int 0, .null, .int 0, .int 0, .null])) := by rw [hZ1]; exact xup_self
  have f1 : xFr [ob] X Z1 := by
    rw [hZ1]
    exact f0.fr (((xFr_new e1) : xFr [ob] Z0 _).trans (xFr_up ((xup_ne (xne_none ob0 e1)).trans ob0) (fun z => z) (by simp))) (fun z hz => Or.inl hz)
  obtain ⟨A1, hA1⟩ : ∃ A, A = setA A0 1 q1 := ⟨_, rfl⟩
  have a1 : A1 0 = ob := by rw [hA1, setA_ne (by decide)]; exact a0
  have p1 : mP E.D X A1 [1] Z1 := by
    have h := p0.step (k := 1) (w := (.inr (6, [.int 0, .ref q1, .null, .null, .null, .null, .null, .null, .null, .null, .null, .null, .null, .null, .int 0, .null, .int 0, .null, .int 0, .null, .int 0, .int 0, .null]) : va_E)) e1 (f0.2 _ e1) (by rw [a0]; exact ob0) (by decide) (by decide)
    rw [hA1, hZ1]
    rw [a0] at h
    exact h
  clear hZ1
  refine xr_aload_n C d_Mo_init_11 12 rfl rfl ?_
  refine xr_bipush (v := 32) C d_Mo_init_12 14 rfl (by decide) ?_
  refine xr_newi (N := 32) C d_Mo_init_14 16 rfl q_1010 rfl (by omega) (by omega) (by omega) (fun q2 e2 => ?_)
  refine xr_putF C K_Mo 2 d_Mo_init_16 19 rfl q_942 (Or.inl rfl) rfl rfl rfl rfl rfl rfl ((xup_ne (xne_none ob1 e2)).trans ob1) rfl rfl ?_
  obtain ⟨Z2, hZ2⟩ : ∃ z, z = xup (xup Z1 q2 (.inl (E.D.1 103, 32, .inl (fun _ => 0)))) ob (.inr (6, [.int 0, .ref q1, .ref q2, .null, .null, .null, .null, .null, .null, .null, .null, .null, .null, .null, .int 0, .null, .int 0, .null, .int 0, .null, .int 0, .int 0, .null])) := ⟨_, rfl⟩
  refine xG.eqX (show _ = Z2 from hZ2.symm) ?_
  have ob2 : Z2 ob = some (.inr (6, [.int 0, .ref q1, .ref q2, .null, .null, .null, .null, .null, .null, .null, .null, .null, .null, .null, .int 0, .null, .int 0, .null, .int 0, .null, .int 0, .int 0, .null])) := by rw [hZ2]; exact xup_self
  have f2 : xFr [ob] X Z2 := by
    rw [hZ2]
    exact f1.fr (((xFr_new e2) : xFr [ob] Z1 _).trans (xFr_up ((xup_ne (xne_none ob1 e2)).trans ob1) (fun z => z) (by simp))) (fun z hz => Or.inl hz)
  obtain ⟨A2, hA2⟩ : ∃ A, A = setA A1 2 q2 := ⟨_, rfl⟩
  have a2 : A2 0 = ob := by rw [hA2, setA_ne (by decide)]; exact a1
  have p2 : mP E.D X A2 [2, 1] Z2 := by
    have h := p1.step (k := 2) (w := (.inr (6, [.int 0, .ref q1, .ref q2, .null, .null, .null, .null, .null, .null, .null, .null, .null, .null, .null, .int 0, .null, .int 0, .null, .int 0, .null, .int 0, .int 0, .null]) : va_E)) e2 (f1.2 _ e2) (by rw [a1]; exact ob1) (by decide) (by decide)
    rw [hA2, hZ2]
    rw [a1] at h
    exact h
  clear hZ2
  refine xr_aload_n C d_Mo_init_19 20 rfl rfl ?_
  refine xr_bipush (v := 32) C d_Mo_init_20 22 rfl (by decide) ?_
  refine xr_newi (N := 32) C d_Mo_init_22 24 rfl q_1010 rfl (by omega) (by omega) (by omega) (fun q3 e3 => ?_)
  refine xr_putF C K_Mo 3 d_Mo_init_24 27 rfl q_943 (Or.inl rfl) rfl rfl rfl rfl rfl rfl ((xup_ne (xne_none ob2 e3)).trans ob2) rfl rfl ?_
  obtain ⟨Z3, hZ3⟩ : ∃ z, z = xup (xup Z2 q3 (.inl (E.D.1 103, 32, .inl (fun _ => 0)))) ob (.inr (6, [.int 0, .ref q1, .ref q2, .ref q3, .null, .null, .null, .null, .null, .null, .null, .null, .null, .null, .int 0, .null, .int 0, .null, .int 0, .null, .int 0, .int 0, .null])) := ⟨_, rfl⟩
  refine xG.eqX (show _ = Z3 from hZ3.symm) ?_
  have ob3 : Z3 ob = some (.inr (6, [.int 0, .ref q1, .ref q2, .ref q3, .null, .null, .null, .null, .null, .null, .null, .null, .null, .null, .int 0, .null, .int 0, .null, .int 0, .null, .int 0, .int 0, .null])) := by rw [hZ3]; exact xup_self
  have f3 : xFr [ob] X Z3 := by
    rw [hZ3]
    exact f2.fr (((xFr_new e3) : xFr [ob] Z2 _).trans (xFr_up ((xup_ne (xne_none ob2 e3)).trans ob2) (fun z => z) (by simp))) (fun z hz => Or.inl hz)
  obtain ⟨A3, hA3⟩ : ∃ A, A = setA A2 3 q3 := ⟨_, rfl⟩
  have a3 : A3 0 = ob := by rw [hA3, setA_ne (by decide)]; exact a2
  have p3 : mP E.D X A3 [3, 2, 1] Z3 := by
    have h := p2.step (k := 3) (w := (.inr (6, [.int 0, .ref q1, .ref q2, .ref q3, .null, .null, .null, .null, .null, .null, .null, .null, .null, .null, .int 0, .null, .int 0, .null, .int 0, .null, .int 0, .int 0, .null]) : va_E)) e3 (f2.2 _ e3) (by rw [a2]; exact ob2) (by decide) (by decide)
    rw [hA3, hZ3]
    rw [a2] at h
    exact h
  clear hZ3
  refine xr_aload_n C d_Mo_init_27 28 rfl rfl ?_
  refine xr_bipush (v := 32) C d_Mo_init_28 30 rfl (by decide) ?_
  refine xr_newi (N := 32) C d_Mo_init_30 32 rfl q_1010 rfl (by omega) (by omega) (by omega) (fun q4 e4 => ?_)
  refine xr_putF C K_Mo 4 d_Mo_init_32 35 rfl q_944 (Or.inl rfl) rfl rfl rfl rfl rfl rfl ((xup_ne (xne_none ob3 e4)).trans ob3) rfl rfl ?_
  obtain ⟨Z4, hZ4⟩ : ∃ z, z = xup (xup Z3 q4 (.inl (E.D.1 103, 32, .inl (fun _ => 0)))) ob (.inr (6, [.int 0, .ref q1, .ref q2, .ref q3, .ref q4, .null, .null, .null, .null, .null, .null, .null, .null, .null, .int 0, .null, .int 0, .null, .int 0, .null, .int 0, .int 0, .null])) := ⟨_, rfl⟩
  refine xG.eqX (show _ = Z4 from hZ4.symm) ?_
  have ob4 : Z4 ob = some (.inr (6, [.int 0, .ref q1, .ref q2, .ref q3, .ref q4, .null, .null, .null, .null, .null, .null, .null, .null, .null, .int 0, .null, .int 0, .null, .int 0, .null, .int 0, .int 0, .null])) := by rw [hZ4]; exact xup_self
  have f4 : xFr [ob] X Z4 := by
    rw [hZ4]
    exact f3.fr (((xFr_new e4) : xFr [ob] Z3 _).trans (xFr_up ((xup_ne (xne_none ob3 e4)).trans ob3) (fun z => z) (by simp))) (fun z hz => Or.inl hz)
  obtain ⟨A4, hA4⟩ : ∃ A, A = setA A3 4 q4 := ⟨_, rfl⟩
  have a4 : A4 0 = ob := by rw [hA4, setA_ne (by decide)]; exact a3
  have p4 : mP E.D X A4 [4, 3, 2, 1] Z4 := by
    have h := p3.step (k := 4) (w := (.inr (6, [.int 0, .ref q1, .ref q2, .ref q3, .ref q4, .null, .null, .null, .null, .null, .null, .null, .null, .null, .int 0, .null, .int 0, .null, .int 0, .null, .int 0, .int 0, .null]) : va_E)) e4 (f3.2 _ e4) (by rw [a3]; exact ob3) (by decide) (by decide)
    rw [hA4, hZ4]
    rw [a3] at h
    exact h
  clear hZ4
  refine xr_aload_n C d_Mo_init_35 36 rfl rfl ?_
  refine xr_bipush (v := 32) C d_Mo_init_36 38 rfl (by decide) ?_
  refine xr_newi (N := 32) C d_Mo_init_38 40 rfl q_1010 rfl (by omega) (by omega) (by omega) (fun q5 e5 => ?_)
  refine xr_putF C K_Mo 5 d_Mo_init_40 43 rfl q_945 (Or.inl rfl) rfl rfl rfl rfl rfl rfl ((xup_ne (xne_none ob4 e5)).trans ob4) rfl rfl ?_
  obtain ⟨Z5, hZ5⟩ : ∃ z, z = xup (xup Z4 q5 (.inl (E.D.1 103, 32, .inl (fun _ => 0)))) ob (.inr (6, [.int 0, .ref q1, .ref q2, .ref q3, .ref q4, .ref q5, .null, .null, .null, .null, .null, .null, .null, .null, .int 0, .null, .int 0, .null, .int 0, .null, .int 0, .int 0, .null])) := ⟨_, rfl⟩
  refine xG.eqX (show _ = Z5 from hZ5.symm) ?_
  have ob5 : Z5 ob = some (.inr (6, [.int 0, .ref q1, .ref q2, .ref q3, .ref q4, .ref q5, .null, .null, .null, .null, .null, .null, .null, .null, .int 0, .null, .int 0, .null, .int 0, .null, .int 0, .int 0, .null])) := by rw [hZ5]; exact xup_self
  have f5 : xFr [ob] X Z5 := by
    rw [hZ5]
    exact f4.fr (((xFr_new e5) : xFr [ob] Z4 _).trans (xFr_up ((xup_ne (xne_none ob4 e5)).trans ob4) (fun z => z) (by simp))) (fun z hz => Or.inl hz)
  obtain ⟨A5, hA5⟩ : ∃ A, A = setA A4 5 q5 := ⟨_, rfl⟩
  have a5 : A5 0 = ob := by rw [hA5, setA_ne (by decide)]; exact a4
  have p5 : mP E.D X A5 [5, 4, 3, 2, 1] Z5 := by
    have h := p4.step (k := 5) (w := (.inr (6, [.int 0, .ref q1, .ref q2, .ref q3, .ref q4, .ref q5, .null, .null, .null, .null, .null, .null, .null, .null, .int 0, .null, .int 0, .null, .int 0, .null, .int 0, .int 0, .null]) : va_E)) e5 (f4.2 _ e5) (by rw [a4]; exact ob4) (by decide) (by decide)
    rw [hA5, hZ5]
    rw [a4] at h
    exact h
  clear hZ5
  refine xr_aload_n C d_Mo_init_43 44 rfl rfl ?_
  refine xr_bipush (v := 32) C d_Mo_init_44 46 rfl (by decide) ?_
  refine xr_newi (N := 32) C d_Mo_init_46 48 rfl q_1010 rfl (by omega) (by omega) (by omega) (fun q6 e6 => ?_)
  refine xr_putF C K_Mo 6 d_Mo_init_48 51 rfl q_946 (Or.inl rfl) rfl rfl rfl rfl rfl rfl ((xup_ne (xne_none ob5 e6)).trans ob5) rfl rfl ?_
  obtain ⟨Z6, hZ6⟩ : ∃ z, z = xup (xup Z5 q6 (.inl (E.D.1 103, 32, .inl (fun _ => 0)))) ob (.inr (6, [.int 0, .ref q1, .ref q2, .ref q3, .ref q4, .ref q5, .ref q6, .null, .null, .null, .null, .null, .null, .null, .int 0, .null, .int 0, .null, .int 0, .null, .int 0, .int 0, .null])) := ⟨_, rfl⟩
  refine xG.eqX (show _ = Z6 from hZ6.symm) ?_
  have ob6 : Z6 ob = some (.inr (6, [.int 0, .ref q1, .ref q2, .ref q3, .ref q4, .ref q5, .ref q6, .null, .null, .null, .null, .null, .null, .null, .int 0, .null, .int 0, .null, .int 0, .null, .int 0, .int 0, .null])) := by rw [hZ6]; exact xup_self
  have f6 : xFr [ob] X Z6 := by
    rw [hZ6]
    exact f5.fr (((xFr_new e6) : xFr [ob] Z5 _).trans (xFr_up ((xup_ne (xne_none ob5 e6)).trans ob5) (fun z => z) (by simp))) (fun z hz => Or.inl hz)
  obtain ⟨A6, hA6⟩ : ∃ A, A = setA A5 6 q6 := ⟨_, rfl⟩
  have a6 : A6 0 = ob := by rw [hA6, setA_ne (by decide)]; exact a5
  have p6 : mP E.D X A6 [6, 5, 4, 3, 2, 1] Z6 := by
    have h := p5.step (k := 6) (w := (.inr (6, [.int 0, .ref q1, .ref q2, .ref q3, .ref q4, .ref q5, .ref q6, .null, .null, .null, .null, .null, .null, .null, .int 0, .null, .int 0, .null, .int 0, .null, .int 0, .int 0, .null]) : va_E)) e6 (f5.2 _ e6) (by rw [a5]; exact ob5) (by decide) (by decide)
    rw [hA6, hZ6]
    rw [a5] at h
    exact h
  clear hZ6
  refine xr_aload_n C d_Mo_init_51 52 rfl rfl ?_
  refine xr_sipush (v := 3328) C d_Mo_init_52 55 rfl (by decide) ?_
  refine xr_newi (N := 3328) C d_Mo_init_55 57 rfl q_1010 rfl (by omega) (by omega) (by omega) (fun q7 e7 => ?_)
  refine xr_putF C K_Mo 7 d_Mo_init_57 60 rfl q_947 (Or.inl rfl) rfl rfl rfl rfl rfl rfl ((xup_ne (xne_none ob6 e7)).trans ob6) rfl rfl ?_
  obtain ⟨Z7, hZ7⟩ : ∃ z, z = xup (xup Z6 q7 (.inl (E.D.1 103, 3328, .inl (fun _ => 0)))) ob (.inr (6, [.int 0, .ref q1, .ref q2, .ref q3, .ref q4, .ref q5, .ref q6, .ref q7, .null, .null, .null, .null, .null, .null, .int 0, .null, .int 0, .null, .int 0, .null, .int 0, .int 0, .null])) := ⟨_, rfl⟩
  refine xG.eqX (show _ = Z7 from hZ7.symm) ?_
  have ob7 : Z7 ob = some (.inr (6, [.int 0, .ref q1, .ref q2, .ref q3, .ref q4, .ref q5, .ref q6, .ref q7, .null, .null, .null, .null, .null, .null, .int 0, .null, .int 0, .null, .int 0, .null, .int 0, .int 0, .null])) := by rw [hZ7]; exact xup_self
  have f7 : xFr [ob] X Z7 := by
    rw [hZ7]
    exact f6.fr (((xFr_new e7) : xFr [ob] Z6 _).trans (xFr_up ((xup_ne (xne_none ob6 e7)).trans ob6) (fun z => z) (by simp))) (fun z hz => Or.inl hz)
  obtain ⟨A7, hA7⟩ : ∃ A, A = setA A6 7 q7 := ⟨_, rfl⟩
  have a7 : A7 0 = ob := by rw [hA7, setA_ne (by decide)]; exact a6
  have p7 : mP E.D X A7 [7, 6, 5, 4, 3, 2, 1] Z7 := by
    have h := p6.step (k := 7) (w := (.inr (6, [.int 0, .ref q1, .ref q2, .ref q3, .ref q4, .ref q5, .ref q6, .ref q7, .null, .null, .null, .null, .null, .null, .int 0, .null, .int 0, .null, .int 0, .null, .int 0, .int 0, .null]) : va_E)) e7 (f6.2 _ e7) (by rw [a6]; exact ob6) (by decide) (by decide)
    rw [hA7, hZ7]
    rw [a6] at h
    exact h
  clear hZ7
  refine xr_aload_n C d_Mo_init_60 61 rfl rfl ?_
  refine xr_iconst (v := 2) C d_Mo_init_61 62 rfl (by decide) ?_
  refine xr_newi (N := 2) C d_Mo_init_62 64 rfl q_1010 rfl (by omega) (by omega) (by omega) (fun q8 e8 => ?_)
  refine xr_putF C K_Mo 8 d_Mo_init_64 67 rfl q_948 (Or.inl rfl) rfl rfl rfl rfl rfl rfl ((xup_ne (xne_none ob7 e8)).trans ob7) rfl rfl ?_
  obtain ⟨Z8, hZ8⟩ : ∃ z, z = xup (xup Z7 q8 (.inl (E.D.1 103, 2, .inl (fun _ => 0)))) ob (.inr (6, [.int 0, .ref q1, .ref q2, .ref q3, .ref q4, .ref q5, .ref q6, .ref q7, .ref q8, .null, .null, .null, .null, .null, .int 0, .null, .int 0, .null, .int 0, .null, .int 0, .int 0, .null])) := ⟨_, rfl⟩
  refine xG.eqX (show _ = Z8 from hZ8.symm) ?_
  have ob8 : Z8 ob = some (.inr (6, [.int 0, .ref q1, .ref q2, .ref q3, .ref q4, .ref q5, .ref q6, .ref q7, .ref q8, .null, .null, .null, .null, .null, .int 0, .null, .int 0, .null, .int 0, .null, .int 0, .int 0, .null])) := by rw [hZ8]; exact xup_self
  have f8 : xFr [ob] X Z8 := by
    rw [hZ8]
    exact f7.fr (((xFr_new e8) : xFr [ob] Z7 _).trans (xFr_up ((xup_ne (xne_none ob7 e8)).trans ob7) (fun z => z) (by simp))) (fun z hz => Or.inl hz)
  obtain ⟨A8, hA8⟩ : ∃ A, A = setA A7 8 q8 := ⟨_, rfl⟩
  have a8 : A8 0 = ob := by rw [hA8, setA_ne (by decide)]; exact a7
  have p8 : mP E.D X A8 [8, 7, 6, 5, 4, 3, 2, 1] Z8 := by
    have h := p7.step (k := 8) (w := (.inr (6, [.int 0, .ref q1, .ref q2, .ref q3, .ref q4, .ref q5, .ref q6, .ref q7, .ref q8, .null, .null, .null, .null, .null, .int 0, .null, .int 0, .null, .int 0, .null, .int 0, .int 0, .null]) : va_E)) e8 (f7.2 _ e8) (by rw [a7]; exact ob7) (by decide) (by decide)
    rw [hA8, hZ8]
    rw [a7] at h
    exact h
  clear hZ8
  refine xr_aload_n C d_Mo_init_67 68 rfl rfl ?_
  refine xr_sipush (v := 256) C d_Mo_init_68 71 rfl (by decide) ?_
  refine xr_newi (N := 256) C d_Mo_init_71 73 rfl q_1010 rfl (by omega) (by omega) (by omega) (fun q9 e9 => ?_)
  refine xr_putF C K_Mo 9 d_Mo_init_73 76 rfl q_949 (Or.inl rfl) rfl rfl rfl rfl rfl rfl ((xup_ne (xne_none ob8 e9)).trans ob8) rfl rfl ?_
  obtain ⟨Z9, hZ9⟩ : ∃ z, z = xup (xup Z8 q9 (.inl (E.D.1 103, 256, .inl (fun _ => 0)))) ob (.inr (6, [.int 0, .ref q1, .ref q2, .ref q3, .ref q4, .ref q5, .ref q6, .ref q7, .ref q8, .ref q9, .null, .null, .null, .null, .int 0, .null, .int 0, .null, .int 0, .null, .int 0, .int 0, .null])) := ⟨_, rfl⟩
  refine xG.eqX (show _ = Z9 from hZ9.symm) ?_
  have ob9 : Z9 ob = some (.inr (6, [.int 0, .ref q1, .ref q2, .ref q3, .ref q4, .ref q5, .ref q6, .ref q7, .ref q8, .ref q9, .null, .null, .null, .null, .int 0, .null, .int 0, .null, .int 0, .null, .int 0, .int 0, .null])) := by rw [hZ9]; exact xup_self
  have f9 : xFr [ob] X Z9 := by
    rw [hZ9]
    exact f8.fr (((xFr_new e9) : xFr [ob] Z8 _).trans (xFr_up ((xup_ne (xne_none ob8 e9)).trans ob8) (fun z => z) (by simp))) (fun z hz => Or.inl hz)
  obtain ⟨A9, hA9⟩ : ∃ A, A = setA A8 9 q9 := ⟨_, rfl⟩
  have a9 : A9 0 = ob := by rw [hA9, setA_ne (by decide)]; exact a8
  have p9 : mP E.D X A9 [9, 8, 7, 6, 5, 4, 3, 2, 1] Z9 := by
    have h := p8.step (k := 9) (w := (.inr (6, [.int 0, .ref q1, .ref q2, .ref q3, .ref q4, .ref q5, .ref q6, .ref q7, .ref q8, .ref q9, .null, .null, .null, .null, .int 0, .null, .int 0, .null, .int 0, .null, .int 0, .int 0, .null]) : va_E)) e9 (f8.2 _ e9) (by rw [a8]; exact ob8) (by decide) (by decide)
    rw [hA9, hZ9]
    rw [a8] at h
    exact h
  clear hZ9
  refine xr_aload_n C d_Mo_init_76 77 rfl rfl ?_
  refine xr_sipush (v := 1024) C d_Mo_init_77 80 rfl (by decide) ?_
  refine xr_newl (N := 1024) C d_Mo_init_80 82 rfl q_1011 rfl (by omega) (by omega) (by omega) (fun q10 e10 => ?_)
  refine xr_putF C K_Mo 10 d_Mo_init_82 85 rfl q_950 (Or.inl rfl) rfl rfl rfl rfl rfl rfl ((xup_ne (xne_none ob9 e10)).trans ob9) rfl rfl ?_
  obtain ⟨Z10, hZ10⟩ : ∃ z, z = xup (xup Z9 q10 (.inl (E.D.1 102, 1024, .inr (.inl (fun _ => 0))))) ob (.inr (6, [.int 0, .ref q1, .ref q2, .ref q3, .ref q4, .ref q5, .ref q6, .ref q7, .ref q8, .ref q9, .ref q10, .null, .null, .null, .int 0, .null, .int 0, .null, .int 0, .null, .int 0, .int 0, .null])) := ⟨_, rfl⟩
  refine xG.eqX (show _ = Z10 from hZ10.symm) ?_
  have ob10 : Z10 ob = some (.inr (6, [.int 0, .ref q1, .ref q2, .ref q3, .ref q4, .ref q5, .ref q6, .ref q7, .ref q8, .ref q9, .ref q10, .null, .null, .null, .int 0, .null, .int 0, .null, .int 0, .null, .int 0, .int 0, .null])) := by rw [hZ10]; exact xup_self
  have f10 : xFr [ob] X Z10 := by
    rw [hZ10]
    exact f9.fr (((xFr_new e10) : xFr [ob] Z9 _).trans (xFr_up ((xup_ne (xne_none ob9 e10)).trans ob9) (fun z => z) (by simp))) (fun z hz => Or.inl hz)
  obtain ⟨A10, hA10⟩ : ∃ A, A = setA A9 10 q10 := ⟨_, rfl⟩
  have a10 : A10 0 = ob := by rw [hA10, setA_ne (by decide)]; exact a9
  have p10 : mP E.D X A10 [10, 9, 8, 7, 6, 5, 4, 3, 2, 1] Z10 := by
    have h := p9.step (k := 10) (w := (.inr (6, [.int 0, .ref q1, .ref q2, .ref q3, .ref q4, .ref q5, .ref q6, .ref q7, .ref q8, .ref q9, .ref q10, .null, .null, .null, .int 0, .null, .int 0, .null, .int 0, .null, .int 0, .int 0, .null]) : va_E)) e10 (f9.2 _ e10) (by rw [a9]; exact ob9) (by decide) (by decide)
    rw [hA10, hZ10]
    rw [a9] at h
    exact h
  clear hZ10
  refine xr_aload_n C d_Mo_init_85 86 rfl rfl ?_
  refine xr_sipush (v := 256) C d_Mo_init_86 89 rfl (by decide) ?_
  refine xr_newi (N := 256) C d_Mo_init_89 91 rfl q_1010 rfl (by omega) (by omega) (by omega) (fun q11 e11 => ?_)
  refine xr_putF C K_Mo 11 d_Mo_init_91 94 rfl q_951 (Or.inl rfl) rfl rfl rfl rfl rfl rfl ((xup_ne (xne_none ob10 e11)).trans ob10) rfl rfl ?_
  obtain ⟨Z11, hZ11⟩ : ∃ z, z = xup (xup Z10 q11 (.inl (E.D.1 103, 256, .inl (fun _ => 0)))) ob (.inr (6, [.int 0, .ref q1, .ref q2, .ref q3, .ref q4, .ref q5, .ref q6, .ref q7, .ref q8, .ref q9, .ref q10, .ref q11, .null, .null, .int 0, .null, .int 0, .null, .int 0, .null, .int 0, .int 0, .null])) := ⟨_, rfl⟩
  refine xG.eqX (show _ = Z11 from hZ11.symm) ?_
  have ob11 : Z11 ob = some (.inr (6, [.int 0, .ref q1, .ref q2, .ref q3, .ref q4, .ref q5, .ref q6, .ref q7, .ref q8, .ref q9, .ref q10, .ref q11, .null, .null, .int 0, .null, .int 0, .null, .int 0, .null, .int 0, .int 0, .null])) := by rw [hZ11]; exact xup_self
  have f11 : xFr [ob] X Z11 := by
    rw [hZ11]
    exact f10.fr (((xFr_new e11) : xFr [ob] Z10 _).trans (xFr_up ((xup_ne (xne_none ob10 e11)).trans ob10) (fun z => z) (by simp))) (fun z hz => Or.inl hz)
  obtain ⟨A11, hA11⟩ : ∃ A, A = setA A10 11 q11 := ⟨_, rfl⟩
  have a11 : A11 0 = ob := by rw [hA11, setA_ne (by decide)]; exact a10
  have p11 : mP E.D X A11 [11, 10, 9, 8, 7, 6, 5, 4, 3, 2, 1] Z11 := by
    have h := p10.step (k := 11) (w := (.inr (6, [.int 0, .ref q1, .ref q2, .ref q3, .ref q4, .ref q5, .ref q6, .ref q7, .ref q8, .ref q9, .ref q10, .ref q11, .null, .null, .int 0, .null, .int 0, .null, .int 0, .null, .int 0, .int 0, .null]) : va_E)) e11 (f10.2 _ e11) (by rw [a10]; exact ob10) (by decide) (by decide)
    rw [hA11, hZ11]
    rw [a10] at h
    exact h
  clear hZ11
  refine xr_aload_n C d_Mo_init_94 95 rfl rfl ?_
  refine xr_sipush (v := 3328) C d_Mo_init_95 98 rfl (by decide) ?_
  refine xr_newl (N := 3328) C d_Mo_init_98 100 rfl q_1011 rfl (by omega) (by omega) (by omega) (fun q12 e12 => ?_)
  refine xr_putF C K_Mo 12 d_Mo_init_100 103 rfl q_952 (Or.inl rfl) rfl rfl rfl rfl rfl rfl ((xup_ne (xne_none ob11 e12)).trans ob11) rfl rfl ?_
  obtain ⟨Z12, hZ12⟩ : ∃ z, z = xup (xup Z11 q12 (.inl (E.D.1 102, 3328, .inr (.inl (fun _ => 0))))) ob (.inr (6, [.int 0, .ref q1, .ref q2, .ref q3, .ref q4, .ref q5, .ref q6, .ref q7, .ref q8, .ref q9, .ref q10, .ref q11, .ref q12, .null, .int 0, .null, .int 0, .null, .int 0, .null, .int 0, .int 0, .null])) := ⟨_, rfl⟩
  refine xG.eqX (show _ = Z12 from hZ12.symm) ?_
  have ob12 : Z12 ob = some (.inr (6, [.int 0, .ref q1, .ref q2, .ref q3, .ref q4, .ref q5, .ref q6, .ref q7, .ref q8, .ref q9, .ref q10, .ref q11, .ref q12, .null, .int 0, .null, .int 0, .null, .int 0, .null, .int 0, .int 0, .null])) := by rw [hZ12]; exact xup_self
  have f12 : xFr [ob] X Z12 := by
    rw [hZ12]
    exact f11.fr (((xFr_new e12) : xFr [ob] Z11 _).trans (xFr_up ((xup_ne (xne_none ob11 e12)).trans ob11) (fun z => z) (by simp))) (fun z hz => Or.inl hz)
  obtain ⟨A12, hA12⟩ : ∃ A, A = setA A11 12 q12 := ⟨_, rfl⟩
  have a12 : A12 0 = ob := by rw [hA12, setA_ne (by decide)]; exact a11
  have p12 : mP E.D X A12 [12, 11, 10, 9, 8, 7, 6, 5, 4, 3, 2, 1] Z12 := by
    have h := p11.step (k := 12) (w := (.inr (6, [.int 0, .ref q1, .ref q2, .ref q3, .ref q4, .ref q5, .ref q6, .ref q7, .ref q8, .ref q9, .ref q10, .ref q11, .ref q12, .null, .int 0, .null, .int 0, .null, .int 0, .null, .int 0, .int 0, .null]) : va_E)) e12 (f11.2 _ e12) (by rw [a11]; exact ob11) (by decide) (by decide)
    rw [hA12, hZ12]
    rw [a11] at h
    exact h
  clear hZ12
  refine xr_aload_n C d_Mo_init_103 104 rfl rfl ?_
  refine xr_iconst (v := 2) C d_Mo_init_104 105 rfl (by decide) ?_
  refine xr_newi (N := 2) C d_Mo_init_105 107 rfl q_1010 rfl (by omega) (by omega) (by omega) (fun q13 e13 => ?_)
  refine xr_putF C K_Mo 13 d_Mo_init_107 110 rfl q_953 (Or.inl rfl) rfl rfl rfl rfl rfl rfl ((xup_ne (xne_none ob12 e13)).trans ob12) rfl rfl ?_
  obtain ⟨Z13, hZ13⟩ : ∃ z, z = xup (xup Z12 q13 (.inl (E.D.1 103, 2, .inl (fun _ => 0)))) ob (.inr (6, [.int 0, .ref q1, .ref q2, .ref q3, .ref q4, .ref q5, .ref q6, .ref q7, .ref q8, .ref q9, .ref q10, .ref q11, .ref q12, .ref q13, .int 0, .null, .int 0, .null, .int 0, .null, .int 0, .int 0, .null])) := ⟨_, rfl⟩
  refine xG.eqX (show _ = Z13 from hZ13.symm) ?_
  have ob13 : Z13 ob = some (.inr (6, [.int 0, .ref q1, .ref q2, .ref q3, .ref q4, .ref q5, .ref q6, .ref q7, .ref q8, .ref q9, .ref q10, .ref q11, .ref q12, .ref q13, .int 0, .null, .int 0, .null, .int 0, .null, .int 0, .int 0, .null])) := by rw [hZ13]; exact xup_self
  have f13 : xFr [ob] X Z13 := by
    rw [hZ13]
    exact f12.fr (((xFr_new e13) : xFr [ob] Z12 _).trans (xFr_up ((xup_ne (xne_none ob12 e13)).trans ob12) (fun z => z) (by simp))) (fun z hz => Or.inl hz)
  obtain ⟨A13, hA13⟩ : ∃ A, A = setA A12 13 q13 := ⟨_, rfl⟩
  have a13 : A13 0 = ob := by rw [hA13, setA_ne (by decide)]; exact a12
  have p13 : mP E.D X A13 [13, 12, 11, 10, 9, 8, 7, 6, 5, 4, 3, 2, 1] Z13 := by
    have h := p12.step (k := 13) (w := (.inr (6, [.int 0, .ref q1, .ref q2, .ref q3, .ref q4, .ref q5, .ref q6, .ref q7, .ref q8, .ref q9, .ref q10, .ref q11, .ref q12, .ref q13, .int 0, .null, .int 0, .null, .int 0, .null, .int 0, .int 0, .null]) : va_E)) e13 (f12.2 _ e13) (by rw [a12]; exact ob12) (by decide) (by decide)
    rw [hA13, hZ13]
    rw [a12] at h
    exact h
  clear hZ13
  refine xr_aload_n C d_Mo_init_110 111 rfl rfl ?_
  refine xr_sipush (v := 300) C d_Mo_init_111 114 rfl (by decide) ?_
  refine xr_newi (N := 300) C d_Mo_init_114 116 rfl q_1010 rfl (by omega) (by omega) (by omega) (fun q15 e15 => ?_)
  refine xr_putF C K_Mo 15 d_Mo_init_116 119 rfl q_955 (Or.inl rfl) rfl rfl rfl rfl rfl rfl ((xup_ne (xne_none ob13 e15)).trans ob13) rfl rfl ?_
  obtain ⟨Z14, hZ14⟩ : ∃ z, z = xup (xup Z13 q15 (.inl (E.D.1 103, 300, .inl (fun _ => 0)))) ob (.inr (6, [.int 0, .ref q1, .ref q2, .ref q3, .ref q4, .ref q5, .ref q6, .ref q7, .ref q8, .ref q9, .ref q10, .ref q11, .ref q12, .ref q13, .int 0, .ref q15, .int 0, .null, .int 0, .null, .int 0, .int 0, .null])) := ⟨_, rfl⟩
  refine xG.eqX (show _ = Z14 from hZ14.symm) ?_
  have ob14 : Z14 ob = some (.inr (6, [.int 0, .ref q1, .ref q2, .ref q3, .ref q4, .ref q5, .ref q6, .ref q7, .ref q8, .ref q9, .ref q10, .ref q11, .ref q12, .ref q13, .int 0, .ref q15, .int 0, .null, .int 0, .null, .int 0, .int 0, .null])) := by rw [hZ14]; exact xup_self
  have f14 : xFr [ob] X Z14 := by
    rw [hZ14]
    exact f13.fr (((xFr_new e15) : xFr [ob] Z13 _).trans (xFr_up ((xup_ne (xne_none ob13 e15)).trans ob13) (fun z => z) (by simp))) (fun z hz => Or.inl hz)
  obtain ⟨A14, hA14⟩ : ∃ A, A = setA A13 15 q15 := ⟨_, rfl⟩
  have a14 : A14 0 = ob := by rw [hA14, setA_ne (by decide)]; exact a13
  have p14 : mP E.D X A14 [15, 13, 12, 11, 10, 9, 8, 7, 6, 5, 4, 3, 2, 1] Z14 := by
    have h := p13.step (k := 15) (w := (.inr (6, [.int 0, .ref q1, .ref q2, .ref q3, .ref q4, .ref q5, .ref q6, .ref q7, .ref q8, .ref q9, .ref q10, .ref q11, .ref q12, .ref q13, .int 0, .ref q15, .int 0, .null, .int 0, .null, .int 0, .int 0, .null]) : va_E)) e15 (f13.2 _ e15) (by rw [a13]; exact ob13) (by decide) (by decide)
    rw [hA14, hZ14]
    rw [a13] at h
    exact h
  clear hZ14
  refine xr_aload_n C d_Mo_init_119 120 rfl rfl ?_
  refine xr_iconst (v := 4) C d_Mo_init_120 121 rfl (by decide) ?_
  refine xr_newl (N := 4) C d_Mo_init_121 123 rfl q_1011 rfl (by omega) (by omega) (by omega) (fun q17 e17 => ?_)
  refine xr_putF C K_Mo 17 d_Mo_init_123 126 rfl q_957 (Or.inl rfl) rfl rfl rfl rfl rfl rfl ((xup_ne (xne_none ob14 e17)).trans ob14) rfl rfl ?_
  obtain ⟨Z15, hZ15⟩ : ∃ z, z = xup (xup Z14 q17 (.inl (E.D.1 102, 4, .inr (.inl (fun _ => 0))))) ob (.inr (6, [.int 0, .ref q1, .ref q2, .ref q3, .ref q4, .ref q5, .ref q6, .ref q7, .ref q8, .ref q9, .ref q10, .ref q11, .ref q12, .ref q13, .int 0, .ref q15, .int 0, .ref q17, .int 0, .null, .int 0, .int 0, .null])) := ⟨_, rfl⟩
  refine xG.eqX (show _ = Z15 from hZ15.symm) ?_
  have ob15 : Z15 ob = some (.inr (6, [.int 0, .ref q1, .ref q2, .ref q3, .ref q4, .ref q5, .ref q6, .ref q7, .ref q8, .ref q9, .ref q10, .ref q11, .ref q12, .ref q13, .int 0, .ref q15, .int 0, .ref q17, .int 0, .null, .int 0, .int 0, .null])) := by rw [hZ15]; exact xup_self
  have f15 : xFr [ob] X Z15 := by
    rw [hZ15]
    exact f14.fr (((xFr_new e17) : xFr [ob] Z14 _).trans (xFr_up ((xup_ne (xne_none ob14 e17)).trans ob14) (fun z => z) (by simp))) (fun z hz => Or.inl hz)
  obtain ⟨A15, hA15⟩ : ∃ A, A = setA A14 17 q17 := ⟨_, rfl⟩
  have a15 : A15 0 = ob := by rw [hA15, setA_ne (by decide)]; exact a14
  have p15 : mP E.D X A15 [17, 15, 13, 12, 11, 10, 9, 8, 7, 6, 5, 4, 3, 2, 1] Z15 := by
    have h := p14.step (k := 17) (w := (.inr (6, [.int 0, .ref q1, .ref q2, .ref q3, .ref q4, .ref q5, .ref q6, .ref q7, .ref q8, .ref q9, .ref q10, .ref q11, .ref q12, .ref q13, .int 0, .ref q15, .int 0, .ref q17, .int 0, .null, .int 0, .int 0, .null]) : va_E)) e17 (f14.2 _ e17) (by rw [a14]; exact ob14) (by decide) (by decide)
    rw [hA15, hZ15]
    rw [a14] at h
    exact h
  clear hZ15
  refine xr_aload_n C d_Mo_init_126 127 rfl rfl ?_
  refine xr_sipush (v := 140) C d_Mo_init_127 130 rfl (by decide) ?_
  refine xr_newi (N := 140) C d_Mo_init_130 132 rfl q_1010 rfl (by omega) (by omega) (by omega) (fun q19 e19 => ?_)
  refine xr_putF C K_Mo 19 d_Mo_init_132 135 rfl q_959 (Or.inl rfl) rfl rfl rfl rfl rfl rfl ((xup_ne (xne_none ob15 e19)).trans ob15) rfl rfl ?_
  obtain ⟨Z16, hZ16⟩ : ∃ z, z = xup (xup Z15 q19 (.inl (E.D.1 103, 140, .inl (fun _ => 0)))) ob (.inr (6, [.int 0, .ref q1, .ref q2, .ref q3, .ref q4, .ref q5, .ref q6, .ref q7, .ref q8, .ref q9, .ref q10, .ref q11, .ref q12, .ref q13, .int 0, .ref q15, .int 0, .ref q17, .int 0, .ref q19, .int 0, .int 0, .null])) := ⟨_, rfl⟩
  refine xG.eqX (show _ = Z16 from hZ16.symm) ?_
  have ob16 : Z16 ob = some (.inr (6, [.int 0, .ref q1, .ref q2, .ref q3, .ref q4, .ref q5, .ref q6, .ref q7, .ref q8, .ref q9, .ref q10, .ref q11, .ref q12, .ref q13, .int 0, .ref q15, .int 0, .ref q17, .int 0, .ref q19, .int 0, .int 0, .null])) := by rw [hZ16]; exact xup_self
  have f16 : xFr [ob] X Z16 := by
    rw [hZ16]
    exact f15.fr (((xFr_new e19) : xFr [ob] Z15 _).trans (xFr_up ((xup_ne (xne_none ob15 e19)).trans ob15) (fun z => z) (by simp))) (fun z hz => Or.inl hz)
  obtain ⟨A16, hA16⟩ : ∃ A, A = setA A15 19 q19 := ⟨_, rfl⟩
  have a16 : A16 0 = ob := by rw [hA16, setA_ne (by decide)]; exact a15
  have p16 : mP E.D X A16 [19, 17, 15, 13, 12, 11, 10, 9, 8, 7, 6, 5, 4, 3, 2, 1] Z16 := by
    have h := p15.step (k := 19) (w := (.inr (6, [.int 0, .ref q1, .ref q2, .ref q3, .ref q4, .ref q5, .ref q6, .ref q7, .ref q8, .ref q9, .ref q10, .ref q11, .ref q12, .ref q13, .int 0, .ref q15, .int 0, .ref q17, .int 0, .ref q19, .int 0, .int 0, .null]) : va_E)) e19 (f15.2 _ e19) (by rw [a15]; exact ob15) (by decide) (by decide)
    rw [hA16, hZ16]
    rw [a15] at h
    exact h
  clear hZ16
  refine xr_aload_n C d_Mo_init_135 136 rfl rfl ?_
  refine xr_sipush (v := 1800) C d_Mo_init_136 139 rfl (by decide) ?_
  refine xr_newl (N := 1800) C d_Mo_init_139 141 rfl q_1011 rfl (by omega) (by omega) (by omega) (fun q22 e22 => ?_)
  refine xr_putF C K_Mo 22 d_Mo_init_141 144 rfl q_962 (Or.inl rfl) rfl rfl rfl rfl rfl rfl ((xup_ne (xne_none ob16 e22)).trans ob16) rfl rfl ?_
  obtain ⟨Z17, hZ17⟩ : ∃ z, z = xup (xup Z16 q22 (.inl (E.D.1 102, 1800, .inr (.inl (fun _ => 0))))) ob (.inr (6, [.int 0, .ref q1, .ref q2, .ref q3, .ref q4, .ref q5, .ref q6, .ref q7, .ref q8, .ref q9, .ref q10, .ref q11, .ref q12, .ref q13, .int 0, .ref q15, .int 0, .ref q17, .int 0, .ref q19, .int 0, .int 0, .ref q22])) := ⟨_, rfl⟩
  refine xG.eqX (show _ = Z17 from hZ17.symm) ?_
  have ob17 : Z17 ob = some (.inr (6, [.int 0, .ref q1, .ref q2, .ref q3, .ref q4, .ref q5, .ref q6, .ref q7, .ref q8, .ref q9, .ref q10, .ref q11, .ref q12, .ref q13, .int 0, .ref q15, .int 0, .ref q17, .int 0, .ref q19, .int 0, .int 0, .ref q22])) := by rw [hZ17]; exact xup_self
  have f17 : xFr [ob] X Z17 := by
    rw [hZ17]
    exact f16.fr (((xFr_new e22) : xFr [ob] Z16 _).trans (xFr_up ((xup_ne (xne_none ob16 e22)).trans ob16) (fun z => z) (by simp))) (fun z hz => Or.inl hz)
  obtain ⟨A17, hA17⟩ : ∃ A, A = setA A16 22 q22 := ⟨_, rfl⟩
  have a17 : A17 0 = ob := by rw [hA17, setA_ne (by decide)]; exact a16
  have p17 : mP E.D X A17 [22, 19, 17, 15, 13, 12, 11, 10, 9, 8, 7, 6, 5, 4, 3, 2, 1] Z17 := by
    have h := p16.step (k := 22) (w := (.inr (6, [.int 0, .ref q1, .ref q2, .ref q3, .ref q4, .ref q5, .ref q6, .ref q7, .ref q8, .ref q9, .ref q10, .ref q11, .ref q12, .ref q13, .int 0, .ref q15, .int 0, .ref q17, .int 0, .ref q19, .int 0, .int 0, .ref q22]) : va_E)) e22 (f16.2 _ e22) (by rw [a16]; exact ob16) (by decide) (by decide)
    rw [hA17, hZ17]
    rw [a16] at h
    exact h
  clear hZ17
  have hx : ∀ k, A17 k = if k = 22 then q22 else if k = 19 then q19 else if k = 17 then q17 else if k = 15 then q15 else if k = 13 then q13 else if k = 12 then q12 else if k = 11 then q11 else if k = 10 then q10 else if k = 9 then q9 else if k = 8 then q8 else if k = 7 then q7 else if k = 6 then q6 else if k = 5 then q5 else if k = 4 then q4 else if k = 3 then q3 else if k = 2 then q2 else if k = 1 then q1 else ob := by
    intro k
    rw [hA17, hA16, hA15, hA14, hA13, hA12, hA11, hA10, hA9, hA8, hA7, hA6, hA5, hA4, hA3, hA2, hA1, hA0]
    rfl
  have hm : mfs A17 mz = [.int 0, .ref q1, .ref q2, .ref q3, .ref q4, .ref q5, .ref q6, .ref q7, .ref q8, .ref q9, .ref q10, .ref q11, .ref q12, .ref q13, .int 0, .ref q15, .int 0, .ref q17, .int 0, .ref q19, .int 0, .int 0, .ref q22] := by
    unfold mfs
    simp only [hx]
    rfl
  have hP : mP E.D X A17 [22, 19, 17, 15, 13, 12, 11, 10, 9, 8, 7, 6, 5, 4, 3, 2, 1] Z17 := p17
  refine xr_vret C d_Mo_init_144 (by omega) (by omega) ⟨rfl, f17, A17, a17, fun i hi j hj e => ?_, fun k hk => ?_⟩
  · have g : ∀ i, i ∈ mix0 → i = 0 ∨ i ∈ [22, 19, 17, 15, 13, 12, 11, 10, 9, 8, 7, 6, 5, 4, 3, 2, 1] := by decide
    rcases g i hi with ei | ei
    · rcases g j hj with ej | ej
      · rw [ei, ej]
      · rw [ei] at e
        exact absurd e.symm (hP.1 j ej).2.2.1
    · rcases g j hj with ej | ej
      · rw [ej] at e
        exact absurd e (hP.1 i ei).2.2.1
      · exact pw_inj hP.2 i ei j ej e
  · have g : ∀ i, i ∈ mix0 → i = 0 ∨ i ∈ [22, 19, 17, 15, 13, 12, 11, 10, 9, 8, 7, 6, 5, 4, 3, 2, 1] := by decide
    rcases g k hk with ek | ek
    · refine ⟨?_, Or.inl ek⟩
      rw [ek, a17, ob17]
      show _ = some (Sum.inr (6, mfs A17 mz))
      rw [hm]
    · exact ⟨(hP.1 k ek).1, Or.inr (hP.1 k ek).2.2.2⟩
