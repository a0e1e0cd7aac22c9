/-! JDK: ArrayList.clear; Arrays.copyOf, copyOfRange of bytes. -/
section XC0
variable {E : xE} {y : MethodName} {cc : ByteArray} {nL : Nat} {ret : Option FieldType} {hs : List (Nat × Nat × Nat × Nat)} {d mc ms : Nat} {Post : xO → xH → Prop} {X : xH} {cells slots pc : Nat} {L : List (Option Value)} {st : List Value}
/-- .. of no bytes, into an array of none -/
theorem xcopy0 (C : xCx E y cc nL ret hs d mc ms Post) {idx a0 a1 n0 n1 sp dp : Nat} {f g : Nat → Int32} (hd : decode cc pc = .ok (.invokestatic idx, 3)) (nx : Nat) (hn : pc + 3 = nx) (hl : Cond.methodLink y.cls idx arraycopyName ∈ xT) (hw : Cond.native arraycopyName ∈ xT ∧ Cond.static arraycopyName ∈ xT ∧ Cond.initialized "java/lang/System" ∈ xT) (hX0 : X a0 = some (.inl (E.D.1 100, n0, .inl f))) (hX1 : X a1 = some (.inl (E.D.1 100, n1, .inl g))) (hs0 : sp ≤ n0) (hz : n1 = 0) (hN0 : n0 < 2 ^ 31 ∧ dp = 0) (hst : (st.map fun v => v.category).sum ≤ 8) (kk : xG E X cells slots nx L st) : xG E X cells slots pc L (.int (nI n1) :: .int (nI dp) :: .ref a1 :: .int (nI sp) :: .ref a0 :: st) := by
  subst hn
  subst hz
  obtain ⟨hN0, rfl⟩ := hN0
  intro H locs ls h1 h2 h3 T hT S
  subst hT
  obtain ⟨cs, c0', b1, b2, b2'⟩ := h1.cell2 (t0 := 0) hX0 C.kk.1 C.kk.2.2.2.2.2.2.2.2 rfl
  obtain ⟨cd, c1', b3, b4, b4'⟩ := h1.cell2 (t0 := 0) hX1 C.kk.1 C.kk.2.2.2.2.2.2.2.2 rfl
  have m0 : (nI sp).toNatClampNeg = sp := nI_clamp (by omega)
  have m1 : (nI 0).toNatClampNeg = 0 := by decide
  obtain ⟨-, k0, hk0, cm0, hkk0⟩ := b2.of b2'
  obtain ⟨-, k1, hk1, cm1, hkk1⟩ := b4.of b4'
  obtain ⟨vm', S', step⟩ := S.arraycopy C.1 C.ow (C.ts _ hl) (C.ts _ hw.1) (C.ts _ hw.2.1) (C.ts _ hw.2.2) (src := a0) (dst := a1) (cs := cs) (cd := cd) (srcPos := nI sp) (destPos := nI 0) (n := nI 0) b1 b3 b2.2.2.1 b4.2.2.1 b2.2.1 b4.2.1 hk0 hk1 hkk0 hkk1 (by simp) (nI_pos (by omega)) (nI_pos (by omega)) (nI_pos (by omega))
    (by rw [nI_toInt (by omega), nI_toInt (by omega), b2.size]; show ¬ _ > (n0 : Int); omega) (by rw [nI_toInt (by omega), b4.size]; show ¬ _ > ((0 : Nat) : Int); omega)
    (fun vm₁ hal i hi => by
      rw [m1] at hi
      exact absurd hi (Nat.not_lt_zero _))
    (g := F0 E.m pc ls (.int (nI 0) :: .int (nI 0) :: .ref a1 :: .int (nI sp) :: .ref a0 :: st)) rfl (by rw [C.2.2.1]; exact h3.1) (rest := st) rfl (by rw [C.2.1]; exact hd) (by rw [C.rm]; show 1 ≤ d + 8; omega) (by rw [C.rm, show nativeFrameWords "java/lang/System" "arraycopy" 5 = 7 from by decide]; show 2 * 0 + _ + _ ≤ 40 * (d + 8); omega)
  have hcpd : copied cs cd (nI sp) (nI 0) (nI 0) = cd := by
    show cd.storeRun (nI 0).toNatClampNeg (cs.stretch (nI sp).toNatClampNeg (nI 0).toNatClampNeg) = _
    rw [m0, m1]
    rfl
  rw [hcpd] at S' step
  have hl1 : a1 < T.heap.size := (Array.getElem?_eq_some_iff.mp b3).1
  have hheap : ((T.setVm vm').setCell a1 cd).heap = T.heap := by
    show T.heap.setIfInBounds a1 cd = T.heap
    apply Array.ext_getElem?
    intro i
    rw [Array.getElem?_setIfInBounds]
    by_cases h : a1 = i
    · subst h
      rw [if_pos rfl, if_pos hl1, b3]
    · simp [h]
  have e : (cs.stretch (nI sp).toNatClampNeg (nI 0).toNatClampNeg).zipIdx.map (fun q => (⟨a1, (nI 0).toNatClampNeg + q.2⟩ : Loc)) = [] := by
    rw [m1]
    rfl
  rw [e, List.append_nil] at S'
  obtain ⟨t, q1, q2⟩ := kk _ _ ls h1 h2 h3 _ hheap S'
  exact ⟨t, step t q1, q2⟩
end XC0

set_option maxRecDepth 100000 in
set_option maxHeartbeats 4000000 in
theorem l_clear {l : Launch} {D : va_G} {H0 : Heap} {X : xH} {a b cap : Nat} {as : List Nat} (hL : xLi D X a b cap as) : xMet l D H0 y_AL_clear b_AL_clear 4 none [] 0 0 0 [.ref a] X (fun o X' => o = .inl none ∧ xLi D X' a b cap [] ∧ xFr [a, b] X X') := by
  obtain ⟨mo, f, ha, hb, hle, hc, hz, hf⟩ := hL
  refine ⟨[some (.ref a), none, none, none], rfl, Nat.le_of_ble_eq_true rfl, fun E hD hH hl _ C => ?_⟩
  subst hD
  subst hH
  subst hl
  have hab : a ≠ b := xne ha hb (by intro h; cases h)
  refine xr_aload_n C d_AL_clear_0 1 rfl rfl ?_
  refine xr_dup C d_AL_clear_1 2 rfl rfl ?_
  refine xr_get C K_AL 0 d_AL_clear_2 5 rfl q_60 (Or.inr q_61) rfl (by first | assumption | exact xup_self | exact (xup_ne (by assumption)).trans (by assumption) | exact (xup_ne (Ne.symm (by assumption))).trans (by assumption) | exact (xup_ne (by assumption)).trans xup_self | exact (xup_ne (Ne.symm (by assumption))).trans xup_self) rfl ?_
  refine xr_iconst (v := 1) C d_AL_clear_5 6 rfl (by decide) ?_
  refine xr_iadd C d_AL_clear_6 7 rfl ?_
  refine xr_put C K_AL 0 d_AL_clear_7 10 rfl q_60 (Or.inr q_61) rfl rfl rfl rfl (by first | assumption | exact xup_self | exact (xup_ne (by assumption)).trans (by assumption) | exact (xup_ne (Ne.symm (by assumption))).trans (by assumption) | exact (xup_ne (by assumption)).trans xup_self | exact (xup_ne (Ne.symm (by assumption))).trans xup_self) rfl rfl ?_
  refine xr_aload_n C d_AL_clear_10 11 rfl rfl ?_
  refine xr_get C K_AL 1 d_AL_clear_11 14 rfl q_57 (Or.inl rfl) rfl (by first | assumption | exact xup_self | exact (xup_ne (by assumption)).trans (by assumption) | exact (xup_ne (Ne.symm (by assumption))).trans (by assumption) | exact (xup_ne (by assumption)).trans xup_self | exact (xup_ne (Ne.symm (by assumption))).trans xup_self) rfl ?_
  refine xr_astore_n C d_AL_clear_14 15 rfl rfl rfl ?_
  refine xr_aload_n C d_AL_clear_15 16 rfl rfl ?_
  refine xr_get C K_AL 2 d_AL_clear_16 19 rfl q_58 (Or.inl rfl) rfl (by first | assumption | exact xup_self | exact (xup_ne (by assumption)).trans (by assumption) | exact (xup_ne (Ne.symm (by assumption))).trans (by assumption) | exact (xup_ne (by assumption)).trans xup_self | exact (xup_ne (Ne.symm (by assumption))).trans xup_self) rfl ?_
  refine xr_istore_n C d_AL_clear_19 20 rfl rfl rfl ?_
  refine xr_aload_n C d_AL_clear_20 21 rfl rfl ?_
  refine xr_iconst (v := 0) C d_AL_clear_21 22 rfl (by decide) ?_
  refine xr_dup_x1 C d_AL_clear_22 23 rfl rfl rfl ?_
  refine xr_put C K_AL 2 d_AL_clear_23 26 rfl q_58 (Or.inl rfl) rfl rfl rfl rfl (by first | assumption | exact xup_self | exact (xup_ne (by assumption)).trans (by assumption) | exact (xup_ne (Ne.symm (by assumption))).trans (by assumption) | exact (xup_ne (by assumption)).trans xup_self | exact (xup_ne (Ne.symm (by assumption))).trans xup_self) rfl rfl ?_
  refine xr_istore_n C d_AL_clear_26 27 rfl rfl rfl ?_
  obtain ⟨X1, hX1⟩ : ∃ z, z = xup X a (.inr (7, [.int (mo + 1), .ref b, .int (nI 0)])) := ⟨_, rfl⟩
  refine xG.eqX (show _ = X1 by rw [hX1, xup_up]; rfl) ?_
  have ha1 : X1 a = some (.inr (7, [.int (mo + 1), .ref b, .int (nI 0)])) := by rw [hX1]; exact xup_self
  have hb1 : X1 b = some (.inl (E.D.1 101, cap, .inr (.inr (.inr (.inr f))))) := by rw [hX1]; exact (xup_ne (Ne.symm hab)).trans hb
  have hfr1 : xFr [a, b] X X1 := by rw [hX1]; exact xFr_up ha (fun z => z) (by simp)
  have loop : ∀ (k i : Nat) (Y : xH) (g : Nat → Option Nat), i + k = as.length → Y a = some (.inr (7, [.int (mo + 1), .ref b, .int (nI 0)])) → Y b = some (.inl (E.D.1 101, cap, .inr (.inr (.inr (.inr g))))) → xFr [a, b] X Y → xG E Y 0 0 27 [some (.ref a), some (.ref b), some (.int (nI as.length)), some (.int (nI i))] [] := by
    intro k
    induction k with
    | zero =>
      intro i Y g hi h1 h2 h3
      refine xr_iload_n C d_AL_clear_27 28 rfl rfl ?_
      refine xr_iload_n C d_AL_clear_28 29 rfl rfl ?_
      refine xr_icmp_ge C d_AL_clear_29 32 42 rfl (by decide) (fun _ => ?_) (fun h => absurd (nI_le (show as.length ≤ i by omega) (by omega)) h)
      exact xr_vret C d_AL_clear_42 (by omega) (by omega) ⟨rfl, ⟨mo + 1, g, h1, h2, Nat.zero_le _, hc, hz, fun i hi => absurd hi (Nat.not_lt_zero _)⟩, h3⟩
    | succ k ih =>
      intro i Y g hi h1 h2 h3
      refine xr_iload_n C d_AL_clear_27 28 rfl rfl ?_
      refine xr_iload_n C d_AL_clear_28 29 rfl rfl ?_
      refine xr_icmp_ge C d_AL_clear_29 32 42 rfl (by decide) (fun h => absurd h (nI_ge (show i < as.length by omega) (by omega))) (fun _ => ?_)
      refine xr_aload_n C d_AL_clear_32 33 rfl rfl ?_
      refine xr_iload_n C d_AL_clear_33 34 rfl rfl ?_
      refine xr_null C d_AL_clear_34 35 rfl ?_
      refine xr_aastN C d_AL_clear_35 36 rfl h2 rfl (by omega) (by omega) ?_
      refine xr_iinc (v := 1) C d_AL_clear_36 39 rfl rfl rfl rfl (by decide) ?_
      refine xr_goto C d_AL_clear_39 27 (by decide) ?_
      refine xG.eqL (show _ = [some (Value.ref a), some (Value.ref b), some (Value.int (nI as.length)), some (Value.int (nI (i + 1)))] by rw [← nI_one]; rfl) ?_
      exact ih (i + 1) _ _ (by omega) ((xup_ne hab).trans h1) xup_self (h3.trans (xFr_up h2 (fun z => absurd z (show cap ≠ 0 by omega)) (by simp)))
  exact loop as.length 0 X1 f (by omega) ha1 hb1 hfr1
/-- bytes -/
def xby (n : Nat) (f : Nat → Int32) : Prop := ∀ i, i < n → fits .byte (.int (f i)) = true
set_option maxRecDepth 100000 in
set_option maxHeartbeats 4000000 in
theorem c_AR_copyB {l : Launch} {D : va_G} {H0 : Heap} {X : xH} {a n N : Nat} {f : Nat → Int32} (ha : X a = some (.inl (D.1 100, n, .inl f))) (hn : n < 1000000) (hN : N < 1000000) (hne : N ≠ n) (h0 : 0 < N) (hb : xby n f) : xMet l D H0 y_AR_copyB b_AR_copyB 3 (some (.array .byte)) [] 0 1 N [.ref a, .int (nI N)] X (fun o X' => ∃ q : Nat, o = .inl (some (.ref q)) ∧ X q = none ∧ X' = xup X q (.inl (D.1 100, N, .inl (va_cpy f (fun _ => 0) 0 0 (if n < N then n else N))))) := by
  refine ⟨[some (.ref a), some (.int (nI N)), none], rfl, Nat.le_of_ble_eq_true rfl, fun E hD hH hl _ C => ?_⟩
  subst hD
  subst hH
  subst hl
  refine xr_iload_n C d_AR_copyB_0 1 rfl rfl ?_
  refine xr_aload_n C d_AR_copyB_1 2 rfl rfl ?_
  refine xr_alen (t0 := 0) C rfl d_AR_copyB_2 3 rfl ha ?_
  refine xr_icmp_ne C d_AR_copyB_3 6 14 rfl (by decide) (fun _ => ?_) (fun h => absurd ((nI_eq (by omega) (by omega)).mp h) hne)
  refine xr_iload_n C d_AR_copyB_14 15 rfl rfl ?_
  refine xr_newb C d_AR_copyB_15 17 rfl q_116 rfl (by omega) (by omega) (by omega) (fun q hq => ?_)
  refine xr_astore_n C d_AR_copyB_17 18 rfl rfl rfl ?_
  refine xr_aload_n C d_AR_copyB_18 19 rfl rfl ?_
  refine xr_iconst (v := 0) C d_AR_copyB_19 20 rfl (by decide) ?_
  refine xr_aload_n C d_AR_copyB_20 21 rfl rfl ?_
  refine xr_iconst (v := 0) C d_AR_copyB_21 22 rfl (by decide) ?_
  refine xr_aload_n C d_AR_copyB_22 23 rfl rfl ?_
  have ha' : xup X q (.inl (E.D.1 100, N, .inl (fun _ => 0))) a = some (.inl (E.D.1 100, n, .inl f)) := xup_fresh ha hq
  refine xr_alen (t0 := 0) C rfl d_AR_copyB_23 24 rfl ha' ?_
  refine xr_iload_n C d_AR_copyB_24 25 rfl rfl ?_
  refine xr_min C d_AR_copyB_25 28 rfl q_386 w_min (Nat.le_of_ble_eq_true rfl) (by omega) (by omega) ?_
  obtain ⟨z, hz⟩ : ∃ z, z = if n < N then n else N := ⟨_, rfl⟩
  have hz1 : z ≤ n ∧ z ≤ N := by rw [hz]; split <;> omega
  refine xr_toi (show _ = nI z from by
    rw [hz]
    by_cases h : n < N
    · rw [if_pos h, if_neg (nI_nlt (by omega) (by omega))]
    · rw [if_neg h, if_pos (nI_lt (by show N < n; omega) (by show n < _; omega))]) ?_
  rw [← hz] at C
  refine xr_copyb (sp := 0) (dp := 0) C d_AR_copyB_28 31 rfl q_389 w_copy ha' xup_self (by omega) (by omega) (by omega) (by omega) (by omega) (Nat.le_of_ble_eq_true rfl) (fun i hi => hb _ (by omega)) ?_
  refine xG.eqX xup_up ?_
  refine xr_aload_n C d_AR_copyB_31 32 rfl rfl ?_
  exact xr_aret C d_AR_copyB_32 (Or.inr ⟨_, rfl⟩) (by omega) (by omega) ⟨q, rfl, hq, rfl⟩
set_option maxRecDepth 100000 in
set_option maxHeartbeats 4000000 in
theorem c_AR_checkLength {l : Launch} {D : va_G} {H0 : Heap} {X : xH} {i j : Nat} (hij : i ≤ j) (hj : j < 2 ^ 31) : xMet l D H0 y_AR_checkLength b_AR_checkLength 2 none [] 0 0 0 [.int (nI i), .int (nI j)] X (fun o X' => o = .inl none ∧ X' = X) := by
  refine ⟨[some (.int (nI i)), some (.int (nI j))], rfl, Nat.le_of_ble_eq_true rfl, fun E hD hH hl _ C => ?_⟩
  subst hD
  subst hH
  subst hl
  refine xr_iload_n C d_AR_checkLength_0 1 rfl rfl ?_
  refine xr_iload_n C d_AR_checkLength_1 2 rfl rfl ?_
  refine xr_icmp_ge C d_AR_checkLength_2 5 37 rfl (by decide) (fun _ => ?_) (fun h => absurd (nI_le hij hj) h)
  exact xr_vret C d_AR_checkLength_37 (by omega) (by omega) ⟨rfl, rfl⟩
set_option maxRecDepth 100000 in
set_option maxHeartbeats 4000000 in
theorem c_AR_copyOfRangeByte {l : Launch} {D : va_G} {H0 : Heap} {X : xH} {a n i j : Nat} {f : Nat → Int32} (ha : X a = some (.inl (D.1 100, n, .inl f))) (hn : n < 1000000) (hij : i ≤ j) (hjn : j ≤ n) (hb : xby n f) : xMet l D H0 y_AR_copyOfRangeByte b_AR_copyOfRangeByte 5 (some (.array .byte)) [] 1 1 (j - i) [.ref a, .int (nI i), .int (nI j)] X (fun o X' => ∃ (q : Nat) (g : Nat → Int32), o = .inl (some (.ref q)) ∧ X q = none ∧ X' = xup X q (.inl (D.1 100, j - i, .inl g)) ∧ ∀ k, k < j - i → g k = f (i + k)) := by
  refine ⟨[some (.ref a), some (.int (nI i)), some (.int (nI j)), none, none], rfl, Nat.le_of_ble_eq_true rfl, fun E hD hH hl _ C => ?_⟩
  subst hD
  subst hH
  subst hl
  refine xr_iload_n C d_AR_copyOfRangeByte_0 1 rfl rfl ?_
  refine xr_iload_n C d_AR_copyOfRangeByte_1 2 rfl rfl ?_
  refine xr_callS C (c_AR_checkLength hij (by omega)) k_AR_checkLength d_AR_copyOfRangeByte_2 5 rfl (Or.inl q_471) s_AR_checkLength in_AR_checkLength h_AR_checkLength rfl ⟨Nat.le_of_ble_eq_true rfl, Nat.le_of_ble_eq_true rfl, Nat.le_of_ble_eq_true rfl⟩ (by omega) (by omega) (fun v9 X hP => ?_) (fun _ _ h => absurd h.1 (by simp))
  obtain ⟨h1, rfl⟩ := hP
  cases h1
  refine xr_iload_n C d_AR_copyOfRangeByte_5 6 rfl rfl ?_
  refine xr_iload_n C d_AR_copyOfRangeByte_6 7 rfl rfl ?_
  refine xr_isub C d_AR_copyOfRangeByte_7 8 rfl ?_
  refine xr_toi (pk_sub hij) ?_
  refine xr_istore_n C d_AR_copyOfRangeByte_8 9 rfl rfl rfl ?_
  refine xr_iload_n C d_AR_copyOfRangeByte_9 10 rfl rfl ?_
  refine xr_newb C d_AR_copyOfRangeByte_10 12 rfl q_116 rfl (by omega) (by omega) (by omega) (fun q hq => ?_)
  refine xr_astore C d_AR_copyOfRangeByte_12 14 rfl rfl rfl ?_
  refine xr_aload_n C d_AR_copyOfRangeByte_14 15 rfl rfl ?_
  refine xr_iload_n C d_AR_copyOfRangeByte_15 16 rfl rfl ?_
  refine xr_aload C d_AR_copyOfRangeByte_16 18 rfl rfl ?_
  refine xr_iconst (v := 0) C d_AR_copyOfRangeByte_18 19 rfl (by decide) ?_
  refine xr_aload_n C d_AR_copyOfRangeByte_19 20 rfl rfl ?_
  have ha' : xup X q (.inl (E.D.1 100, j - i, .inl (fun _ => 0))) a = some (.inl (E.D.1 100, n, .inl f)) := xup_fresh ha hq
  refine xr_alen (t0 := 0) C rfl d_AR_copyOfRangeByte_20 21 rfl ha' ?_
  refine xr_iload_n C d_AR_copyOfRangeByte_21 22 rfl rfl ?_
  refine xr_isub C d_AR_copyOfRangeByte_22 23 rfl ?_
  refine xr_toi (pk_sub (by show i ≤ n; omega)) ?_
  refine xr_iload_n C d_AR_copyOfRangeByte_23 24 rfl rfl ?_
  refine xr_min C d_AR_copyOfRangeByte_24 27 rfl q_386 w_min (Nat.le_of_ble_eq_true rfl) (by omega) (by omega) ?_
  refine xr_toi (show _ = nI (j - i) from by
    by_cases h : n - i = j - i
    · show (if nI (j - i) < nI (n - i) then nI (j - i) else nI (n - i)) = _
      rw [h]
      split <;> rfl
    · exact if_pos (nI_lt (by show j - i < n - i; omega) (by show n - i < _; omega))) ?_
  by_cases hz : j - i = 0
  · refine xcopy0 (sp := i) (dp := 0) C d_AR_copyOfRangeByte_27 30 rfl q_389 w_copy ha' xup_self (by omega) hz ⟨by omega, rfl⟩ (Nat.le_of_ble_eq_true rfl) ?_
    refine xr_aload C d_AR_copyOfRangeByte_30 32 rfl rfl ?_
    exact xr_aret C d_AR_copyOfRangeByte_32 (Or.inr ⟨_, rfl⟩) (by omega) (by omega) ⟨q, _, rfl, hq, rfl, fun k hk => absurd hk (by omega)⟩
  · refine xr_copyb (sp := i) (dp := 0) C d_AR_copyOfRangeByte_27 30 rfl q_389 w_copy ha' xup_self (by omega) (by omega) (by omega) (by omega) hz (Nat.le_of_ble_eq_true rfl) (fun k hk => hb _ (by omega)) ?_
    refine xG.eqX xup_up ?_
    refine xr_aload C d_AR_copyOfRangeByte_30 32 rfl rfl ?_
    exact xr_aret C d_AR_copyOfRangeByte_32 (Or.inr ⟨_, rfl⟩) (by omega) (by omega) ⟨q, _, rfl, hq, rfl, fun k hk => pk_cpy_in (by omega) (by omega)⟩
set_option maxRecDepth 100000 in
set_option maxHeartbeats 4000000 in
theorem c_AR_copyOfRange {l : Launch} {D : va_G} {H0 : Heap} {X : xH} {a n i j : Nat} {f : Nat → Int32} (ha : X a = some (.inl (D.1 100, n, .inl f))) (hn : n < 1000000) (hij : i ≤ j) (hjn : j ≤ n) (hne : i = 0 → j ≠ n) (hb : xby n f) : xMet l D H0 y_AR_copyOfRange b_AR_copyOfRange 3 (some (.array .byte)) [] 2 1 (j - i) [.ref a, .int (nI i), .int (nI j)] X (fun o X' => ∃ (q : Nat) (g : Nat → Int32), o = .inl (some (.ref q)) ∧ X q = none ∧ X' = xup X q (.inl (D.1 100, j - i, .inl g)) ∧ ∀ k, k < j - i → g k = f (i + k)) := by
  refine ⟨[some (.ref a), some (.int (nI i)), some (.int (nI j))], rfl, Nat.le_of_ble_eq_true rfl, fun E hD hH hl _ C => ?_⟩
  subst hD
  subst hH
  subst hl
  have tail : xG E X 0 0 10 [some (.ref a), some (.int (nI i)), some (.int (nI j))] [] := by
    refine xr_aload_n C d_AR_copyOfRange_10 11 rfl rfl ?_
    refine xr_iload_n C d_AR_copyOfRange_11 12 rfl rfl ?_
    refine xr_iload_n C d_AR_copyOfRange_12 13 rfl rfl ?_
    refine xr_callS C (c_AR_copyOfRangeByte ha hn hij hjn hb) k_AR_copyOfRangeByte d_AR_copyOfRange_13 16 rfl (Or.inl q_468) s_AR_copyOfRangeByte in_AR_copyOfRangeByte h_AR_copyOfRangeByte rfl ⟨Nat.le_of_ble_eq_true rfl, Nat.le_of_ble_eq_true rfl, Nat.le_of_ble_eq_true rfl⟩ (by omega) (by omega) (fun v9 X' hP => ?_) (fun _ _ h => by obtain ⟨q, g, h, -⟩ := h; cases h)
    obtain ⟨q, g, h1, h2, rfl, h3⟩ := hP
    cases h1
    exact xr_aret C d_AR_copyOfRange_16 (Or.inr ⟨_, rfl⟩) (by omega) (by omega) ⟨q, g, rfl, h2, rfl, h3⟩
  refine xr_iload_n C d_AR_copyOfRange_0 1 rfl rfl ?_
  refine xr_if_ne C d_AR_copyOfRange_1 4 10 rfl (by decide) (fun _ => tail) (fun h1 => ?_)
  have hi0 : i = 0 := (nI_eq (by omega) (by omega)).mp (show nI i = nI 0 from h1)
  refine xr_iload_n C d_AR_copyOfRange_4 5 rfl rfl ?_
  refine xr_aload_n C d_AR_copyOfRange_5 6 rfl rfl ?_
  refine xr_alen (t0 := 0) C rfl d_AR_copyOfRange_6 7 rfl ha ?_
  refine xr_icmp_eq C d_AR_copyOfRange_7 10 17 rfl (by decide) (fun h7 => absurd ((nI_eq (by omega) (by omega)).mp h7) (hne hi0)) (fun _ => tail)
