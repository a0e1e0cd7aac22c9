/-! JDK: ArrayList grows. -/
set_option maxRecDepth 100000 in
set_option maxHeartbeats 4000000 in
theorem c_AS_newLength {l : Launch} {D : va_G} {H0 : Heap} {X : xH} {o0 m0 p0 : Nat} (ho : o0 < 1000000) (hm : m0 < 1000000) (hp : p0 < 1000000) (h0 : 0 < m0) : xMet l D H0 y_AS_newLength b_AS_newLength 4 (some .int) [] 0 0 0 [.int (nI o0), .int (nI m0), .int (nI p0)] X (fun o X' => o = .inl (some (.int (nI (o0 + (if m0 < p0 then p0 else m0))))) ∧ X' = X) := by
  refine ⟨[some (.int (nI o0)), some (.int (nI m0)), some (.int (nI p0)), none], rfl, Nat.le_of_ble_eq_true rfl, fun E hD hH hl _ C => ?_⟩
  subst hD
  subst hH
  subst hl
  have hmx : (if nI m0 < nI p0 then nI p0 else nI m0) = nI (if m0 < p0 then p0 else m0) := by
    by_cases h : m0 < p0
    · rw [if_pos h, if_pos ((nI_ltI (by omega) (by omega)).mpr h)]
    · rw [if_neg h, if_neg (fun q => h ((nI_ltI (by omega) (by omega)).mp q))]
  have hmb : (if m0 < p0 then p0 else m0) < 1000000 ∧ 0 < (if m0 < p0 then p0 else m0) := by
    split <;> omega
  generalize (if m0 < p0 then p0 else m0) = z at hmx hmb C ⊢
  refine xr_iload_n C d_AS_newLength_0 1 rfl rfl ?_
  refine xr_iload_n C d_AS_newLength_1 2 rfl rfl ?_
  refine xr_iload_n C d_AS_newLength_2 3 rfl rfl ?_
  refine xr_max C d_AS_newLength_3 6 rfl q_353 w_max (Nat.le_of_ble_eq_true rfl) (by omega) (by omega) ?_
  refine xr_toi hmx ?_
  refine xr_iadd C d_AS_newLength_6 7 rfl ?_
  refine xr_toi (nI_add _ _) ?_
  refine xr_istore_n C d_AS_newLength_7 8 rfl rfl rfl ?_
  refine xr_iconst (v := 0) C d_AS_newLength_8 9 rfl (by decide) ?_
  refine xr_iload_n C d_AS_newLength_9 10 rfl rfl ?_
  refine xr_icmp_ge C d_AS_newLength_10 13 21 rfl (by decide) (fun h10 => absurd h10 (nI_nle (by omega) (by omega))) (fun h10 => ?_)
  refine xr_iload_n C d_AS_newLength_13 14 rfl rfl ?_
  refine xr_ldc (v := 2147483639) C d_AS_newLength_14 16 rfl q_356 ?_
  refine xr_icmp_gt C d_AS_newLength_16 19 21 rfl (by decide) (fun h16 => absurd h16 ?_) (fun h16 => ?_)
  · intro h
    have h2 : (2147483639 : Int32).toInt < (nI (o0 + z)).toInt := Int32.lt_iff_toInt_lt.mp h
    rw [nI_toInt (by omega)] at h2
    have h3 : (2147483639 : Int32).toInt = 2147483639 := by decide
    omega
  refine xr_iload_n C d_AS_newLength_19 20 rfl rfl ?_
  exact xr_iret C d_AS_newLength_20 (by omega) (by omega) ⟨rfl, rfl⟩
set_option maxRecDepth 100000 in
set_option maxHeartbeats 4000000 in
theorem c_AR_copyO3 {l : Launch} {D : va_G} {H0 : Heap} {X : xH} {a n N : Nat} {f : Nat → Option Nat} (ha : X a = some (.inl (D.1 101, n, .inr (.inr (.inr (.inr f)))))) (hn : n < 1000000) (hN : N < 1000000) (hle : n ≤ N) (h0 : 0 < N) (hel : ∀ i, i < n → ∀ q, f i = some q → xOb X q) : xMet l D H0 y_AR_copyO3 b_AR_copyO3 4 (some (.array (.object "java/lang/Object"))) [] 0 1 N [.ref a, .int (nI N), .ref (D.2 200 2)] X (fun o X' => ∃ q : Nat, o = .inl (some (.ref q)) ∧ X q = none ∧ X' = xup X q (.inl (D.1 101, N, .inr (.inr (.inr (.inr (va_cpy f (fun _ => none) 0 0 n))))))) := by
  refine ⟨[some (.ref a), some (.int (nI N)), some (.ref (D.2 200 2)), none], rfl, Nat.le_of_ble_eq_true rfl, fun E hD hH hl _ C => ?_⟩
  subst hD
  subst hH
  subst hl
  refine xr_aload_n C d_AR_copyO3_0 1 rfl rfl ?_
  refine xr_ldcM C d_AR_copyO3_1 3 rfl q_383 ?_
  refine xr_acmp_ne C d_AR_copyO3_3 6 13 rfl (by decide) (fun h => absurd rfl h) (fun _ => ?_)
  refine xr_iload_n C d_AR_copyO3_6 7 rfl rfl ?_
  refine xr_newq C d_AR_copyO3_7 10 rfl q_385 rfl (by omega) (by omega) (by omega) (fun q hq => ?_)
  refine xr_goto C d_AR_copyO3_10 24 (by decide) ?_
  refine xr_astore_n C d_AR_copyO3_24 25 rfl rfl rfl ?_
  refine xr_aload_n C d_AR_copyO3_25 26 rfl rfl ?_
  refine xr_iconst (v := 0) C d_AR_copyO3_26 27 rfl (by decide) ?_
  refine xr_aload_n C d_AR_copyO3_27 28 rfl rfl ?_
  refine xr_iconst (v := 0) C d_AR_copyO3_28 29 rfl (by decide) ?_
  refine xr_aload_n C d_AR_copyO3_29 30 rfl rfl ?_
  have ha' : xup X q (.inl (E.D.1 101, N, .inr (.inr (.inr (.inr (fun _ => none)))))) a = some (.inl (E.D.1 101, n, .inr (.inr (.inr (.inr f))))) := xup_fresh ha hq
  refine xr_alen (t0 := 1) C rfl d_AR_copyO3_30 31 rfl ha' ?_
  refine xr_iload_n C d_AR_copyO3_31 32 rfl rfl ?_
  refine xr_min C d_AR_copyO3_32 35 rfl q_386 w_min (Nat.le_of_ble_eq_true rfl) (by omega) (by omega) ?_
  refine xr_toi (show _ = nI n from by
    by_cases h : n = N
    · subst h
      split <;> rfl
    · exact if_neg (nI_nlt (by omega) (by omega))) ?_
  refine xr_copyq (sp := 0) (dp := 0) C d_AR_copyO3_35 38 rfl q_389 w_copy ha' xup_self (by omega) (by omega) (by omega) (by omega) (by omega) (Nat.le_of_ble_eq_true rfl) (fun i hi q2 hq2 => ?_) ?_
  · obtain ⟨ci, vs, r, o1, o2⟩ := hel i hi q2 (by rw [← hq2]; congr 1; omega)
    exact ⟨ci, vs, r, xup_fresh o1 hq, o2⟩
  refine xG.eqX xup_up ?_
  refine xr_aload_n C d_AR_copyO3_38 39 rfl rfl ?_
  exact xr_aret C d_AR_copyO3_39 (Or.inr ⟨_, rfl⟩) (by omega) (by omega) ⟨q, rfl, hq, rfl⟩
set_option maxRecDepth 100000 in
set_option maxHeartbeats 4000000 in
theorem c_AR_copyO2 {l : Launch} {D : va_G} {H0 : Heap} {X : xH} {a n N : Nat} {f : Nat → Option Nat} (ha : X a = some (.inl (D.1 101, n, .inr (.inr (.inr (.inr f)))))) (hn : n < 1000000) (hN : N < 1000000) (hle : n ≤ N) (h0 : 0 < N) (hel : ∀ i, i < n → ∀ q, f i = some q → xOb X q) : xMet l D H0 y_AR_copyO2 b_AR_copyO2 2 (some (.array (.object "java/lang/Object"))) [] 1 1 N [.ref a, .int (nI N)] X (fun o X' => ∃ q : Nat, o = .inl (some (.ref q)) ∧ X q = none ∧ X' = xup X q (.inl (D.1 101, N, .inr (.inr (.inr (.inr (va_cpy f (fun _ => none) 0 0 n))))))) := by
  refine ⟨[some (.ref a), some (.int (nI N))], rfl, Nat.le_of_ble_eq_true rfl, fun E hD hH hl _ C => ?_⟩
  subst hD
  subst hH
  subst hl
  refine xr_aload_n C d_AR_copyO2_0 1 rfl rfl ?_
  refine xr_iload_n C d_AR_copyO2_1 2 rfl rfl ?_
  refine xr_aload_n C d_AR_copyO2_2 3 rfl rfl ?_
  refine xr_getC C d_AR_copyO2_3 6 rfl ha q_363 w_getC (Nat.le_of_ble_eq_true rfl) ?_
  refine xr_callS C (c_AR_copyO3 ha hn hN hle h0 hel) k_AR_copyO3 d_AR_copyO2_6 9 rfl (Or.inl q_380) s_AR_copyO3 in_AR_copyO3 h_AR_copyO3 rfl ⟨Nat.le_of_ble_eq_true rfl, Nat.le_of_ble_eq_true rfl, Nat.le_of_ble_eq_true rfl⟩ (by omega) (by omega) (fun v X' hP => ?_) (fun _ _ h => by obtain ⟨q, h, -⟩ := h; cases h)
  obtain ⟨q, h1, h2, rfl⟩ := hP
  cases h1
  exact xr_aret C d_AR_copyO2_9 (Or.inr ⟨_, rfl⟩) (by omega) (by omega) ⟨q, rfl, h2, rfl⟩
set_option maxRecDepth 100000 in
set_option maxHeartbeats 4000000 in
theorem c_AL_grow1 {l : Launch} {D : va_G} {H0 : Heap} {X : xH} {a b cap : Nat} {mo : Int32} {f : Nat → Option Nat} (ha : X a = some (.inr (7, [.int mo, .ref b, .int (nI cap)]))) (hb : X b = some (.inl (D.1 101, cap, .inr (.inr (.inr (.inr f)))))) (hc : cap ≤ 128) (hz : cap = 0 → b = D.2 200 1) (hel : ∀ i, i < cap → ∀ q, f i = some q → xOb X q) : xMet l D H0 y_AL_grow1 b_AL_grow1 4 (some (.array (.object "java/lang/Object"))) [] 2 1 200 [.ref a, .int (nI (cap + 1))] X (fun o X' => ∃ (q N : Nat) (f' : Nat → Option Nat), o = .inl (some (.ref q)) ∧ X q = none ∧ cap < N ∧ N ≤ 200 ∧ X' = xup (xup X q (.inl (D.1 101, N, .inr (.inr (.inr (.inr f')))))) a (.inr (7, [.int mo, .ref q, .int (nI cap)])) ∧ (∀ i, i < cap → f' i = f i) ∧ N = nx cap) := by
  refine ⟨[some (.ref a), some (.int (nI (cap + 1))), none, none], rfl, Nat.le_of_ble_eq_true rfl, fun E hD hH hl _ C => ?_⟩
  subst hD
  subst hH
  subst hl
  refine xr_aload_n C d_AL_grow1_0 1 rfl rfl ?_
  refine xr_get C K_AL 1 d_AL_grow1_1 4 rfl q_57 (Or.inl rfl) rfl (by first | assumption | exact xup_self | exact (xup_ne (by assumption)).trans (by assumption) | exact (xup_ne (Ne.symm (by assumption))).trans (by assumption) | exact (xup_ne (by assumption)).trans xup_self | exact (xup_ne (Ne.symm (by assumption))).trans xup_self) rfl ?_
  refine xr_alen (t0 := 1) C rfl d_AL_grow1_4 5 rfl hb ?_
  refine xr_istore_n C d_AL_grow1_5 6 rfl rfl rfl ?_
  refine xr_iload_n C d_AL_grow1_6 7 rfl rfl ?_
  refine xr_if_gt C d_AL_grow1_7 10 20 rfl (by decide) (fun h7 => ?_) (fun h7 => ?_)
  · have hc0 : 0 < cap := by
      rcases Nat.eq_zero_or_pos cap with h | h
      · subst h
        exact absurd h7 (show ¬ (0 : Int32) < nI 0 by decide)
      · exact h
    refine xr_iload_n C d_AL_grow1_20 21 rfl rfl ?_
    refine xr_iload_n C d_AL_grow1_21 22 rfl rfl ?_
    refine xr_iload_n C d_AL_grow1_22 23 rfl rfl ?_
    refine xr_isub C d_AL_grow1_23 24 rfl ?_
    refine xr_toi (show _ = nI 1 from (pk_sub (by omega)).trans (by congr 1; omega)) ?_
    refine xr_iload_n C d_AL_grow1_24 25 rfl rfl ?_
    refine xr_iconst (v := 1) C d_AL_grow1_25 26 rfl (by decide) ?_
    refine xr_ishr C d_AL_grow1_26 27 rfl ?_
    refine xr_toi (show _ = nI (cap / 2) from pk_shrN (by omega) _ 1 (by decide)) ?_
    refine xr_callS C (c_AS_newLength (by omega) (by omega) (by omega) (by omega)) k_AS_newLength d_AL_grow1_27 30 rfl (Or.inl q_350) s_AS_newLength in_AS_newLength h_AS_newLength rfl ⟨Nat.le_of_ble_eq_true rfl, Nat.le_of_ble_eq_true rfl, Nat.le_of_ble_eq_true rfl⟩ (by omega) (by omega) (fun v X' hP => ?_) (fun _ _ h => absurd h.1 (by simp))
    obtain ⟨h1, rfl⟩ := hP
    cases h1
    obtain ⟨z, hz1⟩ : ∃ z, z = cap + (if 1 < cap / 2 then cap / 2 else 1) := ⟨_, rfl⟩
    have hz2 : cap < z ∧ z ≤ 192 := by
      rw [hz1]
      split <;> omega
    refine xr_toi (show _ = nI z by rw [hz1]) ?_
    refine xr_istore_n C d_AL_grow1_30 31 rfl rfl rfl ?_
    refine xr_aload_n C d_AL_grow1_31 32 rfl rfl ?_
    refine xr_aload_n C d_AL_grow1_32 33 rfl rfl ?_
    refine xr_get C K_AL 1 d_AL_grow1_33 36 rfl q_57 (Or.inl rfl) rfl (by first | assumption | exact xup_self | exact (xup_ne (by assumption)).trans (by assumption) | exact (xup_ne (Ne.symm (by assumption))).trans (by assumption) | exact (xup_ne (by assumption)).trans xup_self | exact (xup_ne (Ne.symm (by assumption))).trans xup_self) rfl ?_
    refine xr_iload_n C d_AL_grow1_36 37 rfl rfl ?_
    refine xG.wide (c2 := 0) (s2 := 200 - z) (by omega) (by omega) ?_
    refine xr_callS C (c_AR_copyO2 hb (by omega) (by omega) (by omega) (by omega) hel) k_AR_copyO2 d_AL_grow1_37 40 rfl (Or.inl q_360) s_AR_copyO2 in_AR_copyO2 h_AR_copyO2 rfl ⟨Nat.le_of_ble_eq_true rfl, Nat.le_of_ble_eq_true rfl, Nat.le_of_ble_eq_true rfl⟩ (by omega) (by omega) (fun v X' hP => ?_) (fun _ _ h => by obtain ⟨q, h, -⟩ := h; cases h)
    obtain ⟨q, h1, h2, rfl⟩ := hP
    cases h1
    refine xr_dup_x1 C d_AL_grow1_40 41 rfl rfl rfl ?_
    refine xr_put C K_AL 1 d_AL_grow1_41 44 rfl q_57 (Or.inl rfl) rfl rfl rfl rfl (xup_fresh ha h2) rfl rfl ?_
    refine xr_aret C d_AL_grow1_44 (Or.inr ⟨_, rfl⟩) (by omega) (by omega) ⟨q, z, _, rfl, h2, hz2.1, by omega, rfl, fun i hi => ?_, by rw [hz1]; exact (if_neg (show ¬ cap = 0 by omega)).symm⟩
    rw [pk_cpy_in (by omega) (by omega)]
    congr 1
    omega
  · have hc0 : cap = 0 := by
      rcases Nat.eq_zero_or_pos cap with h | h
      · exact h
      · exact absurd (nI_lt h (by omega)) h7
    subst hc0
    have hbe := hz rfl
    subst hbe
    refine xr_aload_n C d_AL_grow1_10 11 rfl rfl ?_
    refine xr_get C K_AL 1 d_AL_grow1_11 14 rfl q_57 (Or.inl rfl) rfl (by first | assumption | exact xup_self | exact (xup_ne (by assumption)).trans (by assumption) | exact (xup_ne (Ne.symm (by assumption))).trans (by assumption) | exact (xup_ne (by assumption)).trans xup_self | exact (xup_ne (Ne.symm (by assumption))).trans xup_self) rfl ?_
    refine xr_gets C C.kk.2.2.2.1 d_AL_grow1_14 17 rfl (Or.inl q_55) ?_
    refine xr_acmp_eq C d_AL_grow1_17 20 45 rfl (by decide) (fun _ => ?_) (fun h => absurd rfl h)
    refine xr_aload_n C d_AL_grow1_45 46 rfl rfl ?_
    refine xr_bipush (v := 10) C d_AL_grow1_46 48 rfl (by decide) ?_
    refine xr_iload_n C d_AL_grow1_48 49 rfl rfl ?_
    refine xr_max C d_AL_grow1_49 52 rfl q_390 w_max (Nat.le_of_ble_eq_true rfl) (by omega) (by omega) ?_
    refine xr_toi (show _ = nI 10 by decide) ?_
    refine xr_newq C d_AL_grow1_52 55 rfl q_391 rfl (by omega) (by omega) (by omega) (fun q hq => ?_)
    refine xr_dup_x1 C d_AL_grow1_55 56 rfl rfl rfl ?_
    refine xr_put C K_AL 1 d_AL_grow1_56 59 rfl q_57 (Or.inl rfl) rfl rfl rfl rfl (xup_fresh ha hq) rfl rfl ?_
    exact xr_aret C d_AL_grow1_59 (Or.inr ⟨_, rfl⟩) (by omega) (by omega) ⟨q, 10, _, rfl, hq, by omega, by omega, rfl, fun i hi => absurd hi (by omega), rfl⟩
set_option maxRecDepth 100000 in
set_option maxHeartbeats 4000000 in
theorem c_AL_grow0 {l : Launch} {D : va_G} {H0 : Heap} {X : xH} {a b cap : Nat} {mo : Int32} {f : Nat → Option Nat} (ha : X a = some (.inr (7, [.int mo, .ref b, .int (nI cap)]))) (hb : X b = some (.inl (D.1 101, cap, .inr (.inr (.inr (.inr f)))))) (hc : cap ≤ 128) (hz : cap = 0 → b = D.2 200 1) (hel : ∀ i, i < cap → ∀ q, f i = some q → xOb X q) : xMet l D H0 y_AL_grow0 b_AL_grow0 1 (some (.array (.object "java/lang/Object"))) [] 3 1 200 [.ref a] X (fun o X' => ∃ (q N : Nat) (f' : Nat → Option Nat), o = .inl (some (.ref q)) ∧ X q = none ∧ cap < N ∧ N ≤ 200 ∧ X' = xup (xup X q (.inl (D.1 101, N, .inr (.inr (.inr (.inr f')))))) a (.inr (7, [.int mo, .ref q, .int (nI cap)])) ∧ (∀ i, i < cap → f' i = f i) ∧ N = nx cap) := by
  refine ⟨[some (.ref a)], rfl, Nat.le_of_ble_eq_true rfl, fun E hD hH hl _ C => ?_⟩
  subst hD
  subst hH
  subst hl
  refine xr_aload_n C d_AL_grow0_0 1 rfl rfl ?_
  refine xr_aload_n C d_AL_grow0_1 2 rfl rfl ?_
  refine xr_get C K_AL 2 d_AL_grow0_2 5 rfl q_58 (Or.inl rfl) rfl (by first | assumption | exact xup_self | exact (xup_ne (by assumption)).trans (by assumption) | exact (xup_ne (Ne.symm (by assumption))).trans (by assumption) | exact (xup_ne (by assumption)).trans xup_self | exact (xup_ne (Ne.symm (by assumption))).trans xup_self) rfl ?_
  refine xr_iconst (v := 1) C d_AL_grow0_5 6 rfl (by decide) ?_
  refine xr_iadd C d_AL_grow0_6 7 rfl ?_
  refine xr_toi (nI_one _) ?_
  refine xr_callV C (c_AL_grow1 ha hb hc hz hel) k_AL_grow1 d_AL_grow0_7 10 rfl (by first | assumption | exact xup_self | exact (xup_ne (by assumption)).trans (by assumption) | exact (xup_ne (Ne.symm (by assumption))).trans (by assumption) | exact (xup_ne (by assumption)).trans xup_self | exact (xup_ne (Ne.symm (by assumption))).trans xup_self) rfl (Or.inl q_346) v_AL_grow1 e_AL_grow1 h_AL_grow1 rfl ⟨Nat.le_of_ble_eq_true rfl, Nat.le_of_ble_eq_true rfl, Nat.le_of_ble_eq_true rfl⟩ (by omega) (by omega) (fun v X' hP => ?_) (fun _ _ h => by obtain ⟨q, N, f9, h, -⟩ := h; cases h)
  obtain ⟨q, N, f', h1, h2, h3, h4, rfl, h5⟩ := hP
  cases h1
  exact xr_aret C d_AL_grow0_10 (Or.inr ⟨_, rfl⟩) (by omega) (by omega) ⟨q, N, f', rfl, h2, h3, h4, rfl, h5⟩
