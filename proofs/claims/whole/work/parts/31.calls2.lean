/-! The calls: key, clear, open, feed, read, run. -/
def fKey (s : St) (z k w : Int32) : Nat × Int32 × St :=
  if z = 0 ∨ z = 1 then
    if 0 ≤ k ∧ k < nI (s.2.1 (mIx z)).2.1.length then
      if 0 ≤ w ∧ w ≤ 1 then
        if w = 0 then (0, nI (eD (s.2.1 (mIx z)).2.1 (mIx k)).1.length, (s.1, s.2.1, (eD (s.2.1 (mIx z)).2.1 (mIx k)).1, s.2.2.2)) else (0, nI (eD (s.2.1 (mIx z)).2.1 (mIx k)).2.length, (s.1, s.2.1, (eD (s.2.1 (mIx z)).2.1 (mIx k)).2, s.2.2.2))
      else (1, 0, s)
    else (1, 0, s)
  else (1, 0, s)
def fClear (s : St) (z : Int32) : Nat × Int32 × St :=
  if z = 0 ∨ z = 1 then (0, nI (s.2.1 (mIx z)).2.1.length, (s.1, upM s.2.1 (mIx z) ([], [], (s.2.1 (mIx z)).2.2), s.2.2.1, s.2.2.2)) else (1, 0, s)
def fOpen (s : St) (z p : Int32) : Nat × Int32 × St :=
  if z = 0 ∨ z = 1 then
    if (s.2.1 (mIx z)).2.2 < p ∧ p ≤ 1000000 then (0, nI (opS (s.2.1 (mIx z)).1 p).length, (s.1, upM s.2.1 (mIx z) (opS (s.2.1 (mIx z)).1 p, (s.2.1 (mIx z)).2.1, p), s.2.2.1, p)) else (2, 0, s)
  else (1, 0, s)
theorem xOw.tk' {D : va_G} {X : xH} {F V : Nat → Nat} {I0 I : Nat → Option Imm} {i : Nat} {m : Mc} {bs cs be ce br : Nat} {ts res : List Int32} {lp : Int32} {as1 as2 : List Nat} {M : Nat → Mc} (h : xOw D X F V I i m (M (1 - i)) bs cs be ce br (V 1) ts res (nI ts.length) lp as1 as2) (hi : i < 2) (h1 : V (20 + i) ≤ cs) (h2 : V (40 + i) ≤ ce) (hx : imLe I0 I) : ∃ V' I', vLe V V' ∧ imLe I0 I' ∧ xTK D X F V' I' (ts, upM M i m, res, lp) := ⟨_, I, vLe_U hi h1 h2, hx, h.tk hi upM_self (upM_ne (oth_ne hi))⟩
theorem xOw.tk0 {D : va_G} {X : xH} {F V : Nat → Nat} {I0 I : Nat → Option Imm} {i : Nat} {bs cs be ce br : Nat} {ts res : List Int32} {lp : Int32} {as1 as2 : List Nat} {M : Nat → Mc} (h : xOw D X F V I i (M i) (M (1 - i)) bs cs be ce br (V 1) ts res (nI ts.length) lp as1 as2) (hi : i < 2) (h1 : V (20 + i) ≤ cs) (h2 : V (40 + i) ≤ ce) (hx : imLe I0 I) : ∃ V' I', vLe V V' ∧ imLe I0 I' ∧ xTK D X F V' I' (ts, M, res, lp) := ⟨_, I, vLe_U hi h1 h2, hx, h.tk hi rfl rfl⟩
theorem xTK.same {D : va_G} {X : xH} {F V : Nat → Nat} {I : Nat → Option Imm} {s : St} (h : xTK D X F V I s) : ∃ V' I', vLe V V' ∧ imLe I I' ∧ xTK D X F V' I' s := ⟨V, I, vLe.rf, imLe.rf, h⟩
set_option maxRecDepth 100000 in
set_option maxHeartbeats 4000000 in
theorem c_TK_key {l : Launch} {D : va_G} {H0 : Heap} {X : xH} {F V : Nat → Nat} {I : Nat → Option Imm} {s : St} (hK : xTK D X F V I s) {z k w : Int32} : xMet l D H0 y_TK_key b_TK_key 6 (some .int) [] 4 1 6 [.ref (F 0), .int z, .int k, .int w] X (fun o X' => xEnd "java/lang/IndexOutOfBoundsException" "" ((fKey s z k w).1, (fKey s z k w).2.1) o ∧ ∃ V' I', vLe V V' ∧ imLe I I' ∧ xTK D X' F V' I' (fKey s z k w).2.2) := by
  have htk := hK.1
  refine ⟨[some (.ref (F 0)), some (.int z), some (.int k), some (.int w), none, none], rfl, Nat.le_of_ble_eq_true rfl, fun E hD hH hl _ C => ?_⟩
  subst hD
  subst hH
  subst hl
  refine xr_aload_n C d_TK_key_0 1 rfl rfl ?_
  refine xr_iload_n C d_TK_key_1 2 rfl rfl ?_
  rcases mach_ix z with hz | ⟨i, hi, rfl⟩
  · have hf : fKey s z k w = (1, 0, s) := if_neg (notM hz)
    rw [hf] at C
    refine xr_callV C (c_TK_machineOfX hz) k_TK_machineOf d_TK_key_2 5 rfl htk rfl (Or.inl q_240) v_TK_machineOf e_TK_machineOf h_TK_machineOf rfl ⟨Nat.le_of_ble_eq_true rfl, Nat.le_of_ble_eq_true rfl, Nat.le_of_ble_eq_true rfl⟩ (by omega) (by omega) (fun _ _ h => absurd h.1 (by simp)) (fun Cn X9 hP => ?_)
    obtain ⟨h1, rfl⟩ := hP
    cases h1
    exact xTh_out C (by omega) (by omega) ⟨xEnd_1, hK.same⟩
  · obtain ⟨as1, as2, hO⟩ := hK.ow hi
    obtain ⟨-, o2, o3, o4, o5, o6, o7, o8, o9, o10, o11⟩ := id hO
    obtain ⟨a1, a2, a3, a4, a5, a6, a7⟩ := id o9
    obtain ⟨avl, a8⟩ := a2.ob
    obtain ⟨a9, a10, a11, a12⟩ := id a5
    obtain ⟨avk, a13⟩ := a10.ob
    have hl1 := a3.1
    have hl2 := a11.1
    have hl3 := a4.1
    have hl4 := a12.1
    have hfm : fKey s (nI i) k w = if 0 ≤ k ∧ k < nI (s.2.1 i).2.1.length then
      if 0 ≤ w ∧ w ≤ 1 then
        if w = 0 then (0, nI (eD (s.2.1 i).2.1 (mIx k)).1.length, (s.1, s.2.1, (eD (s.2.1 i).2.1 (mIx k)).1, s.2.2.2)) else (0, nI (eD (s.2.1 i).2.1 (mIx k)).2.length, (s.1, s.2.1, (eD (s.2.1 i).2.1 (mIx k)).2, s.2.2.2))
      else (1, 0, s)
    else (1, 0, s) := by
      unfold fKey
      rw [if_pos (isM_of hi), mIx_nI (by omega)]
    have t26 : ¬ (0 ≤ k ∧ k < nI (s.2.1 i).2.1.length) → ∀ a, xG E X 0 0 26 [some (.ref (F 0)), some (.int (nI i)), some (.int k), some (.int w), some (.ref (F (10 + i))), a] [] := by
      intro h a
      rw [hfm, if_neg h] at C
      exact xr_throw C rfl d_TK_key_26 d_TK_key_29 d_TK_key_30 d_TK_key_32 d_TK_key_35 tw_IOB xs_184 (Nat.le_of_ble_eq_true rfl) (by omega) (by omega) ⟨xEnd_1, hK.same⟩
    refine xr_callV C (n_mach htk hi) k_TK_machineOf d_TK_key_2 5 rfl htk rfl (Or.inl q_240) v_TK_machineOf e_TK_machineOf h_TK_machineOf rfl ⟨Nat.le_of_ble_eq_true rfl, Nat.le_of_ble_eq_true rfl, Nat.le_of_ble_eq_true rfl⟩ (by omega) (by omega) (fun v9 X hP => ?_) (fun _ _ h => absurd h.1 (by simp))
    obtain ⟨h1, rfl⟩ := hP
    cases h1
    refine xr_astore C d_TK_key_5 7 rfl rfl rfl ?_
    refine xr_iload_n C d_TK_key_7 8 rfl rfl ?_
    refine xr_if_lt C d_TK_key_8 11 26 rfl (by decide) (fun h => t26 (fun q => absurd q.1 (Int32.not_le.mpr h)) _) (fun h0 => ?_)
    refine xr_iload_n C d_TK_key_11 12 rfl rfl ?_
    refine xr_aload C d_TK_key_12 14 rfl rfl ?_
    refine xr_get C K_Ma 1 d_TK_key_14 17 rfl q_91 (Or.inl rfl) rfl (by first | assumption | exact xup_self | exact (xup_ne (by assumption)).trans (by assumption) | exact (xup_ne (Ne.symm (by assumption))).trans (by assumption) | exact (xup_ne (by assumption)).trans xup_self | exact (xup_ne (Ne.symm (by assumption))).trans xup_self) rfl ?_
    refine xr_get C K_KM 0 d_TK_key_17 20 rfl q_79 (Or.inl rfl) rfl (by first | assumption | exact xup_self | exact (xup_ne (by assumption)).trans (by assumption) | exact (xup_ne (Ne.symm (by assumption))).trans (by assumption) | exact (xup_ne (by assumption)).trans xup_self | exact (xup_ne (Ne.symm (by assumption))).trans xup_self) rfl ?_
    refine xr_callV C (l_size a10) k_AL_size d_TK_key_20 23 rfl (by first | assumption | exact xup_self | exact (xup_ne (by assumption)).trans (by assumption) | exact (xup_ne (Ne.symm (by assumption))).trans (by assumption) | exact (xup_ne (by assumption)).trans xup_self | exact (xup_ne (Ne.symm (by assumption))).trans xup_self) rfl (Or.inl q_392) v_AL_size e_AL_size h_AL_size rfl ⟨Nat.le_of_ble_eq_true rfl, Nat.le_of_ble_eq_true rfl, Nat.le_of_ble_eq_true rfl⟩ (by omega) (by omega) (fun v9 X hP => ?_) (fun _ _ h => absurd h.1 (by simp))
    obtain ⟨h1, rfl⟩ := hP
    cases h1
    refine xr_icmp_lt C d_TK_key_23 26 36 rfl (by decide) (fun h20 => ?_) (fun h => t26 (fun q => h (by rw [hl2]; exact q.2)) _)
    obtain ⟨q, hq, rfl⟩ := nI_of h0
    have hq2 : q < as2.length := (nI_ltI hq (by omega)).mp h20
    obtain ⟨qk, qv, k1, k2, k3, k4, k5⟩ := (a11.2 q hq2).use o7
    have hokE := a12.2.2 _ (eD_mem (show q < (s.2.1 i).2.1.length by omega))
    rw [if_pos ⟨nI_pos' hq, by rw [← hl2]; exact h20⟩, mIx_nI hq] at hfm
    have t45 : ¬ (0 ≤ w ∧ w ≤ 1) → ∀ a, xG E X 0 0 45 [some (.ref (F 0)), some (.int (nI i)), some (.int (nI q)), some (.int w), some (.ref (F (10 + i))), a] [] := by
      intro h a
      rw [hfm, if_neg h] at C
      exact xr_throw C rfl d_TK_key_45 d_TK_key_48 d_TK_key_49 d_TK_key_51 d_TK_key_54 tw_IOB xs_186 (Nat.le_of_ble_eq_true rfl) (by omega) (by omega) ⟨xEnd_1, hK.same⟩
    refine xr_iload_n C d_TK_key_36 37 rfl rfl ?_
    refine xr_if_lt C d_TK_key_37 40 45 rfl (by decide) (fun h => t45 (fun q => absurd q.1 (Int32.not_le.mpr h)) _) (fun w0 => ?_)
    refine xr_iload_n C d_TK_key_40 41 rfl rfl ?_
    refine xr_iconst (v := 1) C d_TK_key_41 42 rfl (by decide) ?_
    refine xr_icmp_le C d_TK_key_42 45 55 rfl (by decide) (fun w1 => ?_) (fun h => t45 (fun q => h q.2) _)
    rw [if_pos ⟨Int32.not_lt.mp w0, w1⟩] at hfm
    have o5r := o5.at
    refine xr_aload C d_TK_key_55 57 rfl rfl ?_
    refine xr_get C K_Ma 1 d_TK_key_57 60 rfl q_91 (Or.inl rfl) rfl (by first | assumption | exact xup_self | exact (xup_ne (by assumption)).trans (by assumption) | exact (xup_ne (Ne.symm (by assumption))).trans (by assumption) | exact (xup_ne (by assumption)).trans xup_self | exact (xup_ne (Ne.symm (by assumption))).trans xup_self) rfl ?_
    refine xr_get C K_KM 0 d_TK_key_60 63 rfl q_79 (Or.inl rfl) rfl (by first | assumption | exact xup_self | exact (xup_ne (by assumption)).trans (by assumption) | exact (xup_ne (Ne.symm (by assumption))).trans (by assumption) | exact (xup_ne (by assumption)).trans xup_self | exact (xup_ne (Ne.symm (by assumption))).trans xup_self) rfl ?_
    refine xr_iload_n C d_TK_key_63 64 rfl rfl ?_
    refine xr_callV C (l_get a10 hq2) k_AL_get d_TK_key_64 67 rfl (by first | assumption | exact xup_self | exact (xup_ne (by assumption)).trans (by assumption) | exact (xup_ne (Ne.symm (by assumption))).trans (by assumption) | exact (xup_ne (by assumption)).trans xup_self | exact (xup_ne (Ne.symm (by assumption))).trans xup_self) rfl (Or.inl q_431) v_AL_get e_AL_get h_AL_get rfl ⟨Nat.le_of_ble_eq_true rfl, Nat.le_of_ble_eq_true rfl, Nat.le_of_ble_eq_true rfl⟩ (by omega) (by omega) (fun v9 X hP => ?_) (fun _ _ h => absurd h.1 (by simp))
    obtain ⟨h1, rfl⟩ := hP
    cases h1
    refine xr_cast C d_TK_key_67 70 rfl k1 rfl q_905 ?_
    refine xr_astore C d_TK_key_70 72 rfl rfl rfl ?_
    refine xr_aload_n C d_TK_key_72 73 rfl rfl ?_
    refine xr_get C K_TK 3 d_TK_key_73 76 rfl q_120 (Or.inl rfl) rfl (by first | assumption | exact xup_self | exact (xup_ne (by assumption)).trans (by assumption) | exact (xup_ne (Ne.symm (by assumption))).trans (by assumption) | exact (xup_ne (by assumption)).trans xup_self | exact (xup_ne (Ne.symm (by assumption))).trans xup_self) rfl ?_
    refine xr_callV C (c_Ro_empty o5) k_Ro_empty d_TK_key_76 79 rfl o5r rfl (Or.inl q_423) v_Ro_empty e_Ro_empty h_Ro_empty rfl ⟨Nat.le_of_ble_eq_true rfl, Nat.le_of_ble_eq_true rfl, Nat.le_of_ble_eq_true rfl⟩ (by omega) (by omega) (fun v9 X1 hP => ?_) (fun _ _ h => absurd h.1 (by simp))
    obtain ⟨e1, e2, e3⟩ := hP
    cases e1
    have hO1 := hO.emp e2 e3
    obtain ⟨c1, c2, c3, c4, c5, c6, c7, c8, c9, c10, c11⟩ := id hO1
    obtain ⟨qk', qv', u1, u2, u3, u4, u5⟩ := (c9.2.2.2.2.1.2.2.1.2 q hq2).use c7
    have c5r := c5.at
    have hge := c5.ge
    refine xr_aload_n C d_TK_key_79 80 rfl rfl ?_
    refine xr_get C K_TK 3 d_TK_key_80 83 rfl q_120 (Or.inl rfl) rfl (by first | assumption | exact xup_self | exact (xup_ne (by assumption)).trans (by assumption) | exact (xup_ne (Ne.symm (by assumption))).trans (by assumption) | exact (xup_ne (by assumption)).trans xup_self | exact (xup_ne (Ne.symm (by assumption))).trans xup_self) rfl ?_
    refine xr_iload_n C d_TK_key_83 84 rfl rfl ?_
    by_cases hw : w = 0
    · rw [hfm, if_pos hw] at C
      subst hw
      refine xr_if_ne C d_TK_key_84 87 95 rfl (by decide) (fun h => absurd rfl h) (fun _ => ?_)
      refine xr_aload C d_TK_key_87 89 rfl rfl ?_
      refine xr_get C K_En 0 d_TK_key_89 92 rfl q_712 (Or.inl rfl) rfl (by first | assumption | exact xup_self | exact (xup_ne (by assumption)).trans (by assumption) | exact (xup_ne (Ne.symm (by assumption))).trans (by assumption) | exact (xup_ne (by assumption)).trans xup_self | exact (xup_ne (Ne.symm (by assumption))).trans xup_self) rfl ?_
      refine xr_goto C d_TK_key_92 100 (by decide) ?_
      refine xr_callV C (n_addAll c7 c5 c6 u4 (by rw [List.length_nil]; have := hokE.2.1; omega)) k_Ro_addAll d_TK_key_100 103 rfl c5r rfl (Or.inl q_443) v_Ro_addAll e_Ro_addAll h_Ro_addAll rfl ⟨Nat.le_of_ble_eq_true rfl, Nat.le_of_ble_eq_true rfl, Nat.le_of_ble_eq_true rfl⟩ (by omega) (by omega) (fun v9 X2 hP => ?_) (fun _ _ h => absurd h.1 (by simp))
      obtain ⟨e4, e5⟩ := hP
      cases e4
      rw [List.nil_append] at e5
      obtain ⟨br', hO2⟩ := hO1.rs e5
      have d1 := hO2.1
      have d5 := hO2.2.2.2.2.1.at
      refine xr_aload_n C d_TK_key_103 104 rfl rfl ?_
      refine xr_get C K_TK 3 d_TK_key_104 107 rfl q_120 (Or.inl rfl) rfl (by first | assumption | exact xup_self | exact (xup_ne (by assumption)).trans (by assumption) | exact (xup_ne (Ne.symm (by assumption))).trans (by assumption) | exact (xup_ne (by assumption)).trans xup_self | exact (xup_ne (Ne.symm (by assumption))).trans xup_self) rfl ?_
      refine xr_get C K_Ro 1 d_TK_key_107 110 rfl q_110 (Or.inl rfl) rfl (by first | assumption | exact xup_self | exact (xup_ne (by assumption)).trans (by assumption) | exact (xup_ne (Ne.symm (by assumption))).trans (by assumption) | exact (xup_ne (by assumption)).trans xup_self | exact (xup_ne (Ne.symm (by assumption))).trans xup_self) rfl ?_
      exact xr_iret C d_TK_key_110 (by omega) (by omega) ⟨xEnd_ok, hO2.tk0 hi (Nat.le_refl _) (Nat.le_refl _) imLe.rf⟩
    · rw [hfm, if_neg hw] at C
      refine xr_if_ne C d_TK_key_84 87 95 rfl (by decide) (fun _ => ?_) (fun h => absurd h hw)
      refine xr_aload C d_TK_key_95 97 rfl rfl ?_
      refine xr_get C K_En 1 d_TK_key_97 100 rfl q_715 (Or.inl rfl) rfl (by first | assumption | exact xup_self | exact (xup_ne (by assumption)).trans (by assumption) | exact (xup_ne (Ne.symm (by assumption))).trans (by assumption) | exact (xup_ne (by assumption)).trans xup_self | exact (xup_ne (Ne.symm (by assumption))).trans xup_self) rfl ?_
      refine xr_callV C (n_addAll c7 c5 c6 u5 (by rw [List.length_nil]; have := hokE.2.2; omega)) k_Ro_addAll d_TK_key_100 103 rfl c5r rfl (Or.inl q_443) v_Ro_addAll e_Ro_addAll h_Ro_addAll rfl ⟨Nat.le_of_ble_eq_true rfl, Nat.le_of_ble_eq_true rfl, Nat.le_of_ble_eq_true rfl⟩ (by omega) (by omega) (fun v9 X2 hP => ?_) (fun _ _ h => absurd h.1 (by simp))
      obtain ⟨e4, e5⟩ := hP
      cases e4
      rw [List.nil_append] at e5
      obtain ⟨br', hO2⟩ := hO1.rs e5
      have d1 := hO2.1
      have d5 := hO2.2.2.2.2.1.at
      refine xr_aload_n C d_TK_key_103 104 rfl rfl ?_
      refine xr_get C K_TK 3 d_TK_key_104 107 rfl q_120 (Or.inl rfl) rfl (by first | assumption | exact xup_self | exact (xup_ne (by assumption)).trans (by assumption) | exact (xup_ne (Ne.symm (by assumption))).trans (by assumption) | exact (xup_ne (by assumption)).trans xup_self | exact (xup_ne (Ne.symm (by assumption))).trans xup_self) rfl ?_
      refine xr_get C K_Ro 1 d_TK_key_107 110 rfl q_110 (Or.inl rfl) rfl (by first | assumption | exact xup_self | exact (xup_ne (by assumption)).trans (by assumption) | exact (xup_ne (Ne.symm (by assumption))).trans (by assumption) | exact (xup_ne (by assumption)).trans xup_self | exact (xup_ne (Ne.symm (by assumption))).trans xup_self) rfl ?_
      exact xr_iret C d_TK_key_110 (by omega) (by omega) ⟨xEnd_ok, hO2.tk0 hi (Nat.le_refl _) (Nat.le_refl _) imLe.rf⟩
set_option maxRecDepth 100000 in
set_option maxHeartbeats 4000000 in
theorem c_TK_clear {l : Launch} {D : va_G} {H0 : Heap} {X : xH} {F V : Nat → Nat} {I : Nat → Option Imm} {s : St} (hK : xTK D X F V I s) {z : Int32} : xMet l D H0 y_TK_clear b_TK_clear 4 (some .int) [] 2 1 6 [.ref (F 0), .int z] X (fun o X' => xEnd "java/lang/IndexOutOfBoundsException" "" ((fClear s z).1, (fClear s z).2.1) o ∧ ∃ V' I', vLe V V' ∧ imLe I I' ∧ xTK D X' F V' I' (fClear s z).2.2) := by
  have htk := hK.1
  refine ⟨[some (.ref (F 0)), some (.int z), none, none], rfl, Nat.le_of_ble_eq_true rfl, fun E hD hH hl _ C => ?_⟩
  subst hD
  subst hH
  subst hl
  refine xr_aload_n C d_TK_clear_0 1 rfl rfl ?_
  refine xr_iload_n C d_TK_clear_1 2 rfl rfl ?_
  rcases mach_ix z with hz | ⟨i, hi, rfl⟩
  · have hf : fClear s z = (1, 0, s) := if_neg (notM hz)
    rw [hf] at C
    refine xr_callV C (c_TK_machineOfX hz) k_TK_machineOf d_TK_clear_2 5 rfl htk rfl (Or.inl q_240) v_TK_machineOf e_TK_machineOf h_TK_machineOf rfl ⟨Nat.le_of_ble_eq_true rfl, Nat.le_of_ble_eq_true rfl, Nat.le_of_ble_eq_true rfl⟩ (by omega) (by omega) (fun _ _ h => absurd h.1 (by simp)) (fun Cn X9 hP => ?_)
    obtain ⟨h1, rfl⟩ := hP
    cases h1
    exact xTh_out C (by omega) (by omega) ⟨xEnd_1, hK.same⟩
  · obtain ⟨as1, as2, hO⟩ := hK.ow hi
    obtain ⟨-, o2, o3, o4, o5, o6, o7, o8, o9, o10, o11⟩ := id hO
    obtain ⟨a1, a2, a3, a4, a5, a6, a7⟩ := id o9
    obtain ⟨avl, a8⟩ := a2.ob
    obtain ⟨a9, a10, a11, a12⟩ := id a5
    obtain ⟨avk, a13⟩ := a10.ob
    have hl1 := a3.1
    have hl2 := a11.1
    have hl3 := a4.1
    have hl4 := a12.1
    have hfm : fClear s (nI i) = (0, nI (s.2.1 i).2.1.length, (s.1, upM s.2.1 i ([], [], (s.2.1 i).2.2), s.2.2.1, s.2.2.2)) := by
      unfold fClear
      rw [if_pos (isM_of hi), mIx_nI (by omega)]
    rw [hfm] at C
    refine xr_callV C (n_mach htk hi) k_TK_machineOf d_TK_clear_2 5 rfl htk rfl (Or.inl q_240) v_TK_machineOf e_TK_machineOf h_TK_machineOf rfl ⟨Nat.le_of_ble_eq_true rfl, Nat.le_of_ble_eq_true rfl, Nat.le_of_ble_eq_true rfl⟩ (by omega) (by omega) (fun v9 X hP => ?_) (fun _ _ h => absurd h.1 (by simp))
    obtain ⟨h1, rfl⟩ := hP
    cases h1
    refine xr_astore_n C d_TK_clear_5 6 rfl rfl rfl ?_
    refine xr_aload_n C d_TK_clear_6 7 rfl rfl ?_
    refine xr_get C K_Ma 1 d_TK_clear_7 10 rfl q_91 (Or.inl rfl) rfl (by first | assumption | exact xup_self | exact (xup_ne (by assumption)).trans (by assumption) | exact (xup_ne (Ne.symm (by assumption))).trans (by assumption) | exact (xup_ne (by assumption)).trans xup_self | exact (xup_ne (Ne.symm (by assumption))).trans xup_self) rfl ?_
    refine xr_get C K_KM 0 d_TK_clear_10 13 rfl q_79 (Or.inl rfl) rfl (by first | assumption | exact xup_self | exact (xup_ne (by assumption)).trans (by assumption) | exact (xup_ne (Ne.symm (by assumption))).trans (by assumption) | exact (xup_ne (by assumption)).trans xup_self | exact (xup_ne (Ne.symm (by assumption))).trans xup_self) rfl ?_
    refine xr_callV C (l_size a10) k_AL_size d_TK_clear_13 16 rfl (by first | assumption | exact xup_self | exact (xup_ne (by assumption)).trans (by assumption) | exact (xup_ne (Ne.symm (by assumption))).trans (by assumption) | exact (xup_ne (by assumption)).trans xup_self | exact (xup_ne (Ne.symm (by assumption))).trans xup_self) rfl (Or.inl q_392) v_AL_size e_AL_size h_AL_size rfl ⟨Nat.le_of_ble_eq_true rfl, Nat.le_of_ble_eq_true rfl, Nat.le_of_ble_eq_true rfl⟩ (by omega) (by omega) (fun v9 X hP => ?_) (fun _ _ h => absurd h.1 (by simp))
    obtain ⟨h1, rfl⟩ := hP
    cases h1
    refine xr_toi (show _ = nI (s.2.1 i).2.1.length by rw [hl2]) ?_
    refine xr_istore_n C d_TK_clear_16 17 rfl rfl rfl ?_
    refine xr_aload_n C d_TK_clear_17 18 rfl rfl ?_
    refine xr_callV C (c_Ma_forget o7 o9) k_Ma_forget d_TK_clear_18 21 rfl (by first | assumption | exact xup_self | exact (xup_ne (by assumption)).trans (by assumption) | exact (xup_ne (Ne.symm (by assumption))).trans (by assumption) | exact (xup_ne (by assumption)).trans xup_self | exact (xup_ne (Ne.symm (by assumption))).trans xup_self) rfl (Or.inl q_886) v_Ma_forget e_Ma_forget h_Ma_forget rfl ⟨Nat.le_of_ble_eq_true rfl, Nat.le_of_ble_eq_true rfl, Nat.le_of_ble_eq_true rfl⟩ (by omega) (by omega) (fun v9 X1 hP => ?_) (fun _ _ h => absurd h.1 (by simp))
    obtain ⟨e1, e2, e3, e4⟩ := hP
    cases e1
    have hO1 := hO.mach (m' := ([], [], (s.2.1 i).2.2)) imX.rf e2 e3 (e4.mono (fun q hq => List.mem_cons_of_mem _ hq)) (Or.inl rfl) (Or.inl rfl)
    refine xr_iload_n C d_TK_clear_21 22 rfl rfl ?_
    exact xr_iret C d_TK_clear_22 (by omega) (by omega) ⟨xEnd_ok, hO1.tk' hi (Nat.le_refl _) (Nat.le_refl _) imLe.rf⟩
set_option maxRecDepth 100000 in
set_option maxHeartbeats 4000000 in
theorem c_TK_open {l : Launch} {D : va_G} {H0 : Heap} {X : xH} {F V : Nat → Nat} {I : Nat → Option Imm} {s : St} (hK : xTK D X F V I s) {z p : Int32} : xMet l D H0 y_TK_open b_TK_open 4 (some .int) [] 7 3 211 [.ref (F 0), .int z, .int p] X (fun o X' => xEnd "java/lang/IndexOutOfBoundsException" "java/lang/IllegalArgumentException" ((fOpen s z p).1, (fOpen s z p).2.1) o ∧ ∃ V' I', vLe V V' ∧ imLe I I' ∧ xTK D X' F V' I' (fOpen s z p).2.2) := by
  have htk := hK.1
  refine ⟨[some (.ref (F 0)), some (.int z), some (.int p), none], rfl, Nat.le_of_ble_eq_true rfl, fun E hD hH hl _ C => ?_⟩
  subst hD
  subst hH
  subst hl
  refine xr_aload_n C d_TK_open_0 1 rfl rfl ?_
  refine xr_iload_n C d_TK_open_1 2 rfl rfl ?_
  rcases mach_ix z with hz | ⟨i, hi, rfl⟩
  · have hf : fOpen s z p = (1, 0, s) := if_neg (notM hz)
    rw [hf] at C
    refine xr_callV C (c_TK_machineOfX hz) k_TK_machineOf d_TK_open_2 5 rfl htk rfl (Or.inl q_240) v_TK_machineOf e_TK_machineOf h_TK_machineOf rfl ⟨Nat.le_of_ble_eq_true rfl, Nat.le_of_ble_eq_true rfl, Nat.le_of_ble_eq_true rfl⟩ (by omega) (by omega) (fun _ _ h => absurd h.1 (by simp)) (fun Cn X9 hP => ?_)
    obtain ⟨h1, rfl⟩ := hP
    cases h1
    exact xTh_out C (by omega) (by omega) ⟨xEnd_1, hK.same⟩
  · obtain ⟨as1, as2, hO⟩ := hK.ow hi
    obtain ⟨-, o2, o3, o4, o5, o6, o7, o8, o9, o10, o11⟩ := id hO
    obtain ⟨a1, a2, a3, a4, a5, a6, a7⟩ := id o9
    obtain ⟨avl, a8⟩ := a2.ob
    obtain ⟨a9, a10, a11, a12⟩ := id a5
    obtain ⟨avk, a13⟩ := a10.ob
    have hl1 := a3.1
    have hl2 := a11.1
    have hl3 := a4.1
    have hl4 := a12.1
    have hfm : fOpen s (nI i) p = if (s.2.1 i).2.2 < p ∧ p ≤ 1000000 then (0, nI (opS (s.2.1 i).1 p).length, (s.1, upM s.2.1 i (opS (s.2.1 i).1 p, (s.2.1 i).2.1, p), s.2.2.1, p)) else (2, 0, s) := by
      unfold fOpen
      rw [if_pos (isM_of hi), mIx_nI (by omega)]
    refine xr_callV C (n_mach htk hi) k_TK_machineOf d_TK_open_2 5 rfl htk rfl (Or.inl q_240) v_TK_machineOf e_TK_machineOf h_TK_machineOf rfl ⟨Nat.le_of_ble_eq_true rfl, Nat.le_of_ble_eq_true rfl, Nat.le_of_ble_eq_true rfl⟩ (by omega) (by omega) (fun v9 X hP => ?_) (fun _ _ h => absurd h.1 (by simp))
    obtain ⟨h1, rfl⟩ := hP
    cases h1
    refine xr_astore_n C d_TK_open_5 6 rfl rfl rfl ?_
    refine xr_aload_n C d_TK_open_6 7 rfl rfl ?_
    refine xr_iload_n C d_TK_open_7 8 rfl rfl ?_
    refine xr_callV C (c_Ma_takes a1) k_Ma_takes d_TK_open_8 11 rfl (by first | assumption | exact xup_self | exact (xup_ne (by assumption)).trans (by assumption) | exact (xup_ne (Ne.symm (by assumption))).trans (by assumption) | exact (xup_ne (by assumption)).trans xup_self | exact (xup_ne (Ne.symm (by assumption))).trans xup_self) rfl (Or.inl q_260) v_Ma_takes e_Ma_takes h_Ma_takes rfl ⟨Nat.le_of_ble_eq_true rfl, Nat.le_of_ble_eq_true rfl, Nat.le_of_ble_eq_true rfl⟩ (by omega) (by omega) (fun v9 X hP => ?_) (fun _ _ h => absurd h.1 (by simp))
    obtain ⟨h1, rfl⟩ := hP
    cases h1
    by_cases hc : (s.2.1 i).2.2 < p ∧ p ≤ 1000000
    · rw [hfm, if_pos hc] at C
      refine xr_toi (if_pos hc) ?_
      refine xr_if_ne C d_TK_open_11 14 24 rfl (by decide) (fun _ => ?_) (fun h => absurd h (by decide))
      refine xr_aload_n C d_TK_open_24 25 rfl rfl ?_
      refine xr_iload_n C d_TK_open_25 26 rfl rfl ?_
      refine xr_callV C (c_Ma_addSession o7 o9 o8) k_Ma_addSession d_TK_open_26 29 rfl (by first | assumption | exact xup_self | exact (xup_ne (by assumption)).trans (by assumption) | exact (xup_ne (Ne.symm (by assumption))).trans (by assumption) | exact (xup_ne (by assumption)).trans xup_self | exact (xup_ne (Ne.symm (by assumption))).trans xup_self) rfl (Or.inl q_266) v_Ma_addSession e_Ma_addSession h_Ma_addSession rfl ⟨Nat.le_of_ble_eq_true rfl, Nat.le_of_ble_eq_true rfl, Nat.le_of_ble_eq_true rfl⟩ (by omega) (by omega) (fun v9 X1 hP => ?_) (fun _ _ h => absurd h.1 (by simp))
      obtain ⟨e1, I1, bs1, cs1, as1', e2, e3, e4, e5, e6, e7⟩ := hP
      cases e1
      have hO1 := hO.mach (m' := (opS (s.2.1 i).1 p, (s.2.1 i).2.1, p)) e2 e3 e4 (e5.mono (fun q hq => by
        simp only [List.mem_cons, List.not_mem_nil, or_false] at hq ⊢
        rcases hq with e | e | e
        · exact Or.inl e
        · exact Or.inr (Or.inl e)
        · exact Or.inr (Or.inr (Or.inl e)))) e6 (Or.inl rfl)
      have hO2 := hO1.self (n' := nI s.1.length) (lp' := p)
      have d1 := hO1.1
      obtain ⟨d2, d3, d4, -⟩ := hO2.2.2.2.2.2.2.2.2.1
      obtain ⟨dv, d5⟩ := d3.ob
      have d6 := d4.1
      refine xr_aload_n C d_TK_open_29 30 rfl rfl ?_
      refine xr_iload_n C d_TK_open_30 31 rfl rfl ?_
      refine xr_put C K_TK 5 d_TK_open_31 34 rfl q_122 (Or.inl rfl) rfl rfl rfl rfl (by first | assumption | exact xup_self | exact (xup_ne (by assumption)).trans (by assumption) | exact (xup_ne (Ne.symm (by assumption))).trans (by assumption) | exact (xup_ne (by assumption)).trans xup_self | exact (xup_ne (Ne.symm (by assumption))).trans xup_self) rfl rfl ?_
      refine xr_aload_n C d_TK_open_34 35 rfl rfl ?_
      refine xr_get C K_Ma 0 d_TK_open_35 38 rfl q_89 (Or.inl rfl) rfl (by first | assumption | exact xup_self | exact (xup_ne (by assumption)).trans (by assumption) | exact (xup_ne (Ne.symm (by assumption))).trans (by assumption) | exact (xup_ne (by assumption)).trans xup_self | exact (xup_ne (Ne.symm (by assumption))).trans xup_self) rfl ?_
      refine xr_callV C (l_size d3) k_AL_size d_TK_open_38 41 rfl (by first | assumption | exact xup_self | exact (xup_ne (by assumption)).trans (by assumption) | exact (xup_ne (Ne.symm (by assumption))).trans (by assumption) | exact (xup_ne (by assumption)).trans xup_self | exact (xup_ne (Ne.symm (by assumption))).trans xup_self) rfl (Or.inl q_392) v_AL_size e_AL_size h_AL_size rfl ⟨Nat.le_of_ble_eq_true rfl, Nat.le_of_ble_eq_true rfl, Nat.le_of_ble_eq_true rfl⟩ (by omega) (by omega) (fun v9 X9 hP => ?_) (fun _ _ h => absurd h.1 (by simp))
      obtain ⟨h1, rfl⟩ := hP
      cases h1
      refine xr_toi (show _ = nI (opS (s.2.1 i).1 p).length by rw [d6]) ?_
      exact xr_iret C d_TK_open_41 (by omega) (by omega) ⟨xEnd_ok, hO2.tk' hi e7 (Nat.le_refl _) e2.1⟩
    · rw [hfm, if_neg hc] at C
      refine xr_toi (if_neg hc) ?_
      refine xr_if_ne C d_TK_open_11 14 24 rfl (by decide) (fun h => absurd rfl h) (fun _ => ?_)
      exact xr_throw C rfl d_TK_open_14 d_TK_open_17 d_TK_open_18 d_TK_open_20 d_TK_open_23 tw_IAE xs_57 (Nat.le_of_ble_eq_true rfl) (by omega) (by omega) ⟨xEnd_2, hK.same⟩
def fRead (s : St) (z h : Int32) : Nat × Int32 × St :=
  if z = 0 ∨ z = 1 then
    if 0 ≤ h ∧ okRd (mIx h) s.1.length then (0, nI (lookF (mIx h) (s.2.1 (mIx z)).2.1 s.1).length, ([], s.2.1, lookF (mIx h) (s.2.1 (mIx z)).2.1 s.1, s.2.2.2)) else (2, 0, ([], s.2))
  else (1, 0, ([], s.2))
theorem nI_of_or (x : Int32) : x < 0 ∨ ∃ q : Nat, q < 2 ^ 31 ∧ x = nI q := by
  by_cases h : x < 0
  · exact Or.inl h
  · exact Or.inr (nI_of h)
set_option maxRecDepth 100000 in
set_option maxHeartbeats 4000000 in
theorem c_TK_kindOfA {l : Launch} {D : va_G} {H0 : Heap} {X : xH} {h : Int32} : xMet l D H0 y_TK_kindOf b_TK_kindOf 1 (some .int) [] 0 0 0 [.int h] X (fun o X' => o = .inl (some (.int (h &&& 7))) ∧ X' = X) := by
  refine ⟨[some (.int h)], rfl, Nat.le_of_ble_eq_true rfl, fun E hD hH hl _ C => ?_⟩
  subst hD
  subst hH
  subst hl
  refine xr_iload_n C d_TK_kindOf_0 1 rfl rfl ?_
  refine xr_bipush (v := 7) C d_TK_kindOf_1 3 rfl (by decide) ?_
  refine xr_iand C d_TK_kindOf_3 4 rfl ?_
  exact xr_iret C d_TK_kindOf_4 (by omega) (by omega) ⟨rfl, rfl⟩
set_option maxRecDepth 100000 in
set_option maxHeartbeats 4000000 in
theorem c_TK_isReadingN {l : Launch} {D : va_G} {H0 : Heap} {X : xH} {h n : Int32} (hn : h < 0) : xMet l D H0 y_TK_isReading b_TK_isReading 4 (some .boolean) [] 1 0 0 [.int h, .int n] X (fun o X' => o = .inl (some (.int 0)) ∧ X' = X) := by
  refine ⟨[some (.int h), some (.int n), none, none], rfl, Nat.le_of_ble_eq_true rfl, fun E hD hH hl _ C => ?_⟩
  subst hD
  subst hH
  subst hl
  refine xr_iload_n C d_TK_isReading_0 1 rfl rfl ?_
  refine xr_callS C (c_TK_kindOfA) k_TK_kindOf d_TK_isReading_1 4 rfl (Or.inl q_407) s_TK_kindOf in_TK_kindOf h_TK_kindOf rfl ⟨Nat.le_of_ble_eq_true rfl, Nat.le_of_ble_eq_true rfl, Nat.le_of_ble_eq_true rfl⟩ (by omega) (by omega) (fun v9 X hP => ?_) (fun _ _ h => absurd h.1 (by simp))
  obtain ⟨h1, rfl⟩ := hP
  cases h1
  refine xr_istore_n C d_TK_isReading_4 5 rfl rfl rfl ?_
  refine xr_iload_n C d_TK_isReading_5 6 rfl rfl ?_
  refine xr_if_lt C d_TK_isReading_6 9 19 rfl (by decide) (fun _ => ?_) (fun q => absurd hn q)
  refine xr_iconst (v := 0) C d_TK_isReading_19 20 rfl (by decide) ?_
  exact xr_zret C d_TK_isReading_20 rfl (by omega) (by omega) ⟨rfl, rfl⟩
set_option maxRecDepth 100000 in
set_option maxHeartbeats 4000000 in
theorem c_TK_isOperationN {l : Launch} {D : va_G} {H0 : Heap} {X : xH} {h n : Int32} (hn : h < 0) : xMet l D H0 y_TK_isOperation b_TK_isOperation 5 (some .boolean) [] 1 0 0 [.int h, .int n] X (fun o X' => o = .inl (some (.int 0)) ∧ X' = X) := by
  refine ⟨[some (.int h), some (.int n), none, none, none], rfl, Nat.le_of_ble_eq_true rfl, fun E hD hH hl _ C => ?_⟩
  subst hD
  subst hH
  subst hl
  refine xr_iload_n C d_TK_isOperation_0 1 rfl rfl ?_
  refine xr_callS C (c_TK_kindOfA) k_TK_kindOf d_TK_isOperation_1 4 rfl (Or.inl q_407) s_TK_kindOf in_TK_kindOf h_TK_kindOf rfl ⟨Nat.le_of_ble_eq_true rfl, Nat.le_of_ble_eq_true rfl, Nat.le_of_ble_eq_true rfl⟩ (by omega) (by omega) (fun v9 X hP => ?_) (fun _ _ h => absurd h.1 (by simp))
  obtain ⟨h1, rfl⟩ := hP
  cases h1
  refine xr_istore_n C d_TK_isOperation_4 5 rfl rfl rfl ?_
  refine xr_iload_n C d_TK_isOperation_5 6 rfl rfl ?_
  refine xr_if_lt C d_TK_isOperation_6 9 14 rfl (by decide) (fun _ => ?_) (fun q => absurd hn q)
  refine xr_iconst (v := 0) C d_TK_isOperation_14 15 rfl (by decide) ?_
  exact xr_zret C d_TK_isOperation_15 rfl (by omega) (by omega) ⟨rfl, rfl⟩
set_option maxRecDepth 100000 in
set_option maxHeartbeats 4000000 in
theorem c_TK_read {l : Launch} {D : va_G} {H0 : Heap} {X : xH} {F V : Nat → Nat} {I : Nat → Option Imm} {s : St} (hK : xTK D X F V I s) {z h : Int32} : xMet l D H0 y_TK_read b_TK_read 5 (some .int) [] 7 3 606 [.ref (F 0), .int z, .int h] X (fun o X' => xEnd "java/lang/IndexOutOfBoundsException" "java/lang/IllegalArgumentException" ((fRead s z h).1, (fRead s z h).2.1) o ∧ ∃ V' I', vLe V V' ∧ imLe I I' ∧ xTK D X' F V' I' (fRead s z h).2.2) := by
  have htk := hK.1
  have hT0 := hK.2.1.len
  refine ⟨[some (.ref (F 0)), some (.int z), some (.int h), none, none], rfl, Nat.le_of_ble_eq_true rfl, fun E hD hH hl _ C => ?_⟩
  subst hD
  subst hH
  subst hl
  refine xr_aload_n C d_TK_read_0 1 rfl rfl ?_
  refine xr_callV C (c_TK_takeTape htk) k_TK_takeTape d_TK_read_1 4 rfl htk rfl (Or.inl q_400) v_TK_takeTape e_TK_takeTape h_TK_takeTape rfl ⟨Nat.le_of_ble_eq_true rfl, Nat.le_of_ble_eq_true rfl, Nat.le_of_ble_eq_true rfl⟩ (by omega) (by omega) (fun v9 X1 hP => ?_) (fun _ _ h => absurd h.1 (by simp))
  obtain ⟨h1, hX1⟩ := hP
  cases h1
  have hOw1 : ∀ i, i < 2 → ∃ as1 as2, xOw E.D X1 F V I i (s.2.1 i) (s.2.1 (1 - i)) (V (10 + i)) (V (20 + i)) (V (30 + i)) (V (40 + i)) (V 0) (V 1) s.1 s.2.2.1 0 s.2.2.2 as1 as2 := by
    intro i hi
    obtain ⟨b1, b2, hO⟩ := hK.ow hi
    refine ⟨b1, b2, ?_⟩
    rw [hX1]
    exact hO.self
  have hK1 : ∃ V' I', vLe V V' ∧ imLe I I' ∧ xTK E.D X1 F V' I' ([], s.2) := by
    obtain ⟨b1, b2, hO⟩ := hOw1 0 (by omega)
    exact xOw.tk0 (M := s.2.1) hO.nil (by omega) (Nat.le_refl _) (Nat.le_refl _) imLe.rf
  obtain ⟨b10, b20, hO10⟩ := hOw1 0 (by omega)
  have htk1 := hO10.1
  refine xr_istore_n C d_TK_read_4 5 rfl rfl rfl ?_
  refine xr_aload_n C d_TK_read_5 6 rfl rfl ?_
  refine xr_iload_n C d_TK_read_6 7 rfl rfl ?_
  rcases mach_ix z with hz | ⟨i, hi, rfl⟩
  · have hf : fRead s z h = (1, 0, ([], s.2)) := if_neg (notM hz)
    rw [hf] at C
    refine xr_callV C (c_TK_machineOfX hz) k_TK_machineOf d_TK_read_7 10 rfl htk1 rfl (Or.inl q_240) v_TK_machineOf e_TK_machineOf h_TK_machineOf rfl ⟨Nat.le_of_ble_eq_true rfl, Nat.le_of_ble_eq_true rfl, Nat.le_of_ble_eq_true rfl⟩ (by omega) (by omega) (fun _ _ h => absurd h.1 (by simp)) (fun Cn X9 hP => ?_)
    obtain ⟨h1, rfl⟩ := hP
    cases h1
    exact xTh_out C (by omega) (by omega) ⟨xEnd_1, hK1⟩
  · obtain ⟨as1, as2, hO⟩ := hOw1 i hi
    obtain ⟨htk2, o2, o3, o4, o5, o6, o7, o8, o9, o10, o11⟩ := id hO
    obtain ⟨a1, a2, a3, a4, a5, a6, a7⟩ := id o9
    obtain ⟨avl, a8⟩ := a2.ob
    obtain ⟨a9, a10, a11, a12⟩ := id a5
    obtain ⟨avk, a13⟩ := a10.ob
    have hl1 := a3.1
    have hl2 := a11.1
    have hl3 := a4.1
    have hl4 := a12.1
    have hfm : fRead s (nI i) h = if 0 ≤ h ∧ okRd (mIx h) s.1.length then (0, nI (lookF (mIx h) (s.2.1 i).2.1 s.1).length, ([], s.2.1, lookF (mIx h) (s.2.1 i).2.1 s.1, s.2.2.2)) else (2, 0, ([], s.2)) := by
      unfold fRead
      rw [if_pos (isM_of hi), mIx_nI (by omega)]
    refine xr_callV C (n_mach htk1 hi) k_TK_machineOf d_TK_read_7 10 rfl htk1 rfl (Or.inl q_240) v_TK_machineOf e_TK_machineOf h_TK_machineOf rfl ⟨Nat.le_of_ble_eq_true rfl, Nat.le_of_ble_eq_true rfl, Nat.le_of_ble_eq_true rfl⟩ (by omega) (by omega) (fun v9 X1 hP => ?_) (fun _ _ h => absurd h.1 (by simp))
    obtain ⟨h1, rfl⟩ := hP
    cases h1
    refine xr_astore C d_TK_read_10 12 rfl rfl rfl ?_
    refine xr_iload_n C d_TK_read_12 13 rfl rfl ?_
    refine xr_iload_n C d_TK_read_13 14 rfl rfl ?_
    have t20 : ¬ (0 ≤ h ∧ okRd (mIx h) s.1.length) → xG E X1 0 0 20 [some (.ref (F 0)), some (.int (nI i)), some (.int h), some (.int (nI s.1.length)), some (.ref (F (10 + i)))] [] := by
      intro hn
      rw [hfm, if_neg hn] at C
      exact xr_throw C rfl d_TK_read_20 d_TK_read_23 d_TK_read_24 d_TK_read_26 d_TK_read_29 tw_IAE xs_138 (Nat.le_of_ble_eq_true rfl) (by omega) (by omega) ⟨xEnd_2, hK1⟩
    rcases nI_of_or h with hneg | ⟨q, hq, rfl⟩
    · have hnn : ¬ (0 ≤ h ∧ okRd (mIx h) s.1.length) := fun q => absurd q.1 (Int32.not_le.mpr hneg)
      refine xr_callS C (c_TK_isReadingN hneg) k_TK_isReading d_TK_read_14 17 rfl (Or.inl q_788) s_TK_isReading in_TK_isReading h_TK_isReading rfl ⟨Nat.le_of_ble_eq_true rfl, Nat.le_of_ble_eq_true rfl, Nat.le_of_ble_eq_true rfl⟩ (by omega) (by omega) (fun v9 X1 hP => ?_) (fun _ _ h => absurd h.1 (by simp))
      obtain ⟨h1, rfl⟩ := hP
      cases h1
      refine xr_if_ne C d_TK_read_17 20 30 rfl (by decide) (fun h => absurd rfl h) (fun _ => t20 hnn)
    · rw [mIx_nI hq] at hfm t20
      refine xr_callS C (c_TK_isReading hq hT0) k_TK_isReading d_TK_read_14 17 rfl (Or.inl q_788) s_TK_isReading in_TK_isReading h_TK_isReading rfl ⟨Nat.le_of_ble_eq_true rfl, Nat.le_of_ble_eq_true rfl, Nat.le_of_ble_eq_true rfl⟩ (by omega) (by omega) (fun v9 X1 hP => ?_) (fun _ _ h => absurd h.1 (by simp))
      obtain ⟨h1, rfl⟩ := hP
      cases h1
      by_cases hc : okRd q s.1.length
      · refine xr_toi (if_pos hc) ?_
        rw [hfm, if_pos ⟨nI_pos' hq, hc⟩] at C
        have o5r := o5.at
        refine xr_if_ne C d_TK_read_17 20 30 rfl (by decide) (fun _ => ?_) (fun h => absurd h (by decide))
        refine xr_aload_n C d_TK_read_30 31 rfl rfl ?_
        refine xr_get C K_TK 3 d_TK_read_31 34 rfl q_120 (Or.inl rfl) rfl (by first | assumption | exact xup_self | exact (xup_ne (by assumption)).trans (by assumption) | exact (xup_ne (Ne.symm (by assumption))).trans (by assumption) | exact (xup_ne (by assumption)).trans xup_self | exact (xup_ne (Ne.symm (by assumption))).trans xup_self) rfl ?_
        refine xr_callV C (c_Ro_empty o5) k_Ro_empty d_TK_read_34 37 rfl o5r rfl (Or.inl q_423) v_Ro_empty e_Ro_empty h_Ro_empty rfl ⟨Nat.le_of_ble_eq_true rfl, Nat.le_of_ble_eq_true rfl, Nat.le_of_ble_eq_true rfl⟩ (by omega) (by omega) (fun v9 X2 hP => ?_) (fun _ _ h => absurd h.1 (by simp))
        obtain ⟨e1, e2, e3⟩ := hP
        cases e1
        have hO1 := hO.emp e2 e3
        obtain ⟨c1, c2, c3, c4, c5, c6, c7, c8, c9, c10, c11⟩ := id hO1
        have c9a := c9.1
        refine xr_aload_n C d_TK_read_37 38 rfl rfl ?_
        refine xr_aload C d_TK_read_38 40 rfl rfl ?_
        refine xr_get C K_Ma 1 d_TK_read_40 43 rfl q_91 (Or.inl rfl) rfl (by first | assumption | exact xup_self | exact (xup_ne (by assumption)).trans (by assumption) | exact (xup_ne (Ne.symm (by assumption))).trans (by assumption) | exact (xup_ne (by assumption)).trans xup_self | exact (xup_ne (Ne.symm (by assumption))).trans xup_self) rfl ?_
        refine xr_iload_n C d_TK_read_43 44 rfl rfl ?_
        refine xr_iload_n C d_TK_read_44 45 rfl rfl ?_
        refine xr_callV C (c_TK_look c7 c9.2.2.2.2.1 hq c1 c2 c5 c6 hc) k_TK_look d_TK_read_45 48 rfl (by first | assumption | exact xup_self | exact (xup_ne (by assumption)).trans (by assumption) | exact (xup_ne (Ne.symm (by assumption))).trans (by assumption) | exact (xup_ne (by assumption)).trans xup_self | exact (xup_ne (Ne.symm (by assumption))).trans xup_self) rfl (Or.inl q_795) v_TK_look e_TK_look h_TK_look rfl ⟨Nat.le_of_ble_eq_true rfl, Nat.le_of_ble_eq_true rfl, Nat.le_of_ble_eq_true rfl⟩ (by omega) (by omega) (fun v9 X3 hP => ?_) (fun _ _ h => absurd h.1 (by simp))
        obtain ⟨e4, e5⟩ := hP
        cases e4
        obtain ⟨I', b', c', a', br', q1, q2, hO2⟩ := hO1.q e5
        have d1 := hO2.1
        have d5 := hO2.2.2.2.2.1.at
        refine xr_aload_n C d_TK_read_48 49 rfl rfl ?_
        refine xr_get C K_TK 3 d_TK_read_49 52 rfl q_120 (Or.inl rfl) rfl (by first | assumption | exact xup_self | exact (xup_ne (by assumption)).trans (by assumption) | exact (xup_ne (Ne.symm (by assumption))).trans (by assumption) | exact (xup_ne (by assumption)).trans xup_self | exact (xup_ne (Ne.symm (by assumption))).trans xup_self) rfl ?_
        refine xr_get C K_Ro 1 d_TK_read_52 55 rfl q_110 (Or.inl rfl) rfl (by first | assumption | exact xup_self | exact (xup_ne (by assumption)).trans (by assumption) | exact (xup_ne (Ne.symm (by assumption))).trans (by assumption) | exact (xup_ne (by assumption)).trans xup_self | exact (xup_ne (Ne.symm (by assumption))).trans xup_self) rfl ?_
        exact xr_iret C d_TK_read_55 (by omega) (by omega) ⟨xEnd_ok, xOw.tk0 (M := s.2.1) hO2.nil hi (Nat.le_refl _) q2 q1.1⟩
      · refine xr_toi (if_neg hc) ?_
        refine xr_if_ne C d_TK_read_17 20 30 rfl (by decide) (fun h => absurd rfl h) (fun _ => t20 (fun q => hc q.2))
