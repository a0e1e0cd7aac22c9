/-! JDK: the leaves that ArrayList, Arrays stand on. -/
set_option maxRecDepth 100000 in
set_option maxHeartbeats 4000000 in
theorem c_PC_checkIndex {l : Launch} {D : va_G} {H0 : Heap} {X : xH} {j N : Nat} (hj : j < N) (hN : N < 2 ^ 31) : xMet l D H0 y_PC_checkIndex b_PC_checkIndex 3 (some .int) [] 0 0 0 [.int (nI j), .int (nI N), .null] X (fun o X' => o = .inl (some (.int (nI j))) ∧ X' = X) := by
  refine ⟨[some (.int (nI j)), some (.int (nI N)), some .null], rfl, Nat.le_of_ble_eq_true rfl, fun E hD hH hl _ C => ?_⟩
  subst hD
  subst hH
  subst hl
  refine xr_iload_n C d_PC_checkIndex_0 1 rfl rfl ?_
  refine xr_if_lt C d_PC_checkIndex_1 4 9 rfl (by decide) (fun h => absurd h (nI_pos (by omega))) (fun _ => ?_)
  refine xr_iload_n C d_PC_checkIndex_4 5 rfl rfl ?_
  refine xr_iload_n C d_PC_checkIndex_5 6 rfl rfl ?_
  refine xr_icmp_lt C d_PC_checkIndex_6 9 16 rfl (by decide) (fun _ => ?_) (fun h => absurd (nI_lt hj hN) h)
  refine xr_iload_n C d_PC_checkIndex_16 17 rfl rfl ?_
  exact xr_iret C d_PC_checkIndex_17 (by omega) (by omega) ⟨rfl, rfl⟩
set_option maxRecDepth 100000 in
set_option maxHeartbeats 4000000 in
theorem c_OB_checkIndex {l : Launch} {D : va_G} {H0 : Heap} {X : xH} {j N : Nat} (hj : j < N) (hN : N < 2 ^ 31) : xMet l D H0 y_OB_checkIndex b_OB_checkIndex 2 (some .int) [] 1 0 0 [.int (nI j), .int (nI N)] X (fun o X' => o = .inl (some (.int (nI j))) ∧ X' = X) := by
  refine ⟨[some (.int (nI j)), some (.int (nI N))], rfl, Nat.le_of_ble_eq_true rfl, fun E hD hH hl _ C => ?_⟩
  subst hD
  subst hH
  subst hl
  refine xr_iload_n C d_OB_checkIndex_0 1 rfl rfl ?_
  refine xr_iload_n C d_OB_checkIndex_1 2 rfl rfl ?_
  refine xr_null C d_OB_checkIndex_2 3 rfl ?_
  refine xr_callS C (c_PC_checkIndex hj hN) k_PC_checkIndex d_OB_checkIndex_3 6 rfl (Or.inl q_285) s_PC_checkIndex in_PC_checkIndex h_PC_checkIndex rfl ⟨Nat.le_of_ble_eq_true rfl, Nat.le_of_ble_eq_true rfl, Nat.le_of_ble_eq_true rfl⟩ (by omega) (by omega) (fun v X' hP => ?_) (fun _ _ h => absurd h.1 (by simp))
  obtain ⟨h1, rfl⟩ := hP
  cases h1
  exact xr_iret C d_OB_checkIndex_6 (by omega) (by omega) ⟨rfl, rfl⟩
set_option maxRecDepth 100000 in
set_option maxHeartbeats 4000000 in
theorem c_AC_init {l : Launch} {D : va_G} {H0 : Heap} {X : xH} {a : Nat} : xMet l D H0 y_AC_init b_AC_init 1 none [] 0 0 0 [.ref a] X (fun o X' => o = .inl none ∧ X' = X) := by
  refine ⟨[some (.ref a)], rfl, Nat.le_of_ble_eq_true rfl, fun E hD hH hl _ C => ?_⟩
  subst hD
  subst hH
  subst hl
  refine xr_aload_n C d_AC_init_0 1 rfl rfl ?_
  refine xr_objInit C d_AC_init_1 4 rfl q_54 w_oi w_oc (Nat.le_of_ble_eq_true rfl) ?_
  exact xr_vret C d_AC_init_4 (by omega) (by omega) ⟨rfl, rfl⟩
set_option maxRecDepth 100000 in
set_option maxHeartbeats 4000000 in
theorem c_AB_init {l : Launch} {D : va_G} {H0 : Heap} {X : xH} {a : Nat} {m0 : Int32} {v1 v2 : Value} (ha : X a = some (.inr (7, [.int m0, v1, v2]))) : xMet l D H0 y_AB_init b_AB_init 1 none [] 1 0 0 [.ref a] X (fun o X' => o = .inl none ∧ X' = xup X a (.inr (7, [.int 0, v1, v2]))) := by
  refine ⟨[some (.ref a)], rfl, Nat.le_of_ble_eq_true rfl, fun E hD hH hl _ C => ?_⟩
  subst hD
  subst hH
  subst hl
  refine xr_aload_n C d_AB_init_0 1 rfl rfl ?_
  refine xr_callI C c_AC_init kc_AC_init d_AB_init_1 4 rfl (Or.inl q_51) v_AC_init rfl h_AC_init rfl ⟨Nat.le_of_ble_eq_true rfl, Nat.le_of_ble_eq_true rfl, Nat.le_of_ble_eq_true rfl⟩ (by omega) (by omega) (fun v X' hP => ?_) (fun _ _ h => absurd h.1 (by simp))
  obtain ⟨h1, rfl⟩ := hP
  cases h1
  refine xr_aload_n C d_AB_init_4 5 rfl rfl ?_
  refine xr_iconst (v := 0) C d_AB_init_5 6 rfl (by decide) ?_
  refine xr_put C K_AL 0 d_AB_init_6 9 rfl q_59 (Or.inl rfl) rfl rfl rfl rfl (by first | assumption | exact xup_self | exact (xup_ne (by assumption)).trans (by assumption) | exact (xup_ne (Ne.symm (by assumption))).trans (by assumption) | exact (xup_ne (by assumption)).trans xup_self | exact (xup_ne (Ne.symm (by assumption))).trans xup_self) rfl rfl ?_
  exact xr_vret C d_AB_init_9 (by omega) (by omega) ⟨rfl, rfl⟩
set_option maxRecDepth 100000 in
set_option maxHeartbeats 4000000 in
theorem c_AL_init {l : Launch} {D : va_G} {H0 : Heap} {X : xH} {a : Nat} {m0 : Int32} {v1 v2 : Value} (ha : X a = some (.inr (7, [.int m0, v1, v2]))) : xMet l D H0 y_AL_init b_AL_init 1 none [] 2 0 0 [.ref a] X (fun o X' => o = .inl none ∧ X' = xup X a (.inr (7, [.int 0, .ref (D.2 200 1), v2]))) := by
  refine ⟨[some (.ref a)], rfl, Nat.le_of_ble_eq_true rfl, fun E hD hH hl _ C => ?_⟩
  subst hD
  subst hH
  subst hl
  refine xr_aload_n C d_AL_init_0 1 rfl rfl ?_
  refine xr_callI C (c_AB_init ha) kc_AB_init d_AL_init_1 4 rfl (Or.inl q_48) v_AB_init rfl h_AB_init rfl ⟨Nat.le_of_ble_eq_true rfl, Nat.le_of_ble_eq_true rfl, Nat.le_of_ble_eq_true rfl⟩ (by omega) (by omega) (fun v X' hP => ?_) (fun _ _ h => absurd h.1 (by simp))
  obtain ⟨h1, rfl⟩ := hP
  cases h1
  refine xr_aload_n C d_AL_init_4 5 rfl rfl ?_
  refine xr_gets C C.kk.2.2.2.1 d_AL_init_5 8 rfl (Or.inl q_55) ?_
  refine xr_put C K_AL 1 d_AL_init_8 11 rfl q_57 (Or.inl rfl) rfl rfl rfl rfl (by first | assumption | exact xup_self | exact (xup_ne (by assumption)).trans (by assumption) | exact (xup_ne (Ne.symm (by assumption))).trans (by assumption) | exact (xup_ne (by assumption)).trans xup_self | exact (xup_ne (Ne.symm (by assumption))).trans xup_self) rfl rfl ?_
  refine xG.eqX xup_up ?_
  exact xr_vret C d_AL_init_11 (by omega) (by omega) ⟨rfl, rfl⟩
set_option maxRecDepth 100000 in
set_option maxHeartbeats 4000000 in
theorem c_AL_size {l : Launch} {D : va_G} {H0 : Heap} {X : xH} {a : Nat} {v0 v1 : Value} {n : Int32} (ha : X a = some (.inr (7, [v0, v1, .int n]))) : xMet l D H0 y_AL_size b_AL_size 1 (some .int) [] 0 0 0 [.ref a] X (fun o X' => o = .inl (some (.int n)) ∧ X' = X) := by
  refine ⟨[some (.ref a)], rfl, Nat.le_of_ble_eq_true rfl, fun E hD hH hl _ C => ?_⟩
  subst hD
  subst hH
  subst hl
  refine xr_aload_n C d_AL_size_0 1 rfl rfl ?_
  refine xr_get C K_AL 2 d_AL_size_1 4 rfl q_58 (Or.inl rfl) rfl (by first | assumption | exact xup_self | exact (xup_ne (by assumption)).trans (by assumption) | exact (xup_ne (Ne.symm (by assumption))).trans (by assumption) | exact (xup_ne (by assumption)).trans xup_self | exact (xup_ne (Ne.symm (by assumption))).trans xup_self) rfl ?_
  exact xr_iret C d_AL_size_4 (by omega) (by omega) ⟨rfl, rfl⟩
set_option maxRecDepth 100000 in
set_option maxHeartbeats 4000000 in
theorem c_AL_elementData {l : Launch} {D : va_G} {H0 : Heap} {X : xH} {a b cap j q : Nat} {v0 v2 : Value} {f : Nat → Option Nat} (ha : X a = some (.inr (7, [v0, .ref b, v2]))) (hb : X b = some (.inl (D.1 101, cap, .inr (.inr (.inr (.inr f)))))) (hj : j < cap) (hc : cap < 2 ^ 31) (hf : f j = some q) : xMet l D H0 y_AL_elementData b_AL_elementData 2 (some (.object "java/lang/Object")) [] 0 0 0 [.ref a, .int (nI j)] X (fun o X' => o = .inl (some (.ref q)) ∧ X' = X) := by
  refine ⟨[some (.ref a), some (.int (nI j))], rfl, Nat.le_of_ble_eq_true rfl, fun E hD hH hl _ C => ?_⟩
  subst hD
  subst hH
  subst hl
  refine xr_aload_n C d_AL_elementData_0 1 rfl rfl ?_
  refine xr_get C K_AL 1 d_AL_elementData_1 4 rfl q_57 (Or.inl rfl) rfl (by first | assumption | exact xup_self | exact (xup_ne (by assumption)).trans (by assumption) | exact (xup_ne (Ne.symm (by assumption))).trans (by assumption) | exact (xup_ne (by assumption)).trans xup_self | exact (xup_ne (Ne.symm (by assumption))).trans xup_self) rfl ?_
  refine xr_iload_n C d_AL_elementData_4 5 rfl rfl ?_
  refine xr_aald C d_AL_elementData_5 6 rfl hb rfl hj hc hf ?_
  exact xr_aret C d_AL_elementData_6 (Or.inl ⟨_, rfl⟩) (by omega) (by omega) ⟨rfl, rfl⟩
set_option maxRecDepth 100000 in
set_option maxHeartbeats 4000000 in
theorem c_AL_get {l : Launch} {D : va_G} {H0 : Heap} {X : xH} {a b cap j q n : Nat} {v0 : Value} {f : Nat → Option Nat} (ha : X a = some (.inr (7, [v0, .ref b, .int (nI n)]))) (hb : X b = some (.inl (D.1 101, cap, .inr (.inr (.inr (.inr f)))))) (hj : j < n) (hn : n ≤ cap) (hc : cap < 2 ^ 31) (hf : f j = some q) : xMet l D H0 y_AL_get b_AL_get 2 (some (.object "java/lang/Object")) [] 2 0 0 [.ref a, .int (nI j)] X (fun o X' => o = .inl (some (.ref q)) ∧ X' = X) := by
  refine ⟨[some (.ref a), some (.int (nI j))], rfl, Nat.le_of_ble_eq_true rfl, fun E hD hH hl _ C => ?_⟩
  subst hD
  subst hH
  subst hl
  refine xr_iload_n C d_AL_get_0 1 rfl rfl ?_
  refine xr_aload_n C d_AL_get_1 2 rfl rfl ?_
  refine xr_get C K_AL 2 d_AL_get_2 5 rfl q_58 (Or.inl rfl) rfl (by first | assumption | exact xup_self | exact (xup_ne (by assumption)).trans (by assumption) | exact (xup_ne (Ne.symm (by assumption))).trans (by assumption) | exact (xup_ne (by assumption)).trans xup_self | exact (xup_ne (Ne.symm (by assumption))).trans xup_self) rfl ?_
  refine xr_callS C (c_OB_checkIndex hj (by omega)) k_OB_checkIndex d_AL_get_5 8 rfl (Or.inl q_282) s_OB_checkIndex in_OB_checkIndex h_OB_checkIndex rfl ⟨Nat.le_of_ble_eq_true rfl, Nat.le_of_ble_eq_true rfl, Nat.le_of_ble_eq_true rfl⟩ (by omega) (by omega) (fun v X' hP => ?_) (fun _ _ h => absurd h.1 (by simp))
  obtain ⟨h1, rfl⟩ := hP
  cases h1
  refine xr_pop C d_AL_get_8 9 rfl rfl ?_
  refine xr_aload_n C d_AL_get_9 10 rfl rfl ?_
  refine xr_iload_n C d_AL_get_10 11 rfl rfl ?_
  refine xr_callV C (c_AL_elementData ha hb (by omega) hc hf) k_AL_elementData d_AL_get_11 14 rfl (by first | assumption | exact xup_self | exact (xup_ne (by assumption)).trans (by assumption) | exact (xup_ne (Ne.symm (by assumption))).trans (by assumption) | exact (xup_ne (by assumption)).trans xup_self | exact (xup_ne (Ne.symm (by assumption))).trans xup_self) rfl (Or.inl q_288) v_AL_elementData e_AL_elementData h_AL_elementData rfl ⟨Nat.le_of_ble_eq_true rfl, Nat.le_of_ble_eq_true rfl, Nat.le_of_ble_eq_true rfl⟩ (by omega) (by omega) (fun v X' hP => ?_) (fun _ _ h => absurd h.1 (by simp))
  obtain ⟨h1, rfl⟩ := hP
  cases h1
  exact xr_aret C d_AL_get_14 (Or.inl ⟨_, rfl⟩) (by omega) (by omega) ⟨rfl, rfl⟩
