theorem q_12 : Cond.initialized "java/lang/IllegalArgumentException" ∈ xT := xin 12 (by decide +kernel) (by decide +kernel)
theorem q_13 : Cond.initialized "java/lang/IllegalStateException" ∈ xT := xin 13 (by decide +kernel) (by decide +kernel)
theorem q_14 : Cond.initialized "java/lang/IndexOutOfBoundsException" ∈ xT := xin 14 (by decide +kernel) (by decide +kernel)
/-! The class's helpers. -/
theorem tw_IAE : xThW "TwinKeepers" 37 41 "java/lang/IllegalArgumentException" := ⟨by decide +kernel, q_149, q_12, by decide +kernel, by decide +kernel⟩
theorem tw_ISE : xThW "TwinKeepers" 44 48 "java/lang/IllegalStateException" := ⟨by decide +kernel, q_216, q_13, by decide +kernel, by decide +kernel⟩
theorem tw_IOB : xThW "TwinKeepers" 171 175 "java/lang/IndexOutOfBoundsException" := ⟨by decide +kernel, q_244, q_14, by decide +kernel, by decide +kernel⟩
theorem xs_39 : (39, "n is not 1 .. 8") ∈ xstr := by decide +kernel
theorem xs_46 : (46, "the tape would have more than 300 bytes") ∈ xstr := by decide +kernel
theorem xs_209 : (209, "no such machine") ∈ xstr := by decide +kernel
theorem xs_57 : (57, "place is not 1 to 1000000 and above those before") ∈ xstr := by decide +kernel
theorem xs_80 : (80, "serial is below 0, or shape and tape are no operation") ∈ xstr := by decide +kernel
theorem xs_138 : (138, "shape and tape are no reading") ∈ xstr := by decide +kernel
theorem xs_173 : (173, "no such session") ∈ xstr := by decide +kernel
theorem xs_182 : (182, "no such thing of a session") ∈ xstr := by decide +kernel
theorem xs_184 : (184, "no such key") ∈ xstr := by decide +kernel
theorem xs_186 : (186, "no such thing of a key") ∈ xstr := by decide +kernel
theorem xs_202 : (202, "no such thing of a machine") ∈ xstr := by decide +kernel
theorem xs_204 : (204, "the result has no such byte") ∈ xstr := by decide +kernel
set_option maxRecDepth 100000 in
set_option maxHeartbeats 4000000 in
theorem c_TK_machineOf {l : Launch} {D : va_G} {H0 : Heap} {X : xH} {tk a0 a1 i : Nat} {v2 v3 v4 v5 : Value} (htk : X tk = some (.inr (0, [.ref a0, .ref a1, v2, v3, v4, v5]))) (hi : i < 2) : xMet l D H0 y_TK_machineOf b_TK_machineOf 2 (some (.object "TwinKeepers$Machine")) [] 0 0 0 [.ref tk, .int (nI i)] X (fun o X' => o = .inl (some (.ref (if i = 0 then a0 else a1))) ∧ X' = X) := by
  refine ⟨[some (.ref tk), some (.int (nI i))], rfl, Nat.le_of_ble_eq_true rfl, fun E hD hH hl _ C => ?_⟩
  subst hD
  subst hH
  subst hl
  refine xr_iload_n C d_TK_machineOf_0 1 rfl rfl ?_
  refine xr_if_lt C d_TK_machineOf_1 4 9 rfl (by decide) (fun h => absurd h (nI_pos (by omega))) (fun _ => ?_)
  refine xr_iload_n C d_TK_machineOf_4 5 rfl rfl ?_
  refine xr_iconst (v := 1) C d_TK_machineOf_5 6 rfl (by decide) ?_
  refine xr_icmp_le C d_TK_machineOf_6 9 19 rfl (by decide) (fun _ => ?_) (fun h => absurd (nI_le (show i ≤ 1 by omega) (by omega)) h)
  refine xr_iload_n C d_TK_machineOf_19 20 rfl rfl ?_
  by_cases h0 : i = 0
  · subst h0
    refine xr_if_ne C d_TK_machineOf_20 23 30 rfl (by decide) (fun h => absurd rfl h) (fun _ => ?_)
    refine xr_aload_n C d_TK_machineOf_23 24 rfl rfl ?_
    refine xr_get C K_TK 0 d_TK_machineOf_24 27 rfl q_117 (Or.inl rfl) rfl (by first | assumption | exact xup_self | exact (xup_ne (by assumption)).trans (by assumption) | exact (xup_ne (Ne.symm (by assumption))).trans (by assumption) | exact (xup_ne (by assumption)).trans xup_self | exact (xup_ne (Ne.symm (by assumption))).trans xup_self) rfl ?_
    refine xr_goto C d_TK_machineOf_27 34 (by decide) ?_
    exact xr_aret C d_TK_machineOf_34 (Or.inl ⟨_, rfl⟩) (by omega) (by omega) ⟨rfl, rfl⟩
  · have h1 : i = 1 := by omega
    subst h1
    refine xr_if_ne C d_TK_machineOf_20 23 30 rfl (by decide) (fun _ => ?_) (fun h => absurd h (by decide))
    refine xr_aload_n C d_TK_machineOf_30 31 rfl rfl ?_
    refine xr_get C K_TK 1 d_TK_machineOf_31 34 rfl q_118 (Or.inl rfl) rfl (by first | assumption | exact xup_self | exact (xup_ne (by assumption)).trans (by assumption) | exact (xup_ne (Ne.symm (by assumption))).trans (by assumption) | exact (xup_ne (by assumption)).trans xup_self | exact (xup_ne (Ne.symm (by assumption))).trans xup_self) rfl ?_
    exact xr_aret C d_TK_machineOf_34 (Or.inl ⟨_, rfl⟩) (by omega) (by omega) ⟨rfl, rfl⟩
set_option maxRecDepth 100000 in
set_option maxHeartbeats 4000000 in
theorem c_TK_machineOfX {l : Launch} {D : va_G} {H0 : Heap} {X : xH} {tk : Nat} {z : Int32} (hz : z < 0 ∨ nI 2 ≤ z) : xMet l D H0 y_TK_machineOf b_TK_machineOf 2 (some (.object "TwinKeepers$Machine")) [] 0 1 6 [.ref tk, .int z] X (fun o X' => o = .inr "java/lang/IndexOutOfBoundsException" ∧ X' = X) := by
  refine ⟨[some (.ref tk), some (.int z)], rfl, Nat.le_of_ble_eq_true rfl, fun E hD hH hl _ C => ?_⟩
  subst hD
  subst hH
  subst hl
  have t : xG E X 0 0 9 [some (.ref tk), some (.int z)] [] := by
    exact xr_throw C rfl d_TK_machineOf_9 d_TK_machineOf_12 d_TK_machineOf_13 d_TK_machineOf_15 d_TK_machineOf_18 tw_IOB xs_209 (Nat.le_of_ble_eq_true rfl) (by omega) (by omega) ⟨rfl, rfl⟩
  refine xr_iload_n C d_TK_machineOf_0 1 rfl rfl ?_
  refine xr_if_lt C d_TK_machineOf_1 4 9 rfl (by decide) (fun _ => t) (fun h1 => ?_)
  refine xr_iload_n C d_TK_machineOf_4 5 rfl rfl ?_
  refine xr_iconst (v := 1) C d_TK_machineOf_5 6 rfl (by decide) ?_
  refine xr_icmp_le C d_TK_machineOf_6 9 19 rfl (by decide) (fun h => ?_) (fun _ => t)
  rcases hz with h | h2
  · exact absurd h h1
  · exact absurd (Int32.le_trans h2 h) (by decide)
set_option maxRecDepth 100000 in
set_option maxHeartbeats 4000000 in
theorem c_TK_takeTape {l : Launch} {D : va_G} {H0 : Heap} {X : xH} {tk : Nat} {v0 v1 v2 v3 v5 : Value} {n : Int32} (htk : X tk = some (.inr (0, [v0, v1, v2, v3, .int n, v5]))) : xMet l D H0 y_TK_takeTape b_TK_takeTape 2 (some .int) [] 0 0 0 [.ref tk] X (fun o X' => o = .inl (some (.int n)) ∧ X' = xup X tk (.inr (0, [v0, v1, v2, v3, .int 0, v5]))) := by
  refine ⟨[some (.ref tk), none], rfl, Nat.le_of_ble_eq_true rfl, fun E hD hH hl _ C => ?_⟩
  subst hD
  subst hH
  subst hl
  refine xr_aload_n C d_TK_takeTape_0 1 rfl rfl ?_
  refine xr_get C K_TK 4 d_TK_takeTape_1 4 rfl q_121 (Or.inl rfl) rfl (by first | assumption | exact xup_self | exact (xup_ne (by assumption)).trans (by assumption) | exact (xup_ne (Ne.symm (by assumption))).trans (by assumption) | exact (xup_ne (by assumption)).trans xup_self | exact (xup_ne (Ne.symm (by assumption))).trans xup_self) rfl ?_
  refine xr_istore_n C d_TK_takeTape_4 5 rfl rfl rfl ?_
  refine xr_aload_n C d_TK_takeTape_5 6 rfl rfl ?_
  refine xr_iconst (v := 0) C d_TK_takeTape_6 7 rfl (by decide) ?_
  refine xr_put C K_TK 4 d_TK_takeTape_7 10 rfl q_121 (Or.inl rfl) rfl rfl rfl rfl (by first | assumption | exact xup_self | exact (xup_ne (by assumption)).trans (by assumption) | exact (xup_ne (Ne.symm (by assumption))).trans (by assumption) | exact (xup_ne (by assumption)).trans xup_self | exact (xup_ne (Ne.symm (by assumption))).trans xup_self) rfl rfl ?_
  refine xr_iload_n C d_TK_takeTape_10 11 rfl rfl ?_
  exact xr_iret C d_TK_takeTape_11 (by omega) (by omega) ⟨rfl, rfl⟩
set_option maxRecDepth 100000 in
set_option maxHeartbeats 4000000 in
theorem c_TK_kindOf {l : Launch} {D : va_G} {H0 : Heap} {X : xH} {s : Nat} (hs : s < 2 ^ 31) : xMet l D H0 y_TK_kindOf b_TK_kindOf 1 (some .int) [] 0 0 0 [.int (nI s)] X (fun o X' => o = .inl (some (.int (nI (s % 8)))) ∧ X' = X) := by
  refine ⟨[some (.int (nI s))], rfl, Nat.le_of_ble_eq_true rfl, fun E hD hH hl _ C => ?_⟩
  subst hD
  subst hH
  subst hl
  refine xr_iload_n C d_TK_kindOf_0 1 rfl rfl ?_
  refine xr_bipush (v := 7) C d_TK_kindOf_1 3 rfl (by decide) ?_
  refine xr_iand C d_TK_kindOf_3 4 rfl ?_
  refine xr_toi (show _ = nI (s % 8) from pk_andN (by omega) 3 (by decide)) ?_
  exact xr_iret C d_TK_kindOf_4 (by omega) (by omega) ⟨rfl, rfl⟩
set_option maxRecDepth 100000 in
set_option maxHeartbeats 4000000 in
theorem c_TK_operationKeySize {l : Launch} {D : va_G} {H0 : Heap} {X : xH} {s : Nat} (hs : s < 2 ^ 31) : xMet l D H0 y_TK_operationKeySize b_TK_operationKeySize 1 (some .int) [] 0 0 0 [.int (nI s)] X (fun o X' => o = .inl (some (.int (nI (s / 8 % 64)))) ∧ X' = X) := by
  refine ⟨[some (.int (nI s))], rfl, Nat.le_of_ble_eq_true rfl, fun E hD hH hl _ C => ?_⟩
  subst hD
  subst hH
  subst hl
  refine xr_iload_n C d_TK_operationKeySize_0 1 rfl rfl ?_
  refine xr_iconst (v := 3) C d_TK_operationKeySize_1 2 rfl (by decide) ?_
  refine xr_ishr C d_TK_operationKeySize_2 3 rfl ?_
  refine xr_toi (show _ = nI (s / 8) from pk_shrN (by omega) _ 3 (by decide)) ?_
  refine xr_bipush (v := 63) C d_TK_operationKeySize_3 5 rfl (by decide) ?_
  refine xr_iand C d_TK_operationKeySize_5 6 rfl ?_
  refine xr_toi (show _ = nI (s / 8 % 64) from pk_andN (by omega) 6 (by decide)) ?_
  exact xr_iret C d_TK_operationKeySize_6 (by omega) (by omega) ⟨rfl, rfl⟩
set_option maxRecDepth 100000 in
set_option maxHeartbeats 4000000 in
theorem c_TK_expectedSize {l : Launch} {D : va_G} {H0 : Heap} {X : xH} {s : Nat} (hs : s < 2 ^ 31) : xMet l D H0 y_TK_expectedSize b_TK_expectedSize 1 (some .int) [] 0 0 0 [.int (nI s)] X (fun o X' => o = .inl (some (.int (nI (s / 512)))) ∧ X' = X) := by
  refine ⟨[some (.int (nI s))], rfl, Nat.le_of_ble_eq_true rfl, fun E hD hH hl _ C => ?_⟩
  subst hD
  subst hH
  subst hl
  refine xr_iload_n C d_TK_expectedSize_0 1 rfl rfl ?_
  refine xr_bipush (v := 9) C d_TK_expectedSize_1 3 rfl (by decide) ?_
  refine xr_ishr C d_TK_expectedSize_3 4 rfl ?_
  refine xr_toi (show _ = nI (s / 512) from pk_shrN (by omega) _ 9 (by decide)) ?_
  exact xr_iret C d_TK_expectedSize_4 (by omega) (by omega) ⟨rfl, rfl⟩
set_option maxRecDepth 100000 in
set_option maxHeartbeats 4000000 in
theorem c_TK_readingKeySize {l : Launch} {D : va_G} {H0 : Heap} {X : xH} {s : Nat} (hs : s < 2 ^ 31) : xMet l D H0 y_TK_readingKeySize b_TK_readingKeySize 1 (some .int) [] 0 0 0 [.int (nI s)] X (fun o X' => o = .inl (some (.int (nI (s / 8)))) ∧ X' = X) := by
  refine ⟨[some (.int (nI s))], rfl, Nat.le_of_ble_eq_true rfl, fun E hD hH hl _ C => ?_⟩
  subst hD
  subst hH
  subst hl
  refine xr_iload_n C d_TK_readingKeySize_0 1 rfl rfl ?_
  refine xr_iconst (v := 3) C d_TK_readingKeySize_1 2 rfl (by decide) ?_
  refine xr_ishr C d_TK_readingKeySize_2 3 rfl ?_
  refine xr_toi (show _ = nI (s / 8) from pk_shrN (by omega) _ 3 (by decide)) ?_
  exact xr_iret C d_TK_readingKeySize_3 (by omega) (by omega) ⟨rfl, rfl⟩
theorem le_int {x y : Int32} {a b : Int} (hx : x.toInt = a) (hy : y.toInt = b) : x ≤ y ↔ a ≤ b := by rw [Int32.le_iff_toInt_le, hx, hy]
theorem lt_int {x y : Int32} {a b : Int} (hx : x.toInt = a) (hy : y.toInt = b) : x < y ↔ a < b := by rw [Int32.lt_iff_toInt_lt, hx, hy]
set_option maxRecDepth 100000 in
set_option maxHeartbeats 4000000 in
theorem c_TK_isKeySize {l : Launch} {D : va_G} {H0 : Heap} {X : xH} {z : Int32} {a : Int} (hz : z.toInt = a) : xMet l D H0 y_TK_isKeySize b_TK_isKeySize 1 (some .boolean) [] 0 0 0 [.int z] X (fun o X' => o = .inl (some (.int (if 1 ≤ a ∧ a ≤ 32 then 1 else 0))) ∧ X' = X) := by
  refine ⟨[some (.int z)], rfl, Nat.le_of_ble_eq_true rfl, fun E hD hH hl _ C => ?_⟩
  subst hD
  subst hH
  subst hl
  have no : ¬ (1 ≤ a ∧ a ≤ 32) → xG E X 0 0 15 [some (.int z)] [] := by
    intro h
    refine xr_iconst (v := 0) C d_TK_isKeySize_15 16 rfl (by decide) ?_
    exact xr_zret C d_TK_isKeySize_16 rfl (by omega) (by omega) ⟨by rw [if_neg h], rfl⟩
  refine xr_iload_n C d_TK_isKeySize_0 1 rfl rfl ?_
  refine xr_iconst (v := 1) C d_TK_isKeySize_1 2 rfl (by decide) ?_
  refine xr_icmp_lt C d_TK_isKeySize_2 5 15 rfl (by decide) (fun h => no (fun q => by have := (lt_int (b := 1) hz rfl).mp h; omega)) (fun h2 => ?_)
  refine xr_iload_n C d_TK_isKeySize_5 6 rfl rfl ?_
  refine xr_bipush (v := 32) C d_TK_isKeySize_6 8 rfl (by decide) ?_
  refine xr_icmp_gt C d_TK_isKeySize_8 11 15 rfl (by decide) (fun h => no (fun q => by have := (lt_int (a := 32) rfl hz).mp h; omega)) (fun h8 => ?_)
  refine xr_iconst (v := 1) C d_TK_isKeySize_11 12 rfl (by decide) ?_
  refine xr_goto C d_TK_isKeySize_12 16 (by decide) ?_
  exact xr_zret C d_TK_isKeySize_16 rfl (by omega) (by omega) ⟨by rw [if_pos ⟨by have := mt (lt_int (b := 1) hz rfl).mpr h2; omega, by have := mt (lt_int (a := 32) rfl hz).mpr h8; omega⟩], rfl⟩
set_option maxRecDepth 100000 in
set_option maxHeartbeats 4000000 in
theorem c_TK_isValueSize {l : Launch} {D : va_G} {H0 : Heap} {X : xH} {z : Int32} {a : Int} (hz : z.toInt = a) : xMet l D H0 y_TK_isValueSize b_TK_isValueSize 1 (some .boolean) [] 0 0 0 [.int z] X (fun o X' => o = .inl (some (.int (if 0 ≤ a ∧ a ≤ 100 then 1 else 0))) ∧ X' = X) := by
  refine ⟨[some (.int z)], rfl, Nat.le_of_ble_eq_true rfl, fun E hD hH hl _ C => ?_⟩
  subst hD
  subst hH
  subst hl
  have no : ¬ (0 ≤ a ∧ a ≤ 100) → xG E X 0 0 14 [some (.int z)] [] := by
    intro h
    refine xr_iconst (v := 0) C d_TK_isValueSize_14 15 rfl (by decide) ?_
    exact xr_zret C d_TK_isValueSize_15 rfl (by omega) (by omega) ⟨by rw [if_neg h], rfl⟩
  refine xr_iload_n C d_TK_isValueSize_0 1 rfl rfl ?_
  refine xr_if_lt C d_TK_isValueSize_1 4 14 rfl (by decide) (fun h => no (fun q => by have := (lt_int (b := 0) hz rfl).mp h; omega)) (fun h2 => ?_)
  refine xr_iload_n C d_TK_isValueSize_4 5 rfl rfl ?_
  refine xr_bipush (v := 100) C d_TK_isValueSize_5 7 rfl (by decide) ?_
  refine xr_icmp_gt C d_TK_isValueSize_7 10 14 rfl (by decide) (fun h => no (fun q => by have := (lt_int (a := 100) rfl hz).mp h; omega)) (fun h8 => ?_)
  refine xr_iconst (v := 1) C d_TK_isValueSize_10 11 rfl (by decide) ?_
  refine xr_goto C d_TK_isValueSize_11 15 (by decide) ?_
  exact xr_zret C d_TK_isValueSize_15 rfl (by omega) (by omega) ⟨by rw [if_pos ⟨by have := mt (lt_int (b := 0) hz rfl).mpr h2; omega, by have := mt (lt_int (a := 100) rfl hz).mpr h8; omega⟩], rfl⟩
abbrev okOp (s n : Nat) : Prop := s % 8 ≤ 2 ∧ (1 ≤ s / 8 % 64 ∧ s / 8 % 64 ≤ 32) ∧ (if s % 8 = 1 then s / 512 ≤ 100 else s / 512 = 0) ∧ (if s % 8 = 2 then n = s / 8 % 64 + s / 512 else s / 8 % 64 + s / 512 ≤ n ∧ n ≤ s / 8 % 64 + s / 512 + 100)
abbrev okRd (s n : Nat) : Prop := (3 ≤ s % 8 ∧ s % 8 ≤ 5) ∧ (1 ≤ s / 8 ∧ s / 8 ≤ 32) ∧ (if s % 8 = 4 then s / 8 + 1 ≤ n ∧ n ≤ s / 8 + 32 else n = s / 8)
theorem sub2_int {a b : Nat} (ha : a < 2 ^ 30) (hb : b < 2 ^ 30) : (nI a - nI b).toInt = (a : Int) - b := pk_sub_toInt ha hb
theorem sub3_int {a b c : Nat} (ha : a < 2 ^ 20) (hb : b < 2 ^ 20) (hc : c < 2 ^ 23) : (nI a - nI b - nI c).toInt = (a : Int) - b - c := by
  rw [Int32.toInt_sub, pk_sub_toInt (by omega) (by omega), nI_int (by omega), Int.bmod_def]
  split <;> omega
set_option maxRecDepth 100000 in
set_option maxHeartbeats 4000000 in
theorem c_TK_isOperation {l : Launch} {D : va_G} {H0 : Heap} {X : xH} {s n : Nat} (hs : s < 2 ^ 31) (hn : n ≤ 300) : xMet l D H0 y_TK_isOperation b_TK_isOperation 5 (some .boolean) [] 1 0 0 [.int (nI s), .int (nI n)] X (fun o X' => o = .inl (some (.int (if okOp s n then 1 else 0))) ∧ X' = X) := by
  refine ⟨[some (.int (nI s)), some (.int (nI n)), none, none, none], rfl, Nat.le_of_ble_eq_true rfl, fun E hD hH hl _ C => ?_⟩
  subst hD
  subst hH
  subst hl
  obtain ⟨k, hk⟩ : ∃ k, k = s / 8 % 64 := ⟨_, rfl⟩
  obtain ⟨x, hx⟩ : ∃ x, x = s / 512 := ⟨_, rfl⟩
  obtain ⟨p, hp⟩ : ∃ p, p = s % 8 := ⟨_, rfl⟩
  have hko : okOp s n ↔ p ≤ 2 ∧ (1 ≤ k ∧ k ≤ 32) ∧ (if p = 1 then x ≤ 100 else x = 0) ∧ (if p = 2 then n = k + x else k + x ≤ n ∧ n ≤ k + x + 100) := by rw [hk, hx, hp]
  have k64 : k < 64 := by omega
  have x23 : x < 2 ^ 23 := by omega
  have p8 : p < 8 := by omega
  have no14 : ∀ a b c, ¬ okOp s n → xG E X 0 0 14 [some (.int (nI s)), some (.int (nI n)), a, b, c] [] := by
    intro a b c h
    refine xr_iconst (v := 0) C d_TK_isOperation_14 15 rfl (by decide) ?_
    exact xr_zret C d_TK_isOperation_15 rfl (by omega) (by omega) ⟨by rw [if_neg h], rfl⟩
  have no85 : ∀ a b c, ¬ okOp s n → xG E X 0 0 85 [some (.int (nI s)), some (.int (nI n)), a, b, c] [] := by
    intro a b c h
    refine xr_iconst (v := 0) C d_TK_isOperation_85 86 rfl (by decide) ?_
    exact xr_zret C d_TK_isOperation_86 rfl (by omega) (by omega) ⟨by rw [if_neg h], rfl⟩
  have yes81 : ∀ a b c, okOp s n → xG E X 0 0 81 [some (.int (nI s)), some (.int (nI n)), a, b, c] [] := by
    intro a b c h
    refine xr_iconst (v := 1) C d_TK_isOperation_81 82 rfl (by decide) ?_
    refine xr_goto C d_TK_isOperation_82 86 (by decide) ?_
    exact xr_zret C d_TK_isOperation_86 rfl (by omega) (by omega) ⟨by rw [if_pos h], rfl⟩
  have t60 : p ≤ 2 → (1 ≤ k ∧ k ≤ 32) → (if p = 1 then x ≤ 100 else x = 0) → xG E X 0 0 60 [some (.int (nI s)), some (.int (nI n)), some (.int (nI p)), some (.int (nI x)), some (.int (nI n - nI k - nI x))] [] := by
    intro g1 g2 g3
    have hv := sub3_int (a := n) (b := k) (c := x) (by omega) (by omega) (by omega)
    refine xr_iload_n C d_TK_isOperation_60 61 rfl rfl ?_
    refine xr_iconst (v := 2) C d_TK_isOperation_61 62 rfl (by decide) ?_
    refine xr_toi (show _ = nI 2 from rfl) ?_
    refine xr_icmp_ne C d_TK_isOperation_62 65 73 rfl (by decide) (fun h => ?_) (fun h => ?_)
    · have hp2 : ¬ p = 2 := fun e => h (by rw [e])
      refine xr_iload C d_TK_isOperation_73 75 rfl rfl ?_
      refine xr_callS C (c_TK_isValueSize hv) k_TK_isValueSize d_TK_isOperation_75 78 rfl (Or.inl q_419) s_TK_isValueSize in_TK_isValueSize h_TK_isValueSize rfl ⟨Nat.le_of_ble_eq_true rfl, Nat.le_of_ble_eq_true rfl, Nat.le_of_ble_eq_true rfl⟩ (by omega) (by omega) (fun v9 X hP => ?_) (fun _ _ h => absurd h.1 (by simp))
      obtain ⟨h1, rfl⟩ := hP
      cases h1
      by_cases hc : (0 : Int) ≤ (n : Int) - k - x ∧ (n : Int) - k - x ≤ 100
      · refine xr_toi (if_pos hc) ?_
        refine xr_if_eq C d_TK_isOperation_78 81 85 rfl (by decide) (fun h => absurd h (by decide)) (fun _ => yes81 _ _ _ (hko.mpr ⟨g1, g2, g3, by rw [if_neg hp2]; omega⟩))
      · refine xr_toi (if_neg hc) ?_
        refine xr_if_eq C d_TK_isOperation_78 81 85 rfl (by decide) (fun _ => no85 _ _ _ (fun q => by have h9 := (hko.mp q).2.2.2; rw [if_neg hp2] at h9; omega)) (fun h => absurd rfl h)
    · have hp2 : p = 2 := (nI_eq (by omega) (by omega)).mp h
      refine xr_iload C d_TK_isOperation_65 67 rfl rfl ?_
      refine xr_if_ne C d_TK_isOperation_67 70 85 rfl (by decide) (fun h => no85 _ _ _ (fun q => by have h9 := (hko.mp q).2.2.2; rw [if_pos hp2] at h9; exact h (Int32.toInt_inj.mp (hv.trans (show _ = (0 : Int) by omega))))) (fun h => ?_)
      refine xr_goto C d_TK_isOperation_70 81 (by decide) ?_
      have h0 : (n : Int) - k - x = 0 := by rw [← hv, h]; rfl
      exact yes81 _ _ _ (hko.mpr ⟨g1, g2, g3, by rw [if_pos hp2]; omega⟩)
  refine xr_iload_n C d_TK_isOperation_0 1 rfl rfl ?_
  refine xr_callS C (c_TK_kindOf hs) k_TK_kindOf d_TK_isOperation_1 4 rfl (Or.inl q_407) s_TK_kindOf in_TK_kindOf h_TK_kindOf rfl ⟨Nat.le_of_ble_eq_true rfl, Nat.le_of_ble_eq_true rfl, Nat.le_of_ble_eq_true rfl⟩ (by omega) (by omega) (fun v9 X hP => ?_) (fun _ _ h => absurd h.1 (by simp))
  obtain ⟨h1, rfl⟩ := hP
  cases h1
  refine xr_toi (show _ = nI p by rw [hp]) ?_
  refine xr_istore_n C d_TK_isOperation_4 5 rfl rfl rfl ?_
  refine xr_iload_n C d_TK_isOperation_5 6 rfl rfl ?_
  refine xr_if_lt C d_TK_isOperation_6 9 14 rfl (by decide) (fun h => absurd h (nI_pos (by omega))) (fun _ => ?_)
  refine xr_iload_n C d_TK_isOperation_9 10 rfl rfl ?_
  refine xr_iconst (v := 2) C d_TK_isOperation_10 11 rfl (by decide) ?_
  refine xr_toi (show _ = nI 2 from rfl) ?_
  refine xr_icmp_le C d_TK_isOperation_11 14 16 rfl (by decide) (fun h11 => ?_) (fun h => no14 _ _ _ (fun q => h (nI_le (hko.mp q).1 (by omega))))
  have g1 : p ≤ 2 := (nI_leI (by omega) (by omega)).mp h11
  refine xr_iload_n C d_TK_isOperation_16 17 rfl rfl ?_
  refine xr_callS C (c_TK_expectedSize hs) k_TK_expectedSize d_TK_isOperation_17 20 rfl (Or.inl q_410) s_TK_expectedSize in_TK_expectedSize h_TK_expectedSize rfl ⟨Nat.le_of_ble_eq_true rfl, Nat.le_of_ble_eq_true rfl, Nat.le_of_ble_eq_true rfl⟩ (by omega) (by omega) (fun v9 X hP => ?_) (fun _ _ h => absurd h.1 (by simp))
  obtain ⟨h1, rfl⟩ := hP
  cases h1
  refine xr_toi (show _ = nI x by rw [hx]) ?_
  refine xr_istore_n C d_TK_isOperation_20 21 rfl rfl rfl ?_
  refine xr_iload_n C d_TK_isOperation_21 22 rfl rfl ?_
  refine xr_iload_n C d_TK_isOperation_22 23 rfl rfl ?_
  refine xr_callS C (c_TK_operationKeySize hs) k_TK_operationKeySize d_TK_isOperation_23 26 rfl (Or.inl q_413) s_TK_operationKeySize in_TK_operationKeySize h_TK_operationKeySize rfl ⟨Nat.le_of_ble_eq_true rfl, Nat.le_of_ble_eq_true rfl, Nat.le_of_ble_eq_true rfl⟩ (by omega) (by omega) (fun v9 X hP => ?_) (fun _ _ h => absurd h.1 (by simp))
  obtain ⟨h1, rfl⟩ := hP
  cases h1
  refine xr_toi (show _ = nI k by rw [hk]) ?_
  refine xr_isub C d_TK_isOperation_26 27 rfl ?_
  refine xr_iload_n C d_TK_isOperation_27 28 rfl rfl ?_
  refine xr_isub C d_TK_isOperation_28 29 rfl ?_
  refine xr_istore C d_TK_isOperation_29 31 rfl rfl rfl ?_
  refine xr_iload_n C d_TK_isOperation_31 32 rfl rfl ?_
  refine xr_callS C (c_TK_operationKeySize hs) k_TK_operationKeySize d_TK_isOperation_32 35 rfl (Or.inl q_413) s_TK_operationKeySize in_TK_operationKeySize h_TK_operationKeySize rfl ⟨Nat.le_of_ble_eq_true rfl, Nat.le_of_ble_eq_true rfl, Nat.le_of_ble_eq_true rfl⟩ (by omega) (by omega) (fun v9 X hP => ?_) (fun _ _ h => absurd h.1 (by simp))
  obtain ⟨h1, rfl⟩ := hP
  cases h1
  refine xr_toi (show _ = nI k by rw [hk]) ?_
  refine xr_callS C (c_TK_isKeySize (nI_int (show k < 2 ^ 31 by omega))) k_TK_isKeySize d_TK_isOperation_35 38 rfl (Or.inl q_416) s_TK_isKeySize in_TK_isKeySize h_TK_isKeySize rfl ⟨Nat.le_of_ble_eq_true rfl, Nat.le_of_ble_eq_true rfl, Nat.le_of_ble_eq_true rfl⟩ (by omega) (by omega) (fun v9 X hP => ?_) (fun _ _ h => absurd h.1 (by simp))
  obtain ⟨h1, rfl⟩ := hP
  cases h1
  by_cases g2 : (1 : Int) ≤ (k : Int) ∧ (k : Int) ≤ 32
  · refine xr_toi (if_pos g2) ?_
    refine xr_if_eq C d_TK_isOperation_38 41 85 rfl (by decide) (fun h => absurd h (by decide)) (fun _ => ?_)
    refine xr_iload_n C d_TK_isOperation_41 42 rfl rfl ?_
    refine xr_iconst (v := 1) C d_TK_isOperation_42 43 rfl (by decide) ?_
    refine xr_toi (show _ = nI 1 from rfl) ?_
    refine xr_icmp_ne C d_TK_isOperation_43 46 56 rfl (by decide) (fun h => ?_) (fun h => ?_)
    · have hp1 : ¬ p = 1 := fun e => h (by rw [e])
      refine xr_iload_n C d_TK_isOperation_56 57 rfl rfl ?_
      refine xr_if_ne C d_TK_isOperation_57 60 85 rfl (by decide) (fun h => no85 _ _ _ (fun q => by have h9 := (hko.mp q).2.2.1; rw [if_neg hp1] at h9; exact h (by rw [h9]; rfl))) (fun h => ?_)
      have hx0 : x = 0 := (nI_eq (by omega) (by omega)).mp h
      exact t60 g1 ⟨by omega, by omega⟩ (by rw [if_neg hp1]; exact hx0)
    · have hp1 : p = 1 := (nI_eq (by omega) (by omega)).mp h
      refine xr_iload_n C d_TK_isOperation_46 47 rfl rfl ?_
      refine xr_callS C (c_TK_isValueSize (nI_int (show x < 2 ^ 31 by omega))) k_TK_isValueSize d_TK_isOperation_47 50 rfl (Or.inl q_419) s_TK_isValueSize in_TK_isValueSize h_TK_isValueSize rfl ⟨Nat.le_of_ble_eq_true rfl, Nat.le_of_ble_eq_true rfl, Nat.le_of_ble_eq_true rfl⟩ (by omega) (by omega) (fun v9 X hP => ?_) (fun _ _ h => absurd h.1 (by simp))
      obtain ⟨h1, rfl⟩ := hP
      cases h1
      by_cases hc : (0 : Int) ≤ (x : Int) ∧ (x : Int) ≤ 100
      · refine xr_toi (if_pos hc) ?_
        refine xr_if_eq C d_TK_isOperation_50 53 85 rfl (by decide) (fun h => absurd h (by decide)) (fun _ => ?_)
        refine xr_goto C d_TK_isOperation_53 60 (by decide) ?_
        exact t60 g1 ⟨by omega, by omega⟩ (by rw [if_pos hp1]; omega)
      · refine xr_toi (if_neg hc) ?_
        refine xr_if_eq C d_TK_isOperation_50 53 85 rfl (by decide) (fun _ => no85 _ _ _ (fun q => by have h9 := (hko.mp q).2.2.1; rw [if_pos hp1] at h9; omega)) (fun h => absurd rfl h)
  · refine xr_toi (if_neg g2) ?_
    refine xr_if_eq C d_TK_isOperation_38 41 85 rfl (by decide) (fun _ => no85 _ _ _ (fun q => by have h9 := (hko.mp q).2.1; omega)) (fun h => absurd rfl h)
set_option maxRecDepth 100000 in
set_option maxHeartbeats 4000000 in
theorem c_TK_isReading {l : Launch} {D : va_G} {H0 : Heap} {X : xH} {s n : Nat} (hs : s < 2 ^ 31) (hn : n ≤ 300) : xMet l D H0 y_TK_isReading b_TK_isReading 4 (some .boolean) [] 1 0 0 [.int (nI s), .int (nI n)] X (fun o X' => o = .inl (some (.int (if okRd s n then 1 else 0))) ∧ X' = X) := by
  refine ⟨[some (.int (nI s)), some (.int (nI n)), none, none], rfl, Nat.le_of_ble_eq_true rfl, fun E hD hH hl _ C => ?_⟩
  subst hD
  subst hH
  subst hl
  obtain ⟨k, hk⟩ : ∃ k, k = s / 8 := ⟨_, rfl⟩
  obtain ⟨p, hp⟩ : ∃ p, p = s % 8 := ⟨_, rfl⟩
  have hko : okRd s n ↔ (3 ≤ p ∧ p ≤ 5) ∧ (1 ≤ k ∧ k ≤ 32) ∧ (if p = 4 then k + 1 ≤ n ∧ n ≤ k + 32 else n = k) := by rw [hk, hp]
  have k28 : k < 2 ^ 28 := by omega
  have p8 : p < 8 := by omega
  have hv := sub2_int (a := n) (b := k) (by omega) (by omega)
  have no19 : ∀ a b, ¬ okRd s n → xG E X 0 0 19 [some (.int (nI s)), some (.int (nI n)), a, b] [] := by
    intro a b h
    refine xr_iconst (v := 0) C d_TK_isReading_19 20 rfl (by decide) ?_
    exact xr_zret C d_TK_isReading_20 rfl (by omega) (by omega) ⟨by rw [if_neg h], rfl⟩
  have no61 : ∀ a b, ¬ okRd s n → xG E X 0 0 61 [some (.int (nI s)), some (.int (nI n)), a, b] [] := by
    intro a b h
    refine xr_iconst (v := 0) C d_TK_isReading_61 62 rfl (by decide) ?_
    exact xr_zret C d_TK_isReading_62 rfl (by omega) (by omega) ⟨by rw [if_neg h], rfl⟩
  have yes57 : ∀ a b, okRd s n → xG E X 0 0 57 [some (.int (nI s)), some (.int (nI n)), a, b] [] := by
    intro a b h
    refine xr_iconst (v := 1) C d_TK_isReading_57 58 rfl (by decide) ?_
    refine xr_goto C d_TK_isReading_58 62 (by decide) ?_
    exact xr_zret C d_TK_isReading_62 rfl (by omega) (by omega) ⟨by rw [if_pos h], rfl⟩
  refine xr_iload_n C d_TK_isReading_0 1 rfl rfl ?_
  refine xr_callS C (c_TK_kindOf hs) k_TK_kindOf d_TK_isReading_1 4 rfl (Or.inl q_407) s_TK_kindOf in_TK_kindOf h_TK_kindOf rfl ⟨Nat.le_of_ble_eq_true rfl, Nat.le_of_ble_eq_true rfl, Nat.le_of_ble_eq_true rfl⟩ (by omega) (by omega) (fun v9 X hP => ?_) (fun _ _ h => absurd h.1 (by simp))
  obtain ⟨h1, rfl⟩ := hP
  cases h1
  refine xr_toi (show _ = nI p by rw [hp]) ?_
  refine xr_istore_n C d_TK_isReading_4 5 rfl rfl rfl ?_
  refine xr_iload_n C d_TK_isReading_5 6 rfl rfl ?_
  refine xr_if_lt C d_TK_isReading_6 9 19 rfl (by decide) (fun h => absurd h (nI_pos (by omega))) (fun _ => ?_)
  refine xr_iload_n C d_TK_isReading_9 10 rfl rfl ?_
  refine xr_iconst (v := 3) C d_TK_isReading_10 11 rfl (by decide) ?_
  refine xr_toi (show _ = nI 3 from rfl) ?_
  refine xr_icmp_lt C d_TK_isReading_11 14 19 rfl (by decide) (fun h => no19 _ _ (fun q => nI_nlt (hko.mp q).1.1 (by omega) h)) (fun h11 => ?_)
  refine xr_iload_n C d_TK_isReading_14 15 rfl rfl ?_
  refine xr_iconst (v := 5) C d_TK_isReading_15 16 rfl (by decide) ?_
  refine xr_toi (show _ = nI 5 from rfl) ?_
  refine xr_icmp_le C d_TK_isReading_16 19 21 rfl (by decide) (fun h16 => ?_) (fun h => no19 _ _ (fun q => h (nI_le (hko.mp q).1.2 (by omega))))
  have g1 : 3 ≤ p ∧ p ≤ 5 := ⟨by
    rcases Nat.lt_or_ge p 3 with h | h
    · exact absurd (nI_lt h (by omega)) h11
    · exact h, (nI_leI (by omega) (by omega)).mp h16⟩
  refine xr_iload_n C d_TK_isReading_21 22 rfl rfl ?_
  refine xr_iload_n C d_TK_isReading_22 23 rfl rfl ?_
  refine xr_callS C (c_TK_readingKeySize hs) k_TK_readingKeySize d_TK_isReading_23 26 rfl (Or.inl q_791) s_TK_readingKeySize in_TK_readingKeySize h_TK_readingKeySize rfl ⟨Nat.le_of_ble_eq_true rfl, Nat.le_of_ble_eq_true rfl, Nat.le_of_ble_eq_true rfl⟩ (by omega) (by omega) (fun v9 X hP => ?_) (fun _ _ h => absurd h.1 (by simp))
  obtain ⟨h1, rfl⟩ := hP
  cases h1
  refine xr_toi (show _ = nI k by rw [hk]) ?_
  refine xr_isub C d_TK_isReading_26 27 rfl ?_
  refine xr_istore_n C d_TK_isReading_27 28 rfl rfl rfl ?_
  refine xr_iload_n C d_TK_isReading_28 29 rfl rfl ?_
  refine xr_callS C (c_TK_readingKeySize hs) k_TK_readingKeySize d_TK_isReading_29 32 rfl (Or.inl q_791) s_TK_readingKeySize in_TK_readingKeySize h_TK_readingKeySize rfl ⟨Nat.le_of_ble_eq_true rfl, Nat.le_of_ble_eq_true rfl, Nat.le_of_ble_eq_true rfl⟩ (by omega) (by omega) (fun v9 X hP => ?_) (fun _ _ h => absurd h.1 (by simp))
  obtain ⟨h1, rfl⟩ := hP
  cases h1
  refine xr_toi (show _ = nI k by rw [hk]) ?_
  refine xr_callS C (c_TK_isKeySize (nI_int (show k < 2 ^ 31 by omega))) k_TK_isKeySize d_TK_isReading_32 35 rfl (Or.inl q_416) s_TK_isKeySize in_TK_isKeySize h_TK_isKeySize rfl ⟨Nat.le_of_ble_eq_true rfl, Nat.le_of_ble_eq_true rfl, Nat.le_of_ble_eq_true rfl⟩ (by omega) (by omega) (fun v9 X hP => ?_) (fun _ _ h => absurd h.1 (by simp))
  obtain ⟨h1, rfl⟩ := hP
  cases h1
  by_cases g2 : (1 : Int) ≤ (k : Int) ∧ (k : Int) ≤ 32
  · refine xr_toi (if_pos g2) ?_
    refine xr_if_eq C d_TK_isReading_35 38 61 rfl (by decide) (fun h => absurd h (by decide)) (fun _ => ?_)
    refine xr_iload_n C d_TK_isReading_38 39 rfl rfl ?_
    refine xr_iconst (v := 4) C d_TK_isReading_39 40 rfl (by decide) ?_
    refine xr_toi (show _ = nI 4 from rfl) ?_
    refine xr_icmp_ne C d_TK_isReading_40 43 53 rfl (by decide) (fun h => ?_) (fun h => ?_)
    · have hp1 : ¬ p = 4 := fun e => h (by rw [e])
      refine xr_iload_n C d_TK_isReading_53 54 rfl rfl ?_
      refine xr_if_ne C d_TK_isReading_54 57 61 rfl (by decide) (fun h => no61 _ _ (fun q => by have h9 := (hko.mp q).2.2; rw [if_neg hp1] at h9; exact h (Int32.toInt_inj.mp (hv.trans (show _ = (0 : Int) by omega))))) (fun h => ?_)
      have h0 : (n : Int) - k = 0 := by rw [← hv, h]; rfl
      exact yes57 _ _ (hko.mpr ⟨g1, ⟨by omega, by omega⟩, by rw [if_neg hp1]; omega⟩)
    · have hp1 : p = 4 := (nI_eq (by omega) (by omega)).mp h
      refine xr_iload_n C d_TK_isReading_43 44 rfl rfl ?_
      refine xr_callS C (c_TK_isKeySize hv) k_TK_isKeySize d_TK_isReading_44 47 rfl (Or.inl q_416) s_TK_isKeySize in_TK_isKeySize h_TK_isKeySize rfl ⟨Nat.le_of_ble_eq_true rfl, Nat.le_of_ble_eq_true rfl, Nat.le_of_ble_eq_true rfl⟩ (by omega) (by omega) (fun v9 X hP => ?_) (fun _ _ h => absurd h.1 (by simp))
      obtain ⟨h1, rfl⟩ := hP
      cases h1
      by_cases hc : (1 : Int) ≤ (n : Int) - k ∧ (n : Int) - k ≤ 32
      · refine xr_toi (if_pos hc) ?_
        refine xr_if_eq C d_TK_isReading_47 50 61 rfl (by decide) (fun h => absurd h (by decide)) (fun _ => ?_)
        refine xr_goto C d_TK_isReading_50 57 (by decide) ?_
        exact yes57 _ _ (hko.mpr ⟨g1, ⟨by omega, by omega⟩, by rw [if_pos hp1]; omega⟩)
      · refine xr_toi (if_neg hc) ?_
        refine xr_if_eq C d_TK_isReading_47 50 61 rfl (by decide) (fun _ => no61 _ _ (fun q => by have h9 := (hko.mp q).2.2; rw [if_pos hp1] at h9; omega)) (fun h => absurd rfl h)
  · refine xr_toi (if_neg g2) ?_
    refine xr_if_eq C d_TK_isReading_35 38 61 rfl (by decide) (fun _ => no61 _ _ (fun q => by have h9 := (hko.mp q).2.1; omega)) (fun h => absurd rfl h)
