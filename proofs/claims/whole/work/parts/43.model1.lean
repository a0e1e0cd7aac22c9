/-! The model: what it looks up. -/
def kSlot (s : MS) (e : Nat) (k : List Int32) : Prop := s.2.1 9 e = nI k.length ∧ ∀ j, j < 4 → s.2.2 10 (4 * e + j) = kW k j
def vSlot (s : MS) (e : Nat) (v : List Int32) : Prop := s.2.1 11 e = nI v.length ∧ ∀ j, j < 13 → s.2.2 12 (13 * e + j) = vW v j
def eSlot (s : MS) (e : Nat) (x : Es) : Prop := kSlot s e x.1 ∧ vSlot s e x.2
def rE (s : MS) (m : Nat) (es : List Es) : Prop := s.2.1 8 m = nI es.length ∧ ∀ i, i < es.length → eSlot s (128 * m + i) (eD es i)
def okB (es : List Es) : Prop := ∀ e ∈ es, isbs e.1 ∧ isbs e.2
def qS (s : MS) (k : List Int32) : Prop := s.1 16 = nI k.length ∧ ∀ j, j < 4 → s.2.2 17 j = kW k j
def tol (s : MS) (a : List Int32) : Prop := s.1 18 = nI a.length ∧ ∀ i, i < a.length → s.2.1 19 i = u8 (a.getD i 0)
theorem kSlot.fr {s s' : MS} {e : Nat} {k : List Int32} {a : List Nat} (h : kSlot s e k) (hf : mFr a s s') (h9 : 9 ∉ a) (h10 : 10 ∉ a) : kSlot s' e k := ⟨by rw [(hf 9 h9).2.1]; exact h.1, fun j hj => by rw [(hf 10 h10).2.2]; exact h.2 j hj⟩
theorem vSlot.fr {s s' : MS} {e : Nat} {k : List Int32} {a : List Nat} (h : vSlot s e k) (hf : mFr a s s') (h9 : 11 ∉ a) (h10 : 12 ∉ a) : vSlot s' e k := ⟨by rw [(hf 11 h9).2.1]; exact h.1, fun j hj => by rw [(hf 12 h10).2.2]; exact h.2 j hj⟩
theorem eSlot.fr {s s' : MS} {e : Nat} {x : Es} {a : List Nat} (h : eSlot s e x) (hf : mFr a s s') (h1 : 9 ∉ a ∧ 10 ∉ a ∧ 11 ∉ a ∧ 12 ∉ a) : eSlot s' e x := ⟨h.1.fr hf h1.1 h1.2.1, h.2.fr hf h1.2.2.1 h1.2.2.2⟩
theorem rE.fr {s s' : MS} {m : Nat} {es : List Es} {a : List Nat} (h : rE s m es) (hf : mFr a s s') (h1 : 8 ∉ a ∧ 9 ∉ a ∧ 10 ∉ a ∧ 11 ∉ a ∧ 12 ∉ a) : rE s' m es := ⟨by rw [(hf 8 h1.1).2.1]; exact h.1, fun i hi => (h.2 i hi).fr hf h1.2⟩
theorem qS.fr {s s' : MS} {k : List Int32} {a : List Nat} (h : qS s k) (hf : mFr a s s') (h1 : 16 ∉ a ∧ 17 ∉ a) : qS s' k := ⟨by rw [(hf 16 h1.1).1]; exact h.1, fun j hj => by rw [(hf 17 h1.2).2.2]; exact h.2 j hj⟩
theorem tol.fr {s s' : MS} {k : List Int32} {a : List Nat} (h : tol s k) (hf : mFr a s s') (h1 : 18 ∉ a ∧ 19 ∉ a) : tol s' k := ⟨by rw [(hf 18 h1.1).1]; exact h.1, fun j hj => by rw [(hf 19 h1.2).2.1]; exact h.2 j hj⟩
set_option maxRecDepth 100000 in
set_option maxHeartbeats 4000000 in
theorem c_Mo_thrown {l : Launch} {D : va_G} {H0 : Heap} {X0 : xH} {A : Nat → Nat} {s : MS} (hA : mInj A)  : xMet l D H0 y_Mo_thrown b_Mo_thrown 1 (some .int) [] 0 0 0 [.ref (A 0)] (mX D X0 A s) (fun o X' => o = .inl (some (.int (s.1 0))) ∧ X' = mX D X0 A s) := by
  refine ⟨[some (.ref (A 0))], rfl, Nat.le_of_ble_eq_true rfl, fun E hD hH hl _ C => ?_⟩
  subst hD
  subst hH
  subst hl
  refine xr_aload_n C d_Mo_thrown_0 1 rfl rfl ?_
  refine xr_get C K_Mo 0 d_Mo_thrown_1 4 rfl q_940 (Or.inl rfl) rfl (mX_o hA) rfl ?_
  exact xr_iret C d_Mo_thrown_4 (by omega) (by omega) ⟨rfl, rfl⟩
set_option maxRecDepth 100000 in
set_option maxHeartbeats 4000000 in
theorem c_Mo_place {l : Launch} {D : va_G} {H0 : Heap} {X0 : xH} {A : Nat → Nat} {s : MS} (hA : mInj A)  : xMet l D H0 y_Mo_place b_Mo_place 1 (some .int) [] 0 0 0 [.ref (A 0)] (mX D X0 A s) (fun o X' => o = .inl (some (.int (s.1 20))) ∧ X' = mX D X0 A (setS s 0 0)) := by
  refine ⟨[some (.ref (A 0))], rfl, Nat.le_of_ble_eq_true rfl, fun E hD hH hl _ C => ?_⟩
  subst hD
  subst hH
  subst hl
  refine xr_aload_n C d_Mo_place_0 1 rfl rfl ?_
  refine xr_iconst (v := 0) C d_Mo_place_1 2 rfl (by decide) ?_
  refine xr_put C K_Mo 0 d_Mo_place_2 5 rfl q_940 (Or.inl rfl) rfl rfl rfl rfl (mX_o hA) rfl rfl ?_
  obtain ⟨sa, hsa⟩ : ∃ zz9, zz9 = setS s 0 (nI 0) := ⟨_, rfl⟩
  refine xG.eqX (show _ = mX E.D X0 A sa from (mX_f0 (v := (nI 0)) hA).trans (by rw [hsa])) ?_
  refine xr_aload_n C d_Mo_place_5 6 rfl rfl ?_
  refine xr_get C K_Mo 20 d_Mo_place_6 9 rfl q_960 (Or.inl rfl) rfl (mX_o hA) rfl ?_
  exact xr_iret C d_Mo_place_9 (by omega) (by omega) ⟨by rw [hsa]; rfl, by rw [hsa]; rfl⟩
set_option maxRecDepth 100000 in
set_option maxHeartbeats 4000000 in
theorem c_Mo_fail {l : Launch} {D : va_G} {H0 : Heap} {X0 : xH} {A : Nat → Nat} {s : MS} (hA : mInj A) {c : Int32} : xMet l D H0 y_Mo_fail b_Mo_fail 2 (some .int) [] 0 0 0 [.ref (A 0), .int c] (mX D X0 A s) (fun o X' => o = .inl (some (.int 0)) ∧ X' = mX D X0 A (setS s 0 c)) := by
  refine ⟨[some (.ref (A 0)), some (.int c)], rfl, Nat.le_of_ble_eq_true rfl, fun E hD hH hl _ C => ?_⟩
  subst hD
  subst hH
  subst hl
  refine xr_aload_n C d_Mo_fail_0 1 rfl rfl ?_
  refine xr_iload_n C d_Mo_fail_1 2 rfl rfl ?_
  refine xr_put C K_Mo 0 d_Mo_fail_2 5 rfl q_940 (Or.inl rfl) rfl rfl rfl rfl (mX_o hA) rfl rfl ?_
  obtain ⟨sa, hsa⟩ : ∃ zz9, zz9 = setS s 0 (c) := ⟨_, rfl⟩
  refine xG.eqX (show _ = mX E.D X0 A sa from (mX_f0 (v := (c)) hA).trans (by rw [hsa])) ?_
  refine xr_iconst (v := 0) C d_Mo_fail_5 6 rfl (by decide) ?_
  exact xr_iret C d_Mo_fail_6 (by omega) (by omega) ⟨rfl, by rw [hsa]⟩
set_option maxRecDepth 100000 in
set_option maxHeartbeats 4000000 in
theorem c_Mo_within {l : Launch} {D : va_G} {H0 : Heap} {X : xH} {v a b : Int32} : xMet l D H0 y_Mo_within b_Mo_within 3 (some .boolean) [] 0 0 0 [.int v, .int a, .int b] X (fun o X' => o = .inl (some (.int (if a ≤ v ∧ v ≤ b then 1 else 0))) ∧ X' = X) := by
  refine ⟨[some (.int v), some (.int a), some (.int b)], rfl, Nat.le_of_ble_eq_true rfl, fun E hD hH hl _ C => ?_⟩
  subst hD
  subst hH
  subst hl
  have no : ¬ (a ≤ v ∧ v ≤ b) → xG E X 0 0 14 [some (.int v), some (.int a), some (.int b)] [] := by
    intro h
    refine xr_iconst (v := 0) C d_Mo_within_14 15 rfl (by decide) ?_
    exact xr_zret C d_Mo_within_15 rfl (by omega) (by omega) ⟨by rw [if_neg h], rfl⟩
  refine xr_iload_n C d_Mo_within_0 1 rfl rfl ?_
  refine xr_iload_n C d_Mo_within_1 2 rfl rfl ?_
  refine xr_icmp_lt C d_Mo_within_2 5 14 rfl (by decide) (fun h => no (fun q => absurd q.1 (Int32.not_le.mpr h))) (fun h2 => ?_)
  refine xr_iload_n C d_Mo_within_5 6 rfl rfl ?_
  refine xr_iload_n C d_Mo_within_6 7 rfl rfl ?_
  refine xr_icmp_gt C d_Mo_within_7 10 14 rfl (by decide) (fun h => no (fun q => absurd q.2 (Int32.not_le.mpr h))) (fun h7 => ?_)
  refine xr_iconst (v := 1) C d_Mo_within_10 11 rfl (by decide) ?_
  refine xr_goto C d_Mo_within_11 15 (by decide) ?_
  exact xr_zret C d_Mo_within_15 rfl (by omega) (by omega) ⟨by rw [if_pos ⟨Int32.not_lt.mp h2, Int32.not_lt.mp h7⟩], rfl⟩
set_option maxRecDepth 100000 in
set_option maxHeartbeats 4000000 in
theorem c_Mo_isMachine {l : Launch} {D : va_G} {H0 : Heap} {X : xH} {v : Int32} : xMet l D H0 y_Mo_isMachine b_Mo_isMachine 1 (some .boolean) [] 0 0 0 [.int v] X (fun o X' => o = .inl (some (.int (if v = 0 ∨ v = 1 then 1 else 0))) ∧ X' = X) := by
  refine ⟨[some (.int v)], rfl, Nat.le_of_ble_eq_true rfl, fun E hD hH hl _ C => ?_⟩
  subst hD
  subst hH
  subst hl
  have yes : (v = 0 ∨ v = 1) → xG E X 0 0 9 [some (.int v)] [] := by
    intro h
    refine xr_iconst (v := 1) C d_Mo_isMachine_9 10 rfl (by decide) ?_
    refine xr_goto C d_Mo_isMachine_10 14 (by decide) ?_
    exact xr_zret C d_Mo_isMachine_14 rfl (by omega) (by omega) ⟨by rw [if_pos h], rfl⟩
  refine xr_iload_n C d_Mo_isMachine_0 1 rfl rfl ?_
  refine xr_if_eq C d_Mo_isMachine_1 4 9 rfl (by decide) (fun h => yes (Or.inl h)) (fun h1 => ?_)
  refine xr_iload_n C d_Mo_isMachine_4 5 rfl rfl ?_
  refine xr_iconst (v := 1) C d_Mo_isMachine_5 6 rfl (by decide) ?_
  refine xr_icmp_ne C d_Mo_isMachine_6 9 13 rfl (by decide) (fun h6 => ?_) (fun h => yes (Or.inr h))
  refine xr_iconst (v := 0) C d_Mo_isMachine_13 14 rfl (by decide) ?_
  exact xr_zret C d_Mo_isMachine_14 rfl (by omega) (by omega) ⟨by rw [if_neg (fun q => q.elim h1 h6)], rfl⟩
set_option maxRecDepth 100000 in
set_option maxHeartbeats 4000000 in
theorem c_Mo_unitsOf {l : Launch} {D : va_G} {H0 : Heap} {X : xH} {n : Nat} (hn : n < 100000) : xMet l D H0 y_Mo_unitsOf b_Mo_unitsOf 1 (some .int) [] 0 0 0 [.int (nI n)] X (fun o X' => o = .inl (some (.int (nI ((n + 15) / 16)))) ∧ X' = X) := by
  refine ⟨[some (.int (nI n))], rfl, Nat.le_of_ble_eq_true rfl, fun E hD hH hl _ C => ?_⟩
  subst hD
  subst hH
  subst hl
  refine xr_iload_n C d_Mo_unitsOf_0 1 rfl rfl ?_
  refine xr_bipush (v := 15) C d_Mo_unitsOf_1 3 rfl (by decide) ?_
  refine xr_iadd C d_Mo_unitsOf_3 4 rfl ?_
  refine xr_toi (show _ = nI (n + 15) from nI_add n 15) ?_
  refine xr_bipush (v := 16) C d_Mo_unitsOf_4 6 rfl (by decide) ?_
  refine xr_idiv C d_Mo_unitsOf_6 7 rfl (by decide) ?_
  refine xr_toi (show _ = nI ((n + 15) / 16) from pk_div (a := (n + 15)) (d := 16) (by omega) (by omega) (by omega)) ?_
  exact xr_iret C d_Mo_unitsOf_7 (by omega) (by omega) ⟨rfl, rfl⟩
set_option maxRecDepth 100000 in
set_option maxHeartbeats 4000000 in
theorem c_Mo_isNext {l : Launch} {D : va_G} {H0 : Heap} {X0 : xH} {A : Nat → Nat} {s : MS} (hA : mInj A) {m : Nat} {v : Int32} (hm : m < 2) : xMet l D H0 y_Mo_isNext b_Mo_isNext 3 (some .boolean) [] 0 0 0 [.ref (A 0), .int (nI m), .int v] (mX D X0 A s) (fun o X' => o = .inl (some (.int (if s.2.1 13 m < v ∧ v ≤ 1000000 then 1 else 0))) ∧ X' = mX D X0 A s) := by
  refine ⟨[some (.ref (A 0)), some (.int (nI m)), some (.int v)], rfl, Nat.le_of_ble_eq_true rfl, fun E hD hH hl _ C => ?_⟩
  subst hD
  subst hH
  subst hl
  have no : ¬ (s.2.1 13 m < v ∧ v ≤ 1000000) → xG E (mX E.D X0 A s) 0 0 20 [some (.ref (A 0)), some (.int (nI m)), some (.int v)] [] := by
    intro h
    refine xr_iconst (v := 0) C d_Mo_isNext_20 21 rfl (by decide) ?_
    exact xr_zret C d_Mo_isNext_21 rfl (by omega) (by omega) ⟨by rw [if_neg h], rfl⟩
  refine xr_iload_n C d_Mo_isNext_0 1 rfl rfl ?_
  refine xr_aload_n C d_Mo_isNext_1 2 rfl rfl ?_
  refine xr_get C K_Mo 13 d_Mo_isNext_2 5 rfl q_953 (Or.inl rfl) rfl (mX_o hA) rfl ?_
  refine xr_iload_n C d_Mo_isNext_5 6 rfl rfl ?_
  refine xr_iald (j := m) C d_Mo_isNext_6 7 rfl (mX_13 hA) rfl (by omega) (by omega) ?_
  refine xr_icmp_le C d_Mo_isNext_7 10 20 rfl (by decide) (fun h => no (fun q => absurd h (Int32.not_le.mpr q.1))) (fun h5 => ?_)
  refine xr_iload_n C d_Mo_isNext_10 11 rfl rfl ?_
  refine xr_ldc (v := 1000000) C d_Mo_isNext_11 13 rfl q_1039 ?_
  refine xr_icmp_gt C d_Mo_isNext_13 16 20 rfl (by decide) (fun h => no (fun q => absurd q.2 (Int32.not_le.mpr h))) (fun h11 => ?_)
  refine xr_iconst (v := 1) C d_Mo_isNext_16 17 rfl (by decide) ?_
  refine xr_goto C d_Mo_isNext_17 21 (by decide) ?_
  exact xr_zret C d_Mo_isNext_21 rfl (by omega) (by omega) ⟨by rw [if_pos ⟨Int32.not_le.mp h5, Int32.not_lt.mp h11⟩], rfl⟩
set_option maxRecDepth 100000 in
set_option maxHeartbeats 4000000 in
theorem c_Mo_keyByte {l : Launch} {D : va_G} {H0 : Heap} {X0 : xH} {A : Nat → Nat} {s : MS} (hA : mInj A) {e q : Nat} {k : List Int32} (he : e < 256) (hk : kSlot s e k) (hq : q < 32) : xMet l D H0 y_Mo_keyByte b_Mo_keyByte 3 (some .int) [] 0 0 0 [.ref (A 0), .int (nI e), .int (nI q)] (mX D X0 A s) (fun o X' => o = .inl (some (.int (nI (pad k q)))) ∧ X' = mX D X0 A s) := by
  refine ⟨[some (.ref (A 0)), some (.int (nI e)), some (.int (nI q))], rfl, Nat.le_of_ble_eq_true rfl, fun E hD hH hl _ C => ?_⟩
  subst hD
  subst hH
  subst hl
  refine xr_aload_n C d_Mo_keyByte_0 1 rfl rfl ?_
  refine xr_get C K_Mo 10 d_Mo_keyByte_1 4 rfl q_950 (Or.inl rfl) rfl (mX_o hA) rfl ?_
  refine xr_iconst (v := 4) C d_Mo_keyByte_4 5 rfl (by decide) ?_
  refine xr_iload_n C d_Mo_keyByte_5 6 rfl rfl ?_
  refine xr_imul C d_Mo_keyByte_6 7 rfl ?_
  refine xr_toi (show _ = nI (4 * e) from pk_mul 4 e) ?_
  refine xr_iload_n C d_Mo_keyByte_7 8 rfl rfl ?_
  refine xr_bipush (v := 8) C d_Mo_keyByte_8 10 rfl (by decide) ?_
  refine xr_idiv C d_Mo_keyByte_10 11 rfl (by decide) ?_
  refine xr_toi (show _ = nI (q / 8) from pk_div (a := q) (d := 8) (by omega) (by omega) (by omega)) ?_
  refine xr_iadd C d_Mo_keyByte_11 12 rfl ?_
  refine xr_toi (show _ = nI ((4 * e) + (q / 8)) from nI_add (4 * e) (q / 8)) ?_
  refine xr_lald (j := ((4 * e) + (q / 8))) C d_Mo_keyByte_12 13 rfl (mX_10 hA) rfl (by omega) (by omega) ?_
  refine xr_tol (show _ = kW k (q / 8) from hk.2 (q / 8) (by omega)) ?_
  refine xr_bipush (v := 56) C d_Mo_keyByte_13 15 rfl (by decide) ?_
  refine xr_bipush (v := 8) C d_Mo_keyByte_15 17 rfl (by decide) ?_
  refine xr_iload_n C d_Mo_keyByte_17 18 rfl rfl ?_
  refine xr_bipush (v := 8) C d_Mo_keyByte_18 20 rfl (by decide) ?_
  refine xr_irem C d_Mo_keyByte_20 21 rfl (by decide) ?_
  refine xr_toi (show _ = nI (q % 8) from pk_rem (a := q) (d := 8) (by omega) (by omega) (by omega)) ?_
  refine xr_imul C d_Mo_keyByte_21 22 rfl ?_
  refine xr_toi (show _ = nI (8 * (q % 8)) from pk_mul 8 (q % 8)) ?_
  refine xr_isub C d_Mo_keyByte_22 23 rfl ?_
  refine xr_toi (show _ = nI (8 * (7 - q % 8)) from (pk_sub (a := 56) (b := 8 * (q % 8)) (by omega)).trans (by congr 1; omega)) ?_
  refine xr_lshr (v := (kW k (q / 8)) >>> sa (8 * (7 - q % 8))) C d_Mo_keyByte_23 24 rfl rfl ?_
  refine xr_ldc2 (v := 255) C d_Mo_keyByte_24 27 rfl q_1027 ?_
  refine xr_land C d_Mo_keyByte_27 28 rfl ?_
  refine xr_l2i C d_Mo_keyByte_28 29 rfl rfl ?_
  refine xr_toi (show _ = nI (pad k q) from (ext8 (by omega)).trans (by rw [kW_by (i := q % 8) (by omega), show 8 * (q / 8) + q % 8 = q by omega])) ?_
  exact xr_iret C d_Mo_keyByte_29 (by omega) (by omega) ⟨rfl, rfl⟩
set_option maxRecDepth 100000 in
set_option maxHeartbeats 4000000 in
theorem c_Mo_valueByte {l : Launch} {D : va_G} {H0 : Heap} {X0 : xH} {A : Nat → Nat} {s : MS} (hA : mInj A) {e q : Nat} {v : List Int32} (he : e < 256) (hk : vSlot s e v) (hq : q < 104) : xMet l D H0 y_Mo_valueByte b_Mo_valueByte 3 (some .int) [] 0 0 0 [.ref (A 0), .int (nI e), .int (nI q)] (mX D X0 A s) (fun o X' => o = .inl (some (.int (nI (pad v q)))) ∧ X' = mX D X0 A s) := by
  refine ⟨[some (.ref (A 0)), some (.int (nI e)), some (.int (nI q))], rfl, Nat.le_of_ble_eq_true rfl, fun E hD hH hl _ C => ?_⟩
  subst hD
  subst hH
  subst hl
  refine xr_aload_n C d_Mo_valueByte_0 1 rfl rfl ?_
  refine xr_get C K_Mo 12 d_Mo_valueByte_1 4 rfl q_952 (Or.inl rfl) rfl (mX_o hA) rfl ?_
  refine xr_bipush (v := 13) C d_Mo_valueByte_4 6 rfl (by decide) ?_
  refine xr_iload_n C d_Mo_valueByte_6 7 rfl rfl ?_
  refine xr_imul C d_Mo_valueByte_7 8 rfl ?_
  refine xr_toi (show _ = nI (13 * e) from pk_mul 13 e) ?_
  refine xr_iload_n C d_Mo_valueByte_8 9 rfl rfl ?_
  refine xr_bipush (v := 8) C d_Mo_valueByte_9 11 rfl (by decide) ?_
  refine xr_idiv C d_Mo_valueByte_11 12 rfl (by decide) ?_
  refine xr_toi (show _ = nI (q / 8) from pk_div (a := q) (d := 8) (by omega) (by omega) (by omega)) ?_
  refine xr_iadd C d_Mo_valueByte_12 13 rfl ?_
  refine xr_toi (show _ = nI ((13 * e) + (q / 8)) from nI_add (13 * e) (q / 8)) ?_
  refine xr_lald (j := ((13 * e) + (q / 8))) C d_Mo_valueByte_13 14 rfl (mX_12 hA) rfl (by omega) (by omega) ?_
  refine xr_tol (show _ = vW v (q / 8) from hk.2 (q / 8) (by omega)) ?_
  refine xr_bipush (v := 8) C d_Mo_valueByte_14 16 rfl (by decide) ?_
  refine xr_iload_n C d_Mo_valueByte_16 17 rfl rfl ?_
  refine xr_bipush (v := 8) C d_Mo_valueByte_17 19 rfl (by decide) ?_
  refine xr_irem C d_Mo_valueByte_19 20 rfl (by decide) ?_
  refine xr_toi (show _ = nI (q % 8) from pk_rem (a := q) (d := 8) (by omega) (by omega) (by omega)) ?_
  refine xr_imul C d_Mo_valueByte_20 21 rfl ?_
  refine xr_toi (show _ = nI (8 * (q % 8)) from pk_mul 8 (q % 8)) ?_
  refine xr_lshr (v := (vW v (q / 8)) >>> sa (8 * (q % 8))) C d_Mo_valueByte_21 22 rfl rfl ?_
  refine xr_ldc2 (v := 255) C d_Mo_valueByte_22 25 rfl q_1027 ?_
  refine xr_land C d_Mo_valueByte_25 26 rfl ?_
  refine xr_l2i C d_Mo_valueByte_26 27 rfl rfl ?_
  refine xr_toi (show _ = nI (pad v q) from (ext8 (by omega)).trans (by rw [vW_by (i := q % 8) (by omega), show 8 * (q / 8) + q % 8 = q by omega])) ?_
  exact xr_iret C d_Mo_valueByte_27 (by omega) (by omega) ⟨rfl, rfl⟩
set_option maxRecDepth 100000 in
set_option maxHeartbeats 4000000 in
theorem c_Mo_before {l : Launch} {D : va_G} {H0 : Heap} {X0 : xH} {A : Nat → Nat} {s : MS} (hA : mInj A) {e : Nat} {k key : List Int32} (he : e < 256) (hk : kSlot s e k) (hq : qS s key) (hk32 : k.length ≤ 32) (hq32 : key.length ≤ 32) : xMet l D H0 y_Mo_before b_Mo_before 7 (some .boolean) [] 0 0 0 [.ref (A 0), .int (nI e)] (mX D X0 A s) (fun o X' => o = .inl (some (.int (if bl k key = true then 1 else 0))) ∧ X' = mX D X0 A s) := by
  refine ⟨[some (.ref (A 0)), some (.int (nI e)), none, none, none, none, none], rfl, Nat.le_of_ble_eq_true rfl, fun E hD hH hl _ C => ?_⟩
  subst hD
  subst hH
  subst hl
  have loop : ∀ (r i : Nat) (x3 x4 x5 x6 : Option Value), xprev [some (.ref (A 0)), some (.int (nI e)), some (.int (nI i)), x3, x4, x5, x6] 3 = true → i + r = 4 → (∀ j, j < i → kW k j = kW key j) → xG E (mX E.D X0 A s) 0 0 2 [some (.ref (A 0)), some (.int (nI e)), some (.int (nI i)), x3, x4, x5, x6] [] := by
    intro r
    induction r with
    | zero =>
      intro i x3 x4 x5 x6 hx hi h1
      have ei : i = 4 := by omega
      subst ei
      refine xr_iload_n C d_Mo_before_2 3 rfl rfl ?_
      refine xr_iconst (v := 4) C d_Mo_before_3 4 rfl (by decide) ?_
      refine xr_toi (show _ = nI 4 from rfl) ?_
      refine xr_icmp_ge C d_Mo_before_4 7 91 rfl (by decide) (fun _ => ?_) (fun h => absurd (nI_le (Nat.le_refl _) (by omega)) h)
      have hbl := kW_bl4 hk32 hq32 h1
      refine xr_aload_n C d_Mo_before_91 92 rfl rfl ?_
      refine xr_get C K_Mo 9 d_Mo_before_92 95 rfl q_949 (Or.inl rfl) rfl (mX_o hA) rfl ?_
      refine xr_iload_n C d_Mo_before_95 96 rfl rfl ?_
      refine xr_iald (j := e) C d_Mo_before_96 97 rfl (mX_9 hA) rfl (by omega) (by omega) ?_
      refine xr_toi (show _ = nI k.length from hk.1) ?_
      refine xr_aload_n C d_Mo_before_97 98 rfl rfl ?_
      refine xr_get C K_Mo 16 d_Mo_before_98 101 rfl q_956 (Or.inl rfl) rfl (mX_o hA) rfl ?_
      refine xr_toi (show _ = nI key.length from hq.1) ?_
      refine xr_icmp_ge C d_Mo_before_101 104 108 rfl (by decide) (fun h => ?_) (fun h => ?_)
      · have hn : ¬ k.length < key.length := fun q => nI_ge q (by omega) h
        refine xr_iconst (v := 0) C d_Mo_before_108 109 rfl (by decide) ?_
        exact xr_zret C d_Mo_before_109 rfl (by omega) (by omega) ⟨by rw [hbl, if_neg (by simp [hn])], rfl⟩
      · have hn : k.length < key.length := by
          rcases Nat.lt_or_ge k.length key.length with q | q
          · exact q
          · exact absurd (nI_le q (by omega)) h
        refine xr_iconst (v := 1) C d_Mo_before_104 105 rfl (by decide) ?_
        refine xr_goto C d_Mo_before_105 109 (by decide) ?_
        exact xr_zret C d_Mo_before_109 rfl (by omega) (by omega) ⟨by rw [hbl, if_pos (by simp [hn])], rfl⟩
    | succ r ih =>
      intro i x3 x4 x5 x6 hx hi h1
      refine xr_iload_n C d_Mo_before_2 3 rfl rfl ?_
      refine xr_iconst (v := 4) C d_Mo_before_3 4 rfl (by decide) ?_
      refine xr_toi (show _ = nI 4 from rfl) ?_
      refine xr_icmp_ge C d_Mo_before_4 7 91 rfl (by decide) (fun h => absurd h (nI_ge (show i < 4 by omega) (by omega))) (fun _ => ?_)
      refine xr_aload_n C d_Mo_before_7 8 rfl rfl ?_
      refine xr_get C K_Mo 10 d_Mo_before_8 11 rfl q_950 (Or.inl rfl) rfl (mX_o hA) rfl ?_
      refine xr_iconst (v := 4) C d_Mo_before_11 12 rfl (by decide) ?_
      refine xr_iload_n C d_Mo_before_12 13 rfl rfl ?_
      refine xr_imul C d_Mo_before_13 14 rfl ?_
      refine xr_toi (show _ = nI (4 * e) from pk_mul 4 e) ?_
      refine xr_iload_n C d_Mo_before_14 15 rfl rfl ?_
      refine xr_iadd C d_Mo_before_15 16 rfl ?_
      refine xr_toi (show _ = nI ((4 * e) + i) from nI_add (4 * e) i) ?_
      refine xr_lald (j := ((4 * e) + i)) C d_Mo_before_16 17 rfl (mX_10 hA) rfl (by omega) (by omega) ?_
      refine xr_tol (show _ = kW k i from hk.2 i (by omega)) ?_
      refine xr_lstore_n C d_Mo_before_17 18 rfl rfl rfl ?_
      refine xr_aload_n C d_Mo_before_18 19 rfl rfl ?_
      refine xr_get C K_Mo 17 d_Mo_before_19 22 rfl q_957 (Or.inl rfl) rfl (mX_o hA) rfl ?_
      refine xr_iload_n C d_Mo_before_22 23 rfl rfl ?_
      refine xr_lald (j := i) C d_Mo_before_23 24 rfl (mX_17 hA) rfl (by omega) (by omega) ?_
      refine xr_tol (show _ = kW key i from hq.2 i (by omega)) ?_
      refine xr_lstore C d_Mo_before_24 26 rfl rfl rfl ?_
      refine xr_lload_n C d_Mo_before_26 27 rfl rfl ?_
      refine xr_lload C d_Mo_before_27 29 rfl rfl ?_
      refine xr_lcmp C d_Mo_before_29 30 rfl ?_
      refine xr_if_eq C d_Mo_before_30 33 85 rfl (by decide) (fun h30 => ?_) (fun h30 => ?_)
      · have he2 : kW k i = kW key i := (lg_cmp_eq _ _).mp h30
        refine xr_iinc (v := 1) C d_Mo_before_85 88 rfl rfl rfl rfl (by decide) ?_
        refine xr_goto C d_Mo_before_88 2 (by decide) ?_
        refine xG.eqL (show _ = [some (Value.ref (A 0)), some (Value.int (nI e)), some (Value.int (nI (i + 1))), some (Value.long (kW k i)), none, some (Value.long (kW key i)), none] by rw [← nI_one]; rfl) ?_
        refine ih (i + 1) _ _ _ _ rfl (by omega) (fun j hj => ?_)
        by_cases e : j = i
        · rw [e]
          exact he2
        · exact h1 j (by omega)
      have hne : kW k i ≠ kW key i := fun h => h30 ((lg_cmp_eq _ _).mpr h)
      have hbl := kW_bl h1 hne
      by_cases c1 : kW k i < kW key i
      · by_cases c2 : kW k i < 0
        · by_cases c3 : kW key i < 0
          · refine xr_lload_n C d_Mo_before_33 34 rfl rfl ?_
            refine xr_lload C d_Mo_before_34 36 rfl rfl ?_
            refine xr_lcmp C d_Mo_before_36 37 rfl ?_
            refine xr_if_ge C d_Mo_before_37 40 44 rfl (by decide) (fun h => absurd ((lg_cmp_ge _ _).mp h) (Int64.not_le.mpr c1)) (fun _ => ?_)
            refine xr_iconst (v := 1) C d_Mo_before_40 41 rfl (by decide) ?_
            refine xr_goto C d_Mo_before_41 45 (by decide) ?_
            refine xr_lload_n C d_Mo_before_45 46 rfl rfl ?_
            refine xr_lconst (v := 0) C d_Mo_before_46 47 rfl (by decide) ?_
            refine xr_lcmp C d_Mo_before_47 48 rfl ?_
            refine xr_if_ge C d_Mo_before_48 51 55 rfl (by decide) (fun h => absurd ((lg_cmp_ge _ _).mp h) (Int64.not_le.mpr c2)) (fun _ => ?_)
            refine xr_iconst (v := 1) C d_Mo_before_51 52 rfl (by decide) ?_
            refine xr_goto C d_Mo_before_52 56 (by decide) ?_
            refine xr_lload C d_Mo_before_56 58 rfl rfl ?_
            refine xr_lconst (v := 0) C d_Mo_before_58 59 rfl (by decide) ?_
            refine xr_lcmp C d_Mo_before_59 60 rfl ?_
            refine xr_if_ge C d_Mo_before_60 63 67 rfl (by decide) (fun h => absurd ((lg_cmp_ge _ _).mp h) (Int64.not_le.mpr c3)) (fun _ => ?_)
            refine xr_iconst (v := 1) C d_Mo_before_63 64 rfl (by decide) ?_
            refine xr_goto C d_Mo_before_64 68 (by decide) ?_
            refine xr_icmp_eq C d_Mo_before_68 71 75 rfl (by decide) (fun _ => ?_) (fun h => absurd rfl h)
            refine xr_iconst (v := 0) C d_Mo_before_75 76 rfl (by decide) ?_
            refine xr_icmp_eq C d_Mo_before_76 79 83 rfl (by decide) (fun h => absurd h (by decide)) (fun _ => ?_)
            refine xr_iconst (v := 1) C d_Mo_before_79 80 rfl (by decide) ?_
            refine xr_goto C d_Mo_before_80 84 (by decide) ?_
            exact xr_zret C d_Mo_before_84 rfl (by omega) (by omega) ⟨by rw [if_pos (show bl k key = true by rw [hbl, decide_eq_true_eq, ← wn_ult]; simp [c1, c2, c3])], rfl⟩
          · refine xr_lload_n C d_Mo_before_33 34 rfl rfl ?_
            refine xr_lload C d_Mo_before_34 36 rfl rfl ?_
            refine xr_lcmp C d_Mo_before_36 37 rfl ?_
            refine xr_if_ge C d_Mo_before_37 40 44 rfl (by decide) (fun h => absurd ((lg_cmp_ge _ _).mp h) (Int64.not_le.mpr c1)) (fun _ => ?_)
            refine xr_iconst (v := 1) C d_Mo_before_40 41 rfl (by decide) ?_
            refine xr_goto C d_Mo_before_41 45 (by decide) ?_
            refine xr_lload_n C d_Mo_before_45 46 rfl rfl ?_
            refine xr_lconst (v := 0) C d_Mo_before_46 47 rfl (by decide) ?_
            refine xr_lcmp C d_Mo_before_47 48 rfl ?_
            refine xr_if_ge C d_Mo_before_48 51 55 rfl (by decide) (fun h => absurd ((lg_cmp_ge _ _).mp h) (Int64.not_le.mpr c2)) (fun _ => ?_)
            refine xr_iconst (v := 1) C d_Mo_before_51 52 rfl (by decide) ?_
            refine xr_goto C d_Mo_before_52 56 (by decide) ?_
            refine xr_lload C d_Mo_before_56 58 rfl rfl ?_
            refine xr_lconst (v := 0) C d_Mo_before_58 59 rfl (by decide) ?_
            refine xr_lcmp C d_Mo_before_59 60 rfl ?_
            refine xr_if_ge C d_Mo_before_60 63 67 rfl (by decide) (fun _ => ?_) (fun h => absurd ((lg_cmp_ge _ _).mpr (Int64.not_lt.mp c3)) h)
            refine xr_iconst (v := 0) C d_Mo_before_67 68 rfl (by decide) ?_
            refine xr_icmp_eq C d_Mo_before_68 71 75 rfl (by decide) (fun h => absurd h (by decide)) (fun _ => ?_)
            refine xr_iconst (v := 1) C d_Mo_before_71 72 rfl (by decide) ?_
            refine xr_goto C d_Mo_before_72 76 (by decide) ?_
            refine xr_icmp_eq C d_Mo_before_76 79 83 rfl (by decide) (fun _ => ?_) (fun h => absurd rfl h)
            refine xr_iconst (v := 0) C d_Mo_before_83 84 rfl (by decide) ?_
            exact xr_zret C d_Mo_before_84 rfl (by omega) (by omega) ⟨by rw [if_neg (show ¬ bl k key = true by rw [hbl, decide_eq_true_eq, ← wn_ult]; simp [c1, c2, c3])], rfl⟩
        · by_cases c3 : kW key i < 0
          · refine xr_lload_n C d_Mo_before_33 34 rfl rfl ?_
            refine xr_lload C d_Mo_before_34 36 rfl rfl ?_
            refine xr_lcmp C d_Mo_before_36 37 rfl ?_
            refine xr_if_ge C d_Mo_before_37 40 44 rfl (by decide) (fun h => absurd ((lg_cmp_ge _ _).mp h) (Int64.not_le.mpr c1)) (fun _ => ?_)
            refine xr_iconst (v := 1) C d_Mo_before_40 41 rfl (by decide) ?_
            refine xr_goto C d_Mo_before_41 45 (by decide) ?_
            refine xr_lload_n C d_Mo_before_45 46 rfl rfl ?_
            refine xr_lconst (v := 0) C d_Mo_before_46 47 rfl (by decide) ?_
            refine xr_lcmp C d_Mo_before_47 48 rfl ?_
            refine xr_if_ge C d_Mo_before_48 51 55 rfl (by decide) (fun _ => ?_) (fun h => absurd ((lg_cmp_ge _ _).mpr (Int64.not_lt.mp c2)) h)
            refine xr_iconst (v := 0) C d_Mo_before_55 56 rfl (by decide) ?_
            refine xr_lload C d_Mo_before_56 58 rfl rfl ?_
            refine xr_lconst (v := 0) C d_Mo_before_58 59 rfl (by decide) ?_
            refine xr_lcmp C d_Mo_before_59 60 rfl ?_
            refine xr_if_ge C d_Mo_before_60 63 67 rfl (by decide) (fun h => absurd ((lg_cmp_ge _ _).mp h) (Int64.not_le.mpr c3)) (fun _ => ?_)
            refine xr_iconst (v := 1) C d_Mo_before_63 64 rfl (by decide) ?_
            refine xr_goto C d_Mo_before_64 68 (by decide) ?_
            refine xr_icmp_eq C d_Mo_before_68 71 75 rfl (by decide) (fun h => absurd h (by decide)) (fun _ => ?_)
            refine xr_iconst (v := 1) C d_Mo_before_71 72 rfl (by decide) ?_
            refine xr_goto C d_Mo_before_72 76 (by decide) ?_
            refine xr_icmp_eq C d_Mo_before_76 79 83 rfl (by decide) (fun _ => ?_) (fun h => absurd rfl h)
            refine xr_iconst (v := 0) C d_Mo_before_83 84 rfl (by decide) ?_
            exact xr_zret C d_Mo_before_84 rfl (by omega) (by omega) ⟨by rw [if_neg (show ¬ bl k key = true by rw [hbl, decide_eq_true_eq, ← wn_ult]; simp [c1, c2, c3])], rfl⟩
          · refine xr_lload_n C d_Mo_before_33 34 rfl rfl ?_
            refine xr_lload C d_Mo_before_34 36 rfl rfl ?_
            refine xr_lcmp C d_Mo_before_36 37 rfl ?_
            refine xr_if_ge C d_Mo_before_37 40 44 rfl (by decide) (fun h => absurd ((lg_cmp_ge _ _).mp h) (Int64.not_le.mpr c1)) (fun _ => ?_)
            refine xr_iconst (v := 1) C d_Mo_before_40 41 rfl (by decide) ?_
            refine xr_goto C d_Mo_before_41 45 (by decide) ?_
            refine xr_lload_n C d_Mo_before_45 46 rfl rfl ?_
            refine xr_lconst (v := 0) C d_Mo_before_46 47 rfl (by decide) ?_
            refine xr_lcmp C d_Mo_before_47 48 rfl ?_
            refine xr_if_ge C d_Mo_before_48 51 55 rfl (by decide) (fun _ => ?_) (fun h => absurd ((lg_cmp_ge _ _).mpr (Int64.not_lt.mp c2)) h)
            refine xr_iconst (v := 0) C d_Mo_before_55 56 rfl (by decide) ?_
            refine xr_lload C d_Mo_before_56 58 rfl rfl ?_
            refine xr_lconst (v := 0) C d_Mo_before_58 59 rfl (by decide) ?_
            refine xr_lcmp C d_Mo_before_59 60 rfl ?_
            refine xr_if_ge C d_Mo_before_60 63 67 rfl (by decide) (fun _ => ?_) (fun h => absurd ((lg_cmp_ge _ _).mpr (Int64.not_lt.mp c3)) h)
            refine xr_iconst (v := 0) C d_Mo_before_67 68 rfl (by decide) ?_
            refine xr_icmp_eq C d_Mo_before_68 71 75 rfl (by decide) (fun _ => ?_) (fun h => absurd rfl h)
            refine xr_iconst (v := 0) C d_Mo_before_75 76 rfl (by decide) ?_
            refine xr_icmp_eq C d_Mo_before_76 79 83 rfl (by decide) (fun h => absurd h (by decide)) (fun _ => ?_)
            refine xr_iconst (v := 1) C d_Mo_before_79 80 rfl (by decide) ?_
            refine xr_goto C d_Mo_before_80 84 (by decide) ?_
            exact xr_zret C d_Mo_before_84 rfl (by omega) (by omega) ⟨by rw [if_pos (show bl k key = true by rw [hbl, decide_eq_true_eq, ← wn_ult]; simp [c1, c2, c3])], rfl⟩
      · by_cases c2 : kW k i < 0
        · by_cases c3 : kW key i < 0
          · refine xr_lload_n C d_Mo_before_33 34 rfl rfl ?_
            refine xr_lload C d_Mo_before_34 36 rfl rfl ?_
            refine xr_lcmp C d_Mo_before_36 37 rfl ?_
            refine xr_if_ge C d_Mo_before_37 40 44 rfl (by decide) (fun _ => ?_) (fun h => absurd ((lg_cmp_ge _ _).mpr (Int64.not_lt.mp c1)) h)
            refine xr_iconst (v := 0) C d_Mo_before_44 45 rfl (by decide) ?_
            refine xr_lload_n C d_Mo_before_45 46 rfl rfl ?_
            refine xr_lconst (v := 0) C d_Mo_before_46 47 rfl (by decide) ?_
            refine xr_lcmp C d_Mo_before_47 48 rfl ?_
            refine xr_if_ge C d_Mo_before_48 51 55 rfl (by decide) (fun h => absurd ((lg_cmp_ge _ _).mp h) (Int64.not_le.mpr c2)) (fun _ => ?_)
            refine xr_iconst (v := 1) C d_Mo_before_51 52 rfl (by decide) ?_
            refine xr_goto C d_Mo_before_52 56 (by decide) ?_
            refine xr_lload C d_Mo_before_56 58 rfl rfl ?_
            refine xr_lconst (v := 0) C d_Mo_before_58 59 rfl (by decide) ?_
            refine xr_lcmp C d_Mo_before_59 60 rfl ?_
            refine xr_if_ge C d_Mo_before_60 63 67 rfl (by decide) (fun h => absurd ((lg_cmp_ge _ _).mp h) (Int64.not_le.mpr c3)) (fun _ => ?_)
            refine xr_iconst (v := 1) C d_Mo_before_63 64 rfl (by decide) ?_
            refine xr_goto C d_Mo_before_64 68 (by decide) ?_
            refine xr_icmp_eq C d_Mo_before_68 71 75 rfl (by decide) (fun _ => ?_) (fun h => absurd rfl h)
            refine xr_iconst (v := 0) C d_Mo_before_75 76 rfl (by decide) ?_
            refine xr_icmp_eq C d_Mo_before_76 79 83 rfl (by decide) (fun _ => ?_) (fun h => absurd rfl h)
            refine xr_iconst (v := 0) C d_Mo_before_83 84 rfl (by decide) ?_
            exact xr_zret C d_Mo_before_84 rfl (by omega) (by omega) ⟨by rw [if_neg (show ¬ bl k key = true by rw [hbl, decide_eq_true_eq, ← wn_ult]; simp [c1, c2, c3])], rfl⟩
          · refine xr_lload_n C d_Mo_before_33 34 rfl rfl ?_
            refine xr_lload C d_Mo_before_34 36 rfl rfl ?_
            refine xr_lcmp C d_Mo_before_36 37 rfl ?_
            refine xr_if_ge C d_Mo_before_37 40 44 rfl (by decide) (fun _ => ?_) (fun h => absurd ((lg_cmp_ge _ _).mpr (Int64.not_lt.mp c1)) h)
            refine xr_iconst (v := 0) C d_Mo_before_44 45 rfl (by decide) ?_
            refine xr_lload_n C d_Mo_before_45 46 rfl rfl ?_
            refine xr_lconst (v := 0) C d_Mo_before_46 47 rfl (by decide) ?_
            refine xr_lcmp C d_Mo_before_47 48 rfl ?_
            refine xr_if_ge C d_Mo_before_48 51 55 rfl (by decide) (fun h => absurd ((lg_cmp_ge _ _).mp h) (Int64.not_le.mpr c2)) (fun _ => ?_)
            refine xr_iconst (v := 1) C d_Mo_before_51 52 rfl (by decide) ?_
            refine xr_goto C d_Mo_before_52 56 (by decide) ?_
            refine xr_lload C d_Mo_before_56 58 rfl rfl ?_
            refine xr_lconst (v := 0) C d_Mo_before_58 59 rfl (by decide) ?_
            refine xr_lcmp C d_Mo_before_59 60 rfl ?_
            refine xr_if_ge C d_Mo_before_60 63 67 rfl (by decide) (fun _ => ?_) (fun h => absurd ((lg_cmp_ge _ _).mpr (Int64.not_lt.mp c3)) h)
            refine xr_iconst (v := 0) C d_Mo_before_67 68 rfl (by decide) ?_
            refine xr_icmp_eq C d_Mo_before_68 71 75 rfl (by decide) (fun h => absurd h (by decide)) (fun _ => ?_)
            refine xr_iconst (v := 1) C d_Mo_before_71 72 rfl (by decide) ?_
            refine xr_goto C d_Mo_before_72 76 (by decide) ?_
            refine xr_icmp_eq C d_Mo_before_76 79 83 rfl (by decide) (fun h => absurd h (by decide)) (fun _ => ?_)
            refine xr_iconst (v := 1) C d_Mo_before_79 80 rfl (by decide) ?_
            refine xr_goto C d_Mo_before_80 84 (by decide) ?_
            exact xr_zret C d_Mo_before_84 rfl (by omega) (by omega) ⟨by rw [if_pos (show bl k key = true by rw [hbl, decide_eq_true_eq, ← wn_ult]; simp [c1, c2, c3])], rfl⟩
        · by_cases c3 : kW key i < 0
          · refine xr_lload_n C d_Mo_before_33 34 rfl rfl ?_
            refine xr_lload C d_Mo_before_34 36 rfl rfl ?_
            refine xr_lcmp C d_Mo_before_36 37 rfl ?_
            refine xr_if_ge C d_Mo_before_37 40 44 rfl (by decide) (fun _ => ?_) (fun h => absurd ((lg_cmp_ge _ _).mpr (Int64.not_lt.mp c1)) h)
            refine xr_iconst (v := 0) C d_Mo_before_44 45 rfl (by decide) ?_
            refine xr_lload_n C d_Mo_before_45 46 rfl rfl ?_
            refine xr_lconst (v := 0) C d_Mo_before_46 47 rfl (by decide) ?_
            refine xr_lcmp C d_Mo_before_47 48 rfl ?_
            refine xr_if_ge C d_Mo_before_48 51 55 rfl (by decide) (fun _ => ?_) (fun h => absurd ((lg_cmp_ge _ _).mpr (Int64.not_lt.mp c2)) h)
            refine xr_iconst (v := 0) C d_Mo_before_55 56 rfl (by decide) ?_
            refine xr_lload C d_Mo_before_56 58 rfl rfl ?_
            refine xr_lconst (v := 0) C d_Mo_before_58 59 rfl (by decide) ?_
            refine xr_lcmp C d_Mo_before_59 60 rfl ?_
            refine xr_if_ge C d_Mo_before_60 63 67 rfl (by decide) (fun h => absurd ((lg_cmp_ge _ _).mp h) (Int64.not_le.mpr c3)) (fun _ => ?_)
            refine xr_iconst (v := 1) C d_Mo_before_63 64 rfl (by decide) ?_
            refine xr_goto C d_Mo_before_64 68 (by decide) ?_
            refine xr_icmp_eq C d_Mo_before_68 71 75 rfl (by decide) (fun h => absurd h (by decide)) (fun _ => ?_)
            refine xr_iconst (v := 1) C d_Mo_before_71 72 rfl (by decide) ?_
            refine xr_goto C d_Mo_before_72 76 (by decide) ?_
            refine xr_icmp_eq C d_Mo_before_76 79 83 rfl (by decide) (fun h => absurd h (by decide)) (fun _ => ?_)
            refine xr_iconst (v := 1) C d_Mo_before_79 80 rfl (by decide) ?_
            refine xr_goto C d_Mo_before_80 84 (by decide) ?_
            exact xr_zret C d_Mo_before_84 rfl (by omega) (by omega) ⟨by rw [if_pos (show bl k key = true by rw [hbl, decide_eq_true_eq, ← wn_ult]; simp [c1, c2, c3])], rfl⟩
          · refine xr_lload_n C d_Mo_before_33 34 rfl rfl ?_
            refine xr_lload C d_Mo_before_34 36 rfl rfl ?_
            refine xr_lcmp C d_Mo_before_36 37 rfl ?_
            refine xr_if_ge C d_Mo_before_37 40 44 rfl (by decide) (fun _ => ?_) (fun h => absurd ((lg_cmp_ge _ _).mpr (Int64.not_lt.mp c1)) h)
            refine xr_iconst (v := 0) C d_Mo_before_44 45 rfl (by decide) ?_
            refine xr_lload_n C d_Mo_before_45 46 rfl rfl ?_
            refine xr_lconst (v := 0) C d_Mo_before_46 47 rfl (by decide) ?_
            refine xr_lcmp C d_Mo_before_47 48 rfl ?_
            refine xr_if_ge C d_Mo_before_48 51 55 rfl (by decide) (fun _ => ?_) (fun h => absurd ((lg_cmp_ge _ _).mpr (Int64.not_lt.mp c2)) h)
            refine xr_iconst (v := 0) C d_Mo_before_55 56 rfl (by decide) ?_
            refine xr_lload C d_Mo_before_56 58 rfl rfl ?_
            refine xr_lconst (v := 0) C d_Mo_before_58 59 rfl (by decide) ?_
            refine xr_lcmp C d_Mo_before_59 60 rfl ?_
            refine xr_if_ge C d_Mo_before_60 63 67 rfl (by decide) (fun _ => ?_) (fun h => absurd ((lg_cmp_ge _ _).mpr (Int64.not_lt.mp c3)) h)
            refine xr_iconst (v := 0) C d_Mo_before_67 68 rfl (by decide) ?_
            refine xr_icmp_eq C d_Mo_before_68 71 75 rfl (by decide) (fun _ => ?_) (fun h => absurd rfl h)
            refine xr_iconst (v := 0) C d_Mo_before_75 76 rfl (by decide) ?_
            refine xr_icmp_eq C d_Mo_before_76 79 83 rfl (by decide) (fun _ => ?_) (fun h => absurd rfl h)
            refine xr_iconst (v := 0) C d_Mo_before_83 84 rfl (by decide) ?_
            exact xr_zret C d_Mo_before_84 rfl (by omega) (by omega) ⟨by rw [if_neg (show ¬ bl k key = true by rw [hbl, decide_eq_true_eq, ← wn_ult]; simp [c1, c2, c3])], rfl⟩
  refine xr_iconst (v := 0) C d_Mo_before_0 1 rfl (by decide) ?_
  refine xr_istore_n C d_Mo_before_1 2 rfl rfl rfl ?_
  exact loop 4 0 none none none none rfl (by omega) (fun j hj => absurd hj (Nat.not_lt_zero _))
set_option maxRecDepth 100000 in
set_option maxHeartbeats 4000000 in
theorem c_Mo_below {l : Launch} {D : va_G} {H0 : Heap} {X0 : xH} {A : Nat → Nat} {s : MS} (hA : mInj A) {m : Nat} {es : List Es} {key : List Int32} (hm : m < 2) (hE : rE s m es) (hok : okM es) (hq : qS s key) (hq32 : key.length ≤ 32) : xMet l D H0 y_Mo_below b_Mo_below 3 (some .int) [] 1 0 0 [.ref (A 0), .int (nI m)] (mX D X0 A s) (fun o X' => o = .inl (some (.int (nI (fnb es key)))) ∧ X' = mX D X0 A s) := by
  have hal := hok.1
  refine ⟨[some (.ref (A 0)), some (.int (nI m)), none], rfl, Nat.le_of_ble_eq_true rfl, fun E hD hH hl _ C => ?_⟩
  subst hD
  subst hH
  subst hl
  have loop : ∀ (k i : Nat), i + k = es.length → (∀ j, j < i → bl (eD es j).1 key = true) → xG E (mX E.D X0 A s) 0 0 2 [some (.ref (A 0)), some (.int (nI m)), some (.int (nI i))] [] := by
    intro k
    induction k with
    | zero =>
      intro i hi h1
      refine xr_iload_n C d_Mo_below_2 3 rfl rfl ?_
      refine xr_aload_n C d_Mo_below_3 4 rfl rfl ?_
      refine xr_get C K_Mo 8 d_Mo_below_4 7 rfl q_948 (Or.inl rfl) rfl (mX_o hA) rfl ?_
      refine xr_iload_n C d_Mo_below_7 8 rfl rfl ?_
      refine xr_iald (j := m) C d_Mo_below_8 9 rfl (mX_8 hA) rfl (by omega) (by omega) ?_
      refine xr_toi (show _ = nI es.length from hE.1) ?_
      refine xr_icmp_ge C d_Mo_below_9 12 32 rfl (by decide) (fun _ => ?_) (fun h => absurd (nI_le (show es.length ≤ i by omega) (by omega)) h)
      refine xr_iload_n C d_Mo_below_32 33 rfl rfl ?_
      exact xr_iret C d_Mo_below_33 (by omega) (by omega) ⟨by rw [fnb_at (i := i) (by omega) h1 (fun h => absurd h (by omega))], rfl⟩
    | succ k ih =>
      intro i hi h1
      have i1 : i < es.length := by omega
      have hek := hok.2.2 _ (eD_mem i1)
      refine xr_iload_n C d_Mo_below_2 3 rfl rfl ?_
      refine xr_aload_n C d_Mo_below_3 4 rfl rfl ?_
      refine xr_get C K_Mo 8 d_Mo_below_4 7 rfl q_948 (Or.inl rfl) rfl (mX_o hA) rfl ?_
      refine xr_iload_n C d_Mo_below_7 8 rfl rfl ?_
      refine xr_iald (j := m) C d_Mo_below_8 9 rfl (mX_8 hA) rfl (by omega) (by omega) ?_
      refine xr_toi (show _ = nI es.length from hE.1) ?_
      refine xr_icmp_ge C d_Mo_below_9 12 32 rfl (by decide) (fun h => absurd h (nI_ge i1 (by omega))) (fun _ => ?_)
      refine xr_aload_n C d_Mo_below_12 13 rfl rfl ?_
      refine xr_sipush (v := 128) C d_Mo_below_13 16 rfl (by decide) ?_
      refine xr_iload_n C d_Mo_below_16 17 rfl rfl ?_
      refine xr_imul C d_Mo_below_17 18 rfl ?_
      refine xr_toi (show _ = nI (128 * m) from pk_mul 128 m) ?_
      refine xr_iload_n C d_Mo_below_18 19 rfl rfl ?_
      refine xr_iadd C d_Mo_below_19 20 rfl ?_
      refine xr_toi (show _ = nI ((128 * m) + i) from nI_add (128 * m) i) ?_
      refine xr_callV C (c_Mo_before hA (by omega) (hE.2 i i1).1 hq hek.2.1 hq32) k_Mo_before d_Mo_below_20 23 rfl (mX_o hA) rfl (Or.inl q_1080) v_Mo_before e_Mo_before h_Mo_before rfl ⟨Nat.le_of_ble_eq_true rfl, Nat.le_of_ble_eq_true rfl, Nat.le_of_ble_eq_true rfl⟩ (by omega) (by omega) (fun v9 X9 hP => ?_) (fun _ _ h => absurd h.1 (by simp))
      obtain ⟨h1, rfl⟩ := hP
      cases h1
      by_cases hc : bl (eD es i).1 key = true
      · refine xr_toi (if_pos hc) ?_
        refine xr_if_eq C d_Mo_below_23 26 32 rfl (by decide) (fun h => absurd h (by decide)) (fun _ => ?_)
        refine xr_iinc (v := 1) C d_Mo_below_26 29 rfl rfl rfl rfl (by decide) ?_
        refine xr_goto C d_Mo_below_29 2 (by decide) ?_
        refine xG.eqL (show _ = [some (Value.ref (A 0)), some (Value.int (nI m)), some (Value.int (nI (i + 1)))] by rw [← nI_one]; rfl) ?_
        refine ih (i + 1) (by omega) (fun j hj => ?_)
        by_cases e : j = i
        · rw [e]
          exact hc
        · exact h1 j (by omega)
      · refine xr_toi (if_neg hc) ?_
        refine xr_if_eq C d_Mo_below_23 26 32 rfl (by decide) (fun _ => ?_) (fun h => absurd rfl h)
        refine xr_iload_n C d_Mo_below_32 33 rfl rfl ?_
        exact xr_iret C d_Mo_below_33 (by omega) (by omega) ⟨by rw [fnb_at (i := i) (by omega) h1 (fun _ => by cases hb : bl (eD es i).1 key with | false => rfl | true => exact absurd hb hc)], rfl⟩
  refine xr_iconst (v := 0) C d_Mo_below_0 1 rfl (by decide) ?_
  refine xr_istore_n C d_Mo_below_1 2 rfl rfl rfl ?_
  exact loop es.length 0 (by omega) (fun j hj => absurd hj (Nat.not_lt_zero _))
set_option maxRecDepth 100000 in
set_option maxHeartbeats 4000000 in
theorem c_Mo_isAt {l : Launch} {D : va_G} {H0 : Heap} {X0 : xH} {A : Nat → Nat} {s : MS} (hA : mInj A) {m : Nat} {es : List Es} {key : List Int32} (hm : m < 2) (hE : rE s m es) (hok : okM es) (hq : qS s key) (hq32 : key.length ≤ 32) {j : Nat} (hj : j ≤ 128) (hB : okB es) (hqb : isbs key) : xMet l D H0 y_Mo_isAt b_Mo_isAt 5 (some .boolean) [] 0 0 0 [.ref (A 0), .int (nI m), .int (nI j)] (mX D X0 A s) (fun o X' => o = .inl (some (.int (if j < es.length ∧ (eD es j).1 = key then 1 else 0))) ∧ X' = mX D X0 A s) := by
  have hal := hok.1
  refine ⟨[some (.ref (A 0)), some (.int (nI m)), some (.int (nI j)), none, none], rfl, Nat.le_of_ble_eq_true rfl, fun E hD hH hl _ C => ?_⟩
  subst hD
  subst hH
  subst hl
  have no : ¬ (j < es.length ∧ (eD es j).1 = key) → xG E (mX E.D X0 A s) 0 0 29 [some (.ref (A 0)), some (.int (nI m)), some (.int (nI j)), none, none] [] := by
    intro h
    refine xr_iconst (v := 0) C d_Mo_isAt_29 30 rfl (by decide) ?_
    exact xr_zret C d_Mo_isAt_30 rfl (by omega) (by omega) ⟨by rw [if_neg h], rfl⟩
  refine xr_iload_n C d_Mo_isAt_0 1 rfl rfl ?_
  refine xr_aload_n C d_Mo_isAt_1 2 rfl rfl ?_
  refine xr_get C K_Mo 8 d_Mo_isAt_2 5 rfl q_948 (Or.inl rfl) rfl (mX_o hA) rfl ?_
  refine xr_iload_n C d_Mo_isAt_5 6 rfl rfl ?_
  refine xr_iald (j := m) C d_Mo_isAt_6 7 rfl (mX_8 hA) rfl (by omega) (by omega) ?_
  refine xr_toi (show _ = nI es.length from hE.1) ?_
  refine xr_icmp_ge C d_Mo_isAt_7 10 29 rfl (by decide) (fun h => no (fun q => nI_ge q.1 (by omega) h)) (fun h7 => ?_)
  have i1 : j < es.length := by
    rcases Nat.lt_or_ge j es.length with h | h
    · exact h
    · exact absurd (nI_le h (by omega)) h7
  have hek := hok.2.2 _ (eD_mem i1)
  have hek1 := hek.2.1
  have hbk := (hB _ (eD_mem i1)).1
  refine xr_aload_n C d_Mo_isAt_10 11 rfl rfl ?_
  refine xr_get C K_Mo 9 d_Mo_isAt_11 14 rfl q_949 (Or.inl rfl) rfl (mX_o hA) rfl ?_
  refine xr_sipush (v := 128) C d_Mo_isAt_14 17 rfl (by decide) ?_
  refine xr_iload_n C d_Mo_isAt_17 18 rfl rfl ?_
  refine xr_imul C d_Mo_isAt_18 19 rfl ?_
  refine xr_toi (show _ = nI (128 * m) from pk_mul 128 m) ?_
  refine xr_iload_n C d_Mo_isAt_19 20 rfl rfl ?_
  refine xr_iadd C d_Mo_isAt_20 21 rfl ?_
  refine xr_toi (show _ = nI ((128 * m) + j) from nI_add (128 * m) j) ?_
  refine xr_iald (j := ((128 * m) + j)) C d_Mo_isAt_21 22 rfl (mX_9 hA) rfl (by omega) (by omega) ?_
  refine xr_toi (show _ = nI ((eD es j).1.length) from (hE.2 j i1).1.1) ?_
  refine xr_aload_n C d_Mo_isAt_22 23 rfl rfl ?_
  refine xr_get C K_Mo 16 d_Mo_isAt_23 26 rfl q_956 (Or.inl rfl) rfl (mX_o hA) rfl ?_
  refine xr_toi (show _ = nI key.length from hq.1) ?_
  refine xr_icmp_eq C d_Mo_isAt_26 29 31 rfl (by decide) (fun h26 => ?_) (fun h => no (fun q => h (by rw [q.2])))
  have hle : (eD es j).1.length = key.length := (nI_eq (by omega) (by omega)).mp h26
  have hkw := kW_eq hbk hqb hle hek.2.1
  have loop : ∀ (r i : Nat) (b : Int32), i + r = 4 → (b = 0 ∨ b = 1) → (b = 1 ↔ ∀ q, q < i → kW (eD es j).1 q = kW key q) → xG E (mX E.D X0 A s) 0 0 36 [some (.ref (A 0)), some (.int (nI m)), some (.int (nI j)), some (.int b), some (.int (nI i))] [] := by
    intro r
    induction r with
    | zero =>
      intro i b hi hb hb2
      have ei : i = 4 := by omega
      subst ei
      refine xr_iload C d_Mo_isAt_36 38 rfl rfl ?_
      refine xr_iconst (v := 4) C d_Mo_isAt_38 39 rfl (by decide) ?_
      refine xr_toi (show _ = nI 4 from rfl) ?_
      refine xr_icmp_ge C d_Mo_isAt_39 42 86 rfl (by decide) (fun _ => ?_) (fun h => absurd (nI_le (Nat.le_refl _) (by omega)) h)
      refine xr_iload_n C d_Mo_isAt_86 87 rfl rfl ?_
      refine xr_zret C d_Mo_isAt_87 (by rcases hb with e | e <;> subst e <;> rfl) (by omega) (by omega) ⟨?_, rfl⟩
      rcases hb with e | e
      · rw [if_neg (fun q => by have h3 := hb2.mpr (hkw.mpr q.2); rw [e] at h3; exact absurd h3 (by decide)), e]
      · rw [if_pos ⟨i1, hkw.mp (hb2.mp e)⟩, e]
    | succ r ih =>
      intro i b hi hb hb2
      have t79 : ∀ c : Int32, (c = 0 ∨ c = 1) → (c = 1 ↔ ∀ q, q < i + 1 → kW (eD es j).1 q = kW key q) → xG E (mX E.D X0 A s) 0 0 79 [some (.ref (A 0)), some (.int (nI m)), some (.int (nI j)), some (.int b), some (.int (nI i))] [.int c] := by
        intro c hc hc2
        refine xr_istore_n C d_Mo_isAt_79 80 rfl rfl rfl ?_
        refine xr_iinc (v := 1) C d_Mo_isAt_80 83 rfl rfl rfl rfl (by decide) ?_
        refine xr_goto C d_Mo_isAt_83 36 (by decide) ?_
        refine xG.eqL (show _ = [some (Value.ref (A 0)), some (Value.int (nI m)), some (Value.int (nI j)), some (Value.int c), some (Value.int (nI (i + 1)))] by rw [← nI_one]; rfl) ?_
        exact ih (i + 1) c (by omega) hc hc2
      refine xr_iload C d_Mo_isAt_36 38 rfl rfl ?_
      refine xr_iconst (v := 4) C d_Mo_isAt_38 39 rfl (by decide) ?_
      refine xr_toi (show _ = nI 4 from rfl) ?_
      refine xr_icmp_ge C d_Mo_isAt_39 42 86 rfl (by decide) (fun h => absurd h (nI_ge (show i < 4 by omega) (by omega))) (fun _ => ?_)
      refine xr_iload_n C d_Mo_isAt_42 43 rfl rfl ?_
      refine xr_if_eq C d_Mo_isAt_43 46 78 rfl (by decide) (fun h43 => ?_) (fun h43 => ?_)
      · refine xr_iconst (v := 0) C d_Mo_isAt_78 79 rfl (by decide) ?_
        refine t79 0 (Or.inl rfl) ⟨fun h => absurd h (by decide), fun h => ?_⟩
        have := hb2.mpr (fun q hq => h q (by omega))
        rw [h43] at this
        exact absurd this (by decide)
      have hb1 : b = 1 := hb.resolve_left h43
      have hall := hb2.mp hb1
      refine xr_aload_n C d_Mo_isAt_46 47 rfl rfl ?_
      refine xr_get C K_Mo 10 d_Mo_isAt_47 50 rfl q_950 (Or.inl rfl) rfl (mX_o hA) rfl ?_
      refine xr_iconst (v := 4) C d_Mo_isAt_50 51 rfl (by decide) ?_
      refine xr_sipush (v := 128) C d_Mo_isAt_51 54 rfl (by decide) ?_
      refine xr_iload_n C d_Mo_isAt_54 55 rfl rfl ?_
      refine xr_imul C d_Mo_isAt_55 56 rfl ?_
      refine xr_toi (show _ = nI (128 * m) from pk_mul 128 m) ?_
      refine xr_iload_n C d_Mo_isAt_56 57 rfl rfl ?_
      refine xr_iadd C d_Mo_isAt_57 58 rfl ?_
      refine xr_toi (show _ = nI ((128 * m) + j) from nI_add (128 * m) j) ?_
      refine xr_imul C d_Mo_isAt_58 59 rfl ?_
      refine xr_toi (show _ = nI (4 * ((128 * m) + j)) from pk_mul 4 ((128 * m) + j)) ?_
      refine xr_iload C d_Mo_isAt_59 61 rfl rfl ?_
      refine xr_iadd C d_Mo_isAt_61 62 rfl ?_
      refine xr_toi (show _ = nI ((4 * ((128 * m) + j)) + i) from nI_add (4 * ((128 * m) + j)) i) ?_
      refine xr_lald (j := ((4 * ((128 * m) + j)) + i)) C d_Mo_isAt_62 63 rfl (mX_10 hA) rfl (by omega) (by omega) ?_
      refine xr_tol (show _ = kW (eD es j).1 i from (hE.2 j i1).1.2 i (by omega)) ?_
      refine xr_aload_n C d_Mo_isAt_63 64 rfl rfl ?_
      refine xr_get C K_Mo 17 d_Mo_isAt_64 67 rfl q_957 (Or.inl rfl) rfl (mX_o hA) rfl ?_
      refine xr_iload C d_Mo_isAt_67 69 rfl rfl ?_
      refine xr_lald (j := i) C d_Mo_isAt_69 70 rfl (mX_17 hA) rfl (by omega) (by omega) ?_
      refine xr_tol (show _ = kW key i from hq.2 i (by omega)) ?_
      refine xr_lcmp C d_Mo_isAt_70 71 rfl ?_
      refine xr_if_ne C d_Mo_isAt_71 74 78 rfl (by decide) (fun h71 => ?_) (fun h71 => ?_)
      · refine xr_iconst (v := 0) C d_Mo_isAt_78 79 rfl (by decide) ?_
        exact t79 0 (Or.inl rfl) ⟨fun h => absurd h (by decide), fun h => absurd ((lg_cmp_eq _ _).mpr (h i (by omega))) h71⟩
      · refine xr_iconst (v := 1) C d_Mo_isAt_74 75 rfl (by decide) ?_
        refine xr_goto C d_Mo_isAt_75 79 (by decide) ?_
        refine t79 1 (Or.inr rfl) ⟨fun _ q hq => ?_, fun _ => rfl⟩
        by_cases e : q = i
        · rw [e]
          exact (lg_cmp_eq _ _).mp h71
        · exact hall q (by omega)
  refine xr_iconst (v := 1) C d_Mo_isAt_31 32 rfl (by decide) ?_
  refine xr_istore_n C d_Mo_isAt_32 33 rfl rfl rfl ?_
  refine xr_iconst (v := 0) C d_Mo_isAt_33 34 rfl (by decide) ?_
  refine xr_istore C d_Mo_isAt_34 36 rfl rfl rfl ?_
  exact loop 4 0 1 (by omega) (Or.inr rfl) ⟨fun _ q hq => absurd hq (Nat.not_lt_zero _), fun _ => rfl⟩
set_option maxRecDepth 100000 in
set_option maxHeartbeats 4000000 in
theorem c_Mo_units {l : Launch} {D : va_G} {H0 : Heap} {X0 : xH} {A : Nat → Nat} {s : MS} (hA : mInj A) {m : Nat} {es : List Es} (hm : m < 2) (hE : rE s m es) (hok : okM es) : xMet l D H0 y_Mo_units b_Mo_units 4 (some .int) [] 1 0 0 [.ref (A 0), .int (nI m)] (mX D X0 A s) (fun o X' => o = .inl (some (.int (nI (uns es)))) ∧ X' = mX D X0 A s) := by
  have hal := hok.1
  have hus := hok.2.1
  have tk : ∀ i, i < es.length → uns (es.take (i + 1)) = uns (es.take i) + un (eD es i) := by
    intro i hi
    unfold uns
    rw [takeg ([], []) hi, List.map_append, List.sum_append]
    rfl
  refine ⟨[some (.ref (A 0)), some (.int (nI m)), none, none], rfl, Nat.le_of_ble_eq_true rfl, fun E hD hH hl _ C => ?_⟩
  subst hD
  subst hH
  subst hl
  have loop : ∀ (k i : Nat), i + k = es.length → xG E (mX E.D X0 A s) 0 0 8 [some (.ref (A 0)), some (.int (nI m)), some (.int (nI (uns (es.take i)))), some (.int (nI (128 * m + i)))] [] := by
    intro k
    induction k with
    | zero =>
      intro i hi
      refine xr_iload_n C d_Mo_units_8 9 rfl rfl ?_
      refine xr_sipush (v := 128) C d_Mo_units_9 12 rfl (by decide) ?_
      refine xr_iload_n C d_Mo_units_12 13 rfl rfl ?_
      refine xr_imul C d_Mo_units_13 14 rfl ?_
      refine xr_toi (show _ = nI (128 * m) from pk_mul 128 m) ?_
      refine xr_aload_n C d_Mo_units_14 15 rfl rfl ?_
      refine xr_get C K_Mo 8 d_Mo_units_15 18 rfl q_948 (Or.inl rfl) rfl (mX_o hA) rfl ?_
      refine xr_iload_n C d_Mo_units_18 19 rfl rfl ?_
      refine xr_iald (j := m) C d_Mo_units_19 20 rfl (mX_8 hA) rfl (by omega) (by omega) ?_
      refine xr_toi (show _ = nI es.length from hE.1) ?_
      refine xr_iadd C d_Mo_units_20 21 rfl ?_
      refine xr_toi (show _ = nI ((128 * m) + es.length) from nI_add (128 * m) es.length) ?_
      refine xr_icmp_ge C d_Mo_units_21 24 49 rfl (by decide) (fun _ => ?_) (fun h => absurd (nI_le (show 128 * m + es.length ≤ 128 * m + i by omega) (by omega)) h)
      refine xr_iload_n C d_Mo_units_49 50 rfl rfl ?_
      exact xr_iret C d_Mo_units_50 (by omega) (by omega) ⟨by rw [List.take_of_length_le (show es.length ≤ i by omega)], rfl⟩
    | succ k ih =>
      intro i hi
      have i1 : i < es.length := by omega
      have hek := hok.2.2 _ (eD_mem i1)
      have he1 := hek.2.1
      have he2 := hek.2.2
      have hsl := hE.2 i i1
      refine xr_iload_n C d_Mo_units_8 9 rfl rfl ?_
      refine xr_sipush (v := 128) C d_Mo_units_9 12 rfl (by decide) ?_
      refine xr_iload_n C d_Mo_units_12 13 rfl rfl ?_
      refine xr_imul C d_Mo_units_13 14 rfl ?_
      refine xr_toi (show _ = nI (128 * m) from pk_mul 128 m) ?_
      refine xr_aload_n C d_Mo_units_14 15 rfl rfl ?_
      refine xr_get C K_Mo 8 d_Mo_units_15 18 rfl q_948 (Or.inl rfl) rfl (mX_o hA) rfl ?_
      refine xr_iload_n C d_Mo_units_18 19 rfl rfl ?_
      refine xr_iald (j := m) C d_Mo_units_19 20 rfl (mX_8 hA) rfl (by omega) (by omega) ?_
      refine xr_toi (show _ = nI es.length from hE.1) ?_
      refine xr_iadd C d_Mo_units_20 21 rfl ?_
      refine xr_toi (show _ = nI ((128 * m) + es.length) from nI_add (128 * m) es.length) ?_
      refine xr_icmp_ge C d_Mo_units_21 24 49 rfl (by decide) (fun h => absurd h (nI_ge (show 128 * m + i < 128 * m + es.length by omega) (by omega))) (fun _ => ?_)
      refine xr_iload_n C d_Mo_units_24 25 rfl rfl ?_
      refine xr_aload_n C d_Mo_units_25 26 rfl rfl ?_
      refine xr_get C K_Mo 9 d_Mo_units_26 29 rfl q_949 (Or.inl rfl) rfl (mX_o hA) rfl ?_
      refine xr_iload_n C d_Mo_units_29 30 rfl rfl ?_
      refine xr_iald (j := (128 * m + i)) C d_Mo_units_30 31 rfl (mX_9 hA) rfl (by omega) (by omega) ?_
      refine xr_toi (show _ = nI ((eD es i).1.length) from hsl.1.1) ?_
      refine xr_aload_n C d_Mo_units_31 32 rfl rfl ?_
      refine xr_get C K_Mo 11 d_Mo_units_32 35 rfl q_951 (Or.inl rfl) rfl (mX_o hA) rfl ?_
      refine xr_iload_n C d_Mo_units_35 36 rfl rfl ?_
      refine xr_iald (j := (128 * m + i)) C d_Mo_units_36 37 rfl (mX_11 hA) rfl (by omega) (by omega) ?_
      refine xr_toi (show _ = nI ((eD es i).2.length) from hsl.2.1) ?_
      refine xr_iadd C d_Mo_units_37 38 rfl ?_
      refine xr_toi (show _ = nI (((eD es i).1.length) + ((eD es i).2.length)) from nI_add ((eD es i).1.length) ((eD es i).2.length)) ?_
      refine xr_callS C (c_Mo_unitsOf (n := (eD es i).1.length + (eD es i).2.length) (by omega)) k_Mo_unitsOf d_Mo_units_38 41 rfl (Or.inl q_1104) s_Mo_unitsOf in_Mo_unitsOf h_Mo_unitsOf rfl ⟨Nat.le_of_ble_eq_true rfl, Nat.le_of_ble_eq_true rfl, Nat.le_of_ble_eq_true rfl⟩ (by omega) (by omega) (fun v9 X9 hP => ?_) (fun _ _ h => absurd h.1 (by simp))
      obtain ⟨h1, rfl⟩ := hP
      cases h1
      refine xr_iadd C d_Mo_units_41 42 rfl ?_
      refine xr_toi (show _ = nI (uns (es.take (i + 1))) from (nI_add _ _).trans (by rw [tk i i1]; rfl)) ?_
      refine xr_istore_n C d_Mo_units_42 43 rfl rfl rfl ?_
      refine xr_iinc (v := 1) C d_Mo_units_43 46 rfl rfl rfl rfl (by decide) ?_
      refine xr_goto C d_Mo_units_46 8 (by decide) ?_
      refine xG.eqL (show _ = [some (Value.ref (A 0)), some (Value.int (nI m)), some (Value.int (nI (uns (es.take (i + 1))))), some (Value.int (nI (128 * m + (i + 1))))] by rw [show 128 * m + (i + 1) = 128 * m + i + 1 by omega, ← nI_one (128 * m + i)]; rfl) ?_
      exact ih (i + 1) (by omega)
  refine xr_iconst (v := 0) C d_Mo_units_0 1 rfl (by decide) ?_
  refine xr_istore_n C d_Mo_units_1 2 rfl rfl rfl ?_
  refine xr_sipush (v := 128) C d_Mo_units_2 5 rfl (by decide) ?_
  refine xr_iload_n C d_Mo_units_5 6 rfl rfl ?_
  refine xr_imul C d_Mo_units_6 7 rfl ?_
  refine xr_toi (show _ = nI (128 * m) from pk_mul 128 m) ?_
  refine xr_istore_n C d_Mo_units_7 8 rfl rfl rfl ?_
  refine xG.eqL (show _ = [some (Value.ref (A 0)), some (Value.int (nI m)), some (Value.int (nI (uns (es.take 0)))), some (Value.int (nI (128 * m + 0)))] from rfl) ?_
  exact loop es.length 0 (by omega)
