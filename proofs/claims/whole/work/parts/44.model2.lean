/-! The model: what it writes. -/
theorem ub_int (x : Int32) : (ub x : Int) = x.toInt % 256 := by
  have e1 : x.toInt = if 2 * x.toBitVec.toNat < 2 ^ 32 then (x.toBitVec.toNat : Int) else (x.toBitVec.toNat : Int) - 2 ^ 32 := BitVec.toInt_eq_toNat_cond _
  unfold ub
  split at e1 <;> omega
theorem ub_b (z : Int32) : ub z.toInt8.toInt32 = ub z := by
  have h1 := ub_int z.toInt8.toInt32
  have h2 := ub_int z
  rw [Int8.toInt_toInt32, Int32.toInt_toInt8, Int.bmod_def] at h1
  split at h1 <;> omega
theorem sh31 : ∀ k, k < 4 → (((8 * nI k).toUInt32 &&& Int32.toUInt32 31).toBitVec % 32).toNat = 8 * k := by decide +kernel
theorem sh31' : ∀ k, k < 4 → ((nI (8 * k) &&& 31).toBitVec.smod 32).toNat = 8 * k := by decide +kernel
/-- the bytes of a number, shifted with its sign or without -/
theorem nby_ok {v : Int32} {k : Nat} (hk : k < 4) : (v >>> (nI (8 * k) &&& 31)) &&& 255 = nI (ub (nby v k)) := by
  have h1 : ub (nby v k) = v.toBitVec.toNat / 2 ^ (8 * k) % 256 := by
    unfold nby
    rw [ub_b]
    unfold ub
    rw [pk_ushr v (8 * nI k) (8 * k) (sh31 k hk)]
  have h2 := u8_ub (v >>> (nI (8 * k) &&& 31))
  rw [h1]
  refine h2.trans ?_
  congr 1
  have h3 := ub_int (v >>> (nI (8 * k) &&& 31))
  rw [pk_shr v _ (8 * k) (sh31' k hk)] at h3
  have e1 : v.toInt = if 2 * v.toBitVec.toNat < 2 ^ 32 then (v.toBitVec.toNat : Int) else (v.toBitVec.toNat : Int) - 2 ^ 32 := BitVec.toInt_eq_toNat_cond _
  rw [Int.shiftRight_eq_div_pow] at h3
  have h4 : k = 0 ∨ k = 1 ∨ k = 2 ∨ k = 3 := by omega
  have hlt : v.toBitVec.toNat < 2 ^ 32 := v.toBitVec.isLt
  rcases h4 with e | e | e | e <;> subst e <;> simp only [Nat.mul_zero, Nat.pow_zero, Nat.div_one, Nat.reduceMul, Nat.reducePow] at h3 ⊢ <;> split at e1 <;> omega
theorem ub_l2i (x : Int64) : ub x.toInt32 = wn x % 256 := by
  have h1 := ub_int x.toInt32
  have e1 : x.toInt = if 2 * wn x < 2 ^ 64 then (wn x : Int) else (wn x : Int) - 2 ^ 64 := BitVec.toInt_eq_toNat_cond _
  rw [Int64.toInt_toInt32, Int.bmod_def] at h1
  split at h1 <;> split at e1 <;> omega
theorem sh63 : ∀ k, k < 8 → (((8 * nI k).toInt64.toUInt64 &&& Int64.toUInt64 63).toBitVec % 64).toNat = 8 * k := by decide +kernel
theorem fby_ok {e : Int64} {k : Nat} (hk : k < 8) : ub (fby e k) = by8 e k := by
  unfold fby
  rw [ub_b, ub_l2i]
  unfold by8
  congr 1
  show (e.toBitVec >>> (((8 * nI k).toInt64.toUInt64 &&& Int64.toUInt64 63).toBitVec % 64)).toNat = _
  rw [BitVec.ushiftRight_eq', sh63 k hk, BitVec.toNat_ushiftRight, Nat.shiftRight_eq_div_pow]
  rfl
def rT (s : MS) (ts : List Int32) : Prop := ts.length ≤ 300 ∧ ∀ i, i < ts.length → s.2.1 15 i = u8 (ts.getD i 0)
def rR (s : MS) (res : List Int32) : Prop := s.1 21 = nI res.length ∧ ∀ i, i < res.length → by8 (s.2.2 22 (i / 8)) (i % 8) = ub (res.getD i 0)
theorem rT.fr {s s' : MS} {k : List Int32} {a : List Nat} (h : rT s k) (hf : mFr a s s') (h1 : 15 ∉ a) : rT s' k := ⟨h.1, fun j hj => by rw [(hf 15 h1).2.1]; exact h.2 j hj⟩
theorem rR.fr {s s' : MS} {k : List Int32} {a : List Nat} (h : rR s k) (hf : mFr a s s') (h1 : 21 ∉ a ∧ 22 ∉ a) : rR s' k := ⟨by rw [(hf 21 h1.1).1]; exact h.1, fun j hj => by rw [(hf 22 h1.2).2.2]; exact h.2 j hj⟩
theorem pad_in {a : List Int32} {i : Nat} (h : i < a.length) : pad a i = ub (a.getD i 0) := if_pos h
set_option maxRecDepth 100000 in
set_option maxHeartbeats 4000000 in
theorem c_Mo_tell {l : Launch} {D : va_G} {H0 : Heap} {X0 : xH} {A : Nat → Nat} {s : MS} (hA : mInj A) {v b : Int32} {a : List Int32} (hT : tol s a) (hl : a.length < 140) (hv : v = u8 b) : xMet l D H0 y_Mo_tell b_Mo_tell 2 none [] 0 0 0 [.ref (A 0), .int v] (mX D X0 A s) (fun o X' => o = .inl none ∧ ∃ s', X' = mX D X0 A s' ∧ tol s' (a ++ [b]) ∧ mFr [18, 19] s s') := by
  refine ⟨[some (.ref (A 0)), some (.int v)], rfl, Nat.le_of_ble_eq_true rfl, fun E hD hH hl _ C => ?_⟩
  subst hD
  subst hH
  subst hl
  refine xr_aload_n C d_Mo_tell_0 1 rfl rfl ?_
  refine xr_get C K_Mo 19 d_Mo_tell_1 4 rfl q_959 (Or.inl rfl) rfl (mX_o hA) rfl ?_
  refine xr_aload_n C d_Mo_tell_4 5 rfl rfl ?_
  refine xr_get C K_Mo 18 d_Mo_tell_5 8 rfl q_958 (Or.inl rfl) rfl (mX_o hA) rfl ?_
  refine xr_toi (show _ = nI a.length from hT.1) ?_
  refine xr_iload_n C d_Mo_tell_8 9 rfl rfl ?_
  refine xr_iast (j := a.length) C d_Mo_tell_9 10 rfl (mX_19 hA) rfl (by omega) (by omega) ?_
  obtain ⟨z1, hz1⟩ : ∃ zz9, zz9 = setI s 19 a.length (v) := ⟨_, rfl⟩
  refine xG.eqX (show _ = mX E.D X0 A z1 from (mX_s19 (v := (v)) hA).trans (by rw [hz1])) ?_
  refine xr_aload_n C d_Mo_tell_10 11 rfl rfl ?_
  refine xr_dup C d_Mo_tell_11 12 rfl rfl ?_
  refine xr_get C K_Mo 18 d_Mo_tell_12 15 rfl q_958 (Or.inl rfl) rfl (mX_o hA) rfl ?_
  refine xr_toi (show _ = nI a.length from (show z1.1 18 = _ by rw [hz1]; exact hT.1)) ?_
  refine xr_iconst (v := 1) C d_Mo_tell_15 16 rfl (by decide) ?_
  refine xr_iadd C d_Mo_tell_16 17 rfl ?_
  refine xr_toi (show _ = nI (a.length + 1) from nI_add a.length 1) ?_
  refine xr_put C K_Mo 18 d_Mo_tell_17 20 rfl q_958 (Or.inl rfl) rfl rfl rfl rfl (mX_o hA) rfl rfl ?_
  obtain ⟨z2, hz2⟩ : ∃ zz9, zz9 = setS z1 18 (nI (a.length + 1)) := ⟨_, rfl⟩
  refine xG.eqX (show _ = mX E.D X0 A z2 from (mX_f18 (v := (nI (a.length + 1))) hA).trans (by rw [hz2])) ?_
  refine xr_vret C d_Mo_tell_20 (by omega) (by omega) ⟨rfl, z2, rfl, ⟨?_, fun i hi => ?_⟩, ?_⟩
  · rw [hz2, List.length_append, List.length_singleton]
    rfl
  · rw [List.length_append, List.length_singleton] at hi
    rw [getDg_snoc hi, hz2, hz1]
    show (setI s 19 a.length v).2.1 19 i = _
    rw [setI_I]
    by_cases h : i < a.length
    · rw [if_pos h, if_neg (by omega)]
      exact hT.2 i h
    · rw [if_neg h, if_pos ⟨rfl, by omega⟩]
      exact hv
  · rw [hz2, hz1]
    exact (mFr_I (by decide)).trans (mFr_S (by decide))
set_option maxRecDepth 100000 in
set_option maxHeartbeats 4000000 in
theorem c_Mo_tellValue {l : Launch} {D : va_G} {H0 : Heap} {X0 : xH} {A : Nat → Nat} {s : MS} (hA : mInj A) {e : Nat} {v a : List Int32} (he : e < 256) (hv : vSlot s e v) (hT : tol s a) (hl : a.length + v.length ≤ 140) (hv2 : v.length ≤ 104) : xMet l D H0 y_Mo_tellValue b_Mo_tellValue 3 none [] 1 0 0 [.ref (A 0), .int (nI e)] (mX D X0 A s) (fun o X' => o = .inl none ∧ ∃ s', X' = mX D X0 A s' ∧ tol s' (a ++ v) ∧ mFr [18, 19] s s') := by
  refine ⟨[some (.ref (A 0)), some (.int (nI e)), none], rfl, Nat.le_of_ble_eq_true rfl, fun E hD hH hl _ C => ?_⟩
  subst hD
  subst hH
  subst hl
  have loop : ∀ (k i : Nat) (z : MS), i + k = v.length → tol z (a ++ v.take i) → mFr [18, 19] s z → xG E (mX E.D X0 A z) 0 0 2 [some (.ref (A 0)), some (.int (nI e)), some (.int (nI i))] [] := by
    intro k
    induction k with
    | zero =>
      intro i z hi h1 h2
      have hvz := hv.fr h2 (by decide) (by decide)
      refine xr_iload_n C d_Mo_tellValue_2 3 rfl rfl ?_
      refine xr_aload_n C d_Mo_tellValue_3 4 rfl rfl ?_
      refine xr_get C K_Mo 11 d_Mo_tellValue_4 7 rfl q_951 (Or.inl rfl) rfl (mX_o hA) rfl ?_
      refine xr_iload_n C d_Mo_tellValue_7 8 rfl rfl ?_
      refine xr_iald (j := e) C d_Mo_tellValue_8 9 rfl (mX_11 hA) rfl (by omega) (by omega) ?_
      refine xr_toi (show _ = nI v.length from hvz.1) ?_
      refine xr_icmp_ge C d_Mo_tellValue_9 12 28 rfl (by decide) (fun _ => ?_) (fun h => absurd (nI_le (show v.length ≤ i by omega) (by omega)) h)
      rw [List.take_of_length_le (show v.length ≤ i by omega)] at h1
      exact xr_vret C d_Mo_tellValue_28 (by omega) (by omega) ⟨rfl, z, rfl, h1, h2⟩
    | succ k ih =>
      intro i z hi h1 h2
      have hvz := hv.fr h2 (by decide) (by decide)
      have i1 : i < v.length := by omega
      refine xr_iload_n C d_Mo_tellValue_2 3 rfl rfl ?_
      refine xr_aload_n C d_Mo_tellValue_3 4 rfl rfl ?_
      refine xr_get C K_Mo 11 d_Mo_tellValue_4 7 rfl q_951 (Or.inl rfl) rfl (mX_o hA) rfl ?_
      refine xr_iload_n C d_Mo_tellValue_7 8 rfl rfl ?_
      refine xr_iald (j := e) C d_Mo_tellValue_8 9 rfl (mX_11 hA) rfl (by omega) (by omega) ?_
      refine xr_toi (show _ = nI v.length from hvz.1) ?_
      refine xr_icmp_ge C d_Mo_tellValue_9 12 28 rfl (by decide) (fun h => absurd h (nI_ge i1 (by omega))) (fun _ => ?_)
      refine xr_aload_n C d_Mo_tellValue_12 13 rfl rfl ?_
      refine xr_aload_n C d_Mo_tellValue_13 14 rfl rfl ?_
      refine xr_iload_n C d_Mo_tellValue_14 15 rfl rfl ?_
      refine xr_iload_n C d_Mo_tellValue_15 16 rfl rfl ?_
      refine xr_callV C (c_Mo_valueByte hA (by omega) hvz (show i < 104 by omega)) k_Mo_valueByte d_Mo_tellValue_16 19 rfl (mX_o hA) rfl (Or.inl q_1092) v_Mo_valueByte e_Mo_valueByte h_Mo_valueByte rfl ⟨Nat.le_of_ble_eq_true rfl, Nat.le_of_ble_eq_true rfl, Nat.le_of_ble_eq_true rfl⟩ (by omega) (by omega) (fun v9 X9 hP => ?_) (fun _ _ h => absurd h.1 (by simp))
      obtain ⟨h1, rfl⟩ := hP
      cases h1
      refine xr_callV C (c_Mo_tell hA (b := v.getD i 0) h1 (by rw [List.length_append, List.length_take]; omega) (by rw [u8_ub, pad_in i1])) k_Mo_tell d_Mo_tellValue_19 22 rfl (mX_o hA) rfl (Or.inl q_1064) v_Mo_tell e_Mo_tell h_Mo_tell rfl ⟨Nat.le_of_ble_eq_true rfl, Nat.le_of_ble_eq_true rfl, Nat.le_of_ble_eq_true rfl⟩ (by omega) (by omega) (fun v9 X9 hP => ?_) (fun _ _ h => absurd h.1 (by simp))
      obtain ⟨h1, z2, rfl, h3, h4⟩ := hP
      cases h1
      refine xr_iinc (v := 1) C d_Mo_tellValue_22 25 rfl rfl rfl rfl (by decide) ?_
      refine xr_goto C d_Mo_tellValue_25 2 (by decide) ?_
      refine xG.eqL (show _ = [some (Value.ref (A 0)), some (Value.int (nI e)), some (Value.int (nI (i + 1)))] by rw [← nI_one]; rfl) ?_
      refine ih (i + 1) z2 (by omega) ?_ (h2.trans h4)
      rw [takeg 0 i1, ← List.append_assoc]
      exact h3
  refine xr_iconst (v := 0) C d_Mo_tellValue_0 1 rfl (by decide) ?_
  refine xr_istore_n C d_Mo_tellValue_1 2 rfl rfl rfl ?_
  refine loop v.length 0 s (by omega) ?_ mFr.rf
  rw [List.take_zero, List.append_nil]
  exact hT
set_option maxRecDepth 100000 in
set_option maxHeartbeats 4000000 in
theorem c_Mo_seek {l : Launch} {D : va_G} {H0 : Heap} {X0 : xH} {A : Nat → Nat} {s : MS} (hA : mInj A) {f n : Nat} {ts : List Int32} (hT : rT s ts) (hf : f + n ≤ ts.length) (hn : n ≤ 32) : xMet l D H0 y_Mo_seek b_Mo_seek 4 none [] 0 0 0 [.ref (A 0), .int (nI f), .int (nI n)] (mX D X0 A s) (fun o X' => o = .inl none ∧ ∃ s', X' = mX D X0 A s' ∧ qS s' (sl ts f (f + n)) ∧ mFr [16, 17] s s') := by
  have h300 := hT.1
  refine ⟨[some (.ref (A 0)), some (.int (nI f)), some (.int (nI n)), none], rfl, Nat.le_of_ble_eq_true rfl, fun E hD hH hl _ C => ?_⟩
  subst hD
  subst hH
  subst hl
  have hkl : (sl ts f (f + n)).length = n := by rw [sl_len hf]; omega
  have loop2 : ∀ (k i : Nat) (z : MS), i + k = n → (∀ j, j < 4 → z.2.2 17 j = kWn (sl ts f (f + n)) i j) → mFr [16, 17] s z → xG E (mX E.D X0 A z) 0 0 22 [some (.ref (A 0)), some (.int (nI f)), some (.int (nI n)), some (.int (nI i))] [] := by
    intro k
    induction k with
    | zero =>
      intro i z hi h1 h2
      have ei : i = n := by omega
      subst ei
      refine xr_iload_n C d_Mo_seek_22 23 rfl rfl ?_
      refine xr_iload_n C d_Mo_seek_23 24 rfl rfl ?_
      refine xr_icmp_ge C d_Mo_seek_24 27 65 rfl (by decide) (fun _ => ?_) (fun h => absurd (nI_le (Nat.le_refl _) (by omega)) h)
      refine xr_aload_n C d_Mo_seek_65 66 rfl rfl ?_
      refine xr_iload_n C d_Mo_seek_66 67 rfl rfl ?_
      refine xr_put C K_Mo 16 d_Mo_seek_67 70 rfl q_956 (Or.inl rfl) rfl rfl rfl rfl (mX_o hA) rfl rfl ?_
      obtain ⟨z2, hz2⟩ : ∃ zz9, zz9 = setS z 16 (nI i) := ⟨_, rfl⟩
      refine xG.eqX (show _ = mX E.D X0 A z2 from (mX_f16 (v := (nI i)) hA).trans (by rw [hz2])) ?_
      refine xr_vret C d_Mo_seek_70 (by omega) (by omega) ⟨rfl, z2, rfl, ⟨?_, fun j hj => ?_⟩, ?_⟩
      · rw [hz2, hkl]
        rfl
      · rw [hz2]
        show z.2.2 17 j = _
        rw [h1 j hj]
        unfold kW
        rw [hkl]
      · rw [hz2]
        exact h2.trans (mFr_S (by decide))
    | succ k ih =>
      intro i z hi h1 h2
      have hTz := hT.fr h2 (by decide)
      refine xr_iload_n C d_Mo_seek_22 23 rfl rfl ?_
      refine xr_iload_n C d_Mo_seek_23 24 rfl rfl ?_
      refine xr_icmp_ge C d_Mo_seek_24 27 65 rfl (by decide) (fun h => absurd h (nI_ge (show i < n by omega) (by omega))) (fun _ => ?_)
      refine xr_aload_n C d_Mo_seek_27 28 rfl rfl ?_
      refine xr_get C K_Mo 17 d_Mo_seek_28 31 rfl q_957 (Or.inl rfl) rfl (mX_o hA) rfl ?_
      refine xr_iload_n C d_Mo_seek_31 32 rfl rfl ?_
      refine xr_bipush (v := 8) C d_Mo_seek_32 34 rfl (by decide) ?_
      refine xr_idiv C d_Mo_seek_34 35 rfl (by decide) ?_
      refine xr_toi (show _ = nI (i / 8) from pk_div (a := i) (d := 8) (by omega) (by omega) (by omega)) ?_
      refine xr_dup2_11 C d_Mo_seek_35 36 rfl rfl rfl ?_
      refine xr_lald (j := (i / 8)) C d_Mo_seek_36 37 rfl (mX_17 hA) rfl (by omega) (by omega) ?_
      refine xr_aload_n C d_Mo_seek_37 38 rfl rfl ?_
      refine xr_get C K_Mo 15 d_Mo_seek_38 41 rfl q_955 (Or.inl rfl) rfl (mX_o hA) rfl ?_
      refine xr_iload_n C d_Mo_seek_41 42 rfl rfl ?_
      refine xr_iload_n C d_Mo_seek_42 43 rfl rfl ?_
      refine xr_iadd C d_Mo_seek_43 44 rfl ?_
      refine xr_toi (show _ = nI (f + i) from nI_add f i) ?_
      refine xr_iald (j := (f + i)) C d_Mo_seek_44 45 rfl (mX_15 hA) rfl (by omega) (by omega) ?_
      refine xr_toi (show _ = nI (ub ((sl ts f (f + n)).getD i 0)) from (hTz.2 (f + i) (by omega)).trans (by rw [u8_ub, sl_at (by omega)])) ?_
      refine xr_i2l C d_Mo_seek_45 46 rfl rfl ?_
      refine xr_bipush (v := 56) C d_Mo_seek_46 48 rfl (by decide) ?_
      refine xr_bipush (v := 8) C d_Mo_seek_48 50 rfl (by decide) ?_
      refine xr_iload_n C d_Mo_seek_50 51 rfl rfl ?_
      refine xr_bipush (v := 8) C d_Mo_seek_51 53 rfl (by decide) ?_
      refine xr_irem C d_Mo_seek_53 54 rfl (by decide) ?_
      refine xr_toi (show _ = nI (i % 8) from pk_rem (a := i) (d := 8) (by omega) (by omega) (by omega)) ?_
      refine xr_imul C d_Mo_seek_54 55 rfl ?_
      refine xr_toi (show _ = nI (8 * (i % 8)) from pk_mul 8 (i % 8)) ?_
      refine xr_isub C d_Mo_seek_55 56 rfl ?_
      refine xr_toi (show _ = nI (8 * (7 - i % 8)) from (pk_sub (a := 56) (b := 8 * (i % 8)) (by omega)).trans (by congr 1; omega)) ?_
      refine xr_lshl (v := ((nI (ub ((sl ts f (f + n)).getD i 0))).toInt64) <<< sa (8 * (7 - i % 8))) C d_Mo_seek_56 57 rfl rfl ?_
      refine xr_lor C d_Mo_seek_57 58 rfl ?_
      refine xr_last (j := (i / 8)) C d_Mo_seek_58 59 rfl (mX_17 hA) rfl (by omega) (by omega) ?_
      obtain ⟨z2, hz2⟩ : ∃ zz9, zz9 = setL z 17 (i / 8) ((z.2.2 17 (i / 8)) ||| (((nI (ub ((sl ts f (f + n)).getD i 0))).toInt64) <<< sa (8 * (7 - i % 8)))) := ⟨_, rfl⟩
      refine xG.eqX (show _ = mX E.D X0 A z2 from (mX_s17 (v := ((z.2.2 17 (i / 8)) ||| (((nI (ub ((sl ts f (f + n)).getD i 0))).toInt64) <<< sa (8 * (7 - i % 8))))) hA).trans (by rw [hz2])) ?_
      refine xr_iinc (v := 1) C d_Mo_seek_59 62 rfl rfl rfl rfl (by decide) ?_
      refine xr_goto C d_Mo_seek_62 22 (by decide) ?_
      refine xG.eqL (show _ = [some (Value.ref (A 0)), some (Value.int (nI f)), some (Value.int (nI n)), some (Value.int (nI (i + 1)))] by rw [← nI_one]; rfl) ?_
      refine ih (i + 1) z2 (by omega) (fun j hj => ?_) (by rw [hz2]; exact h2.trans (mFr_L (by decide)))
      rw [hz2, setL_L]
      show _ = if j = i / 8 then _ else _
      by_cases e : j = i / 8
      · rw [if_pos ⟨rfl, e⟩, if_pos e, ← h1 j hj, e]
      · rw [if_neg (fun q => e q.2), if_neg e]
        exact h1 j hj
  have loop1 : ∀ (k i : Nat) (z : MS), i + k = 4 → (∀ j, j < i → z.2.2 17 j = 0) → mFr [16, 17] s z → xG E (mX E.D X0 A z) 0 0 2 [some (.ref (A 0)), some (.int (nI f)), some (.int (nI n)), some (.int (nI i))] [] := by
    intro k
    induction k with
    | zero =>
      intro i z hi h1 h2
      have ei : i = 4 := by omega
      subst ei
      refine xr_iload_n C d_Mo_seek_2 3 rfl rfl ?_
      refine xr_iconst (v := 4) C d_Mo_seek_3 4 rfl (by decide) ?_
      refine xr_toi (show _ = nI 4 from rfl) ?_
      refine xr_icmp_ge C d_Mo_seek_4 7 20 rfl (by decide) (fun _ => ?_) (fun h => absurd (nI_le (Nat.le_refl _) (by omega)) h)
      refine xr_iconst (v := 0) C d_Mo_seek_20 21 rfl (by decide) ?_
      refine xr_istore_n C d_Mo_seek_21 22 rfl rfl rfl ?_
      exact loop2 n 0 z (by omega) (fun j hj => h1 j hj) h2
    | succ k ih =>
      intro i z hi h1 h2
      refine xr_iload_n C d_Mo_seek_2 3 rfl rfl ?_
      refine xr_iconst (v := 4) C d_Mo_seek_3 4 rfl (by decide) ?_
      refine xr_toi (show _ = nI 4 from rfl) ?_
      refine xr_icmp_ge C d_Mo_seek_4 7 20 rfl (by decide) (fun h => absurd h (nI_ge (show i < 4 by omega) (by omega))) (fun _ => ?_)
      refine xr_aload_n C d_Mo_seek_7 8 rfl rfl ?_
      refine xr_get C K_Mo 17 d_Mo_seek_8 11 rfl q_957 (Or.inl rfl) rfl (mX_o hA) rfl ?_
      refine xr_iload_n C d_Mo_seek_11 12 rfl rfl ?_
      refine xr_lconst (v := 0) C d_Mo_seek_12 13 rfl (by decide) ?_
      refine xr_last (j := i) C d_Mo_seek_13 14 rfl (mX_17 hA) rfl (by omega) (by omega) ?_
      obtain ⟨z2, hz2⟩ : ∃ zz9, zz9 = setL z 17 i (0) := ⟨_, rfl⟩
      refine xG.eqX (show _ = mX E.D X0 A z2 from (mX_s17 (v := (0)) hA).trans (by rw [hz2])) ?_
      refine xr_iinc (v := 1) C d_Mo_seek_14 17 rfl rfl rfl rfl (by decide) ?_
      refine xr_goto C d_Mo_seek_17 2 (by decide) ?_
      refine xG.eqL (show _ = [some (Value.ref (A 0)), some (Value.int (nI f)), some (Value.int (nI n)), some (Value.int (nI (i + 1)))] by rw [← nI_one]; rfl) ?_
      refine ih (i + 1) z2 (by omega) (fun j hj => ?_) (by rw [hz2]; exact h2.trans (mFr_L (by decide)))
      rw [hz2, setL_L]
      by_cases e : j = i
      · rw [if_pos ⟨rfl, e⟩]
      · rw [if_neg (fun q => e q.2)]
        exact h1 j (by omega)
  refine xr_iconst (v := 0) C d_Mo_seek_0 1 rfl (by decide) ?_
  refine xr_istore_n C d_Mo_seek_1 2 rfl rfl rfl ?_
  exact loop1 4 0 s (by omega) (fun j hj => absurd hj (Nat.not_lt_zero _)) mFr.rf
set_option maxRecDepth 100000 in
set_option maxHeartbeats 4000000 in
theorem c_Mo_copyKey {l : Launch} {D : va_G} {H0 : Heap} {X0 : xH} {A : Nat → Nat} {s : MS} (hA : mInj A) {f t : Nat} (hf : f < 256) (ht : t < 256) : xMet l D H0 y_Mo_copyKey b_Mo_copyKey 4 none [] 0 0 0 [.ref (A 0), .int (nI f), .int (nI t)] (mX D X0 A s) (fun o X' => o = .inl none ∧ ∃ s', X' = mX D X0 A s' ∧ mFr [9, 10, 11, 12] s s' ∧ (∀ e x, e ≠ t → eSlot s e x → eSlot s' e x) ∧ ∀ x, eSlot s f x → eSlot s' t x) := by
  refine ⟨[some (.ref (A 0)), some (.int (nI f)), some (.int (nI t)), none], rfl, Nat.le_of_ble_eq_true rfl, fun E hD hH hl _ C => ?_⟩
  subst hD
  subst hH
  subst hl
  refine xr_aload_n C d_Mo_copyKey_0 1 rfl rfl ?_
  refine xr_get C K_Mo 9 d_Mo_copyKey_1 4 rfl q_949 (Or.inl rfl) rfl (mX_o hA) rfl ?_
  refine xr_iload_n C d_Mo_copyKey_4 5 rfl rfl ?_
  refine xr_aload_n C d_Mo_copyKey_5 6 rfl rfl ?_
  refine xr_get C K_Mo 9 d_Mo_copyKey_6 9 rfl q_949 (Or.inl rfl) rfl (mX_o hA) rfl ?_
  refine xr_iload_n C d_Mo_copyKey_9 10 rfl rfl ?_
  refine xr_iald (j := f) C d_Mo_copyKey_10 11 rfl (mX_9 hA) rfl (by omega) (by omega) ?_
  refine xr_iast (j := t) C d_Mo_copyKey_11 12 rfl (mX_9 hA) rfl (by omega) (by omega) ?_
  obtain ⟨z1, hz1⟩ : ∃ zz9, zz9 = setI s 9 t (s.2.1 9 f) := ⟨_, rfl⟩
  refine xG.eqX (show _ = mX E.D X0 A z1 from (mX_s9 (v := (s.2.1 9 f)) hA).trans (by rw [hz1])) ?_
  refine xr_aload_n C d_Mo_copyKey_12 13 rfl rfl ?_
  refine xr_get C K_Mo 11 d_Mo_copyKey_13 16 rfl q_951 (Or.inl rfl) rfl (mX_o hA) rfl ?_
  refine xr_iload_n C d_Mo_copyKey_16 17 rfl rfl ?_
  refine xr_aload_n C d_Mo_copyKey_17 18 rfl rfl ?_
  refine xr_get C K_Mo 11 d_Mo_copyKey_18 21 rfl q_951 (Or.inl rfl) rfl (mX_o hA) rfl ?_
  refine xr_iload_n C d_Mo_copyKey_21 22 rfl rfl ?_
  refine xr_iald (j := f) C d_Mo_copyKey_22 23 rfl (mX_11 hA) rfl (by omega) (by omega) ?_
  refine xr_iast (j := t) C d_Mo_copyKey_23 24 rfl (mX_11 hA) rfl (by omega) (by omega) ?_
  obtain ⟨z2, hz2⟩ : ∃ zz9, zz9 = setI z1 11 t (z1.2.1 11 f) := ⟨_, rfl⟩
  refine xG.eqX (show _ = mX E.D X0 A z2 from (mX_s11 (v := (z1.2.1 11 f)) hA).trans (by rw [hz2])) ?_
  have b9 : ∀ i, z2.2.1 9 i = if i = t then s.2.1 9 f else s.2.1 9 i := by
    intro i
    rw [hz2, setI_I, if_neg (by omega), hz1, setI_I]
    by_cases e : i = t
    · rw [if_pos ⟨rfl, e⟩, if_pos e]
    · rw [if_neg (fun q => e q.2), if_neg e]
  have b11 : ∀ i, z2.2.1 11 i = if i = t then s.2.1 11 f else s.2.1 11 i := by
    intro i
    rw [hz2, setI_I]
    by_cases e : i = t
    · rw [if_pos ⟨rfl, e⟩, if_pos e, hz1, setI_I, if_neg (by omega)]
    · rw [if_neg (fun q => e q.2), if_neg e, hz1, setI_I, if_neg (by omega)]
  have bf : mFr [9, 10, 11, 12] s z2 := by
    rw [hz2, hz1]
    exact (mFr_I (by decide)).trans (mFr_I (by decide))
  have bL : z2.2.2 = s.2.2 := by rw [hz2, hz1]; rfl
  clear hz2 hz1
  have loop2 : ∀ (k i : Nat) (z : MS), i + k = 13 → z.2.1 = z2.2.1 → mFr [9, 10, 11, 12] s z → (∀ q, q < 4 → z.2.2 10 (4 * t + q) = s.2.2 10 (4 * f + q)) → (∀ j, (j < 4 * t ∨ 4 * t + 4 ≤ j) → z.2.2 10 j = s.2.2 10 j) → (∀ q, q < i → z.2.2 12 (13 * t + q) = s.2.2 12 (13 * f + q)) → (∀ j, (j < 13 * t ∨ 13 * t + i ≤ j) → z.2.2 12 j = s.2.2 12 j) → xG E (mX E.D X0 A z) 0 0 59 [some (.ref (A 0)), some (.int (nI f)), some (.int (nI t)), some (.int (nI i))] [] := by
    intro k
    induction k with
    | zero =>
      intro i z hi h1 h2 h3 h4 h5 h6
      have ei : i = 13 := by omega
      subst ei
      refine xr_iload_n C d_Mo_copyKey_59 60 rfl rfl ?_
      refine xr_bipush (v := 13) C d_Mo_copyKey_60 62 rfl (by decide) ?_
      refine xr_toi (show _ = nI 13 from rfl) ?_
      refine xr_icmp_ge C d_Mo_copyKey_62 65 93 rfl (by decide) (fun _ => ?_) (fun h => absurd (nI_le (Nat.le_refl _) (by omega)) h)
      refine xr_vret C d_Mo_copyKey_93 (by omega) (by omega) ⟨rfl, z, rfl, h2, fun e x hne hx => ⟨⟨?_, fun j hj => ?_⟩, ⟨?_, fun j hj => ?_⟩⟩, fun x hx => ⟨⟨?_, fun j hj => ?_⟩, ⟨?_, fun j hj => ?_⟩⟩⟩
      · rw [h1, b9, if_neg hne]
        exact hx.1.1
      · rw [h4 _ (by omega)]
        exact hx.1.2 j hj
      · rw [h1, b11, if_neg hne]
        exact hx.2.1
      · rw [h6 _ (by omega)]
        exact hx.2.2 j hj
      · rw [h1, b9, if_pos rfl]
        exact hx.1.1
      · rw [h3 j hj]
        exact hx.1.2 j hj
      · rw [h1, b11, if_pos rfl]
        exact hx.2.1
      · rw [h5 j hj]
        exact hx.2.2 j hj
    | succ k ih =>
      intro i z hi h1 h2 h3 h4 h5 h6
      refine xr_iload_n C d_Mo_copyKey_59 60 rfl rfl ?_
      refine xr_bipush (v := 13) C d_Mo_copyKey_60 62 rfl (by decide) ?_
      refine xr_toi (show _ = nI 13 from rfl) ?_
      refine xr_icmp_ge C d_Mo_copyKey_62 65 93 rfl (by decide) (fun h => absurd h (nI_ge (show i < 13 by omega) (by omega))) (fun _ => ?_)
      refine xr_aload_n C d_Mo_copyKey_65 66 rfl rfl ?_
      refine xr_get C K_Mo 12 d_Mo_copyKey_66 69 rfl q_952 (Or.inl rfl) rfl (mX_o hA) rfl ?_
      refine xr_bipush (v := 13) C d_Mo_copyKey_69 71 rfl (by decide) ?_
      refine xr_iload_n C d_Mo_copyKey_71 72 rfl rfl ?_
      refine xr_imul C d_Mo_copyKey_72 73 rfl ?_
      refine xr_toi (show _ = nI (13 * t) from pk_mul 13 t) ?_
      refine xr_iload_n C d_Mo_copyKey_73 74 rfl rfl ?_
      refine xr_iadd C d_Mo_copyKey_74 75 rfl ?_
      refine xr_toi (show _ = nI ((13 * t) + i) from nI_add (13 * t) i) ?_
      refine xr_aload_n C d_Mo_copyKey_75 76 rfl rfl ?_
      refine xr_get C K_Mo 12 d_Mo_copyKey_76 79 rfl q_952 (Or.inl rfl) rfl (mX_o hA) rfl ?_
      refine xr_bipush (v := 13) C d_Mo_copyKey_79 81 rfl (by decide) ?_
      refine xr_iload_n C d_Mo_copyKey_81 82 rfl rfl ?_
      refine xr_imul C d_Mo_copyKey_82 83 rfl ?_
      refine xr_toi (show _ = nI (13 * f) from pk_mul 13 f) ?_
      refine xr_iload_n C d_Mo_copyKey_83 84 rfl rfl ?_
      refine xr_iadd C d_Mo_copyKey_84 85 rfl ?_
      refine xr_toi (show _ = nI ((13 * f) + i) from nI_add (13 * f) i) ?_
      refine xr_lald (j := ((13 * f) + i)) C d_Mo_copyKey_85 86 rfl (mX_12 hA) rfl (by omega) (by omega) ?_
      refine xr_last (j := ((13 * t) + i)) C d_Mo_copyKey_86 87 rfl (mX_12 hA) rfl (by omega) (by omega) ?_
      obtain ⟨y, hy⟩ : ∃ zz9, zz9 = setL z 12 ((13 * t) + i) (z.2.2 12 ((13 * f) + i)) := ⟨_, rfl⟩
      refine xG.eqX (show _ = mX E.D X0 A y from (mX_s12 (v := (z.2.2 12 ((13 * f) + i))) hA).trans (by rw [hy])) ?_
      refine xr_iinc (v := 1) C d_Mo_copyKey_87 90 rfl rfl rfl rfl (by decide) ?_
      refine xr_goto C d_Mo_copyKey_90 59 (by decide) ?_
      refine xG.eqL (show _ = [some (Value.ref (A 0)), some (Value.int (nI f)), some (Value.int (nI t)), some (Value.int (nI (i + 1)))] by rw [← nI_one]; rfl) ?_
      refine ih (i + 1) y (by omega) (by rw [hy]; exact h1) (by rw [hy]; exact h2.trans (mFr_L (by decide))) (fun q hq => ?_) (fun j hj => ?_) (fun q hq => ?_) (fun j hj => ?_)
      · rw [hy, setL_L, if_neg (by omega)]
        exact h3 q hq
      · rw [hy, setL_L, if_neg (by omega)]
        exact h4 j hj
      · rw [hy, setL_L]
        by_cases e : q = i
        · rw [if_pos ⟨rfl, by omega⟩, e]
          exact h6 _ (by omega)
        · rw [if_neg (by omega)]
          exact h5 q (by omega)
      · rw [hy, setL_L, if_neg (by omega)]
        exact h6 j (by omega)
  have loop1 : ∀ (k i : Nat) (z : MS), i + k = 4 → z.2.1 = z2.2.1 → mFr [9, 10, 11, 12] s z → (∀ q, q < i → z.2.2 10 (4 * t + q) = s.2.2 10 (4 * f + q)) → (∀ j, (j < 4 * t ∨ 4 * t + i ≤ j) → z.2.2 10 j = s.2.2 10 j) → (∀ j, z.2.2 12 j = s.2.2 12 j) → xG E (mX E.D X0 A z) 0 0 26 [some (.ref (A 0)), some (.int (nI f)), some (.int (nI t)), some (.int (nI i))] [] := by
    intro k
    induction k with
    | zero =>
      intro i z hi h1 h2 h3 h4 h5
      have ei : i = 4 := by omega
      subst ei
      refine xr_iload_n C d_Mo_copyKey_26 27 rfl rfl ?_
      refine xr_iconst (v := 4) C d_Mo_copyKey_27 28 rfl (by decide) ?_
      refine xr_toi (show _ = nI 4 from rfl) ?_
      refine xr_icmp_ge C d_Mo_copyKey_28 31 57 rfl (by decide) (fun _ => ?_) (fun h => absurd (nI_le (Nat.le_refl _) (by omega)) h)
      refine xr_iconst (v := 0) C d_Mo_copyKey_57 58 rfl (by decide) ?_
      refine xr_istore_n C d_Mo_copyKey_58 59 rfl rfl rfl ?_
      exact loop2 13 0 z (by omega) h1 h2 h3 h4 (fun q hq => absurd hq (Nat.not_lt_zero _)) (fun j _ => h5 j)
    | succ k ih =>
      intro i z hi h1 h2 h3 h4 h5
      refine xr_iload_n C d_Mo_copyKey_26 27 rfl rfl ?_
      refine xr_iconst (v := 4) C d_Mo_copyKey_27 28 rfl (by decide) ?_
      refine xr_toi (show _ = nI 4 from rfl) ?_
      refine xr_icmp_ge C d_Mo_copyKey_28 31 57 rfl (by decide) (fun h => absurd h (nI_ge (show i < 4 by omega) (by omega))) (fun _ => ?_)
      refine xr_aload_n C d_Mo_copyKey_31 32 rfl rfl ?_
      refine xr_get C K_Mo 10 d_Mo_copyKey_32 35 rfl q_950 (Or.inl rfl) rfl (mX_o hA) rfl ?_
      refine xr_iconst (v := 4) C d_Mo_copyKey_35 36 rfl (by decide) ?_
      refine xr_iload_n C d_Mo_copyKey_36 37 rfl rfl ?_
      refine xr_imul C d_Mo_copyKey_37 38 rfl ?_
      refine xr_toi (show _ = nI (4 * t) from pk_mul 4 t) ?_
      refine xr_iload_n C d_Mo_copyKey_38 39 rfl rfl ?_
      refine xr_iadd C d_Mo_copyKey_39 40 rfl ?_
      refine xr_toi (show _ = nI ((4 * t) + i) from nI_add (4 * t) i) ?_
      refine xr_aload_n C d_Mo_copyKey_40 41 rfl rfl ?_
      refine xr_get C K_Mo 10 d_Mo_copyKey_41 44 rfl q_950 (Or.inl rfl) rfl (mX_o hA) rfl ?_
      refine xr_iconst (v := 4) C d_Mo_copyKey_44 45 rfl (by decide) ?_
      refine xr_iload_n C d_Mo_copyKey_45 46 rfl rfl ?_
      refine xr_imul C d_Mo_copyKey_46 47 rfl ?_
      refine xr_toi (show _ = nI (4 * f) from pk_mul 4 f) ?_
      refine xr_iload_n C d_Mo_copyKey_47 48 rfl rfl ?_
      refine xr_iadd C d_Mo_copyKey_48 49 rfl ?_
      refine xr_toi (show _ = nI ((4 * f) + i) from nI_add (4 * f) i) ?_
      refine xr_lald (j := ((4 * f) + i)) C d_Mo_copyKey_49 50 rfl (mX_10 hA) rfl (by omega) (by omega) ?_
      refine xr_last (j := ((4 * t) + i)) C d_Mo_copyKey_50 51 rfl (mX_10 hA) rfl (by omega) (by omega) ?_
      obtain ⟨y, hy⟩ : ∃ zz9, zz9 = setL z 10 ((4 * t) + i) (z.2.2 10 ((4 * f) + i)) := ⟨_, rfl⟩
      refine xG.eqX (show _ = mX E.D X0 A y from (mX_s10 (v := (z.2.2 10 ((4 * f) + i))) hA).trans (by rw [hy])) ?_
      refine xr_iinc (v := 1) C d_Mo_copyKey_51 54 rfl rfl rfl rfl (by decide) ?_
      refine xr_goto C d_Mo_copyKey_54 26 (by decide) ?_
      refine xG.eqL (show _ = [some (Value.ref (A 0)), some (Value.int (nI f)), some (Value.int (nI t)), some (Value.int (nI (i + 1)))] by rw [← nI_one]; rfl) ?_
      refine ih (i + 1) y (by omega) (by rw [hy]; exact h1) (by rw [hy]; exact h2.trans (mFr_L (by decide))) (fun q hq => ?_) (fun j hj => ?_) (fun j => ?_)
      · rw [hy, setL_L]
        by_cases e : q = i
        · rw [if_pos ⟨rfl, by omega⟩, e]
          exact h4 _ (by omega)
        · rw [if_neg (by omega)]
          exact h3 q (by omega)
      · rw [hy, setL_L, if_neg (by omega)]
        exact h4 j (by omega)
      · rw [hy, setL_L, if_neg (by omega)]
        exact h5 j
  refine xr_iconst (v := 0) C d_Mo_copyKey_24 25 rfl (by decide) ?_
  refine xr_istore_n C d_Mo_copyKey_25 26 rfl rfl rfl ?_
  refine loop1 4 0 z2 (by omega) rfl bf (fun q hq => absurd hq (Nat.not_lt_zero _)) (fun j _ => by rw [bL]) (fun j => by rw [bL])
set_option maxRecDepth 100000 in
set_option maxHeartbeats 4000000 in
theorem c_Mo_setValue {l : Launch} {D : va_G} {H0 : Heap} {X0 : xH} {A : Nat → Nat} {s : MS} (hA : mInj A) {e f n : Nat} {ts : List Int32} (he : e < 256) (hT : rT s ts) (hf : f + n ≤ ts.length) (hn : n ≤ 104) : xMet l D H0 y_Mo_setValue b_Mo_setValue 5 none [] 0 0 0 [.ref (A 0), .int (nI e), .int (nI f), .int (nI n)] (mX D X0 A s) (fun o X' => o = .inl none ∧ ∃ s', X' = mX D X0 A s' ∧ mFr [11, 12] s s' ∧ vSlot s' e (sl ts f (f + n)) ∧ ∀ q v, q ≠ e → vSlot s q v → vSlot s' q v) := by
  have h300 := hT.1
  refine ⟨[some (.ref (A 0)), some (.int (nI e)), some (.int (nI f)), some (.int (nI n)), none], rfl, Nat.le_of_ble_eq_true rfl, fun E hD hH hl _ C => ?_⟩
  subst hD
  subst hH
  subst hl
  have hkl : (sl ts f (f + n)).length = n := by rw [sl_len hf]; omega
  have loop2 : ∀ (k i : Nat) (z : MS), i + k = n → (∀ j, j < 13 → z.2.2 12 (13 * e + j) = vWn (sl ts f (f + n)) i j) → (∀ j, (j < 13 * e ∨ 13 * e + 13 ≤ j) → z.2.2 12 j = s.2.2 12 j) → z.2.1 = s.2.1 → mFr [11, 12] s z → xG E (mX E.D X0 A z) 0 0 32 [some (.ref (A 0)), some (.int (nI e)), some (.int (nI f)), some (.int (nI n)), some (.int (nI i))] [] := by
    intro k
    induction k with
    | zero =>
      intro i z hi h1 h3 h4 h2
      have ei : i = n := by omega
      subst ei
      refine xr_iload C d_Mo_setValue_32 34 rfl rfl ?_
      refine xr_iload_n C d_Mo_setValue_34 35 rfl rfl ?_
      refine xr_icmp_ge C d_Mo_setValue_35 38 81 rfl (by decide) (fun _ => ?_) (fun h => absurd (nI_le (Nat.le_refl _) (by omega)) h)
      refine xr_aload_n C d_Mo_setValue_81 82 rfl rfl ?_
      refine xr_get C K_Mo 11 d_Mo_setValue_82 85 rfl q_951 (Or.inl rfl) rfl (mX_o hA) rfl ?_
      refine xr_iload_n C d_Mo_setValue_85 86 rfl rfl ?_
      refine xr_iload_n C d_Mo_setValue_86 87 rfl rfl ?_
      refine xr_iast (j := e) C d_Mo_setValue_87 88 rfl (mX_11 hA) rfl (by omega) (by omega) ?_
      obtain ⟨z2, hz2⟩ : ∃ zz9, zz9 = setI z 11 e (nI i) := ⟨_, rfl⟩
      refine xG.eqX (show _ = mX E.D X0 A z2 from (mX_s11 (v := (nI i)) hA).trans (by rw [hz2])) ?_
      refine xr_vret C d_Mo_setValue_88 (by omega) (by omega) ⟨rfl, z2, rfl, by rw [hz2]; exact h2.trans (mFr_I (by decide)), ⟨?_, fun j hj => ?_⟩, fun q v hq hv => ⟨?_, fun j hj => ?_⟩⟩
      · rw [hz2, setI_I, if_pos ⟨rfl, rfl⟩, hkl]
      · rw [hz2]
        show z.2.2 12 _ = _
        rw [h1 j hj]
        unfold vW
        rw [hkl]
      · rw [hz2, setI_I, if_neg (fun e => hq e.2), h4]
        exact hv.1
      · rw [hz2]
        show z.2.2 12 _ = _
        rw [h3 _ (by omega)]
        exact hv.2 j hj
    | succ k ih =>
      intro i z hi h1 h3 h4 h2
      have hTz := hT.fr h2 (by decide)
      refine xr_iload C d_Mo_setValue_32 34 rfl rfl ?_
      refine xr_iload_n C d_Mo_setValue_34 35 rfl rfl ?_
      refine xr_icmp_ge C d_Mo_setValue_35 38 81 rfl (by decide) (fun h => absurd h (nI_ge (show i < n by omega) (by omega))) (fun _ => ?_)
      refine xr_aload_n C d_Mo_setValue_38 39 rfl rfl ?_
      refine xr_get C K_Mo 12 d_Mo_setValue_39 42 rfl q_952 (Or.inl rfl) rfl (mX_o hA) rfl ?_
      refine xr_bipush (v := 13) C d_Mo_setValue_42 44 rfl (by decide) ?_
      refine xr_iload_n C d_Mo_setValue_44 45 rfl rfl ?_
      refine xr_imul C d_Mo_setValue_45 46 rfl ?_
      refine xr_toi (show _ = nI (13 * e) from pk_mul 13 e) ?_
      refine xr_iload C d_Mo_setValue_46 48 rfl rfl ?_
      refine xr_bipush (v := 8) C d_Mo_setValue_48 50 rfl (by decide) ?_
      refine xr_idiv C d_Mo_setValue_50 51 rfl (by decide) ?_
      refine xr_toi (show _ = nI (i / 8) from pk_div (a := i) (d := 8) (by omega) (by omega) (by omega)) ?_
      refine xr_iadd C d_Mo_setValue_51 52 rfl ?_
      refine xr_toi (show _ = nI ((13 * e) + (i / 8)) from nI_add (13 * e) (i / 8)) ?_
      refine xr_dup2_11 C d_Mo_setValue_52 53 rfl rfl rfl ?_
      refine xr_lald (j := ((13 * e) + (i / 8))) C d_Mo_setValue_53 54 rfl (mX_12 hA) rfl (by omega) (by omega) ?_
      refine xr_aload_n C d_Mo_setValue_54 55 rfl rfl ?_
      refine xr_get C K_Mo 15 d_Mo_setValue_55 58 rfl q_955 (Or.inl rfl) rfl (mX_o hA) rfl ?_
      refine xr_iload_n C d_Mo_setValue_58 59 rfl rfl ?_
      refine xr_iload C d_Mo_setValue_59 61 rfl rfl ?_
      refine xr_iadd C d_Mo_setValue_61 62 rfl ?_
      refine xr_toi (show _ = nI (f + i) from nI_add f i) ?_
      refine xr_iald (j := (f + i)) C d_Mo_setValue_62 63 rfl (mX_15 hA) rfl (by omega) (by omega) ?_
      refine xr_toi (show _ = nI (ub ((sl ts f (f + n)).getD i 0)) from (hTz.2 (f + i) (by omega)).trans (by rw [u8_ub, sl_at (by omega)])) ?_
      refine xr_i2l C d_Mo_setValue_63 64 rfl rfl ?_
      refine xr_bipush (v := 8) C d_Mo_setValue_64 66 rfl (by decide) ?_
      refine xr_iload C d_Mo_setValue_66 68 rfl rfl ?_
      refine xr_bipush (v := 8) C d_Mo_setValue_68 70 rfl (by decide) ?_
      refine xr_irem C d_Mo_setValue_70 71 rfl (by decide) ?_
      refine xr_toi (show _ = nI (i % 8) from pk_rem (a := i) (d := 8) (by omega) (by omega) (by omega)) ?_
      refine xr_imul C d_Mo_setValue_71 72 rfl ?_
      refine xr_toi (show _ = nI (8 * (i % 8)) from pk_mul 8 (i % 8)) ?_
      refine xr_lshl (v := ((nI (ub ((sl ts f (f + n)).getD i 0))).toInt64) <<< sa (8 * (i % 8))) C d_Mo_setValue_72 73 rfl rfl ?_
      refine xr_lor C d_Mo_setValue_73 74 rfl ?_
      refine xr_last (j := ((13 * e) + (i / 8))) C d_Mo_setValue_74 75 rfl (mX_12 hA) rfl (by omega) (by omega) ?_
      obtain ⟨z2, hz2⟩ : ∃ zz9, zz9 = setL z 12 ((13 * e) + (i / 8)) ((z.2.2 12 ((13 * e) + (i / 8))) ||| (((nI (ub ((sl ts f (f + n)).getD i 0))).toInt64) <<< sa (8 * (i % 8)))) := ⟨_, rfl⟩
      refine xG.eqX (show _ = mX E.D X0 A z2 from (mX_s12 (v := ((z.2.2 12 ((13 * e) + (i / 8))) ||| (((nI (ub ((sl ts f (f + n)).getD i 0))).toInt64) <<< sa (8 * (i % 8))))) hA).trans (by rw [hz2])) ?_
      refine xr_iinc (v := 1) C d_Mo_setValue_75 78 rfl rfl rfl rfl (by decide) ?_
      refine xr_goto C d_Mo_setValue_78 32 (by decide) ?_
      refine xG.eqL (show _ = [some (Value.ref (A 0)), some (Value.int (nI e)), some (Value.int (nI f)), some (Value.int (nI n)), some (Value.int (nI (i + 1)))] by rw [← nI_one]; rfl) ?_
      refine ih (i + 1) z2 (by omega) (fun j hj => ?_) (fun j hj => ?_) (by rw [hz2]; exact h4) (by rw [hz2]; exact h2.trans (mFr_L (by decide)))
      · rw [hz2, setL_L]
        show _ = if j = i / 8 then _ else _
        by_cases e1 : j = i / 8
        · rw [if_pos ⟨rfl, by omega⟩, if_pos e1, ← h1 j hj, e1]
        · rw [if_neg (by omega), if_neg e1]
          exact h1 j hj
      · rw [hz2, setL_L, if_neg (by omega)]
        exact h3 j hj
  have loop1 : ∀ (k i : Nat) (z : MS), i + k = 13 → (∀ j, j < i → z.2.2 12 (13 * e + j) = 0) → (∀ j, (j < 13 * e ∨ 13 * e + 13 ≤ j) → z.2.2 12 j = s.2.2 12 j) → z.2.1 = s.2.1 → mFr [11, 12] s z → xG E (mX E.D X0 A z) 0 0 3 [some (.ref (A 0)), some (.int (nI e)), some (.int (nI f)), some (.int (nI n)), some (.int (nI i))] [] := by
    intro k
    induction k with
    | zero =>
      intro i z hi h1 h3 h4 h2
      have ei : i = 13 := by omega
      subst ei
      refine xr_iload C d_Mo_setValue_3 5 rfl rfl ?_
      refine xr_bipush (v := 13) C d_Mo_setValue_5 7 rfl (by decide) ?_
      refine xr_toi (show _ = nI 13 from rfl) ?_
      refine xr_icmp_ge C d_Mo_setValue_7 10 29 rfl (by decide) (fun _ => ?_) (fun h => absurd (nI_le (Nat.le_refl _) (by omega)) h)
      refine xr_iconst (v := 0) C d_Mo_setValue_29 30 rfl (by decide) ?_
      refine xr_istore C d_Mo_setValue_30 32 rfl rfl rfl ?_
      exact loop2 n 0 z (by omega) (fun j hj => h1 j hj) h3 h4 h2
    | succ k ih =>
      intro i z hi h1 h3 h4 h2
      refine xr_iload C d_Mo_setValue_3 5 rfl rfl ?_
      refine xr_bipush (v := 13) C d_Mo_setValue_5 7 rfl (by decide) ?_
      refine xr_toi (show _ = nI 13 from rfl) ?_
      refine xr_icmp_ge C d_Mo_setValue_7 10 29 rfl (by decide) (fun h => absurd h (nI_ge (show i < 13 by omega) (by omega))) (fun _ => ?_)
      refine xr_aload_n C d_Mo_setValue_10 11 rfl rfl ?_
      refine xr_get C K_Mo 12 d_Mo_setValue_11 14 rfl q_952 (Or.inl rfl) rfl (mX_o hA) rfl ?_
      refine xr_bipush (v := 13) C d_Mo_setValue_14 16 rfl (by decide) ?_
      refine xr_iload_n C d_Mo_setValue_16 17 rfl rfl ?_
      refine xr_imul C d_Mo_setValue_17 18 rfl ?_
      refine xr_toi (show _ = nI (13 * e) from pk_mul 13 e) ?_
      refine xr_iload C d_Mo_setValue_18 20 rfl rfl ?_
      refine xr_iadd C d_Mo_setValue_20 21 rfl ?_
      refine xr_toi (show _ = nI ((13 * e) + i) from nI_add (13 * e) i) ?_
      refine xr_lconst (v := 0) C d_Mo_setValue_21 22 rfl (by decide) ?_
      refine xr_last (j := ((13 * e) + i)) C d_Mo_setValue_22 23 rfl (mX_12 hA) rfl (by omega) (by omega) ?_
      obtain ⟨z2, hz2⟩ : ∃ zz9, zz9 = setL z 12 ((13 * e) + i) (0) := ⟨_, rfl⟩
      refine xG.eqX (show _ = mX E.D X0 A z2 from (mX_s12 (v := (0)) hA).trans (by rw [hz2])) ?_
      refine xr_iinc (v := 1) C d_Mo_setValue_23 26 rfl rfl rfl rfl (by decide) ?_
      refine xr_goto C d_Mo_setValue_26 3 (by decide) ?_
      refine xG.eqL (show _ = [some (Value.ref (A 0)), some (Value.int (nI e)), some (Value.int (nI f)), some (Value.int (nI n)), some (Value.int (nI (i + 1)))] by rw [← nI_one]; rfl) ?_
      refine ih (i + 1) z2 (by omega) (fun j hj => ?_) (fun j hj => ?_) (by rw [hz2]; exact h4) (by rw [hz2]; exact h2.trans (mFr_L (by decide)))
      · rw [hz2, setL_L]
        by_cases e1 : j = i
        · rw [if_pos ⟨rfl, by omega⟩]
        · rw [if_neg (by omega)]
          exact h1 j (by omega)
      · rw [hz2, setL_L, if_neg (by omega)]
        exact h3 j hj
  refine xr_iconst (v := 0) C d_Mo_setValue_0 1 rfl (by decide) ?_
  refine xr_istore C d_Mo_setValue_1 3 rfl rfl rfl ?_
  exact loop1 13 0 s (by omega) (fun j hj => absurd hj (Nat.not_lt_zero _)) (fun j _ => rfl) rfl mFr.rf
set_option maxRecDepth 100000 in
set_option maxHeartbeats 4000000 in
theorem c_Mo_add {l : Launch} {D : va_G} {H0 : Heap} {X0 : xH} {A : Nat → Nat} {s : MS} (hA : mInj A) {v b : Int32} {res : List Int32} (hR : rR s res) (hl : res.length < 14400) (hv : v &&& 255 = nI (ub b)) : xMet l D H0 y_Mo_add b_Mo_add 3 none [] 0 0 0 [.ref (A 0), .int v] (mX D X0 A s) (fun o X' => o = .inl none ∧ ∃ s', X' = mX D X0 A s' ∧ rR s' (res ++ [b]) ∧ mFr [21, 22] s s') := by
  refine ⟨[some (.ref (A 0)), some (.int v), none], rfl, Nat.le_of_ble_eq_true rfl, fun E hD hH hl _ C => ?_⟩
  subst hD
  subst hH
  subst hl
  refine xr_bipush (v := 8) C d_Mo_add_0 2 rfl (by decide) ?_
  refine xr_aload_n C d_Mo_add_2 3 rfl rfl ?_
  refine xr_get C K_Mo 21 d_Mo_add_3 6 rfl q_961 (Or.inl rfl) rfl (mX_o hA) rfl ?_
  refine xr_toi (show _ = nI res.length from hR.1) ?_
  refine xr_bipush (v := 8) C d_Mo_add_6 8 rfl (by decide) ?_
  refine xr_irem C d_Mo_add_8 9 rfl (by decide) ?_
  refine xr_toi (show _ = nI (res.length % 8) from pk_rem (a := res.length) (d := 8) (by omega) (by omega) (by omega)) ?_
  refine xr_imul C d_Mo_add_9 10 rfl ?_
  refine xr_toi (show _ = nI (8 * (res.length % 8)) from pk_mul 8 (res.length % 8)) ?_
  refine xr_istore_n C d_Mo_add_10 11 rfl rfl rfl ?_
  refine xr_aload_n C d_Mo_add_11 12 rfl rfl ?_
  refine xr_get C K_Mo 22 d_Mo_add_12 15 rfl q_962 (Or.inl rfl) rfl (mX_o hA) rfl ?_
  refine xr_aload_n C d_Mo_add_15 16 rfl rfl ?_
  refine xr_get C K_Mo 21 d_Mo_add_16 19 rfl q_961 (Or.inl rfl) rfl (mX_o hA) rfl ?_
  refine xr_toi (show _ = nI res.length from hR.1) ?_
  refine xr_bipush (v := 8) C d_Mo_add_19 21 rfl (by decide) ?_
  refine xr_idiv C d_Mo_add_21 22 rfl (by decide) ?_
  refine xr_toi (show _ = nI (res.length / 8) from pk_div (a := res.length) (d := 8) (by omega) (by omega) (by omega)) ?_
  refine xr_aload_n C d_Mo_add_22 23 rfl rfl ?_
  refine xr_get C K_Mo 22 d_Mo_add_23 26 rfl q_962 (Or.inl rfl) rfl (mX_o hA) rfl ?_
  refine xr_aload_n C d_Mo_add_26 27 rfl rfl ?_
  refine xr_get C K_Mo 21 d_Mo_add_27 30 rfl q_961 (Or.inl rfl) rfl (mX_o hA) rfl ?_
  refine xr_toi (show _ = nI res.length from hR.1) ?_
  refine xr_bipush (v := 8) C d_Mo_add_30 32 rfl (by decide) ?_
  refine xr_idiv C d_Mo_add_32 33 rfl (by decide) ?_
  refine xr_toi (show _ = nI (res.length / 8) from pk_div (a := res.length) (d := 8) (by omega) (by omega) (by omega)) ?_
  refine xr_lald (j := (res.length / 8)) C d_Mo_add_33 34 rfl (mX_22 hA) rfl (by omega) (by omega) ?_
  refine xr_ldc2 (v := 255) C d_Mo_add_34 37 rfl q_1027 ?_
  refine xr_iload_n C d_Mo_add_37 38 rfl rfl ?_
  refine xr_lshl (v := (255) <<< sa (8 * (res.length % 8))) C d_Mo_add_38 39 rfl rfl ?_
  refine xr_ldc2 (v := (-1)) C d_Mo_add_39 42 rfl q_1063 ?_
  refine xr_lxor C d_Mo_add_42 43 rfl ?_
  refine xr_land C d_Mo_add_43 44 rfl ?_
  refine xr_iload_n C d_Mo_add_44 45 rfl rfl ?_
  refine xr_sipush (v := 255) C d_Mo_add_45 48 rfl (by decide) ?_
  refine xr_iand C d_Mo_add_48 49 rfl ?_
  refine xr_toi (show _ = nI (ub b) from hv) ?_
  refine xr_i2l C d_Mo_add_49 50 rfl rfl ?_
  refine xr_iload_n C d_Mo_add_50 51 rfl rfl ?_
  refine xr_lshl (v := ((nI (ub b)).toInt64) <<< sa (8 * (res.length % 8))) C d_Mo_add_51 52 rfl rfl ?_
  refine xr_lor C d_Mo_add_52 53 rfl ?_
  refine xr_last (j := (res.length / 8)) C d_Mo_add_53 54 rfl (mX_22 hA) rfl (by omega) (by omega) ?_
  obtain ⟨z1, hz1⟩ : ∃ zz9, zz9 = setL s 22 (res.length / 8) (((s.2.2 22 (res.length / 8)) &&& (((255) <<< sa (8 * (res.length % 8))) ^^^ ((-1)))) ||| (((nI (ub b)).toInt64) <<< sa (8 * (res.length % 8)))) := ⟨_, rfl⟩
  refine xG.eqX (show _ = mX E.D X0 A z1 from (mX_s22 (v := (((s.2.2 22 (res.length / 8)) &&& (((255) <<< sa (8 * (res.length % 8))) ^^^ ((-1)))) ||| (((nI (ub b)).toInt64) <<< sa (8 * (res.length % 8))))) hA).trans (by rw [hz1])) ?_
  refine xr_aload_n C d_Mo_add_54 55 rfl rfl ?_
  refine xr_dup C d_Mo_add_55 56 rfl rfl ?_
  refine xr_get C K_Mo 21 d_Mo_add_56 59 rfl q_961 (Or.inl rfl) rfl (mX_o hA) rfl ?_
  refine xr_toi (show _ = nI res.length from (show z1.1 21 = _ by rw [hz1]; exact hR.1)) ?_
  refine xr_iconst (v := 1) C d_Mo_add_59 60 rfl (by decide) ?_
  refine xr_iadd C d_Mo_add_60 61 rfl ?_
  refine xr_toi (show _ = nI (res.length + 1) from nI_add res.length 1) ?_
  refine xr_put C K_Mo 21 d_Mo_add_61 64 rfl q_961 (Or.inl rfl) rfl rfl rfl rfl (mX_o hA) rfl rfl ?_
  obtain ⟨z2, hz2⟩ : ∃ zz9, zz9 = setS z1 21 (nI (res.length + 1)) := ⟨_, rfl⟩
  refine xG.eqX (show _ = mX E.D X0 A z2 from (mX_f21 (v := (nI (res.length + 1))) hA).trans (by rw [hz2])) ?_
  refine xr_vret C d_Mo_add_64 (by omega) (by omega) ⟨rfl, z2, rfl, ⟨?_, fun i hi => ?_⟩, ?_⟩
  · rw [hz2, List.length_append, List.length_singleton]
    rfl
  · rw [List.length_append, List.length_singleton] at hi
    rw [getDg_snoc hi, hz2, hz1]
    show by8 ((setL s 22 (res.length / 8) _).2.2 22 (i / 8)) (i % 8) = _
    rw [setL_L]
    by_cases e : i / 8 = res.length / 8
    · rw [if_pos ⟨rfl, e⟩, by8_put (ub_lt _) (by omega) (by omega)]
      by_cases h : i < res.length
      · rw [if_pos h, if_neg (by omega), ← e]
        exact hR.2 i h
      · rw [if_neg h, if_pos (by omega)]
    · rw [if_neg (fun q => e q.2), if_pos (by omega)]
      exact hR.2 i (by omega)
  · rw [hz2, hz1]
    exact (mFr_L (by decide)).trans (mFr_S (by decide))
set_option maxRecDepth 100000 in
set_option maxHeartbeats 4000000 in
theorem c_Mo_addNumber {l : Launch} {D : va_G} {H0 : Heap} {X0 : xH} {A : Nat → Nat} {s : MS} (hA : mInj A) {v : Int32} {n : Nat} {res : List Int32} (hR : rR s res) (hl : res.length + n < 14400) (hn : n ≤ 4) : xMet l D H0 y_Mo_addNumber b_Mo_addNumber 4 none [] 1 0 0 [.ref (A 0), .int v, .int (nI n)] (mX D X0 A s) (fun o X' => o = .inl none ∧ ∃ s', X' = mX D X0 A s' ∧ rR s' (res ++ num v n) ∧ mFr [21, 22] s s') := by
  refine ⟨[some (.ref (A 0)), some (.int v), some (.int (nI n)), none], rfl, Nat.le_of_ble_eq_true rfl, fun E hD hH hl _ C => ?_⟩
  subst hD
  subst hH
  subst hl
  have loop : ∀ (k i : Nat) (z : MS), i + k = n → rR z (res ++ num v i) → mFr [21, 22] s z → xG E (mX E.D X0 A z) 0 0 2 [some (.ref (A 0)), some (.int v), some (.int (nI n)), some (.int (nI i))] [] := by
    intro k
    induction k with
    | zero =>
      intro i z hi h1 h2
      have ei : i = n := by omega
      subst ei
      refine xr_iload_n C d_Mo_addNumber_2 3 rfl rfl ?_
      refine xr_iload_n C d_Mo_addNumber_3 4 rfl rfl ?_
      refine xr_icmp_ge C d_Mo_addNumber_4 7 23 rfl (by decide) (fun _ => ?_) (fun h => absurd (nI_le (Nat.le_refl _) (by omega)) h)
      exact xr_vret C d_Mo_addNumber_23 (by omega) (by omega) ⟨rfl, z, rfl, h1, h2⟩
    | succ k ih =>
      intro i z hi h1 h2
      refine xr_iload_n C d_Mo_addNumber_2 3 rfl rfl ?_
      refine xr_iload_n C d_Mo_addNumber_3 4 rfl rfl ?_
      refine xr_icmp_ge C d_Mo_addNumber_4 7 23 rfl (by decide) (fun h => absurd h (nI_ge (show i < n by omega) (by omega))) (fun _ => ?_)
      refine xr_aload_n C d_Mo_addNumber_7 8 rfl rfl ?_
      refine xr_iload_n C d_Mo_addNumber_8 9 rfl rfl ?_
      refine xr_bipush (v := 8) C d_Mo_addNumber_9 11 rfl (by decide) ?_
      refine xr_iload_n C d_Mo_addNumber_11 12 rfl rfl ?_
      refine xr_imul C d_Mo_addNumber_12 13 rfl ?_
      refine xr_toi (show _ = nI (8 * i) from pk_mul 8 i) ?_
      refine xr_ishr C d_Mo_addNumber_13 14 rfl ?_
      refine xr_callV C (c_Mo_add hA (b := nby v i) h1 (by rw [List.length_append, num_len]; omega) (nby_ok (by omega))) k_Mo_add d_Mo_addNumber_14 17 rfl (mX_o hA) rfl (Or.inl q_1059) v_Mo_add e_Mo_add h_Mo_add rfl ⟨Nat.le_of_ble_eq_true rfl, Nat.le_of_ble_eq_true rfl, Nat.le_of_ble_eq_true rfl⟩ (by omega) (by omega) (fun v9 X9 hP => ?_) (fun _ _ h => absurd h.1 (by simp))
      obtain ⟨h1, z2, rfl, h3, h4⟩ := hP
      cases h1
      refine xr_iinc (v := 1) C d_Mo_addNumber_17 20 rfl rfl rfl rfl (by decide) ?_
      refine xr_goto C d_Mo_addNumber_20 2 (by decide) ?_
      refine xG.eqL (show _ = [some (Value.ref (A 0)), some (Value.int v), some (Value.int (nI n)), some (Value.int (nI (i + 1)))] by rw [← nI_one]; rfl) ?_
      refine ih (i + 1) z2 (by omega) ?_ (h2.trans h4)
      rw [num_succ, ← List.append_assoc]
      exact h3
  refine xr_iconst (v := 0) C d_Mo_addNumber_0 1 rfl (by decide) ?_
  refine xr_istore_n C d_Mo_addNumber_1 2 rfl rfl rfl ?_
  refine loop n 0 s (by omega) ?_ mFr.rf
  rw [show num v 0 = [] from rfl, List.append_nil]
  exact hR
theorem u8u8 (x : Int32) : u8 x &&& 255 = u8 x := by
  show u8 (u8 x) = u8 x
  rw [u8_ub (u8 x), u8_ub x]
  congr 1
  unfold ub
  rw [pk_tn (by omega), Nat.mod_mod]
set_option maxRecDepth 100000 in
set_option maxHeartbeats 4000000 in
theorem c_Mo_show {l : Launch} {D : va_G} {H0 : Heap} {X0 : xH} {A : Nat → Nat} {s : MS} (hA : mInj A) {a : List Int32} (hT : tol s a) (hl : a.length ≤ 140) : xMet l D H0 y_Mo_show b_Mo_show 2 none [] 1 0 0 [.ref (A 0)] (mX D X0 A s) (fun o X' => o = .inl none ∧ ∃ s', X' = mX D X0 A s' ∧ rR s' a ∧ mFr [21, 22] s s') := by
  refine ⟨[some (.ref (A 0)), none], rfl, Nat.le_of_ble_eq_true rfl, fun E hD hH hl _ C => ?_⟩
  subst hD
  subst hH
  subst hl
  have loop : ∀ (k i : Nat) (z : MS), i + k = a.length → rR z (a.take i) → mFr [21, 22] s z → xG E (mX E.D X0 A z) 0 0 7 [some (.ref (A 0)), some (.int (nI i))] [] := by
    intro k
    induction k with
    | zero =>
      intro i z hi h1 h2
      have hTz := hT.fr h2 (by decide)
      refine xr_iload_n C d_Mo_show_7 8 rfl rfl ?_
      refine xr_aload_n C d_Mo_show_8 9 rfl rfl ?_
      refine xr_get C K_Mo 18 d_Mo_show_9 12 rfl q_958 (Or.inl rfl) rfl (mX_o hA) rfl ?_
      refine xr_toi (show _ = nI a.length from hTz.1) ?_
      refine xr_icmp_ge C d_Mo_show_12 15 31 rfl (by decide) (fun _ => ?_) (fun h => absurd (nI_le (show a.length ≤ i by omega) (by omega)) h)
      rw [List.take_of_length_le (show a.length ≤ i by omega)] at h1
      exact xr_vret C d_Mo_show_31 (by omega) (by omega) ⟨rfl, z, rfl, h1, h2⟩
    | succ k ih =>
      intro i z hi h1 h2
      have hTz := hT.fr h2 (by decide)
      have i1 : i < a.length := by omega
      refine xr_iload_n C d_Mo_show_7 8 rfl rfl ?_
      refine xr_aload_n C d_Mo_show_8 9 rfl rfl ?_
      refine xr_get C K_Mo 18 d_Mo_show_9 12 rfl q_958 (Or.inl rfl) rfl (mX_o hA) rfl ?_
      refine xr_toi (show _ = nI a.length from hTz.1) ?_
      refine xr_icmp_ge C d_Mo_show_12 15 31 rfl (by decide) (fun h => absurd h (nI_ge i1 (by omega))) (fun _ => ?_)
      refine xr_aload_n C d_Mo_show_15 16 rfl rfl ?_
      refine xr_aload_n C d_Mo_show_16 17 rfl rfl ?_
      refine xr_get C K_Mo 19 d_Mo_show_17 20 rfl q_959 (Or.inl rfl) rfl (mX_o hA) rfl ?_
      refine xr_iload_n C d_Mo_show_20 21 rfl rfl ?_
      refine xr_iald (j := i) C d_Mo_show_21 22 rfl (mX_19 hA) rfl (by omega) (by omega) ?_
      refine xr_toi (show _ = nI (ub (a.getD i 0)) from (hTz.2 i i1).trans (u8_ub _)) ?_
      refine xr_callV C (c_Mo_add hA (b := a.getD i 0) h1 (by rw [List.length_take]; omega) (by rw [← u8_ub, u8u8, u8_ub])) k_Mo_add d_Mo_show_22 25 rfl (mX_o hA) rfl (Or.inl q_1059) v_Mo_add e_Mo_add h_Mo_add rfl ⟨Nat.le_of_ble_eq_true rfl, Nat.le_of_ble_eq_true rfl, Nat.le_of_ble_eq_true rfl⟩ (by omega) (by omega) (fun v9 X9 hP => ?_) (fun _ _ h => absurd h.1 (by simp))
      obtain ⟨h1, z2, rfl, h3, h4⟩ := hP
      cases h1
      refine xr_iinc (v := 1) C d_Mo_show_25 28 rfl rfl rfl rfl (by decide) ?_
      refine xr_goto C d_Mo_show_28 7 (by decide) ?_
      refine xG.eqL (show _ = [some (Value.ref (A 0)), some (Value.int (nI (i + 1)))] by rw [← nI_one]; rfl) ?_
      refine ih (i + 1) z2 (by omega) ?_ (h2.trans h4)
      rw [takeg 0 i1]
      exact h3
  refine xr_aload_n C d_Mo_show_0 1 rfl rfl ?_
  refine xr_iconst (v := 0) C d_Mo_show_1 2 rfl (by decide) ?_
  refine xr_put C K_Mo 21 d_Mo_show_2 5 rfl q_961 (Or.inl rfl) rfl rfl rfl rfl (mX_o hA) rfl rfl ?_
  obtain ⟨z0, hz0⟩ : ∃ zz9, zz9 = setS s 21 (nI 0) := ⟨_, rfl⟩
  refine xG.eqX (show _ = mX E.D X0 A z0 from (mX_f21 (v := (nI 0)) hA).trans (by rw [hz0])) ?_
  refine xr_iconst (v := 0) C d_Mo_show_5 6 rfl (by decide) ?_
  refine xr_istore_n C d_Mo_show_6 7 rfl rfl rfl ?_
  refine loop a.length 0 z0 (by omega) ⟨by rw [hz0]; rfl, fun i hi => absurd hi (by rw [List.take_zero]; exact Nat.not_lt_zero _)⟩ (by rw [hz0]; exact mFr_S (by decide))
