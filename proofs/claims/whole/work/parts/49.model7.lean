/-! The model's calls: clear, key, feed, open. -/
theorem rS.up {s s' : MS} {m : Nat} {ss : List Ss} (h : rS s m ss) (h1 : s'.2.1 1 m = s.2.1 1 m) (hf : ∀ k, k = 2 ∨ k = 3 ∨ k = 4 ∨ k = 5 ∨ k = 6 ∨ k = 7 → s'.2.1 k = s.2.1 k) : rS s' m ss := ⟨h1.trans h.1, fun i hi => by
  obtain ⟨a1, a2, a3, a4, a5, a6⟩ := h.2 i hi
  exact ⟨by rw [hf 2 (by decide)]; exact a1, by rw [hf 3 (by decide)]; exact a2, by rw [hf 4 (by decide)]; exact a3, by rw [hf 5 (by decide)]; exact a4, by rw [hf 6 (by decide)]; exact a5, fun k hk => by rw [hf 7 (by decide)]; exact a6 k hk⟩⟩
theorem rE.up {s s' : MS} {m : Nat} {es : List Es} (h : rE s m es) (h1 : s'.2.1 8 m = s.2.1 8 m) (h9 : s'.2.1 9 = s.2.1 9) (h11 : s'.2.1 11 = s.2.1 11) (hL : s'.2.2 = s.2.2) : rE s' m es := ⟨h1.trans h.1, fun i hi => ⟨⟨by rw [h9]; exact (h.2 i hi).1.1, fun j hj => by rw [hL]; exact (h.2 i hi).1.2 j hj⟩, ⟨by rw [h11]; exact (h.2 i hi).2.1, fun j hj => by rw [hL]; exact (h.2 i hi).2.2 j hj⟩⟩⟩
theorem setI_o {s : MS} {k j a : Nat} {v : Int32} (h : a ≠ k) : (setI s k j v).2.1 a = s.2.1 a := if_neg h
set_option maxRecDepth 100000 in
set_option maxHeartbeats 4000000 in
theorem d_Mo_clear {l : Launch} {D : va_G} {H0 : Heap} {X0 : xH} {A : Nat → Nat} {s : MS} (hA : mInj A) {S : St} (hR : mRel s S) (hW : wf S) (hV : inv2 S) {z : Int32} : xMet l D H0 y_Mo_clear b_Mo_clear 3 (some .int) [] 1 0 0 [.ref (A 0), .int z] (mX D X0 A s) (fun o X' => ∃ v : Int32, o = .inl (some (.int v)) ∧ ∃ s', X' = mX D X0 A s' ∧ s'.1 0 = nI (fClear S z).1 ∧ ((fClear S z).1 = 0 → v = (fClear S z).2.1) ∧ mRel s' (fClear S z).2.2) := by
  refine ⟨[some (.ref (A 0)), some (.int z), none], rfl, Nat.le_of_ble_eq_true rfl, fun E hD hH hl _ C => ?_⟩
  subst hD
  subst hH
  subst hl
  refine xr_aload_n C d_Mo_clear_0 1 rfl rfl ?_
  refine xr_iconst (v := 0) C d_Mo_clear_1 2 rfl (by decide) ?_
  refine xr_put C K_Mo 0 d_Mo_clear_2 5 rfl q_940 (Or.inl rfl) rfl rfl rfl rfl (mX_o hA) rfl rfl ?_
  obtain ⟨z0, hz0⟩ : ∃ zz9, zz9 = setS s 0 (nI 0) := ⟨_, rfl⟩
  refine xG.eqX (show _ = mX E.D X0 A z0 from (mX_f0 (v := (nI 0)) hA).trans (by rw [hz0])) ?_
  have hR0 : mRel z0 S := by rw [hz0]; exact mRel_f hR
  have ht0 : z0.1 0 = 0 := by rw [hz0]; rfl
  refine xr_iload_n C d_Mo_clear_5 6 rfl rfl ?_
  refine xr_callS C (c_Mo_isMachine) k_Mo_isMachine d_Mo_clear_6 9 rfl (Or.inl q_1032) s_Mo_isMachine in_Mo_isMachine h_Mo_isMachine rfl ⟨Nat.le_of_ble_eq_true rfl, Nat.le_of_ble_eq_true rfl, Nat.le_of_ble_eq_true rfl⟩ (by omega) (by omega) (fun v9 X9 hP => ?_) (fun _ _ h => absurd h.1 (by simp))
  obtain ⟨h1, rfl⟩ := hP
  cases h1
  rcases mach_ix z with hz | ⟨i, hi, rfl⟩
  · have hf : fClear S z = (1, 0, S) := if_neg (notM hz)
    rw [hf] at C
    refine xr_toi (if_neg (notM hz)) ?_
    refine xr_if_ne C d_Mo_clear_9 12 18 rfl (by decide) (fun h => absurd rfl h) (fun _ => ?_)
    refine xr_aload_n C d_Mo_clear_12 13 rfl rfl ?_
    refine xr_iconst (v := 1) C d_Mo_clear_13 14 rfl (by decide) ?_
    refine xr_callV C (c_Mo_fail hA) k_Mo_fail d_Mo_clear_14 17 rfl (mX_o hA) rfl (Or.inl q_1023) v_Mo_fail e_Mo_fail h_Mo_fail rfl ⟨Nat.le_of_ble_eq_true rfl, Nat.le_of_ble_eq_true rfl, Nat.le_of_ble_eq_true rfl⟩ (by omega) (by omega) (fun v9 X9 hP => ?_) (fun _ _ h => absurd h.1 (by simp))
    obtain ⟨h1, rfl⟩ := hP
    cases h1
    exact xr_iret C d_Mo_clear_17 (by omega) (by omega) ⟨_, rfl, _, rfl, rfl, fun h => absurd h (show ¬ (1 : Nat) = 0 by decide), mRel_f hR0⟩
  · obtain ⟨hs1, hs2, hs3⟩ := hR0.2.2.1 i hi
    obtain ⟨w1, w2, w3, w4⟩ := hW.2 i hi
    have w1l := w1.1
    have w2l := w2.1
    have hfm : fClear S (nI i) = (0, nI (S.2.1 i).2.1.length, (S.1, upM S.2.1 i ([], [], (S.2.1 i).2.2), S.2.2.1, S.2.2.2)) := by
      unfold fClear
      rw [if_pos (isM_of hi), mIx_nI (by omega)]
    rw [hfm] at C
    refine xr_toi (if_pos (isM_of hi)) ?_
    refine xr_if_ne C d_Mo_clear_9 12 18 rfl (by decide) (fun _ => ?_) (fun h => absurd h (by decide))
    refine xr_aload_n C d_Mo_clear_18 19 rfl rfl ?_
    refine xr_get C K_Mo 8 d_Mo_clear_19 22 rfl q_948 (Or.inl rfl) rfl (mX_o hA) rfl ?_
    refine xr_iload_n C d_Mo_clear_22 23 rfl rfl ?_
    refine xr_iald (j := i) C d_Mo_clear_23 24 rfl (mX_8 hA) rfl (by omega) (by omega) ?_
    refine xr_toi (show _ = nI ((S.2.1 i).2.1.length) from hs2.1) ?_
    refine xr_istore_n C d_Mo_clear_24 25 rfl rfl rfl ?_
    refine xr_aload_n C d_Mo_clear_25 26 rfl rfl ?_
    refine xr_get C K_Mo 8 d_Mo_clear_26 29 rfl q_948 (Or.inl rfl) rfl (mX_o hA) rfl ?_
    refine xr_iload_n C d_Mo_clear_29 30 rfl rfl ?_
    refine xr_iconst (v := 0) C d_Mo_clear_30 31 rfl (by decide) ?_
    refine xr_iast (j := i) C d_Mo_clear_31 32 rfl (mX_8 hA) rfl (by omega) (by omega) ?_
    obtain ⟨z1, hz1⟩ : ∃ zz9, zz9 = setI z0 8 i (nI 0) := ⟨_, rfl⟩
    refine xG.eqX (show _ = mX E.D X0 A z1 from (mX_s8 (v := (nI 0)) hA).trans (by rw [hz1])) ?_
    refine xr_aload_n C d_Mo_clear_32 33 rfl rfl ?_
    refine xr_get C K_Mo 1 d_Mo_clear_33 36 rfl q_941 (Or.inl rfl) rfl (mX_o hA) rfl ?_
    refine xr_iload_n C d_Mo_clear_36 37 rfl rfl ?_
    refine xr_iconst (v := 0) C d_Mo_clear_37 38 rfl (by decide) ?_
    refine xr_iast (j := i) C d_Mo_clear_38 39 rfl (mX_1 hA) rfl (by omega) (by omega) ?_
    obtain ⟨z2, hz2⟩ : ∃ zz9, zz9 = setI z1 1 i (nI 0) := ⟨_, rfl⟩
    refine xG.eqX (show _ = mX E.D X0 A z2 from (mX_s1 (v := (nI 0)) hA).trans (by rw [hz2])) ?_
    refine xr_iload_n C d_Mo_clear_39 40 rfl rfl ?_
    have hf1 : mFr [1, 8] z0 z2 := by rw [hz2, hz1]; exact (mFr_I (by decide)).trans (mFr_I (by decide))
    refine xr_iret C d_Mo_clear_40 (by omega) (by omega) ⟨_, rfl, z2, rfl, by rw [(hf1 0 (by decide)).1]; exact ht0, fun _ => rfl, ?_, ?_, fun q hq => ?_, ?_, ?_⟩
    · rw [(hf1 14 (by decide)).1]
      exact hR0.1
    · exact hR0.2.1.fr hf1 (by decide)
    · by_cases e : q = i
      · subst e
        show rS z2 q (upM S.2.1 q _ q).1 ∧ rE z2 q (upM S.2.1 q _ q).2.1 ∧ _ = (upM S.2.1 q _ q).2.2
        rw [upM_self]
        refine ⟨⟨by rw [hz2, setI_I, if_pos ⟨rfl, rfl⟩]; rfl, fun k hk => absurd hk (Nat.not_lt_zero _)⟩, ⟨by rw [hz2, hz1, setI_I, if_neg (by omega), setI_I, if_pos ⟨rfl, rfl⟩]; rfl, fun k hk => absurd hk (Nat.not_lt_zero _)⟩, by rw [(hf1 13 (by decide)).2.1]; exact hs3⟩
      · show rS z2 q (upM S.2.1 i _ q).1 ∧ rE z2 q (upM S.2.1 i _ q).2.1 ∧ _ = (upM S.2.1 i _ q).2.2
        rw [upM_ne e]
        obtain ⟨g1, g2, g3⟩ := hR0.2.2.1 q hq
        have g : ∀ k, k ≠ 1 → k ≠ 8 → z2.2.1 k = z0.2.1 k := fun k h1 h8 => (hf1 k (by simp [h1, h8])).2.1
        refine ⟨g1.up (by rw [hz2, hz1, setI_I, if_neg (by omega), setI_I, if_neg (by omega)]) (fun k hk => g k (by omega) (by omega)), g2.up (by rw [hz2, hz1, setI_I, if_neg (by omega), setI_I, if_neg (by omega)]) (g 9 (by decide) (by decide)) (g 11 (by decide) (by decide)) (by rw [hz2, hz1]; rfl), by rw [g 13 (by decide) (by decide)]; exact g3⟩
    · exact hR0.2.2.2.1.fr hf1 (by decide)
    · rw [(hf1 20 (by decide)).1]
      exact hR0.2.2.2.2
set_option maxRecDepth 100000 in
set_option maxHeartbeats 4000000 in
theorem d_Mo_key {l : Launch} {D : va_G} {H0 : Heap} {X0 : xH} {A : Nat → Nat} {s : MS} (hA : mInj A) {S : St} (hR : mRel s S) (hW : wf S) (hV : inv2 S) {z k w : Int32} : xMet l D H0 y_Mo_key b_Mo_key 6 (some .int) [] 2 0 0 [.ref (A 0), .int z, .int k, .int w] (mX D X0 A s) (fun o X' => ∃ v : Int32, o = .inl (some (.int v)) ∧ ∃ s', X' = mX D X0 A s' ∧ s'.1 0 = nI (fKey S z k w).1 ∧ ((fKey S z k w).1 = 0 → v = (fKey S z k w).2.1) ∧ mRel s' (fKey S z k w).2.2) := by
  refine ⟨[some (.ref (A 0)), some (.int z), some (.int k), some (.int w), none, none], rfl, Nat.le_of_ble_eq_true rfl, fun E hD hH hl _ C => ?_⟩
  subst hD
  subst hH
  subst hl
  refine xr_aload_n C d_Mo_key_0 1 rfl rfl ?_
  refine xr_iconst (v := 0) C d_Mo_key_1 2 rfl (by decide) ?_
  refine xr_put C K_Mo 0 d_Mo_key_2 5 rfl q_940 (Or.inl rfl) rfl rfl rfl rfl (mX_o hA) rfl rfl ?_
  obtain ⟨z0, hz0⟩ : ∃ zz9, zz9 = setS s 0 (nI 0) := ⟨_, rfl⟩
  refine xG.eqX (show _ = mX E.D X0 A z0 from (mX_f0 (v := (nI 0)) hA).trans (by rw [hz0])) ?_
  have hR0 : mRel z0 S := by rw [hz0]; exact mRel_f hR
  have ht0 : z0.1 0 = 0 := by rw [hz0]; rfl
  have t37 : fKey S z k w = (1, 0, S) → xG E (mX E.D X0 A z0) 0 0 37 [some (.ref (A 0)), some (.int z), some (.int k), some (.int w), none, none] [] := by
    intro h
    rw [h] at C
    refine xr_aload_n C d_Mo_key_37 38 rfl rfl ?_
    refine xr_iconst (v := 1) C d_Mo_key_38 39 rfl (by decide) ?_
    refine xr_callV C (c_Mo_fail hA) k_Mo_fail d_Mo_key_39 42 rfl (mX_o hA) rfl (Or.inl q_1023) v_Mo_fail e_Mo_fail h_Mo_fail rfl ⟨Nat.le_of_ble_eq_true rfl, Nat.le_of_ble_eq_true rfl, Nat.le_of_ble_eq_true rfl⟩ (by omega) (by omega) (fun v9 X9 hP => ?_) (fun _ _ h => absurd h.1 (by simp))
    obtain ⟨h1, rfl⟩ := hP
    cases h1
    exact xr_iret C d_Mo_key_42 (by omega) (by omega) ⟨_, rfl, _, rfl, rfl, fun h => absurd h (show ¬ (1 : Nat) = 0 by decide), mRel_f hR0⟩
  refine xr_iload_n C d_Mo_key_5 6 rfl rfl ?_
  refine xr_callS C (c_Mo_isMachine) k_Mo_isMachine d_Mo_key_6 9 rfl (Or.inl q_1032) s_Mo_isMachine in_Mo_isMachine h_Mo_isMachine rfl ⟨Nat.le_of_ble_eq_true rfl, Nat.le_of_ble_eq_true rfl, Nat.le_of_ble_eq_true rfl⟩ (by omega) (by omega) (fun v9 X9 hP => ?_) (fun _ _ h => absurd h.1 (by simp))
  obtain ⟨h1, rfl⟩ := hP
  cases h1
  rcases mach_ix z with hz | ⟨i, hi, rfl⟩
  · refine xr_toi (if_neg (notM hz)) ?_
    refine xr_if_eq C d_Mo_key_9 12 37 rfl (by decide) (fun _ => t37 (if_neg (notM hz))) (fun h => absurd rfl h)
  · obtain ⟨hs1, hs2, hs3⟩ := hR0.2.2.1 i hi
    obtain ⟨w1, w2, w3, w4⟩ := hW.2 i hi
    have w1l := w1.1
    have w2l := w2.1
    have hfm : fKey S (nI i) k w = if 0 ≤ k ∧ k < nI (S.2.1 i).2.1.length then
      if 0 ≤ w ∧ w ≤ 1 then
        if w = 0 then (0, nI (eD (S.2.1 i).2.1 (mIx k)).1.length, (S.1, S.2.1, (eD (S.2.1 i).2.1 (mIx k)).1, S.2.2.2)) else (0, nI (eD (S.2.1 i).2.1 (mIx k)).2.length, (S.1, S.2.1, (eD (S.2.1 i).2.1 (mIx k)).2, S.2.2.2))
      else (1, 0, S)
    else (1, 0, S) := by
      unfold fKey
      rw [if_pos (isM_of hi), mIx_nI (by omega)]
    refine xr_toi (if_pos (isM_of hi)) ?_
    refine xr_if_eq C d_Mo_key_9 12 37 rfl (by decide) (fun h => absurd h (by decide)) (fun _ => ?_)
    refine xr_iload_n C d_Mo_key_12 13 rfl rfl ?_
    refine xr_iconst (v := 0) C d_Mo_key_13 14 rfl (by decide) ?_
    refine xr_aload_n C d_Mo_key_14 15 rfl rfl ?_
    refine xr_get C K_Mo 8 d_Mo_key_15 18 rfl q_948 (Or.inl rfl) rfl (mX_o hA) rfl ?_
    refine xr_iload_n C d_Mo_key_18 19 rfl rfl ?_
    refine xr_iald (j := i) C d_Mo_key_19 20 rfl (mX_8 hA) rfl (by omega) (by omega) ?_
    refine xr_toi (show _ = nI ((S.2.1 i).2.1.length) from hs2.1) ?_
    refine xr_iconst (v := 1) C d_Mo_key_20 21 rfl (by decide) ?_
    refine xr_isub C d_Mo_key_21 22 rfl ?_
    refine xr_callS C (c_Mo_within) k_Mo_within d_Mo_key_22 25 rfl (Or.inl q_1020) s_Mo_within in_Mo_within h_Mo_within rfl ⟨Nat.le_of_ble_eq_true rfl, Nat.le_of_ble_eq_true rfl, Nat.le_of_ble_eq_true rfl⟩ (by omega) (by omega) (fun v9 X9 hP => ?_) (fun _ _ h => absurd h.1 (by simp))
    obtain ⟨h1, rfl⟩ := hP
    cases h1
    by_cases hk : (0 : Int32) ≤ k ∧ k < nI (S.2.1 i).2.1.length
    rotate_left
    · refine xr_toi (if_neg (fun q => hk ⟨q.1, (km1 (by omega)).mp q.2⟩)) ?_
      refine xr_if_eq C d_Mo_key_25 28 37 rfl (by decide) (fun _ => t37 (by rw [hfm, if_neg hk])) (fun h => absurd rfl h)
    refine xr_toi (if_pos ⟨hk.1, (km1 (by omega)).mpr hk.2⟩) ?_
    rw [if_pos hk] at hfm
    obtain ⟨q, hq, rfl⟩ := nI_of (Int32.not_lt.mpr hk.1)
    have hq2 : q < (S.2.1 i).2.1.length := (nI_ltI hq (by omega)).mp hk.2
    rw [mIx_nI hq] at hfm
    have hsl := hs2.2 q hq2
    have hek := w2.2.2 _ (eD_mem hq2)
    have hek1 := hek.2.1
    have hek2 := hek.2.2
    refine xr_if_eq C d_Mo_key_25 28 37 rfl (by decide) (fun h => absurd h (by decide)) (fun _ => ?_)
    refine xr_iload_n C d_Mo_key_28 29 rfl rfl ?_
    refine xr_iconst (v := 0) C d_Mo_key_29 30 rfl (by decide) ?_
    refine xr_iconst (v := 1) C d_Mo_key_30 31 rfl (by decide) ?_
    refine xr_callS C (c_Mo_within) k_Mo_within d_Mo_key_31 34 rfl (Or.inl q_1020) s_Mo_within in_Mo_within h_Mo_within rfl ⟨Nat.le_of_ble_eq_true rfl, Nat.le_of_ble_eq_true rfl, Nat.le_of_ble_eq_true rfl⟩ (by omega) (by omega) (fun v9 X9 hP => ?_) (fun _ _ h => absurd h.1 (by simp))
    obtain ⟨h1, rfl⟩ := hP
    cases h1
    by_cases hw : (0 : Int32) ≤ w ∧ w ≤ 1
    rotate_left
    · refine xr_toi (if_neg hw) ?_
      refine xr_if_ne C d_Mo_key_34 37 43 rfl (by decide) (fun h => absurd rfl h) (fun _ => t37 (by rw [hfm, if_neg hw]))
    refine xr_toi (if_pos hw) ?_
    rw [if_pos hw] at hfm
    have hw01 : w = 0 ∨ w = 1 := by
      rcases pk_ix w (n := 2) (by omega) with h | h | ⟨j, hj, rfl⟩
      · exact absurd hw.1 (Int32.not_le.mpr h)
      · exact absurd (Int32.le_trans h hw.2) (by decide)
      · exact isM_of hj
    refine xr_if_ne C d_Mo_key_34 37 43 rfl (by decide) (fun _ => ?_) (fun h => absurd h (by decide))
    refine xr_sipush (v := 128) C d_Mo_key_43 46 rfl (by decide) ?_
    refine xr_iload_n C d_Mo_key_46 47 rfl rfl ?_
    refine xr_imul C d_Mo_key_47 48 rfl ?_
    refine xr_toi (show _ = nI (128 * i) from pk_mul 128 i) ?_
    refine xr_iload_n C d_Mo_key_48 49 rfl rfl ?_
    refine xr_iadd C d_Mo_key_49 50 rfl ?_
    refine xr_toi (show _ = nI ((128 * i) + q) from nI_add (128 * i) q) ?_
    refine xr_istore C d_Mo_key_50 52 rfl rfl rfl ?_
    refine xr_aload_n C d_Mo_key_52 53 rfl rfl ?_
    refine xr_iconst (v := 0) C d_Mo_key_53 54 rfl (by decide) ?_
    refine xr_put C K_Mo 21 d_Mo_key_54 57 rfl q_961 (Or.inl rfl) rfl rfl rfl rfl (mX_o hA) rfl rfl ?_
    obtain ⟨z1, hz1⟩ : ∃ zz9, zz9 = setS z0 21 (nI 0) := ⟨_, rfl⟩
    refine xG.eqX (show _ = mX E.D X0 A z1 from (mX_f21 (v := (nI 0)) hA).trans (by rw [hz1])) ?_
    refine xr_iconst (v := 0) C d_Mo_key_57 58 rfl (by decide) ?_
    refine xr_istore C d_Mo_key_58 60 rfl rfl rfl ?_
    have hf1 : mFr [21] z0 z1 := by rw [hz1]; exact mFr_S (by decide)
    have hr1 : rR z1 [] := ⟨by rw [hz1]; rfl, fun j hj => absurd hj (Nat.not_lt_zero _)⟩
    have fin : ∀ (y : MS) (res : List Int32) (a : Int32) (b : Option Value), mFr [21, 22] z0 y → rR y res → res.length ≤ 1000 → fKey S (nI i) (nI q) w = (0, nI res.length, (S.1, S.2.1, res, S.2.2.2)) → xG E (mX E.D X0 A y) 0 0 132 [some (.ref (A 0)), some (.int (nI i)), some (.int (nI q)), some (.int a), some (.int (nI (128 * i + q))), b] [] := by
      intro y res a b y1 y2 y3 y4
      rw [y4] at C
      refine xr_aload_n C d_Mo_key_132 133 rfl rfl ?_
      refine xr_get C K_Mo 21 d_Mo_key_133 136 rfl q_961 (Or.inl rfl) rfl (mX_o hA) rfl ?_
      refine xr_toi (show _ = nI res.length from y2.1) ?_
      exact xr_iret C d_Mo_key_136 (by omega) (by omega) ⟨_, rfl, y, rfl, by rw [(y1 0 (by decide)).1]; exact ht0, fun _ => rfl, by rw [(y1 14 (by decide)).1]; exact hR0.1, hR0.2.1.fr y1 (by decide), fun p hp => ⟨(hR0.2.2.1 p hp).1.fr y1 (by decide), (hR0.2.2.1 p hp).2.1.fr y1 (by decide), by rw [(y1 13 (by decide)).2.1]; exact (hR0.2.2.1 p hp).2.2⟩, y2, by rw [(y1 20 (by decide)).1]; exact hR0.2.2.2.2⟩
    have loopV : ∀ (r j : Nat) (y : MS), j + r = (eD (S.2.1 i).2.1 q).2.length → mFr [21, 22] z0 y → rR y ((eD (S.2.1 i).2.1 q).2.take j) → w = 1 → xG E (mX E.D X0 A y) 0 0 97 [some (.ref (A 0)), some (.int (nI i)), some (.int (nI q)), some (.int w), some (.int (nI (128 * i + q))), some (.int (nI j))] [] := by
      intro r
      induction r with
      | zero =>
        intro j y hj y1 y2 ew
        have hvz := hsl.2.fr y1 (by decide) (by decide)
        refine xr_iload C d_Mo_key_97 99 rfl rfl ?_
        refine xr_aload_n C d_Mo_key_99 100 rfl rfl ?_
        refine xr_get C K_Mo 11 d_Mo_key_100 103 rfl q_951 (Or.inl rfl) rfl (mX_o hA) rfl ?_
        refine xr_iload C d_Mo_key_103 105 rfl rfl ?_
        refine xr_iald (j := (128 * i + q)) C d_Mo_key_105 106 rfl (mX_11 hA) rfl (by omega) (by omega) ?_
        refine xr_toi (show _ = nI ((eD (S.2.1 i).2.1 q).2.length) from hvz.1) ?_
        refine xr_icmp_ge C d_Mo_key_106 109 132 rfl (by decide) (fun _ => ?_) (fun h => absurd (nI_le (show (eD (S.2.1 i).2.1 q).2.length ≤ j by omega) (by omega)) h)
        rw [List.take_of_length_le (show (eD (S.2.1 i).2.1 q).2.length ≤ j by omega)] at y2
        exact fin y _ _ _ y1 y2 (by omega) (by rw [hfm, ew, if_neg (by decide)])
      | succ r ih =>
        intro j y hj y1 y2 ew
        have hvz := hsl.2.fr y1 (by decide) (by decide)
        have j1 : j < (eD (S.2.1 i).2.1 q).2.length := by omega
        refine xr_iload C d_Mo_key_97 99 rfl rfl ?_
        refine xr_aload_n C d_Mo_key_99 100 rfl rfl ?_
        refine xr_get C K_Mo 11 d_Mo_key_100 103 rfl q_951 (Or.inl rfl) rfl (mX_o hA) rfl ?_
        refine xr_iload C d_Mo_key_103 105 rfl rfl ?_
        refine xr_iald (j := (128 * i + q)) C d_Mo_key_105 106 rfl (mX_11 hA) rfl (by omega) (by omega) ?_
        refine xr_toi (show _ = nI ((eD (S.2.1 i).2.1 q).2.length) from hvz.1) ?_
        refine xr_icmp_ge C d_Mo_key_106 109 132 rfl (by decide) (fun h => absurd h (nI_ge j1 (by omega))) (fun _ => ?_)
        refine xr_iload_n C d_Mo_key_109 110 rfl rfl ?_
        refine xr_iconst (v := 1) C d_Mo_key_110 111 rfl (by decide) ?_
        refine xr_icmp_ne C d_Mo_key_111 114 132 rfl (by decide) (fun h => absurd ew h) (fun _ => ?_)
        refine xr_aload_n C d_Mo_key_114 115 rfl rfl ?_
        refine xr_aload_n C d_Mo_key_115 116 rfl rfl ?_
        refine xr_iload C d_Mo_key_116 118 rfl rfl ?_
        refine xr_iload C d_Mo_key_118 120 rfl rfl ?_
        refine xr_callV C (c_Mo_valueByte hA (by omega) hvz (show j < 104 by omega)) k_Mo_valueByte d_Mo_key_120 123 rfl (mX_o hA) rfl (Or.inl q_1092) v_Mo_valueByte e_Mo_valueByte h_Mo_valueByte rfl ⟨Nat.le_of_ble_eq_true rfl, Nat.le_of_ble_eq_true rfl, Nat.le_of_ble_eq_true rfl⟩ (by omega) (by omega) (fun v9 X9 hP => ?_) (fun _ _ h => absurd h.1 (by simp))
        obtain ⟨h1, rfl⟩ := hP
        cases h1
        refine xr_callV C (c_Mo_add hA (b := (eD (S.2.1 i).2.1 q).2.getD j 0) y2 (by rw [List.length_take]; omega) (by rw [pad_in j1, ← u8_ub, u8u8, u8_ub])) k_Mo_add d_Mo_key_123 126 rfl (mX_o hA) rfl (Or.inl q_1059) v_Mo_add e_Mo_add h_Mo_add rfl ⟨Nat.le_of_ble_eq_true rfl, Nat.le_of_ble_eq_true rfl, Nat.le_of_ble_eq_true rfl⟩ (by omega) (by omega) (fun v9 X9 hP => ?_) (fun _ _ h => absurd h.1 (by simp))
        obtain ⟨h1, y9, rfl, h3, h4⟩ := hP
        cases h1
        refine xr_iinc (v := 1) C d_Mo_key_126 129 rfl rfl rfl rfl (by decide) ?_
        refine xr_goto C d_Mo_key_129 97 (by decide) ?_
        refine xG.eqL (show _ = [some (Value.ref (A 0)), some (Value.int (nI i)), some (Value.int (nI q)), some (Value.int w), some (Value.int (nI (128 * i + q))), some (Value.int (nI (j + 1)))] by rw [← nI_one j]; rfl) ?_
        refine ih (j + 1) y9 (by omega) (y1.trans h4) ?_ ew
        rw [takeg 0 j1]
        exact h3
    have loopK : ∀ (r j : Nat) (y : MS), j + r = (eD (S.2.1 i).2.1 q).1.length → mFr [21, 22] z0 y → rR y ((eD (S.2.1 i).2.1 q).1.take j) → w = 0 → xG E (mX E.D X0 A y) 0 0 60 [some (.ref (A 0)), some (.int (nI i)), some (.int (nI q)), some (.int w), some (.int (nI (128 * i + q))), some (.int (nI j))] [] := by
      intro r
      induction r with
      | zero =>
        intro j y hj y1 y2 ew
        have hkz := hsl.1.fr y1 (by decide) (by decide)
        have hvz := hsl.2.fr y1 (by decide) (by decide)
        refine xr_iload C d_Mo_key_60 62 rfl rfl ?_
        refine xr_aload_n C d_Mo_key_62 63 rfl rfl ?_
        refine xr_get C K_Mo 9 d_Mo_key_63 66 rfl q_949 (Or.inl rfl) rfl (mX_o hA) rfl ?_
        refine xr_iload C d_Mo_key_66 68 rfl rfl ?_
        refine xr_iald (j := (128 * i + q)) C d_Mo_key_68 69 rfl (mX_9 hA) rfl (by omega) (by omega) ?_
        refine xr_toi (show _ = nI ((eD (S.2.1 i).2.1 q).1.length) from hkz.1) ?_
        refine xr_icmp_ge C d_Mo_key_69 72 94 rfl (by decide) (fun _ => ?_) (fun h => absurd (nI_le (show (eD (S.2.1 i).2.1 q).1.length ≤ j by omega) (by omega)) h)
        rw [List.take_of_length_le (show (eD (S.2.1 i).2.1 q).1.length ≤ j by omega)] at y2
        have hfin := fun a b => fin y (eD (S.2.1 i).2.1 q).1 a b y1 y2 (by omega) (by rw [hfm, if_pos ew])
        refine xr_iconst (v := 0) C d_Mo_key_94 95 rfl (by decide) ?_
        refine xr_istore C d_Mo_key_95 97 rfl rfl rfl ?_
        refine xr_iload C d_Mo_key_97 99 rfl rfl ?_
        refine xr_aload_n C d_Mo_key_99 100 rfl rfl ?_
        refine xr_get C K_Mo 11 d_Mo_key_100 103 rfl q_951 (Or.inl rfl) rfl (mX_o hA) rfl ?_
        refine xr_iload C d_Mo_key_103 105 rfl rfl ?_
        refine xr_iald (j := (128 * i + q)) C d_Mo_key_105 106 rfl (mX_11 hA) rfl (by omega) (by omega) ?_
        refine xr_toi (show _ = nI ((eD (S.2.1 i).2.1 q).2.length) from hvz.1) ?_
        refine xr_icmp_ge C d_Mo_key_106 109 132 rfl (by decide) (fun _ => hfin _ _) (fun _ => ?_)
        refine xr_iload_n C d_Mo_key_109 110 rfl rfl ?_
        refine xr_iconst (v := 1) C d_Mo_key_110 111 rfl (by decide) ?_
        refine xr_icmp_ne C d_Mo_key_111 114 132 rfl (by decide) (fun _ => hfin _ _) (fun h => absurd (ew.symm.trans h) (by decide))
      | succ r ih =>
        intro j y hj y1 y2 ew
        have hkz := hsl.1.fr y1 (by decide) (by decide)
        have j1 : j < (eD (S.2.1 i).2.1 q).1.length := by omega
        refine xr_iload C d_Mo_key_60 62 rfl rfl ?_
        refine xr_aload_n C d_Mo_key_62 63 rfl rfl ?_
        refine xr_get C K_Mo 9 d_Mo_key_63 66 rfl q_949 (Or.inl rfl) rfl (mX_o hA) rfl ?_
        refine xr_iload C d_Mo_key_66 68 rfl rfl ?_
        refine xr_iald (j := (128 * i + q)) C d_Mo_key_68 69 rfl (mX_9 hA) rfl (by omega) (by omega) ?_
        refine xr_toi (show _ = nI ((eD (S.2.1 i).2.1 q).1.length) from hkz.1) ?_
        refine xr_icmp_ge C d_Mo_key_69 72 94 rfl (by decide) (fun h => absurd h (nI_ge j1 (by omega))) (fun _ => ?_)
        refine xr_iload_n C d_Mo_key_72 73 rfl rfl ?_
        refine xr_if_ne C d_Mo_key_73 76 94 rfl (by decide) (fun h => absurd ew h) (fun _ => ?_)
        refine xr_aload_n C d_Mo_key_76 77 rfl rfl ?_
        refine xr_aload_n C d_Mo_key_77 78 rfl rfl ?_
        refine xr_iload C d_Mo_key_78 80 rfl rfl ?_
        refine xr_iload C d_Mo_key_80 82 rfl rfl ?_
        refine xr_callV C (c_Mo_keyByte hA (by omega) hkz (show j < 32 by omega)) k_Mo_keyByte d_Mo_key_82 85 rfl (mX_o hA) rfl (Or.inl q_1127) v_Mo_keyByte e_Mo_keyByte h_Mo_keyByte rfl ⟨Nat.le_of_ble_eq_true rfl, Nat.le_of_ble_eq_true rfl, Nat.le_of_ble_eq_true rfl⟩ (by omega) (by omega) (fun v9 X9 hP => ?_) (fun _ _ h => absurd h.1 (by simp))
        obtain ⟨h1, rfl⟩ := hP
        cases h1
        refine xr_callV C (c_Mo_add hA (b := (eD (S.2.1 i).2.1 q).1.getD j 0) y2 (by rw [List.length_take]; omega) (by rw [pad_in j1, ← u8_ub, u8u8, u8_ub])) k_Mo_add d_Mo_key_85 88 rfl (mX_o hA) rfl (Or.inl q_1059) v_Mo_add e_Mo_add h_Mo_add rfl ⟨Nat.le_of_ble_eq_true rfl, Nat.le_of_ble_eq_true rfl, Nat.le_of_ble_eq_true rfl⟩ (by omega) (by omega) (fun v9 X9 hP => ?_) (fun _ _ h => absurd h.1 (by simp))
        obtain ⟨h1, y9, rfl, h3, h4⟩ := hP
        cases h1
        refine xr_iinc (v := 1) C d_Mo_key_88 91 rfl rfl rfl rfl (by decide) ?_
        refine xr_goto C d_Mo_key_91 60 (by decide) ?_
        refine xG.eqL (show _ = [some (Value.ref (A 0)), some (Value.int (nI i)), some (Value.int (nI q)), some (Value.int w), some (Value.int (nI (128 * i + q))), some (Value.int (nI (j + 1)))] by rw [← nI_one j]; rfl) ?_
        refine ih (j + 1) y9 (by omega) (y1.trans h4) ?_ ew
        rw [takeg 0 j1]
        exact h3
    rcases hw01 with ew | ew
    · exact loopK (eD (S.2.1 i).2.1 q).1.length 0 z1 (by omega) (hf1.mono (by decide)) hr1 ew
    · have hkz := hsl.1.fr hf1 (by decide) (by decide)
      refine xr_iload C d_Mo_key_60 62 rfl rfl ?_
      refine xr_aload_n C d_Mo_key_62 63 rfl rfl ?_
      refine xr_get C K_Mo 9 d_Mo_key_63 66 rfl q_949 (Or.inl rfl) rfl (mX_o hA) rfl ?_
      refine xr_iload C d_Mo_key_66 68 rfl rfl ?_
      refine xr_iald (j := (128 * i + q)) C d_Mo_key_68 69 rfl (mX_9 hA) rfl (by omega) (by omega) ?_
      refine xr_toi (show _ = nI ((eD (S.2.1 i).2.1 q).1.length) from hkz.1) ?_
      refine xr_icmp_ge C d_Mo_key_69 72 94 rfl (by decide) (fun h => absurd h (nI_ge (show 0 < (eD (S.2.1 i).2.1 q).1.length from hek.1) (by omega))) (fun _ => ?_)
      refine xr_iload_n C d_Mo_key_72 73 rfl rfl ?_
      refine xr_if_ne C d_Mo_key_73 76 94 rfl (by decide) (fun _ => ?_) (fun h => absurd (ew.symm.trans h) (by decide))
      refine xr_iconst (v := 0) C d_Mo_key_94 95 rfl (by decide) ?_
      refine xr_istore C d_Mo_key_95 97 rfl rfl rfl ?_
      exact loopV (eD (S.2.1 i).2.1 q).2.length 0 z1 (by omega) (hf1.mono (by decide)) hr1 ew
set_option maxRecDepth 100000 in
set_option maxHeartbeats 4000000 in
theorem d_Mo_feed {l : Launch} {D : va_G} {H0 : Heap} {X0 : xH} {A : Nat → Nat} {s : MS} (hA : mInj A) {S : St} (hR : mRel s S) (hW : wf S) (hV : inv2 S) {e : Int64} {n : Int32} : xMet l D H0 y_Mo_feed b_Mo_feed 5 (some .int) [] 1 0 0 [.ref (A 0), .long e, .int n] (mX D X0 A s) (fun o X' => ∃ v : Int32, o = .inl (some (.int v)) ∧ ∃ s', X' = mX D X0 A s' ∧ s'.1 0 = nI (fFeed S e n).1 ∧ ((fFeed S e n).1 = 0 → v = (fFeed S e n).2.1) ∧ mRel s' (fFeed S e n).2.2) := by
  have hT0 := hW.1.2
  refine ⟨[some (.ref (A 0)), some (.long e), none, some (.int n), none], rfl, Nat.le_of_ble_eq_true rfl, fun E hD hH hl _ C => ?_⟩
  subst hD
  subst hH
  subst hl
  refine xr_aload_n C d_Mo_feed_0 1 rfl rfl ?_
  refine xr_iconst (v := 0) C d_Mo_feed_1 2 rfl (by decide) ?_
  refine xr_put C K_Mo 0 d_Mo_feed_2 5 rfl q_940 (Or.inl rfl) rfl rfl rfl rfl (mX_o hA) rfl rfl ?_
  obtain ⟨z0, hz0⟩ : ∃ zz9, zz9 = setS s 0 (nI 0) := ⟨_, rfl⟩
  refine xG.eqX (show _ = mX E.D X0 A z0 from (mX_f0 (v := (nI 0)) hA).trans (by rw [hz0])) ?_
  have hR0 : mRel z0 S := by rw [hz0]; exact mRel_f hR
  have ht0 : z0.1 0 = 0 := by rw [hz0]; rfl
  refine xr_iload_n C d_Mo_feed_5 6 rfl rfl ?_
  refine xr_iconst (v := 1) C d_Mo_feed_6 7 rfl (by decide) ?_
  refine xr_bipush (v := 8) C d_Mo_feed_7 9 rfl (by decide) ?_
  refine xr_callS C (c_Mo_within) k_Mo_within d_Mo_feed_9 12 rfl (Or.inl q_1020) s_Mo_within in_Mo_within h_Mo_within rfl ⟨Nat.le_of_ble_eq_true rfl, Nat.le_of_ble_eq_true rfl, Nat.le_of_ble_eq_true rfl⟩ (by omega) (by omega) (fun v9 X9 hP => ?_) (fun _ _ h => absurd h.1 (by simp))
  obtain ⟨h1, rfl⟩ := hP
  cases h1
  by_cases hn : (1 : Int32) ≤ n ∧ n ≤ 8
  rotate_left
  · have hf : fFeed S e n = (1, 0, S) := if_neg hn
    rw [hf] at C
    refine xr_toi (if_neg hn) ?_
    refine xr_if_ne C d_Mo_feed_12 15 21 rfl (by decide) (fun h => absurd rfl h) (fun _ => ?_)
    refine xr_aload_n C d_Mo_feed_15 16 rfl rfl ?_
    refine xr_iconst (v := 1) C d_Mo_feed_16 17 rfl (by decide) ?_
    refine xr_callV C (c_Mo_fail hA) k_Mo_fail d_Mo_feed_17 20 rfl (mX_o hA) rfl (Or.inl q_1023) v_Mo_fail e_Mo_fail h_Mo_fail rfl ⟨Nat.le_of_ble_eq_true rfl, Nat.le_of_ble_eq_true rfl, Nat.le_of_ble_eq_true rfl⟩ (by omega) (by omega) (fun v9 X9 hP => ?_) (fun _ _ h => absurd h.1 (by simp))
    obtain ⟨h1, rfl⟩ := hP
    cases h1
    exact xr_iret C d_Mo_feed_20 (by omega) (by omega) ⟨_, rfl, _, rfl, rfl, fun h => absurd h (show ¬ (1 : Nat) = 0 by decide), mRel_f hR0⟩
  refine xr_toi (if_pos hn) ?_
  obtain ⟨k, hk, rfl⟩ := nI_of (show ¬ n < 0 from fun h => absurd hn.1 (Int32.not_le.mpr (Int32.lt_trans h (by decide))))
  have k1 : 1 ≤ k := (nI_leI (a := 1) (by omega) hk).mp hn.1
  have k8 : k ≤ 8 := (nI_leI (b := 8) hk (by omega)).mp hn.2
  have hfm : fFeed S e (nI k) = if S.1.length + k ≤ 300 then (0, nI (S.1.length + k), (S.1 ++ fbs e k, S.2)) else (2, 0, S) := by
    unfold fFeed
    rw [if_pos hn, mIx_nI hk]
  refine xr_if_ne C d_Mo_feed_12 15 21 rfl (by decide) (fun _ => ?_) (fun h => absurd h (by decide))
  refine xr_aload_n C d_Mo_feed_21 22 rfl rfl ?_
  refine xr_get C K_Mo 14 d_Mo_feed_22 25 rfl q_954 (Or.inl rfl) rfl (mX_o hA) rfl ?_
  refine xr_toi (show _ = nI S.1.length from hR0.1) ?_
  refine xr_iload_n C d_Mo_feed_25 26 rfl rfl ?_
  refine xr_iadd C d_Mo_feed_26 27 rfl ?_
  refine xr_toi (show _ = nI (S.1.length + k) from nI_add S.1.length k) ?_
  refine xr_sipush (v := 300) C d_Mo_feed_27 30 rfl (by decide) ?_
  refine xr_toi (show _ = nI 300 from rfl) ?_
  refine xr_icmp_le C d_Mo_feed_30 33 39 rfl (by decide) (fun h30 => ?_) (fun h30 => ?_)
  rotate_left
  · have hc : ¬ S.1.length + k ≤ 300 := fun q => h30 (nI_le q (by omega))
    rw [hfm, if_neg hc] at C
    refine xr_aload_n C d_Mo_feed_33 34 rfl rfl ?_
    refine xr_iconst (v := 2) C d_Mo_feed_34 35 rfl (by decide) ?_
    refine xr_callV C (c_Mo_fail hA) k_Mo_fail d_Mo_feed_35 38 rfl (mX_o hA) rfl (Or.inl q_1023) v_Mo_fail e_Mo_fail h_Mo_fail rfl ⟨Nat.le_of_ble_eq_true rfl, Nat.le_of_ble_eq_true rfl, Nat.le_of_ble_eq_true rfl⟩ (by omega) (by omega) (fun v9 X9 hP => ?_) (fun _ _ h => absurd h.1 (by simp))
    obtain ⟨h1, rfl⟩ := hP
    cases h1
    exact xr_iret C d_Mo_feed_38 (by omega) (by omega) ⟨_, rfl, _, rfl, rfl, fun h => absurd h (show ¬ (2 : Nat) = 0 by decide), mRel_f hR0⟩
  have hc : S.1.length + k ≤ 300 := (nI_leI (by omega) (by omega)).mp h30
  rw [hfm, if_pos hc] at C
  have loop : ∀ (r i : Nat) (y : MS), i + r = k → mFr [15] z0 y → (∀ q, q < S.1.length + i → y.2.1 15 q = u8 ((S.1 ++ fbs e k).getD q 0)) → xG E (mX E.D X0 A y) 0 0 42 [some (.ref (A 0)), some (.long e), none, some (.int (nI k)), some (.int (nI i))] [] := by
    intro r
    induction r with
    | zero =>
      intro i y hi y1 y2
      have ei : i = k := by omega
      subst ei
      have h14 : y.1 14 = nI S.1.length := by rw [(y1 14 (by decide)).1]; exact hR0.1
      refine xr_iload C d_Mo_feed_42 44 rfl rfl ?_
      refine xr_iload_n C d_Mo_feed_44 45 rfl rfl ?_
      refine xr_icmp_ge C d_Mo_feed_45 48 78 rfl (by decide) (fun _ => ?_) (fun h => absurd (nI_le (Nat.le_refl _) (by omega)) h)
      refine xr_aload_n C d_Mo_feed_78 79 rfl rfl ?_
      refine xr_dup C d_Mo_feed_79 80 rfl rfl ?_
      refine xr_get C K_Mo 14 d_Mo_feed_80 83 rfl q_954 (Or.inl rfl) rfl (mX_o hA) rfl ?_
      refine xr_toi (show _ = nI S.1.length from h14) ?_
      refine xr_iload_n C d_Mo_feed_83 84 rfl rfl ?_
      refine xr_iadd C d_Mo_feed_84 85 rfl ?_
      refine xr_toi (show _ = nI (S.1.length + i) from nI_add S.1.length i) ?_
      refine xr_put C K_Mo 14 d_Mo_feed_85 88 rfl q_954 (Or.inl rfl) rfl rfl rfl rfl (mX_o hA) rfl rfl ?_
      obtain ⟨y9, hy9⟩ : ∃ zz9, zz9 = setS y 14 (nI (S.1.length + i)) := ⟨_, rfl⟩
      refine xG.eqX (show _ = mX E.D X0 A y9 from (mX_f14 (v := (nI (S.1.length + i))) hA).trans (by rw [hy9])) ?_
      refine xr_aload_n C d_Mo_feed_88 89 rfl rfl ?_
      refine xr_get C K_Mo 14 d_Mo_feed_89 92 rfl q_954 (Or.inl rfl) rfl (mX_o hA) rfl ?_
      refine xr_toi (show _ = nI (S.1.length + i) from (by rw [hy9]; rfl)) ?_
      have hf9 : mFr [14, 15] z0 y9 := (y1.mono (by decide)).trans (by rw [hy9]; exact mFr_S (by decide))
      refine xr_iret C d_Mo_feed_92 (by omega) (by omega) ⟨_, rfl, y9, rfl, by rw [(hf9 0 (by decide)).1]; exact ht0, fun _ => rfl, ?_, ⟨?_, fun q hq => ?_⟩, fun q hq => ⟨(hR0.2.2.1 q hq).1.fr hf9 (by decide), (hR0.2.2.1 q hq).2.1.fr hf9 (by decide), by rw [(hf9 13 (by decide)).2.1]; exact (hR0.2.2.1 q hq).2.2⟩, hR0.2.2.2.1.fr hf9 (by decide), by rw [(hf9 20 (by decide)).1]; exact hR0.2.2.2.2⟩
      · show y9.1 14 = nI (S.1 ++ fbs e i).length
        rw [List.length_append, fbs_len, hy9]
        rfl
      · show (S.1 ++ fbs e i).length ≤ 300
        rw [List.length_append, fbs_len]
        exact hc
      · have hq2 : q < (S.1 ++ fbs e i).length := hq
        rw [List.length_append, fbs_len] at hq2
        rw [hy9]
        exact y2 q hq2
    | succ r ih =>
      intro i y hi y1 y2
      have h14 : y.1 14 = nI S.1.length := by rw [(y1 14 (by decide)).1]; exact hR0.1
      refine xr_iload C d_Mo_feed_42 44 rfl rfl ?_
      refine xr_iload_n C d_Mo_feed_44 45 rfl rfl ?_
      refine xr_icmp_ge C d_Mo_feed_45 48 78 rfl (by decide) (fun h => absurd h (nI_ge (show i < k by omega) (by omega))) (fun _ => ?_)
      refine xr_aload_n C d_Mo_feed_48 49 rfl rfl ?_
      refine xr_get C K_Mo 15 d_Mo_feed_49 52 rfl q_955 (Or.inl rfl) rfl (mX_o hA) rfl ?_
      refine xr_aload_n C d_Mo_feed_52 53 rfl rfl ?_
      refine xr_get C K_Mo 14 d_Mo_feed_53 56 rfl q_954 (Or.inl rfl) rfl (mX_o hA) rfl ?_
      refine xr_toi (show _ = nI S.1.length from h14) ?_
      refine xr_iload C d_Mo_feed_56 58 rfl rfl ?_
      refine xr_iadd C d_Mo_feed_58 59 rfl ?_
      refine xr_toi (show _ = nI (S.1.length + i) from nI_add S.1.length i) ?_
      refine xr_lload_n C d_Mo_feed_59 60 rfl rfl ?_
      refine xr_bipush (v := 8) C d_Mo_feed_60 62 rfl (by decide) ?_
      refine xr_iload C d_Mo_feed_62 64 rfl rfl ?_
      refine xr_imul C d_Mo_feed_64 65 rfl ?_
      refine xr_toi (show _ = nI (8 * i) from pk_mul 8 i) ?_
      refine xr_lshr (v := (e) >>> sa (8 * i)) C d_Mo_feed_65 66 rfl rfl ?_
      refine xr_ldc2 (v := 255) C d_Mo_feed_66 69 rfl q_1027 ?_
      refine xr_land C d_Mo_feed_69 70 rfl ?_
      refine xr_l2i C d_Mo_feed_70 71 rfl rfl ?_
      refine xr_toi (show _ = nI (by8 e i) from ext8 (by omega)) ?_
      refine xr_iast (j := (S.1.length + i)) C d_Mo_feed_71 72 rfl (mX_15 hA) rfl (by omega) (by omega) ?_
      obtain ⟨y9, hy9⟩ : ∃ zz9, zz9 = setI y 15 (S.1.length + i) (nI (by8 e i)) := ⟨_, rfl⟩
      refine xG.eqX (show _ = mX E.D X0 A y9 from (mX_s15 (v := (nI (by8 e i))) hA).trans (by rw [hy9])) ?_
      refine xr_iinc (v := 1) C d_Mo_feed_72 75 rfl rfl rfl rfl (by decide) ?_
      refine xr_goto C d_Mo_feed_75 42 (by decide) ?_
      refine xG.eqL (show _ = [some (Value.ref (A 0)), some (Value.long e), none, some (Value.int (nI k)), some (Value.int (nI (i + 1)))] by rw [← nI_one i]; rfl) ?_
      refine ih (i + 1) y9 (by omega) (by rw [hy9]; exact y1.trans (mFr_I (by decide))) (fun q hq => ?_)
      rw [hy9, setI_I]
      by_cases e9 : q = S.1.length + i
      · rw [if_pos ⟨rfl, e9⟩, e9, u8_ub]
        congr 1
        rw [← fby_ok (by omega), List.getD_eq_getElem?_getD, List.getElem?_append_right (by omega), show S.1.length + i - S.1.length = i by omega]
        unfold fbs
        rw [List.getElem?_map, List.getElem?_range (by omega)]
        rfl
      · rw [if_neg (fun q9 => e9 q9.2)]
        exact y2 q (by omega)
  refine xr_iconst (v := 0) C d_Mo_feed_39 40 rfl (by decide) ?_
  refine xr_istore C d_Mo_feed_40 42 rfl rfl rfl ?_
  refine loop k 0 z0 (by omega) mFr.rf (fun q hq => ?_)
  rw [List.getD_eq_getElem?_getD, List.getElem?_append_left (by omega), ← List.getD_eq_getElem?_getD]
  exact hR0.2.1.2 q (by omega)
