/-! The model's calls: read, run. -/
theorem nby_ub {v : Int32} {k : Nat} (hk : k < 4) : ub (nby v k) = v.toBitVec.toNat / 2 ^ (8 * k) % 256 := by
  unfold nby
  rw [ub_b]
  unfold ub
  rw [pk_ushr v (8 * nI k) (8 * k) (sh31 k hk)]
theorem nby_n {n k : Nat} (hn : n < 65536) (hk : k < 4) : nI (n / 2 ^ (8 * k) % 256) = u8 (nby (nI n) k) := by
  rw [u8_ub, nby_ub hk, pk_tn (by omega)]
theorem num2 (v : Int32) : num v 2 = [nby v 0] ++ [nby v 1] := rfl
theorem isbs_sl {ts : List Int32} {i j : Nat} (h : isbs ts) (hj : j ≤ ts.length) : isbs (sl ts i j) := fun k hk => by
  rw [sl_len hj] at hk
  rw [sl_at hk]
  exact h _ (by omega)
abbrev Kq : List Nat := [16, 17, 18, 19]
set_option maxRecDepth 100000 in
set_option maxHeartbeats 4000000 in
theorem d_Mo_read {l : Launch} {D : va_G} {H0 : Heap} {X0 : xH} {A : Nat → Nat} {s : MS} (hA : mInj A) {S : St} (hR : mRel s S) (hW : wf S) (hV : inv2 S) {z h : Int32} : xMet l D H0 y_Mo_read b_Mo_read 10 (some .int) [] 3 0 0 [.ref (A 0), .int z, .int h] (mX D X0 A s) (fun o X' => ∃ v : Int32, o = .inl (some (.int v)) ∧ ∃ s', X' = mX D X0 A s' ∧ s'.1 0 = nI (fRead S z h).1 ∧ ((fRead S z h).1 = 0 → v = (fRead S z h).2.1) ∧ mRel s' (fRead S z h).2.2) := by
  refine ⟨[some (.ref (A 0)), some (.int z), some (.int h), none, none, none, none, none, none, none], rfl, Nat.le_of_ble_eq_true rfl, fun E hD hH hl _ C => ?_⟩
  subst hD
  subst hH
  subst hl
  refine xr_aload_n C d_Mo_read_0 1 rfl rfl ?_
  refine xr_iconst (v := 0) C d_Mo_read_1 2 rfl (by decide) ?_
  refine xr_put C K_Mo 0 d_Mo_read_2 5 rfl q_940 (Or.inl rfl) rfl rfl rfl rfl (mX_o hA) rfl rfl ?_
  obtain ⟨z0, hz0⟩ : ∃ zz9, zz9 = setS s 0 (nI 0) := ⟨_, rfl⟩
  refine xG.eqX (show _ = mX E.D X0 A z0 from (mX_f0 (v := (nI 0)) hA).trans (by rw [hz0])) ?_
  refine xr_aload_n C d_Mo_read_5 6 rfl rfl ?_
  refine xr_get C K_Mo 14 d_Mo_read_6 9 rfl q_954 (Or.inl rfl) rfl (mX_o hA) rfl ?_
  refine xr_toi (show _ = nI S.1.length from (by rw [hz0]; exact hR.1)) ?_
  refine xr_istore_n C d_Mo_read_9 10 rfl rfl rfl ?_
  refine xr_aload_n C d_Mo_read_10 11 rfl rfl ?_
  refine xr_iconst (v := 0) C d_Mo_read_11 12 rfl (by decide) ?_
  refine xr_put C K_Mo 14 d_Mo_read_12 15 rfl q_954 (Or.inl rfl) rfl rfl rfl rfl (mX_o hA) rfl rfl ?_
  obtain ⟨z1, hz1⟩ : ∃ zz9, zz9 = setS z0 14 (nI 0) := ⟨_, rfl⟩
  refine xG.eqX (show _ = mX E.D X0 A z1 from (mX_f14 (v := (nI 0)) hA).trans (by rw [hz1])) ?_
  have hf1 : mFr [0, 14] s z1 := by rw [hz1, hz0]; exact (mFr_S (by decide)).trans (mFr_S (by decide))
  have ht1 : z1.1 0 = 0 := by rw [hz1, hz0]; rfl
  have hT1 : rT z1 S.1 := hR.2.1.fr hf1 (by decide)
  have hM1 : ∀ m, m < 2 → rS z1 m (S.2.1 m).1 ∧ rE z1 m (S.2.1 m).2.1 ∧ z1.2.1 13 m = (S.2.1 m).2.2 := fun m hm => ⟨(hR.2.2.1 m hm).1.fr hf1 (by decide), (hR.2.2.1 m hm).2.1.fr hf1 (by decide), by rw [(hf1 13 (by decide)).2.1]; exact (hR.2.2.1 m hm).2.2⟩
  have h14 : z1.1 14 = 0 := by rw [hz1]; rfl
  have hR1 : mRel z1 ([], S.2) := ⟨h14, ⟨Nat.zero_le _, fun i hi => absurd hi (Nat.not_lt_zero _)⟩, hM1, hR.2.2.2.1.fr hf1 (by decide), by rw [(hf1 20 (by decide)).1]; exact hR.2.2.2.2⟩
  have hT3 := hW.1.2
  have hTb := hW.1.1
  refine xr_iload_n C d_Mo_read_15 16 rfl rfl ?_
  refine xr_callS C (c_Mo_isMachine) k_Mo_isMachine d_Mo_read_16 19 rfl (Or.inl q_1032) s_Mo_isMachine in_Mo_isMachine h_Mo_isMachine rfl ⟨Nat.le_of_ble_eq_true rfl, Nat.le_of_ble_eq_true rfl, Nat.le_of_ble_eq_true rfl⟩ (by omega) (by omega) (fun v9 X9 hP => ?_) (fun _ _ h => absurd h.1 (by simp))
  obtain ⟨h1, rfl⟩ := hP
  cases h1
  rcases mach_ix z with hz | ⟨i, hi, rfl⟩
  · have hf : fRead S z h = (1, 0, ([], S.2)) := if_neg (notM hz)
    rw [hf] at C
    refine xr_toi (if_neg (notM hz)) ?_
    refine xr_if_ne C d_Mo_read_19 22 28 rfl (by decide) (fun h => absurd rfl h) (fun _ => ?_)
    refine xr_aload_n C d_Mo_read_22 23 rfl rfl ?_
    refine xr_iconst (v := 1) C d_Mo_read_23 24 rfl (by decide) ?_
    refine xr_callV C (c_Mo_fail hA) k_Mo_fail d_Mo_read_24 27 rfl (mX_o hA) rfl (Or.inl q_1023) v_Mo_fail e_Mo_fail h_Mo_fail rfl ⟨Nat.le_of_ble_eq_true rfl, Nat.le_of_ble_eq_true rfl, Nat.le_of_ble_eq_true rfl⟩ (by omega) (by omega) (fun v9 X9 hP => ?_) (fun _ _ h => absurd h.1 (by simp))
    obtain ⟨h1, rfl⟩ := hP
    cases h1
    exact xr_iret C d_Mo_read_27 (by omega) (by omega) ⟨_, rfl, _, rfl, rfl, fun h => absurd h (show ¬ (1 : Nat) = 0 by decide), mRel_f hR1⟩
  · obtain ⟨hs1, hs2, hs3⟩ := hM1 i hi
    obtain ⟨w1, w2, w3, w4⟩ := hW.2 i hi
    have w1l := w1.1
    have w2l := w2.1
    have hfm : fRead S (nI i) h = if 0 ≤ h ∧ okRd (mIx h) S.1.length then (0, nI (lookF (mIx h) (S.2.1 i).2.1 S.1).length, ([], S.2.1, lookF (mIx h) (S.2.1 i).2.1 S.1, S.2.2.2)) else (2, 0, ([], S.2)) := by
      unfold fRead
      rw [if_pos (isM_of hi), mIx_nI (by omega)]
    have t73 : ¬ (0 ≤ h ∧ okRd (mIx h) S.1.length) → ∀ Lr, xG E (mX E.D X0 A z1) 0 0 73 (some (.ref (A 0)) :: Lr) [] := by
      intro hn Lr
      rw [hfm, if_neg hn] at C
      refine xr_aload_n C d_Mo_read_73 74 rfl rfl ?_
      refine xr_iconst (v := 2) C d_Mo_read_74 75 rfl (by decide) ?_
      refine xr_callV C (c_Mo_fail hA) k_Mo_fail d_Mo_read_75 78 rfl (mX_o hA) rfl (Or.inl q_1023) v_Mo_fail e_Mo_fail h_Mo_fail rfl ⟨Nat.le_of_ble_eq_true rfl, Nat.le_of_ble_eq_true rfl, Nat.le_of_ble_eq_true rfl⟩ (by omega) (by omega) (fun v9 X9 hP => ?_) (fun _ _ h => absurd h.1 (by simp))
      obtain ⟨h1, rfl⟩ := hP
      cases h1
      exact xr_iret C d_Mo_read_78 (by omega) (by omega) ⟨_, rfl, _, rfl, rfl, fun h => absurd h (show ¬ (2 : Nat) = 0 by decide), mRel_f hR1⟩
    refine xr_toi (if_pos (isM_of hi)) ?_
    refine xr_if_ne C d_Mo_read_19 22 28 rfl (by decide) (fun _ => ?_) (fun h => absurd h (by decide))
    rcases nI_of_or h with hneg | ⟨w, hw, rfl⟩
    · refine xr_iload_n C d_Mo_read_28 29 rfl rfl ?_
      refine xr_bipush (v := 7) C d_Mo_read_29 31 rfl (by decide) ?_
      refine xr_iand C d_Mo_read_31 32 rfl ?_
      refine xr_istore C d_Mo_read_32 34 rfl rfl rfl ?_
      refine xr_iload_n C d_Mo_read_34 35 rfl rfl ?_
      refine xr_iconst (v := 3) C d_Mo_read_35 36 rfl (by decide) ?_
      refine xr_ishr C d_Mo_read_36 37 rfl ?_
      refine xr_bipush (v := 63) C d_Mo_read_37 39 rfl (by decide) ?_
      refine xr_iand C d_Mo_read_39 40 rfl ?_
      refine xr_istore C d_Mo_read_40 42 rfl rfl rfl ?_
      refine xr_iload_n C d_Mo_read_42 43 rfl rfl ?_
      refine xr_if_lt C d_Mo_read_43 46 73 rfl (by decide) (fun _ => t73 (fun q => absurd q.1 (Int32.not_le.mpr hneg)) _) (fun q => absurd hneg q)
    rw [mIx_nI hw] at hfm t73
    obtain ⟨k, hk⟩ : ∃ k, k = w / 8 % 64 := ⟨_, rfl⟩
    obtain ⟨p, hp⟩ : ∃ p, p = w % 8 := ⟨_, rfl⟩
    obtain ⟨x, hx⟩ : ∃ x, x = w / 512 := ⟨_, rfl⟩
    refine xr_iload_n C d_Mo_read_28 29 rfl rfl ?_
    refine xr_bipush (v := 7) C d_Mo_read_29 31 rfl (by decide) ?_
    refine xr_iand C d_Mo_read_31 32 rfl ?_
    refine xr_toi (show _ = nI p from (pk_andN (by omega) 3 (by decide)).trans (by rw [hp])) ?_
    refine xr_istore C d_Mo_read_32 34 rfl rfl rfl ?_
    refine xr_iload_n C d_Mo_read_34 35 rfl rfl ?_
    refine xr_iconst (v := 3) C d_Mo_read_35 36 rfl (by decide) ?_
    refine xr_ishr C d_Mo_read_36 37 rfl ?_
    refine xr_toi (show _ = nI (w / 8) from pk_shrN (by omega) _ 3 (by decide)) ?_
    refine xr_bipush (v := 63) C d_Mo_read_37 39 rfl (by decide) ?_
    refine xr_iand C d_Mo_read_39 40 rfl ?_
    refine xr_toi (show _ = nI k from (pk_andN (by omega) 6 (by decide)).trans (by rw [hk])) ?_
    refine xr_istore C d_Mo_read_40 42 rfl rfl rfl ?_
    refine xr_iload_n C d_Mo_read_42 43 rfl rfl ?_
    refine xr_if_lt C d_Mo_read_43 46 73 rfl (by decide) (fun h => absurd h (nI_pos (by omega))) (fun _ => ?_)
    refine xr_iload C d_Mo_read_46 48 rfl rfl ?_
    refine xr_iconst (v := 3) C d_Mo_read_48 49 rfl (by decide) ?_
    refine xr_toi (show _ = nI 3 from rfl) ?_
    refine xr_icmp_lt C d_Mo_read_49 52 73 rfl (by decide) (fun h => t73 (fun q => nI_nlt (show 3 ≤ p by have := q.2.1.1; omega) (by omega) h) _) (fun h49 => ?_)
    refine xr_iload C d_Mo_read_52 54 rfl rfl ?_
    refine xr_iconst (v := 5) C d_Mo_read_54 55 rfl (by decide) ?_
    refine xr_toi (show _ = nI 5 from rfl) ?_
    refine xr_icmp_gt C d_Mo_read_55 58 73 rfl (by decide) (fun h => t73 (fun q => nI_nlt (show p ≤ 5 by have := q.2.1.2; omega) (by omega) h) _) (fun h55 => ?_)
    have p3 : 3 ≤ p := by
      rcases Nat.lt_or_ge p 3 with h | h
      · exact absurd (nI_lt h (by omega)) h49
      · exact h
    have p5 : p ≤ 5 := by
      rcases Nat.lt_or_ge 5 p with h | h
      · exact absurd (nI_lt h (by omega)) h55
      · exact h
    have hfr := fit_rd (s := w) (n := S.1.length) (by omega)
    rw [← hp, ← hk, ← hx] at hfr
    refine xr_iload C d_Mo_read_58 60 rfl rfl ?_
    refine xr_iload C d_Mo_read_60 62 rfl rfl ?_
    refine xr_iload_n C d_Mo_read_62 63 rfl rfl ?_
    refine xr_bipush (v := 9) C d_Mo_read_63 65 rfl (by decide) ?_
    refine xr_ishr C d_Mo_read_65 66 rfl ?_
    refine xr_toi (show _ = nI x from (pk_shrN (by omega) _ 9 (by decide)).trans (by rw [hx])) ?_
    refine xr_iload_n C d_Mo_read_66 67 rfl rfl ?_
    refine xr_callS C (c_Mo_fits (p := p) (k := k) (v := x) (n := S.1.length) (by omega) (by omega) (by omega) hT3) k_Mo_fits d_Mo_read_67 70 rfl (Or.inl q_1048) s_Mo_fits in_Mo_fits h_Mo_fits rfl ⟨Nat.le_of_ble_eq_true rfl, Nat.le_of_ble_eq_true rfl, Nat.le_of_ble_eq_true rfl⟩ (by omega) (by omega) (fun v9 X9 hP => ?_) (fun _ _ h => absurd h.1 (by simp))
    obtain ⟨h1, rfl⟩ := hP
    cases h1
    by_cases hc : okRd w S.1.length
    rotate_left
    · refine xr_toi (if_neg (fun q => hc (hfr.mp q))) ?_
      refine xr_if_ne C d_Mo_read_70 73 79 rfl (by decide) (fun h => absurd rfl h) (fun _ => t73 (fun q => hc q.2) _)
    refine xr_toi (if_pos (hfr.mpr hc)) ?_
    rw [if_pos ⟨nI_pos' hw, hc⟩] at hfm
    rw [hfm] at C
    obtain ⟨-, ⟨k1, k2⟩, k3⟩ := id hc
    have hk8 : k = w / 8 := by omega
    have kn : k ≤ S.1.length ∧ S.1.length ≤ k + 32 := by
      split at k3 <;> omega
    have hkl : (sl S.1 0 k).length = k := by rw [sl_len (by omega)]; omega
    have hkb : isbs (sl S.1 0 k) := isbs_sl hTb (by omega)
    refine xr_if_ne C d_Mo_read_70 73 79 rfl (by decide) (fun _ => ?_) (fun h => absurd h (by decide))
    refine xr_aload_n C d_Mo_read_79 80 rfl rfl ?_
    refine xr_iconst (v := 0) C d_Mo_read_80 81 rfl (by decide) ?_
    refine xr_put C K_Mo 18 d_Mo_read_81 84 rfl q_958 (Or.inl rfl) rfl rfl rfl rfl (mX_o hA) rfl rfl ?_
    obtain ⟨z2, hz2⟩ : ∃ zz9, zz9 = setS z1 18 (nI 0) := ⟨_, rfl⟩
    refine xG.eqX (show _ = mX E.D X0 A z2 from (mX_f18 (v := (nI 0)) hA).trans (by rw [hz2])) ?_
    refine xr_aload_n C d_Mo_read_84 85 rfl rfl ?_
    refine xr_iconst (v := 0) C d_Mo_read_85 86 rfl (by decide) ?_
    refine xr_iload C d_Mo_read_86 88 rfl rfl ?_
    have hz12 : mFr Kq z1 z2 := by rw [hz2]; exact mFr_S (by decide)
    have hto2 : tol z2 [] := tol_z hz2
    refine xr_callV C (c_Mo_seek hA (f := 0) (n := k) (hT1.fr hz12 (by decide)) (by omega) (by omega)) k_Mo_seek d_Mo_read_88 91 rfl (mX_o hA) rfl (Or.inl q_1068) v_Mo_seek e_Mo_seek h_Mo_seek rfl ⟨Nat.le_of_ble_eq_true rfl, Nat.le_of_ble_eq_true rfl, Nat.le_of_ble_eq_true rfl⟩ (by omega) (by omega) (fun v9 X9 hP => ?_) (fun _ _ h => absurd h.1 (by simp))
    obtain ⟨h1, z3, rfl, h3, h4⟩ := hP
    cases h1
    rw [Nat.zero_add] at h3
    have hz13 : mFr Kq z1 z3 := hz12.trans (h4.mono (by decide))
    have hto3 : tol z3 [] := hto2.fr h4 (by decide)
    have hE3 := hs2.fr hz13 (by decide)
    obtain ⟨j, hj⟩ : ∃ j, j = fnb (S.2.1 i).2.1 (sl S.1 0 k) := ⟨_, rfl⟩
    have hfl := fnb_le (sl S.1 0 k) (S.2.1 i).2.1
    rw [← hj] at hfl
    have t296 : ∀ (y : MS) (ans : List Int32) (Lr : List (Option Value)), mFr Kq z1 y → tol y ans → ans.length ≤ 140 → lookF w (S.2.1 i).2.1 S.1 = ans → xG E (mX E.D X0 A y) 0 0 296 (some (.ref (A 0)) :: Lr) [] := by
      intro y ans Lr y1 y2 y3 y4
      rw [y4] at C
      refine xr_aload_n C d_Mo_read_296 297 rfl rfl ?_
      refine xr_callV C (c_Mo_show hA y2 y3) k_Mo_show d_Mo_read_297 300 rfl (mX_o hA) rfl (Or.inl q_1055) v_Mo_show e_Mo_show h_Mo_show rfl ⟨Nat.le_of_ble_eq_true rfl, Nat.le_of_ble_eq_true rfl, Nat.le_of_ble_eq_true rfl⟩ (by omega) (by omega) (fun v9 X9 hP => ?_) (fun _ _ h => absurd h.1 (by simp))
      obtain ⟨h1, y9, rfl, g1, g2⟩ := hP
      cases h1
      refine xr_aload_n C d_Mo_read_300 301 rfl rfl ?_
      refine xr_get C K_Mo 21 d_Mo_read_301 304 rfl q_961 (Or.inl rfl) rfl (mX_o hA) rfl ?_
      refine xr_toi (show _ = nI ans.length from g1.1) ?_
      have hg : mFr [16, 17, 18, 19, 21, 22] z1 y9 := (y1.mono (by decide)).trans (g2.mono (by decide))
      exact xr_iret C d_Mo_read_304 (by omega) (by omega) ⟨_, rfl, y9, rfl, by rw [(hg 0 (by decide)).1]; exact ht1, fun _ => rfl, by rw [(hg 14 (by decide)).1]; exact h14, ⟨Nat.zero_le _, fun i hi => absurd hi (Nat.not_lt_zero _)⟩, fun q hq => ⟨(hM1 q hq).1.fr hg (by decide), (hM1 q hq).2.1.fr hg (by decide), by rw [(hg 13 (by decide)).2.1]; exact (hM1 q hq).2.2⟩, g1, by rw [(hg 20 (by decide)).1]; exact hR1.2.2.2.2⟩
    refine xr_aload_n C d_Mo_read_91 92 rfl rfl ?_
    refine xr_iload_n C d_Mo_read_92 93 rfl rfl ?_
    refine xr_callV C (c_Mo_below hA hi hE3 w2 h3 (by omega)) k_Mo_below d_Mo_read_93 96 rfl (mX_o hA) rfl (Or.inl q_1076) v_Mo_below e_Mo_below h_Mo_below rfl ⟨Nat.le_of_ble_eq_true rfl, Nat.le_of_ble_eq_true rfl, Nat.le_of_ble_eq_true rfl⟩ (by omega) (by omega) (fun v9 X9 hP => ?_) (fun _ _ h => absurd h.1 (by simp))
    obtain ⟨h1, rfl⟩ := hP
    cases h1
    rw [← hj]
    refine xr_istore C d_Mo_read_96 98 rfl rfl rfl ?_
    refine xr_sipush (v := 128) C d_Mo_read_98 101 rfl (by decide) ?_
    refine xr_iload_n C d_Mo_read_101 102 rfl rfl ?_
    refine xr_imul C d_Mo_read_102 103 rfl ?_
    refine xr_toi (show _ = nI (128 * i) from pk_mul 128 i) ?_
    refine xr_iload C d_Mo_read_103 105 rfl rfl ?_
    refine xr_iadd C d_Mo_read_105 106 rfl ?_
    refine xr_toi (show _ = nI ((128 * i) + j) from nI_add (128 * i) j) ?_
    refine xr_istore C d_Mo_read_106 108 rfl rfl rfl ?_
    refine xr_iload C d_Mo_read_108 110 rfl rfl ?_
    refine xr_iconst (v := 3) C d_Mo_read_110 111 rfl (by decide) ?_
    refine xr_toi (show _ = nI 3 from rfl) ?_
    refine xr_icmp_ne C d_Mo_read_111 114 151 rfl (by decide) (fun h111 => ?_) (fun h111 => ?_)
    rotate_left
    · have ep : p = 3 := (nI_eq (by omega) (by omega)).mp h111
      refine xr_aload_n C d_Mo_read_114 115 rfl rfl ?_
      refine xr_iload_n C d_Mo_read_115 116 rfl rfl ?_
      refine xr_iload C d_Mo_read_116 118 rfl rfl ?_
      refine xr_callV C (c_Mo_isAt hA hi hE3 w2 h3 (by omega) (j := j) (by omega) w3 hkb) k_Mo_isAt d_Mo_read_118 121 rfl (mX_o hA) rfl (Or.inl q_1084) v_Mo_isAt e_Mo_isAt h_Mo_isAt rfl ⟨Nat.le_of_ble_eq_true rfl, Nat.le_of_ble_eq_true rfl, Nat.le_of_ble_eq_true rfl⟩ (by omega) (by omega) (fun v9 X9 hP => ?_) (fun _ _ h => absurd h.1 (by simp))
      obtain ⟨h1, rfl⟩ := hP
      cases h1
      have hlk : lookF w (S.2.1 i).2.1 S.1 = tvK (S.2.1 i).2.1 (sl S.1 0 k) := by
        unfold lookF
        rw [if_pos (by omega), hk8]
      by_cases hc2 : j < (S.2.1 i).2.1.length ∧ (eD (S.2.1 i).2.1 j).1 = sl S.1 0 k
      · have htv : tvK (S.2.1 i).2.1 (sl S.1 0 k) = [] ++ [1] ++ (eD (S.2.1 i).2.1 j).2 := by
          unfold tvK
          rw [← hj, if_pos hc2]
          rfl
        have he2 := (w2.2.2 _ (eD_mem hc2.1)).2.2
        refine xr_toi (if_pos hc2) ?_
        refine xr_istore C d_Mo_read_121 123 rfl rfl rfl ?_
        refine xr_aload_n C d_Mo_read_123 124 rfl rfl ?_
        refine xr_iload C d_Mo_read_124 126 rfl rfl ?_
        refine xr_if_eq C d_Mo_read_126 129 133 rfl (by decide) (fun h => absurd h (by decide)) (fun _ => ?_)
        refine xr_iconst (v := 1) C d_Mo_read_129 130 rfl (by decide) ?_
        refine xr_goto C d_Mo_read_130 134 (by decide) ?_
        refine xr_callV C (c_Mo_tell hA (b := 1) hto3 (by rw [List.length_nil]; omega) (by decide)) k_Mo_tell d_Mo_read_134 137 rfl (mX_o hA) rfl (Or.inl q_1064) v_Mo_tell e_Mo_tell h_Mo_tell rfl ⟨Nat.le_of_ble_eq_true rfl, Nat.le_of_ble_eq_true rfl, Nat.le_of_ble_eq_true rfl⟩ (by omega) (by omega) (fun v9 X9 hP => ?_) (fun _ _ h => absurd h.1 (by simp))
        obtain ⟨h1, y1, rfl, g1, g2⟩ := hP
        cases h1
        refine xr_iload C d_Mo_read_137 139 rfl rfl ?_
        refine xr_if_eq C d_Mo_read_139 142 148 rfl (by decide) (fun h => absurd h (by decide)) (fun _ => ?_)
        refine xr_aload_n C d_Mo_read_142 143 rfl rfl ?_
        refine xr_iload C d_Mo_read_143 145 rfl rfl ?_
        refine xr_callV C (c_Mo_tellValue hA (by omega) ((hE3.2 j hc2.1).2.fr g2 (by decide) (by decide)) g1 (by simp only [List.length_append, List.length_nil, List.length_singleton]; omega) (by omega)) k_Mo_tellValue d_Mo_read_145 148 rfl (mX_o hA) rfl (Or.inl q_1088) v_Mo_tellValue e_Mo_tellValue h_Mo_tellValue rfl ⟨Nat.le_of_ble_eq_true rfl, Nat.le_of_ble_eq_true rfl, Nat.le_of_ble_eq_true rfl⟩ (by omega) (by omega) (fun v9 X9 hP => ?_) (fun _ _ h => absurd h.1 (by simp))
        obtain ⟨h1, y2, rfl, g3, g4⟩ := hP
        cases h1
        refine xr_goto C d_Mo_read_148 296 (by decide) ?_
        exact t296 y2 _ _ (hz13.trans ((g2.trans g4).mono (by decide))) g3 (by simp only [List.length_append, List.length_nil, List.length_singleton]; omega) (hlk.trans htv)
      · have htv : tvK (S.2.1 i).2.1 (sl S.1 0 k) = [] ++ [0] := by
          unfold tvK
          rw [← hj, if_neg hc2]
          rfl
        refine xr_toi (if_neg hc2) ?_
        refine xr_istore C d_Mo_read_121 123 rfl rfl rfl ?_
        refine xr_aload_n C d_Mo_read_123 124 rfl rfl ?_
        refine xr_iload C d_Mo_read_124 126 rfl rfl ?_
        refine xr_if_eq C d_Mo_read_126 129 133 rfl (by decide) (fun _ => ?_) (fun h => absurd rfl h)
        refine xr_iconst (v := 0) C d_Mo_read_133 134 rfl (by decide) ?_
        refine xr_callV C (c_Mo_tell hA (b := 0) hto3 (by rw [List.length_nil]; omega) (by decide)) k_Mo_tell d_Mo_read_134 137 rfl (mX_o hA) rfl (Or.inl q_1064) v_Mo_tell e_Mo_tell h_Mo_tell rfl ⟨Nat.le_of_ble_eq_true rfl, Nat.le_of_ble_eq_true rfl, Nat.le_of_ble_eq_true rfl⟩ (by omega) (by omega) (fun v9 X9 hP => ?_) (fun _ _ h => absurd h.1 (by simp))
        obtain ⟨h1, y1, rfl, g1, g2⟩ := hP
        cases h1
        refine xr_iload C d_Mo_read_137 139 rfl rfl ?_
        refine xr_if_eq C d_Mo_read_139 142 148 rfl (by decide) (fun _ => ?_) (fun h => absurd rfl h)
        refine xr_goto C d_Mo_read_148 296 (by decide) ?_
        exact t296 y1 _ _ (hz13.trans (g2.mono (by decide))) g1 (by simp only [List.length_append, List.length_nil, List.length_singleton]; omega) (hlk.trans htv)
    have ep3 : ¬ p = 3 := fun e => h111 (by rw [e])
    refine xr_iload C d_Mo_read_151 153 rfl rfl ?_
    refine xr_iconst (v := 4) C d_Mo_read_153 154 rfl (by decide) ?_
    refine xr_toi (show _ = nI 4 from rfl) ?_
    refine xr_icmp_ne C d_Mo_read_154 157 215 rfl (by decide) (fun h154 => ?_) (fun h154 => ?_)
    rotate_left
    · have ep : p = 4 := (nI_eq (by omega) (by omega)).mp h154
      refine xr_aload_n C d_Mo_read_157 158 rfl rfl ?_
      refine xr_iload C d_Mo_read_158 160 rfl rfl ?_
      refine xr_iload_n C d_Mo_read_160 161 rfl rfl ?_
      refine xr_iload C d_Mo_read_161 163 rfl rfl ?_
      refine xr_isub C d_Mo_read_163 164 rfl ?_
      refine xr_toi (show _ = nI (S.1.length - k) from pk_sub (a := S.1.length) (b := k) (by omega)) ?_
      refine xr_callV C (c_Mo_seek hA (f := k) (n := S.1.length - k) (hT1.fr hz13 (by decide)) (by omega) (by omega)) k_Mo_seek d_Mo_read_164 167 rfl (mX_o hA) rfl (Or.inl q_1068) v_Mo_seek e_Mo_seek h_Mo_seek rfl ⟨Nat.le_of_ble_eq_true rfl, Nat.le_of_ble_eq_true rfl, Nat.le_of_ble_eq_true rfl⟩ (by omega) (by omega) (fun v9 X9 hP => ?_) (fun _ _ h => absurd h.1 (by simp))
      obtain ⟨h1, z4, rfl, h5, h6⟩ := hP
      cases h1
      rw [show k + (S.1.length - k) = S.1.length by omega] at h5
      have hz14 : mFr Kq z1 z4 := hz13.trans (h6.mono (by decide))
      have hE4 := hs2.fr hz14 (by decide)
      have hto4 : tol z4 [] := hto3.fr h6 (by decide)
      obtain ⟨j2, hj2⟩ : ∃ j2, j2 = fnb (S.2.1 i).2.1 (sl S.1 k S.1.length) := ⟨_, rfl⟩
      have hfl2 := fnb_le (sl S.1 k S.1.length) (S.2.1 i).2.1
      rw [← hj2] at hfl2
      have hlk : lookF w (S.2.1 i).2.1 S.1 = num (nI (j2 - j)) 2 := by
        unfold lookF
        rw [if_neg (by omega), if_pos (by omega), ← hk8, ← hj2, ← hj]
      have t190 : ∀ b : Int32, b = nI (j2 - j) → xG E (mX E.D X0 A z4) 0 0 190 [some (.ref (A 0)), some (.int (nI i)), some (.int (nI w)), some (.int (nI S.1.length)), some (.int (nI p)), some (.int (nI k)), some (.int (nI j)), some (.int (nI (128 * i + j))), some (.int (nI j2)), none] [.int b] := by
        intro b hb
        rw [hb]
        refine xr_istore C d_Mo_read_190 192 rfl rfl rfl ?_
        refine xr_aload_n C d_Mo_read_192 193 rfl rfl ?_
        refine xr_iload C d_Mo_read_193 195 rfl rfl ?_
        refine xr_sipush (v := 256) C d_Mo_read_195 198 rfl (by decide) ?_
        refine xr_irem C d_Mo_read_198 199 rfl (by decide) ?_
        refine xr_toi (show _ = nI ((j2 - j) % 256) from pk_rem (a := (j2 - j)) (d := 256) (by omega) (by omega) (by omega)) ?_
        refine xr_callV C (c_Mo_tell hA (b := nby (nI (j2 - j)) 0) hto4 (by rw [List.length_nil]; omega) ((by congr 1; omega : nI ((j2 - j) % 256) = nI ((j2 - j) / 2 ^ (8 * 0) % 256)).trans (nby_n (by omega) (by omega)))) k_Mo_tell d_Mo_read_199 202 rfl (mX_o hA) rfl (Or.inl q_1064) v_Mo_tell e_Mo_tell h_Mo_tell rfl ⟨Nat.le_of_ble_eq_true rfl, Nat.le_of_ble_eq_true rfl, Nat.le_of_ble_eq_true rfl⟩ (by omega) (by omega) (fun v9 X9 hP => ?_) (fun _ _ h => absurd h.1 (by simp))
        obtain ⟨h1, y1, rfl, g1, g2⟩ := hP
        cases h1
        refine xr_aload_n C d_Mo_read_202 203 rfl rfl ?_
        refine xr_iload C d_Mo_read_203 205 rfl rfl ?_
        refine xr_sipush (v := 256) C d_Mo_read_205 208 rfl (by decide) ?_
        refine xr_idiv C d_Mo_read_208 209 rfl (by decide) ?_
        refine xr_toi (show _ = nI ((j2 - j) / 256) from pk_div (a := (j2 - j)) (d := 256) (by omega) (by omega) (by omega)) ?_
        refine xr_callV C (c_Mo_tell hA (b := nby (nI (j2 - j)) 1) g1 (by simp only [List.length_append, List.length_nil, List.length_singleton]; omega) ((by congr 1; omega : nI ((j2 - j) / 256) = nI ((j2 - j) / 2 ^ (8 * 1) % 256)).trans (nby_n (by omega) (by omega)))) k_Mo_tell d_Mo_read_209 212 rfl (mX_o hA) rfl (Or.inl q_1064) v_Mo_tell e_Mo_tell h_Mo_tell rfl ⟨Nat.le_of_ble_eq_true rfl, Nat.le_of_ble_eq_true rfl, Nat.le_of_ble_eq_true rfl⟩ (by omega) (by omega) (fun v9 X9 hP => ?_) (fun _ _ h => absurd h.1 (by simp))
        obtain ⟨h1, y2, rfl, g3, g4⟩ := hP
        cases h1
        refine xr_goto C d_Mo_read_212 296 (by decide) ?_
        exact t296 y2 _ _ (hz14.trans ((g2.trans g4).mono (by decide))) g3 (by simp only [List.length_append, List.length_nil, List.length_singleton]; omega) (hlk.trans rfl)
      refine xr_aload_n C d_Mo_read_167 168 rfl rfl ?_
      refine xr_iload_n C d_Mo_read_168 169 rfl rfl ?_
      refine xr_callV C (c_Mo_below hA hi hE4 w2 h5 (by rw [sl_len (by omega)]; omega)) k_Mo_below d_Mo_read_169 172 rfl (mX_o hA) rfl (Or.inl q_1076) v_Mo_below e_Mo_below h_Mo_below rfl ⟨Nat.le_of_ble_eq_true rfl, Nat.le_of_ble_eq_true rfl, Nat.le_of_ble_eq_true rfl⟩ (by omega) (by omega) (fun v9 X9 hP => ?_) (fun _ _ h => absurd h.1 (by simp))
      obtain ⟨h1, rfl⟩ := hP
      cases h1
      rw [← hj2]
      refine xr_istore C d_Mo_read_172 174 rfl rfl rfl ?_
      refine xr_iload C d_Mo_read_174 176 rfl rfl ?_
      refine xr_iload C d_Mo_read_176 178 rfl rfl ?_
      refine xr_icmp_le C d_Mo_read_178 181 189 rfl (by decide) (fun h178 => ?_) (fun h178 => ?_)
      · have hle : j2 ≤ j := (nI_leI (by omega) (by omega)).mp h178
        refine xr_iconst (v := 0) C d_Mo_read_189 190 rfl (by decide) ?_
        exact t190 _ (by rw [show j2 - j = 0 by omega]; rfl)
      · have hle : j < j2 := by
          rcases Nat.lt_or_ge j j2 with h | h
          · exact h
          · exact absurd (nI_le h (by omega)) h178
        refine xr_iload C d_Mo_read_181 183 rfl rfl ?_
        refine xr_iload C d_Mo_read_183 185 rfl rfl ?_
        refine xr_isub C d_Mo_read_185 186 rfl ?_
        refine xr_toi (show _ = nI (j2 - j) from pk_sub (a := j2) (b := j) (by omega)) ?_
        refine xr_goto C d_Mo_read_186 190 (by decide) ?_
        exact t190 _ rfl
    have ep : p = 5 := by
      have : ¬ p = 4 := fun e => h154 (by rw [e])
      omega
    have hlk : lookF w (S.2.1 i).2.1 S.1 = nxK (S.2.1 i).2.1 (sl S.1 0 k) := by
      unfold lookF
      rw [if_neg (by omega), if_neg (by omega), ← hk8]
    refine xr_aload_n C d_Mo_read_215 216 rfl rfl ?_
    refine xr_iload C d_Mo_read_216 218 rfl rfl ?_
    refine xr_aload_n C d_Mo_read_218 219 rfl rfl ?_
    refine xr_get C K_Mo 8 d_Mo_read_219 222 rfl q_948 (Or.inl rfl) rfl (mX_o hA) rfl ?_
    refine xr_iload_n C d_Mo_read_222 223 rfl rfl ?_
    refine xr_iald (j := i) C d_Mo_read_223 224 rfl (mX_8 hA) rfl (by omega) (by omega) ?_
    refine xr_toi (show _ = nI ((S.2.1 i).2.1.length) from hE3.1) ?_
    refine xr_icmp_ge C d_Mo_read_224 227 231 rfl (by decide) (fun h224 => ?_) (fun h224 => ?_)
    · have hge : ¬ j < (S.2.1 i).2.1.length := fun q => nI_ge q (by omega) h224
      have hnx : nxK (S.2.1 i).2.1 (sl S.1 0 k) = [] ++ [0] := by
        unfold nxK
        rw [← hj, if_neg hge]
        rfl
      refine xr_iconst (v := 0) C d_Mo_read_231 232 rfl (by decide) ?_
      refine xr_callV C (c_Mo_tell hA (b := 0) hto3 (by rw [List.length_nil]; omega) (by decide)) k_Mo_tell d_Mo_read_232 235 rfl (mX_o hA) rfl (Or.inl q_1064) v_Mo_tell e_Mo_tell h_Mo_tell rfl ⟨Nat.le_of_ble_eq_true rfl, Nat.le_of_ble_eq_true rfl, Nat.le_of_ble_eq_true rfl⟩ (by omega) (by omega) (fun v9 X9 hP => ?_) (fun _ _ h => absurd h.1 (by simp))
      obtain ⟨h1, y1, rfl, g1, g2⟩ := hP
      cases h1
      refine xr_iload C d_Mo_read_235 237 rfl rfl ?_
      refine xr_aload_n C d_Mo_read_237 238 rfl rfl ?_
      refine xr_get C K_Mo 8 d_Mo_read_238 241 rfl q_948 (Or.inl rfl) rfl (mX_o hA) rfl ?_
      refine xr_iload_n C d_Mo_read_241 242 rfl rfl ?_
      refine xr_iald (j := i) C d_Mo_read_242 243 rfl (mX_8 hA) rfl (by omega) (by omega) ?_
      refine xr_toi (show _ = nI ((S.2.1 i).2.1.length) from (hE3.fr g2 (by decide)).1) ?_
      refine xr_icmp_ge C d_Mo_read_243 246 296 rfl (by decide) (fun _ => ?_) (fun h => absurd (nI_le (show (S.2.1 i).2.1.length ≤ j by omega) (by omega)) h)
      exact t296 y1 _ _ (hz13.trans (g2.mono (by decide))) g1 (by simp only [List.length_append, List.length_nil, List.length_singleton]; omega) (hlk.trans hnx)
    have hlt : j < (S.2.1 i).2.1.length := by
      rcases Nat.lt_or_ge j (S.2.1 i).2.1.length with h | h
      · exact h
      · exact absurd (nI_le h (by omega)) h224
    obtain ⟨e, hee⟩ : ∃ e, e = eD (S.2.1 i).2.1 j := ⟨_, rfl⟩
    have hnx : nxK (S.2.1 i).2.1 (sl S.1 0 k) = ([] ++ [1] ++ [nby (nI e.1.length) 0] ++ e.1) ++ e.2 := by
      unfold nxK
      rw [← hj, if_pos hlt, hee]
      rfl
    have hek := w2.2.2 _ (eD_mem hlt)
    rw [← hee] at hek
    have he1 := hek.2.1
    have he2 := hek.2.2
    have hsl := hE3.2 j hlt
    rw [← hee] at hsl
    refine xr_iconst (v := 1) C d_Mo_read_227 228 rfl (by decide) ?_
    refine xr_goto C d_Mo_read_228 232 (by decide) ?_
    refine xr_callV C (c_Mo_tell hA (b := 1) hto3 (by rw [List.length_nil]; omega) (by decide)) k_Mo_tell d_Mo_read_232 235 rfl (mX_o hA) rfl (Or.inl q_1064) v_Mo_tell e_Mo_tell h_Mo_tell rfl ⟨Nat.le_of_ble_eq_true rfl, Nat.le_of_ble_eq_true rfl, Nat.le_of_ble_eq_true rfl⟩ (by omega) (by omega) (fun v9 X9 hP => ?_) (fun _ _ h => absurd h.1 (by simp))
    obtain ⟨h1, y1, rfl, g1, g2⟩ := hP
    cases h1
    refine xr_iload C d_Mo_read_235 237 rfl rfl ?_
    refine xr_aload_n C d_Mo_read_237 238 rfl rfl ?_
    refine xr_get C K_Mo 8 d_Mo_read_238 241 rfl q_948 (Or.inl rfl) rfl (mX_o hA) rfl ?_
    refine xr_iload_n C d_Mo_read_241 242 rfl rfl ?_
    refine xr_iald (j := i) C d_Mo_read_242 243 rfl (mX_8 hA) rfl (by omega) (by omega) ?_
    refine xr_toi (show _ = nI ((S.2.1 i).2.1.length) from (hE3.fr g2 (by decide)).1) ?_
    refine xr_icmp_ge C d_Mo_read_243 246 296 rfl (by decide) (fun h => absurd h (nI_ge hlt (by omega))) (fun _ => ?_)
    refine xr_aload_n C d_Mo_read_246 247 rfl rfl ?_
    refine xr_aload_n C d_Mo_read_247 248 rfl rfl ?_
    refine xr_get C K_Mo 9 d_Mo_read_248 251 rfl q_949 (Or.inl rfl) rfl (mX_o hA) rfl ?_
    refine xr_iload C d_Mo_read_251 253 rfl rfl ?_
    refine xr_iald (j := (128 * i + j)) C d_Mo_read_253 254 rfl (mX_9 hA) rfl (by omega) (by omega) ?_
    refine xr_toi (show _ = nI e.1.length from (hsl.1.fr g2 (by decide) (by decide)).1) ?_
    refine xr_callV C (c_Mo_tell hA (b := nby (nI e.1.length) 0) g1 (by simp only [List.length_append, List.length_nil, List.length_singleton]; omega) ((by congr 1; omega : nI e.1.length = nI (e.1.length / 2 ^ (8 * 0) % 256)).trans (nby_n (by omega) (by omega)))) k_Mo_tell d_Mo_read_254 257 rfl (mX_o hA) rfl (Or.inl q_1064) v_Mo_tell e_Mo_tell h_Mo_tell rfl ⟨Nat.le_of_ble_eq_true rfl, Nat.le_of_ble_eq_true rfl, Nat.le_of_ble_eq_true rfl⟩ (by omega) (by omega) (fun v9 X9 hP => ?_) (fun _ _ h => absurd h.1 (by simp))
    obtain ⟨h1, y2, rfl, g3, g4⟩ := hP
    cases h1
    refine xr_iconst (v := 0) C d_Mo_read_257 258 rfl (by decide) ?_
    refine xr_istore C d_Mo_read_258 260 rfl rfl rfl ?_
    have loop : ∀ (r c : Nat) (y : MS), c + r = e.1.length → mFr [18, 19] z3 y → tol y ([] ++ [1] ++ [nby (nI e.1.length) 0] ++ e.1.take c) → xG E (mX E.D X0 A y) 0 0 260 [some (.ref (A 0)), some (.int (nI i)), some (.int (nI w)), some (.int (nI S.1.length)), some (.int (nI p)), some (.int (nI k)), some (.int (nI j)), some (.int (nI (128 * i + j))), some (.int (nI c)), none] [] := by
      intro r
      induction r with
      | zero =>
        intro c y hcr y1 y2
        have hky := hsl.1.fr y1 (by decide) (by decide)
        have hvy := hsl.2.fr y1 (by decide) (by decide)
        refine xr_iload C d_Mo_read_260 262 rfl rfl ?_
        refine xr_aload_n C d_Mo_read_262 263 rfl rfl ?_
        refine xr_get C K_Mo 9 d_Mo_read_263 266 rfl q_949 (Or.inl rfl) rfl (mX_o hA) rfl ?_
        refine xr_iload C d_Mo_read_266 268 rfl rfl ?_
        refine xr_iald (j := (128 * i + j)) C d_Mo_read_268 269 rfl (mX_9 hA) rfl (by omega) (by omega) ?_
        refine xr_toi (show _ = nI e.1.length from hky.1) ?_
        refine xr_icmp_ge C d_Mo_read_269 272 290 rfl (by decide) (fun _ => ?_) (fun h => absurd (nI_le (show e.1.length ≤ c by omega) (by omega)) h)
        rw [List.take_of_length_le (show e.1.length ≤ c by omega)] at y2
        refine xr_aload_n C d_Mo_read_290 291 rfl rfl ?_
        refine xr_iload C d_Mo_read_291 293 rfl rfl ?_
        refine xr_callV C (c_Mo_tellValue hA (by omega) hvy y2 (by simp only [List.length_append, List.length_nil, List.length_singleton]; omega) (by omega)) k_Mo_tellValue d_Mo_read_293 296 rfl (mX_o hA) rfl (Or.inl q_1088) v_Mo_tellValue e_Mo_tellValue h_Mo_tellValue rfl ⟨Nat.le_of_ble_eq_true rfl, Nat.le_of_ble_eq_true rfl, Nat.le_of_ble_eq_true rfl⟩ (by omega) (by omega) (fun v9 X9 hP => ?_) (fun _ _ h => absurd h.1 (by simp))
        obtain ⟨h1, y9, rfl, g5, g6⟩ := hP
        cases h1
        exact t296 y9 _ _ (hz13.trans ((y1.trans g6).mono (by decide))) g5 (by simp only [List.length_append, List.length_nil, List.length_singleton]; omega) (hlk.trans hnx)
      | succ r ih =>
        intro c y hcr y1 y2
        have hky := hsl.1.fr y1 (by decide) (by decide)
        have c1 : c < e.1.length := by omega
        refine xr_iload C d_Mo_read_260 262 rfl rfl ?_
        refine xr_aload_n C d_Mo_read_262 263 rfl rfl ?_
        refine xr_get C K_Mo 9 d_Mo_read_263 266 rfl q_949 (Or.inl rfl) rfl (mX_o hA) rfl ?_
        refine xr_iload C d_Mo_read_266 268 rfl rfl ?_
        refine xr_iald (j := (128 * i + j)) C d_Mo_read_268 269 rfl (mX_9 hA) rfl (by omega) (by omega) ?_
        refine xr_toi (show _ = nI e.1.length from hky.1) ?_
        refine xr_icmp_ge C d_Mo_read_269 272 290 rfl (by decide) (fun h => absurd h (nI_ge c1 (by omega))) (fun _ => ?_)
        refine xr_aload_n C d_Mo_read_272 273 rfl rfl ?_
        refine xr_aload_n C d_Mo_read_273 274 rfl rfl ?_
        refine xr_iload C d_Mo_read_274 276 rfl rfl ?_
        refine xr_iload C d_Mo_read_276 278 rfl rfl ?_
        refine xr_callV C (c_Mo_keyByte hA (by omega) hky (show c < 32 by omega)) k_Mo_keyByte d_Mo_read_278 281 rfl (mX_o hA) rfl (Or.inl q_1127) v_Mo_keyByte e_Mo_keyByte h_Mo_keyByte rfl ⟨Nat.le_of_ble_eq_true rfl, Nat.le_of_ble_eq_true rfl, Nat.le_of_ble_eq_true rfl⟩ (by omega) (by omega) (fun v9 X9 hP => ?_) (fun _ _ h => absurd h.1 (by simp))
        obtain ⟨h1, rfl⟩ := hP
        cases h1
        refine xr_callV C (c_Mo_tell hA (b := e.1.getD c 0) y2 (by simp only [List.length_append, List.length_nil, List.length_singleton, List.length_take]; omega) (by rw [u8_ub, pad_in c1])) k_Mo_tell d_Mo_read_281 284 rfl (mX_o hA) rfl (Or.inl q_1064) v_Mo_tell e_Mo_tell h_Mo_tell rfl ⟨Nat.le_of_ble_eq_true rfl, Nat.le_of_ble_eq_true rfl, Nat.le_of_ble_eq_true rfl⟩ (by omega) (by omega) (fun v9 X9 hP => ?_) (fun _ _ h => absurd h.1 (by simp))
        obtain ⟨h1, y9, rfl, g5, g6⟩ := hP
        cases h1
        refine xr_iinc (v := 1) C d_Mo_read_284 287 rfl rfl rfl rfl (by decide) ?_
        refine xr_goto C d_Mo_read_287 260 (by decide) ?_
        refine xG.eqL (show _ = [some (Value.ref (A 0)), some (Value.int (nI i)), some (Value.int (nI w)), some (Value.int (nI S.1.length)), some (Value.int (nI p)), some (Value.int (nI k)), some (Value.int (nI j)), some (Value.int (nI (128 * i + j))), some (Value.int (nI (c + 1))), none] by rw [← nI_one c]; rfl) ?_
        refine ih (c + 1) y9 (by omega) (y1.trans g6) ?_
        rw [takeg 0 c1, ← List.append_assoc]
        exact g5
    refine loop e.1.length 0 y2 (by omega) (g2.trans g4) ?_
    rw [List.take_zero, List.append_nil]
    exact g3
