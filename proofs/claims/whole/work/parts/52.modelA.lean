/-! The model's calls: run. -/
theorem rS_set {s s' : MS} {i j : Nat} {ss : List Ss} {x : Ss} (h : rS s i ss) (hok : okS ss) (hj : j < ss.length) (h1 : s'.2.1 1 i = s.2.1 1 i) (hk : ∀ q x, q ≠ 16 * i + j → x.2.2.2.2.length ≤ 104 → sSlot s q x → sSlot s' q x) (hn : sSlot s' (16 * i + j) x) : rS s' i (ss.set j x) := ⟨by rw [List.length_set]; exact h1.trans h.1, fun k hk2 => by
  rw [List.length_set] at hk2
  unfold sD
  rw [getDg_set hj]
  by_cases e : k = j
  · rw [if_pos e, e]
    exact hn
  · rw [if_neg e]
    exact hk _ _ (by omega) (hok.2 _ (sD_mem hk2)) (h.2 k hk2)⟩
theorem rS_oth {s s' : MS} {i j q : Nat} {ss : List Ss} (h : rS s q ss) (hok : okS ss) (hq : q ≠ i) (hj : j < 16) (h1 : s'.2.1 1 q = s.2.1 1 q) (hk : ∀ q x, q ≠ 16 * i + j → x.2.2.2.2.length ≤ 104 → sSlot s q x → sSlot s' q x) : rS s' q ss := ⟨h1.trans h.1, fun k hk2 => hk _ _ (by have := hok.1; omega) (hok.2 _ (sD_mem hk2)) (h.2 k hk2)⟩
set_option maxRecDepth 100000 in
set_option maxHeartbeats 4000000 in
theorem d_Mo_run {l : Launch} {D : va_G} {H0 : Heap} {X0 : xH} {A : Nat → Nat} {s : MS} (hA : mInj A) {S : St} (hR : mRel s S) (hW : wf S) (hV : inv2 S) {z p sn sr h : Int32} : xMet l D H0 y_Mo_run b_Mo_run 12 (some .int) [] 4 0 0 [.ref (A 0), .int z, .int p, .int sn, .int sr, .int h] (mX D X0 A s) (fun o X' => ∃ v : Int32, o = .inl (some (.int v)) ∧ ∃ s', X' = mX D X0 A s' ∧ s'.1 0 = nI (fRun S z p sn sr h).1 ∧ ((fRun S z p sn sr h).1 = 0 → v = (fRun S z p sn sr h).2.1) ∧ mRel s' (fRun S z p sn sr h).2.2) := by
  refine ⟨[some (.ref (A 0)), some (.int z), some (.int p), some (.int sn), some (.int sr), some (.int h), none, none, none, none, none, none], rfl, Nat.le_of_ble_eq_true rfl, fun E hD hH hl _ C => ?_⟩
  subst hD
  subst hH
  subst hl
  refine xr_aload_n C d_Mo_run_0 1 rfl rfl ?_
  refine xr_iconst (v := 0) C d_Mo_run_1 2 rfl (by decide) ?_
  refine xr_put C K_Mo 0 d_Mo_run_2 5 rfl q_940 (Or.inl rfl) rfl rfl rfl rfl (mX_o hA) rfl rfl ?_
  obtain ⟨z0, hz0⟩ : ∃ zz9, zz9 = setS s 0 (nI 0) := ⟨_, rfl⟩
  refine xG.eqX (show _ = mX E.D X0 A z0 from (mX_f0 (v := (nI 0)) hA).trans (by rw [hz0])) ?_
  refine xr_aload_n C d_Mo_run_5 6 rfl rfl ?_
  refine xr_get C K_Mo 14 d_Mo_run_6 9 rfl q_954 (Or.inl rfl) rfl (mX_o hA) rfl ?_
  refine xr_toi (show _ = nI S.1.length from (by rw [hz0]; exact hR.1)) ?_
  refine xr_istore C d_Mo_run_9 11 rfl rfl rfl ?_
  refine xr_aload_n C d_Mo_run_11 12 rfl rfl ?_
  refine xr_iconst (v := 0) C d_Mo_run_12 13 rfl (by decide) ?_
  refine xr_put C K_Mo 14 d_Mo_run_13 16 rfl q_954 (Or.inl rfl) rfl rfl rfl rfl (mX_o hA) rfl rfl ?_
  obtain ⟨z1, hz1⟩ : ∃ zz9, zz9 = setS z0 14 (nI 0) := ⟨_, rfl⟩
  refine xG.eqX (show _ = mX E.D X0 A z1 from (mX_f14 (v := (nI 0)) hA).trans (by rw [hz1])) ?_
  have hf1 : mFr [0, 14] s z1 := by rw [hz1, hz0]; exact (mFr_S (by decide)).trans (mFr_S (by decide))
  have ht1 : z1.1 0 = 0 := by rw [hz1, hz0]; rfl
  have hT1 : rT z1 S.1 := hR.2.1.fr hf1 (by decide)
  have hM1 : ∀ m, m < 2 → rS z1 m (S.2.1 m).1 ∧ rE z1 m (S.2.1 m).2.1 ∧ z1.2.1 13 m = (S.2.1 m).2.2 := fun m hm => ⟨(hR.2.2.1 m hm).1.fr hf1 (by decide), (hR.2.2.1 m hm).2.1.fr hf1 (by decide), by rw [(hf1 13 (by decide)).2.1]; exact (hR.2.2.1 m hm).2.2⟩
  have h14 : z1.1 14 = 0 := by rw [hz1]; rfl
  have hR1 : mRel z1 ([], S.2) := ⟨h14, ⟨Nat.zero_le _, fun i hi => absurd hi (Nat.not_lt_zero _)⟩, hM1, hR.2.2.2.1.fr hf1 (by decide), by rw [(hf1 20 (by decide)).1]; exact hR.2.2.2.2⟩
  have hT3 := hW.1.2
  have hTb := hW.1.1
  refine xr_iload_n C d_Mo_run_16 17 rfl rfl ?_
  refine xr_callS C (c_Mo_isMachine) k_Mo_isMachine d_Mo_run_17 20 rfl (Or.inl q_1032) s_Mo_isMachine in_Mo_isMachine h_Mo_isMachine rfl ⟨Nat.le_of_ble_eq_true rfl, Nat.le_of_ble_eq_true rfl, Nat.le_of_ble_eq_true rfl⟩ (by omega) (by omega) (fun v9 X9 hP => ?_) (fun _ _ h => absurd h.1 (by simp))
  obtain ⟨h1, rfl⟩ := hP
  cases h1
  rcases mach_ix z with hz | ⟨i, hi, rfl⟩
  · have hf : fRun S z p sn sr h = (1, 0, ([], S.2)) := if_neg (notM hz)
    rw [hf] at C
    refine xr_toi (if_neg (notM hz)) ?_
    refine xr_if_ne C d_Mo_run_20 23 29 rfl (by decide) (fun h => absurd rfl h) (fun _ => ?_)
    refine xr_aload_n C d_Mo_run_23 24 rfl rfl ?_
    refine xr_iconst (v := 1) C d_Mo_run_24 25 rfl (by decide) ?_
    refine xr_callV C (c_Mo_fail hA) k_Mo_fail d_Mo_run_25 28 rfl (mX_o hA) rfl (Or.inl q_1023) v_Mo_fail e_Mo_fail h_Mo_fail rfl ⟨Nat.le_of_ble_eq_true rfl, Nat.le_of_ble_eq_true rfl, Nat.le_of_ble_eq_true rfl⟩ (by omega) (by omega) (fun v9 X9 hP => ?_) (fun _ _ h => absurd h.1 (by simp))
    obtain ⟨h1, rfl⟩ := hP
    cases h1
    exact xr_iret C d_Mo_run_28 (by omega) (by omega) ⟨_, rfl, _, rfl, rfl, fun h => absurd h (show ¬ (1 : Nat) = 0 by decide), mRel_f hR1⟩
  · obtain ⟨hs1, hs2, hs3⟩ := hM1 i hi
    obtain ⟨w1, w2, w3, w4⟩ := hW.2 i hi
    have w1l := w1.1
    have w2l := w2.1
    have hfm : fRun S (nI i) p sn sr h = if ((S.2.1 i).2.2 < p ∧ p ≤ 1000000) ∧ 0 ≤ sr ∧ 0 ≤ h ∧ okOp (mIx h) S.1.length then
      if fsn (S.2.1 i).1 sn < (S.2.1 i).1.length then
        (0, (runAt (S.2.1 i) S.1 p sr (mIx h) (fsn (S.2.1 i).1 sn)).1, ([], upM S.2.1 i (runAt (S.2.1 i) S.1 p sr (mIx h) (fsn (S.2.1 i).1 sn)).2.1, (runAt (S.2.1 i) S.1 p sr (mIx h) (fsn (S.2.1 i).1 sn)).2.2.1, (runAt (S.2.1 i) S.1 p sr (mIx h) (fsn (S.2.1 i).1 sn)).2.2.2))
      else (0, 2, ([], upM S.2.1 i ((S.2.1 i).1, (S.2.1 i).2.1, p), [], p))
    else (2, 0, ([], S.2)) := by
      unfold fRun
      rw [if_pos (isM_of hi), mIx_nI (by omega)]
    have t91 : ¬ (((S.2.1 i).2.2 < p ∧ p ≤ 1000000) ∧ 0 ≤ sr ∧ 0 ≤ h ∧ okOp (mIx h) S.1.length) → ∀ Lr, xG E (mX E.D X0 A z1) 0 0 91 (some (.ref (A 0)) :: Lr) [] := by
      intro hn Lr
      rw [hfm, if_neg hn] at C
      refine xr_aload_n C d_Mo_run_91 92 rfl rfl ?_
      refine xr_iconst (v := 2) C d_Mo_run_92 93 rfl (by decide) ?_
      refine xr_callV C (c_Mo_fail hA) k_Mo_fail d_Mo_run_93 96 rfl (mX_o hA) rfl (Or.inl q_1023) v_Mo_fail e_Mo_fail h_Mo_fail rfl ⟨Nat.le_of_ble_eq_true rfl, Nat.le_of_ble_eq_true rfl, Nat.le_of_ble_eq_true rfl⟩ (by omega) (by omega) (fun v9 X9 hP => ?_) (fun _ _ h => absurd h.1 (by simp))
      obtain ⟨h1, rfl⟩ := hP
      cases h1
      exact xr_iret C d_Mo_run_96 (by omega) (by omega) ⟨_, rfl, _, rfl, rfl, fun h => absurd h (show ¬ (2 : Nat) = 0 by decide), mRel_f hR1⟩
    refine xr_toi (if_pos (isM_of hi)) ?_
    refine xr_if_ne C d_Mo_run_20 23 29 rfl (by decide) (fun _ => ?_) (fun h => absurd h (by decide))
    rcases nI_of_or h with hneg | ⟨w, hw, rfl⟩
    · refine xr_iload C d_Mo_run_29 31 rfl rfl ?_
      refine xr_bipush (v := 7) C d_Mo_run_31 33 rfl (by decide) ?_
      refine xr_iand C d_Mo_run_33 34 rfl ?_
      refine xr_istore C d_Mo_run_34 36 rfl rfl rfl ?_
      refine xr_iload C d_Mo_run_36 38 rfl rfl ?_
      refine xr_iconst (v := 3) C d_Mo_run_38 39 rfl (by decide) ?_
      refine xr_ishr C d_Mo_run_39 40 rfl ?_
      refine xr_bipush (v := 63) C d_Mo_run_40 42 rfl (by decide) ?_
      refine xr_iand C d_Mo_run_42 43 rfl ?_
      refine xr_istore C d_Mo_run_43 45 rfl rfl rfl ?_
      refine xr_iload C d_Mo_run_45 47 rfl rfl ?_
      refine xr_bipush (v := 9) C d_Mo_run_47 49 rfl (by decide) ?_
      refine xr_ishr C d_Mo_run_49 50 rfl ?_
      refine xr_istore C d_Mo_run_50 52 rfl rfl rfl ?_
      refine xr_aload_n C d_Mo_run_52 53 rfl rfl ?_
      refine xr_iload_n C d_Mo_run_53 54 rfl rfl ?_
      refine xr_iload_n C d_Mo_run_54 55 rfl rfl ?_
      refine xr_callV C (c_Mo_isNext hA hi) k_Mo_isNext d_Mo_run_55 58 rfl (mX_o hA) rfl (Or.inl q_1035) v_Mo_isNext e_Mo_isNext h_Mo_isNext rfl ⟨Nat.le_of_ble_eq_true rfl, Nat.le_of_ble_eq_true rfl, Nat.le_of_ble_eq_true rfl⟩ (by omega) (by omega) (fun v9 X9 hP => ?_) (fun _ _ h => absurd h.1 (by simp))
      obtain ⟨h1, rfl⟩ := hP
      cases h1
      by_cases hp : z1.2.1 13 i < p ∧ p ≤ 1000000
      · refine xr_toi (if_pos hp) ?_
        refine xr_if_eq C d_Mo_run_58 61 91 rfl (by decide) (fun h => absurd h (by decide)) (fun _ => ?_)
        refine xr_iload C d_Mo_run_61 63 rfl rfl ?_
        refine xr_if_lt C d_Mo_run_63 66 91 rfl (by decide) (fun q => t91 (fun c => absurd c.2.1 (Int32.not_le.mpr q)) _) (fun _ => ?_)
        refine xr_iload C d_Mo_run_66 68 rfl rfl ?_
        refine xr_if_lt C d_Mo_run_68 71 91 rfl (by decide) (fun _ => t91 (fun q => absurd q.2.2.1 (Int32.not_le.mpr hneg)) _) (fun q => absurd hneg q)
      · refine xr_toi (if_neg hp) ?_
        refine xr_if_eq C d_Mo_run_58 61 91 rfl (by decide) (fun _ => t91 (fun q => hp (by rw [hs3]; exact q.1)) _) (fun h => absurd rfl h)
    rw [mIx_nI hw] at hfm t91
    obtain ⟨k, hk⟩ : ∃ k, k = w / 8 % 64 := ⟨_, rfl⟩
    obtain ⟨c, hc⟩ : ∃ c, c = w % 8 := ⟨_, rfl⟩
    obtain ⟨x, hx⟩ : ∃ x, x = w / 512 := ⟨_, rfl⟩
    refine xr_iload C d_Mo_run_29 31 rfl rfl ?_
    refine xr_bipush (v := 7) C d_Mo_run_31 33 rfl (by decide) ?_
    refine xr_iand C d_Mo_run_33 34 rfl ?_
    refine xr_toi (show _ = nI c from (pk_andN (by omega) 3 (by decide)).trans (by rw [hc])) ?_
    refine xr_istore C d_Mo_run_34 36 rfl rfl rfl ?_
    refine xr_iload C d_Mo_run_36 38 rfl rfl ?_
    refine xr_iconst (v := 3) C d_Mo_run_38 39 rfl (by decide) ?_
    refine xr_ishr C d_Mo_run_39 40 rfl ?_
    refine xr_toi (show _ = nI (w / 8) from pk_shrN (by omega) _ 3 (by decide)) ?_
    refine xr_bipush (v := 63) C d_Mo_run_40 42 rfl (by decide) ?_
    refine xr_iand C d_Mo_run_42 43 rfl ?_
    refine xr_toi (show _ = nI k from (pk_andN (by omega) 6 (by decide)).trans (by rw [hk])) ?_
    refine xr_istore C d_Mo_run_43 45 rfl rfl rfl ?_
    refine xr_iload C d_Mo_run_45 47 rfl rfl ?_
    refine xr_bipush (v := 9) C d_Mo_run_47 49 rfl (by decide) ?_
    refine xr_ishr C d_Mo_run_49 50 rfl ?_
    refine xr_toi (show _ = nI x from (pk_shrN (by omega) _ 9 (by decide)).trans (by rw [hx])) ?_
    refine xr_istore C d_Mo_run_50 52 rfl rfl rfl ?_
    refine xr_aload_n C d_Mo_run_52 53 rfl rfl ?_
    refine xr_iload_n C d_Mo_run_53 54 rfl rfl ?_
    refine xr_iload_n C d_Mo_run_54 55 rfl rfl ?_
    refine xr_callV C (c_Mo_isNext hA hi) k_Mo_isNext d_Mo_run_55 58 rfl (mX_o hA) rfl (Or.inl q_1035) v_Mo_isNext e_Mo_isNext h_Mo_isNext rfl ⟨Nat.le_of_ble_eq_true rfl, Nat.le_of_ble_eq_true rfl, Nat.le_of_ble_eq_true rfl⟩ (by omega) (by omega) (fun v9 X9 hP => ?_) (fun _ _ h => absurd h.1 (by simp))
    obtain ⟨h1, rfl⟩ := hP
    cases h1
    rw [hs3]
    by_cases hp : (S.2.1 i).2.2 < p ∧ p ≤ 1000000
    rotate_left
    · refine xr_toi (if_neg hp) ?_
      refine xr_if_eq C d_Mo_run_58 61 91 rfl (by decide) (fun _ => t91 (fun q => hp q.1) _) (fun h => absurd rfl h)
    refine xr_toi (if_pos hp) ?_
    refine xr_if_eq C d_Mo_run_58 61 91 rfl (by decide) (fun h => absurd h (by decide)) (fun _ => ?_)
    refine xr_iload C d_Mo_run_61 63 rfl rfl ?_
    refine xr_if_lt C d_Mo_run_63 66 91 rfl (by decide) (fun q => t91 (fun c => absurd c.2.1 (Int32.not_le.mpr q)) _) (fun hsr => ?_)
    refine xr_iload C d_Mo_run_66 68 rfl rfl ?_
    refine xr_if_lt C d_Mo_run_68 71 91 rfl (by decide) (fun h => absurd h (nI_pos (by omega))) (fun _ => ?_)
    refine xr_iload C d_Mo_run_71 73 rfl rfl ?_
    refine xr_iconst (v := 2) C d_Mo_run_73 74 rfl (by decide) ?_
    refine xr_toi (show _ = nI 2 from rfl) ?_
    refine xr_icmp_gt C d_Mo_run_74 77 91 rfl (by decide) (fun h => t91 (fun q => nI_nlt (show c ≤ 2 by have := q.2.2.2.1; omega) (by omega) h) _) (fun h74 => ?_)
    have c2 : c ≤ 2 := by
      rcases Nat.lt_or_ge 2 c with h | h
      · exact absurd (nI_lt h (by omega)) h74
      · exact h
    have hfr := fit_op (s := w) (n := S.1.length) (by omega)
    rw [← hc, ← hk, ← hx] at hfr
    refine xr_iload C d_Mo_run_77 79 rfl rfl ?_
    refine xr_iload C d_Mo_run_79 81 rfl rfl ?_
    refine xr_iload C d_Mo_run_81 83 rfl rfl ?_
    refine xr_iload C d_Mo_run_83 85 rfl rfl ?_
    refine xr_callS C (c_Mo_fits (p := c) (k := k) (v := x) (n := S.1.length) (by omega) (by omega) (by omega) hT3) k_Mo_fits d_Mo_run_85 88 rfl (Or.inl q_1048) s_Mo_fits in_Mo_fits h_Mo_fits rfl ⟨Nat.le_of_ble_eq_true rfl, Nat.le_of_ble_eq_true rfl, Nat.le_of_ble_eq_true rfl⟩ (by omega) (by omega) (fun v9 X9 hP => ?_) (fun _ _ h => absurd h.1 (by simp))
    obtain ⟨h1, rfl⟩ := hP
    cases h1
    by_cases hop : okOp w S.1.length
    rotate_left
    · refine xr_toi (if_neg (fun q => hop (hfr.mp q))) ?_
      refine xr_if_ne C d_Mo_run_88 91 97 rfl (by decide) (fun h => absurd rfl h) (fun _ => t91 (fun q => hop q.2.2.2) _)
    refine xr_toi (if_pos (hfr.mpr hop)) ?_
    rw [if_pos ⟨hp, Int32.not_lt.mp hsr, nI_pos' hw, hop⟩] at hfm
    obtain ⟨⟨k1, k2⟩, k3, k4, k5, k6⟩ := hfr.mpr hop
    refine xr_if_ne C d_Mo_run_88 91 97 rfl (by decide) (fun _ => ?_) (fun h => absurd h (by decide))
    refine xr_aload_n C d_Mo_run_97 98 rfl rfl ?_
    refine xr_get C K_Mo 13 d_Mo_run_98 101 rfl q_953 (Or.inl rfl) rfl (mX_o hA) rfl ?_
    refine xr_iload_n C d_Mo_run_101 102 rfl rfl ?_
    refine xr_iload_n C d_Mo_run_102 103 rfl rfl ?_
    refine xr_iast (j := i) C d_Mo_run_103 104 rfl (mX_13 hA) rfl (by omega) (by omega) ?_
    obtain ⟨z2, hz2⟩ : ∃ zz9, zz9 = setI z1 13 i (p) := ⟨_, rfl⟩
    refine xG.eqX (show _ = mX E.D X0 A z2 from (mX_s13 (v := (p)) hA).trans (by rw [hz2])) ?_
    refine xr_aload_n C d_Mo_run_104 105 rfl rfl ?_
    refine xr_iload_n C d_Mo_run_105 106 rfl rfl ?_
    refine xr_put C K_Mo 20 d_Mo_run_106 109 rfl q_960 (Or.inl rfl) rfl rfl rfl rfl (mX_o hA) rfl rfl ?_
    obtain ⟨z3, hz3⟩ : ∃ zz9, zz9 = setS z2 20 (p) := ⟨_, rfl⟩
    refine xG.eqX (show _ = mX E.D X0 A z3 from (mX_f20 (v := (p)) hA).trans (by rw [hz3])) ?_
    refine xr_aload_n C d_Mo_run_109 110 rfl rfl ?_
    refine xr_iconst (v := 0) C d_Mo_run_110 111 rfl (by decide) ?_
    refine xr_put C K_Mo 18 d_Mo_run_111 114 rfl q_958 (Or.inl rfl) rfl rfl rfl rfl (mX_o hA) rfl rfl ?_
    obtain ⟨z4, hz4⟩ : ∃ zz9, zz9 = setS z3 18 (nI 0) := ⟨_, rfl⟩
    refine xG.eqX (show _ = mX E.D X0 A z4 from (mX_f18 (v := (nI 0)) hA).trans (by rw [hz4])) ?_
    refine xr_aload_n C d_Mo_run_114 115 rfl rfl ?_
    refine xr_iload_n C d_Mo_run_115 116 rfl rfl ?_
    refine xr_iload_n C d_Mo_run_116 117 rfl rfl ?_
    have hf4 : mFr [13, 18, 20] z1 z4 := by rw [hz4, hz3, hz2]; exact ((mFr_I (by decide)).trans (mFr_S (by decide))).trans (mFr_S (by decide))
    have h134 : z4.2.1 13 i = p := by rw [hz4, hz3, hz2]; show (setI z1 13 i p).2.1 13 i = p; rw [setI_I, if_pos ⟨rfl, rfl⟩]
    have h13o : ∀ q, q ≠ i → z4.2.1 13 q = z1.2.1 13 q := fun q hq => by rw [hz4, hz3, hz2]; show (setI z1 13 i p).2.1 13 q = _; rw [setI_I, if_neg (fun e => hq e.2)]
    have h204 : z4.1 20 = p := by rw [hz4, hz3]; rfl
    have hto4 : tol z4 [] := tol_z hz4
    clear hz4 hz3 hz2
    have hS4 := hs1.fr hf4 (by decide)
    have hE4 := hs2.fr hf4 (by decide)
    have hT4 := hT1.fr hf4 (by decide)
    /- how a call ends: state y with the answer ans -/
    have fin : ∀ (y : MS) (ans : List Int32) (m' : Mc) (pl v : Int32) (pc pc2 : Nat) (Lr : List (Option Value)), True → mFr [1, 2, 3, 4, 5, 6, 7, 8, 9, 10, 11, 12, 16, 17, 18, 19, 20, 21, 22] z4 y → rS y i m'.1 → rE y i m'.2.1 → m'.2.2 = p → (∀ q, q < 2 → q ≠ i → rS y q (S.2.1 q).1 ∧ rE y q (S.2.1 q).2.1) → rR y ans → y.1 20 = pl → mRel y ([], upM S.2.1 i m', ans, pl) ∧ y.1 0 = 0 := by
      intro y ans m' pl v pc pc2 Lr _ y1 y2 y3 y4 y5 y6 y7
      refine ⟨⟨by rw [(y1 14 (by decide)).1, (hf4 14 (by decide)).1]; exact h14, ⟨Nat.zero_le _, fun i hi => absurd hi (Nat.not_lt_zero _)⟩, fun q hq => ?_, y6, y7⟩, by rw [(y1 0 (by decide)).1, (hf4 0 (by decide)).1]; exact ht1⟩
      by_cases e : q = i
      · subst e
        show rS y q (upM S.2.1 q m' q).1 ∧ rE y q (upM S.2.1 q m' q).2.1 ∧ _ = (upM S.2.1 q m' q).2.2
        rw [upM_self]
        exact ⟨y2, y3, by rw [(y1 13 (by decide)).2.1, h134, y4]⟩
      · show rS y q (upM S.2.1 i m' q).1 ∧ rE y q (upM S.2.1 i m' q).2.1 ∧ _ = (upM S.2.1 i m' q).2.2
        rw [upM_ne e]
        exact ⟨(y5 q hq e).1, (y5 q hq e).2, by rw [(y1 13 (by decide)).2.1, h13o q e]; exact (hM1 q hq).2.2⟩
    have oth4 : ∀ q, q < 2 → q ≠ i → rS z4 q (S.2.1 q).1 ∧ rE z4 q (S.2.1 q).2.1 := fun q hq _ => ⟨(hM1 q hq).1.fr hf4 (by decide), (hM1 q hq).2.1.fr hf4 (by decide)⟩
    refine xr_callV C (c_Mo_find hA hi hS4 w1l (hV.1 i hi)) k_Mo_find d_Mo_run_117 120 rfl (mX_o hA) rfl (Or.inl q_1051) v_Mo_find e_Mo_find h_Mo_find rfl ⟨Nat.le_of_ble_eq_true rfl, Nat.le_of_ble_eq_true rfl, Nat.le_of_ble_eq_true rfl⟩ (by omega) (by omega) (fun v9 X9 hP => ?_) (fun _ _ h => absurd h.1 (by simp))
    obtain ⟨h1, rfl⟩ := hP
    cases h1
    by_cases hj : fsn (S.2.1 i).1 sn < (S.2.1 i).1.length
    rotate_left
    · rw [hfm, if_neg hj] at C
      refine xr_toi (if_neg hj) ?_
      refine xr_istore C d_Mo_run_120 122 rfl rfl rfl ?_
      refine xr_iload C d_Mo_run_122 124 rfl rfl ?_
      refine xr_if_ge C d_Mo_run_124 127 133 rfl (by decide) (fun h => absurd h (by decide)) (fun _ => ?_)
      refine xr_aload_n C d_Mo_run_127 128 rfl rfl ?_
      refine xr_callV C (c_Mo_show hA hto4 (by rw [List.length_nil]; omega)) k_Mo_show d_Mo_run_128 131 rfl (mX_o hA) rfl (Or.inl q_1055) v_Mo_show e_Mo_show h_Mo_show rfl ⟨Nat.le_of_ble_eq_true rfl, Nat.le_of_ble_eq_true rfl, Nat.le_of_ble_eq_true rfl⟩ (by omega) (by omega) (fun v9 X9 hP => ?_) (fun _ _ h => absurd h.1 (by simp))
      obtain ⟨h1, y, rfl, g1, g2⟩ := hP
      cases h1
      refine xr_iconst (v := 2) C d_Mo_run_131 132 rfl (by decide) ?_
      have hfi := fin y [] ((S.2.1 i).1, (S.2.1 i).2.1, p) p 2 0 0 [] trivial (g2.mono (by decide)) (hS4.fr g2 (by decide)) (hE4.fr g2 (by decide)) rfl (fun q hq hne => ⟨(oth4 q hq hne).1.fr g2 (by decide), (oth4 q hq hne).2.fr g2 (by decide)⟩) g1 (by rw [(g2 20 (by decide)).1]; exact h204)
      exact xr_iret C d_Mo_run_132 (by omega) (by omega) ⟨_, rfl, y, rfl, hfi.2, fun _ => rfl, hfi.1⟩
    refine xr_toi (if_pos hj) ?_
    obtain ⟨j, hjd⟩ : ∃ j, j = fsn (S.2.1 i).1 sn := ⟨_, rfl⟩
    rw [if_pos hj] at hfm
    rw [← hjd] at hfm ⊢
    have hj1 : j < (S.2.1 i).1.length := by omega
    obtain ⟨k0, hk0⟩ : ∃ k0, k0 = sD (S.2.1 i).1 j := ⟨_, rfl⟩
    have hkl := w1.2 _ (sD_mem hj1)
    rw [← hk0] at hkl
    have hsl4 := hS4.2 j hj1
    rw [← hk0] at hsl4
    have hkb := w4 _ (sD_mem hj1)
    rw [← hk0] at hkb
    refine xr_istore C d_Mo_run_120 122 rfl rfl rfl ?_
    refine xr_iload C d_Mo_run_122 124 rfl rfl ?_
    refine xr_if_ge C d_Mo_run_124 127 133 rfl (by decide) (fun _ => ?_) (fun h => absurd (nI_pos' (by omega)) h)
    refine xr_aload_n C d_Mo_run_133 134 rfl rfl ?_
    refine xr_get C K_Mo 3 d_Mo_run_134 137 rfl q_943 (Or.inl rfl) rfl (mX_o hA) rfl ?_
    refine xr_iload C d_Mo_run_137 139 rfl rfl ?_
    refine xr_iload_n C d_Mo_run_139 140 rfl rfl ?_
    refine xr_iast (j := (16 * i + j)) C d_Mo_run_140 141 rfl (mX_3 hA) rfl (by omega) (by omega) ?_
    obtain ⟨z5, hz5⟩ : ∃ zz9, zz9 = setI z4 3 (16 * i + j) (p) := ⟨_, rfl⟩
    refine xG.eqX (show _ = mX E.D X0 A z5 from (mX_s3 (v := (p)) hA).trans (by rw [hz5])) ?_
    have b3 : ∀ q, z5.2.1 3 q = if q = 16 * i + j then p else z4.2.1 3 q := by
      intro q
      rw [hz5, setI_I]
      by_cases e : q = 16 * i + j
      · rw [if_pos ⟨rfl, e⟩, if_pos e]
      · rw [if_neg (fun h => e h.2), if_neg e]
    have hf5 : mFr [3] z4 z5 := by rw [hz5]; exact mFr_I (by decide)
    have g5 : ∀ q, q ≠ 3 → z5.2.1 q = z4.2.1 q := fun q hq => (hf5 q (by simpa using hq)).2.1
    clear hz5
    obtain ⟨kn, hkn⟩ : ∃ kn : Ss, kn = (k0.1, p, k0.2.2.1, k0.2.2.2.1, k0.2.2.2.2) := ⟨_, rfl⟩
    have keep5 : ∀ q x, q ≠ 16 * i + j → x.2.2.2.2.length ≤ 104 → sSlot z4 q x → sSlot z5 q x := by
      intro q x hq _ hx
      obtain ⟨a1, a2, a3, a4, a5, a6⟩ := hx
      exact ⟨by rw [g5 2 (by decide)]; exact a1, by rw [b3, if_neg hq]; exact a2, by rw [g5 4 (by decide)]; exact a3, by rw [g5 5 (by decide)]; exact a4, by rw [g5 6 (by decide)]; exact a5, fun k hk => by rw [g5 7 (by decide)]; exact a6 k hk⟩
    have hsl5 : sSlot z5 (16 * i + j) kn := by
      obtain ⟨a1, a2, a3, a4, a5, a6⟩ := hsl4
      rw [hkn]
      exact ⟨by rw [g5 2 (by decide)]; exact a1, by rw [b3, if_pos rfl], by rw [g5 4 (by decide)]; exact a3, by rw [g5 5 (by decide)]; exact a4, by rw [g5 6 (by decide)]; exact a5, fun k hk => by rw [g5 7 (by decide)]; exact a6 k hk⟩
    have hS5 : rS z5 i ((S.2.1 i).1.set j kn) := rS_set hS4 w1 hj1 (by rw [g5 1 (by decide)]) keep5 hsl5
    have hE5 := hE4.fr hf5 (by decide)
    have hT5 := hT4.fr hf5 (by decide)
    have hto5 := hto4.fr hf5 (by decide)
    have h205 : z5.1 20 = p := by rw [(hf5 20 (by decide)).1]; exact h204
    have oth5 : ∀ q, q < 2 → q ≠ i → rS z5 q (S.2.1 q).1 ∧ rE z5 q (S.2.1 q).2.1 := fun q hq hne => ⟨rS_oth (oth4 q hq hne).1 (hW.2 q hq).1 hne (by omega) (by rw [g5 1 (by decide)]) keep5, (oth4 q hq hne).2.fr hf5 (by decide)⟩
    have s4 : z5.2.1 4 (16 * i + j) = k0.2.2.1 := by have := hsl5.2.2.1; rw [hkn] at this; exact this
    have s5 : z5.2.1 5 (16 * i + j) = k0.2.2.2.1 := by have := hsl5.2.2.2.1; rw [hkn] at this; exact this
    have s6 : z5.2.1 6 (16 * i + j) = nI k0.2.2.2.2.length := by have := hsl5.2.2.2.2.1; rw [hkn] at this; exact this
    have s7 : ∀ q, q < k0.2.2.2.2.length → z5.2.1 7 (104 * (16 * i + j) + q) = u8 (k0.2.2.2.2.getD q 0) := by have := hsl5.2.2.2.2.2; rw [hkn] at this; exact this
    refine xr_iload C d_Mo_run_141 143 rfl rfl ?_
    refine xr_aload_n C d_Mo_run_143 144 rfl rfl ?_
    refine xr_get C K_Mo 4 d_Mo_run_144 147 rfl q_944 (Or.inl rfl) rfl (mX_o hA) rfl ?_
    refine xr_iload C d_Mo_run_147 149 rfl rfl ?_
    refine xr_iald (j := (16 * i + j)) C d_Mo_run_149 150 rfl (mX_4 hA) rfl (by omega) (by omega) ?_
    refine xr_toi (show _ = k0.2.2.1 from s4) ?_
    refine xr_icmp_ge C d_Mo_run_150 153 159 rfl (by decide) (fun h150 => ?_) (fun h150 => ?_)
    rotate_left
    · have hlt : sr < k0.2.2.1 := Int32.not_le.mp h150
      have hra : runAt (S.2.1 i) S.1 p sr w j = (3, ((S.2.1 i).1.set j kn, (S.2.1 i).2.1, p), [], p) := by
        unfold runAt
        rw [← hk0, if_pos hlt, hkn]
      rw [hfm, hra] at C
      refine xr_aload_n C d_Mo_run_153 154 rfl rfl ?_
      refine xr_callV C (c_Mo_show hA hto5 (by rw [List.length_nil]; omega)) k_Mo_show d_Mo_run_154 157 rfl (mX_o hA) rfl (Or.inl q_1055) v_Mo_show e_Mo_show h_Mo_show rfl ⟨Nat.le_of_ble_eq_true rfl, Nat.le_of_ble_eq_true rfl, Nat.le_of_ble_eq_true rfl⟩ (by omega) (by omega) (fun v9 X9 hP => ?_) (fun _ _ h => absurd h.1 (by simp))
      obtain ⟨h1, y, rfl, g1, g2⟩ := hP
      cases h1
      refine xr_iconst (v := 3) C d_Mo_run_157 158 rfl (by decide) ?_
      have hfi := fin y [] ((S.2.1 i).1.set j kn, (S.2.1 i).2.1, p) p 3 0 0 [] trivial ((hf5.mono (by decide)).trans (g2.mono (by decide))) (hS5.fr g2 (by decide)) (hE5.fr g2 (by decide)) rfl (fun q hq hne => ⟨(oth5 q hq hne).1.fr g2 (by decide), (oth5 q hq hne).2.fr g2 (by decide)⟩) g1 (by rw [(g2 20 (by decide)).1]; exact h205)
      exact xr_iret C d_Mo_run_158 (by omega) (by omega) ⟨_, rfl, y, rfl, hfi.2, fun _ => rfl, hfi.1⟩
    refine xr_iload C d_Mo_run_159 161 rfl rfl ?_
    refine xr_aload_n C d_Mo_run_161 162 rfl rfl ?_
    refine xr_get C K_Mo 4 d_Mo_run_162 165 rfl q_944 (Or.inl rfl) rfl (mX_o hA) rfl ?_
    refine xr_iload C d_Mo_run_165 167 rfl rfl ?_
    refine xr_iald (j := (16 * i + j)) C d_Mo_run_167 168 rfl (mX_4 hA) rfl (by omega) (by omega) ?_
    refine xr_toi (show _ = k0.2.2.1 from s4) ?_
    refine xr_icmp_ne C d_Mo_run_168 171 226 rfl (by decide) (fun h168 => ?_) (fun h168 => ?_)
    rotate_left
    · have hra : runAt (S.2.1 i) S.1 p sr w j = (1, ((S.2.1 i).1.set j kn, (S.2.1 i).2.1, p), k0.2.2.2.2, k0.2.2.2.1) := by
        unfold runAt
        rw [← hk0, if_neg (Int32.not_lt.mpr h150), if_pos h168, hkn]
      rw [hfm, hra] at C
      refine xr_aload_n C d_Mo_run_171 172 rfl rfl ?_
      refine xr_aload_n C d_Mo_run_172 173 rfl rfl ?_
      refine xr_get C K_Mo 5 d_Mo_run_173 176 rfl q_945 (Or.inl rfl) rfl (mX_o hA) rfl ?_
      refine xr_iload C d_Mo_run_176 178 rfl rfl ?_
      refine xr_iald (j := (16 * i + j)) C d_Mo_run_178 179 rfl (mX_5 hA) rfl (by omega) (by omega) ?_
      refine xr_toi (show _ = k0.2.2.2.1 from s5) ?_
      refine xr_put C K_Mo 20 d_Mo_run_179 182 rfl q_960 (Or.inl rfl) rfl rfl rfl rfl (mX_o hA) rfl rfl ?_
      obtain ⟨z6, hz6⟩ : ∃ zz9, zz9 = setS z5 20 (k0.2.2.2.1) := ⟨_, rfl⟩
      refine xG.eqX (show _ = mX E.D X0 A z6 from (mX_f20 (v := (k0.2.2.2.1)) hA).trans (by rw [hz6])) ?_
      refine xr_iconst (v := 0) C d_Mo_run_182 183 rfl (by decide) ?_
      refine xr_istore C d_Mo_run_183 185 rfl rfl rfl ?_
      have hf6 : mFr [20] z5 z6 := by rw [hz6]; exact mFr_S (by decide)
      have h206 : z6.1 20 = k0.2.2.2.1 := by rw [hz6]; rfl
      have loop : ∀ (r b : Nat) (y : MS), b + r = k0.2.2.2.2.length → mFr [18, 19] z6 y → tol y (k0.2.2.2.2.take b) → xG E (mX E.D X0 A y) 0 0 185 [some (.ref (A 0)), some (.int (nI i)), some (.int p), some (.int sn), some (.int sr), some (.int (nI w)), some (.int (nI S.1.length)), some (.int (nI c)), some (.int (nI k)), some (.int (nI x)), some (.int (nI (16 * i + j))), some (.int (nI b))] [] := by
        intro r
        induction r with
        | zero =>
          intro b y hb y1 y2
          have h6 : y.2.1 6 (16 * i + j) = nI k0.2.2.2.2.length := by rw [(y1 6 (by decide)).2.1, (hf6 6 (by decide)).2.1]; exact s6
          refine xr_iload C d_Mo_run_185 187 rfl rfl ?_
          refine xr_aload_n C d_Mo_run_187 188 rfl rfl ?_
          refine xr_get C K_Mo 6 d_Mo_run_188 191 rfl q_946 (Or.inl rfl) rfl (mX_o hA) rfl ?_
          refine xr_iload C d_Mo_run_191 193 rfl rfl ?_
          refine xr_iald (j := (16 * i + j)) C d_Mo_run_193 194 rfl (mX_6 hA) rfl (by omega) (by omega) ?_
          refine xr_toi (show _ = nI k0.2.2.2.2.length from h6) ?_
          refine xr_icmp_ge C d_Mo_run_194 197 220 rfl (by decide) (fun _ => ?_) (fun h => absurd (nI_le (show k0.2.2.2.2.length ≤ b by omega) (by omega)) h)
          rw [List.take_of_length_le (show k0.2.2.2.2.length ≤ b by omega)] at y2
          refine xr_aload_n C d_Mo_run_220 221 rfl rfl ?_
          refine xr_callV C (c_Mo_show hA y2 (by omega)) k_Mo_show d_Mo_run_221 224 rfl (mX_o hA) rfl (Or.inl q_1055) v_Mo_show e_Mo_show h_Mo_show rfl ⟨Nat.le_of_ble_eq_true rfl, Nat.le_of_ble_eq_true rfl, Nat.le_of_ble_eq_true rfl⟩ (by omega) (by omega) (fun v9 X9 hP => ?_) (fun _ _ h => absurd h.1 (by simp))
          obtain ⟨h1, y9, rfl, g1, g2⟩ := hP
          cases h1
          refine xr_iconst (v := 1) C d_Mo_run_224 225 rfl (by decide) ?_
          have hq5 : mFr [18, 19, 20, 21, 22] z5 y9 := ((hf6.mono (by decide)).trans (y1.mono (by decide))).trans (g2.mono (by decide))
          have hfi := fin y9 k0.2.2.2.2 ((S.2.1 i).1.set j kn, (S.2.1 i).2.1, p) k0.2.2.2.1 1 0 0 [] trivial ((hf5.mono (by decide)).trans (hq5.mono (by decide))) (hS5.fr hq5 (by decide)) (hE5.fr hq5 (by decide)) rfl (fun q hq hne => ⟨(oth5 q hq hne).1.fr hq5 (by decide), (oth5 q hq hne).2.fr hq5 (by decide)⟩) g1 (by rw [(g2 20 (by decide)).1, (y1 20 (by decide)).1]; exact h206)
          exact xr_iret C d_Mo_run_225 (by omega) (by omega) ⟨_, rfl, y9, rfl, hfi.2, fun _ => rfl, hfi.1⟩
        | succ r ih =>
          intro b y hb y1 y2
          have b1 : b < k0.2.2.2.2.length := by omega
          have h6 : y.2.1 6 (16 * i + j) = nI k0.2.2.2.2.length := by rw [(y1 6 (by decide)).2.1, (hf6 6 (by decide)).2.1]; exact s6
          have h7 : y.2.1 7 (104 * (16 * i + j) + b) = u8 (k0.2.2.2.2.getD b 0) := by rw [(y1 7 (by decide)).2.1, (hf6 7 (by decide)).2.1]; exact s7 b b1
          refine xr_iload C d_Mo_run_185 187 rfl rfl ?_
          refine xr_aload_n C d_Mo_run_187 188 rfl rfl ?_
          refine xr_get C K_Mo 6 d_Mo_run_188 191 rfl q_946 (Or.inl rfl) rfl (mX_o hA) rfl ?_
          refine xr_iload C d_Mo_run_191 193 rfl rfl ?_
          refine xr_iald (j := (16 * i + j)) C d_Mo_run_193 194 rfl (mX_6 hA) rfl (by omega) (by omega) ?_
          refine xr_toi (show _ = nI k0.2.2.2.2.length from h6) ?_
          refine xr_icmp_ge C d_Mo_run_194 197 220 rfl (by decide) (fun h => absurd h (nI_ge b1 (by omega))) (fun _ => ?_)
          refine xr_aload_n C d_Mo_run_197 198 rfl rfl ?_
          refine xr_aload_n C d_Mo_run_198 199 rfl rfl ?_
          refine xr_get C K_Mo 7 d_Mo_run_199 202 rfl q_947 (Or.inl rfl) rfl (mX_o hA) rfl ?_
          refine xr_bipush (v := 104) C d_Mo_run_202 204 rfl (by decide) ?_
          refine xr_iload C d_Mo_run_204 206 rfl rfl ?_
          refine xr_imul C d_Mo_run_206 207 rfl ?_
          refine xr_toi (show _ = nI (104 * (16 * i + j)) from pk_mul 104 (16 * i + j)) ?_
          refine xr_iload C d_Mo_run_207 209 rfl rfl ?_
          refine xr_iadd C d_Mo_run_209 210 rfl ?_
          refine xr_toi (show _ = nI ((104 * (16 * i + j)) + b) from nI_add (104 * (16 * i + j)) b) ?_
          refine xr_iald (j := ((104 * (16 * i + j)) + b)) C d_Mo_run_210 211 rfl (mX_7 hA) rfl (by omega) (by omega) ?_
          refine xr_callV C (c_Mo_tell hA (b := k0.2.2.2.2.getD b 0) y2 (by rw [List.length_take]; omega) h7) k_Mo_tell d_Mo_run_211 214 rfl (mX_o hA) rfl (Or.inl q_1064) v_Mo_tell e_Mo_tell h_Mo_tell rfl ⟨Nat.le_of_ble_eq_true rfl, Nat.le_of_ble_eq_true rfl, Nat.le_of_ble_eq_true rfl⟩ (by omega) (by omega) (fun v9 X9 hP => ?_) (fun _ _ h => absurd h.1 (by simp))
          obtain ⟨h1, y9, rfl, g1, g2⟩ := hP
          cases h1
          refine xr_iinc (v := 1) C d_Mo_run_214 217 rfl rfl rfl rfl (by decide) ?_
          refine xr_goto C d_Mo_run_217 185 (by decide) ?_
          refine xG.eqL (show _ = [some (Value.ref (A 0)), some (Value.int (nI i)), some (Value.int p), some (Value.int sn), some (Value.int sr), some (Value.int (nI w)), some (Value.int (nI S.1.length)), some (Value.int (nI c)), some (Value.int (nI k)), some (Value.int (nI x)), some (Value.int (nI (16 * i + j))), some (Value.int (nI (b + 1)))] by rw [← nI_one b]; rfl) ?_
          refine ih (b + 1) y9 (by omega) (y1.trans g2) ?_
          rw [takeg 0 b1]
          exact g1
      exact loop k0.2.2.2.2.length 0 z6 (by omega) mFr.rf (by rw [List.take_zero]; exact hto5.fr hf6 (by decide))
    have hol := opF_len (s := w) (ts := S.1) w2.2.2
    obtain ⟨R, hRd⟩ : ∃ R, R = opF w (S.2.1 i).2.1 S.1 := ⟨_, rfl⟩
    rw [← hRd] at hol
    have hra : runAt (S.2.1 i) S.1 p sr w j = (0, ((S.2.1 i).1.set j (k0.1, p, sr, p, R.2), R.1, p), R.2, p) := by
      unfold runAt
      rw [← hk0, if_neg (Int32.not_lt.mpr h150), if_neg h168, hRd]
    rw [hfm, hra] at C
    have hkey : (sl S.1 0 k).length = k := by rw [sl_len (by omega)]; omega
    have hkyb : isbs (sl S.1 0 k) := isbs_sl hTb (by omega)
    refine xr_aload_n C d_Mo_run_226 227 rfl rfl ?_
    refine xr_iconst (v := 0) C d_Mo_run_227 228 rfl (by decide) ?_
    refine xr_iload C d_Mo_run_228 230 rfl rfl ?_
    refine xr_callV C (c_Mo_seek hA (f := 0) (n := k) hT5 (by omega) (by omega)) k_Mo_seek d_Mo_run_230 233 rfl (mX_o hA) rfl (Or.inl q_1068) v_Mo_seek e_Mo_seek h_Mo_seek rfl ⟨Nat.le_of_ble_eq_true rfl, Nat.le_of_ble_eq_true rfl, Nat.le_of_ble_eq_true rfl⟩ (by omega) (by omega) (fun v9 X9 hP => ?_) (fun _ _ h => absurd h.1 (by simp))
    obtain ⟨h1, z6, rfl, h3, h4⟩ := hP
    cases h1
    rw [Nat.zero_add] at h3
    have hE6 := hE5.fr h4 (by decide)
    have hT6 := hT5.fr h4 (by decide)
    have hto6 := hto5.fr h4 (by decide)
    have t284 : ∀ (y : MS), mFr Kall z6 y → tol y R.2 → rE y i R.1 → oth i z6 y → xG E (mX E.D X0 A y) 0 0 284 [some (.ref (A 0)), some (.int (nI i)), some (.int p), some (.int sn), some (.int sr), some (.int (nI w)), some (.int (nI S.1.length)), some (.int (nI c)), some (.int (nI k)), some (.int (nI x)), some (.int (nI (16 * i + j))), none] [] := by
      intro y y1 y2 y3 y4
      refine xr_aload_n C d_Mo_run_284 285 rfl rfl ?_
      refine xr_get C K_Mo 4 d_Mo_run_285 288 rfl q_944 (Or.inl rfl) rfl (mX_o hA) rfl ?_
      refine xr_iload C d_Mo_run_288 290 rfl rfl ?_
      refine xr_iload C d_Mo_run_290 292 rfl rfl ?_
      refine xr_iast (j := (16 * i + j)) C d_Mo_run_292 293 rfl (mX_4 hA) rfl (by omega) (by omega) ?_
      obtain ⟨y5, hy5⟩ : ∃ zz9, zz9 = setI y 4 (16 * i + j) (sr) := ⟨_, rfl⟩
      refine xG.eqX (show _ = mX E.D X0 A y5 from (mX_s4 (v := (sr)) hA).trans (by rw [hy5])) ?_
      refine xr_aload_n C d_Mo_run_293 294 rfl rfl ?_
      refine xr_get C K_Mo 5 d_Mo_run_294 297 rfl q_945 (Or.inl rfl) rfl (mX_o hA) rfl ?_
      refine xr_iload C d_Mo_run_297 299 rfl rfl ?_
      refine xr_iload_n C d_Mo_run_299 300 rfl rfl ?_
      refine xr_iast (j := (16 * i + j)) C d_Mo_run_300 301 rfl (mX_5 hA) rfl (by omega) (by omega) ?_
      obtain ⟨y6, hy6⟩ : ∃ zz9, zz9 = setI y5 5 (16 * i + j) (p) := ⟨_, rfl⟩
      refine xG.eqX (show _ = mX E.D X0 A y6 from (mX_s5 (v := (p)) hA).trans (by rw [hy6])) ?_
      refine xr_aload_n C d_Mo_run_301 302 rfl rfl ?_
      refine xr_get C K_Mo 6 d_Mo_run_302 305 rfl q_946 (Or.inl rfl) rfl (mX_o hA) rfl ?_
      refine xr_iload C d_Mo_run_305 307 rfl rfl ?_
      refine xr_aload_n C d_Mo_run_307 308 rfl rfl ?_
      refine xr_get C K_Mo 18 d_Mo_run_308 311 rfl q_958 (Or.inl rfl) rfl (mX_o hA) rfl ?_
      refine xr_toi (show _ = nI R.2.length from (show y6.1 18 = _ by rw [hy6, hy5]; exact y2.1)) ?_
      refine xr_iast (j := (16 * i + j)) C d_Mo_run_311 312 rfl (mX_6 hA) rfl (by omega) (by omega) ?_
      obtain ⟨y7, hy7⟩ : ∃ zz9, zz9 = setI y6 6 (16 * i + j) (nI R.2.length) := ⟨_, rfl⟩
      refine xG.eqX (show _ = mX E.D X0 A y7 from (mX_s6 (v := (nI R.2.length)) hA).trans (by rw [hy7])) ?_
      refine xr_iconst (v := 0) C d_Mo_run_312 313 rfl (by decide) ?_
      refine xr_istore C d_Mo_run_313 315 rfl rfl rfl ?_
      have d4 : ∀ q, y7.2.1 4 q = if q = 16 * i + j then sr else y.2.1 4 q := by
        intro q
        simp [hy7, hy6, hy5, setI_I]
      have d5 : ∀ q, y7.2.1 5 q = if q = 16 * i + j then p else y.2.1 5 q := by
        intro q
        simp [hy7, hy6, hy5, setI_I]
      have d6 : ∀ q, y7.2.1 6 q = if q = 16 * i + j then nI R.2.length else y.2.1 6 q := by
        intro q
        simp [hy7, hy6, hy5, setI_I]
      have hf7 : mFr [4, 5, 6] y y7 := by rw [hy7, hy6, hy5]; exact ((mFr_I (by decide)).trans (mFr_I (by decide))).trans (mFr_I (by decide))
      clear hy7 hy6 hy5
      have hto7 := y2.fr hf7 (by decide)
      have loop : ∀ (r b : Nat) (u : MS), b + r = R.2.length → mFr [7] y7 u → (∀ q, q < b → u.2.1 7 (104 * (16 * i + j) + q) = u8 (R.2.getD q 0)) → (∀ q, (q < 104 * (16 * i + j) ∨ 104 * (16 * i + j) + 104 ≤ q) → u.2.1 7 q = y.2.1 7 q) → xG E (mX E.D X0 A u) 0 0 315 [some (.ref (A 0)), some (.int (nI i)), some (.int p), some (.int sn), some (.int sr), some (.int (nI w)), some (.int (nI S.1.length)), some (.int (nI c)), some (.int (nI k)), some (.int (nI x)), some (.int (nI (16 * i + j))), some (.int (nI b))] [] := by
        intro r
        induction r with
        | zero =>
          intro b u hb u1 u2 u3
          have htu := hto7.fr u1 (by decide)
          refine xr_iload C d_Mo_run_315 317 rfl rfl ?_
          refine xr_aload_n C d_Mo_run_317 318 rfl rfl ?_
          refine xr_get C K_Mo 18 d_Mo_run_318 321 rfl q_958 (Or.inl rfl) rfl (mX_o hA) rfl ?_
          refine xr_toi (show _ = nI R.2.length from htu.1) ?_
          refine xr_icmp_ge C d_Mo_run_321 324 350 rfl (by decide) (fun _ => ?_) (fun h => absurd (nI_le (show R.2.length ≤ b by omega) (by omega)) h)
          refine xr_aload_n C d_Mo_run_350 351 rfl rfl ?_
          refine xr_callV C (c_Mo_show hA htu (by omega)) k_Mo_show d_Mo_run_351 354 rfl (mX_o hA) rfl (Or.inl q_1055) v_Mo_show e_Mo_show h_Mo_show rfl ⟨Nat.le_of_ble_eq_true rfl, Nat.le_of_ble_eq_true rfl, Nat.le_of_ble_eq_true rfl⟩ (by omega) (by omega) (fun v9 X9 hP => ?_) (fun _ _ h => absurd h.1 (by simp))
          obtain ⟨h1, u9, rfl, g1, g2⟩ := hP
          cases h1
          refine xr_iconst (v := 0) C d_Mo_run_354 355 rfl (by decide) ?_
          have e7 : ∀ a, a ≠ 7 → u.2.1 a = y7.2.1 a := fun a ha => (u1 a (by simpa using ha)).2.1
          have z5y : mFr [8, 9, 10, 11, 12, 16, 17, 18, 19] z5 y := (h4.mono (by decide)).trans (y1.mono (by decide))
          have hfu : mFr [4, 5, 6, 7] y u := (hf7.mono (by decide)).trans (u1.mono (by decide))
          have keepu : ∀ q x, q ≠ 16 * i + j → x.2.2.2.2.length ≤ 104 → sSlot z5 q x → sSlot u q x := by
            intro q x hq hxl hx0
            obtain ⟨a1, a2, a3, a4, a5, a6⟩ := hx0.fr z5y (by decide)
            exact ⟨by rw [(hfu 2 (by decide)).2.1]; exact a1, by rw [(hfu 3 (by decide)).2.1]; exact a2, by rw [e7 4 (by decide), d4, if_neg hq]; exact a3, by rw [e7 5 (by decide), d5, if_neg hq]; exact a4, by rw [e7 6 (by decide), d6, if_neg hq]; exact a5, fun k hk => by rw [u3 _ (by omega)]; exact a6 k hk⟩
          have hslu : sSlot u (16 * i + j) (k0.1, p, sr, p, R.2) := by
            have hh := hsl5.fr z5y (by decide)
            rw [hkn] at hh
            exact ⟨by rw [(hfu 2 (by decide)).2.1]; exact hh.1, by rw [(hfu 3 (by decide)).2.1]; exact hh.2.1, by rw [e7 4 (by decide), d4, if_pos rfl], by rw [e7 5 (by decide), d5, if_pos rfl], by rw [e7 6 (by decide), d6, if_pos rfl], fun k hk => u2 k (by have hk2 : k < R.2.length := hk; omega)⟩
          have h1u : ∀ q, u.2.1 1 q = z5.2.1 1 q := fun q => by rw [(hfu 1 (by decide)).2.1, (z5y 1 (by decide)).2.1]
          have hSu : rS u i ((S.2.1 i).1.set j (k0.1, p, sr, p, R.2)) := by
            have okset : okS ((S.2.1 i).1.set j kn) := ⟨by rw [List.length_set]; exact w1l, fun s hs => by
              rcases List.mem_or_eq_of_mem_set hs with h | h
              · exact w1.2 s h
              · rw [h, hkn]
                exact hkl⟩
            have hh := rS_set (x := (k0.1, p, sr, p, R.2)) hS5 okset (by rw [List.length_set]; exact hj1) (h1u i) keepu hslu
            rw [List.set_set] at hh
            exact hh
          have hEu : rE u i R.1 := y3.fr hfu (by decide)
          have othu : ∀ q, q < 2 → q ≠ i → rS u q (S.2.1 q).1 ∧ rE u q (S.2.1 q).2.1 := fun q hq hne => ⟨rS_oth (oth5 q hq hne).1 (hW.2 q hq).1 hne (by omega) (h1u q) keepu, (y4 q _ hq hne (hW.2 q hq).2.1.1 ((oth5 q hq hne).2.fr h4 (by decide))).fr hfu (by decide)⟩
          have hfA : mFr [1, 2, 3, 4, 5, 6, 7, 8, 9, 10, 11, 12, 16, 17, 18, 19, 20, 21, 22] z4 u9 := (((hf5.mono (by decide)).trans (z5y.mono (by decide))).trans (hfu.mono (by decide))).trans (g2.mono (by decide))
          have hfi := fin u9 R.2 ((S.2.1 i).1.set j (k0.1, p, sr, p, R.2), R.1, p) p 0 0 0 [] trivial hfA (hSu.fr g2 (by decide)) (hEu.fr g2 (by decide)) rfl (fun q hq hne => ⟨(othu q hq hne).1.fr g2 (by decide), (othu q hq hne).2.fr g2 (by decide)⟩) g1 (by rw [(g2 20 (by decide)).1, (hfu 20 (by decide)).1, (z5y 20 (by decide)).1]; exact h205)
          exact xr_iret C d_Mo_run_355 (by omega) (by omega) ⟨_, rfl, u9, rfl, hfi.2, fun _ => rfl, hfi.1⟩
        | succ r ih =>
          intro b u hb u1 u2 u3
          have htu := hto7.fr u1 (by decide)
          have b1 : b < R.2.length := by omega
          refine xr_iload C d_Mo_run_315 317 rfl rfl ?_
          refine xr_aload_n C d_Mo_run_317 318 rfl rfl ?_
          refine xr_get C K_Mo 18 d_Mo_run_318 321 rfl q_958 (Or.inl rfl) rfl (mX_o hA) rfl ?_
          refine xr_toi (show _ = nI R.2.length from htu.1) ?_
          refine xr_icmp_ge C d_Mo_run_321 324 350 rfl (by decide) (fun h => absurd h (nI_ge b1 (by omega))) (fun _ => ?_)
          refine xr_aload_n C d_Mo_run_324 325 rfl rfl ?_
          refine xr_get C K_Mo 7 d_Mo_run_325 328 rfl q_947 (Or.inl rfl) rfl (mX_o hA) rfl ?_
          refine xr_bipush (v := 104) C d_Mo_run_328 330 rfl (by decide) ?_
          refine xr_iload C d_Mo_run_330 332 rfl rfl ?_
          refine xr_imul C d_Mo_run_332 333 rfl ?_
          refine xr_toi (show _ = nI (104 * (16 * i + j)) from pk_mul 104 (16 * i + j)) ?_
          refine xr_iload C d_Mo_run_333 335 rfl rfl ?_
          refine xr_iadd C d_Mo_run_335 336 rfl ?_
          refine xr_toi (show _ = nI ((104 * (16 * i + j)) + b) from nI_add (104 * (16 * i + j)) b) ?_
          refine xr_aload_n C d_Mo_run_336 337 rfl rfl ?_
          refine xr_get C K_Mo 19 d_Mo_run_337 340 rfl q_959 (Or.inl rfl) rfl (mX_o hA) rfl ?_
          refine xr_iload C d_Mo_run_340 342 rfl rfl ?_
          refine xr_iald (j := b) C d_Mo_run_342 343 rfl (mX_19 hA) rfl (by omega) (by omega) ?_
          refine xr_toi (show _ = u8 (R.2.getD b 0) from htu.2 b b1) ?_
          refine xr_iast (j := ((104 * (16 * i + j)) + b)) C d_Mo_run_343 344 rfl (mX_7 hA) rfl (by omega) (by omega) ?_
          obtain ⟨u9, hu9⟩ : ∃ zz9, zz9 = setI u 7 ((104 * (16 * i + j)) + b) (u8 (R.2.getD b 0)) := ⟨_, rfl⟩
          refine xG.eqX (show _ = mX E.D X0 A u9 from (mX_s7 (v := (u8 (R.2.getD b 0))) hA).trans (by rw [hu9])) ?_
          refine xr_iinc (v := 1) C d_Mo_run_344 347 rfl rfl rfl rfl (by decide) ?_
          refine xr_goto C d_Mo_run_347 315 (by decide) ?_
          refine xG.eqL (show _ = [some (Value.ref (A 0)), some (Value.int (nI i)), some (Value.int p), some (Value.int sn), some (Value.int sr), some (Value.int (nI w)), some (Value.int (nI S.1.length)), some (Value.int (nI c)), some (Value.int (nI k)), some (Value.int (nI x)), some (Value.int (nI (16 * i + j))), some (Value.int (nI (b + 1)))] by rw [← nI_one b]; rfl) ?_
          refine ih (b + 1) u9 (by omega) (by rw [hu9]; exact u1.trans (mFr_I (by decide))) (fun q hq => ?_) (fun q hq => ?_)
          · rw [hu9, setI_I]
            by_cases e : q = b
            · rw [if_pos ⟨rfl, by omega⟩, e]
            · rw [if_neg (by omega)]
              exact u2 q (by omega)
          · rw [hu9, setI_I, if_neg (by omega)]
            exact u3 q hq
      exact loop R.2.length 0 y7 (by omega) mFr.rf (fun q hq => absurd hq (Nat.not_lt_zero _)) (fun q _ => by rw [(hf7 7 (by decide)).2.1])
    have hc012 : c = 0 ∨ c = 1 ∨ c = 2 := by omega
    refine xr_iload C d_Mo_run_233 235 rfl rfl ?_
    rcases hc012 with e | e | e
    · have hR0 : R = putK (S.2.1 i).2.1 (sl S.1 0 k) (sl S.1 k S.1.length) := by
        rw [hRd]
        unfold opF
        rw [if_pos (by omega), ← hk, ← hx, show k + x = k by omega]
      refine xr_if_ne C d_Mo_run_235 238 253 rfl (by decide) (fun h => absurd (by rw [e]; rfl) h) (fun _ => ?_)
      refine xr_aload_n C d_Mo_run_238 239 rfl rfl ?_
      refine xr_iload_n C d_Mo_run_239 240 rfl rfl ?_
      refine xr_iload C d_Mo_run_240 242 rfl rfl ?_
      refine xr_iload C d_Mo_run_242 244 rfl rfl ?_
      refine xr_iload C d_Mo_run_244 246 rfl rfl ?_
      refine xr_isub C d_Mo_run_246 247 rfl ?_
      refine xr_toi (show _ = nI (S.1.length - k) from pk_sub (a := S.1.length) (b := k) (by omega)) ?_
      refine xr_callV C (c_Mo_doPut hA (f := k) (n := S.1.length - k) hi hE6 w2 w3 h3 hkyb (by omega) hT6 (by omega) (by rw [if_pos (by omega)] at k6; omega) hto6) k_Mo_doPut d_Mo_run_247 250 rfl (mX_o hA) rfl (Or.inl q_1072) v_Mo_doPut e_Mo_doPut h_Mo_doPut rfl ⟨Nat.le_of_ble_eq_true rfl, Nat.le_of_ble_eq_true rfl, Nat.le_of_ble_eq_true rfl⟩ (by omega) (by omega) (fun v9 X9 hP => ?_) (fun _ _ h => absurd h.1 (by simp))
      obtain ⟨h1, y, rfl, a1, a2, a3, a4⟩ := hP
      cases h1
      refine xr_goto C d_Mo_run_250 284 (by decide) ?_
      rw [show k + (S.1.length - k) = S.1.length by omega, ← hR0] at a1 a3
      exact t284 y a2 a1 a3 a4
    · have hR0 : R = swapK (S.2.1 i).2.1 (sl S.1 0 k) (sl S.1 k (k + x)) (sl S.1 (k + x) S.1.length) := by
        rw [hRd]
        unfold opF
        rw [if_neg (by omega), if_pos (by omega), ← hk, ← hx]
      refine xr_if_ne C d_Mo_run_235 238 253 rfl (by decide) (fun _ => ?_) (fun h => absurd ((nI_eq (b := 0) (by omega) (by omega)).mp h) (by omega))
      refine xr_iload C d_Mo_run_253 255 rfl rfl ?_
      refine xr_iconst (v := 1) C d_Mo_run_255 256 rfl (by decide) ?_
      refine xr_toi (show _ = nI 1 from rfl) ?_
      refine xr_icmp_ne C d_Mo_run_256 259 279 rfl (by decide) (fun h => absurd (by rw [e]) h) (fun _ => ?_)
      refine xr_aload_n C d_Mo_run_259 260 rfl rfl ?_
      refine xr_iload_n C d_Mo_run_260 261 rfl rfl ?_
      refine xr_iload C d_Mo_run_261 263 rfl rfl ?_
      refine xr_iload C d_Mo_run_263 265 rfl rfl ?_
      refine xr_iload C d_Mo_run_265 267 rfl rfl ?_
      refine xr_iload C d_Mo_run_267 269 rfl rfl ?_
      refine xr_isub C d_Mo_run_269 270 rfl ?_
      refine xr_toi (show _ = nI (S.1.length - k) from pk_sub (a := S.1.length) (b := k) (by omega)) ?_
      refine xr_iload C d_Mo_run_270 272 rfl rfl ?_
      refine xr_isub C d_Mo_run_272 273 rfl ?_
      refine xr_toi (show _ = nI ((S.1.length - k) - x) from pk_sub (a := (S.1.length - k)) (b := x) (by omega)) ?_
      refine xr_callV C (c_Mo_doSwap hA (f := k) (x := x) (n := S.1.length - k - x) hi hE6 w2 w3 h3 hkyb (by omega) hT6 hTb (by omega) (by omega) (by rw [if_pos (by omega)] at k6; omega) hto6) k_Mo_doSwap d_Mo_run_273 276 rfl (mX_o hA) rfl (Or.inl q_1115) v_Mo_doSwap e_Mo_doSwap h_Mo_doSwap rfl ⟨Nat.le_of_ble_eq_true rfl, Nat.le_of_ble_eq_true rfl, Nat.le_of_ble_eq_true rfl⟩ (by omega) (by omega) (fun v9 X9 hP => ?_) (fun _ _ h => absurd h.1 (by simp))
      obtain ⟨h1, y, rfl, a1, a2, a3, a4⟩ := hP
      cases h1
      refine xr_goto C d_Mo_run_276 284 (by decide) ?_
      rw [show k + x + (S.1.length - k - x) = S.1.length by omega, ← hR0] at a1 a3
      exact t284 y a2 a1 a3 a4
    · have hR0 : R = remK (S.2.1 i).2.1 (sl S.1 0 k) := by
        rw [hRd]
        unfold opF
        rw [if_neg (by omega), if_neg (by omega), ← hk]
      refine xr_if_ne C d_Mo_run_235 238 253 rfl (by decide) (fun _ => ?_) (fun h => absurd ((nI_eq (b := 0) (by omega) (by omega)).mp h) (by omega))
      refine xr_iload C d_Mo_run_253 255 rfl rfl ?_
      refine xr_iconst (v := 1) C d_Mo_run_255 256 rfl (by decide) ?_
      refine xr_toi (show _ = nI 1 from rfl) ?_
      refine xr_icmp_ne C d_Mo_run_256 259 279 rfl (by decide) (fun _ => ?_) (fun h => absurd ((nI_eq (by omega) (by omega)).mp h) (by omega))
      refine xr_aload_n C d_Mo_run_279 280 rfl rfl ?_
      refine xr_iload_n C d_Mo_run_280 281 rfl rfl ?_
      refine xr_callV C (c_Mo_doRemove hA hi hE6 w2 w3 h3 hkyb (by omega) hto6) k_Mo_doRemove d_Mo_run_281 284 rfl (mX_o hA) rfl (Or.inl q_1119) v_Mo_doRemove e_Mo_doRemove h_Mo_doRemove rfl ⟨Nat.le_of_ble_eq_true rfl, Nat.le_of_ble_eq_true rfl, Nat.le_of_ble_eq_true rfl⟩ (by omega) (by omega) (fun v9 X9 hP => ?_) (fun _ _ h => absurd h.1 (by simp))
      obtain ⟨h1, y, rfl, a1, a2, a3, a4⟩ := hP
      cases h1
      rw [← hR0] at a1 a3
      exact t284 y a2 a1 a3 a4
